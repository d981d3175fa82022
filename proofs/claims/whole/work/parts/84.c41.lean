/-! ===== the law's run ===== -/
theorem rel_s {L : Nat} {xs : Int → Int} {N : Nat} {P : am_P} {H : am_H} (h : Rel L xs N P H) : H 0 0 = (L : Int) ∧ H 2 = xs := h.2.2.2.2.2.2.2
set_option maxRecDepth 20000 in
theorem lw_c0 {L : Nat} {xs : Int → Int} {N : Nat} {P : am_P} {H : am_H} {i : Int} (hL : L ≤ 3072) (hx : ∀ k, -2147483648 ≤ xs k ∧ xs k < 2147483648) (i0 : 0 ≤ i) (i1 : i + 6 ≤ (L : Int)) (hR : Rel L xs N P H) (hk : ∀ N2 P2 H2, Rel L xs N2 P2 H2 → am_WP (am_R 8) cd_CartLaw_law (fun v σ' => v = some (am_i 1) ∧ σ'.1 ≤ 188) 922 [some (am_r 2), some (am_r 3), some (am_r 53), some (am_i i)] [] (N2, P2, H2)) : am_WP (am_R 8) cd_CartLaw_law (fun v σ' => v = some (am_i 1) ∧ σ'.1 ≤ 188) 22 [some (am_r 2), some (am_r 3), some (am_r 53), some (am_i i)] [] (N, P, H) := by
  obtain ⟨s0, s2⟩ := rel_s hR
  have hx2 : ∀ k, -2147483648 ≤ H 2 k ∧ H 2 k < 2147483648 := fun k => by rw [s2]; exact hx k
  obtain ⟨v, N1, P1, H1, N2, P2, H2, hr, ⟨t0, t2⟩, hm, hR2⟩ := case_feed (L := L) (xs := xs) (a := H 2 (i + 1)) (b := H 2 (i + 2)) (c := H 2 (i + 3)) (e := H 2 (i + 4)) (f := H 2 (i + 5)) (hx2 (i + 1)) (hx2 (i + 2)) (hx2 (i + 3)) (hx2 (i + 4)) (hx2 (i + 5)) N P H hR
  have e2 : H1 2 = H 2 := by rw [t2, s2]
  rw [← e2] at hm
  refine st_aload_n rfl rfl (by decide) ?_
  refine st_aload_n rfl rfl (by decide) ?_
  refine st_iload_n rfl rfl ?_
  refine st_iconst rfl ?_
  refine st_iadd rfl (by omega) ?_
  refine st_iascr rfl (by omega) (by omega) ?_
  refine st_aload_n rfl rfl (by decide) ?_
  refine st_iload_n rfl rfl ?_
  refine st_iconst rfl ?_
  refine st_iadd rfl (by omega) ?_
  refine st_iascr rfl (by omega) (by omega) ?_
  refine st_aload_n rfl rfl (by decide) ?_
  refine st_iload_n rfl rfl ?_
  refine st_iconst rfl ?_
  refine st_iadd rfl (by omega) ?_
  refine st_iascr rfl (by omega) (by omega) ?_
  refine st_aload_n rfl rfl (by decide) ?_
  refine st_iload_n rfl rfl ?_
  refine st_iconst rfl ?_
  refine st_iadd rfl (by omega) ?_
  refine st_iascr rfl (by omega) (by omega) ?_
  refine st_aload_n rfl rfl (by decide) ?_
  refine st_iload_n rfl rfl ?_
  refine st_iconst rfl ?_
  refine st_iadd rfl (by omega) ?_
  refine st_iascr rfl (by omega) (by omega) ?_
  refine st_cv1 (w := []) rfl rfl rfl (Nat.le_of_ble_eq_true rfl) (Nat.le_of_ble_eq_true rfl) rfl rfl (hr) ?_
  refine st_aload_n rfl rfl (by decide) ?_
  refine st_aload_n rfl rfl (by decide) ?_
  refine st_iload_n rfl rfl ?_
  refine st_iconst rfl ?_
  refine st_iadd rfl (by omega) ?_
  refine st_iascr rfl (by omega) (by omega) ?_
  refine st_aload_n rfl rfl (by decide) ?_
  refine st_iload_n rfl rfl ?_
  refine st_iconst rfl ?_
  refine st_iadd rfl (by omega) ?_
  refine st_iascr rfl (by omega) (by omega) ?_
  refine st_aload_n rfl rfl (by decide) ?_
  refine st_iload_n rfl rfl ?_
  refine st_iconst rfl ?_
  refine st_iadd rfl (by omega) ?_
  refine st_iascr rfl (by omega) (by omega) ?_
  refine st_aload_n rfl rfl (by decide) ?_
  refine st_iload_n rfl rfl ?_
  refine st_iconst rfl ?_
  refine st_iadd rfl (by omega) ?_
  refine st_iascr rfl (by omega) (by omega) ?_
  refine st_aload_n rfl rfl (by decide) ?_
  refine st_iload_n rfl rfl ?_
  refine st_iconst rfl ?_
  refine st_iadd rfl (by omega) ?_
  refine st_iascr rfl (by omega) (by omega) ?_
  refine st_cv1 (w := [_]) rfl rfl rfl (Nat.le_of_ble_eq_true rfl) (Nat.le_of_ble_eq_true rfl) rfl rfl (hm) ?_
  refine st_icmp_eq rfl (fun h76 => ?_) (fun h76 => (by exfalso; exact h76 rfl))
  exact hk _ _ _ hR2
set_option maxRecDepth 20000 in
theorem lw_c1 {L : Nat} {xs : Int → Int} {N : Nat} {P : am_P} {H : am_H} {i : Int} (hL : L ≤ 3072) (hx : ∀ k, -2147483648 ≤ xs k ∧ xs k < 2147483648) (i0 : 0 ≤ i) (i1 : i + 6 ≤ (L : Int)) (hR : Rel L xs N P H) (hk : ∀ N2 P2 H2, Rel L xs N2 P2 H2 → am_WP (am_R 8) cd_CartLaw_law (fun v σ' => v = some (am_i 1) ∧ σ'.1 ≤ 188) 922 [some (am_r 2), some (am_r 3), some (am_r 53), some (am_i i)] [] (N2, P2, H2)) : am_WP (am_R 8) cd_CartLaw_law (fun v σ' => v = some (am_i 1) ∧ σ'.1 ≤ 188) 79 [some (am_r 2), some (am_r 3), some (am_r 53), some (am_i i)] [] (N, P, H) := by
  obtain ⟨s0, s2⟩ := rel_s hR
  have hx2 : ∀ k, -2147483648 ≤ H 2 k ∧ H 2 k < 2147483648 := fun k => by rw [s2]; exact hx k
  obtain ⟨v, N1, P1, H1, N2, P2, H2, hr, ⟨t0, t2⟩, hm, hR2⟩ := case_mark (L := L) (xs := xs) (n := H 2 (i + 1))  N P H hR
  have e2 : H1 2 = H 2 := by rw [t2, s2]
  rw [← e2] at hm
  refine st_aload_n rfl rfl (by decide) ?_
  refine st_aload_n rfl rfl (by decide) ?_
  refine st_iload_n rfl rfl ?_
  refine st_iconst rfl ?_
  refine st_iadd rfl (by omega) ?_
  refine st_iascr rfl (by omega) (by omega) ?_
  refine st_cv1 (w := []) rfl rfl rfl (Nat.le_of_ble_eq_true rfl) (Nat.le_of_ble_eq_true rfl) rfl rfl (hr) ?_
  refine st_aload_n rfl rfl (by decide) ?_
  refine st_aload_n rfl rfl (by decide) ?_
  refine st_iload_n rfl rfl ?_
  refine st_iconst rfl ?_
  refine st_iadd rfl (by omega) ?_
  refine st_iascr rfl (by omega) (by omega) ?_
  refine st_cv1 (w := [_]) rfl rfl rfl (Nat.le_of_ble_eq_true rfl) (Nat.le_of_ble_eq_true rfl) rfl rfl (hm) ?_
  refine st_icmp_eq rfl (fun h93 => ?_) (fun h93 => (by exfalso; exact h93 rfl))
  exact hk _ _ _ hR2
set_option maxRecDepth 20000 in
theorem lw_c2 {L : Nat} {xs : Int → Int} {N : Nat} {P : am_P} {H : am_H} {i : Int} (hL : L ≤ 3072) (hx : ∀ k, -2147483648 ≤ xs k ∧ xs k < 2147483648) (i0 : 0 ≤ i) (i1 : i + 6 ≤ (L : Int)) (hR : Rel L xs N P H) (hk : ∀ N2 P2 H2, Rel L xs N2 P2 H2 → am_WP (am_R 8) cd_CartLaw_law (fun v σ' => v = some (am_i 1) ∧ σ'.1 ≤ 188) 922 [some (am_r 2), some (am_r 3), some (am_r 53), some (am_i i)] [] (N2, P2, H2)) : am_WP (am_R 8) cd_CartLaw_law (fun v σ' => v = some (am_i 1) ∧ σ'.1 ≤ 188) 96 [some (am_r 2), some (am_r 3), some (am_r 53), some (am_i i)] [] (N, P, H) := by
  obtain ⟨s0, s2⟩ := rel_s hR
  have hx2 : ∀ k, -2147483648 ≤ H 2 k ∧ H 2 k < 2147483648 := fun k => by rw [s2]; exact hx k
  obtain ⟨v, N1, P1, H1, N2, P2, H2, hr, ⟨t0, t2⟩, hm, hR2⟩ := case_fault (L := L) (xs := xs)   N P H hR
  have e2 : H1 2 = H 2 := by rw [t2, s2]
  refine st_aload_n rfl rfl (by decide) ?_
  refine st_cv1 (w := []) rfl rfl rfl (Nat.le_of_ble_eq_true rfl) (Nat.le_of_ble_eq_true rfl) rfl rfl (hr) ?_
  refine st_aload_n rfl rfl (by decide) ?_
  refine st_cv1 (w := [_]) rfl rfl rfl (Nat.le_of_ble_eq_true rfl) (Nat.le_of_ble_eq_true rfl) rfl rfl (hm) ?_
  refine st_icmp_eq rfl (fun h100 => ?_) (fun h100 => (by exfalso; exact h100 rfl))
  exact hk _ _ _ hR2
set_option maxRecDepth 20000 in
theorem lw_c3 {L : Nat} {xs : Int → Int} {N : Nat} {P : am_P} {H : am_H} {i : Int} (hL : L ≤ 3072) (hx : ∀ k, -2147483648 ≤ xs k ∧ xs k < 2147483648) (i0 : 0 ≤ i) (i1 : i + 6 ≤ (L : Int)) (hR : Rel L xs N P H) (hk : ∀ N2 P2 H2, Rel L xs N2 P2 H2 → am_WP (am_R 8) cd_CartLaw_law (fun v σ' => v = some (am_i 1) ∧ σ'.1 ≤ 188) 922 [some (am_r 2), some (am_r 3), some (am_r 53), some (am_i i)] [] (N2, P2, H2)) : am_WP (am_R 8) cd_CartLaw_law (fun v σ' => v = some (am_i 1) ∧ σ'.1 ≤ 188) 103 [some (am_r 2), some (am_r 3), some (am_r 53), some (am_i i)] [] (N, P, H) := by
  obtain ⟨s0, s2⟩ := rel_s hR
  have hx2 : ∀ k, -2147483648 ≤ H 2 k ∧ H 2 k < 2147483648 := fun k => by rw [s2]; exact hx k
  obtain ⟨v, N1, P1, H1, N2, P2, H2, hr, ⟨t0, t2⟩, hm, hR2⟩ := case_count (L := L) (xs := xs) (w := H 2 (i + 1))  N P H hR
  have e2 : H1 2 = H 2 := by rw [t2, s2]
  rw [← e2] at hm
  refine st_aload_n rfl rfl (by decide) ?_
  refine st_aload_n rfl rfl (by decide) ?_
  refine st_iload_n rfl rfl ?_
  refine st_iconst rfl ?_
  refine st_iadd rfl (by omega) ?_
  refine st_iascr rfl (by omega) (by omega) ?_
  refine st_cv1 (w := []) rfl rfl rfl (Nat.le_of_ble_eq_true rfl) (Nat.le_of_ble_eq_true rfl) rfl rfl (hr) ?_
  refine st_aload_n rfl rfl (by decide) ?_
  refine st_aload_n rfl rfl (by decide) ?_
  refine st_iload_n rfl rfl ?_
  refine st_iconst rfl ?_
  refine st_iadd rfl (by omega) ?_
  refine st_iascr rfl (by omega) (by omega) ?_
  refine st_cv1 (w := [_]) rfl rfl rfl (Nat.le_of_ble_eq_true rfl) (Nat.le_of_ble_eq_true rfl) rfl rfl (hm) ?_
  refine st_icmp_eq rfl (fun h117 => ?_) (fun h117 => (by exfalso; exact h117 rfl))
  exact hk _ _ _ hR2
set_option maxRecDepth 20000 in
theorem lw_c4 {L : Nat} {xs : Int → Int} {N : Nat} {P : am_P} {H : am_H} {i : Int} (hL : L ≤ 3072) (hx : ∀ k, -2147483648 ≤ xs k ∧ xs k < 2147483648) (i0 : 0 ≤ i) (i1 : i + 6 ≤ (L : Int)) (hR : Rel L xs N P H) (hk : ∀ N2 P2 H2, Rel L xs N2 P2 H2 → am_WP (am_R 8) cd_CartLaw_law (fun v σ' => v = some (am_i 1) ∧ σ'.1 ≤ 188) 922 [some (am_r 2), some (am_r 3), some (am_r 53), some (am_i i)] [] (N2, P2, H2)) : am_WP (am_R 8) cd_CartLaw_law (fun v σ' => v = some (am_i 1) ∧ σ'.1 ≤ 188) 120 [some (am_r 2), some (am_r 3), some (am_r 53), some (am_i i)] [] (N, P, H) := by
  obtain ⟨s0, s2⟩ := rel_s hR
  have hx2 : ∀ k, -2147483648 ≤ H 2 k ∧ H 2 k < 2147483648 := fun k => by rw [s2]; exact hx k
  obtain ⟨v, N1, P1, H1, N2, P2, H2, hr, ⟨t0, t2⟩, hm, hR2⟩ := case_part (L := L) (xs := xs) (m := H 2 (i + 1)) (k := H 2 (i + 2)) (w := H 2 (i + 3))  N P H hR
  have e2 : H1 2 = H 2 := by rw [t2, s2]
  rw [← e2] at hm
  refine st_aload_n rfl rfl (by decide) ?_
  refine st_aload_n rfl rfl (by decide) ?_
  refine st_iload_n rfl rfl ?_
  refine st_iconst rfl ?_
  refine st_iadd rfl (by omega) ?_
  refine st_iascr rfl (by omega) (by omega) ?_
  refine st_aload_n rfl rfl (by decide) ?_
  refine st_iload_n rfl rfl ?_
  refine st_iconst rfl ?_
  refine st_iadd rfl (by omega) ?_
  refine st_iascr rfl (by omega) (by omega) ?_
  refine st_aload_n rfl rfl (by decide) ?_
  refine st_iload_n rfl rfl ?_
  refine st_iconst rfl ?_
  refine st_iadd rfl (by omega) ?_
  refine st_iascr rfl (by omega) (by omega) ?_
  refine st_cv1 (w := []) rfl rfl rfl (Nat.le_of_ble_eq_true rfl) (Nat.le_of_ble_eq_true rfl) rfl rfl (hr) ?_
  refine st_aload_n rfl rfl (by decide) ?_
  refine st_aload_n rfl rfl (by decide) ?_
  refine st_iload_n rfl rfl ?_
  refine st_iconst rfl ?_
  refine st_iadd rfl (by omega) ?_
  refine st_iascr rfl (by omega) (by omega) ?_
  refine st_aload_n rfl rfl (by decide) ?_
  refine st_iload_n rfl rfl ?_
  refine st_iconst rfl ?_
  refine st_iadd rfl (by omega) ?_
  refine st_iascr rfl (by omega) (by omega) ?_
  refine st_aload_n rfl rfl (by decide) ?_
  refine st_iload_n rfl rfl ?_
  refine st_iconst rfl ?_
  refine st_iadd rfl (by omega) ?_
  refine st_iascr rfl (by omega) (by omega) ?_
  refine st_cv1 (w := [_]) rfl rfl rfl (Nat.le_of_ble_eq_true rfl) (Nat.le_of_ble_eq_true rfl) rfl rfl (hm) ?_
  refine st_icmp_eq rfl (fun h154 => ?_) (fun h154 => (by exfalso; exact h154 rfl))
  exact hk _ _ _ hR2
set_option maxRecDepth 20000 in
theorem lw_c5 {L : Nat} {xs : Int → Int} {N : Nat} {P : am_P} {H : am_H} {i : Int} (hL : L ≤ 3072) (hx : ∀ k, -2147483648 ≤ xs k ∧ xs k < 2147483648) (i0 : 0 ≤ i) (i1 : i + 6 ≤ (L : Int)) (hR : Rel L xs N P H) (hk : ∀ N2 P2 H2, Rel L xs N2 P2 H2 → am_WP (am_R 8) cd_CartLaw_law (fun v σ' => v = some (am_i 1) ∧ σ'.1 ≤ 188) 922 [some (am_r 2), some (am_r 3), some (am_r 53), some (am_i i)] [] (N2, P2, H2)) : am_WP (am_R 8) cd_CartLaw_law (fun v σ' => v = some (am_i 1) ∧ σ'.1 ≤ 188) 157 [some (am_r 2), some (am_r 3), some (am_r 53), some (am_i i)] [] (N, P, H) := by
  obtain ⟨s0, s2⟩ := rel_s hR
  have hx2 : ∀ k, -2147483648 ≤ H 2 k ∧ H 2 k < 2147483648 := fun k => by rw [s2]; exact hx k
  obtain ⟨v, N1, P1, H1, N2, P2, H2, hr, ⟨t0, t2⟩, hm, hR2⟩ := case_write (L := L) (xs := xs) (m := H 2 (i + 1))  N P H hR
  have e2 : H1 2 = H 2 := by rw [t2, s2]
  rw [← e2] at hm
  refine st_aload_n rfl rfl (by decide) ?_
  refine st_aload_n rfl rfl (by decide) ?_
  refine st_iload_n rfl rfl ?_
  refine st_iconst rfl ?_
  refine st_iadd rfl (by omega) ?_
  refine st_iascr rfl (by omega) (by omega) ?_
  refine st_cv1 (w := []) rfl rfl rfl (Nat.le_of_ble_eq_true rfl) (Nat.le_of_ble_eq_true rfl) rfl rfl (hr) ?_
  refine st_aload_n rfl rfl (by decide) ?_
  refine st_aload_n rfl rfl (by decide) ?_
  refine st_iload_n rfl rfl ?_
  refine st_iconst rfl ?_
  refine st_iadd rfl (by omega) ?_
  refine st_iascr rfl (by omega) (by omega) ?_
  refine st_cv1 (w := [_]) rfl rfl rfl (Nat.le_of_ble_eq_true rfl) (Nat.le_of_ble_eq_true rfl) rfl rfl (hm) ?_
  refine st_icmp_eq rfl (fun h171 => ?_) (fun h171 => (by exfalso; exact h171 rfl))
  exact hk _ _ _ hR2
set_option maxRecDepth 20000 in
theorem lw_c6 {L : Nat} {xs : Int → Int} {N : Nat} {P : am_P} {H : am_H} {i : Int} (hL : L ≤ 3072) (hx : ∀ k, -2147483648 ≤ xs k ∧ xs k < 2147483648) (i0 : 0 ≤ i) (i1 : i + 6 ≤ (L : Int)) (hR : Rel L xs N P H) (hk : ∀ N2 P2 H2, Rel L xs N2 P2 H2 → am_WP (am_R 8) cd_CartLaw_law (fun v σ' => v = some (am_i 1) ∧ σ'.1 ≤ 188) 922 [some (am_r 2), some (am_r 3), some (am_r 53), some (am_i i)] [] (N2, P2, H2)) : am_WP (am_R 8) cd_CartLaw_law (fun v σ' => v = some (am_i 1) ∧ σ'.1 ≤ 188) 174 [some (am_r 2), some (am_r 3), some (am_r 53), some (am_i i)] [] (N, P, H) := by
  obtain ⟨s0, s2⟩ := rel_s hR
  have hx2 : ∀ k, -2147483648 ≤ H 2 k ∧ H 2 k < 2147483648 := fun k => by rw [s2]; exact hx k
  obtain ⟨v, N1, P1, H1, N2, P2, H2, hr, ⟨t0, t2⟩, hm, hR2⟩ := case_out (L := L) (xs := xs) (i := H 2 (i + 1))  N P H hR
  have e2 : H1 2 = H 2 := by rw [t2, s2]
  rw [← e2] at hm
  refine st_aload_n rfl rfl (by decide) ?_
  refine st_aload_n rfl rfl (by decide) ?_
  refine st_iload_n rfl rfl ?_
  refine st_iconst rfl ?_
  refine st_iadd rfl (by omega) ?_
  refine st_iascr rfl (by omega) (by omega) ?_
  refine st_cv1 (w := []) rfl rfl rfl (Nat.le_of_ble_eq_true rfl) (Nat.le_of_ble_eq_true rfl) rfl rfl (hr) ?_
  refine st_aload_n rfl rfl (by decide) ?_
  refine st_aload_n rfl rfl (by decide) ?_
  refine st_iload_n rfl rfl ?_
  refine st_iconst rfl ?_
  refine st_iadd rfl (by omega) ?_
  refine st_iascr rfl (by omega) (by omega) ?_
  refine st_cv1 (w := [_]) rfl rfl rfl (Nat.le_of_ble_eq_true rfl) (Nat.le_of_ble_eq_true rfl) rfl rfl (hm) ?_
  refine st_icmp_eq rfl (fun h188 => ?_) (fun h188 => (by exfalso; exact h188 rfl))
  exact hk _ _ _ hR2
set_option maxRecDepth 20000 in
theorem lw_c7 {L : Nat} {xs : Int → Int} {N : Nat} {P : am_P} {H : am_H} {i : Int} (hL : L ≤ 3072) (hx : ∀ k, -2147483648 ≤ xs k ∧ xs k < 2147483648) (i0 : 0 ≤ i) (i1 : i + 6 ≤ (L : Int)) (hR : Rel L xs N P H) (hk : ∀ N2 P2 H2, Rel L xs N2 P2 H2 → am_WP (am_R 8) cd_CartLaw_law (fun v σ' => v = some (am_i 1) ∧ σ'.1 ≤ 188) 922 [some (am_r 2), some (am_r 3), some (am_r 53), some (am_i i)] [] (N2, P2, H2)) : am_WP (am_R 8) cd_CartLaw_law (fun v σ' => v = some (am_i 1) ∧ σ'.1 ≤ 188) 191 [some (am_r 2), some (am_r 3), some (am_r 53), some (am_i i)] [] (N, P, H) := by
  obtain ⟨s0, s2⟩ := rel_s hR
  have hx2 : ∀ k, -2147483648 ≤ H 2 k ∧ H 2 k < 2147483648 := fun k => by rw [s2]; exact hx k
  obtain ⟨v, N1, P1, H1, N2, P2, H2, hr, ⟨t0, t2⟩, hm, hR2⟩ := case_way (L := L) (xs := xs) (w := H 2 (i + 1))  N P H hR
  have e2 : H1 2 = H 2 := by rw [t2, s2]
  rw [← e2] at hm
  refine st_aload_n rfl rfl (by decide) ?_
  refine st_aload_n rfl rfl (by decide) ?_
  refine st_iload_n rfl rfl ?_
  refine st_iconst rfl ?_
  refine st_iadd rfl (by omega) ?_
  refine st_iascr rfl (by omega) (by omega) ?_
  refine st_cv1 (w := []) rfl rfl rfl (Nat.le_of_ble_eq_true rfl) (Nat.le_of_ble_eq_true rfl) rfl rfl (hr) ?_
  refine st_aload_n rfl rfl (by decide) ?_
  refine st_aload_n rfl rfl (by decide) ?_
  refine st_iload_n rfl rfl ?_
  refine st_iconst rfl ?_
  refine st_iadd rfl (by omega) ?_
  refine st_iascr rfl (by omega) (by omega) ?_
  refine st_cv1 (w := [_]) rfl rfl rfl (Nat.le_of_ble_eq_true rfl) (Nat.le_of_ble_eq_true rfl) rfl rfl (hm) ?_
  refine st_icmp_eq rfl (fun h205 => ?_) (fun h205 => (by exfalso; exact h205 rfl))
  exact hk _ _ _ hR2
set_option maxRecDepth 20000 in
theorem lw_c8 {L : Nat} {xs : Int → Int} {N : Nat} {P : am_P} {H : am_H} {i : Int} (hL : L ≤ 3072) (hx : ∀ k, -2147483648 ≤ xs k ∧ xs k < 2147483648) (i0 : 0 ≤ i) (i1 : i + 6 ≤ (L : Int)) (hR : Rel L xs N P H) (hk : ∀ N2 P2 H2, Rel L xs N2 P2 H2 → am_WP (am_R 8) cd_CartLaw_law (fun v σ' => v = some (am_i 1) ∧ σ'.1 ≤ 188) 922 [some (am_r 2), some (am_r 3), some (am_r 53), some (am_i i)] [] (N2, P2, H2)) : am_WP (am_R 8) cd_CartLaw_law (fun v σ' => v = some (am_i 1) ∧ σ'.1 ≤ 188) 208 [some (am_r 2), some (am_r 3), some (am_r 53), some (am_i i)] [] (N, P, H) := by
  obtain ⟨s0, s2⟩ := rel_s hR
  have hx2 : ∀ k, -2147483648 ≤ H 2 k ∧ H 2 k < 2147483648 := fun k => by rw [s2]; exact hx k
  obtain ⟨v, N1, P1, H1, N2, P2, H2, hr, ⟨t0, t2⟩, hm, hR2⟩ := case_sorts (L := L) (xs := xs) (x := H 2 (i + 1)) (y := H 2 (i + 2))  N P H hR
  have e2 : H1 2 = H 2 := by rw [t2, s2]
  rw [← e2] at hm
  refine st_aload_n rfl rfl (by decide) ?_
  refine st_aload_n rfl rfl (by decide) ?_
  refine st_iload_n rfl rfl ?_
  refine st_iconst rfl ?_
  refine st_iadd rfl (by omega) ?_
  refine st_iascr rfl (by omega) (by omega) ?_
  refine st_aload_n rfl rfl (by decide) ?_
  refine st_iload_n rfl rfl ?_
  refine st_iconst rfl ?_
  refine st_iadd rfl (by omega) ?_
  refine st_iascr rfl (by omega) (by omega) ?_
  refine st_cv1 (w := []) rfl rfl rfl (Nat.le_of_ble_eq_true rfl) (Nat.le_of_ble_eq_true rfl) rfl rfl (hr) ?_
  refine st_aload_n rfl rfl (by decide) ?_
  refine st_aload_n rfl rfl (by decide) ?_
  refine st_iload_n rfl rfl ?_
  refine st_iconst rfl ?_
  refine st_iadd rfl (by omega) ?_
  refine st_iascr rfl (by omega) (by omega) ?_
  refine st_aload_n rfl rfl (by decide) ?_
  refine st_iload_n rfl rfl ?_
  refine st_iconst rfl ?_
  refine st_iadd rfl (by omega) ?_
  refine st_iascr rfl (by omega) (by omega) ?_
  refine st_cv1 (w := [_]) rfl rfl rfl (Nat.le_of_ble_eq_true rfl) (Nat.le_of_ble_eq_true rfl) rfl rfl (hm) ?_
  refine st_icmp_eq rfl (fun h232 => ?_) (fun h232 => (by exfalso; exact h232 rfl))
  exact hk _ _ _ hR2
set_option maxRecDepth 20000 in
theorem lw_c9 {L : Nat} {xs : Int → Int} {N : Nat} {P : am_P} {H : am_H} {i : Int} (hL : L ≤ 3072) (hx : ∀ k, -2147483648 ≤ xs k ∧ xs k < 2147483648) (i0 : 0 ≤ i) (i1 : i + 6 ≤ (L : Int)) (hR : Rel L xs N P H) (hk : ∀ N2 P2 H2, Rel L xs N2 P2 H2 → am_WP (am_R 8) cd_CartLaw_law (fun v σ' => v = some (am_i 1) ∧ σ'.1 ≤ 188) 922 [some (am_r 2), some (am_r 3), some (am_r 53), some (am_i i)] [] (N2, P2, H2)) : am_WP (am_R 8) cd_CartLaw_law (fun v σ' => v = some (am_i 1) ∧ σ'.1 ≤ 188) 235 [some (am_r 2), some (am_r 3), some (am_r 53), some (am_i i)] [] (N, P, H) := by
  obtain ⟨s0, s2⟩ := rel_s hR
  have hx2 : ∀ k, -2147483648 ≤ H 2 k ∧ H 2 k < 2147483648 := fun k => by rw [s2]; exact hx k
  by_cases hb : H 2 (i + 2) = 0
  · obtain ⟨v, N1, P1, H1, N2, P2, H2, hr, ⟨t0, t2⟩, hm, hR2⟩ := case_shelf (L := L) (xs := xs) (w := H 2 (i + 1)) (h := 0)  N P H hR
    have e2 : H1 2 = H 2 := by rw [t2, s2]
    rw [← e2] at hm
    have hb1 : H1 2 (i + 2) = 0 := by rw [e2]; exact hb
    refine st_aload_n rfl rfl (by decide) ?_
    refine st_aload_n rfl rfl (by decide) ?_
    refine st_iload_n rfl rfl ?_
    refine st_iconst rfl ?_
    refine st_iadd rfl (by omega) ?_
    refine st_iascr rfl (by omega) (by omega) ?_
    refine st_aload_n rfl rfl (by decide) ?_
    refine st_iload_n rfl rfl ?_
    refine st_iconst rfl ?_
    refine st_iadd rfl (by omega) ?_
    refine st_iascr rfl (by omega) (by omega) ?_
    refine st_if_eq rfl (fun h246 => ?_) (fun h246 => (by exfalso; exact h246 hb))
    refine st_iconst rfl ?_
    refine st_cv1 (w := []) rfl rfl rfl (Nat.le_of_ble_eq_true rfl) (Nat.le_of_ble_eq_true rfl) rfl rfl (hr) ?_
    refine st_aload_n rfl rfl (by decide) ?_
    refine st_aload_n rfl rfl (by decide) ?_
    refine st_iload_n rfl rfl ?_
    refine st_iconst rfl ?_
    refine st_iadd rfl (by omega) ?_
    refine st_iascr rfl (by omega) (by omega) ?_
    refine st_aload_n rfl rfl (by decide) ?_
    refine st_iload_n rfl rfl ?_
    refine st_iconst rfl ?_
    refine st_iadd rfl (by omega) ?_
    refine st_iascr rfl (by omega) (by omega) ?_
    refine st_if_eq rfl (fun h262 => ?_) (fun h262 => (by exfalso; exact h262 hb1))
    refine st_iconst rfl ?_
    refine st_cv1 (w := [_]) rfl rfl rfl (Nat.le_of_ble_eq_true rfl) (Nat.le_of_ble_eq_true rfl) rfl rfl (hm) ?_
    refine st_icmp_eq rfl (fun h267 => ?_) (fun h267 => (by exfalso; exact h267 rfl))
    exact hk _ _ _ hR2
  · obtain ⟨v, N1, P1, H1, N2, P2, H2, hr, ⟨t0, t2⟩, hm, hR2⟩ := case_shelf (L := L) (xs := xs) (w := H 2 (i + 1)) (h := 1)  N P H hR
    have e2 : H1 2 = H 2 := by rw [t2, s2]
    rw [← e2] at hm
    have hb1 : ¬ H1 2 (i + 2) = 0 := by rw [e2]; exact hb
    refine st_aload_n rfl rfl (by decide) ?_
    refine st_aload_n rfl rfl (by decide) ?_
    refine st_iload_n rfl rfl ?_
    refine st_iconst rfl ?_
    refine st_iadd rfl (by omega) ?_
    refine st_iascr rfl (by omega) (by omega) ?_
    refine st_aload_n rfl rfl (by decide) ?_
    refine st_iload_n rfl rfl ?_
    refine st_iconst rfl ?_
    refine st_iadd rfl (by omega) ?_
    refine st_iascr rfl (by omega) (by omega) ?_
    refine st_if_eq rfl (fun h246 => (by exfalso; exact hb h246)) (fun h246 => ?_)
    refine st_iconst rfl ?_
    refine st_goto rfl ?_
    refine st_cv1 (w := []) rfl rfl rfl (Nat.le_of_ble_eq_true rfl) (Nat.le_of_ble_eq_true rfl) rfl rfl (hr) ?_
    refine st_aload_n rfl rfl (by decide) ?_
    refine st_aload_n rfl rfl (by decide) ?_
    refine st_iload_n rfl rfl ?_
    refine st_iconst rfl ?_
    refine st_iadd rfl (by omega) ?_
    refine st_iascr rfl (by omega) (by omega) ?_
    refine st_aload_n rfl rfl (by decide) ?_
    refine st_iload_n rfl rfl ?_
    refine st_iconst rfl ?_
    refine st_iadd rfl (by omega) ?_
    refine st_iascr rfl (by omega) (by omega) ?_
    refine st_if_eq rfl (fun h262 => (by exfalso; exact hb1 h262)) (fun h262 => ?_)
    refine st_iconst rfl ?_
    refine st_goto rfl ?_
    refine st_cv1 (w := [_]) rfl rfl rfl (Nat.le_of_ble_eq_true rfl) (Nat.le_of_ble_eq_true rfl) rfl rfl (hm) ?_
    refine st_icmp_eq rfl (fun h267 => ?_) (fun h267 => (by exfalso; exact h267 rfl))
    exact hk _ _ _ hR2
set_option maxRecDepth 20000 in
theorem lw_c10 {L : Nat} {xs : Int → Int} {N : Nat} {P : am_P} {H : am_H} {i : Int} (hL : L ≤ 3072) (hx : ∀ k, -2147483648 ≤ xs k ∧ xs k < 2147483648) (i0 : 0 ≤ i) (i1 : i + 6 ≤ (L : Int)) (hR : Rel L xs N P H) (hk : ∀ N2 P2 H2, Rel L xs N2 P2 H2 → am_WP (am_R 8) cd_CartLaw_law (fun v σ' => v = some (am_i 1) ∧ σ'.1 ≤ 188) 922 [some (am_r 2), some (am_r 3), some (am_r 53), some (am_i i)] [] (N2, P2, H2)) : am_WP (am_R 8) cd_CartLaw_law (fun v σ' => v = some (am_i 1) ∧ σ'.1 ≤ 188) 270 [some (am_r 2), some (am_r 3), some (am_r 53), some (am_i i)] [] (N, P, H) := by
  obtain ⟨s0, s2⟩ := rel_s hR
  have hx2 : ∀ k, -2147483648 ≤ H 2 k ∧ H 2 k < 2147483648 := fun k => by rw [s2]; exact hx k
  obtain ⟨v, N1, P1, H1, N2, P2, H2, hr, ⟨t0, t2⟩, hm, hR2⟩ := case_book (L := L) (xs := xs) (kd := H 2 (i + 1)) (m := H 2 (i + 2)) (w := H 2 (i + 3)) (l := H 2 (i + 4))  N P H hR
  have e2 : H1 2 = H 2 := by rw [t2, s2]
  rw [← e2] at hm
  refine st_aload_n rfl rfl (by decide) ?_
  refine st_aload_n rfl rfl (by decide) ?_
  refine st_iload_n rfl rfl ?_
  refine st_iconst rfl ?_
  refine st_iadd rfl (by omega) ?_
  refine st_iascr rfl (by omega) (by omega) ?_
  refine st_aload_n rfl rfl (by decide) ?_
  refine st_iload_n rfl rfl ?_
  refine st_iconst rfl ?_
  refine st_iadd rfl (by omega) ?_
  refine st_iascr rfl (by omega) (by omega) ?_
  refine st_aload_n rfl rfl (by decide) ?_
  refine st_iload_n rfl rfl ?_
  refine st_iconst rfl ?_
  refine st_iadd rfl (by omega) ?_
  refine st_iascr rfl (by omega) (by omega) ?_
  refine st_aload_n rfl rfl (by decide) ?_
  refine st_iload_n rfl rfl ?_
  refine st_iconst rfl ?_
  refine st_iadd rfl (by omega) ?_
  refine st_iascr rfl (by omega) (by omega) ?_
  refine st_cv1 (w := []) rfl rfl rfl (Nat.le_of_ble_eq_true rfl) (Nat.le_of_ble_eq_true rfl) rfl rfl (hr) ?_
  refine st_aload_n rfl rfl (by decide) ?_
  refine st_aload_n rfl rfl (by decide) ?_
  refine st_iload_n rfl rfl ?_
  refine st_iconst rfl ?_
  refine st_iadd rfl (by omega) ?_
  refine st_iascr rfl (by omega) (by omega) ?_
  refine st_aload_n rfl rfl (by decide) ?_
  refine st_iload_n rfl rfl ?_
  refine st_iconst rfl ?_
  refine st_iadd rfl (by omega) ?_
  refine st_iascr rfl (by omega) (by omega) ?_
  refine st_aload_n rfl rfl (by decide) ?_
  refine st_iload_n rfl rfl ?_
  refine st_iconst rfl ?_
  refine st_iadd rfl (by omega) ?_
  refine st_iascr rfl (by omega) (by omega) ?_
  refine st_aload_n rfl rfl (by decide) ?_
  refine st_iload_n rfl rfl ?_
  refine st_iconst rfl ?_
  refine st_iadd rfl (by omega) ?_
  refine st_iascr rfl (by omega) (by omega) ?_
  refine st_cv1 (w := [_]) rfl rfl rfl (Nat.le_of_ble_eq_true rfl) (Nat.le_of_ble_eq_true rfl) rfl rfl (hm) ?_
  refine st_icmp_eq rfl (fun h314 => ?_) (fun h314 => (by exfalso; exact h314 rfl))
  exact hk _ _ _ hR2
set_option maxRecDepth 20000 in
theorem lw_c11 {L : Nat} {xs : Int → Int} {N : Nat} {P : am_P} {H : am_H} {i : Int} (hL : L ≤ 3072) (hx : ∀ k, -2147483648 ≤ xs k ∧ xs k < 2147483648) (i0 : 0 ≤ i) (i1 : i + 6 ≤ (L : Int)) (hR : Rel L xs N P H) (hk : ∀ N2 P2 H2, Rel L xs N2 P2 H2 → am_WP (am_R 8) cd_CartLaw_law (fun v σ' => v = some (am_i 1) ∧ σ'.1 ≤ 188) 922 [some (am_r 2), some (am_r 3), some (am_r 53), some (am_i i)] [] (N2, P2, H2)) : am_WP (am_R 8) cd_CartLaw_law (fun v σ' => v = some (am_i 1) ∧ σ'.1 ≤ 188) 317 [some (am_r 2), some (am_r 3), some (am_r 53), some (am_i i)] [] (N, P, H) := by
  obtain ⟨s0, s2⟩ := rel_s hR
  have hx2 : ∀ k, -2147483648 ≤ H 2 k ∧ H 2 k < 2147483648 := fun k => by rw [s2]; exact hx k
  obtain ⟨v, N1, P1, H1, N2, P2, H2, hr, ⟨t0, t2⟩, hm, hR2⟩ := case_stand (L := L) (xs := xs) (b := H 2 (i + 1)) (s := H 2 (i + 2)) (p := H 2 (i + 3))  N P H hR
  have e2 : H1 2 = H 2 := by rw [t2, s2]
  rw [← e2] at hm
  refine st_aload_n rfl rfl (by decide) ?_
  refine st_aload_n rfl rfl (by decide) ?_
  refine st_iload_n rfl rfl ?_
  refine st_iconst rfl ?_
  refine st_iadd rfl (by omega) ?_
  refine st_iascr rfl (by omega) (by omega) ?_
  refine st_aload_n rfl rfl (by decide) ?_
  refine st_iload_n rfl rfl ?_
  refine st_iconst rfl ?_
  refine st_iadd rfl (by omega) ?_
  refine st_iascr rfl (by omega) (by omega) ?_
  refine st_aload_n rfl rfl (by decide) ?_
  refine st_iload_n rfl rfl ?_
  refine st_iconst rfl ?_
  refine st_iadd rfl (by omega) ?_
  refine st_iascr rfl (by omega) (by omega) ?_
  refine st_cv1 (w := []) rfl rfl rfl (Nat.le_of_ble_eq_true rfl) (Nat.le_of_ble_eq_true rfl) rfl rfl (hr) ?_
  refine st_aload_n rfl rfl (by decide) ?_
  refine st_aload_n rfl rfl (by decide) ?_
  refine st_iload_n rfl rfl ?_
  refine st_iconst rfl ?_
  refine st_iadd rfl (by omega) ?_
  refine st_iascr rfl (by omega) (by omega) ?_
  refine st_aload_n rfl rfl (by decide) ?_
  refine st_iload_n rfl rfl ?_
  refine st_iconst rfl ?_
  refine st_iadd rfl (by omega) ?_
  refine st_iascr rfl (by omega) (by omega) ?_
  refine st_aload_n rfl rfl (by decide) ?_
  refine st_iload_n rfl rfl ?_
  refine st_iconst rfl ?_
  refine st_iadd rfl (by omega) ?_
  refine st_iascr rfl (by omega) (by omega) ?_
  refine st_cv1 (w := [_]) rfl rfl rfl (Nat.le_of_ble_eq_true rfl) (Nat.le_of_ble_eq_true rfl) rfl rfl (hm) ?_
  refine st_icmp_eq rfl (fun h351 => ?_) (fun h351 => (by exfalso; exact h351 rfl))
  exact hk _ _ _ hR2
set_option maxRecDepth 20000 in
theorem lw_c12 {L : Nat} {xs : Int → Int} {N : Nat} {P : am_P} {H : am_H} {i : Int} (hL : L ≤ 3072) (hx : ∀ k, -2147483648 ≤ xs k ∧ xs k < 2147483648) (i0 : 0 ≤ i) (i1 : i + 6 ≤ (L : Int)) (hR : Rel L xs N P H) (hk : ∀ N2 P2 H2, Rel L xs N2 P2 H2 → am_WP (am_R 8) cd_CartLaw_law (fun v σ' => v = some (am_i 1) ∧ σ'.1 ≤ 188) 922 [some (am_r 2), some (am_r 3), some (am_r 53), some (am_i i)] [] (N2, P2, H2)) : am_WP (am_R 8) cd_CartLaw_law (fun v σ' => v = some (am_i 1) ∧ σ'.1 ≤ 188) 354 [some (am_r 2), some (am_r 3), some (am_r 53), some (am_i i)] [] (N, P, H) := by
  obtain ⟨s0, s2⟩ := rel_s hR
  have hx2 : ∀ k, -2147483648 ≤ H 2 k ∧ H 2 k < 2147483648 := fun k => by rw [s2]; exact hx k
  obtain ⟨v, N1, P1, H1, N2, P2, H2, hr, ⟨t0, t2⟩, hm, hR2⟩ := case_dummy (L := L) (xs := xs) (b := H 2 (i + 1)) (s := H 2 (i + 2)) (p := H 2 (i + 3))  N P H hR
  have e2 : H1 2 = H 2 := by rw [t2, s2]
  rw [← e2] at hm
  refine st_aload_n rfl rfl (by decide) ?_
  refine st_aload_n rfl rfl (by decide) ?_
  refine st_iload_n rfl rfl ?_
  refine st_iconst rfl ?_
  refine st_iadd rfl (by omega) ?_
  refine st_iascr rfl (by omega) (by omega) ?_
  refine st_aload_n rfl rfl (by decide) ?_
  refine st_iload_n rfl rfl ?_
  refine st_iconst rfl ?_
  refine st_iadd rfl (by omega) ?_
  refine st_iascr rfl (by omega) (by omega) ?_
  refine st_aload_n rfl rfl (by decide) ?_
  refine st_iload_n rfl rfl ?_
  refine st_iconst rfl ?_
  refine st_iadd rfl (by omega) ?_
  refine st_iascr rfl (by omega) (by omega) ?_
  refine st_cv1 (w := []) rfl rfl rfl (Nat.le_of_ble_eq_true rfl) (Nat.le_of_ble_eq_true rfl) rfl rfl (hr) ?_
  refine st_aload_n rfl rfl (by decide) ?_
  refine st_aload_n rfl rfl (by decide) ?_
  refine st_iload_n rfl rfl ?_
  refine st_iconst rfl ?_
  refine st_iadd rfl (by omega) ?_
  refine st_iascr rfl (by omega) (by omega) ?_
  refine st_aload_n rfl rfl (by decide) ?_
  refine st_iload_n rfl rfl ?_
  refine st_iconst rfl ?_
  refine st_iadd rfl (by omega) ?_
  refine st_iascr rfl (by omega) (by omega) ?_
  refine st_aload_n rfl rfl (by decide) ?_
  refine st_iload_n rfl rfl ?_
  refine st_iconst rfl ?_
  refine st_iadd rfl (by omega) ?_
  refine st_iascr rfl (by omega) (by omega) ?_
  refine st_cv1 (w := [_]) rfl rfl rfl (Nat.le_of_ble_eq_true rfl) (Nat.le_of_ble_eq_true rfl) rfl rfl (hm) ?_
  refine st_icmp_eq rfl (fun h388 => ?_) (fun h388 => (by exfalso; exact h388 rfl))
  exact hk _ _ _ hR2
set_option maxRecDepth 20000 in
theorem lw_c13 {L : Nat} {xs : Int → Int} {N : Nat} {P : am_P} {H : am_H} {i : Int} (hL : L ≤ 3072) (hx : ∀ k, -2147483648 ≤ xs k ∧ xs k < 2147483648) (i0 : 0 ≤ i) (i1 : i + 6 ≤ (L : Int)) (hR : Rel L xs N P H) (hk : ∀ N2 P2 H2, Rel L xs N2 P2 H2 → am_WP (am_R 8) cd_CartLaw_law (fun v σ' => v = some (am_i 1) ∧ σ'.1 ≤ 188) 922 [some (am_r 2), some (am_r 3), some (am_r 53), some (am_i i)] [] (N2, P2, H2)) : am_WP (am_R 8) cd_CartLaw_law (fun v σ' => v = some (am_i 1) ∧ σ'.1 ≤ 188) 391 [some (am_r 2), some (am_r 3), some (am_r 53), some (am_i i)] [] (N, P, H) := by
  obtain ⟨s0, s2⟩ := rel_s hR
  have hx2 : ∀ k, -2147483648 ≤ H 2 k ∧ H 2 k < 2147483648 := fun k => by rw [s2]; exact hx k
  obtain ⟨v, N1, P1, H1, N2, P2, H2, hr, ⟨t0, t2⟩, hm, hR2⟩ := case_off (L := L) (xs := xs) (b := H 2 (i + 1))  N P H hR
  have e2 : H1 2 = H 2 := by rw [t2, s2]
  rw [← e2] at hm
  refine st_aload_n rfl rfl (by decide) ?_
  refine st_aload_n rfl rfl (by decide) ?_
  refine st_iload_n rfl rfl ?_
  refine st_iconst rfl ?_
  refine st_iadd rfl (by omega) ?_
  refine st_iascr rfl (by omega) (by omega) ?_
  refine st_cv1 (w := []) rfl rfl rfl (Nat.le_of_ble_eq_true rfl) (Nat.le_of_ble_eq_true rfl) rfl rfl (hr) ?_
  refine st_aload_n rfl rfl (by decide) ?_
  refine st_aload_n rfl rfl (by decide) ?_
  refine st_iload_n rfl rfl ?_
  refine st_iconst rfl ?_
  refine st_iadd rfl (by omega) ?_
  refine st_iascr rfl (by omega) (by omega) ?_
  refine st_cv1 (w := [_]) rfl rfl rfl (Nat.le_of_ble_eq_true rfl) (Nat.le_of_ble_eq_true rfl) rfl rfl (hm) ?_
  refine st_icmp_eq rfl (fun h405 => ?_) (fun h405 => (by exfalso; exact h405 rfl))
  exact hk _ _ _ hR2
set_option maxRecDepth 20000 in
theorem lw_c14 {L : Nat} {xs : Int → Int} {N : Nat} {P : am_P} {H : am_H} {i : Int} (hL : L ≤ 3072) (hx : ∀ k, -2147483648 ≤ xs k ∧ xs k < 2147483648) (i0 : 0 ≤ i) (i1 : i + 6 ≤ (L : Int)) (hR : Rel L xs N P H) (hk : ∀ N2 P2 H2, Rel L xs N2 P2 H2 → am_WP (am_R 8) cd_CartLaw_law (fun v σ' => v = some (am_i 1) ∧ σ'.1 ≤ 188) 922 [some (am_r 2), some (am_r 3), some (am_r 53), some (am_i i)] [] (N2, P2, H2)) : am_WP (am_R 8) cd_CartLaw_law (fun v σ' => v = some (am_i 1) ∧ σ'.1 ≤ 188) 408 [some (am_r 2), some (am_r 3), some (am_r 53), some (am_i i)] [] (N, P, H) := by
  obtain ⟨s0, s2⟩ := rel_s hR
  have hx2 : ∀ k, -2147483648 ≤ H 2 k ∧ H 2 k < 2147483648 := fun k => by rw [s2]; exact hx k
  obtain ⟨v, N1, P1, H1, N2, P2, H2, hr, ⟨t0, t2⟩, hm, hR2⟩ := case_tell (L := L) (xs := xs) (b := H 2 (i + 1)) (w := H 2 (i + 2))  N P H hR
  have e2 : H1 2 = H 2 := by rw [t2, s2]
  rw [← e2] at hm
  refine st_aload_n rfl rfl (by decide) ?_
  refine st_aload_n rfl rfl (by decide) ?_
  refine st_iload_n rfl rfl ?_
  refine st_iconst rfl ?_
  refine st_iadd rfl (by omega) ?_
  refine st_iascr rfl (by omega) (by omega) ?_
  refine st_aload_n rfl rfl (by decide) ?_
  refine st_iload_n rfl rfl ?_
  refine st_iconst rfl ?_
  refine st_iadd rfl (by omega) ?_
  refine st_iascr rfl (by omega) (by omega) ?_
  refine st_cv1 (w := []) rfl rfl rfl (Nat.le_of_ble_eq_true rfl) (Nat.le_of_ble_eq_true rfl) rfl rfl (hr) ?_
  refine st_aload_n rfl rfl (by decide) ?_
  refine st_aload_n rfl rfl (by decide) ?_
  refine st_iload_n rfl rfl ?_
  refine st_iconst rfl ?_
  refine st_iadd rfl (by omega) ?_
  refine st_iascr rfl (by omega) (by omega) ?_
  refine st_aload_n rfl rfl (by decide) ?_
  refine st_iload_n rfl rfl ?_
  refine st_iconst rfl ?_
  refine st_iadd rfl (by omega) ?_
  refine st_iascr rfl (by omega) (by omega) ?_
  refine st_cv1 (w := [_]) rfl rfl rfl (Nat.le_of_ble_eq_true rfl) (Nat.le_of_ble_eq_true rfl) rfl rfl (hm) ?_
  refine st_icmp_eq rfl (fun h432 => ?_) (fun h432 => (by exfalso; exact h432 rfl))
  exact hk _ _ _ hR2
set_option maxRecDepth 20000 in
theorem lw_c15 {L : Nat} {xs : Int → Int} {N : Nat} {P : am_P} {H : am_H} {i : Int} (hL : L ≤ 3072) (hx : ∀ k, -2147483648 ≤ xs k ∧ xs k < 2147483648) (i0 : 0 ≤ i) (i1 : i + 6 ≤ (L : Int)) (hR : Rel L xs N P H) (hk : ∀ N2 P2 H2, Rel L xs N2 P2 H2 → am_WP (am_R 8) cd_CartLaw_law (fun v σ' => v = some (am_i 1) ∧ σ'.1 ≤ 188) 922 [some (am_r 2), some (am_r 3), some (am_r 53), some (am_i i)] [] (N2, P2, H2)) : am_WP (am_R 8) cd_CartLaw_law (fun v σ' => v = some (am_i 1) ∧ σ'.1 ≤ 188) 435 [some (am_r 2), some (am_r 3), some (am_r 53), some (am_i i)] [] (N, P, H) := by
  obtain ⟨s0, s2⟩ := rel_s hR
  have hx2 : ∀ k, -2147483648 ≤ H 2 k ∧ H 2 k < 2147483648 := fun k => by rw [s2]; exact hx k
  obtain ⟨v, N1, P1, H1, N2, P2, H2, hr, ⟨t0, t2⟩, hm, hR2⟩ := case_place (L := L) (xs := xs) (s := H 2 (i + 1)) (p := H 2 (i + 2))  N P H hR
  have e2 : H1 2 = H 2 := by rw [t2, s2]
  rw [← e2] at hm
  refine st_aload_n rfl rfl (by decide) ?_
  refine st_aload_n rfl rfl (by decide) ?_
  refine st_iload_n rfl rfl ?_
  refine st_iconst rfl ?_
  refine st_iadd rfl (by omega) ?_
  refine st_iascr rfl (by omega) (by omega) ?_
  refine st_aload_n rfl rfl (by decide) ?_
  refine st_iload_n rfl rfl ?_
  refine st_iconst rfl ?_
  refine st_iadd rfl (by omega) ?_
  refine st_iascr rfl (by omega) (by omega) ?_
  refine st_cv1 (w := []) rfl rfl rfl (Nat.le_of_ble_eq_true rfl) (Nat.le_of_ble_eq_true rfl) rfl rfl (hr) ?_
  refine st_aload_n rfl rfl (by decide) ?_
  refine st_aload_n rfl rfl (by decide) ?_
  refine st_iload_n rfl rfl ?_
  refine st_iconst rfl ?_
  refine st_iadd rfl (by omega) ?_
  refine st_iascr rfl (by omega) (by omega) ?_
  refine st_aload_n rfl rfl (by decide) ?_
  refine st_iload_n rfl rfl ?_
  refine st_iconst rfl ?_
  refine st_iadd rfl (by omega) ?_
  refine st_iascr rfl (by omega) (by omega) ?_
  refine st_cv1 (w := [_]) rfl rfl rfl (Nat.le_of_ble_eq_true rfl) (Nat.le_of_ble_eq_true rfl) rfl rfl (hm) ?_
  refine st_icmp_eq rfl (fun h459 => ?_) (fun h459 => (by exfalso; exact h459 rfl))
  exact hk _ _ _ hR2
set_option maxRecDepth 20000 in
theorem lw_c16 {L : Nat} {xs : Int → Int} {N : Nat} {P : am_P} {H : am_H} {i : Int} (hL : L ≤ 3072) (hx : ∀ k, -2147483648 ≤ xs k ∧ xs k < 2147483648) (i0 : 0 ≤ i) (i1 : i + 6 ≤ (L : Int)) (hR : Rel L xs N P H) (hk : ∀ N2 P2 H2, Rel L xs N2 P2 H2 → am_WP (am_R 8) cd_CartLaw_law (fun v σ' => v = some (am_i 1) ∧ σ'.1 ≤ 188) 922 [some (am_r 2), some (am_r 3), some (am_r 53), some (am_i i)] [] (N2, P2, H2)) : am_WP (am_R 8) cd_CartLaw_law (fun v σ' => v = some (am_i 1) ∧ σ'.1 ≤ 188) 462 [some (am_r 2), some (am_r 3), some (am_r 53), some (am_i i)] [] (N, P, H) := by
  obtain ⟨s0, s2⟩ := rel_s hR
  have hx2 : ∀ k, -2147483648 ≤ H 2 k ∧ H 2 k < 2147483648 := fun k => by rw [s2]; exact hx k
  obtain ⟨v, N1, P1, H1, N2, P2, H2, hr, ⟨t0, t2⟩, hm, hR2⟩ := case_room (L := L) (xs := xs) (s := H 2 (i + 1)) (y := H 2 (i + 2))  N P H hR
  have e2 : H1 2 = H 2 := by rw [t2, s2]
  rw [← e2] at hm
  refine st_aload_n rfl rfl (by decide) ?_
  refine st_aload_n rfl rfl (by decide) ?_
  refine st_iload_n rfl rfl ?_
  refine st_iconst rfl ?_
  refine st_iadd rfl (by omega) ?_
  refine st_iascr rfl (by omega) (by omega) ?_
  refine st_aload_n rfl rfl (by decide) ?_
  refine st_iload_n rfl rfl ?_
  refine st_iconst rfl ?_
  refine st_iadd rfl (by omega) ?_
  refine st_iascr rfl (by omega) (by omega) ?_
  refine st_cv1 (w := []) rfl rfl rfl (Nat.le_of_ble_eq_true rfl) (Nat.le_of_ble_eq_true rfl) rfl rfl (hr) ?_
  refine st_aload_n rfl rfl (by decide) ?_
  refine st_aload_n rfl rfl (by decide) ?_
  refine st_iload_n rfl rfl ?_
  refine st_iconst rfl ?_
  refine st_iadd rfl (by omega) ?_
  refine st_iascr rfl (by omega) (by omega) ?_
  refine st_aload_n rfl rfl (by decide) ?_
  refine st_iload_n rfl rfl ?_
  refine st_iconst rfl ?_
  refine st_iadd rfl (by omega) ?_
  refine st_iascr rfl (by omega) (by omega) ?_
  refine st_cv1 (w := [_]) rfl rfl rfl (Nat.le_of_ble_eq_true rfl) (Nat.le_of_ble_eq_true rfl) rfl rfl (hm) ?_
  refine st_icmp_eq rfl (fun h486 => ?_) (fun h486 => (by exfalso; exact h486 rfl))
  exact hk _ _ _ hR2
set_option maxRecDepth 20000 in
theorem lw_c17 {L : Nat} {xs : Int → Int} {N : Nat} {P : am_P} {H : am_H} {i : Int} (hL : L ≤ 3072) (hx : ∀ k, -2147483648 ≤ xs k ∧ xs k < 2147483648) (i0 : 0 ≤ i) (i1 : i + 6 ≤ (L : Int)) (hR : Rel L xs N P H) (hk : ∀ N2 P2 H2, Rel L xs N2 P2 H2 → am_WP (am_R 8) cd_CartLaw_law (fun v σ' => v = some (am_i 1) ∧ σ'.1 ≤ 188) 922 [some (am_r 2), some (am_r 3), some (am_r 53), some (am_i i)] [] (N2, P2, H2)) : am_WP (am_R 8) cd_CartLaw_law (fun v σ' => v = some (am_i 1) ∧ σ'.1 ≤ 188) 489 [some (am_r 2), some (am_r 3), some (am_r 53), some (am_i i)] [] (N, P, H) := by
  obtain ⟨s0, s2⟩ := rel_s hR
  have hx2 : ∀ k, -2147483648 ≤ H 2 k ∧ H 2 k < 2147483648 := fun k => by rw [s2]; exact hx k
  by_cases hb : H 2 (i + 2) = 0
  · obtain ⟨v, N1, P1, H1, N2, P2, H2, hr, ⟨t0, t2⟩, hm, hR2⟩ := case_run (L := L) (xs := xs) (s := H 2 (i + 1)) (w := 0)  N P H hR
    have e2 : H1 2 = H 2 := by rw [t2, s2]
    rw [← e2] at hm
    have hb1 : H1 2 (i + 2) = 0 := by rw [e2]; exact hb
    refine st_aload_n rfl rfl (by decide) ?_
    refine st_aload_n rfl rfl (by decide) ?_
    refine st_iload_n rfl rfl ?_
    refine st_iconst rfl ?_
    refine st_iadd rfl (by omega) ?_
    refine st_iascr rfl (by omega) (by omega) ?_
    refine st_aload_n rfl rfl (by decide) ?_
    refine st_iload_n rfl rfl ?_
    refine st_iconst rfl ?_
    refine st_iadd rfl (by omega) ?_
    refine st_iascr rfl (by omega) (by omega) ?_
    refine st_if_eq rfl (fun h500 => ?_) (fun h500 => (by exfalso; exact h500 hb))
    refine st_iconst rfl ?_
    refine st_cv1 (w := []) rfl rfl rfl (Nat.le_of_ble_eq_true rfl) (Nat.le_of_ble_eq_true rfl) rfl rfl (hr) ?_
    refine st_aload_n rfl rfl (by decide) ?_
    refine st_aload_n rfl rfl (by decide) ?_
    refine st_iload_n rfl rfl ?_
    refine st_iconst rfl ?_
    refine st_iadd rfl (by omega) ?_
    refine st_iascr rfl (by omega) (by omega) ?_
    refine st_aload_n rfl rfl (by decide) ?_
    refine st_iload_n rfl rfl ?_
    refine st_iconst rfl ?_
    refine st_iadd rfl (by omega) ?_
    refine st_iascr rfl (by omega) (by omega) ?_
    refine st_if_eq rfl (fun h516 => ?_) (fun h516 => (by exfalso; exact h516 hb1))
    refine st_iconst rfl ?_
    refine st_cv1 (w := [_]) rfl rfl rfl (Nat.le_of_ble_eq_true rfl) (Nat.le_of_ble_eq_true rfl) rfl rfl (hm) ?_
    refine st_icmp_eq rfl (fun h521 => ?_) (fun h521 => (by exfalso; exact h521 rfl))
    exact hk _ _ _ hR2
  · obtain ⟨v, N1, P1, H1, N2, P2, H2, hr, ⟨t0, t2⟩, hm, hR2⟩ := case_run (L := L) (xs := xs) (s := H 2 (i + 1)) (w := 1)  N P H hR
    have e2 : H1 2 = H 2 := by rw [t2, s2]
    rw [← e2] at hm
    have hb1 : ¬ H1 2 (i + 2) = 0 := by rw [e2]; exact hb
    refine st_aload_n rfl rfl (by decide) ?_
    refine st_aload_n rfl rfl (by decide) ?_
    refine st_iload_n rfl rfl ?_
    refine st_iconst rfl ?_
    refine st_iadd rfl (by omega) ?_
    refine st_iascr rfl (by omega) (by omega) ?_
    refine st_aload_n rfl rfl (by decide) ?_
    refine st_iload_n rfl rfl ?_
    refine st_iconst rfl ?_
    refine st_iadd rfl (by omega) ?_
    refine st_iascr rfl (by omega) (by omega) ?_
    refine st_if_eq rfl (fun h500 => (by exfalso; exact hb h500)) (fun h500 => ?_)
    refine st_iconst rfl ?_
    refine st_goto rfl ?_
    refine st_cv1 (w := []) rfl rfl rfl (Nat.le_of_ble_eq_true rfl) (Nat.le_of_ble_eq_true rfl) rfl rfl (hr) ?_
    refine st_aload_n rfl rfl (by decide) ?_
    refine st_aload_n rfl rfl (by decide) ?_
    refine st_iload_n rfl rfl ?_
    refine st_iconst rfl ?_
    refine st_iadd rfl (by omega) ?_
    refine st_iascr rfl (by omega) (by omega) ?_
    refine st_aload_n rfl rfl (by decide) ?_
    refine st_iload_n rfl rfl ?_
    refine st_iconst rfl ?_
    refine st_iadd rfl (by omega) ?_
    refine st_iascr rfl (by omega) (by omega) ?_
    refine st_if_eq rfl (fun h516 => (by exfalso; exact hb1 h516)) (fun h516 => ?_)
    refine st_iconst rfl ?_
    refine st_goto rfl ?_
    refine st_cv1 (w := [_]) rfl rfl rfl (Nat.le_of_ble_eq_true rfl) (Nat.le_of_ble_eq_true rfl) rfl rfl (hm) ?_
    refine st_icmp_eq rfl (fun h521 => ?_) (fun h521 => (by exfalso; exact h521 rfl))
    exact hk _ _ _ hR2
set_option maxRecDepth 20000 in
theorem lw_c18 {L : Nat} {xs : Int → Int} {N : Nat} {P : am_P} {H : am_H} {i : Int} (hL : L ≤ 3072) (hx : ∀ k, -2147483648 ≤ xs k ∧ xs k < 2147483648) (i0 : 0 ≤ i) (i1 : i + 6 ≤ (L : Int)) (hR : Rel L xs N P H) (hk : ∀ N2 P2 H2, Rel L xs N2 P2 H2 → am_WP (am_R 8) cd_CartLaw_law (fun v σ' => v = some (am_i 1) ∧ σ'.1 ≤ 188) 922 [some (am_r 2), some (am_r 3), some (am_r 53), some (am_i i)] [] (N2, P2, H2)) : am_WP (am_R 8) cd_CartLaw_law (fun v σ' => v = some (am_i 1) ∧ σ'.1 ≤ 188) 524 [some (am_r 2), some (am_r 3), some (am_r 53), some (am_i i)] [] (N, P, H) := by
  obtain ⟨s0, s2⟩ := rel_s hR
  have hx2 : ∀ k, -2147483648 ≤ H 2 k ∧ H 2 k < 2147483648 := fun k => by rw [s2]; exact hx k
  obtain ⟨v, N1, P1, H1, N2, P2, H2, hr, ⟨t0, t2⟩, hm, hR2⟩ := case_seen (L := L) (xs := xs) (m := H 2 (i + 1))  N P H hR
  have e2 : H1 2 = H 2 := by rw [t2, s2]
  rw [← e2] at hm
  refine st_aload_n rfl rfl (by decide) ?_
  refine st_aload_n rfl rfl (by decide) ?_
  refine st_iload_n rfl rfl ?_
  refine st_iconst rfl ?_
  refine st_iadd rfl (by omega) ?_
  refine st_iascr rfl (by omega) (by omega) ?_
  refine st_cv1 (w := []) rfl rfl rfl (Nat.le_of_ble_eq_true rfl) (Nat.le_of_ble_eq_true rfl) rfl rfl (hr) ?_
  refine st_aload_n rfl rfl (by decide) ?_
  refine st_aload_n rfl rfl (by decide) ?_
  refine st_iload_n rfl rfl ?_
  refine st_iconst rfl ?_
  refine st_iadd rfl (by omega) ?_
  refine st_iascr rfl (by omega) (by omega) ?_
  refine st_cv1 (w := [_]) rfl rfl rfl (Nat.le_of_ble_eq_true rfl) (Nat.le_of_ble_eq_true rfl) rfl rfl (hm) ?_
  refine st_icmp_eq rfl (fun h538 => ?_) (fun h538 => (by exfalso; exact h538 rfl))
  exact hk _ _ _ hR2
set_option maxRecDepth 20000 in
theorem lw_c19 {L : Nat} {xs : Int → Int} {N : Nat} {P : am_P} {H : am_H} {i : Int} (hL : L ≤ 3072) (hx : ∀ k, -2147483648 ≤ xs k ∧ xs k < 2147483648) (i0 : 0 ≤ i) (i1 : i + 6 ≤ (L : Int)) (hR : Rel L xs N P H) (hk : ∀ N2 P2 H2, Rel L xs N2 P2 H2 → am_WP (am_R 8) cd_CartLaw_law (fun v σ' => v = some (am_i 1) ∧ σ'.1 ≤ 188) 922 [some (am_r 2), some (am_r 3), some (am_r 53), some (am_i i)] [] (N2, P2, H2)) : am_WP (am_R 8) cd_CartLaw_law (fun v σ' => v = some (am_i 1) ∧ σ'.1 ≤ 188) 541 [some (am_r 2), some (am_r 3), some (am_r 53), some (am_i i)] [] (N, P, H) := by
  obtain ⟨s0, s2⟩ := rel_s hR
  have hx2 : ∀ k, -2147483648 ≤ H 2 k ∧ H 2 k < 2147483648 := fun k => by rw [s2]; exact hx k
  obtain ⟨v, N1, P1, H1, N2, P2, H2, hr, ⟨t0, t2⟩, hm, hR2⟩ := case_read (L := L) (xs := xs) (k := H 2 (i + 1))  N P H hR
  have e2 : H1 2 = H 2 := by rw [t2, s2]
  rw [← e2] at hm
  refine st_aload_n rfl rfl (by decide) ?_
  refine st_aload_n rfl rfl (by decide) ?_
  refine st_iload_n rfl rfl ?_
  refine st_iconst rfl ?_
  refine st_iadd rfl (by omega) ?_
  refine st_iascr rfl (by omega) (by omega) ?_
  refine st_cv1 (w := []) rfl rfl rfl (Nat.le_of_ble_eq_true rfl) (Nat.le_of_ble_eq_true rfl) rfl rfl (hr) ?_
  refine st_aload_n rfl rfl (by decide) ?_
  refine st_aload_n rfl rfl (by decide) ?_
  refine st_iload_n rfl rfl ?_
  refine st_iconst rfl ?_
  refine st_iadd rfl (by omega) ?_
  refine st_iascr rfl (by omega) (by omega) ?_
  refine st_cv1 (w := [_]) rfl rfl rfl (Nat.le_of_ble_eq_true rfl) (Nat.le_of_ble_eq_true rfl) rfl rfl (hm) ?_
  refine st_icmp_eq rfl (fun h555 => ?_) (fun h555 => (by exfalso; exact h555 rfl))
  exact hk _ _ _ hR2
set_option maxRecDepth 20000 in
theorem lw_c20 {L : Nat} {xs : Int → Int} {N : Nat} {P : am_P} {H : am_H} {i : Int} (hL : L ≤ 3072) (hx : ∀ k, -2147483648 ≤ xs k ∧ xs k < 2147483648) (i0 : 0 ≤ i) (i1 : i + 6 ≤ (L : Int)) (hR : Rel L xs N P H) (hk : ∀ N2 P2 H2, Rel L xs N2 P2 H2 → am_WP (am_R 8) cd_CartLaw_law (fun v σ' => v = some (am_i 1) ∧ σ'.1 ≤ 188) 922 [some (am_r 2), some (am_r 3), some (am_r 53), some (am_i i)] [] (N2, P2, H2)) : am_WP (am_R 8) cd_CartLaw_law (fun v σ' => v = some (am_i 1) ∧ σ'.1 ≤ 188) 558 [some (am_r 2), some (am_r 3), some (am_r 53), some (am_i i)] [] (N, P, H) := by
  obtain ⟨s0, s2⟩ := rel_s hR
  have hx2 : ∀ k, -2147483648 ≤ H 2 k ∧ H 2 k < 2147483648 := fun k => by rw [s2]; exact hx k
  by_cases hb : H 2 (i + 1) = 0
  · obtain ⟨v, N1, P1, H1, N2, P2, H2, hr, ⟨t0, t2⟩, hm, hR2⟩ := case_order (L := L) (xs := xs) (w := 0) (k := H 2 (i + 2)) (by omega) (by have := hx2 (i + 2); omega) N P H hR
    have e2 : H1 2 = H 2 := by rw [t2, s2]
    rw [← e2] at hm
    have hb1 : H1 2 (i + 1) = 0 := by rw [e2]; exact hb
    refine st_aload_n rfl rfl (by decide) ?_
    refine st_aload_n rfl rfl (by decide) ?_
    refine st_iload_n rfl rfl ?_
    refine st_iconst rfl ?_
    refine st_iadd rfl (by omega) ?_
    refine st_iascr rfl (by omega) (by omega) ?_
    refine st_if_eq rfl (fun h564 => ?_) (fun h564 => (by exfalso; exact h564 hb))
    refine st_iconst rfl ?_
    refine st_aload_n rfl rfl (by decide) ?_
    refine st_iload_n rfl rfl ?_
    refine st_iconst rfl ?_
    refine st_iadd rfl (by omega) ?_
    refine st_iascr rfl (by omega) (by omega) ?_
    refine st_cv1 (w := []) rfl rfl rfl (Nat.le_of_ble_eq_true rfl) (Nat.le_of_ble_eq_true rfl) rfl rfl (hr) ?_
    refine st_aload_n rfl rfl (by decide) ?_
    refine st_aload_n rfl rfl (by decide) ?_
    refine st_iload_n rfl rfl ?_
    refine st_iconst rfl ?_
    refine st_iadd rfl (by omega) ?_
    refine st_iascr rfl (by omega) (by omega) ?_
    refine st_if_eq rfl (fun h580 => ?_) (fun h580 => (by exfalso; exact h580 hb1))
    refine st_iconst rfl ?_
    refine st_aload_n rfl rfl (by decide) ?_
    refine st_iload_n rfl rfl ?_
    refine st_iconst rfl ?_
    refine st_iadd rfl (by omega) ?_
    refine st_iascr rfl (by omega) (by omega) ?_
    refine st_cv1 (w := [_]) rfl rfl rfl (Nat.le_of_ble_eq_true rfl) (Nat.le_of_ble_eq_true rfl) rfl rfl (hm) ?_
    refine st_icmp_eq rfl (fun h590 => ?_) (fun h590 => (by exfalso; exact h590 rfl))
    exact hk _ _ _ hR2
  · obtain ⟨v, N1, P1, H1, N2, P2, H2, hr, ⟨t0, t2⟩, hm, hR2⟩ := case_order (L := L) (xs := xs) (w := 1) (k := H 2 (i + 2)) (by omega) (by have := hx2 (i + 2); omega) N P H hR
    have e2 : H1 2 = H 2 := by rw [t2, s2]
    rw [← e2] at hm
    have hb1 : ¬ H1 2 (i + 1) = 0 := by rw [e2]; exact hb
    refine st_aload_n rfl rfl (by decide) ?_
    refine st_aload_n rfl rfl (by decide) ?_
    refine st_iload_n rfl rfl ?_
    refine st_iconst rfl ?_
    refine st_iadd rfl (by omega) ?_
    refine st_iascr rfl (by omega) (by omega) ?_
    refine st_if_eq rfl (fun h564 => (by exfalso; exact hb h564)) (fun h564 => ?_)
    refine st_iconst rfl ?_
    refine st_goto rfl ?_
    refine st_aload_n rfl rfl (by decide) ?_
    refine st_iload_n rfl rfl ?_
    refine st_iconst rfl ?_
    refine st_iadd rfl (by omega) ?_
    refine st_iascr rfl (by omega) (by omega) ?_
    refine st_cv1 (w := []) rfl rfl rfl (Nat.le_of_ble_eq_true rfl) (Nat.le_of_ble_eq_true rfl) rfl rfl (hr) ?_
    refine st_aload_n rfl rfl (by decide) ?_
    refine st_aload_n rfl rfl (by decide) ?_
    refine st_iload_n rfl rfl ?_
    refine st_iconst rfl ?_
    refine st_iadd rfl (by omega) ?_
    refine st_iascr rfl (by omega) (by omega) ?_
    refine st_if_eq rfl (fun h580 => (by exfalso; exact hb1 h580)) (fun h580 => ?_)
    refine st_iconst rfl ?_
    refine st_goto rfl ?_
    refine st_aload_n rfl rfl (by decide) ?_
    refine st_iload_n rfl rfl ?_
    refine st_iconst rfl ?_
    refine st_iadd rfl (by omega) ?_
    refine st_iascr rfl (by omega) (by omega) ?_
    refine st_cv1 (w := [_]) rfl rfl rfl (Nat.le_of_ble_eq_true rfl) (Nat.le_of_ble_eq_true rfl) rfl rfl (hm) ?_
    refine st_icmp_eq rfl (fun h590 => ?_) (fun h590 => (by exfalso; exact h590 rfl))
    exact hk _ _ _ hR2
set_option maxRecDepth 20000 in
theorem lw_c21 {L : Nat} {xs : Int → Int} {N : Nat} {P : am_P} {H : am_H} {i : Int} (hL : L ≤ 3072) (hx : ∀ k, -2147483648 ≤ xs k ∧ xs k < 2147483648) (i0 : 0 ≤ i) (i1 : i + 6 ≤ (L : Int)) (hR : Rel L xs N P H) (hk : ∀ N2 P2 H2, Rel L xs N2 P2 H2 → am_WP (am_R 8) cd_CartLaw_law (fun v σ' => v = some (am_i 1) ∧ σ'.1 ≤ 188) 922 [some (am_r 2), some (am_r 3), some (am_r 53), some (am_i i)] [] (N2, P2, H2)) : am_WP (am_R 8) cd_CartLaw_law (fun v σ' => v = some (am_i 1) ∧ σ'.1 ≤ 188) 593 [some (am_r 2), some (am_r 3), some (am_r 53), some (am_i i)] [] (N, P, H) := by
  obtain ⟨s0, s2⟩ := rel_s hR
  have hx2 : ∀ k, -2147483648 ≤ H 2 k ∧ H 2 k < 2147483648 := fun k => by rw [s2]; exact hx k
  obtain ⟨v, N1, P1, H1, N2, P2, H2, hr, ⟨t0, t2⟩, hm, hR2⟩ := case_fewest (L := L) (xs := xs)   N P H hR
  have e2 : H1 2 = H 2 := by rw [t2, s2]
  refine st_aload_n rfl rfl (by decide) ?_
  refine st_cv1 (w := []) rfl rfl rfl (Nat.le_of_ble_eq_true rfl) (Nat.le_of_ble_eq_true rfl) rfl rfl (hr) ?_
  refine st_aload_n rfl rfl (by decide) ?_
  refine st_cv1 (w := [_]) rfl rfl rfl (Nat.le_of_ble_eq_true rfl) (Nat.le_of_ble_eq_true rfl) rfl rfl (hm) ?_
  refine st_icmp_eq rfl (fun h597 => ?_) (fun h597 => (by exfalso; exact h597 rfl))
  exact hk _ _ _ hR2
set_option maxRecDepth 20000 in
theorem lw_c22 {L : Nat} {xs : Int → Int} {N : Nat} {P : am_P} {H : am_H} {i : Int} (hL : L ≤ 3072) (hx : ∀ k, -2147483648 ≤ xs k ∧ xs k < 2147483648) (i0 : 0 ≤ i) (i1 : i + 6 ≤ (L : Int)) (hR : Rel L xs N P H) (hk : ∀ N2 P2 H2, Rel L xs N2 P2 H2 → am_WP (am_R 8) cd_CartLaw_law (fun v σ' => v = some (am_i 1) ∧ σ'.1 ≤ 188) 922 [some (am_r 2), some (am_r 3), some (am_r 53), some (am_i i)] [] (N2, P2, H2)) : am_WP (am_R 8) cd_CartLaw_law (fun v σ' => v = some (am_i 1) ∧ σ'.1 ≤ 188) 600 [some (am_r 2), some (am_r 3), some (am_r 53), some (am_i i)] [] (N, P, H) := by
  obtain ⟨s0, s2⟩ := rel_s hR
  have hx2 : ∀ k, -2147483648 ≤ H 2 k ∧ H 2 k < 2147483648 := fun k => by rw [s2]; exact hx k
  obtain ⟨v, N1, P1, H1, N2, P2, H2, hr, ⟨t0, t2⟩, hm, hR2⟩ := case_move (L := L) (xs := xs)   N P H hR
  have e2 : H1 2 = H 2 := by rw [t2, s2]
  refine st_aload_n rfl rfl (by decide) ?_
  refine st_cv1 (w := []) rfl rfl rfl (Nat.le_of_ble_eq_true rfl) (Nat.le_of_ble_eq_true rfl) rfl rfl (hr) ?_
  refine st_aload_n rfl rfl (by decide) ?_
  refine st_cv1 (w := [_]) rfl rfl rfl (Nat.le_of_ble_eq_true rfl) (Nat.le_of_ble_eq_true rfl) rfl rfl (hm) ?_
  refine st_icmp_eq rfl (fun h604 => ?_) (fun h604 => (by exfalso; exact h604 rfl))
  exact hk _ _ _ hR2
set_option maxRecDepth 20000 in
theorem lw_c23 {L : Nat} {xs : Int → Int} {N : Nat} {P : am_P} {H : am_H} {i : Int} (hL : L ≤ 3072) (hx : ∀ k, -2147483648 ≤ xs k ∧ xs k < 2147483648) (i0 : 0 ≤ i) (i1 : i + 6 ≤ (L : Int)) (hR : Rel L xs N P H) (hk : ∀ N2 P2 H2, Rel L xs N2 P2 H2 → am_WP (am_R 8) cd_CartLaw_law (fun v σ' => v = some (am_i 1) ∧ σ'.1 ≤ 188) 922 [some (am_r 2), some (am_r 3), some (am_r 53), some (am_i i)] [] (N2, P2, H2)) : am_WP (am_R 8) cd_CartLaw_law (fun v σ' => v = some (am_i 1) ∧ σ'.1 ≤ 188) 607 [some (am_r 2), some (am_r 3), some (am_r 53), some (am_i i)] [] (N, P, H) := by
  obtain ⟨s0, s2⟩ := rel_s hR
  have hx2 : ∀ k, -2147483648 ≤ H 2 k ∧ H 2 k < 2147483648 := fun k => by rw [s2]; exact hx k
  obtain ⟨v, N1, P1, H1, N2, P2, H2, hr, ⟨t0, t2⟩, hm, hR2⟩ := case_where (L := L) (xs := xs) (m := H 2 (i + 1))  N P H hR
  have e2 : H1 2 = H 2 := by rw [t2, s2]
  rw [← e2] at hm
  refine st_aload_n rfl rfl (by decide) ?_
  refine st_aload_n rfl rfl (by decide) ?_
  refine st_iload_n rfl rfl ?_
  refine st_iconst rfl ?_
  refine st_iadd rfl (by omega) ?_
  refine st_iascr rfl (by omega) (by omega) ?_
  refine st_cv1 (w := []) rfl rfl rfl (Nat.le_of_ble_eq_true rfl) (Nat.le_of_ble_eq_true rfl) rfl rfl (hr) ?_
  refine st_aload_n rfl rfl (by decide) ?_
  refine st_aload_n rfl rfl (by decide) ?_
  refine st_iload_n rfl rfl ?_
  refine st_iconst rfl ?_
  refine st_iadd rfl (by omega) ?_
  refine st_iascr rfl (by omega) (by omega) ?_
  refine st_cv1 (w := [_]) rfl rfl rfl (Nat.le_of_ble_eq_true rfl) (Nat.le_of_ble_eq_true rfl) rfl rfl (hm) ?_
  refine st_icmp_eq rfl (fun h621 => ?_) (fun h621 => (by exfalso; exact h621 rfl))
  exact hk _ _ _ hR2
set_option maxRecDepth 20000 in
theorem lw_c24 {L : Nat} {xs : Int → Int} {N : Nat} {P : am_P} {H : am_H} {i : Int} (hL : L ≤ 3072) (hx : ∀ k, -2147483648 ≤ xs k ∧ xs k < 2147483648) (i0 : 0 ≤ i) (i1 : i + 6 ≤ (L : Int)) (hR : Rel L xs N P H) (hk : ∀ N2 P2 H2, Rel L xs N2 P2 H2 → am_WP (am_R 8) cd_CartLaw_law (fun v σ' => v = some (am_i 1) ∧ σ'.1 ≤ 188) 922 [some (am_r 2), some (am_r 3), some (am_r 53), some (am_i i)] [] (N2, P2, H2)) : am_WP (am_R 8) cd_CartLaw_law (fun v σ' => v = some (am_i 1) ∧ σ'.1 ≤ 188) 624 [some (am_r 2), some (am_r 3), some (am_r 53), some (am_i i)] [] (N, P, H) := by
  obtain ⟨s0, s2⟩ := rel_s hR
  have hx2 : ∀ k, -2147483648 ≤ H 2 k ∧ H 2 k < 2147483648 := fun k => by rw [s2]; exact hx k
  obtain ⟨v, N1, P1, H1, N2, P2, H2, hr, ⟨t0, t2⟩, hm, hR2⟩ := case_between (L := L) (xs := xs) (m := H 2 (i + 1)) (w := H 2 (i + 2))  N P H hR
  have e2 : H1 2 = H 2 := by rw [t2, s2]
  rw [← e2] at hm
  refine st_aload_n rfl rfl (by decide) ?_
  refine st_aload_n rfl rfl (by decide) ?_
  refine st_iload_n rfl rfl ?_
  refine st_iconst rfl ?_
  refine st_iadd rfl (by omega) ?_
  refine st_iascr rfl (by omega) (by omega) ?_
  refine st_aload_n rfl rfl (by decide) ?_
  refine st_iload_n rfl rfl ?_
  refine st_iconst rfl ?_
  refine st_iadd rfl (by omega) ?_
  refine st_iascr rfl (by omega) (by omega) ?_
  refine st_cv1 (w := []) rfl rfl rfl (Nat.le_of_ble_eq_true rfl) (Nat.le_of_ble_eq_true rfl) rfl rfl (hr) ?_
  refine st_aload_n rfl rfl (by decide) ?_
  refine st_aload_n rfl rfl (by decide) ?_
  refine st_iload_n rfl rfl ?_
  refine st_iconst rfl ?_
  refine st_iadd rfl (by omega) ?_
  refine st_iascr rfl (by omega) (by omega) ?_
  refine st_aload_n rfl rfl (by decide) ?_
  refine st_iload_n rfl rfl ?_
  refine st_iconst rfl ?_
  refine st_iadd rfl (by omega) ?_
  refine st_iascr rfl (by omega) (by omega) ?_
  refine st_cv1 (w := [_]) rfl rfl rfl (Nat.le_of_ble_eq_true rfl) (Nat.le_of_ble_eq_true rfl) rfl rfl (hm) ?_
  refine st_icmp_eq rfl (fun h648 => ?_) (fun h648 => (by exfalso; exact h648 rfl))
  exact hk _ _ _ hR2
set_option maxRecDepth 20000 in
theorem lw_c25 {L : Nat} {xs : Int → Int} {N : Nat} {P : am_P} {H : am_H} {i : Int} (hL : L ≤ 3072) (hx : ∀ k, -2147483648 ≤ xs k ∧ xs k < 2147483648) (i0 : 0 ≤ i) (i1 : i + 6 ≤ (L : Int)) (hR : Rel L xs N P H) (hk : ∀ N2 P2 H2, Rel L xs N2 P2 H2 → am_WP (am_R 8) cd_CartLaw_law (fun v σ' => v = some (am_i 1) ∧ σ'.1 ≤ 188) 922 [some (am_r 2), some (am_r 3), some (am_r 53), some (am_i i)] [] (N2, P2, H2)) : am_WP (am_R 8) cd_CartLaw_law (fun v σ' => v = some (am_i 1) ∧ σ'.1 ≤ 188) 651 [some (am_r 2), some (am_r 3), some (am_r 53), some (am_i i)] [] (N, P, H) := by
  obtain ⟨s0, s2⟩ := rel_s hR
  have hx2 : ∀ k, -2147483648 ≤ H 2 k ∧ H 2 k < 2147483648 := fun k => by rw [s2]; exact hx k
  obtain ⟨v, N1, P1, H1, N2, P2, H2, hr, ⟨t0, t2⟩, hm, hR2⟩ := case_done (L := L) (xs := xs)   N P H hR
  have e2 : H1 2 = H 2 := by rw [t2, s2]
  refine st_aload_n rfl rfl (by decide) ?_
  refine st_cv1 (w := []) rfl rfl rfl (Nat.le_of_ble_eq_true rfl) (Nat.le_of_ble_eq_true rfl) rfl rfl (hr) ?_
  refine st_aload_n rfl rfl (by decide) ?_
  refine st_cv1 (w := [_]) rfl rfl rfl (Nat.le_of_ble_eq_true rfl) (Nat.le_of_ble_eq_true rfl) rfl rfl (hm) ?_
  refine st_icmp_eq rfl (fun h655 => ?_) (fun h655 => (by exfalso; exact h655 rfl))
  exact hk _ _ _ hR2
set_option maxRecDepth 20000 in
theorem lw_c26 {L : Nat} {xs : Int → Int} {N : Nat} {P : am_P} {H : am_H} {i : Int} (hL : L ≤ 3072) (hx : ∀ k, -2147483648 ≤ xs k ∧ xs k < 2147483648) (i0 : 0 ≤ i) (i1 : i + 6 ≤ (L : Int)) (hR : Rel L xs N P H) (hk : ∀ N2 P2 H2, Rel L xs N2 P2 H2 → am_WP (am_R 8) cd_CartLaw_law (fun v σ' => v = some (am_i 1) ∧ σ'.1 ≤ 188) 922 [some (am_r 2), some (am_r 3), some (am_r 53), some (am_i i)] [] (N2, P2, H2)) : am_WP (am_R 8) cd_CartLaw_law (fun v σ' => v = some (am_i 1) ∧ σ'.1 ≤ 188) 658 [some (am_r 2), some (am_r 3), some (am_r 53), some (am_i i)] [] (N, P, H) := by
  obtain ⟨s0, s2⟩ := rel_s hR
  have hx2 : ∀ k, -2147483648 ≤ H 2 k ∧ H 2 k < 2147483648 := fun k => by rw [s2]; exact hx k
  obtain ⟨v, N1, P1, H1, N2, P2, H2, hr, ⟨t0, t2⟩, hm, hR2⟩ := case_list (L := L) (xs := xs) (m := H 2 (i + 1)) (s := H 2 (i + 2))  N P H hR
  have e2 : H1 2 = H 2 := by rw [t2, s2]
  rw [← e2] at hm
  refine st_aload_n rfl rfl (by decide) ?_
  refine st_aload_n rfl rfl (by decide) ?_
  refine st_iload_n rfl rfl ?_
  refine st_iconst rfl ?_
  refine st_iadd rfl (by omega) ?_
  refine st_iascr rfl (by omega) (by omega) ?_
  refine st_aload_n rfl rfl (by decide) ?_
  refine st_iload_n rfl rfl ?_
  refine st_iconst rfl ?_
  refine st_iadd rfl (by omega) ?_
  refine st_iascr rfl (by omega) (by omega) ?_
  refine st_cv1 (w := []) rfl rfl rfl (Nat.le_of_ble_eq_true rfl) (Nat.le_of_ble_eq_true rfl) rfl rfl (hr) ?_
  refine st_aload_n rfl rfl (by decide) ?_
  refine st_aload_n rfl rfl (by decide) ?_
  refine st_iload_n rfl rfl ?_
  refine st_iconst rfl ?_
  refine st_iadd rfl (by omega) ?_
  refine st_iascr rfl (by omega) (by omega) ?_
  refine st_aload_n rfl rfl (by decide) ?_
  refine st_iload_n rfl rfl ?_
  refine st_iconst rfl ?_
  refine st_iadd rfl (by omega) ?_
  refine st_iascr rfl (by omega) (by omega) ?_
  refine st_cv1 (w := [_]) rfl rfl rfl (Nat.le_of_ble_eq_true rfl) (Nat.le_of_ble_eq_true rfl) rfl rfl (hm) ?_
  refine st_icmp_eq rfl (fun h682 => ?_) (fun h682 => (by exfalso; exact h682 rfl))
  exact hk _ _ _ hR2
set_option maxRecDepth 20000 in
theorem lw_c27 {L : Nat} {xs : Int → Int} {N : Nat} {P : am_P} {H : am_H} {i : Int} (hL : L ≤ 3072) (hx : ∀ k, -2147483648 ≤ xs k ∧ xs k < 2147483648) (i0 : 0 ≤ i) (i1 : i + 6 ≤ (L : Int)) (hR : Rel L xs N P H) (hk : ∀ N2 P2 H2, Rel L xs N2 P2 H2 → am_WP (am_R 8) cd_CartLaw_law (fun v σ' => v = some (am_i 1) ∧ σ'.1 ≤ 188) 922 [some (am_r 2), some (am_r 3), some (am_r 53), some (am_i i)] [] (N2, P2, H2)) : am_WP (am_R 8) cd_CartLaw_law (fun v σ' => v = some (am_i 1) ∧ σ'.1 ≤ 188) 685 [some (am_r 2), some (am_r 3), some (am_r 53), some (am_i i)] [] (N, P, H) := by
  obtain ⟨s0, s2⟩ := rel_s hR
  have hx2 : ∀ k, -2147483648 ≤ H 2 k ∧ H 2 k < 2147483648 := fun k => by rw [s2]; exact hx k
  obtain ⟨v, N1, P1, H1, N2, P2, H2, hr, ⟨t0, t2⟩, hm, hR2⟩ := case_forget (L := L) (xs := xs) (m := H 2 (i + 1))  N P H hR
  have e2 : H1 2 = H 2 := by rw [t2, s2]
  rw [← e2] at hm
  refine st_aload_n rfl rfl (by decide) ?_
  refine st_aload_n rfl rfl (by decide) ?_
  refine st_iload_n rfl rfl ?_
  refine st_iconst rfl ?_
  refine st_iadd rfl (by omega) ?_
  refine st_iascr rfl (by omega) (by omega) ?_
  refine st_cv1 (w := []) rfl rfl rfl (Nat.le_of_ble_eq_true rfl) (Nat.le_of_ble_eq_true rfl) rfl rfl (hr) ?_
  refine st_aload_n rfl rfl (by decide) ?_
  refine st_aload_n rfl rfl (by decide) ?_
  refine st_iload_n rfl rfl ?_
  refine st_iconst rfl ?_
  refine st_iadd rfl (by omega) ?_
  refine st_iascr rfl (by omega) (by omega) ?_
  refine st_cv1 (w := [_]) rfl rfl rfl (Nat.le_of_ble_eq_true rfl) (Nat.le_of_ble_eq_true rfl) rfl rfl (hm) ?_
  refine st_icmp_eq rfl (fun h699 => ?_) (fun h699 => (by exfalso; exact h699 rfl))
  exact hk _ _ _ hR2
set_option maxRecDepth 20000 in
theorem lw_c28 {L : Nat} {xs : Int → Int} {N : Nat} {P : am_P} {H : am_H} {i : Int} (hL : L ≤ 3072) (hx : ∀ k, -2147483648 ≤ xs k ∧ xs k < 2147483648) (i0 : 0 ≤ i) (i1 : i + 6 ≤ (L : Int)) (hR : Rel L xs N P H) (hk : ∀ N2 P2 H2, Rel L xs N2 P2 H2 → am_WP (am_R 8) cd_CartLaw_law (fun v σ' => v = some (am_i 1) ∧ σ'.1 ≤ 188) 922 [some (am_r 2), some (am_r 3), some (am_r 53), some (am_i i)] [] (N2, P2, H2)) : am_WP (am_R 8) cd_CartLaw_law (fun v σ' => v = some (am_i 1) ∧ σ'.1 ≤ 188) 702 [some (am_r 2), some (am_r 3), some (am_r 53), some (am_i i)] [] (N, P, H) := by
  obtain ⟨s0, s2⟩ := rel_s hR
  have hx2 : ∀ k, -2147483648 ≤ H 2 k ∧ H 2 k < 2147483648 := fun k => by rw [s2]; exact hx k
  obtain ⟨v, N1, P1, H1, N2, P2, H2, hr, ⟨t0, t2⟩, hm, hR2⟩ := case_listed (L := L) (xs := xs) (m := H 2 (i + 1))  N P H hR
  have e2 : H1 2 = H 2 := by rw [t2, s2]
  rw [← e2] at hm
  refine st_aload_n rfl rfl (by decide) ?_
  refine st_aload_n rfl rfl (by decide) ?_
  refine st_iload_n rfl rfl ?_
  refine st_iconst rfl ?_
  refine st_iadd rfl (by omega) ?_
  refine st_iascr rfl (by omega) (by omega) ?_
  refine st_cv1 (w := []) rfl rfl rfl (Nat.le_of_ble_eq_true rfl) (Nat.le_of_ble_eq_true rfl) rfl rfl (hr) ?_
  refine st_aload_n rfl rfl (by decide) ?_
  refine st_aload_n rfl rfl (by decide) ?_
  refine st_iload_n rfl rfl ?_
  refine st_iconst rfl ?_
  refine st_iadd rfl (by omega) ?_
  refine st_iascr rfl (by omega) (by omega) ?_
  refine st_cv1 (w := [_]) rfl rfl rfl (Nat.le_of_ble_eq_true rfl) (Nat.le_of_ble_eq_true rfl) rfl rfl (hm) ?_
  refine st_icmp_eq rfl (fun h716 => ?_) (fun h716 => (by exfalso; exact h716 rfl))
  exact hk _ _ _ hR2
set_option maxRecDepth 20000 in
theorem lw_c29 {L : Nat} {xs : Int → Int} {N : Nat} {P : am_P} {H : am_H} {i : Int} (hL : L ≤ 3072) (hx : ∀ k, -2147483648 ≤ xs k ∧ xs k < 2147483648) (i0 : 0 ≤ i) (i1 : i + 6 ≤ (L : Int)) (hR : Rel L xs N P H) (hk : ∀ N2 P2 H2, Rel L xs N2 P2 H2 → am_WP (am_R 8) cd_CartLaw_law (fun v σ' => v = some (am_i 1) ∧ σ'.1 ≤ 188) 922 [some (am_r 2), some (am_r 3), some (am_r 53), some (am_i i)] [] (N2, P2, H2)) : am_WP (am_R 8) cd_CartLaw_law (fun v σ' => v = some (am_i 1) ∧ σ'.1 ≤ 188) 719 [some (am_r 2), some (am_r 3), some (am_r 53), some (am_i i)] [] (N, P, H) := by
  obtain ⟨s0, s2⟩ := rel_s hR
  have hx2 : ∀ k, -2147483648 ≤ H 2 k ∧ H 2 k < 2147483648 := fun k => by rw [s2]; exact hx k
  obtain ⟨v, N1, P1, H1, N2, P2, H2, hr, ⟨t0, t2⟩, hm, hR2⟩ := case_found (L := L) (xs := xs) (s := H 2 (i + 1)) (w := H 2 (i + 2)) (k := H 2 (i + 3)) (by have := hx2 (i + 3); omega) N P H hR
  have e2 : H1 2 = H 2 := by rw [t2, s2]
  rw [← e2] at hm
  refine st_aload_n rfl rfl (by decide) ?_
  refine st_aload_n rfl rfl (by decide) ?_
  refine st_iload_n rfl rfl ?_
  refine st_iconst rfl ?_
  refine st_iadd rfl (by omega) ?_
  refine st_iascr rfl (by omega) (by omega) ?_
  refine st_aload_n rfl rfl (by decide) ?_
  refine st_iload_n rfl rfl ?_
  refine st_iconst rfl ?_
  refine st_iadd rfl (by omega) ?_
  refine st_iascr rfl (by omega) (by omega) ?_
  refine st_aload_n rfl rfl (by decide) ?_
  refine st_iload_n rfl rfl ?_
  refine st_iconst rfl ?_
  refine st_iadd rfl (by omega) ?_
  refine st_iascr rfl (by omega) (by omega) ?_
  refine st_cv1 (w := []) rfl rfl rfl (Nat.le_of_ble_eq_true rfl) (Nat.le_of_ble_eq_true rfl) rfl rfl (hr) ?_
  refine st_aload_n rfl rfl (by decide) ?_
  refine st_aload_n rfl rfl (by decide) ?_
  refine st_iload_n rfl rfl ?_
  refine st_iconst rfl ?_
  refine st_iadd rfl (by omega) ?_
  refine st_iascr rfl (by omega) (by omega) ?_
  refine st_aload_n rfl rfl (by decide) ?_
  refine st_iload_n rfl rfl ?_
  refine st_iconst rfl ?_
  refine st_iadd rfl (by omega) ?_
  refine st_iascr rfl (by omega) (by omega) ?_
  refine st_aload_n rfl rfl (by decide) ?_
  refine st_iload_n rfl rfl ?_
  refine st_iconst rfl ?_
  refine st_iadd rfl (by omega) ?_
  refine st_iascr rfl (by omega) (by omega) ?_
  refine st_cv1 (w := [_]) rfl rfl rfl (Nat.le_of_ble_eq_true rfl) (Nat.le_of_ble_eq_true rfl) rfl rfl (hm) ?_
  refine st_icmp_eq rfl (fun h753 => ?_) (fun h753 => (by exfalso; exact h753 rfl))
  exact hk _ _ _ hR2
set_option maxRecDepth 20000 in
theorem lw_c30 {L : Nat} {xs : Int → Int} {N : Nat} {P : am_P} {H : am_H} {i : Int} (hL : L ≤ 3072) (hx : ∀ k, -2147483648 ≤ xs k ∧ xs k < 2147483648) (i0 : 0 ≤ i) (i1 : i + 6 ≤ (L : Int)) (hR : Rel L xs N P H) (hk : ∀ N2 P2 H2, Rel L xs N2 P2 H2 → am_WP (am_R 8) cd_CartLaw_law (fun v σ' => v = some (am_i 1) ∧ σ'.1 ≤ 188) 922 [some (am_r 2), some (am_r 3), some (am_r 53), some (am_i i)] [] (N2, P2, H2)) : am_WP (am_R 8) cd_CartLaw_law (fun v σ' => v = some (am_i 1) ∧ σ'.1 ≤ 188) 756 [some (am_r 2), some (am_r 3), some (am_r 53), some (am_i i)] [] (N, P, H) := by
  obtain ⟨s0, s2⟩ := rel_s hR
  have hx2 : ∀ k, -2147483648 ≤ H 2 k ∧ H 2 k < 2147483648 := fun k => by rw [s2]; exact hx k
  obtain ⟨v, N1, P1, H1, N2, P2, H2, hr, ⟨t0, t2⟩, hm, hR2⟩ := case_check (L := L) (xs := xs) (s := H 2 (i + 1))  N P H hR
  have e2 : H1 2 = H 2 := by rw [t2, s2]
  rw [← e2] at hm
  refine st_aload_n rfl rfl (by decide) ?_
  refine st_aload_n rfl rfl (by decide) ?_
  refine st_iload_n rfl rfl ?_
  refine st_iconst rfl ?_
  refine st_iadd rfl (by omega) ?_
  refine st_iascr rfl (by omega) (by omega) ?_
  refine st_cv1 (w := []) rfl rfl rfl (Nat.le_of_ble_eq_true rfl) (Nat.le_of_ble_eq_true rfl) rfl rfl (hr) ?_
  refine st_aload_n rfl rfl (by decide) ?_
  refine st_aload_n rfl rfl (by decide) ?_
  refine st_iload_n rfl rfl ?_
  refine st_iconst rfl ?_
  refine st_iadd rfl (by omega) ?_
  refine st_iascr rfl (by omega) (by omega) ?_
  refine st_cv1 (w := [_]) rfl rfl rfl (Nat.le_of_ble_eq_true rfl) (Nat.le_of_ble_eq_true rfl) rfl rfl (hm) ?_
  refine st_icmp_eq rfl (fun h770 => ?_) (fun h770 => (by exfalso; exact h770 rfl))
  exact hk _ _ _ hR2
set_option maxRecDepth 20000 in
theorem lw_c31 {L : Nat} {xs : Int → Int} {N : Nat} {P : am_P} {H : am_H} {i : Int} (hL : L ≤ 3072) (hx : ∀ k, -2147483648 ≤ xs k ∧ xs k < 2147483648) (i0 : 0 ≤ i) (i1 : i + 6 ≤ (L : Int)) (hR : Rel L xs N P H) (hk : ∀ N2 P2 H2, Rel L xs N2 P2 H2 → am_WP (am_R 8) cd_CartLaw_law (fun v σ' => v = some (am_i 1) ∧ σ'.1 ≤ 188) 922 [some (am_r 2), some (am_r 3), some (am_r 53), some (am_i i)] [] (N2, P2, H2)) : am_WP (am_R 8) cd_CartLaw_law (fun v σ' => v = some (am_i 1) ∧ σ'.1 ≤ 188) 773 [some (am_r 2), some (am_r 3), some (am_r 53), some (am_i i)] [] (N, P, H) := by
  obtain ⟨s0, s2⟩ := rel_s hR
  have hx2 : ∀ k, -2147483648 ≤ H 2 k ∧ H 2 k < 2147483648 := fun k => by rw [s2]; exact hx k
  obtain ⟨v, N1, P1, H1, N2, P2, H2, hr, ⟨t0, t2⟩, hm, hR2⟩ := case_grow (L := L) (xs := xs) (x := H 2 (i + 1)) (y := H 2 (i + 2)) (z := H 2 (i + 3))  N P H hR
  have e2 : H1 2 = H 2 := by rw [t2, s2]
  rw [← e2] at hm
  refine st_aload_n rfl rfl (by decide) ?_
  refine st_aload_n rfl rfl (by decide) ?_
  refine st_iload_n rfl rfl ?_
  refine st_iconst rfl ?_
  refine st_iadd rfl (by omega) ?_
  refine st_iascr rfl (by omega) (by omega) ?_
  refine st_aload_n rfl rfl (by decide) ?_
  refine st_iload_n rfl rfl ?_
  refine st_iconst rfl ?_
  refine st_iadd rfl (by omega) ?_
  refine st_iascr rfl (by omega) (by omega) ?_
  refine st_aload_n rfl rfl (by decide) ?_
  refine st_iload_n rfl rfl ?_
  refine st_iconst rfl ?_
  refine st_iadd rfl (by omega) ?_
  refine st_iascr rfl (by omega) (by omega) ?_
  refine st_cv1 (w := []) rfl rfl rfl (Nat.le_of_ble_eq_true rfl) (Nat.le_of_ble_eq_true rfl) rfl rfl (hr) ?_
  refine st_aload_n rfl rfl (by decide) ?_
  refine st_aload_n rfl rfl (by decide) ?_
  refine st_iload_n rfl rfl ?_
  refine st_iconst rfl ?_
  refine st_iadd rfl (by omega) ?_
  refine st_iascr rfl (by omega) (by omega) ?_
  refine st_aload_n rfl rfl (by decide) ?_
  refine st_iload_n rfl rfl ?_
  refine st_iconst rfl ?_
  refine st_iadd rfl (by omega) ?_
  refine st_iascr rfl (by omega) (by omega) ?_
  refine st_aload_n rfl rfl (by decide) ?_
  refine st_iload_n rfl rfl ?_
  refine st_iconst rfl ?_
  refine st_iadd rfl (by omega) ?_
  refine st_iascr rfl (by omega) (by omega) ?_
  refine st_cv1 (w := [_]) rfl rfl rfl (Nat.le_of_ble_eq_true rfl) (Nat.le_of_ble_eq_true rfl) rfl rfl (hm) ?_
  refine st_icmp_eq rfl (fun h807 => ?_) (fun h807 => (by exfalso; exact h807 rfl))
  exact hk _ _ _ hR2
set_option maxRecDepth 20000 in
theorem lw_c32 {L : Nat} {xs : Int → Int} {N : Nat} {P : am_P} {H : am_H} {i : Int} (hL : L ≤ 3072) (hx : ∀ k, -2147483648 ≤ xs k ∧ xs k < 2147483648) (i0 : 0 ≤ i) (i1 : i + 6 ≤ (L : Int)) (hR : Rel L xs N P H) (hk : ∀ N2 P2 H2, Rel L xs N2 P2 H2 → am_WP (am_R 8) cd_CartLaw_law (fun v σ' => v = some (am_i 1) ∧ σ'.1 ≤ 188) 922 [some (am_r 2), some (am_r 3), some (am_r 53), some (am_i i)] [] (N2, P2, H2)) : am_WP (am_R 8) cd_CartLaw_law (fun v σ' => v = some (am_i 1) ∧ σ'.1 ≤ 188) 810 [some (am_r 2), some (am_r 3), some (am_r 53), some (am_i i)] [] (N, P, H) := by
  obtain ⟨s0, s2⟩ := rel_s hR
  have hx2 : ∀ k, -2147483648 ≤ H 2 k ∧ H 2 k < 2147483648 := fun k => by rw [s2]; exact hx k
  obtain ⟨v, N1, P1, H1, N2, P2, H2, hr, ⟨t0, t2⟩, hm, hR2⟩ := case_full (L := L) (xs := xs)   N P H hR
  have e2 : H1 2 = H 2 := by rw [t2, s2]
  refine st_aload_n rfl rfl (by decide) ?_
  refine st_cv1 (w := []) rfl rfl rfl (Nat.le_of_ble_eq_true rfl) (Nat.le_of_ble_eq_true rfl) rfl rfl (hr) ?_
  refine st_aload_n rfl rfl (by decide) ?_
  refine st_cv1 (w := [_]) rfl rfl rfl (Nat.le_of_ble_eq_true rfl) (Nat.le_of_ble_eq_true rfl) rfl rfl (hm) ?_
  refine st_icmp_eq rfl (fun h814 => ?_) (fun h814 => (by exfalso; exact h814 rfl))
  exact hk _ _ _ hR2
set_option maxRecDepth 20000 in
theorem lw_c33 {L : Nat} {xs : Int → Int} {N : Nat} {P : am_P} {H : am_H} {i : Int} (hL : L ≤ 3072) (hx : ∀ k, -2147483648 ≤ xs k ∧ xs k < 2147483648) (i0 : 0 ≤ i) (i1 : i + 6 ≤ (L : Int)) (hR : Rel L xs N P H) (hk : ∀ N2 P2 H2, Rel L xs N2 P2 H2 → am_WP (am_R 8) cd_CartLaw_law (fun v σ' => v = some (am_i 1) ∧ σ'.1 ≤ 188) 922 [some (am_r 2), some (am_r 3), some (am_r 53), some (am_i i)] [] (N2, P2, H2)) : am_WP (am_R 8) cd_CartLaw_law (fun v σ' => v = some (am_i 1) ∧ σ'.1 ≤ 188) 817 [some (am_r 2), some (am_r 3), some (am_r 53), some (am_i i)] [] (N, P, H) := by
  obtain ⟨s0, s2⟩ := rel_s hR
  have hx2 : ∀ k, -2147483648 ≤ H 2 k ∧ H 2 k < 2147483648 := fun k => by rw [s2]; exact hx k
  obtain ⟨v, N1, P1, H1, N2, P2, H2, hr, ⟨t0, t2⟩, hm, hR2⟩ := case_shift (L := L) (xs := xs) (f := H 2 (i + 1)) (l := H 2 (i + 2)) (le := H 2 (i + 3)) (gr := H 2 (i + 4))  N P H hR
  have e2 : H1 2 = H 2 := by rw [t2, s2]
  rw [← e2] at hm
  refine st_aload_n rfl rfl (by decide) ?_
  refine st_aload_n rfl rfl (by decide) ?_
  refine st_iload_n rfl rfl ?_
  refine st_iconst rfl ?_
  refine st_iadd rfl (by omega) ?_
  refine st_iascr rfl (by omega) (by omega) ?_
  refine st_aload_n rfl rfl (by decide) ?_
  refine st_iload_n rfl rfl ?_
  refine st_iconst rfl ?_
  refine st_iadd rfl (by omega) ?_
  refine st_iascr rfl (by omega) (by omega) ?_
  refine st_aload_n rfl rfl (by decide) ?_
  refine st_iload_n rfl rfl ?_
  refine st_iconst rfl ?_
  refine st_iadd rfl (by omega) ?_
  refine st_iascr rfl (by omega) (by omega) ?_
  refine st_aload_n rfl rfl (by decide) ?_
  refine st_iload_n rfl rfl ?_
  refine st_iconst rfl ?_
  refine st_iadd rfl (by omega) ?_
  refine st_iascr rfl (by omega) (by omega) ?_
  refine st_cv1 (w := []) rfl rfl rfl (Nat.le_of_ble_eq_true rfl) (Nat.le_of_ble_eq_true rfl) rfl rfl (hr) ?_
  refine st_aload_n rfl rfl (by decide) ?_
  refine st_aload_n rfl rfl (by decide) ?_
  refine st_iload_n rfl rfl ?_
  refine st_iconst rfl ?_
  refine st_iadd rfl (by omega) ?_
  refine st_iascr rfl (by omega) (by omega) ?_
  refine st_aload_n rfl rfl (by decide) ?_
  refine st_iload_n rfl rfl ?_
  refine st_iconst rfl ?_
  refine st_iadd rfl (by omega) ?_
  refine st_iascr rfl (by omega) (by omega) ?_
  refine st_aload_n rfl rfl (by decide) ?_
  refine st_iload_n rfl rfl ?_
  refine st_iconst rfl ?_
  refine st_iadd rfl (by omega) ?_
  refine st_iascr rfl (by omega) (by omega) ?_
  refine st_aload_n rfl rfl (by decide) ?_
  refine st_iload_n rfl rfl ?_
  refine st_iconst rfl ?_
  refine st_iadd rfl (by omega) ?_
  refine st_iascr rfl (by omega) (by omega) ?_
  refine st_cv1 (w := [_]) rfl rfl rfl (Nat.le_of_ble_eq_true rfl) (Nat.le_of_ble_eq_true rfl) rfl rfl (hm) ?_
  refine st_icmp_eq rfl (fun h861 => ?_) (fun h861 => (by exfalso; exact h861 rfl))
  exact hk _ _ _ hR2
set_option maxRecDepth 20000 in
theorem lw_c34 {L : Nat} {xs : Int → Int} {N : Nat} {P : am_P} {H : am_H} {i : Int} (hL : L ≤ 3072) (hx : ∀ k, -2147483648 ≤ xs k ∧ xs k < 2147483648) (i0 : 0 ≤ i) (i1 : i + 6 ≤ (L : Int)) (hR : Rel L xs N P H) (hk : ∀ N2 P2 H2, Rel L xs N2 P2 H2 → am_WP (am_R 8) cd_CartLaw_law (fun v σ' => v = some (am_i 1) ∧ σ'.1 ≤ 188) 922 [some (am_r 2), some (am_r 3), some (am_r 53), some (am_i i)] [] (N2, P2, H2)) : am_WP (am_R 8) cd_CartLaw_law (fun v σ' => v = some (am_i 1) ∧ σ'.1 ≤ 188) 864 [some (am_r 2), some (am_r 3), some (am_r 53), some (am_i i)] [] (N, P, H) := by
  obtain ⟨s0, s2⟩ := rel_s hR
  have hx2 : ∀ k, -2147483648 ≤ H 2 k ∧ H 2 k < 2147483648 := fun k => by rw [s2]; exact hx k
  obtain ⟨v, N1, P1, H1, N2, P2, H2, hr, ⟨t0, t2⟩, hm, hR2⟩ := case_plan (L := L) (xs := xs) (k := H 2 (i + 1))  N P H hR
  have e2 : H1 2 = H 2 := by rw [t2, s2]
  rw [← e2] at hm
  refine st_aload_n rfl rfl (by decide) ?_
  refine st_aload_n rfl rfl (by decide) ?_
  refine st_iload_n rfl rfl ?_
  refine st_iconst rfl ?_
  refine st_iadd rfl (by omega) ?_
  refine st_iascr rfl (by omega) (by omega) ?_
  refine st_cv1 (w := []) rfl rfl rfl (Nat.le_of_ble_eq_true rfl) (Nat.le_of_ble_eq_true rfl) rfl rfl (hr) ?_
  refine st_aload_n rfl rfl (by decide) ?_
  refine st_aload_n rfl rfl (by decide) ?_
  refine st_iload_n rfl rfl ?_
  refine st_iconst rfl ?_
  refine st_iadd rfl (by omega) ?_
  refine st_iascr rfl (by omega) (by omega) ?_
  refine st_cv1 (w := [_]) rfl rfl rfl (Nat.le_of_ble_eq_true rfl) (Nat.le_of_ble_eq_true rfl) rfl rfl (hm) ?_
  refine st_icmp_eq rfl (fun h878 => ?_) (fun h878 => (by exfalso; exact h878 rfl))
  exact hk _ _ _ hR2
set_option maxRecDepth 20000 in
theorem lw_c35 {L : Nat} {xs : Int → Int} {N : Nat} {P : am_P} {H : am_H} {i : Int} (hL : L ≤ 3072) (hx : ∀ k, -2147483648 ≤ xs k ∧ xs k < 2147483648) (i0 : 0 ≤ i) (i1 : i + 6 ≤ (L : Int)) (hR : Rel L xs N P H) (hk : ∀ N2 P2 H2, Rel L xs N2 P2 H2 → am_WP (am_R 8) cd_CartLaw_law (fun v σ' => v = some (am_i 1) ∧ σ'.1 ≤ 188) 922 [some (am_r 2), some (am_r 3), some (am_r 53), some (am_i i)] [] (N2, P2, H2)) : am_WP (am_R 8) cd_CartLaw_law (fun v σ' => v = some (am_i 1) ∧ σ'.1 ≤ 188) 881 [some (am_r 2), some (am_r 3), some (am_r 53), some (am_i i)] [] (N, P, H) := by
  obtain ⟨s0, s2⟩ := rel_s hR
  have hx2 : ∀ k, -2147483648 ≤ H 2 k ∧ H 2 k < 2147483648 := fun k => by rw [s2]; exact hx k
  obtain ⟨v, N1, P1, H1, N2, P2, H2, hr, ⟨t0, t2⟩, hm, hR2⟩ := case_lift (L := L) (xs := xs)   N P H hR
  have e2 : H1 2 = H 2 := by rw [t2, s2]
  refine st_aload_n rfl rfl (by decide) ?_
  refine st_cv1 (w := []) rfl rfl rfl (Nat.le_of_ble_eq_true rfl) (Nat.le_of_ble_eq_true rfl) rfl rfl (hr) ?_
  refine st_aload_n rfl rfl (by decide) ?_
  refine st_cv1 (w := [_]) rfl rfl rfl (Nat.le_of_ble_eq_true rfl) (Nat.le_of_ble_eq_true rfl) rfl rfl (hm) ?_
  refine st_icmp_eq rfl (fun h885 => ?_) (fun h885 => (by exfalso; exact h885 rfl))
  exact hk _ _ _ hR2
set_option maxRecDepth 20000 in
theorem lw_c36 {L : Nat} {xs : Int → Int} {N : Nat} {P : am_P} {H : am_H} {i : Int} (hL : L ≤ 3072) (hx : ∀ k, -2147483648 ≤ xs k ∧ xs k < 2147483648) (i0 : 0 ≤ i) (i1 : i + 6 ≤ (L : Int)) (hR : Rel L xs N P H) (hk : ∀ N2 P2 H2, Rel L xs N2 P2 H2 → am_WP (am_R 8) cd_CartLaw_law (fun v σ' => v = some (am_i 1) ∧ σ'.1 ≤ 188) 922 [some (am_r 2), some (am_r 3), some (am_r 53), some (am_i i)] [] (N2, P2, H2)) : am_WP (am_R 8) cd_CartLaw_law (fun v σ' => v = some (am_i 1) ∧ σ'.1 ≤ 188) 888 [some (am_r 2), some (am_r 3), some (am_r 53), some (am_i i)] [] (N, P, H) := by
  obtain ⟨s0, s2⟩ := rel_s hR
  have hx2 : ∀ k, -2147483648 ≤ H 2 k ∧ H 2 k < 2147483648 := fun k => by rw [s2]; exact hx k
  obtain ⟨v, N1, P1, H1, N2, P2, H2, hr, ⟨t0, t2⟩, hm, hR2⟩ := case_image (L := L) (xs := xs) (k := H 2 (i + 1))  N P H hR
  have e2 : H1 2 = H 2 := by rw [t2, s2]
  rw [← e2] at hm
  refine st_aload_n rfl rfl (by decide) ?_
  refine st_aload_n rfl rfl (by decide) ?_
  refine st_iload_n rfl rfl ?_
  refine st_iconst rfl ?_
  refine st_iadd rfl (by omega) ?_
  refine st_iascr rfl (by omega) (by omega) ?_
  refine st_cv1 (w := []) rfl rfl rfl (Nat.le_of_ble_eq_true rfl) (Nat.le_of_ble_eq_true rfl) rfl rfl (hr) ?_
  refine st_aload_n rfl rfl (by decide) ?_
  refine st_aload_n rfl rfl (by decide) ?_
  refine st_iload_n rfl rfl ?_
  refine st_iconst rfl ?_
  refine st_iadd rfl (by omega) ?_
  refine st_iascr rfl (by omega) (by omega) ?_
  refine st_cv1 (w := [_]) rfl rfl rfl (Nat.le_of_ble_eq_true rfl) (Nat.le_of_ble_eq_true rfl) rfl rfl (hm) ?_
  refine st_icmp_eq rfl (fun h902 => ?_) (fun h902 => (by exfalso; exact h902 rfl))
  exact hk _ _ _ hR2
set_option maxRecDepth 20000 in
theorem lw_c37 {L : Nat} {xs : Int → Int} {N : Nat} {P : am_P} {H : am_H} {i : Int} (hL : L ≤ 3072) (hx : ∀ k, -2147483648 ≤ xs k ∧ xs k < 2147483648) (i0 : 0 ≤ i) (i1 : i + 6 ≤ (L : Int)) (hR : Rel L xs N P H) (hk : ∀ N2 P2 H2, Rel L xs N2 P2 H2 → am_WP (am_R 8) cd_CartLaw_law (fun v σ' => v = some (am_i 1) ∧ σ'.1 ≤ 188) 922 [some (am_r 2), some (am_r 3), some (am_r 53), some (am_i i)] [] (N2, P2, H2)) : am_WP (am_R 8) cd_CartLaw_law (fun v σ' => v = some (am_i 1) ∧ σ'.1 ≤ 188) 905 [some (am_r 2), some (am_r 3), some (am_r 53), some (am_i i)] [] (N, P, H) := by
  obtain ⟨s0, s2⟩ := rel_s hR
  have hx2 : ∀ k, -2147483648 ≤ H 2 k ∧ H 2 k < 2147483648 := fun k => by rw [s2]; exact hx k
  obtain ⟨v, N1, P1, H1, N2, P2, H2, hr, ⟨t0, t2⟩, hm, hR2⟩ := case_again (L := L) (xs := xs) (k := H 2 (i + 1))  N P H hR
  have e2 : H1 2 = H 2 := by rw [t2, s2]
  rw [← e2] at hm
  refine st_aload_n rfl rfl (by decide) ?_
  refine st_aload_n rfl rfl (by decide) ?_
  refine st_iload_n rfl rfl ?_
  refine st_iconst rfl ?_
  refine st_iadd rfl (by omega) ?_
  refine st_iascr rfl (by omega) (by omega) ?_
  refine st_cv1 (w := []) rfl rfl rfl (Nat.le_of_ble_eq_true rfl) (Nat.le_of_ble_eq_true rfl) rfl rfl (hr) ?_
  refine st_aload_n rfl rfl (by decide) ?_
  refine st_aload_n rfl rfl (by decide) ?_
  refine st_iload_n rfl rfl ?_
  refine st_iconst rfl ?_
  refine st_iadd rfl (by omega) ?_
  refine st_iascr rfl (by omega) (by omega) ?_
  refine st_cv1 (w := [_]) rfl rfl rfl (Nat.le_of_ble_eq_true rfl) (Nat.le_of_ble_eq_true rfl) rfl rfl (hm) ?_
  refine st_icmp_eq rfl (fun h919 => ?_) (fun h919 => (by exfalso; exact h919 rfl))
  exact hk _ _ _ hR2
