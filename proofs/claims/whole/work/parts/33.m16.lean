/-! ===== the reference: writing ===== -/
abbrev OS := (Int → Int) × Int
def inkF (s : OS) (c : Int) : OS := (am_uf s.1 s.2 c, s.2 + 1)
def oH (H : am_H) (s : OS) : am_H := am_so (am_so H 61 s.1) 53 (am_uf (H 53) 13 s.2)
theorem oH_13 (H : am_H) (s : OS) : oH H s 53 13 = s.2 := by unfold oH; rw [am_so_at, am_uf_eq]
theorem oH_k (H : am_H) (s : OS) {k : Int} (h : k ≠ 13) : oH H s 53 k = H 53 k := by unfold oH; rw [am_so_at, am_uf_ne _ _ h]
theorem oH_o (H : am_H) (s : OS) {o : Nat} (h : o ≠ 61) (h2 : o ≠ 53) : oH H s o = H o := by unfold oH; rw [am_so_ne _ _ h2, am_so_ne _ _ h]
theorem oH_61 (H : am_H) (s : OS) : oH H s 61 = s.1 := by unfold oH; rw [am_so_ne _ _ (by decide), am_so_at]
theorem oH_54 (H : am_H) (s : OS) : oH H s 54 = H 54 := rfl
theorem oH_i (H : am_H) (s : OS) (c : Int) : am_up (am_up (oH H s) 61 s.2 c) 53 13 (s.2 + 1) = oH H (inkF s c) := by
  funext o
  by_cases h : o = 53
  · subst h
    funext k
    rw [am_up_eq, am_up_ne (by decide)]
    unfold am_uf
    split
    · rename_i hk; rw [hk, oH_13]; rfl
    · rename_i hk; rw [oH_k _ _ hk, oH_k _ _ hk]
  · rw [am_up_ne h]
    by_cases h2 : o = 61
    · subst h2; rw [am_up_eq, oH_61, oH_61]; rfl
    · rw [am_up_ne h2, oH_o _ _ h2 h, oH_o _ _ h2 h]
theorem oH_0 (H : am_H) : oH H (H 61, 0) = am_up H 53 13 0 := by
  funext o
  by_cases h : o = 53
  · subst h
    unfold oH
    rw [am_up_eq, am_so_at]
  · rw [am_up_ne h]
    by_cases h2 : o = 61
    · subst h2; rw [oH_61]
    · rw [oH_o _ _ h2 h]
theorem w8_i {c : Int} (h : 0 ≤ c ∧ c < 128) : w8 c = c := by unfold w8; omega

theorem r_Model_ink {d N : Nat} {P : am_P} {H : am_H} {s : OS} {c : Int} (hP : PZ P) (h0 : 0 ≤ s.2) (h1 : s.2 < 80) (hc : 0 ≤ c ∧ c < 128) : am_R (d + 1) 70 [am_r 53, am_i (c)] (N, P, oH H s) none (N, P, oH H (inkF s c)) := by
  refine am_en1 (d := d + 0) (ml := 2) (ls := [_, _]) cq_Model_ink rfl (Nat.le_of_ble_eq_true rfl) rfl ?_
  refine st_aload_n rfl rfl (by decide) ?_
  refine st_getR (kk := 12) rfl rfl rfl (pz_53_12 hP) rfl ?_
  refine st_aload_n rfl rfl (by decide) ?_
  refine st_getI (kk := 13) rfl rfl (by decide) rfl ?_
  rw [oH_13]
  refine st_iload_n rfl rfl ?_
  refine st_i2b rfl (w8_i hc) ?_
  refine st_bastoreB rfl rfl (by omega) (by omega) ?_
  refine st_aload_n rfl rfl (by decide) ?_
  refine st_dup rfl rfl ?_
  refine st_getI (kk := 13) rfl rfl (by decide) rfl ?_
  rw [am_up_ne (by decide), oH_13]
  refine st_iconst rfl ?_
  refine st_iadd rfl (by omega) ?_
  refine st_putI (kk := 13) rfl rfl rfl rfl ?_
  refine st_ret rfl ?_
  refine ⟨rfl, ?_⟩
  rw [← oH_i H s c, w8_i hc]
def tnF : Nat → Int
  | 0 => 1
  | j + 1 => tnF j * 10
/-- how many digits: at least l -/
def ndF (v l : Int) : Nat := (max l (if v < 10 then 1 else if v < 100 then 2 else if v < 1000 then 3 else if v < 10000 then 4 else if v < 100000 then 5 else 6)).toNat
def nbF (v : Int) : Nat → OS → OS
  | 0, s => s
  | n + 1, s => nbF v n (inkF s (48 + v / tnF n % 10))
theorem nbF_2 (v : Int) : ∀ (n : Nat) (s : OS), (nbF v n s).2 = s.2 + (n : Int)
  | 0, s => by simp only [nbF]; omega
  | n + 1, s => by
    simp only [nbF]
    rw [nbF_2 v n]
    simp only [inkF]
    omega
theorem tnF_v : tnF 0 = 1 ∧ tnF 1 = 10 ∧ tnF 2 = 100 ∧ tnF 3 = 1000 ∧ tnF 4 = 10000 ∧ tnF 5 = 100000 ∧ tnF 6 = 1000000 := by decide
theorem ndF_r {v l : Int} (hl : l ≤ 6) : 1 ≤ ndF v l ∧ ndF v l ≤ 6 ∧ l ≤ (ndF v l : Int) := by
  unfold ndF
  repeat' split
  all_goals omega
theorem ndF_u {v l : Int} (h0 : 0 ≤ v) (hv : v < 1000000) (hl : l ≤ 6) {j : Nat} (hj : j + 1 < ndF v l) : 9 < v / tnF j ∨ (j : Int) + 1 < l := by
  obtain ⟨t0, t1, t2, t3, t4, t5, t6⟩ := tnF_v
  have hr := ndF_r (v := v) hl
  have : j = 0 ∨ j = 1 ∨ j = 2 ∨ j = 3 ∨ j = 4 := by omega
  unfold ndF at hj
  rcases this with rfl | rfl | rfl | rfl | rfl <;> simp only [t0, t1, t2, t3, t4] <;> (repeat' split at hj) <;> omega
theorem ndF_e {v l : Int} (h0 : 0 ≤ v) (hv : v < 1000000) (hl : l ≤ 6) {j : Nat} (hj : j + 1 = ndF v l) : v / tnF j ≤ 9 ∧ l ≤ (j : Int) + 1 := by
  obtain ⟨t0, t1, t2, t3, t4, t5, t6⟩ := tnF_v
  have hr := ndF_r (v := v) hl
  have : j = 0 ∨ j = 1 ∨ j = 2 ∨ j = 3 ∨ j = 4 ∨ j = 5 := by omega
  unfold ndF at hj
  rcases this with rfl | rfl | rfl | rfl | rfl | rfl <;> simp only [t0, t1, t2, t3, t4, t5] <;> (repeat' split at hj) <;> omega
theorem tnF_r {j : Nat} (hj : j ≤ 6) : 1 ≤ tnF j ∧ tnF j ≤ 1000000 := by
  obtain ⟨t0, t1, t2, t3, t4, t5, t6⟩ := tnF_v
  have : j = 0 ∨ j = 1 ∨ j = 2 ∨ j = 3 ∨ j = 4 ∨ j = 5 ∨ j = 6 := by omega
  rcases this with rfl | rfl | rfl | rfl | rfl | rfl | rfl <;> omega

theorem r_Model_inkNumber {d N : Nat} {P : am_P} {H : am_H} {s : OS} {v l : Int} (hP : PZ P) (h0 : 0 ≤ s.2) (h1 : s.2 + (ndF v l : Int) ≤ 80) (h2 : 0 ≤ v ∧ v < 1000000) (h3 : l ≤ 6) : am_R (d + 2) 71 [am_r 53, am_i (v), am_i (l)] (N, P, oH H s) none (N, P, oH H (nbF v (ndF v l) s)) := by
  refine am_en1 (d := d + 1) (ml := 5) (ls := [_, _, _, _, _]) cq_Model_inkNumber rfl (Nat.le_of_ble_eq_true rfl) rfl ?_
  refine st_iconst rfl ?_
  refine st_istore_n (ls' := [_, _, _, _, _]) rfl (Nat.le_of_ble_eq_true rfl) rfl ?_
  refine st_iconst rfl ?_
  refine st_istore (ls' := [_, _, _, _, _]) rfl (Nat.le_of_ble_eq_true rfl) rfl ?_
  have hr := ndF_r (v := v) h3
  suffices hlo : ∀ j, j ≤ ndF v l - 1 → am_WP (am_R (d + 1)) cd_Model_inkNumber (fun v' σ' => v' = none ∧ σ' = (N, P, oH H (nbF v (ndF v l) s))) 4 [some (am_r 53), some (am_i v), some (am_i l), some (am_i ((j : Int) + 1)), some (am_i (tnF j))] [] (N, P, oH H s) from hlo 0 (Nat.zero_le _)
  refine up_ind (n := ndF v l - 1) ?_ ?_
  · have he := ndF_e h2.1 h2.2 h3 (j := ndF v l - 1) (by omega)
    have htn := tnF_r (j := ndF v l - 1) (by omega)
    rw [show (((ndF v l - 1 : Nat) : Int) + 1) = (ndF v l : Int) by omega]
    rw [show (((ndF v l - 1 : Nat) : Int) + 1) = (ndF v l : Int) by omega] at he
    refine st_iload_n rfl rfl ?_
    refine st_iload rfl rfl ?_
    refine st_idiv rfl (by omega) (by omega) (by omega) ?_
    refine st_bipush rfl ?_
    refine st_icmp_gt rfl (fun h8 => (by exfalso; omega)) (fun h8 => ?_)
    refine st_iload_n rfl rfl ?_
    refine st_iload_n rfl rfl ?_
    refine st_icmp_ge rfl (fun h11 => ?_) (fun h11 => (by exfalso; omega))
    suffices hlo : ∀ (n : Nat) (s' : OS), n ≤ ndF v l → s'.2 + (n : Int) = s.2 + (ndF v l : Int) → 0 ≤ s'.2 → nbF v n s' = nbF v (ndF v l) s → am_WP (am_R (d + 1)) cd_Model_inkNumber (fun v' σ' => v' = none ∧ σ' = (N, P, oH H (nbF v (ndF v l) s))) 18 [some (am_r 53), some (am_i v), some (am_i l), some (am_i (ndF v l : Int)), some (am_i (if n = 0 then 0 else tnF (n - 1)))] [] (N, P, oH H s') from by
      have h := hlo (ndF v l) s (Nat.le_refl _) rfl h0 rfl
      rw [if_neg (by omega)] at h
      exact h
    intro n
    induction n with
    | zero =>
      intro s' q1 q2 q3 q4
      rw [if_pos rfl]
      refine st_iload rfl rfl ?_
      refine st_if_le rfl (fun h19 => ?_) (fun h19 => (by exfalso; omega))
      refine st_ret rfl ?_
      exact ⟨rfl, by rw [← q4]; rfl⟩
    | succ n ih =>
      intro s' q1 q2 q3 q4
      rw [if_neg (by omega), Nat.add_sub_cancel]
      have htn := tnF_r (j := n) (by omega)
      have hdiv := Int.ediv_nonneg (a := v) (b := tnF n) h2.1 (by omega)
      have hdl : v / tnF n ≤ v := Int.ediv_le_self _ h2.1
      refine st_iload rfl rfl ?_
      refine st_if_le rfl (fun h19 => (by exfalso; omega)) (fun h19 => ?_)
      refine st_aload_n rfl rfl (by decide) ?_
      refine st_bipush rfl ?_
      refine st_iload_n rfl rfl ?_
      refine st_iload rfl rfl ?_
      refine st_idiv rfl (by omega) (by omega) (by omega) ?_
      refine st_bipush rfl ?_
      refine st_irem rfl (by omega) (by omega) (by omega) ?_
      refine st_iadd rfl (by omega) ?_
      refine st_cv0 (w := []) rfl rfl rfl (Nat.le_of_ble_eq_true rfl) (Nat.le_of_ble_eq_true rfl) rfl rfl (r_Model_ink hP q3 (by omega) (by omega)) ?_
      refine st_iload rfl rfl ?_
      refine st_bipush rfl ?_
      refine st_idiv rfl (by omega) (by omega) (by omega) ?_
      refine st_istore (ls' := [_, _, _, _, _]) rfl (Nat.le_of_ble_eq_true rfl) rfl ?_
      refine st_goto rfl ?_
      have h := ih (inkF s' (48 + v / tnF n % 10)) (by omega) (by simp only [inkF]; omega) (by simp only [inkF]; omega) q4
      rw [show (if n = 0 then 0 else tnF (n - 1)) = tnF n / 10 by
        cases n with
        | zero => rfl
        | succ m => rw [if_neg (by omega), Nat.add_sub_cancel]; simp only [tnF]; omega] at h
      exact h
  · intro j hj ih
    have he := ndF_u h2.1 h2.2 h3 (j := j) (by omega)
    have htn := tnF_r (j := j) (by omega)
    refine st_iload_n rfl rfl ?_
    refine st_iload rfl rfl ?_
    refine st_idiv rfl (by omega) (by omega) (by omega) ?_
    refine st_bipush rfl ?_
    refine st_icmp_gt rfl (fun h8 => ?_) (fun h8 => ?_)
    · refine st_iload rfl rfl ?_
      refine st_bipush rfl ?_
      refine st_imul rfl (by omega) ?_
      refine st_istore (ls' := [_, _, _, _, _]) rfl (Nat.le_of_ble_eq_true rfl) rfl ?_
      refine st_iinc (ls' := [_, _, _, _, _]) rfl rfl (by omega) rfl ?_
      refine st_goto rfl ?_
      exact ih
    · refine st_iload_n rfl rfl ?_
      refine st_iload_n rfl rfl ?_
      refine st_icmp_ge rfl (fun h11 => ?_) (fun h11 => ?_)
      · exfalso; omega
      · refine st_iload rfl rfl ?_
        refine st_bipush rfl ?_
        refine st_imul rfl (by omega) ?_
        refine st_istore (ls' := [_, _, _, _, _]) rfl (Nat.le_of_ble_eq_true rfl) rfl ?_
        refine st_iinc (ls' := [_, _, _, _, _]) rfl rfl (by omega) rfl ?_
        refine st_goto rfl ?_
        exact ih
