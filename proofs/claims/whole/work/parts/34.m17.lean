/-! ===== the reference: writing marks ===== -/
def lw1 (v : Int) (s : OS) : OS := if 729 ≤ v then inkF s (64 + v / 729) else s
def lw2 (v : Int) (s : OS) : OS := if 27 ≤ v then inkF s (64 + v / 27 % 27) else s
def lwF (v : Int) (s : OS) : OS := inkF (lw2 v (lw1 v s)) (64 + v % 27)
theorem inkF_2 (s : OS) (c : Int) : (inkF s c).2 = s.2 + 1 := rfl
theorem lw1_2 (v : Int) (s : OS) : (lw1 v s).2 = s.2 + (if 729 ≤ v then 1 else 0) := by unfold lw1; split <;> simp [inkF]
theorem lw2_2 (v : Int) (s : OS) : (lw2 v s).2 = s.2 + (if 27 ≤ v then 1 else 0) := by unfold lw2; split <;> simp [inkF]
theorem lwF_2 (v : Int) (s : OS) : (lwF v s).2 = s.2 + letN v := by
  unfold lwF
  rw [inkF_2, lw2_2, lw1_2]
  unfold letN
  repeat' split
  all_goals omega
def pwF (kd v g c : Int) (s : OS) : OS :=
  if kd = 0 then lwF v s else if kd = 1 then nbF v (ndF v 1) s else if kd = 2 then nbF g (ndF g c) (inkF s 46) else if kd = 4 then nbF g (ndF g c) (inkF (inkF s 46) (64 + v)) else nbF v (ndF v 1) (inkF s (if kd = 3 then 121 else if kd = 5 then 118 else 99))
def pwL (kd v g c : Int) : Int :=
  if kd = 0 then letN v else if kd = 1 then (ndF v 1 : Int) else if kd = 2 then 1 + (ndF g c : Int) else if kd = 4 then 2 + (ndF g c : Int) else 1 + (ndF v 1 : Int)
theorem pwF_2 (kd v g c : Int) (s : OS) : (pwF kd v g c s).2 = s.2 + pwL kd v g c := by
  unfold pwF pwL
  repeat' split
  all_goals first
    | exact lwF_2 _ _
    | (rw [nbF_2]; simp only [inkF_2]; omega)
    | exact nbF_2 _ _ _
theorem PVal.g {kd v g c : Int} (h : PVal kd v g c) : 0 ≤ g ∧ g < 1000000 := by
  have h1 := h.2.2.2.1
  have h2 : (1 : Int) ≤ 10 ^ (6 - c).toNat := Int.pow_pos (by omega)
  have h3 : g * 1 ≤ g * 10 ^ (6 - c).toNat := Int.mul_le_mul_of_nonneg_left h2 h1.1
  omega
theorem pwL_r {kd v g c : Int} (h : PVal kd v g c) : 1 ≤ pwL kd v g c ∧ pwL kd v g c ≤ 8 := by
  have h1 := ndF_r (v := v) (l := 1) (by omega)
  have h2 := ndF_r (v := g) (l := c) h.2.2.1.2
  unfold pwL letN
  repeat' split
  all_goals omega
abbrev jnF (a : Int → Int) (m : Int) (k : Int) : Prop := (prtF a m (k - 1) 0 = 0 ∧ prtF a m k 0 = 1) ∨ (prtF a m (k - 1) 0 = 1 ∧ prtF a m k 0 = 2)
def wtF (a : Int → Int) (m : Int) (s : OS) : Nat → OS
  | 0 => s
  | k + 1 => pwF (prtF a m (k : Int) 0) (prtF a m (k : Int) 1) (prtF a m (k : Int) 2) (prtF a m (k : Int) 3) (if 0 < k ∧ ¬ jnF a m (k : Int) then inkF (wtF a m s k) 32 else wtF a m s k)
def wlF (a : Int → Int) (m : Int) : Nat → Int
  | 0 => 0
  | k + 1 => wlF a m k + (if 0 < k ∧ ¬ jnF a m (k : Int) then 1 else 0) + pwL (prtF a m (k : Int) 0) (prtF a m (k : Int) 1) (prtF a m (k : Int) 2) (prtF a m (k : Int) 3)
theorem wtF_2 (a : Int → Int) (m : Int) (s : OS) : ∀ k : Nat, (wtF a m s k).2 = s.2 + wlF a m k
  | 0 => by simp only [wtF, wlF]; omega
  | k + 1 => by
    have ih := wtF_2 a m s k
    simp only [wtF, wlF]
    rw [pwF_2]
    split
    · rw [inkF_2, ih]; omega
    · rw [ih]; omega
theorem wlF_r {a : Int → Int} {m : Int} (h : MV a m) : ∀ k : Nat, (k : Int) ≤ lenF a m → 0 ≤ wlF a m k ∧ wlF a m k ≤ 9 * (k : Int)
  | 0, _ => by simp only [wlF]; omega
  | k + 1, hk => by
    have ih := wlF_r h k (by omega)
    have hp := pwL_r (h.2.2 (k : Int) (by omega) (by omega))
    simp only [wlF]
    split <;> omega
/-- letters of a WORK are letters -/
def WKv (a : Int → Int) (m : Int) : Prop := ∀ k, 0 ≤ k → k < lenF a m → prtF a m k 0 = 4 → prtF a m k 1 ≤ 26

theorem r_Model_inkLetters {d N : Nat} {P : am_P} {H : am_H} {s : OS} {v : Int} (hP : PZ P) (h0 : 0 ≤ s.2) (h1 : s.2 ≤ 76) (h2 : 0 ≤ v ∧ v ≤ 19682) : am_R (d + 2) 72 [am_r 53, am_i (v)] (N, P, oH H s) none (N, P, oH H (lwF v s)) := by
  refine am_en1 (d := d + 1) (ml := 2) (ls := [_, _]) cq_Model_inkLetters rfl (Nat.le_of_ble_eq_true rfl) rfl ?_
  have e1 := lw1_2 v s
  have e2 := lw2_2 v (lw1 v s)
  have b1 : (lw1 v s).2 ≤ s.2 + 1 ∧ s.2 ≤ (lw1 v s).2 := by rw [e1]; split <;> omega
  have b2 : (lw2 v (lw1 v s)).2 ≤ s.2 + 2 ∧ s.2 ≤ (lw2 v (lw1 v s)).2 := by rw [e2]; split <;> omega
  refine st_iload_n rfl rfl ?_
  refine st_sipush rfl ?_
  refine st_icmp_lt rfl (fun h2 => ?_) (fun h2 => ?_)
  · first
    | rw [show oH H s = oH H (lw1 v s) by unfold lw1; rw [if_neg (by omega)]]
    | rw [show oH H (inkF s (64 + v / 729)) = oH H (lw1 v s) by unfold lw1; rw [if_pos (by omega)]]
    refine st_iload_n rfl rfl ?_
    refine st_bipush rfl ?_
    refine st_icmp_lt rfl (fun h12 => ?_) (fun h12 => ?_)
    · first
      | rw [show oH H (lw1 v s) = oH H (lw2 v (lw1 v s)) by unfold lw2; rw [if_neg (by omega)]]
      | rw [show oH H (inkF (lw1 v s) (64 + v / 27 % 27)) = oH H (lw2 v (lw1 v s)) by rw [show lw2 v (lw1 v s) = inkF (lw1 v s) (64 + v / 27 % 27) from if_pos (by omega)]]
      refine st_aload_n rfl rfl (by decide) ?_
      refine st_bipush rfl ?_
      refine st_iload_n rfl rfl ?_
      refine st_bipush rfl ?_
      refine st_irem rfl (by omega) (by omega) (by omega) ?_
      refine st_iadd rfl (by omega) ?_
      refine st_cv0 (w := []) rfl rfl rfl (Nat.le_of_ble_eq_true rfl) (Nat.le_of_ble_eq_true rfl) rfl rfl (r_Model_ink hP (by omega) (by omega) (by omega)) ?_
      refine st_ret rfl ?_
      exact ⟨rfl, rfl⟩
    · refine st_aload_n rfl rfl (by decide) ?_
      refine st_bipush rfl ?_
      refine st_iload_n rfl rfl ?_
      refine st_bipush rfl ?_
      refine st_idiv rfl (by omega) (by omega) (by omega) ?_
      refine st_bipush rfl ?_
      refine st_irem rfl (by omega) (by omega) (by omega) ?_
      refine st_iadd rfl (by omega) ?_
      refine st_cv0 (w := []) rfl rfl rfl (Nat.le_of_ble_eq_true rfl) (Nat.le_of_ble_eq_true rfl) rfl rfl (r_Model_ink hP (by omega) (by omega) (by omega)) ?_
      first
      | rw [show oH H (lw1 v s) = oH H (lw2 v (lw1 v s)) by unfold lw2; rw [if_neg (by omega)]]
      | rw [show oH H (inkF (lw1 v s) (64 + v / 27 % 27)) = oH H (lw2 v (lw1 v s)) by rw [show lw2 v (lw1 v s) = inkF (lw1 v s) (64 + v / 27 % 27) from if_pos (by omega)]]
      refine st_aload_n rfl rfl (by decide) ?_
      refine st_bipush rfl ?_
      refine st_iload_n rfl rfl ?_
      refine st_bipush rfl ?_
      refine st_irem rfl (by omega) (by omega) (by omega) ?_
      refine st_iadd rfl (by omega) ?_
      refine st_cv0 (w := []) rfl rfl rfl (Nat.le_of_ble_eq_true rfl) (Nat.le_of_ble_eq_true rfl) rfl rfl (r_Model_ink hP (by omega) (by omega) (by omega)) ?_
      refine st_ret rfl ?_
      exact ⟨rfl, rfl⟩
  · refine st_aload_n rfl rfl (by decide) ?_
    refine st_bipush rfl ?_
    refine st_iload_n rfl rfl ?_
    refine st_sipush rfl ?_
    refine st_idiv rfl (by omega) (by omega) (by omega) ?_
    refine st_iadd rfl (by omega) ?_
    refine st_cv0 (w := []) rfl rfl rfl (Nat.le_of_ble_eq_true rfl) (Nat.le_of_ble_eq_true rfl) rfl rfl (r_Model_ink hP (by omega) (by omega) (by omega)) ?_
    first
    | rw [show oH H s = oH H (lw1 v s) by unfold lw1; rw [if_neg (by omega)]]
    | rw [show oH H (inkF s (64 + v / 729)) = oH H (lw1 v s) by unfold lw1; rw [if_pos (by omega)]]
    refine st_iload_n rfl rfl ?_
    refine st_bipush rfl ?_
    refine st_icmp_lt rfl (fun h12 => (by exfalso; omega)) (fun h12 => ?_)
    refine st_aload_n rfl rfl (by decide) ?_
    refine st_bipush rfl ?_
    refine st_iload_n rfl rfl ?_
    refine st_bipush rfl ?_
    refine st_idiv rfl (by omega) (by omega) (by omega) ?_
    refine st_bipush rfl ?_
    refine st_irem rfl (by omega) (by omega) (by omega) ?_
    refine st_iadd rfl (by omega) ?_
    refine st_cv0 (w := []) rfl rfl rfl (Nat.le_of_ble_eq_true rfl) (Nat.le_of_ble_eq_true rfl) rfl rfl (r_Model_ink hP (by omega) (by omega) (by omega)) ?_
    first
    | rw [show oH H (lw1 v s) = oH H (lw2 v (lw1 v s)) by unfold lw2; rw [if_neg (by omega)]]
    | rw [show oH H (inkF (lw1 v s) (64 + v / 27 % 27)) = oH H (lw2 v (lw1 v s)) by rw [show lw2 v (lw1 v s) = inkF (lw1 v s) (64 + v / 27 % 27) from if_pos (by omega)]]
    refine st_aload_n rfl rfl (by decide) ?_
    refine st_bipush rfl ?_
    refine st_iload_n rfl rfl ?_
    refine st_bipush rfl ?_
    refine st_irem rfl (by omega) (by omega) (by omega) ?_
    refine st_iadd rfl (by omega) ?_
    refine st_cv0 (w := []) rfl rfl rfl (Nat.le_of_ble_eq_true rfl) (Nat.le_of_ble_eq_true rfl) rfl rfl (r_Model_ink hP (by omega) (by omega) (by omega)) ?_
    refine st_ret rfl ?_
    exact ⟨rfl, rfl⟩
theorem r_Model_inkPart {d N : Nat} {P : am_P} {H : am_H} {s : OS} {m k : Int} (hP : PZ P) (h0 : 0 ≤ s.2) (h1 : s.2 ≤ 70) (hm : 0 ≤ m ∧ m < 200) (hk : 0 ≤ k ∧ k < 8) (hp : PVal (prtF (H 54) m k 0) (prtF (H 54) m k 1) (prtF (H 54) m k 2) (prtF (H 54) m k 3)) (h4 : prtF (H 54) m k 0 = 4 → prtF (H 54) m k 1 ≤ 26) : am_R (d + 3) 73 [am_r 53, am_i (m), am_i (k)] (N, P, oH H s) none (N, P, oH H (pwF (prtF (H 54) m k 0) (prtF (H 54) m k 1) (prtF (H 54) m k 2) (prtF (H 54) m k 3) s)) := by
  refine am_en1 (d := d + 2) (ml := 4) (ls := [_, _, _, _]) cq_Model_inkPart rfl (Nat.le_of_ble_eq_true rfl) rfl ?_
  have hv := hp
  unfold PVal at hv
  have hg := hp.g
  have n1 := ndF_r (v := prtF (H 54) m k 1) (l := 1) (by omega)
  have n2 := ndF_r (v := prtF (H 54) m k 2) (l := prtF (H 54) m k 3) hp.2.2.1.2
  have e0 : oH H s 54 (70 + 33 * m + 1 + 4 * k + 0) = prtF (H 54) m k 0 := rfl
  have e1 : oH H s 54 (70 + 33 * m + 1 + 4 * k + 1) = prtF (H 54) m k 1 := rfl
  have e2 : oH H s 54 (70 + 33 * m + 1 + 4 * k + 2) = prtF (H 54) m k 2 := rfl
  have e3 : oH H s 54 (70 + 33 * m + 1 + 4 * k + 3) = prtF (H 54) m k 3 := rfl
  have f0 : ∀ s : OS, oH H s 54 (70 + 33 * m + 1 + 4 * k + 0) = prtF (H 54) m k 0 := fun _ => rfl
  have f1 : ∀ s : OS, oH H s 54 (70 + 33 * m + 1 + 4 * k + 1) = prtF (H 54) m k 1 := fun _ => rfl
  have f2 : ∀ s : OS, oH H s 54 (70 + 33 * m + 1 + 4 * k + 2) = prtF (H 54) m k 2 := fun _ => rfl
  have f3 : ∀ s : OS, oH H s 54 (70 + 33 * m + 1 + 4 * k + 3) = prtF (H 54) m k 3 := fun _ => rfl
  refine st_aload_n rfl rfl (by decide) ?_
  refine st_iload_n rfl rfl ?_
  refine st_iload_n rfl rfl ?_
  refine st_iconst rfl ?_
  refine st_cv1 (w := []) rfl rfl rfl (Nat.le_of_ble_eq_true rfl) (Nat.le_of_ble_eq_true rfl) rfl rfl (r_Model_partOf hP (by omega) (by omega) (by omega) (by omega) (by omega) (by omega)) ?_
  rw [f1]
  refine st_istore_n (ls' := [_, _, _, _]) rfl (Nat.le_of_ble_eq_true rfl) rfl ?_
  refine st_aload_n rfl rfl (by decide) ?_
  refine st_iload_n rfl rfl ?_
  refine st_iload_n rfl rfl ?_
  refine st_iconst rfl ?_
  refine st_cv1 (w := []) rfl rfl rfl (Nat.le_of_ble_eq_true rfl) (Nat.le_of_ble_eq_true rfl) rfl rfl (r_Model_partOf hP (by omega) (by omega) (by omega) (by omega) (by omega) (by omega)) ?_
  rw [f0]
  by_cases h11_0 : prtF (H 54) m k 0 = 0
  · refine st_swC (c := 0) rfl h11_0 (t := 12) (by decide +kernel) ?_
    refine st_aload_n rfl rfl (by decide) ?_
    refine st_iload_n rfl rfl ?_
    refine st_cv0 (w := []) rfl rfl rfl (Nat.le_of_ble_eq_true rfl) (Nat.le_of_ble_eq_true rfl) rfl rfl (r_Model_inkLetters hP (by omega) (by omega) (by omega)) ?_
    refine st_goto rfl ?_
    refine st_ret rfl ?_
    refine ⟨rfl, ?_⟩
    unfold pwF
    first
    | (exfalso; omega)
    | rw [if_pos (by omega)]
    | rw [if_neg (by omega), if_pos (by omega)]
    | rw [if_neg (by omega), if_neg (by omega), if_pos (by omega)]
    | rw [if_neg (by omega), if_neg (by omega), if_neg (by omega), if_pos (by omega)]
    | rw [if_neg (by omega), if_neg (by omega), if_neg (by omega), if_neg (by omega), if_pos (by omega)]
    | rw [if_neg (by omega), if_neg (by omega), if_neg (by omega), if_neg (by omega), if_neg (by omega), if_pos (by omega)]
    | rw [if_neg (by omega), if_neg (by omega), if_neg (by omega), if_neg (by omega), if_neg (by omega), if_neg (by omega)]
  by_cases h11_1 : prtF (H 54) m k 0 = 1
  · refine st_swC (c := 1) rfl h11_1 (t := 53) (by decide +kernel) ?_
    refine st_aload_n rfl rfl (by decide) ?_
    refine st_iload_n rfl rfl ?_
    refine st_iconst rfl ?_
    refine st_cv0 (w := []) rfl rfl rfl (Nat.le_of_ble_eq_true rfl) (Nat.le_of_ble_eq_true rfl) rfl rfl (r_Model_inkNumber hP (by omega) (by omega) (by omega) (by omega)) ?_
    refine st_goto rfl ?_
    refine st_ret rfl ?_
    refine ⟨rfl, ?_⟩
    unfold pwF
    first
    | (exfalso; omega)
    | rw [if_pos (by omega)]
    | rw [if_neg (by omega), if_pos (by omega)]
    | rw [if_neg (by omega), if_neg (by omega), if_pos (by omega)]
    | rw [if_neg (by omega), if_neg (by omega), if_neg (by omega), if_pos (by omega)]
    | rw [if_neg (by omega), if_neg (by omega), if_neg (by omega), if_neg (by omega), if_pos (by omega)]
    | rw [if_neg (by omega), if_neg (by omega), if_neg (by omega), if_neg (by omega), if_neg (by omega), if_pos (by omega)]
    | rw [if_neg (by omega), if_neg (by omega), if_neg (by omega), if_neg (by omega), if_neg (by omega), if_neg (by omega)]
  by_cases h11_2 : prtF (H 54) m k 0 = 2
  · refine st_swC (c := 2) rfl h11_2 (t := 16) (by decide +kernel) ?_
    refine st_aload_n rfl rfl (by decide) ?_
    refine st_bipush rfl ?_
    refine st_cv0 (w := []) rfl rfl rfl (Nat.le_of_ble_eq_true rfl) (Nat.le_of_ble_eq_true rfl) rfl rfl (r_Model_ink hP (by omega) (by omega) (by omega)) ?_
    refine st_aload_n rfl rfl (by decide) ?_
    refine st_aload_n rfl rfl (by decide) ?_
    refine st_iload_n rfl rfl ?_
    refine st_iload_n rfl rfl ?_
    refine st_iconst rfl ?_
    refine st_cv1 (w := [_]) rfl rfl rfl (Nat.le_of_ble_eq_true rfl) (Nat.le_of_ble_eq_true rfl) rfl rfl (r_Model_partOf hP (by omega) (by omega) (by omega) (by omega) (by omega) (by omega)) ?_
    rw [f2]
    refine st_aload_n rfl rfl (by decide) ?_
    refine st_iload_n rfl rfl ?_
    refine st_iload_n rfl rfl ?_
    refine st_iconst rfl ?_
    refine st_cv1 (w := [_, _]) rfl rfl rfl (Nat.le_of_ble_eq_true rfl) (Nat.le_of_ble_eq_true rfl) rfl rfl (r_Model_partOf hP (by omega) (by omega) (by omega) (by omega) (by omega) (by omega)) ?_
    rw [f3]
    refine st_cv0 (w := []) rfl rfl rfl (Nat.le_of_ble_eq_true rfl) (Nat.le_of_ble_eq_true rfl) rfl rfl (r_Model_inkNumber hP (by rw [inkF_2]; omega) (by rw [inkF_2]; omega) (by omega) (by omega)) ?_
    refine st_goto rfl ?_
    refine st_ret rfl ?_
    refine ⟨rfl, ?_⟩
    unfold pwF
    first
    | (exfalso; omega)
    | rw [if_pos (by omega)]
    | rw [if_neg (by omega), if_pos (by omega)]
    | rw [if_neg (by omega), if_neg (by omega), if_pos (by omega)]
    | rw [if_neg (by omega), if_neg (by omega), if_neg (by omega), if_pos (by omega)]
    | rw [if_neg (by omega), if_neg (by omega), if_neg (by omega), if_neg (by omega), if_pos (by omega)]
    | rw [if_neg (by omega), if_neg (by omega), if_neg (by omega), if_neg (by omega), if_neg (by omega), if_pos (by omega)]
    | rw [if_neg (by omega), if_neg (by omega), if_neg (by omega), if_neg (by omega), if_neg (by omega), if_neg (by omega)]
  by_cases h11_3 : prtF (H 54) m k 0 = 3
  · refine st_swC (c := 3) rfl h11_3 (t := 58) (by decide +kernel) ?_
    refine st_aload_n rfl rfl (by decide) ?_
    refine st_aload_n rfl rfl (by decide) ?_
    refine st_iload_n rfl rfl ?_
    refine st_iload_n rfl rfl ?_
    refine st_iconst rfl ?_
    refine st_cv1 (w := [_]) rfl rfl rfl (Nat.le_of_ble_eq_true rfl) (Nat.le_of_ble_eq_true rfl) rfl rfl (r_Model_partOf hP (by omega) (by omega) (by omega) (by omega) (by omega) (by omega)) ?_
    rw [f0]
    refine st_iconst rfl ?_
    refine st_icmp_ne rfl (fun h65 => ?_) (fun h65 => ?_)
    · refine st_aload_n rfl rfl (by decide) ?_
      refine st_iload_n rfl rfl ?_
      refine st_iload_n rfl rfl ?_
      refine st_iconst rfl ?_
      refine st_cv1 (w := [_]) rfl rfl rfl (Nat.le_of_ble_eq_true rfl) (Nat.le_of_ble_eq_true rfl) rfl rfl (r_Model_partOf hP (by omega) (by omega) (by omega) (by omega) (by omega) (by omega)) ?_
      rw [f0]
      refine st_iconst rfl ?_
      refine st_icmp_ne rfl (fun h74 => ?_) (fun h74 => ?_)
      · refine st_bipush rfl ?_
        refine st_cv0 (w := []) rfl rfl rfl (Nat.le_of_ble_eq_true rfl) (Nat.le_of_ble_eq_true rfl) rfl rfl (r_Model_ink hP (by omega) (by omega) (by omega)) ?_
        refine st_aload_n rfl rfl (by decide) ?_
        refine st_iload_n rfl rfl ?_
        refine st_iconst rfl ?_
        refine st_cv0 (w := []) rfl rfl rfl (Nat.le_of_ble_eq_true rfl) (Nat.le_of_ble_eq_true rfl) rfl rfl (r_Model_inkNumber hP (by rw [inkF_2]; omega) (by rw [inkF_2]; omega) (by omega) (by omega)) ?_
        refine st_ret rfl ?_
        refine ⟨rfl, ?_⟩
        unfold pwF
        first
        | (exfalso; omega)
        | rw [if_pos (by omega)]
        | rw [if_neg (by omega), if_pos (by omega)]
        | rw [if_neg (by omega), if_neg (by omega), if_pos (by omega)]
        | rw [if_neg (by omega), if_neg (by omega), if_neg (by omega), if_pos (by omega)]
        | rw [if_neg (by omega), if_neg (by omega), if_neg (by omega), if_neg (by omega), if_pos (by omega)]
        | rw [if_neg (by omega), if_neg (by omega), if_neg (by omega), if_neg (by omega), if_neg (by omega), if_pos (by omega)]
        | rw [if_neg (by omega), if_neg (by omega), if_neg (by omega), if_neg (by omega), if_neg (by omega), if_neg (by omega)]
      · refine st_bipush rfl ?_
        refine st_goto rfl ?_
        refine st_cv0 (w := []) rfl rfl rfl (Nat.le_of_ble_eq_true rfl) (Nat.le_of_ble_eq_true rfl) rfl rfl (r_Model_ink hP (by omega) (by omega) (by omega)) ?_
        refine st_aload_n rfl rfl (by decide) ?_
        refine st_iload_n rfl rfl ?_
        refine st_iconst rfl ?_
        refine st_cv0 (w := []) rfl rfl rfl (Nat.le_of_ble_eq_true rfl) (Nat.le_of_ble_eq_true rfl) rfl rfl (r_Model_inkNumber hP (by rw [inkF_2]; omega) (by rw [inkF_2]; omega) (by omega) (by omega)) ?_
        refine st_ret rfl ?_
        refine ⟨rfl, ?_⟩
        unfold pwF
        first
        | (exfalso; omega)
        | rw [if_pos (by omega)]
        | rw [if_neg (by omega), if_pos (by omega)]
        | rw [if_neg (by omega), if_neg (by omega), if_pos (by omega)]
        | rw [if_neg (by omega), if_neg (by omega), if_neg (by omega), if_pos (by omega)]
        | rw [if_neg (by omega), if_neg (by omega), if_neg (by omega), if_neg (by omega), if_pos (by omega)]
        | rw [if_neg (by omega), if_neg (by omega), if_neg (by omega), if_neg (by omega), if_neg (by omega), if_pos (by omega)]
        | rw [if_neg (by omega), if_neg (by omega), if_neg (by omega), if_neg (by omega), if_neg (by omega), if_neg (by omega)]
    · refine st_bipush rfl ?_
      refine st_goto rfl ?_
      refine st_cv0 (w := []) rfl rfl rfl (Nat.le_of_ble_eq_true rfl) (Nat.le_of_ble_eq_true rfl) rfl rfl (r_Model_ink hP (by omega) (by omega) (by omega)) ?_
      refine st_aload_n rfl rfl (by decide) ?_
      refine st_iload_n rfl rfl ?_
      refine st_iconst rfl ?_
      refine st_cv0 (w := []) rfl rfl rfl (Nat.le_of_ble_eq_true rfl) (Nat.le_of_ble_eq_true rfl) rfl rfl (r_Model_inkNumber hP (by rw [inkF_2]; omega) (by rw [inkF_2]; omega) (by omega) (by omega)) ?_
      refine st_ret rfl ?_
      refine ⟨rfl, ?_⟩
      unfold pwF
      first
      | (exfalso; omega)
      | rw [if_pos (by omega)]
      | rw [if_neg (by omega), if_pos (by omega)]
      | rw [if_neg (by omega), if_neg (by omega), if_pos (by omega)]
      | rw [if_neg (by omega), if_neg (by omega), if_neg (by omega), if_pos (by omega)]
      | rw [if_neg (by omega), if_neg (by omega), if_neg (by omega), if_neg (by omega), if_pos (by omega)]
      | rw [if_neg (by omega), if_neg (by omega), if_neg (by omega), if_neg (by omega), if_neg (by omega), if_pos (by omega)]
      | rw [if_neg (by omega), if_neg (by omega), if_neg (by omega), if_neg (by omega), if_neg (by omega), if_neg (by omega)]
  by_cases h11_4 : prtF (H 54) m k 0 = 4
  · refine st_swC (c := 4) rfl h11_4 (t := 32) (by decide +kernel) ?_
    refine st_aload_n rfl rfl (by decide) ?_
    refine st_bipush rfl ?_
    refine st_cv0 (w := []) rfl rfl rfl (Nat.le_of_ble_eq_true rfl) (Nat.le_of_ble_eq_true rfl) rfl rfl (r_Model_ink hP (by omega) (by omega) (by omega)) ?_
    refine st_aload_n rfl rfl (by decide) ?_
    refine st_bipush rfl ?_
    refine st_iload_n rfl rfl ?_
    refine st_iadd rfl (by omega) ?_
    refine st_cv0 (w := []) rfl rfl rfl (Nat.le_of_ble_eq_true rfl) (Nat.le_of_ble_eq_true rfl) rfl rfl (r_Model_ink hP (by rw [inkF_2]; omega) (by rw [inkF_2]; omega) (by omega)) ?_
    refine st_aload_n rfl rfl (by decide) ?_
    refine st_aload_n rfl rfl (by decide) ?_
    refine st_iload_n rfl rfl ?_
    refine st_iload_n rfl rfl ?_
    refine st_iconst rfl ?_
    refine st_cv1 (w := [_]) rfl rfl rfl (Nat.le_of_ble_eq_true rfl) (Nat.le_of_ble_eq_true rfl) rfl rfl (r_Model_partOf hP (by omega) (by omega) (by omega) (by omega) (by omega) (by omega)) ?_
    rw [f2]
    refine st_aload_n rfl rfl (by decide) ?_
    refine st_iload_n rfl rfl ?_
    refine st_iload_n rfl rfl ?_
    refine st_iconst rfl ?_
    refine st_cv1 (w := [_, _]) rfl rfl rfl (Nat.le_of_ble_eq_true rfl) (Nat.le_of_ble_eq_true rfl) rfl rfl (r_Model_partOf hP (by omega) (by omega) (by omega) (by omega) (by omega) (by omega)) ?_
    rw [f3]
    refine st_cv0 (w := []) rfl rfl rfl (Nat.le_of_ble_eq_true rfl) (Nat.le_of_ble_eq_true rfl) rfl rfl (r_Model_inkNumber hP (by rw [inkF_2, inkF_2]; omega) (by rw [inkF_2, inkF_2]; omega) (by omega) (by omega)) ?_
    refine st_goto rfl ?_
    refine st_ret rfl ?_
    refine ⟨rfl, ?_⟩
    unfold pwF
    first
    | (exfalso; omega)
    | rw [if_pos (by omega)]
    | rw [if_neg (by omega), if_pos (by omega)]
    | rw [if_neg (by omega), if_neg (by omega), if_pos (by omega)]
    | rw [if_neg (by omega), if_neg (by omega), if_neg (by omega), if_pos (by omega)]
    | rw [if_neg (by omega), if_neg (by omega), if_neg (by omega), if_neg (by omega), if_pos (by omega)]
    | rw [if_neg (by omega), if_neg (by omega), if_neg (by omega), if_neg (by omega), if_neg (by omega), if_pos (by omega)]
    | rw [if_neg (by omega), if_neg (by omega), if_neg (by omega), if_neg (by omega), if_neg (by omega), if_neg (by omega)]
  refine st_swD rfl (by omega) (t := 58) (by decide +kernel) ?_
  refine st_aload_n rfl rfl (by decide) ?_
  refine st_aload_n rfl rfl (by decide) ?_
  refine st_iload_n rfl rfl ?_
  refine st_iload_n rfl rfl ?_
  refine st_iconst rfl ?_
  refine st_cv1 (w := [_]) rfl rfl rfl (Nat.le_of_ble_eq_true rfl) (Nat.le_of_ble_eq_true rfl) rfl rfl (r_Model_partOf hP (by omega) (by omega) (by omega) (by omega) (by omega) (by omega)) ?_
  rw [f0]
  refine st_iconst rfl ?_
  refine st_icmp_ne rfl (fun h65 => ?_) (fun h65 => ?_)
  · refine st_aload_n rfl rfl (by decide) ?_
    refine st_iload_n rfl rfl ?_
    refine st_iload_n rfl rfl ?_
    refine st_iconst rfl ?_
    refine st_cv1 (w := [_]) rfl rfl rfl (Nat.le_of_ble_eq_true rfl) (Nat.le_of_ble_eq_true rfl) rfl rfl (r_Model_partOf hP (by omega) (by omega) (by omega) (by omega) (by omega) (by omega)) ?_
    rw [f0]
    refine st_iconst rfl ?_
    refine st_icmp_ne rfl (fun h74 => ?_) (fun h74 => ?_)
    · refine st_bipush rfl ?_
      refine st_cv0 (w := []) rfl rfl rfl (Nat.le_of_ble_eq_true rfl) (Nat.le_of_ble_eq_true rfl) rfl rfl (r_Model_ink hP (by omega) (by omega) (by omega)) ?_
      refine st_aload_n rfl rfl (by decide) ?_
      refine st_iload_n rfl rfl ?_
      refine st_iconst rfl ?_
      refine st_cv0 (w := []) rfl rfl rfl (Nat.le_of_ble_eq_true rfl) (Nat.le_of_ble_eq_true rfl) rfl rfl (r_Model_inkNumber hP (by rw [inkF_2]; omega) (by rw [inkF_2]; omega) (by omega) (by omega)) ?_
      refine st_ret rfl ?_
      refine ⟨rfl, ?_⟩
      unfold pwF
      first
      | (exfalso; omega)
      | rw [if_pos (by omega)]
      | rw [if_neg (by omega), if_pos (by omega)]
      | rw [if_neg (by omega), if_neg (by omega), if_pos (by omega)]
      | rw [if_neg (by omega), if_neg (by omega), if_neg (by omega), if_pos (by omega)]
      | rw [if_neg (by omega), if_neg (by omega), if_neg (by omega), if_neg (by omega), if_pos (by omega)]
      | rw [if_neg (by omega), if_neg (by omega), if_neg (by omega), if_neg (by omega), if_neg (by omega), if_pos (by omega)]
      | rw [if_neg (by omega), if_neg (by omega), if_neg (by omega), if_neg (by omega), if_neg (by omega), if_neg (by omega)]
    · refine st_bipush rfl ?_
      refine st_goto rfl ?_
      refine st_cv0 (w := []) rfl rfl rfl (Nat.le_of_ble_eq_true rfl) (Nat.le_of_ble_eq_true rfl) rfl rfl (r_Model_ink hP (by omega) (by omega) (by omega)) ?_
      refine st_aload_n rfl rfl (by decide) ?_
      refine st_iload_n rfl rfl ?_
      refine st_iconst rfl ?_
      refine st_cv0 (w := []) rfl rfl rfl (Nat.le_of_ble_eq_true rfl) (Nat.le_of_ble_eq_true rfl) rfl rfl (r_Model_inkNumber hP (by rw [inkF_2]; omega) (by rw [inkF_2]; omega) (by omega) (by omega)) ?_
      refine st_ret rfl ?_
      refine ⟨rfl, ?_⟩
      unfold pwF
      first
      | (exfalso; omega)
      | rw [if_pos (by omega)]
      | rw [if_neg (by omega), if_pos (by omega)]
      | rw [if_neg (by omega), if_neg (by omega), if_pos (by omega)]
      | rw [if_neg (by omega), if_neg (by omega), if_neg (by omega), if_pos (by omega)]
      | rw [if_neg (by omega), if_neg (by omega), if_neg (by omega), if_neg (by omega), if_pos (by omega)]
      | rw [if_neg (by omega), if_neg (by omega), if_neg (by omega), if_neg (by omega), if_neg (by omega), if_pos (by omega)]
      | rw [if_neg (by omega), if_neg (by omega), if_neg (by omega), if_neg (by omega), if_neg (by omega), if_neg (by omega)]
  · refine st_bipush rfl ?_
    refine st_goto rfl ?_
    refine st_cv0 (w := []) rfl rfl rfl (Nat.le_of_ble_eq_true rfl) (Nat.le_of_ble_eq_true rfl) rfl rfl (r_Model_ink hP (by omega) (by omega) (by omega)) ?_
    refine st_aload_n rfl rfl (by decide) ?_
    refine st_iload_n rfl rfl ?_
    refine st_iconst rfl ?_
    refine st_cv0 (w := []) rfl rfl rfl (Nat.le_of_ble_eq_true rfl) (Nat.le_of_ble_eq_true rfl) rfl rfl (r_Model_inkNumber hP (by rw [inkF_2]; omega) (by rw [inkF_2]; omega) (by omega) (by omega)) ?_
    refine st_ret rfl ?_
    refine ⟨rfl, ?_⟩
    unfold pwF
    first
    | (exfalso; omega)
    | rw [if_pos (by omega)]
    | rw [if_neg (by omega), if_pos (by omega)]
    | rw [if_neg (by omega), if_neg (by omega), if_pos (by omega)]
    | rw [if_neg (by omega), if_neg (by omega), if_neg (by omega), if_pos (by omega)]
    | rw [if_neg (by omega), if_neg (by omega), if_neg (by omega), if_neg (by omega), if_pos (by omega)]
    | rw [if_neg (by omega), if_neg (by omega), if_neg (by omega), if_neg (by omega), if_neg (by omega), if_pos (by omega)]
    | rw [if_neg (by omega), if_neg (by omega), if_neg (by omega), if_neg (by omega), if_neg (by omega), if_neg (by omega)]
theorem r_Model_write {d N : Nat} {P : am_P} {H : am_H} {m : Int} (hP : PZ P) (hI : Inv (H 54)) (hwk : 0 ≤ m → m < H 54 1 → WKv (H 54) m) : am_R (d + 4) 74 [am_r 53, am_i (m)] (N, P, H) (some (am_i (if 0 ≤ m ∧ m < H 54 1 then wlF (H 54) m (lenF (H 54) m).toNat else -1))) (N, P, if 0 ≤ m ∧ m < H 54 1 then oH H (wtF (H 54) m (H 61, 0) (lenF (H 54) m).toNat) else H) := by
  refine am_en1 (d := d + 3) (ml := 6) (ls := [_, _, _, _, _, _]) cq_Model_write rfl (Nat.le_of_ble_eq_true rfl) rfl ?_
  refine st_aload_n rfl rfl (by decide) ?_
  refine st_iload_n rfl rfl ?_
  refine st_cv1 (w := []) rfl rfl rfl (Nat.le_of_ble_eq_true rfl) (Nat.le_of_ble_eq_true rfl) rfl rfl (r_Model_isMark hP) ?_
  refine st_if_ne_b rfl (fun h3 => ?_) (fun h3 => ?_)
  · refine st_aload_n rfl rfl (by decide) ?_
    refine st_iconst rfl ?_
    refine st_putI (kk := 13) rfl rfl rfl rfl ?_
    refine st_iconst rfl ?_
    refine st_istore_n (ls' := [_, _, _, _, _, _]) rfl (Nat.le_of_ble_eq_true rfl) rfl ?_
    rw [← oH_0]
    have hl := (hI.mv h3.1 h3.2)
    have hn := hI.n
    have hlen := hl.2.1
    have hm200 := hl.1
    suffices hlo : ∀ k, k ≤ (lenF (H 54) m).toNat → ∀ t1 t2 t3, am_WP (am_R (d + 3)) cd_Model_write (fun v' σ' => v' = some (am_i (if 0 ≤ m ∧ m < H 54 1 then wlF (H 54) m (lenF (H 54) m).toNat else -1)) ∧ σ' = (N, P, if 0 ≤ m ∧ m < H 54 1 then oH H (wtF (H 54) m (H 61, 0) (lenF (H 54) m).toNat) else H)) 11 [some (am_r 53), some (am_i m), some (am_i (k : Int)), t1, t2, t3] [] (N, P, oH H (wtF (H 54) m (H 61, 0) k)) from hlo 0 (Nat.zero_le _) _ _ _
    refine up_ind (n := (lenF (H 54) m).toNat) ?_ ?_
    · intro t1 t2 t3
      refine st_iload_n rfl rfl ?_
      refine st_aload_n rfl rfl (by decide) ?_
      refine st_iload_n rfl rfl ?_
      refine st_cv1 (w := [_]) rfl rfl rfl (Nat.le_of_ble_eq_true rfl) (Nat.le_of_ble_eq_true rfl) rfl rfl (r_Model_partsOf hP (by omega) (by omega)) ?_
      rw [show ∀ s : OS, oH H s 54 (70 + 33 * m) = lenF (H 54) m from fun _ => rfl]
      refine st_icmp_ge rfl (fun h15 => ?_) (fun h15 => (by exfalso; omega))
      refine st_aload_n rfl rfl (by decide) ?_
      refine st_getI (kk := 13) rfl rfl (by decide) rfl ?_
      refine st_iret rfl (fun z => by first | exact absurd z (by decide) | exact bi_01 _ | decide | omega) ?_
      refine ⟨am_ri ?_, ?_⟩
      · rw [oH_13, wtF_2, if_pos h3]; show 0 + _ = _; omega
      · rw [if_pos h3]
    · intro k hk ih t1 t2 t3
      have hwl := wlF_r hl k (by omega)
      have hw2 : (wtF (H 54) m (H 61, 0) k).2 = wlF (H 54) m k := by rw [wtF_2]; show 0 + _ = _; omega
      have hpv := hl.2.2 (k : Int) (by omega) (by omega)
      have hwk2 := hwk h3.1 h3.2 (k : Int) (by omega) (by omega)
      have fk : ∀ (s : OS) (x : Int), oH H s 54 (70 + 33 * m + 1 + 4 * x + 0) = prtF (H 54) m x 0 := fun _ _ => rfl
      refine st_iload_n rfl rfl ?_
      refine st_aload_n rfl rfl (by decide) ?_
      refine st_iload_n rfl rfl ?_
      refine st_cv1 (w := [_]) rfl rfl rfl (Nat.le_of_ble_eq_true rfl) (Nat.le_of_ble_eq_true rfl) rfl rfl (r_Model_partsOf hP (by omega) (by omega)) ?_
      rw [show ∀ s : OS, oH H s 54 (70 + 33 * m) = lenF (H 54) m from fun _ => rfl]
      refine st_icmp_ge rfl (fun h15 => (by exfalso; omega)) (fun h15 => ?_)
      refine st_aload_n rfl rfl (by decide) ?_
      refine st_iload_n rfl rfl ?_
      refine st_iload_n rfl rfl ?_
      refine st_iconst rfl ?_
      refine st_cv1 (w := []) rfl rfl rfl (Nat.le_of_ble_eq_true rfl) (Nat.le_of_ble_eq_true rfl) rfl rfl (r_Model_partOf hP (by omega) (by omega) (by omega) (by omega) (by omega) (by omega)) ?_
      rw [fk]
      refine st_istore_n (ls' := [_, _, _, _, _, _]) rfl (Nat.le_of_ble_eq_true rfl) rfl ?_
      refine st_iload_n rfl rfl ?_
      refine st_if_le rfl (fun h23 => ?_) (fun h23 => ?_)
      · refine st_iconst rfl ?_
        refine st_istore (ls' := [_, _, _, _, _, _]) rfl (Nat.le_of_ble_eq_true rfl) rfl ?_
        refine st_iload rfl rfl ?_
        refine st_if_ne rfl (fun h35 => ?_) (fun h35 => (by exfalso; omega))
        refine st_iload rfl rfl ?_
        refine st_iconst rfl ?_
        refine st_icmp_ne rfl (fun h41 => ?_) (fun h41 => (by exfalso; omega))
        refine st_iconst rfl ?_
        refine st_istore (ls' := [_, _, _, _, _, _]) rfl (Nat.le_of_ble_eq_true rfl) rfl ?_
        refine st_iload_n rfl rfl ?_
        refine st_if_le rfl (fun h50 => ?_) (fun h50 => (by exfalso; omega))
        refine st_aload_n rfl rfl (by decide) ?_
        refine st_iload_n rfl rfl ?_
        refine st_iload_n rfl rfl ?_
        refine st_cv0 (w := []) rfl rfl rfl (Nat.le_of_ble_eq_true rfl) (Nat.le_of_ble_eq_true rfl) rfl rfl (r_Model_inkPart hP (by first | omega | (rw [inkF_2]; omega)) (by first | omega | (rw [inkF_2]; omega)) (by omega) (by omega) hpv hwk2) ?_
        refine st_iinc (ls' := [_, _, _, _, _, _]) rfl rfl (by omega) rfl ?_
        refine st_goto rfl ?_
        have e0 : wtF (H 54) m (H 61, 0) (k + 1) = pwF (prtF (H 54) m (k : Int) 0) (prtF (H 54) m (k : Int) 1) (prtF (H 54) m (k : Int) 2) (prtF (H 54) m (k : Int) 3) (if 0 < k ∧ ¬ jnF (H 54) m (k : Int) then inkF (wtF (H 54) m (H 61, 0) k) 32 else wtF (H 54) m (H 61, 0) k) := rfl
        first
        | (rw [e0, show (if 0 < k ∧ ¬ jnF (H 54) m (k : Int) then inkF (wtF (H 54) m (H 61, 0) k) 32 else wtF (H 54) m (H 61, 0) k) = wtF (H 54) m (H 61, 0) k from if_neg (fun q => by have := q.1; omega)] at ih; exact ih _ _ _)
        | (rw [e0, show (if 0 < k ∧ ¬ jnF (H 54) m (k : Int) then inkF (wtF (H 54) m (H 61, 0) k) 32 else wtF (H 54) m (H 61, 0) k) = inkF (wtF (H 54) m (H 61, 0) k) 32 from if_pos ⟨by omega, fun q => by rcases q with q | q <;> omega⟩] at ih; exact ih _ _ _)
        | (rw [e0, show (if 0 < k ∧ ¬ jnF (H 54) m (k : Int) then inkF (wtF (H 54) m (H 61, 0) k) 32 else wtF (H 54) m (H 61, 0) k) = wtF (H 54) m (H 61, 0) k from if_neg (fun q => q.2 (Or.inl ⟨by omega, by omega⟩))] at ih; exact ih _ _ _)
        | (rw [e0, show (if 0 < k ∧ ¬ jnF (H 54) m (k : Int) then inkF (wtF (H 54) m (H 61, 0) k) 32 else wtF (H 54) m (H 61, 0) k) = wtF (H 54) m (H 61, 0) k from if_neg (fun q => q.2 (Or.inr ⟨by omega, by omega⟩))] at ih; exact ih _ _ _)
      · refine st_aload_n rfl rfl (by decide) ?_
        refine st_iload_n rfl rfl ?_
        refine st_iload_n rfl rfl ?_
        refine st_iconst rfl ?_
        refine st_isub rfl (by omega) ?_
        refine st_iconst rfl ?_
        refine st_cv1 (w := []) rfl rfl rfl (Nat.le_of_ble_eq_true rfl) (Nat.le_of_ble_eq_true rfl) rfl rfl (r_Model_partOf hP (by omega) (by omega) (by omega) (by omega) (by omega) (by omega)) ?_
        rw [fk]
        refine st_goto rfl ?_
        refine st_istore (ls' := [_, _, _, _, _, _]) rfl (Nat.le_of_ble_eq_true rfl) rfl ?_
        refine st_iload rfl rfl ?_
        refine st_if_ne rfl (fun h35 => ?_) (fun h35 => ?_)
        · refine st_iload rfl rfl ?_
          refine st_iconst rfl ?_
          refine st_icmp_ne rfl (fun h41 => ?_) (fun h41 => ?_)
          · refine st_iconst rfl ?_
            refine st_istore (ls' := [_, _, _, _, _, _]) rfl (Nat.le_of_ble_eq_true rfl) rfl ?_
            refine st_iload_n rfl rfl ?_
            refine st_if_le rfl (fun h50 => (by exfalso; omega)) (fun h50 => ?_)
            refine st_iload rfl rfl ?_
            refine st_if_ne rfl (fun h52 => (by exfalso; omega)) (fun h52 => ?_)
            refine st_aload_n rfl rfl (by decide) ?_
            refine st_bipush rfl ?_
            refine st_cv0 (w := []) rfl rfl rfl (Nat.le_of_ble_eq_true rfl) (Nat.le_of_ble_eq_true rfl) rfl rfl (r_Model_ink hP (by omega) (by omega) (by omega)) ?_
            refine st_aload_n rfl rfl (by decide) ?_
            refine st_iload_n rfl rfl ?_
            refine st_iload_n rfl rfl ?_
            refine st_cv0 (w := []) rfl rfl rfl (Nat.le_of_ble_eq_true rfl) (Nat.le_of_ble_eq_true rfl) rfl rfl (r_Model_inkPart hP (by first | omega | (rw [inkF_2]; omega)) (by first | omega | (rw [inkF_2]; omega)) (by omega) (by omega) hpv hwk2) ?_
            refine st_iinc (ls' := [_, _, _, _, _, _]) rfl rfl (by omega) rfl ?_
            refine st_goto rfl ?_
            have e0 : wtF (H 54) m (H 61, 0) (k + 1) = pwF (prtF (H 54) m (k : Int) 0) (prtF (H 54) m (k : Int) 1) (prtF (H 54) m (k : Int) 2) (prtF (H 54) m (k : Int) 3) (if 0 < k ∧ ¬ jnF (H 54) m (k : Int) then inkF (wtF (H 54) m (H 61, 0) k) 32 else wtF (H 54) m (H 61, 0) k) := rfl
            first
            | (rw [e0, show (if 0 < k ∧ ¬ jnF (H 54) m (k : Int) then inkF (wtF (H 54) m (H 61, 0) k) 32 else wtF (H 54) m (H 61, 0) k) = wtF (H 54) m (H 61, 0) k from if_neg (fun q => by have := q.1; omega)] at ih; exact ih _ _ _)
            | (rw [e0, show (if 0 < k ∧ ¬ jnF (H 54) m (k : Int) then inkF (wtF (H 54) m (H 61, 0) k) 32 else wtF (H 54) m (H 61, 0) k) = inkF (wtF (H 54) m (H 61, 0) k) 32 from if_pos ⟨by omega, fun q => by rcases q with q | q <;> omega⟩] at ih; exact ih _ _ _)
            | (rw [e0, show (if 0 < k ∧ ¬ jnF (H 54) m (k : Int) then inkF (wtF (H 54) m (H 61, 0) k) 32 else wtF (H 54) m (H 61, 0) k) = wtF (H 54) m (H 61, 0) k from if_neg (fun q => q.2 (Or.inl ⟨by omega, by omega⟩))] at ih; exact ih _ _ _)
            | (rw [e0, show (if 0 < k ∧ ¬ jnF (H 54) m (k : Int) then inkF (wtF (H 54) m (H 61, 0) k) 32 else wtF (H 54) m (H 61, 0) k) = wtF (H 54) m (H 61, 0) k from if_neg (fun q => q.2 (Or.inr ⟨by omega, by omega⟩))] at ih; exact ih _ _ _)
          · refine st_iload_n rfl rfl ?_
            refine st_iconst rfl ?_
            refine st_icmp_ne rfl (fun h44 => ?_) (fun h44 => ?_)
            · refine st_iconst rfl ?_
              refine st_istore (ls' := [_, _, _, _, _, _]) rfl (Nat.le_of_ble_eq_true rfl) rfl ?_
              refine st_iload_n rfl rfl ?_
              refine st_if_le rfl (fun h50 => (by exfalso; omega)) (fun h50 => ?_)
              refine st_iload rfl rfl ?_
              refine st_if_ne rfl (fun h52 => (by exfalso; omega)) (fun h52 => ?_)
              refine st_aload_n rfl rfl (by decide) ?_
              refine st_bipush rfl ?_
              refine st_cv0 (w := []) rfl rfl rfl (Nat.le_of_ble_eq_true rfl) (Nat.le_of_ble_eq_true rfl) rfl rfl (r_Model_ink hP (by omega) (by omega) (by omega)) ?_
              refine st_aload_n rfl rfl (by decide) ?_
              refine st_iload_n rfl rfl ?_
              refine st_iload_n rfl rfl ?_
              refine st_cv0 (w := []) rfl rfl rfl (Nat.le_of_ble_eq_true rfl) (Nat.le_of_ble_eq_true rfl) rfl rfl (r_Model_inkPart hP (by first | omega | (rw [inkF_2]; omega)) (by first | omega | (rw [inkF_2]; omega)) (by omega) (by omega) hpv hwk2) ?_
              refine st_iinc (ls' := [_, _, _, _, _, _]) rfl rfl (by omega) rfl ?_
              refine st_goto rfl ?_
              have e0 : wtF (H 54) m (H 61, 0) (k + 1) = pwF (prtF (H 54) m (k : Int) 0) (prtF (H 54) m (k : Int) 1) (prtF (H 54) m (k : Int) 2) (prtF (H 54) m (k : Int) 3) (if 0 < k ∧ ¬ jnF (H 54) m (k : Int) then inkF (wtF (H 54) m (H 61, 0) k) 32 else wtF (H 54) m (H 61, 0) k) := rfl
              first
              | (rw [e0, show (if 0 < k ∧ ¬ jnF (H 54) m (k : Int) then inkF (wtF (H 54) m (H 61, 0) k) 32 else wtF (H 54) m (H 61, 0) k) = wtF (H 54) m (H 61, 0) k from if_neg (fun q => by have := q.1; omega)] at ih; exact ih _ _ _)
              | (rw [e0, show (if 0 < k ∧ ¬ jnF (H 54) m (k : Int) then inkF (wtF (H 54) m (H 61, 0) k) 32 else wtF (H 54) m (H 61, 0) k) = inkF (wtF (H 54) m (H 61, 0) k) 32 from if_pos ⟨by omega, fun q => by rcases q with q | q <;> omega⟩] at ih; exact ih _ _ _)
              | (rw [e0, show (if 0 < k ∧ ¬ jnF (H 54) m (k : Int) then inkF (wtF (H 54) m (H 61, 0) k) 32 else wtF (H 54) m (H 61, 0) k) = wtF (H 54) m (H 61, 0) k from if_neg (fun q => q.2 (Or.inl ⟨by omega, by omega⟩))] at ih; exact ih _ _ _)
              | (rw [e0, show (if 0 < k ∧ ¬ jnF (H 54) m (k : Int) then inkF (wtF (H 54) m (H 61, 0) k) 32 else wtF (H 54) m (H 61, 0) k) = wtF (H 54) m (H 61, 0) k from if_neg (fun q => q.2 (Or.inr ⟨by omega, by omega⟩))] at ih; exact ih _ _ _)
            · refine st_iconst rfl ?_
              refine st_goto rfl ?_
              refine st_istore (ls' := [_, _, _, _, _, _]) rfl (Nat.le_of_ble_eq_true rfl) rfl ?_
              refine st_iload_n rfl rfl ?_
              refine st_if_le rfl (fun h50 => (by exfalso; omega)) (fun h50 => ?_)
              refine st_iload rfl rfl ?_
              refine st_if_ne rfl (fun h52 => ?_) (fun h52 => (by exfalso; omega))
              refine st_aload_n rfl rfl (by decide) ?_
              refine st_iload_n rfl rfl ?_
              refine st_iload_n rfl rfl ?_
              refine st_cv0 (w := []) rfl rfl rfl (Nat.le_of_ble_eq_true rfl) (Nat.le_of_ble_eq_true rfl) rfl rfl (r_Model_inkPart hP (by first | omega | (rw [inkF_2]; omega)) (by first | omega | (rw [inkF_2]; omega)) (by omega) (by omega) hpv hwk2) ?_
              refine st_iinc (ls' := [_, _, _, _, _, _]) rfl rfl (by omega) rfl ?_
              refine st_goto rfl ?_
              have e0 : wtF (H 54) m (H 61, 0) (k + 1) = pwF (prtF (H 54) m (k : Int) 0) (prtF (H 54) m (k : Int) 1) (prtF (H 54) m (k : Int) 2) (prtF (H 54) m (k : Int) 3) (if 0 < k ∧ ¬ jnF (H 54) m (k : Int) then inkF (wtF (H 54) m (H 61, 0) k) 32 else wtF (H 54) m (H 61, 0) k) := rfl
              first
              | (rw [e0, show (if 0 < k ∧ ¬ jnF (H 54) m (k : Int) then inkF (wtF (H 54) m (H 61, 0) k) 32 else wtF (H 54) m (H 61, 0) k) = wtF (H 54) m (H 61, 0) k from if_neg (fun q => by have := q.1; omega)] at ih; exact ih _ _ _)
              | (rw [e0, show (if 0 < k ∧ ¬ jnF (H 54) m (k : Int) then inkF (wtF (H 54) m (H 61, 0) k) 32 else wtF (H 54) m (H 61, 0) k) = inkF (wtF (H 54) m (H 61, 0) k) 32 from if_pos ⟨by omega, fun q => by rcases q with q | q <;> omega⟩] at ih; exact ih _ _ _)
              | (rw [e0, show (if 0 < k ∧ ¬ jnF (H 54) m (k : Int) then inkF (wtF (H 54) m (H 61, 0) k) 32 else wtF (H 54) m (H 61, 0) k) = wtF (H 54) m (H 61, 0) k from if_neg (fun q => q.2 (Or.inl ⟨by omega, by omega⟩))] at ih; exact ih _ _ _)
              | (rw [e0, show (if 0 < k ∧ ¬ jnF (H 54) m (k : Int) then inkF (wtF (H 54) m (H 61, 0) k) 32 else wtF (H 54) m (H 61, 0) k) = wtF (H 54) m (H 61, 0) k from if_neg (fun q => q.2 (Or.inr ⟨by omega, by omega⟩))] at ih; exact ih _ _ _)
        · refine st_iload_n rfl rfl ?_
          refine st_iconst rfl ?_
          refine st_icmp_eq rfl (fun h38 => ?_) (fun h38 => ?_)
          · refine st_iconst rfl ?_
            refine st_goto rfl ?_
            refine st_istore (ls' := [_, _, _, _, _, _]) rfl (Nat.le_of_ble_eq_true rfl) rfl ?_
            refine st_iload_n rfl rfl ?_
            refine st_if_le rfl (fun h50 => (by exfalso; omega)) (fun h50 => ?_)
            refine st_iload rfl rfl ?_
            refine st_if_ne rfl (fun h52 => ?_) (fun h52 => (by exfalso; omega))
            refine st_aload_n rfl rfl (by decide) ?_
            refine st_iload_n rfl rfl ?_
            refine st_iload_n rfl rfl ?_
            refine st_cv0 (w := []) rfl rfl rfl (Nat.le_of_ble_eq_true rfl) (Nat.le_of_ble_eq_true rfl) rfl rfl (r_Model_inkPart hP (by first | omega | (rw [inkF_2]; omega)) (by first | omega | (rw [inkF_2]; omega)) (by omega) (by omega) hpv hwk2) ?_
            refine st_iinc (ls' := [_, _, _, _, _, _]) rfl rfl (by omega) rfl ?_
            refine st_goto rfl ?_
            have e0 : wtF (H 54) m (H 61, 0) (k + 1) = pwF (prtF (H 54) m (k : Int) 0) (prtF (H 54) m (k : Int) 1) (prtF (H 54) m (k : Int) 2) (prtF (H 54) m (k : Int) 3) (if 0 < k ∧ ¬ jnF (H 54) m (k : Int) then inkF (wtF (H 54) m (H 61, 0) k) 32 else wtF (H 54) m (H 61, 0) k) := rfl
            first
            | (rw [e0, show (if 0 < k ∧ ¬ jnF (H 54) m (k : Int) then inkF (wtF (H 54) m (H 61, 0) k) 32 else wtF (H 54) m (H 61, 0) k) = wtF (H 54) m (H 61, 0) k from if_neg (fun q => by have := q.1; omega)] at ih; exact ih _ _ _)
            | (rw [e0, show (if 0 < k ∧ ¬ jnF (H 54) m (k : Int) then inkF (wtF (H 54) m (H 61, 0) k) 32 else wtF (H 54) m (H 61, 0) k) = inkF (wtF (H 54) m (H 61, 0) k) 32 from if_pos ⟨by omega, fun q => by rcases q with q | q <;> omega⟩] at ih; exact ih _ _ _)
            | (rw [e0, show (if 0 < k ∧ ¬ jnF (H 54) m (k : Int) then inkF (wtF (H 54) m (H 61, 0) k) 32 else wtF (H 54) m (H 61, 0) k) = wtF (H 54) m (H 61, 0) k from if_neg (fun q => q.2 (Or.inl ⟨by omega, by omega⟩))] at ih; exact ih _ _ _)
            | (rw [e0, show (if 0 < k ∧ ¬ jnF (H 54) m (k : Int) then inkF (wtF (H 54) m (H 61, 0) k) 32 else wtF (H 54) m (H 61, 0) k) = wtF (H 54) m (H 61, 0) k from if_neg (fun q => q.2 (Or.inr ⟨by omega, by omega⟩))] at ih; exact ih _ _ _)
          · refine st_iload rfl rfl ?_
            refine st_iconst rfl ?_
            refine st_icmp_ne rfl (fun h41 => ?_) (fun h41 => (by exfalso; omega))
            refine st_iconst rfl ?_
            refine st_istore (ls' := [_, _, _, _, _, _]) rfl (Nat.le_of_ble_eq_true rfl) rfl ?_
            refine st_iload_n rfl rfl ?_
            refine st_if_le rfl (fun h50 => (by exfalso; omega)) (fun h50 => ?_)
            refine st_iload rfl rfl ?_
            refine st_if_ne rfl (fun h52 => (by exfalso; omega)) (fun h52 => ?_)
            refine st_aload_n rfl rfl (by decide) ?_
            refine st_bipush rfl ?_
            refine st_cv0 (w := []) rfl rfl rfl (Nat.le_of_ble_eq_true rfl) (Nat.le_of_ble_eq_true rfl) rfl rfl (r_Model_ink hP (by omega) (by omega) (by omega)) ?_
            refine st_aload_n rfl rfl (by decide) ?_
            refine st_iload_n rfl rfl ?_
            refine st_iload_n rfl rfl ?_
            refine st_cv0 (w := []) rfl rfl rfl (Nat.le_of_ble_eq_true rfl) (Nat.le_of_ble_eq_true rfl) rfl rfl (r_Model_inkPart hP (by first | omega | (rw [inkF_2]; omega)) (by first | omega | (rw [inkF_2]; omega)) (by omega) (by omega) hpv hwk2) ?_
            refine st_iinc (ls' := [_, _, _, _, _, _]) rfl rfl (by omega) rfl ?_
            refine st_goto rfl ?_
            have e0 : wtF (H 54) m (H 61, 0) (k + 1) = pwF (prtF (H 54) m (k : Int) 0) (prtF (H 54) m (k : Int) 1) (prtF (H 54) m (k : Int) 2) (prtF (H 54) m (k : Int) 3) (if 0 < k ∧ ¬ jnF (H 54) m (k : Int) then inkF (wtF (H 54) m (H 61, 0) k) 32 else wtF (H 54) m (H 61, 0) k) := rfl
            first
            | (rw [e0, show (if 0 < k ∧ ¬ jnF (H 54) m (k : Int) then inkF (wtF (H 54) m (H 61, 0) k) 32 else wtF (H 54) m (H 61, 0) k) = wtF (H 54) m (H 61, 0) k from if_neg (fun q => by have := q.1; omega)] at ih; exact ih _ _ _)
            | (rw [e0, show (if 0 < k ∧ ¬ jnF (H 54) m (k : Int) then inkF (wtF (H 54) m (H 61, 0) k) 32 else wtF (H 54) m (H 61, 0) k) = inkF (wtF (H 54) m (H 61, 0) k) 32 from if_pos ⟨by omega, fun q => by rcases q with q | q <;> omega⟩] at ih; exact ih _ _ _)
            | (rw [e0, show (if 0 < k ∧ ¬ jnF (H 54) m (k : Int) then inkF (wtF (H 54) m (H 61, 0) k) 32 else wtF (H 54) m (H 61, 0) k) = wtF (H 54) m (H 61, 0) k from if_neg (fun q => q.2 (Or.inl ⟨by omega, by omega⟩))] at ih; exact ih _ _ _)
            | (rw [e0, show (if 0 < k ∧ ¬ jnF (H 54) m (k : Int) then inkF (wtF (H 54) m (H 61, 0) k) 32 else wtF (H 54) m (H 61, 0) k) = wtF (H 54) m (H 61, 0) k from if_neg (fun q => q.2 (Or.inr ⟨by omega, by omega⟩))] at ih; exact ih _ _ _)
  · refine st_iconst rfl ?_
    refine st_iret rfl (fun z => by first | exact absurd z (by decide) | exact bi_01 _ | decide | omega) ?_
    refine ⟨am_ri ?_, ?_⟩
    · rw [if_neg h3]
    · rw [if_neg h3]
theorem r_Model_out {d N : Nat} {P : am_P} {H : am_H} {i : Int} (hP : PZ P) (h1 : H 53 13 ≤ 80) : am_R (d + 2) 75 [am_r 53, am_i (i)] (N, P, H) (some (am_i (if 0 ≤ i ∧ i < H 53 13 then H 61 i else -1))) (N, P, H) := by
  refine am_en1 (d := d + 1) (ml := 2) (ls := [_, _]) cq_Model_out rfl (Nat.le_of_ble_eq_true rfl) rfl ?_
  refine st_iload_n rfl rfl ?_
  refine st_aload_n rfl rfl (by decide) ?_
  refine st_getI (kk := 13) rfl rfl (by decide) rfl ?_
  refine st_cs1 (w := []) rfl (by decide) (by decide) (by decide) (Nat.le_of_ble_eq_true rfl) (Nat.le_of_ble_eq_true rfl) rfl rfl (r_Model_isIn) ?_
  refine st_if_eq_b rfl (fun h4 => ?_) (fun h4 => ?_)
  · refine st_iconst rfl ?_
    refine st_iret rfl (fun z => by first | exact absurd z (by decide) | exact bi_01 _ | decide | omega) ?_
    exact ⟨am_ri (by first | rw [if_pos h4] | rw [if_neg h4]), rfl⟩
  · refine st_aload_n rfl rfl (by decide) ?_
    refine st_getR (kk := 12) rfl rfl rfl (pz_53_12 hP) rfl ?_
    refine st_iload_n rfl rfl ?_
    refine st_baload rfl rfl (Or.inl rfl) (by omega) (by omega) ?_
    refine st_goto rfl ?_
    refine st_iret rfl (fun z => by first | exact absurd z (by decide) | exact bi_01 _ | decide | omega) ?_
    exact ⟨am_ri (by first | rw [if_pos h4] | rw [if_neg h4]), rfl⟩
