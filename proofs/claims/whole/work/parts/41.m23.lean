/-! ===== the reference: its beginning ===== -/
def iniL (j : Nat) : Int → Int := fun k => if k = 5 then -1 else if 6670 ≤ k ∧ k < 6670 + 32 * (j : Int) ∧ 2 ≤ (k - 6670) % 32 then -1 else 0
def iniA : Int → Int := fun k => if k = 5 then -1 else if 6670 ≤ k ∧ k < 7182 ∧ 2 ≤ (k - 6670) % 32 then -1 else if 8782 ≤ k ∧ k < 8982 then -1 else 0
def INQ (P : am_P) (H : am_H) (v : Option am_V) (σ : am_S) : Prop := v = none ∧ ∃ (P' : am_P) (H' : am_H), σ = (72, P', H') ∧ (∀ o, o < 53 → P' o = P o ∧ H' o = H o) ∧ H' 53 = am_uf (H 53) 4 (-1) ∧ H' 54 = iniA ∧ (∀ o, 55 ≤ o → o < 72 → H' o = fun _ => 0) ∧ ((∀ q ∈ PZt, q.1 < 53 → P q.1 q.2.1 = q.2.2) → PZ P')

theorem c_Model_init {d : Nat} {P : am_P} {H : am_H} : am_C (d + 1) 43 [am_r 53] (54, P, H) (INQ P H) := by
  refine am_enC (d := d + 0) (ml := 3) (ls := [_, _, _]) cq_Model_init rfl (Nat.le_of_ble_eq_true rfl) rfl ?_
  refine st_aload_n rfl rfl (by decide) ?_
  refine st_obj rfl (by decide) (Nat.le_of_ble_eq_true rfl) ?_
  refine st_aload_n rfl rfl (by decide) ?_
  refine st_ldc rfl ?_
  refine st_newarray rfl (by decide) (by decide) rfl ?_
  refine st_putR (kk := 0) rfl rfl rfl (by decide) rfl ?_
  refine st_aload_n rfl rfl (by decide) ?_
  refine st_iconst rfl ?_
  refine st_newarray rfl (by decide) (by decide) rfl ?_
  refine st_putR (kk := 1) rfl rfl rfl (by decide) rfl ?_
  refine st_aload_n rfl rfl (by decide) ?_
  refine st_bipush rfl ?_
  refine st_newarray rfl (by decide) (by decide) rfl ?_
  refine st_putR (kk := 2) rfl rfl rfl (by decide) rfl ?_
  refine st_aload_n rfl rfl (by decide) ?_
  refine st_iconst rfl ?_
  refine st_putI (kk := 4) rfl rfl rfl rfl ?_
  refine st_aload_n rfl rfl (by decide) ?_
  refine st_bipush rfl ?_
  refine st_newarray rfl (by decide) (by decide) rfl ?_
  refine st_putR (kk := 8) rfl rfl rfl (by decide) rfl ?_
  refine st_aload_n rfl rfl (by decide) ?_
  refine st_bipush rfl ?_
  refine st_newarray rfl (by decide) (by decide) rfl ?_
  refine st_putR (kk := 9) rfl rfl rfl (by decide) rfl ?_
  refine st_aload_n rfl rfl (by decide) ?_
  refine st_bipush rfl ?_
  refine st_newarray rfl (by decide) (by decide) rfl ?_
  refine st_putR (kk := 10) rfl rfl rfl (by decide) rfl ?_
  refine st_aload_n rfl rfl (by decide) ?_
  refine st_bipush rfl ?_
  refine st_newarray rfl (by decide) (by decide) rfl ?_
  refine st_putR (kk := 11) rfl rfl rfl (by decide) rfl ?_
  refine st_aload_n rfl rfl (by decide) ?_
  refine st_bipush rfl ?_
  refine st_newarray rfl (by decide) (by decide) rfl ?_
  refine st_putR (kk := 12) rfl rfl rfl (by decide) rfl ?_
  refine st_aload_n rfl rfl (by decide) ?_
  refine st_bipush rfl ?_
  refine st_newarray rfl (by decide) (by decide) rfl ?_
  refine st_putR (kk := 14) rfl rfl rfl (by decide) rfl ?_
  refine st_aload_n rfl rfl (by decide) ?_
  refine st_bipush rfl ?_
  refine st_newarray rfl (by decide) (by decide) rfl ?_
  refine st_putR (kk := 15) rfl rfl rfl (by decide) rfl ?_
  refine st_aload_n rfl rfl (by decide) ?_
  refine st_sipush rfl ?_
  refine st_newarray rfl (by decide) (by decide) rfl ?_
  refine st_putR (kk := 16) rfl rfl rfl (by decide) rfl ?_
  refine st_aload_n rfl rfl (by decide) ?_
  refine st_sipush rfl ?_
  refine st_newarray rfl (by decide) (by decide) rfl ?_
  refine st_putR (kk := 17) rfl rfl rfl (by decide) rfl ?_
  refine st_aload_n rfl rfl (by decide) ?_
  refine st_sipush rfl ?_
  refine st_newarray rfl (by decide) (by decide) rfl ?_
  refine st_putR (kk := 18) rfl rfl rfl (by decide) rfl ?_
  refine st_aload_n rfl rfl (by decide) ?_
  refine st_sipush rfl ?_
  refine st_newarray rfl (by decide) (by decide) rfl ?_
  refine st_putR (kk := 20) rfl rfl rfl (by decide) rfl ?_
  refine st_aload_n rfl rfl (by decide) ?_
  refine st_sipush rfl ?_
  refine st_newarray rfl (by decide) (by decide) rfl ?_
  refine st_putR (kk := 21) rfl rfl rfl (by decide) rfl ?_
  refine st_aload_n rfl rfl (by decide) ?_
  refine st_bipush rfl ?_
  refine st_newarray rfl (by decide) (by decide) rfl ?_
  refine st_putR (kk := 25) rfl rfl rfl (by decide) rfl ?_
  refine st_aload_n rfl rfl (by decide) ?_
  refine st_sipush rfl ?_
  refine st_newarray rfl (by decide) (by decide) rfl ?_
  refine st_putR (kk := 26) rfl rfl rfl (by decide) rfl ?_
  refine st_aload_n rfl rfl (by decide) ?_
  refine st_sipush rfl ?_
  refine st_newarray rfl (by decide) (by decide) rfl ?_
  refine st_putR (kk := 28) rfl rfl rfl (by decide) rfl ?_
  skip
