/-! ===== the reference: its beginning ===== -/
def iniL (j : Nat) : Int → Int := fun k => if k = 5 then -1 else if 6670 ≤ k ∧ k < 6670 + 32 * (j : Int) ∧ 2 ≤ (k - 6670) % 32 then -1 else 0
def iniA : Int → Int := fun k => if k = 5 then -1 else if 6670 ≤ k ∧ k < 7182 ∧ 2 ≤ (k - 6670) % 32 then -1 else if 8782 ≤ k ∧ k < 8982 then -1 else 0
def INQ (P : am_P) (H : am_H) (v : Option am_V) (σ : am_S) : Prop := v = none ∧ ∃ (P' : am_P) (H' : am_H), σ = (72, P', H') ∧ (∀ o, o < 53 → P' o = P o ∧ H' o = H o) ∧ H' 53 = am_uf (H 53) 4 (-1) ∧ H' 54 = iniA ∧ (∀ o, 55 ≤ o → o < 72 → H' o = fun _ => 0) ∧ ((∀ q ∈ PZt, q.1 < 53 → P q.1 q.2.1 = q.2.2) → PZ P')

def iP (P : am_P) : am_P := am_up (am_so (am_up (am_so (am_up (am_so (am_up (am_so (am_up (am_so (am_up (am_so (am_up (am_so (am_up (am_so (am_up (am_so (am_up (am_so (am_up (am_so (am_up (am_so (am_up (am_so (am_up (am_so (am_up (am_so (am_up (am_so (am_up (am_so (am_up (am_so (P) 54 (fun _ => 0)) 53 0 54) 55 (fun _ => 0)) 53 1 55) 56 (fun _ => 0)) 53 2 56) 57 (fun _ => 0)) 53 8 57) 58 (fun _ => 0)) 53 9 58) 59 (fun _ => 0)) 53 10 59) 60 (fun _ => 0)) 53 11 60) 61 (fun _ => 0)) 53 12 61) 62 (fun _ => 0)) 53 14 62) 63 (fun _ => 0)) 53 15 63) 64 (fun _ => 0)) 53 16 64) 65 (fun _ => 0)) 53 17 65) 66 (fun _ => 0)) 53 18 66) 67 (fun _ => 0)) 53 20 67) 68 (fun _ => 0)) 53 21 68) 69 (fun _ => 0)) 53 25 69) 70 (fun _ => 0)) 53 26 70) 71 (fun _ => 0)) 53 28 71
def iH (H : am_H) : am_H := am_so (am_so (am_so (am_so (am_so (am_so (am_so (am_so (am_so (am_so (am_so (am_so (am_so (am_so (am_so (am_up (am_so (am_so (am_so (H) 54 (fun _ => 0)) 55 (fun _ => 0)) 56 (fun _ => 0)) 53 4 (-1)) 57 (fun _ => 0)) 58 (fun _ => 0)) 59 (fun _ => 0)) 60 (fun _ => 0)) 61 (fun _ => 0)) 62 (fun _ => 0)) 63 (fun _ => 0)) 64 (fun _ => 0)) 65 (fun _ => 0)) 66 (fun _ => 0)) 67 (fun _ => 0)) 68 (fun _ => 0)) 69 (fun _ => 0)) 70 (fun _ => 0)) 71 (fun _ => 0)
theorem iP_o (P : am_P) {o : Nat} (h : o < 53) : iP P o = P o := by
  unfold iP
  simp (disch := omega) only [am_up_ne, am_so_ne, ne_eq]
theorem iH_o (H : am_H) {o : Nat} (h : o < 53) : iH H o = H o := by
  unfold iH
  simp (disch := omega) only [am_up_ne, am_so_ne, ne_eq]
theorem iH_53 (H : am_H) : iH H 53 = am_uf (H 53) 4 (-1) := by
  unfold iH
  simp (disch := omega) only [am_up_ne, am_so_ne, ne_eq, am_up_eq]
theorem iH_a (H : am_H) {o : Nat} (h : 54 ≤ o) (h2 : o < 72) : iH H o = fun _ => 0 := by
  have : o = 54 ∨ o = 55 ∨ o = 56 ∨ o = 57 ∨ o = 58 ∨ o = 59 ∨ o = 60 ∨ o = 61 ∨ o = 62 ∨ o = 63 ∨ o = 64 ∨ o = 65 ∨ o = 66 ∨ o = 67 ∨ o = 68 ∨ o = 69 ∨ o = 70 ∨ o = 71 := by omega
  rcases this with rfl | rfl | rfl | rfl | rfl | rfl | rfl | rfl | rfl | rfl | rfl | rfl | rfl | rfl | rfl | rfl | rfl | rfl <;> rfl

def PZm : List (Int × Nat) := [(0, 54), (1, 55), (2, 56), (8, 57), (9, 58), (10, 59), (11, 60), (12, 61), (14, 62), (15, 63), (16, 64), (17, 65), (18, 66), (20, 67), (21, 68), (25, 69), (26, 70), (28, 71)]
theorem iP_53 (P : am_P) : ∀ q ∈ PZm, iP P 53 q.1 = q.2 := by
  intro q hq
  simp only [PZm, List.mem_cons, List.not_mem_nil, or_false] at hq
  rcases hq with rfl | rfl | rfl | rfl | rfl | rfl | rfl | rfl | rfl | rfl | rfl | rfl | rfl | rfl | rfl | rfl | rfl | rfl <;> rfl
theorem PZt_m : ∀ q ∈ PZt, q.1 < 53 ∨ (q.1 = 53 ∧ (q.2.1, q.2.2) ∈ PZm) := by decide +kernel
theorem iP_z (P : am_P) (h : ∀ q ∈ PZt, q.1 < 53 → P q.1 q.2.1 = q.2.2) : PZ (iP P) := by
  intro q hq
  rcases PZt_m q hq with r | r
  · rw [iP_o P r]; exact h q hq r
  · rw [r.1]; exact iP_53 P (q.2.1, q.2.2) r.2
theorem wp_st {d : Nat} {cd : List am_I} {Q : Option am_V → am_S → Prop} {i : Nat} {ls : am_L} {st : List am_V} {σ σ' : am_S} (h : σ' = σ) (k : am_WP (am_R d) cd Q i ls st σ) : am_WP (am_R d) cd Q i ls st σ' := by rw [h]; exact k

def iniI (j p : Nat) : Int → Int := fun k => if k = 5 then -1 else if 6670 ≤ k ∧ k < 6670 + 32 * (j : Int) + 2 + (p : Int) ∧ 2 ≤ (k - 6670) % 32 then -1 else 0
theorem iniI_0 : am_uf (fun _ => 0) 5 (-1) = iniI 0 0 := by
  funext k
  unfold am_uf iniI
  split
  · rfl
  · rw [if_neg (by omega)]
theorem iniI_p (j p : Nat) (hp : p < 30) : am_uf (iniI j p) (6670 + 32 * (j : Int) + 2 + (p : Int)) (-1) = iniI j (p + 1) := by
  funext k
  unfold am_uf iniI
  by_cases h : k = 6670 + 32 * (j : Int) + 2 + (p : Int)
  · rw [if_pos h, if_neg (by omega), if_pos (by omega)]
  · rw [if_neg h]
    split
    · rfl
    · by_cases q : 6670 ≤ k ∧ k < 6670 + 32 * (j : Int) + 2 + (p : Int) ∧ 2 ≤ (k - 6670) % 32
      · rw [if_pos q, if_pos (by omega)]
      · rw [if_neg q, if_neg (by omega)]
theorem iniI_j (j : Nat) : iniI j 30 = iniI (j + 1) 0 := by
  funext k
  unfold iniI
  split
  · rfl
  · by_cases q : 6670 ≤ k ∧ k < 6670 + 32 * (j : Int) + 2 + ((30 : Nat) : Int) ∧ 2 ≤ (k - 6670) % 32
    · rw [if_pos q, if_pos (by omega)]
    · rw [if_neg q, if_neg (by omega)]
theorem iniI_A : fillF (iniI 16 0) 8782 200 (-1) = iniA := by
  funext k
  unfold fillF iniI iniA
  by_cases h : 8782 ≤ k ∧ k < 8782 + 200
  · rw [if_pos h, if_neg (by omega), if_neg (by omega), if_pos (by omega)]
  · rw [if_neg h]
    split
    · rfl
    · by_cases q : 6670 ≤ k ∧ k < 6670 + 32 * ((16 : Nat) : Int) + 2 + ((0 : Nat) : Int) ∧ 2 ≤ (k - 6670) % 32
      · rw [if_pos q, if_pos (by omega)]
      · rw [if_neg q, if_neg (by omega), if_neg (by omega)]

theorem c_Model_init {d : Nat} {P : am_P} {H : am_H} : am_C (d + 1) 43 [am_r 53] (54, P, H) (INQ P H) := by
  refine am_enC (d := d + 0) (ml := 3) (ls := [_, _, _]) cq_Model_init rfl (Nat.le_of_ble_eq_true rfl) rfl ?_
  refine st_aload_n rfl rfl (by decide) ?_
  refine st_obj rfl (by decide) (Nat.le_of_ble_eq_true rfl) ?_
  refine st_aload_n rfl rfl (by decide) ?_
  refine st_ldc rfl ?_
  refine st_newarray rfl (by decide) (by decide) rfl ?_
  refine st_putR (kk := 0) rfl rfl rfl (by decide) rfl ?_
  refine st_aload_n rfl rfl (by decide) ?_
  refine st_iconst rfl ?_
  refine st_newarray rfl (by decide) (by decide) rfl ?_
  refine st_putR (kk := 1) rfl rfl rfl (by decide) rfl ?_
  refine st_aload_n rfl rfl (by decide) ?_
  refine st_bipush rfl ?_
  refine st_newarray rfl (by decide) (by decide) rfl ?_
  refine st_putR (kk := 2) rfl rfl rfl (by decide) rfl ?_
  refine st_aload_n rfl rfl (by decide) ?_
  refine st_iconst rfl ?_
  refine st_putI (kk := 4) rfl rfl rfl rfl ?_
  refine st_aload_n rfl rfl (by decide) ?_
  refine st_bipush rfl ?_
  refine st_newarray rfl (by decide) (by decide) rfl ?_
  refine st_putR (kk := 8) rfl rfl rfl (by decide) rfl ?_
  refine st_aload_n rfl rfl (by decide) ?_
  refine st_bipush rfl ?_
  refine st_newarray rfl (by decide) (by decide) rfl ?_
  refine st_putR (kk := 9) rfl rfl rfl (by decide) rfl ?_
  refine st_aload_n rfl rfl (by decide) ?_
  refine st_bipush rfl ?_
  refine st_newarray rfl (by decide) (by decide) rfl ?_
  refine st_putR (kk := 10) rfl rfl rfl (by decide) rfl ?_
  refine st_aload_n rfl rfl (by decide) ?_
  refine st_bipush rfl ?_
  refine st_newarray rfl (by decide) (by decide) rfl ?_
  refine st_putR (kk := 11) rfl rfl rfl (by decide) rfl ?_
  refine st_aload_n rfl rfl (by decide) ?_
  refine st_bipush rfl ?_
  refine st_newarray rfl (by decide) (by decide) rfl ?_
  refine st_putR (kk := 12) rfl rfl rfl (by decide) rfl ?_
  refine st_aload_n rfl rfl (by decide) ?_
  refine st_bipush rfl ?_
  refine st_newarray rfl (by decide) (by decide) rfl ?_
  refine st_putR (kk := 14) rfl rfl rfl (by decide) rfl ?_
  refine st_aload_n rfl rfl (by decide) ?_
  refine st_bipush rfl ?_
  refine st_newarray rfl (by decide) (by decide) rfl ?_
  refine st_putR (kk := 15) rfl rfl rfl (by decide) rfl ?_
  refine st_aload_n rfl rfl (by decide) ?_
  refine st_sipush rfl ?_
  refine st_newarray rfl (by decide) (by decide) rfl ?_
  refine st_putR (kk := 16) rfl rfl rfl (by decide) rfl ?_
  refine st_aload_n rfl rfl (by decide) ?_
  refine st_sipush rfl ?_
  refine st_newarray rfl (by decide) (by decide) rfl ?_
  refine st_putR (kk := 17) rfl rfl rfl (by decide) rfl ?_
  refine st_aload_n rfl rfl (by decide) ?_
  refine st_sipush rfl ?_
  refine st_newarray rfl (by decide) (by decide) rfl ?_
  refine st_putR (kk := 18) rfl rfl rfl (by decide) rfl ?_
  refine st_aload_n rfl rfl (by decide) ?_
  refine st_sipush rfl ?_
  refine st_newarray rfl (by decide) (by decide) rfl ?_
  refine st_putR (kk := 20) rfl rfl rfl (by decide) rfl ?_
  refine st_aload_n rfl rfl (by decide) ?_
  refine st_sipush rfl ?_
  refine st_newarray rfl (by decide) (by decide) rfl ?_
  refine st_putR (kk := 21) rfl rfl rfl (by decide) rfl ?_
  refine st_aload_n rfl rfl (by decide) ?_
  refine st_bipush rfl ?_
  refine st_newarray rfl (by decide) (by decide) rfl ?_
  refine st_putR (kk := 25) rfl rfl rfl (by decide) rfl ?_
  refine st_aload_n rfl rfl (by decide) ?_
  refine st_sipush rfl ?_
  refine st_newarray rfl (by decide) (by decide) rfl ?_
  refine st_putR (kk := 26) rfl rfl rfl (by decide) rfl ?_
  refine st_aload_n rfl rfl (by decide) ?_
  refine st_sipush rfl ?_
  refine st_newarray rfl (by decide) (by decide) rfl ?_
  refine st_putR (kk := 28) rfl rfl rfl (by decide) rfl ?_
  refine wp_st (σ := (72, iP P, iH H)) rfl ?_
  refine st_aload_n rfl rfl (by decide) ?_
  refine st_getR (kk := 0) rfl rfl rfl (show iP P 53 0 = 54 from rfl) rfl ?_
  refine st_iconst rfl ?_
  refine st_iconst rfl ?_
  refine st_iastore rfl rfl (by omega) (by omega) ?_
  refine st_iconst rfl ?_
  refine st_istore_n (ls' := [_, _, _]) rfl (Nat.le_of_ble_eq_true rfl) rfl ?_
  rw [show am_up (iH H) 54 5 (-1) = am_so (iH H) 54 (iniI 0 0) by unfold am_up; rw [iH_a H (by decide) (by decide), iniI_0]]
  refine up_ind (n := 16) (p := fun j => ∀ t, am_WP (am_R (d + 0)) cd_Model_init _ 84 [some (am_r 53), some (am_i (j : Int)), t] [] (72, iP P, am_so (iH H) 54 (iniI j 0))) ?_ ?_ 0 (Nat.zero_le _) _
  · intro t
    refine st_iload_n rfl rfl ?_
    refine st_bipush rfl ?_
    refine st_icmp_ge rfl (fun h86 => ?_) (fun h86 => (by exfalso; omega))
    refine st_iconst rfl ?_
    refine st_istore_n (ls' := [_, _, _]) rfl (Nat.le_of_ble_eq_true rfl) rfl ?_
    rw [show iniI 16 0 = fillF (iniI 16 0) 8782 ((0 : Nat) : Int) (-1) from (fillF_0 _ _ _).symm]
    refine up_ind (n := 200) (p := fun j => ∀ t, am_WP (am_R (d + 0)) cd_Model_init _ 111 [some (am_r 53), some (am_i (j : Int)), t] [] (72, iP P, am_so (iH H) 54 (fillF (iniI 16 0) 8782 (j : Int) (-1)))) ?_ ?_ 0 (Nat.zero_le _) _
    · intro t
      refine st_iload_n rfl rfl ?_
      refine st_sipush rfl ?_
      refine st_icmp_ge rfl (fun h113 => ?_) (fun h113 => (by exfalso; omega))
      refine st_ret rfl ?_
      refine ⟨rfl, _, _, rfl, fun o ho => ⟨iP_o P ho, by rw [am_so_ne _ _ (by omega)]; exact iH_o H ho⟩, by rw [am_so_ne _ _ (by decide)]; exact iH_53 H, by rw [am_so_at]; exact iniI_A, fun o h1 h2 => by rw [am_so_ne _ _ (by omega)]; exact iH_a H (by omega) h2, iP_z P⟩
    · intro j hj ih
      intro t
      refine st_iload_n rfl rfl ?_
      refine st_sipush rfl ?_
      refine st_icmp_ge rfl (fun h113 => (by exfalso; omega)) (fun h113 => ?_)
      refine st_aload_n rfl rfl (by decide) ?_
      refine st_getR (kk := 0) rfl rfl rfl (show iP P 53 0 = 54 from rfl) rfl ?_
      refine st_sipush rfl ?_
      refine st_iload_n rfl rfl ?_
      refine st_iadd rfl (by omega) ?_
      refine st_iconst rfl ?_
      refine st_iastore rfl rfl (by omega) (by omega) ?_
      refine st_iinc (ls' := [_, _, _]) rfl rfl (by omega) rfl ?_
      refine st_goto rfl ?_
      have ih := ih t
      rw [← fillF_s] at ih
      simp only [am_up, am_so_so, am_so_at]
      exact ih
  · intro j hj ih
    intro t
    refine st_iload_n rfl rfl ?_
    refine st_bipush rfl ?_
    refine st_icmp_ge rfl (fun h86 => (by exfalso; omega)) (fun h86 => ?_)
    refine st_iconst rfl ?_
    refine st_istore_n (ls' := [_, _, _]) rfl (Nat.le_of_ble_eq_true rfl) rfl ?_
    refine up_ind (n := 30) (p := fun p => am_WP (am_R (d + 0)) cd_Model_init _ 89 [some (am_r 53), some (am_i (j : Int)), some (am_i (p : Int))] [] (72, iP P, am_so (iH H) 54 (iniI j p))) ?_ ?_ 0 (Nat.zero_le _)
    · show am_WP _ _ _ _ _ _ _
      refine st_iload_n rfl rfl ?_
      refine st_bipush rfl ?_
      refine st_icmp_ge rfl (fun h91 => ?_) (fun h91 => (by exfalso; omega))
      refine st_iinc (ls' := [_, _, _]) rfl rfl (by omega) rfl ?_
      refine st_goto rfl ?_
      rw [iniI_j]
      exact ih _
    · intro p hp ihp
      have ihp : am_WP _ _ _ _ _ _ _ := ihp
      show am_WP _ _ _ _ _ _ _
      refine st_iload_n rfl rfl ?_
      refine st_bipush rfl ?_
      refine st_icmp_ge rfl (fun h91 => (by exfalso; omega)) (fun h91 => ?_)
      refine st_aload_n rfl rfl (by decide) ?_
      refine st_getR (kk := 0) rfl rfl rfl (show iP P 53 0 = 54 from rfl) rfl ?_
      refine st_sipush rfl ?_
      refine st_bipush rfl ?_
      refine st_iload_n rfl rfl ?_
      refine st_imul rfl (by omega) ?_
      refine st_iadd rfl (by omega) ?_
      refine st_iconst rfl ?_
      refine st_iadd rfl (by omega) ?_
      refine st_iload_n rfl rfl ?_
      refine st_iadd rfl (by omega) ?_
      refine st_iconst rfl ?_
      refine st_iastore rfl rfl (by omega) (by omega) ?_
      refine st_iinc (ls' := [_, _, _]) rfl rfl (by omega) rfl ?_
      refine st_goto rfl ?_
      rw [← iniI_p j p hp] at ihp
      simp only [am_up, am_so_so, am_so_at]
      exact ihp
