/-! ===== the class: its beginning, images ===== -/
theorem r_ByteRow_init_5 {d N : Nat} {P : am_P} {H : am_H}   : am_R (d + 1) 132 [am_r 5, am_i (80)] (6, P, H) none (7, am_up (am_so P 6 (fun _ => 0)) 5 0 6, am_so H 6 (fun _ => 0)) := by
  refine am_en1 (d := d + 0) (ml := 2) (ls := [_, _]) cq_ByteRow_init rfl (Nat.le_of_ble_eq_true rfl) rfl ?_
  refine st_aload_n rfl rfl (by decide) ?_
  refine st_obj rfl (by decide) (Nat.le_of_ble_eq_true rfl) ?_
  refine st_aload_n rfl rfl (by decide) ?_
  refine st_iconst rfl ?_
  refine st_iload_n rfl rfl ?_
  refine st_max rfl (Nat.le_of_ble_eq_true rfl) ?_
  refine st_newarray rfl (by decide) (by decide) rfl ?_
  refine st_putR (kk := 0) rfl rfl rfl (by decide) rfl ?_
  refine st_ret rfl ?_
  exact ⟨rfl, rfl⟩
theorem r_ByteRow_init_8 {d N : Nat} {P : am_P} {H : am_H}   : am_R (d + 1) 132 [am_r 8, am_i (60)] (9, P, H) none (10, am_up (am_so P 9 (fun _ => 0)) 8 0 9, am_so H 9 (fun _ => 0)) := by
  refine am_en1 (d := d + 0) (ml := 2) (ls := [_, _]) cq_ByteRow_init rfl (Nat.le_of_ble_eq_true rfl) rfl ?_
  refine st_aload_n rfl rfl (by decide) ?_
  refine st_obj rfl (by decide) (Nat.le_of_ble_eq_true rfl) ?_
  refine st_aload_n rfl rfl (by decide) ?_
  refine st_iconst rfl ?_
  refine st_iload_n rfl rfl ?_
  refine st_max rfl (Nat.le_of_ble_eq_true rfl) ?_
  refine st_newarray rfl (by decide) (by decide) rfl ?_
  refine st_putR (kk := 0) rfl rfl rfl (by decide) rfl ?_
  refine st_ret rfl ?_
  exact ⟨rfl, rfl⟩
theorem r_TextReader_init_4 {d N : Nat} {P : am_P} {H : am_H}   : am_R (d + 2) 231 [am_r 4] (5, P, H) none (8, am_up (am_so (am_up (am_up (am_so (am_so P 5 (fun _ => 0)) 6 (fun _ => 0)) 5 0 6) 4 0 5) 7 (fun _ => 0)) 4 1 7, am_so (am_so (am_so H 5 (fun _ => 0)) 6 (fun _ => 0)) 7 (fun _ => 0)) := by
  refine am_en1 (d := d + 1) (ml := 1) (ls := [_]) cq_TextReader_init rfl (Nat.le_of_ble_eq_true rfl) rfl ?_
  refine st_aload_n rfl rfl (by decide) ?_
  refine st_obj rfl (by decide) (Nat.le_of_ble_eq_true rfl) ?_
  refine st_aload_n rfl rfl (by decide) ?_
  refine st_new rfl rfl ?_
  refine st_dup rfl rfl ?_
  refine st_bipush rfl ?_
  refine st_ci0 (w := [_, _]) rfl (by decide) (by decide) rfl (Nat.le_of_ble_eq_true rfl) (Nat.le_of_ble_eq_true rfl) rfl rfl (r_ByteRow_init_5 (N := 0)) ?_
  refine st_putR (kk := 0) rfl rfl rfl (by decide) rfl ?_
  refine st_aload_n rfl rfl (by decide) ?_
  refine st_bipush rfl ?_
  refine st_newarray rfl (by decide) (by decide) rfl ?_
  refine st_putR (kk := 1) rfl rfl rfl (by decide) rfl ?_
  refine st_ret rfl ?_
  exact ⟨rfl, rfl⟩
def ciP1 (P : am_P) : am_P := am_so (am_up (am_up (am_so (am_so (am_up (am_up (am_so (am_up (am_up (am_so (am_so (am_so P 4 (fun _ => 0)) 5 (fun _ => 0)) 6 (fun _ => 0)) 5 0 6) 4 0 5) 7 (fun _ => 0)) 4 1 7) 3 0 4) 8 (fun _ => 0)) 9 (fun _ => 0)) 8 0 9) 3 1 8) 10 (fun _ => 0)
def ciH1 (H : am_H) : am_H := am_so (am_up (am_so (am_so (am_so (am_so (am_so (am_so H 4 (fun _ => 0)) 5 (fun _ => 0)) 6 (fun _ => 0)) 7 (fun _ => 0)) 8 (fun _ => 0)) 9 (fun _ => 0)) 3 2 (-1)) 10 (fun _ => 0)
def ciP (P : am_P) : am_P := am_up (iPShifter (am_so (am_up (iPSequence (am_so (am_up (am_so (am_up (iPS (ciP1 P) 10) 3 3 10) 39 (fun _ => 0)) 3 4 39) 40 (fun _ => 0)) 40) 3 5 40) 43 (fun _ => 0)) 43) 3 6 43
def ciH (H : am_H) : am_H := iHShifter (am_so (iHSequence (am_so (am_so (iHS (ciH1 H) 10) 39 (fun _ => 0)) 40 (fun _ => 0)) 40) 43 (fun _ => 0)) 43
theorem r_Cart_init {d N : Nat} {P : am_P} {H : am_H}   : am_R (d + 3) 0 [am_r 3] (4, P, H) none (53, ciP P, ciH H) := by
  refine am_en1 (d := d + 2) (ml := 1) (ls := [_]) cq_Cart_init rfl (Nat.le_of_ble_eq_true rfl) rfl ?_
  refine st_aload_n rfl rfl (by decide) ?_
  refine st_obj rfl (by decide) (Nat.le_of_ble_eq_true rfl) ?_
  refine st_aload_n rfl rfl (by decide) ?_
  refine st_new rfl rfl ?_
  refine st_dup rfl rfl ?_
  refine st_ci0 (w := [_, _]) rfl (by decide) (by decide) rfl (Nat.le_of_ble_eq_true rfl) (Nat.le_of_ble_eq_true rfl) rfl rfl (r_TextReader_init_4 (N := 0)) ?_
  refine st_putR (kk := 0) rfl rfl rfl (by decide) rfl ?_
  refine st_aload_n rfl rfl (by decide) ?_
  refine st_new rfl rfl ?_
  refine st_dup rfl rfl ?_
  refine st_bipush rfl ?_
  refine st_ci0 (w := [_, _]) rfl (by decide) (by decide) rfl (Nat.le_of_ble_eq_true rfl) (Nat.le_of_ble_eq_true rfl) rfl rfl (r_ByteRow_init_8 (N := 0)) ?_
  refine st_putR (kk := 1) rfl rfl rfl (by decide) rfl ?_
  refine st_aload_n rfl rfl (by decide) ?_
  refine st_iconst rfl ?_
  refine st_putI (kk := 2) rfl rfl rfl rfl ?_
  refine st_aload_n rfl rfl (by decide) ?_
  refine st_new rfl rfl ?_
  refine st_dup rfl rfl ?_
  refine st_ci0 (w := [_, _]) rfl (by decide) (by decide) rfl (Nat.le_of_ble_eq_true rfl) (Nat.le_of_ble_eq_true rfl) rfl rfl (r_State_init_10 (N := 0)) ?_
  refine st_putR (kk := 3) rfl rfl rfl (by decide) rfl ?_
  refine st_aload_n rfl rfl (by decide) ?_
  refine st_iconst rfl ?_
  refine st_anewarray rfl (by decide) rfl ?_
  refine st_putR (kk := 4) rfl rfl rfl (by decide) rfl ?_
  refine st_aload_n rfl rfl (by decide) ?_
  refine st_new rfl rfl ?_
  refine st_dup rfl rfl ?_
  refine st_ci0 (w := [_, _]) rfl (by decide) (by decide) rfl (Nat.le_of_ble_eq_true rfl) (Nat.le_of_ble_eq_true rfl) rfl rfl (r_Sequence_init_40 (N := 0)) ?_
  refine st_putR (kk := 5) rfl rfl rfl (by decide) rfl ?_
  refine st_aload_n rfl rfl (by decide) ?_
  refine st_new rfl rfl ?_
  refine st_dup rfl rfl ?_
  refine st_ci0 (w := [_, _]) rfl (by decide) (by decide) rfl (Nat.le_of_ble_eq_true rfl) (Nat.le_of_ble_eq_true rfl) rfl rfl (r_Shifter_init_43 (N := 0)) ?_
  refine st_putR (kk := 6) rfl rfl rfl (by decide) rfl ?_
  refine st_ret rfl ?_
  exact ⟨rfl, rfl⟩
theorem ciP_z (P : am_P) : ∀ q ∈ PZt, q.1 < 53 → ciP P q.1 q.2.1 = q.2.2 := by
  intro q hq h53
  simp only [PZt, List.mem_cons, List.not_mem_nil, or_false] at hq
  rcases hq with rfl | rfl | rfl | rfl | rfl | rfl | rfl | rfl | rfl | rfl | rfl | rfl | rfl | rfl | rfl | rfl | rfl | rfl | rfl | rfl | rfl | rfl | rfl | rfl | rfl | rfl | rfl | rfl | rfl | rfl | rfl | rfl | rfl | rfl | rfl | rfl | rfl | rfl | rfl | rfl | rfl | rfl | rfl | rfl | rfl | rfl | rfl | rfl | rfl | rfl | rfl | rfl | rfl | rfl | rfl | rfl | rfl | rfl | rfl | rfl | rfl | rfl | rfl | rfl | rfl | rfl | rfl <;> first | rfl | (exact absurd h53 (by decide))
theorem ciP_39 (P : am_P) : ciP P 39 = fun _ => 0 := rfl
theorem ciP_o (P : am_P) : ciP P 2 = P 2 ∧ ciP P 0 = P 0 := ⟨rfl, rfl⟩
theorem ciH_v (H : am_H) (h3 : H 3 = fun _ => 0) : ciH H 0 = H 0 ∧ ciH H 2 = H 2 ∧ ciH H 3 2 = -1 ∧ ciH H 5 1 = 0 ∧ ciH H 8 1 = 0 ∧ ciH H 43 10 = 0 := ⟨rfl, rfl, rfl, rfl, rfl, rfl⟩
theorem ini_0 {k : Int} (h5 : k ≠ 5) (h : k < 6670 ∨ (7182 ≤ k ∧ k < 8782) ∨ 8982 ≤ k) : iniA k = 0 := by
  unfold iniA
  rw [if_neg h5, if_neg (by omega), if_neg (by omega)]
theorem ini_5 : iniA 5 = -1 := if_pos rfl
theorem ini_l {m : Int} (h : 0 ≤ m ∧ m < 200) : iniA (8782 + m) = -1 := by
  unfold iniA
  rw [if_neg (by omega), if_neg (by omega), if_pos (by omega)]
theorem ciH_rs (H : am_H) : RS (ciH H) 10 iniA := by
  refine ⟨by rw [ini_0 (by omega) (by omega)]; rfl, ⟨by rw [ini_0 (by omega) (by omega)]; rfl, fun m m0 m1 => by rw [ini_0 (by omega) (by omega)] at m1; omega, fun m k m0 m1 => by rw [ini_0 (by omega) (by omega)] at m1; omega⟩, ⟨by rw [ini_0 (by omega) (by omega)]; rfl, by rw [ini_0 (by omega) (by omega)]; rfl, fun s s0 s1 => by rw [ini_0 (by omega) (by omega)] at s1; omega, fun s p s0 s1 => by rw [ini_0 (by omega) (by omega)] at s1; omega, fun x x0 x1 => by rw [ini_0 (by omega) (by omega)] at x1; omega⟩, ⟨by rw [ini_5]; rfl, fun z => by rw [ini_5] at z; omega⟩, ⟨by rw [ini_0 (k := 1) (by omega) (by omega)]; rfl, fun m m0 m1 => ⟨?_, ?_⟩, fun s s0 s1 => ⟨?_, fun z => ?_⟩⟩, by rw [ini_0 (by omega) (by omega)]; rfl, fun g g0 g1 => by rw [ini_0 (by omega) (by omega)] at g1; omega⟩
  · rw [ini_l ⟨m0, m1⟩]
    show fillF (fun _ => 0) 0 200 (-1) m = -1
    exact fill_k m0 (by omega)
  · rw [ini_0 (by omega) (by omega), ini_0 (by omega) (by omega)]
    rfl
  · rw [ini_0 (by omega) (by omega), if_pos rfl]
    show fillF (fun _ => 0) 0 16 (-1) s = -1
    exact fill_k s0 (by omega)
  · rw [ini_0 (by omega) (by omega)] at z
    exact absurd rfl z
theorem inv_ini : Inv iniA := by
  have e := fun (k : Int) (h5 : k ≠ 5) (h : k < 6670 ∨ (7182 ≤ k ∧ k < 8782) ∨ 8982 ≤ k) => ini_0 h5 h
  have e1 := e 1 (by omega) (by omega)
  have e2 := e 2 (by omega) (by omega)
  have e3 := e 3 (by omega) (by omega)
  have e4 := e 4 (by omega) (by omega)
  refine ⟨Or.inl (e 0 (by omega) (by omega)), ⟨by omega, fun m m0 m1 => by omega⟩, ⟨by omega, fun s s0 s1 => by omega, fun s p s0 s1 => by omega⟩, ⟨by omega, fun b b0 b1 => by omega⟩, ⟨by rw [ini_5, e2]; omega, by rw [e 6 (by omega) (by omega)]; omega, fun k k0 k1 => by rw [e 6 (by omega) (by omega)] at k1; omega⟩, ⟨fun m m0 m1 => ?_, fun s s0 s1 => ?_⟩, ⟨by omega, fun g g0 g1 => by omega⟩⟩
  · rw [ini_l ⟨m0, m1⟩, e2, e (8982 + m) (by omega) (by omega), e (9182 + m) (by omega) (by omega)]
    exact ⟨by omega, fun _ => rfl, Or.inl ⟨rfl, rfl⟩⟩
  · rw [e (9382 + 62 * s) (by omega) (by omega), e (9382 + 62 * s + 1) (by omega) (by omega)]
    exact ⟨Or.inl rfl, by omega, fun k k0 k1 => by omega⟩
theorem invW_ini : InvW iniA := fun m m0 m1 => by rw [ini_0 (by omega) (by omega)] at m1; omega
theorem PZ_im {P : am_P} {B : Nat} {k : Int} (hB : 72 ≤ B) (h : PZ P) : PZ (am_up (iPS (am_so P B (fun _ => 0)) B) 39 k B) := by
  intro q hq
  have hne : q.1 ≠ 39 ∧ q.1 < 72 := by
    have : ∀ q ∈ PZt, q.1 ≠ 39 ∧ q.1 < 72 := by decide +kernel
    exact this q hq
  rw [am_up_ne hne.1, iPS_o _ _ (by omega), am_so_ne _ _ (by omega)]
  exact h q hq
theorem PB_im {P : am_P} {B : Nat} {k : Int} (hB : 72 ≤ B) : PB (am_up (iPS P B) 39 k B) B := by
  intro q hq
  rw [am_up_ne (by omega)]
  exact iPS_b P B q hq

theorem r_Cart_image_e72 {d N : Nat} {P : am_P} {H : am_H} {k : Int} (hP : PZ P) (hB : PB P 72) (hk : 0 ≤ k ∧ k < 4) (hk2 : P 39 k = 72) : am_R (d + 3) 41 [am_r 3, am_i (k)] (N, P, H) (some (am_i (1))) (N, P, bcS H 72 10) := by
  refine am_en1 (d := d + 2) (ml := 2) (ls := [_, _]) cq_Cart_image rfl (Nat.le_of_ble_eq_true rfl) rfl ?_
  refine st_iload_n rfl rfl ?_
  refine st_if_lt rfl (fun h1 => (by exfalso; omega)) (fun h1 => ?_)
  refine st_iload_n rfl rfl ?_
  refine st_iconst rfl ?_
  refine st_icmp_lt rfl (fun h4 => ?_) (fun h4 => (by exfalso; omega))
  refine st_aload_n rfl rfl (by decide) ?_
  refine st_getR (kk := 4) rfl rfl rfl (pz_3_4 hP) rfl ?_
  refine st_iload_n rfl rfl ?_
  refine st_aaload rfl rfl (by omega) (by omega) hk2 ?_
  refine st_nonnull rfl (fun h11 => ?_) (fun h11 => ?_)
  · refine st_aload_n rfl rfl (by decide) ?_
    refine st_getR (kk := 4) rfl rfl rfl (pz_3_4 hP) rfl ?_
    refine st_iload_n rfl rfl ?_
    refine st_aaload rfl rfl (by omega) (by omega) hk2 ?_
    refine st_aload_n rfl rfl (by decide) ?_
    refine st_getR (kk := 3) rfl rfl rfl (pz_3_3 hP) rfl ?_
    refine st_cv0 (w := []) rfl rfl rfl (Nat.le_of_ble_eq_true rfl) (Nat.le_of_ble_eq_true rfl) rfl rfl (r_State_become_72_10 hP hB) ?_
    refine st_iconst rfl ?_
    refine st_iret rfl (fun z => by first | exact absurd z (by decide) | exact bi_01 _ | decide | omega) ?_
    exact ⟨rfl, rfl⟩
  · exact absurd h11 (by decide)
theorem r_Cart_image_n72 {d N : Nat} {P : am_P} {H : am_H} {k : Int} (hP : PZ P) (hk : 0 ≤ k ∧ k < 4) (hk2 : P 39 k = 0) : am_R (d + 3) 41 [am_r 3, am_i (k)] (72, P, H) (some (am_i (1))) (101, am_up (iPS (am_so P 72 (fun _ => 0)) 72) 39 k 72, bcS (iHS (am_so H 72 (fun _ => 0)) 72) 72 10) := by
  refine am_en1 (d := d + 2) (ml := 2) (ls := [_, _]) cq_Cart_image rfl (Nat.le_of_ble_eq_true rfl) rfl ?_
  refine st_iload_n rfl rfl ?_
  refine st_if_lt rfl (fun h1 => (by exfalso; omega)) (fun h1 => ?_)
  refine st_iload_n rfl rfl ?_
  refine st_iconst rfl ?_
  refine st_icmp_lt rfl (fun h4 => ?_) (fun h4 => (by exfalso; omega))
  refine st_aload_n rfl rfl (by decide) ?_
  refine st_getR (kk := 4) rfl rfl rfl (pz_3_4 hP) rfl ?_
  refine st_iload_n rfl rfl ?_
  refine st_aaload rfl rfl (by omega) (by omega) hk2 ?_
  refine st_nonnull rfl (fun h11 => ?_) (fun h11 => ?_)
  · first
    | exact absurd rfl h11
    | (
      refine st_aload_n rfl rfl (by decide) ?_
      refine st_getR (kk := 4) rfl rfl rfl (pz_3_4 hP) rfl ?_
      refine st_iload_n rfl rfl ?_
      refine st_aaload rfl rfl (by omega) (by omega) (by rw [am_up_eq, am_uf_eq]) ?_
      refine st_aload_n rfl rfl (by decide) ?_
      refine st_getR (kk := 3) rfl rfl rfl (pz_3_3 hP) rfl ?_
      refine st_cv0 (w := []) rfl rfl rfl (Nat.le_of_ble_eq_true rfl) (Nat.le_of_ble_eq_true rfl) rfl rfl (r_State_become_72_10 hP hB) ?_
      refine st_iconst rfl ?_
      refine st_iret rfl (fun z => by first | exact absurd z (by decide) | exact bi_01 _ | decide | omega) ?_
      exact ⟨rfl, rfl⟩)
  · refine st_aload_n rfl rfl (by decide) ?_
    refine st_getR (kk := 4) rfl rfl rfl (pz_3_4 hP) rfl ?_
    refine st_iload_n rfl rfl ?_
    refine st_new rfl rfl ?_
    refine st_dup rfl rfl ?_
    refine st_ci0 (w := [_, _, _]) rfl (by decide) (by decide) rfl (Nat.le_of_ble_eq_true rfl) (Nat.le_of_ble_eq_true rfl) rfl rfl (r_State_init_72 (N := 0)) ?_
    refine st_aastore rfl rfl rfl (by omega) (by omega) ?_
    have hB := PB_im (P := am_so P 72 (fun _ => 0)) (B := 72) (k := k) (by decide)
    have hP := PZ_im (B := 72) (k := k) (by decide) hP
    first
    | exact absurd rfl h11
    | (
      refine st_aload_n rfl rfl (by decide) ?_
      refine st_getR (kk := 4) rfl rfl rfl (pz_3_4 hP) rfl ?_
      refine st_iload_n rfl rfl ?_
      refine st_aaload rfl rfl (by omega) (by omega) (by rw [am_up_eq, am_uf_eq]) ?_
      refine st_aload_n rfl rfl (by decide) ?_
      refine st_getR (kk := 3) rfl rfl rfl (pz_3_3 hP) rfl ?_
      refine st_cv0 (w := []) rfl rfl rfl (Nat.le_of_ble_eq_true rfl) (Nat.le_of_ble_eq_true rfl) rfl rfl (r_State_become_72_10 hP hB) ?_
      refine st_iconst rfl ?_
      refine st_iret rfl (fun z => by first | exact absurd z (by decide) | exact bi_01 _ | decide | omega) ?_
      exact ⟨rfl, rfl⟩)
theorem r_Cart_image_e101 {d N : Nat} {P : am_P} {H : am_H} {k : Int} (hP : PZ P) (hB : PB P 101) (hk : 0 ≤ k ∧ k < 4) (hk2 : P 39 k = 101) : am_R (d + 3) 41 [am_r 3, am_i (k)] (N, P, H) (some (am_i (1))) (N, P, bcS H 101 10) := by
  refine am_en1 (d := d + 2) (ml := 2) (ls := [_, _]) cq_Cart_image rfl (Nat.le_of_ble_eq_true rfl) rfl ?_
  refine st_iload_n rfl rfl ?_
  refine st_if_lt rfl (fun h1 => (by exfalso; omega)) (fun h1 => ?_)
  refine st_iload_n rfl rfl ?_
  refine st_iconst rfl ?_
  refine st_icmp_lt rfl (fun h4 => ?_) (fun h4 => (by exfalso; omega))
  refine st_aload_n rfl rfl (by decide) ?_
  refine st_getR (kk := 4) rfl rfl rfl (pz_3_4 hP) rfl ?_
  refine st_iload_n rfl rfl ?_
  refine st_aaload rfl rfl (by omega) (by omega) hk2 ?_
  refine st_nonnull rfl (fun h11 => ?_) (fun h11 => ?_)
  · refine st_aload_n rfl rfl (by decide) ?_
    refine st_getR (kk := 4) rfl rfl rfl (pz_3_4 hP) rfl ?_
    refine st_iload_n rfl rfl ?_
    refine st_aaload rfl rfl (by omega) (by omega) hk2 ?_
    refine st_aload_n rfl rfl (by decide) ?_
    refine st_getR (kk := 3) rfl rfl rfl (pz_3_3 hP) rfl ?_
    refine st_cv0 (w := []) rfl rfl rfl (Nat.le_of_ble_eq_true rfl) (Nat.le_of_ble_eq_true rfl) rfl rfl (r_State_become_101_10 hP hB) ?_
    refine st_iconst rfl ?_
    refine st_iret rfl (fun z => by first | exact absurd z (by decide) | exact bi_01 _ | decide | omega) ?_
    exact ⟨rfl, rfl⟩
  · exact absurd h11 (by decide)
theorem r_Cart_image_n101 {d N : Nat} {P : am_P} {H : am_H} {k : Int} (hP : PZ P) (hk : 0 ≤ k ∧ k < 4) (hk2 : P 39 k = 0) : am_R (d + 3) 41 [am_r 3, am_i (k)] (101, P, H) (some (am_i (1))) (130, am_up (iPS (am_so P 101 (fun _ => 0)) 101) 39 k 101, bcS (iHS (am_so H 101 (fun _ => 0)) 101) 101 10) := by
  refine am_en1 (d := d + 2) (ml := 2) (ls := [_, _]) cq_Cart_image rfl (Nat.le_of_ble_eq_true rfl) rfl ?_
  refine st_iload_n rfl rfl ?_
  refine st_if_lt rfl (fun h1 => (by exfalso; omega)) (fun h1 => ?_)
  refine st_iload_n rfl rfl ?_
  refine st_iconst rfl ?_
  refine st_icmp_lt rfl (fun h4 => ?_) (fun h4 => (by exfalso; omega))
  refine st_aload_n rfl rfl (by decide) ?_
  refine st_getR (kk := 4) rfl rfl rfl (pz_3_4 hP) rfl ?_
  refine st_iload_n rfl rfl ?_
  refine st_aaload rfl rfl (by omega) (by omega) hk2 ?_
  refine st_nonnull rfl (fun h11 => ?_) (fun h11 => ?_)
  · first
    | exact absurd rfl h11
    | (
      refine st_aload_n rfl rfl (by decide) ?_
      refine st_getR (kk := 4) rfl rfl rfl (pz_3_4 hP) rfl ?_
      refine st_iload_n rfl rfl ?_
      refine st_aaload rfl rfl (by omega) (by omega) (by rw [am_up_eq, am_uf_eq]) ?_
      refine st_aload_n rfl rfl (by decide) ?_
      refine st_getR (kk := 3) rfl rfl rfl (pz_3_3 hP) rfl ?_
      refine st_cv0 (w := []) rfl rfl rfl (Nat.le_of_ble_eq_true rfl) (Nat.le_of_ble_eq_true rfl) rfl rfl (r_State_become_101_10 hP hB) ?_
      refine st_iconst rfl ?_
      refine st_iret rfl (fun z => by first | exact absurd z (by decide) | exact bi_01 _ | decide | omega) ?_
      exact ⟨rfl, rfl⟩)
  · refine st_aload_n rfl rfl (by decide) ?_
    refine st_getR (kk := 4) rfl rfl rfl (pz_3_4 hP) rfl ?_
    refine st_iload_n rfl rfl ?_
    refine st_new rfl rfl ?_
    refine st_dup rfl rfl ?_
    refine st_ci0 (w := [_, _, _]) rfl (by decide) (by decide) rfl (Nat.le_of_ble_eq_true rfl) (Nat.le_of_ble_eq_true rfl) rfl rfl (r_State_init_101 (N := 0)) ?_
    refine st_aastore rfl rfl rfl (by omega) (by omega) ?_
    have hB := PB_im (P := am_so P 101 (fun _ => 0)) (B := 101) (k := k) (by decide)
    have hP := PZ_im (B := 101) (k := k) (by decide) hP
    first
    | exact absurd rfl h11
    | (
      refine st_aload_n rfl rfl (by decide) ?_
      refine st_getR (kk := 4) rfl rfl rfl (pz_3_4 hP) rfl ?_
      refine st_iload_n rfl rfl ?_
      refine st_aaload rfl rfl (by omega) (by omega) (by rw [am_up_eq, am_uf_eq]) ?_
      refine st_aload_n rfl rfl (by decide) ?_
      refine st_getR (kk := 3) rfl rfl rfl (pz_3_3 hP) rfl ?_
      refine st_cv0 (w := []) rfl rfl rfl (Nat.le_of_ble_eq_true rfl) (Nat.le_of_ble_eq_true rfl) rfl rfl (r_State_become_101_10 hP hB) ?_
      refine st_iconst rfl ?_
      refine st_iret rfl (fun z => by first | exact absurd z (by decide) | exact bi_01 _ | decide | omega) ?_
      exact ⟨rfl, rfl⟩)
theorem r_Cart_image_e130 {d N : Nat} {P : am_P} {H : am_H} {k : Int} (hP : PZ P) (hB : PB P 130) (hk : 0 ≤ k ∧ k < 4) (hk2 : P 39 k = 130) : am_R (d + 3) 41 [am_r 3, am_i (k)] (N, P, H) (some (am_i (1))) (N, P, bcS H 130 10) := by
  refine am_en1 (d := d + 2) (ml := 2) (ls := [_, _]) cq_Cart_image rfl (Nat.le_of_ble_eq_true rfl) rfl ?_
  refine st_iload_n rfl rfl ?_
  refine st_if_lt rfl (fun h1 => (by exfalso; omega)) (fun h1 => ?_)
  refine st_iload_n rfl rfl ?_
  refine st_iconst rfl ?_
  refine st_icmp_lt rfl (fun h4 => ?_) (fun h4 => (by exfalso; omega))
  refine st_aload_n rfl rfl (by decide) ?_
  refine st_getR (kk := 4) rfl rfl rfl (pz_3_4 hP) rfl ?_
  refine st_iload_n rfl rfl ?_
  refine st_aaload rfl rfl (by omega) (by omega) hk2 ?_
  refine st_nonnull rfl (fun h11 => ?_) (fun h11 => ?_)
  · refine st_aload_n rfl rfl (by decide) ?_
    refine st_getR (kk := 4) rfl rfl rfl (pz_3_4 hP) rfl ?_
    refine st_iload_n rfl rfl ?_
    refine st_aaload rfl rfl (by omega) (by omega) hk2 ?_
    refine st_aload_n rfl rfl (by decide) ?_
    refine st_getR (kk := 3) rfl rfl rfl (pz_3_3 hP) rfl ?_
    refine st_cv0 (w := []) rfl rfl rfl (Nat.le_of_ble_eq_true rfl) (Nat.le_of_ble_eq_true rfl) rfl rfl (r_State_become_130_10 hP hB) ?_
    refine st_iconst rfl ?_
    refine st_iret rfl (fun z => by first | exact absurd z (by decide) | exact bi_01 _ | decide | omega) ?_
    exact ⟨rfl, rfl⟩
  · exact absurd h11 (by decide)
theorem r_Cart_image_n130 {d N : Nat} {P : am_P} {H : am_H} {k : Int} (hP : PZ P) (hk : 0 ≤ k ∧ k < 4) (hk2 : P 39 k = 0) : am_R (d + 3) 41 [am_r 3, am_i (k)] (130, P, H) (some (am_i (1))) (159, am_up (iPS (am_so P 130 (fun _ => 0)) 130) 39 k 130, bcS (iHS (am_so H 130 (fun _ => 0)) 130) 130 10) := by
  refine am_en1 (d := d + 2) (ml := 2) (ls := [_, _]) cq_Cart_image rfl (Nat.le_of_ble_eq_true rfl) rfl ?_
  refine st_iload_n rfl rfl ?_
  refine st_if_lt rfl (fun h1 => (by exfalso; omega)) (fun h1 => ?_)
  refine st_iload_n rfl rfl ?_
  refine st_iconst rfl ?_
  refine st_icmp_lt rfl (fun h4 => ?_) (fun h4 => (by exfalso; omega))
  refine st_aload_n rfl rfl (by decide) ?_
  refine st_getR (kk := 4) rfl rfl rfl (pz_3_4 hP) rfl ?_
  refine st_iload_n rfl rfl ?_
  refine st_aaload rfl rfl (by omega) (by omega) hk2 ?_
  refine st_nonnull rfl (fun h11 => ?_) (fun h11 => ?_)
  · first
    | exact absurd rfl h11
    | (
      refine st_aload_n rfl rfl (by decide) ?_
      refine st_getR (kk := 4) rfl rfl rfl (pz_3_4 hP) rfl ?_
      refine st_iload_n rfl rfl ?_
      refine st_aaload rfl rfl (by omega) (by omega) (by rw [am_up_eq, am_uf_eq]) ?_
      refine st_aload_n rfl rfl (by decide) ?_
      refine st_getR (kk := 3) rfl rfl rfl (pz_3_3 hP) rfl ?_
      refine st_cv0 (w := []) rfl rfl rfl (Nat.le_of_ble_eq_true rfl) (Nat.le_of_ble_eq_true rfl) rfl rfl (r_State_become_130_10 hP hB) ?_
      refine st_iconst rfl ?_
      refine st_iret rfl (fun z => by first | exact absurd z (by decide) | exact bi_01 _ | decide | omega) ?_
      exact ⟨rfl, rfl⟩)
  · refine st_aload_n rfl rfl (by decide) ?_
    refine st_getR (kk := 4) rfl rfl rfl (pz_3_4 hP) rfl ?_
    refine st_iload_n rfl rfl ?_
    refine st_new rfl rfl ?_
    refine st_dup rfl rfl ?_
    refine st_ci0 (w := [_, _, _]) rfl (by decide) (by decide) rfl (Nat.le_of_ble_eq_true rfl) (Nat.le_of_ble_eq_true rfl) rfl rfl (r_State_init_130 (N := 0)) ?_
    refine st_aastore rfl rfl rfl (by omega) (by omega) ?_
    have hB := PB_im (P := am_so P 130 (fun _ => 0)) (B := 130) (k := k) (by decide)
    have hP := PZ_im (B := 130) (k := k) (by decide) hP
    first
    | exact absurd rfl h11
    | (
      refine st_aload_n rfl rfl (by decide) ?_
      refine st_getR (kk := 4) rfl rfl rfl (pz_3_4 hP) rfl ?_
      refine st_iload_n rfl rfl ?_
      refine st_aaload rfl rfl (by omega) (by omega) (by rw [am_up_eq, am_uf_eq]) ?_
      refine st_aload_n rfl rfl (by decide) ?_
      refine st_getR (kk := 3) rfl rfl rfl (pz_3_3 hP) rfl ?_
      refine st_cv0 (w := []) rfl rfl rfl (Nat.le_of_ble_eq_true rfl) (Nat.le_of_ble_eq_true rfl) rfl rfl (r_State_become_130_10 hP hB) ?_
      refine st_iconst rfl ?_
      refine st_iret rfl (fun z => by first | exact absurd z (by decide) | exact bi_01 _ | decide | omega) ?_
      exact ⟨rfl, rfl⟩)
theorem r_Cart_image_e159 {d N : Nat} {P : am_P} {H : am_H} {k : Int} (hP : PZ P) (hB : PB P 159) (hk : 0 ≤ k ∧ k < 4) (hk2 : P 39 k = 159) : am_R (d + 3) 41 [am_r 3, am_i (k)] (N, P, H) (some (am_i (1))) (N, P, bcS H 159 10) := by
  refine am_en1 (d := d + 2) (ml := 2) (ls := [_, _]) cq_Cart_image rfl (Nat.le_of_ble_eq_true rfl) rfl ?_
  refine st_iload_n rfl rfl ?_
  refine st_if_lt rfl (fun h1 => (by exfalso; omega)) (fun h1 => ?_)
  refine st_iload_n rfl rfl ?_
  refine st_iconst rfl ?_
  refine st_icmp_lt rfl (fun h4 => ?_) (fun h4 => (by exfalso; omega))
  refine st_aload_n rfl rfl (by decide) ?_
  refine st_getR (kk := 4) rfl rfl rfl (pz_3_4 hP) rfl ?_
  refine st_iload_n rfl rfl ?_
  refine st_aaload rfl rfl (by omega) (by omega) hk2 ?_
  refine st_nonnull rfl (fun h11 => ?_) (fun h11 => ?_)
  · refine st_aload_n rfl rfl (by decide) ?_
    refine st_getR (kk := 4) rfl rfl rfl (pz_3_4 hP) rfl ?_
    refine st_iload_n rfl rfl ?_
    refine st_aaload rfl rfl (by omega) (by omega) hk2 ?_
    refine st_aload_n rfl rfl (by decide) ?_
    refine st_getR (kk := 3) rfl rfl rfl (pz_3_3 hP) rfl ?_
    refine st_cv0 (w := []) rfl rfl rfl (Nat.le_of_ble_eq_true rfl) (Nat.le_of_ble_eq_true rfl) rfl rfl (r_State_become_159_10 hP hB) ?_
    refine st_iconst rfl ?_
    refine st_iret rfl (fun z => by first | exact absurd z (by decide) | exact bi_01 _ | decide | omega) ?_
    exact ⟨rfl, rfl⟩
  · exact absurd h11 (by decide)
theorem r_Cart_image_n159 {d N : Nat} {P : am_P} {H : am_H} {k : Int} (hP : PZ P) (hk : 0 ≤ k ∧ k < 4) (hk2 : P 39 k = 0) : am_R (d + 3) 41 [am_r 3, am_i (k)] (159, P, H) (some (am_i (1))) (188, am_up (iPS (am_so P 159 (fun _ => 0)) 159) 39 k 159, bcS (iHS (am_so H 159 (fun _ => 0)) 159) 159 10) := by
  refine am_en1 (d := d + 2) (ml := 2) (ls := [_, _]) cq_Cart_image rfl (Nat.le_of_ble_eq_true rfl) rfl ?_
  refine st_iload_n rfl rfl ?_
  refine st_if_lt rfl (fun h1 => (by exfalso; omega)) (fun h1 => ?_)
  refine st_iload_n rfl rfl ?_
  refine st_iconst rfl ?_
  refine st_icmp_lt rfl (fun h4 => ?_) (fun h4 => (by exfalso; omega))
  refine st_aload_n rfl rfl (by decide) ?_
  refine st_getR (kk := 4) rfl rfl rfl (pz_3_4 hP) rfl ?_
  refine st_iload_n rfl rfl ?_
  refine st_aaload rfl rfl (by omega) (by omega) hk2 ?_
  refine st_nonnull rfl (fun h11 => ?_) (fun h11 => ?_)
  · first
    | exact absurd rfl h11
    | (
      refine st_aload_n rfl rfl (by decide) ?_
      refine st_getR (kk := 4) rfl rfl rfl (pz_3_4 hP) rfl ?_
      refine st_iload_n rfl rfl ?_
      refine st_aaload rfl rfl (by omega) (by omega) (by rw [am_up_eq, am_uf_eq]) ?_
      refine st_aload_n rfl rfl (by decide) ?_
      refine st_getR (kk := 3) rfl rfl rfl (pz_3_3 hP) rfl ?_
      refine st_cv0 (w := []) rfl rfl rfl (Nat.le_of_ble_eq_true rfl) (Nat.le_of_ble_eq_true rfl) rfl rfl (r_State_become_159_10 hP hB) ?_
      refine st_iconst rfl ?_
      refine st_iret rfl (fun z => by first | exact absurd z (by decide) | exact bi_01 _ | decide | omega) ?_
      exact ⟨rfl, rfl⟩)
  · refine st_aload_n rfl rfl (by decide) ?_
    refine st_getR (kk := 4) rfl rfl rfl (pz_3_4 hP) rfl ?_
    refine st_iload_n rfl rfl ?_
    refine st_new rfl rfl ?_
    refine st_dup rfl rfl ?_
    refine st_ci0 (w := [_, _, _]) rfl (by decide) (by decide) rfl (Nat.le_of_ble_eq_true rfl) (Nat.le_of_ble_eq_true rfl) rfl rfl (r_State_init_159 (N := 0)) ?_
    refine st_aastore rfl rfl rfl (by omega) (by omega) ?_
    have hB := PB_im (P := am_so P 159 (fun _ => 0)) (B := 159) (k := k) (by decide)
    have hP := PZ_im (B := 159) (k := k) (by decide) hP
    first
    | exact absurd rfl h11
    | (
      refine st_aload_n rfl rfl (by decide) ?_
      refine st_getR (kk := 4) rfl rfl rfl (pz_3_4 hP) rfl ?_
      refine st_iload_n rfl rfl ?_
      refine st_aaload rfl rfl (by omega) (by omega) (by rw [am_up_eq, am_uf_eq]) ?_
      refine st_aload_n rfl rfl (by decide) ?_
      refine st_getR (kk := 3) rfl rfl rfl (pz_3_3 hP) rfl ?_
      refine st_cv0 (w := []) rfl rfl rfl (Nat.le_of_ble_eq_true rfl) (Nat.le_of_ble_eq_true rfl) rfl rfl (r_State_become_159_10 hP hB) ?_
      refine st_iconst rfl ?_
      refine st_iret rfl (fun z => by first | exact absurd z (by decide) | exact bi_01 _ | decide | omega) ?_
      exact ⟨rfl, rfl⟩)
theorem r_Cart_image_b {d N : Nat} {P : am_P} {H : am_H} {k : Int} (hP : PZ P) (hk : ¬ (0 ≤ k ∧ k < 4)) : am_R (d + 3) 41 [am_r 3, am_i (k)] (N, P, H) (some (am_i (0))) (N, P, H) := by
  refine am_en1 (d := d + 2) (ml := 2) (ls := [_, _]) cq_Cart_image rfl (Nat.le_of_ble_eq_true rfl) rfl ?_
  refine st_iload_n rfl rfl ?_
  refine st_if_lt rfl (fun h1 => ?_) (fun h1 => ?_)
  · refine st_iconst rfl ?_
    refine st_iret rfl (fun z => by first | exact absurd z (by decide) | exact bi_01 _ | decide | omega) ?_
    exact ⟨rfl, rfl⟩
  · refine st_iload_n rfl rfl ?_
    refine st_iconst rfl ?_
    refine st_icmp_lt rfl (fun h4 => ?_) (fun h4 => ?_)
    · exfalso; omega
    · refine st_iconst rfl ?_
      refine st_iret rfl (fun z => by first | exact absurd z (by decide) | exact bi_01 _ | decide | omega) ?_
      exact ⟨rfl, rfl⟩
