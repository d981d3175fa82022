/-! ===== the class: a mark found or made ===== -/
theorem md_s (a : Int → Int) (m : Int) (K V G C : Int → Int) (n : Int) (k : Nat) : mdL a m K V G C n (k + 1) = if mdL a m K V G C n k ≠ 0 ∧ prtF a m (k : Int) 0 = K (k : Int) ∧ prtF a m (k : Int) 1 = V (k : Int) ∧ prtF a m (k : Int) 2 = G (k : Int) ∧ prtF a m (k : Int) 3 = C (k : Int) then 1 else 0 := rfl
theorem md_z {a : Int → Int} {m : Int} {K V G C : Int → Int} {n : Int} {k : Nat} (h : mdL a m K V G C n k = 0) : ∀ x : Nat, mdL a m K V G C n (k + x) = 0
  | 0 => h
  | x + 1 => by
    have ih := md_z h x
    show mdL a m K V G C n (k + x + 1) = 0
    rw [md_s, if_neg (fun z => z.1 ih)]
theorem pkq {k1 v1 g1 c1 k2 v2 g2 c2 : Int} (h1 : PVal k1 v1 g1 c1) (h2 : PVal k2 v2 g2 c2) : pkF k1 v1 g1 c1 = pkF k2 v2 g2 c2 ↔ (k1 = k2 ∧ v1 = v2 ∧ g1 = g2 ∧ c1 = c2) := by
  have p1 := h1.pk
  have p2 := h2.pk
  unfold pkF
  constructor
  · intro h; omega
  · rintro ⟨rfl, rfl, rfl, rfl⟩; rfl

theorem r_Marks_beginsWith {d N : Nat} {P : am_P} {H : am_H} {K V G C : Int → Int} {n : Int} {m : Int} {a : Int → Int} (hP : PZ P) (hI : Inv a) (hM : RM H 10 a) (hm : 0 ≤ m ∧ m < a 1) (hl : lenF a m = n) (hn8 : 1 ≤ n ∧ n ≤ 8) (hrow : ∀ i, 0 ≤ i → i < n → H 7 i = pkF (K i) (V i) (G i) (C i) ∧ PVal (K i) (V i) (G i) (C i)) : am_R (d + 3) 161 [am_r 11, am_i (m), am_r 7, am_i (n)] (N, P, H) (some (am_i (bi (mdL a m K V G C n n.toNat ≠ 0)))) (N, P, H) := by
  refine am_en1 (d := d + 2) (ml := 5) (ls := [_, _, _, _, _]) cq_Marks_beginsWith rfl (Nat.le_of_ble_eq_true rfl) rfl ?_
  have hmv := hI.mv hm.1 hm.2
  refine st_iconst rfl ?_
  refine st_istore (ls' := [_, _, _, _, _]) rfl (Nat.le_of_ble_eq_true rfl) rfl ?_
  suffices hz : ∀ k, k ≤ n.toNat → mdL a m K V G C n k = 1 → am_WP (am_R (d + 2)) cd_Marks_beginsWith (fun v' s' => v' = some (am_i (bi (mdL a m K V G C n n.toNat ≠ 0))) ∧ s' = (N, P, H)) 2 [some (am_r 11), some (am_i m), some (am_r 7), some (am_i n), some (am_i (k : Int))] [] (N, P, H) from hz 0 (Nat.zero_le _) (if_pos hl)
  refine up_ind (n := n.toNat) ?_ ?_
  · intro hk
    refine st_iload rfl rfl ?_
    refine st_iload_n rfl rfl ?_
    refine st_icmp_ge rfl (fun h4 => ?_) (fun h4 => (by exfalso; omega))
    refine st_iconst rfl ?_
    refine st_iret rfl (fun z => by first | exact absurd z (by decide) | exact bi_01 _ | decide | omega) ?_
    exact ⟨am_ri (bi_t (by omega)).symm, rfl⟩
  · intro k hk ih hm1
    have hrk := hrow (k : Int) (by omega) (by omega)
    have hpv := hmv.2.2 (k : Int) (by omega) (by omega)
    have hpe := pkq hpv hrk.2
    have hms := md_s a m K V G C n k
    refine st_iload rfl rfl ?_
    refine st_iload_n rfl rfl ?_
    refine st_icmp_ge rfl (fun h4 => (by exfalso; omega)) (fun h4 => ?_)
    refine st_iload rfl rfl ?_
    refine st_aload_n rfl rfl (by decide) ?_
    refine st_alenL rfl rfl ?_
    refine st_icmp_ge rfl (fun h8 => (by exfalso; omega)) (fun h8 => ?_)
    refine st_aload_n rfl rfl (by decide) ?_
    refine st_iload_n rfl rfl ?_
    refine st_iload rfl rfl ?_
    refine st_cv1 (w := []) rfl rfl rfl (Nat.le_of_ble_eq_true rfl) (Nat.le_of_ble_eq_true rfl) rfl rfl (r_Marks_partOf hP hI hM hm (by omega)) ?_
    refine st_aload_n rfl rfl (by decide) ?_
    refine st_iload rfl rfl ?_
    refine st_laload rfl rfl (by omega) (by omega) ?_
    rw [hrk.1]
    refine st_lcmp rfl ?_
    have hlc := lcmp0 (pkA a m (k : Int)) (pkF (K (k : Int)) (V (k : Int)) (G (k : Int)) (C (k : Int)))
    refine st_if_eq rfl (fun h17 => ?_) (fun h17 => ?_)
    · refine st_iinc (ls' := [_, _, _, _, _]) rfl rfl (by omega) rfl ?_
      refine st_goto rfl ?_
      exact ih (by rw [hms, if_pos ⟨by omega, hpe.mp (hlc.mp h17)⟩])
    · refine st_iconst rfl ?_
      refine st_iret rfl (fun z => by first | exact absurd z (by decide) | exact bi_01 _ | decide | omega) ?_
      refine ⟨am_ri (bi_f (fun z => z ?_)).symm, rfl⟩
      rw [if_neg (fun z => h17 (hlc.mpr (hpe.mpr z.2)))] at hms
      have := md_z hms (n.toNat - (k + 1))
      rw [show k + 1 + (n.toNat - (k + 1)) = n.toNat by omega] at this
      exact this
theorem l_numberOf {d N : Nat} {P : am_P} {H : am_H} {K V G C : Int → Int} {n : Int} {Q : Option am_V → am_S → Prop} {a : Int → Int} (hP : PZ P) (hI : Inv a) (hM : RM H 10 a) (hn8 : 1 ≤ n ∧ n ≤ 8) (hrow : ∀ i, 0 ≤ i → i < n → H 7 i = pkF (K i) (V i) (G i) (C i) ∧ PVal (K i) (V i) (G i) (C i)) : ∀ (f : Nat) (m : Int), m + f = a 1 → 0 ≤ m → Q (some (am_i (fnL a K V G C n f m))) (N, P, H) → am_WP (am_R (d + 3)) cd_Marks_numberOf Q 2 [some (am_r 11), some (am_r 7), some (am_i n), some (am_i m)] [] (N, P, H) := by
  have hn := hI.n
  have m0 : H 11 0 = a 1 := hM.1
  intro f
  induction f with
  | zero =>
    intro m e hm hq
    refine st_iload_n rfl rfl ?_
    refine st_aload_n rfl rfl (by decide) ?_
    refine st_getI (kk := 0) rfl rfl (by decide) rfl ?_
    rw [m0]
    refine st_icmp_ge rfl (fun h5 => ?_) (fun h5 => (by exfalso; omega))
    refine st_iconst rfl ?_
    refine st_iret rfl (fun z => by first | exact absurd z (by decide) | exact bi_01 _ | decide | omega) ?_
    exact hq
  | succ f ih =>
    intro m e hm hq
    have hf : fnL a K V G C n (f + 1) m = if mdL a m K V G C n n.toNat ≠ 0 then m else fnL a K V G C n f (m + 1) := rfl
    rw [hf] at hq
    have hz0 : lenF a m ≠ n → mdL a m K V G C n n.toNat = 0 := fun z => by
      have := md_z (a := a) (m := m) (K := K) (V := V) (G := G) (C := C) (n := n) (k := 0) (if_neg z) n.toNat
      rw [Nat.zero_add] at this
      exact this
    refine st_iload_n rfl rfl ?_
    refine st_aload_n rfl rfl (by decide) ?_
    refine st_getI (kk := 0) rfl rfl (by decide) rfl ?_
    rw [m0]
    refine st_icmp_ge rfl (fun h5 => (by exfalso; omega)) (fun h5 => ?_)
    refine st_aload_n rfl rfl (by decide) ?_
    refine st_iload_n rfl rfl ?_
    refine st_cv1 (w := []) rfl rfl rfl (Nat.le_of_ble_eq_true rfl) (Nat.le_of_ble_eq_true rfl) rfl rfl (r_Marks_lengthOf hP hI hM) ?_
    rw [lnA_p hm (by omega)]
    refine st_iload_n rfl rfl ?_
    refine st_icmp_ne rfl (fun h10 => ?_) (fun h10 => ?_)
    · refine st_iinc (ls' := [_, _, _, _]) rfl rfl (by omega) rfl ?_
      refine st_goto rfl ?_
      first
      | (rw [if_neg (fun z => z (hz0 (by omega)))] at hq; exact ih (m + 1) (by omega) (by omega) hq)
      | (rw [if_neg h16] at hq; exact ih (m + 1) (by omega) (by omega) hq)
    · refine st_aload_n rfl rfl (by decide) ?_
      refine st_iload_n rfl rfl ?_
      refine st_aload_n rfl rfl (by decide) ?_
      refine st_iload_n rfl rfl ?_
      refine st_cv1 (w := []) rfl rfl rfl (Nat.le_of_ble_eq_true rfl) (Nat.le_of_ble_eq_true rfl) rfl rfl (r_Marks_beginsWith hP hI hM ⟨hm, by omega⟩ (by omega) hn8 hrow) ?_
      refine st_if_eq_b rfl (fun h16 => ?_) (fun h16 => ?_)
      · refine st_iinc (ls' := [_, _, _, _]) rfl rfl (by omega) rfl ?_
        refine st_goto rfl ?_
        first
        | (rw [if_neg (fun z => z (hz0 (by omega)))] at hq; exact ih (m + 1) (by omega) (by omega) hq)
        | (rw [if_neg h16] at hq; exact ih (m + 1) (by omega) (by omega) hq)
      · refine st_iload_n rfl rfl ?_
        refine st_iret rfl (fun z => by first | exact absurd z (by decide) | exact bi_01 _ | decide | omega) ?_
        rw [if_pos h16] at hq; exact hq
theorem r_Marks_numberOf {d N : Nat} {P : am_P} {H : am_H} {K V G C : Int → Int} {n : Int} {a : Int → Int} (hP : PZ P) (hI : Inv a) (hM : RM H 10 a) (hn8 : 1 ≤ n ∧ n ≤ 8) (hrow : ∀ i, 0 ≤ i → i < n → H 7 i = pkF (K i) (V i) (G i) (C i) ∧ PVal (K i) (V i) (G i) (C i)) : am_R (d + 4) 160 [am_r 11, am_r 7, am_i (n)] (N, P, H) (some (am_i (fnL a K V G C n (a 1).toNat 0))) (N, P, H) := by
  refine am_en1 (d := d + 3) (ml := 4) (ls := [_, _, _, _]) cq_Marks_numberOf rfl (Nat.le_of_ble_eq_true rfl) rfl ?_
  have hn := hI.n
  refine st_iconst rfl ?_
  refine st_istore_n (ls' := [_, _, _, _]) rfl (Nat.le_of_ble_eq_true rfl) rfl ?_
  exact l_numberOf hP hI hM hn8 hrow (a 1).toNat 0 (by omega) (by omega) ⟨rfl, rfl⟩
theorem r_Marks_make {d N : Nat} {P : am_P} {H : am_H} {n c : Int} (hP : PZ P) (h0 : H 11 0 = c) (hc : 0 ≤ c ∧ c ≤ 200) (hn8 : 1 ≤ n ∧ n ≤ 8) : am_R (d + 1) 162 [am_r 11, am_r 7, am_i (n)] (N, P, H) (some (am_i (if c ≠ 200 then c else -1))) (N, P, if c ≠ 200 then am_up (am_up (am_so H 13 (pfy (fun i => H 7 (i : Int)) (H 13) (c * 8) n.toNat)) 12 c n) 11 0 (c + 1) else H) := by
  refine am_en1 (d := d + 0) (ml := 4) (ls := [_, _, _, _]) cq_Marks_make rfl (Nat.le_of_ble_eq_true rfl) rfl ?_
  refine st_aload_n rfl rfl (by decide) ?_
  refine st_getI (kk := 0) rfl rfl (by decide) rfl ?_
  refine st_sipush rfl ?_
  refine st_icmp_lt rfl (fun h3 => ?_) (fun h3 => ?_)
  · refine st_iconst rfl ?_
    refine st_istore_n (ls' := [_, _, _, _]) rfl (Nat.le_of_ble_eq_true rfl) rfl ?_
    suffices hz : ∀ k, k ≤ n.toNat → am_WP (am_R (d + 0)) cd_Marks_make (fun v' s' => v' = some (am_i (if c ≠ 200 then c else -1)) ∧ s' = (N, P, if c ≠ 200 then am_up (am_up (am_so H 13 (pfy (fun i => H 7 (i : Int)) (H 13) (c * 8) n.toNat)) 12 c n) 11 0 (c + 1) else H)) 8 [some (am_r 11), some (am_r 7), some (am_i n), some (am_i (k : Int))] [] (N, P, am_so H 13 (pfy (fun i => H 7 (i : Int)) (H 13) (c * 8) k)) by
      have := hz 0 (Nat.zero_le _)
      rw [pfy_0, am_so_self] at this
      exact this
    refine up_ind (n := n.toNat) ?_ ?_
    · refine st_iload_n rfl rfl ?_
      refine st_iload_n rfl rfl ?_
      refine st_icmp_ge rfl (fun h10 => ?_) (fun h10 => (by exfalso; omega))
      refine st_aload_n rfl rfl (by decide) ?_
      refine st_getR (kk := 1) rfl rfl rfl (pz_11_1 hP) rfl ?_
      refine st_aload_n rfl rfl (by decide) ?_
      refine st_getI (kk := 0) rfl rfl (by decide) rfl ?_
      rw [show (am_so H 13 (pfy (fun i => H 7 (i : Int)) (H 13) (c * 8) n.toNat)) 11 0 = c from h0]
      refine st_iload_n rfl rfl ?_
      refine st_iastore rfl rfl (by omega) (by omega) ?_
      refine st_aload_n rfl rfl (by decide) ?_
      refine st_dup rfl rfl ?_
      refine st_getI (kk := 0) rfl rfl (by decide) rfl ?_
      rw [show am_up (am_so H 13 (pfy (fun i => H 7 (i : Int)) (H 13) (c * 8) n.toNat)) 12 c n 11 0 = c from h0]
      refine st_iconst rfl ?_
      refine st_iadd rfl (by omega) ?_
      refine st_putI (kk := 0) rfl rfl rfl rfl ?_
      refine st_aload_n rfl rfl (by decide) ?_
      refine st_getI (kk := 0) rfl rfl (by decide) rfl ?_
      rw [show (am_up (am_up (am_so H 13 (pfy (fun i => H 7 (i : Int)) (H 13) (c * 8) n.toNat)) 12 c n) 11 0 (c + 1)) 11 0 = c + 1 by rw [am_up_eq, am_uf_eq]]
      refine st_iconst rfl ?_
      refine st_isub rfl (by omega) ?_
      refine st_iret rfl (fun z => by first | exact absurd z (by decide) | exact bi_01 _ | decide | omega) ?_
      exact ⟨am_ri (by rw [if_pos (by omega)]; omega), by rw [if_pos (by omega)]⟩
    · intro k hk ih
      refine st_iload_n rfl rfl ?_
      refine st_iload_n rfl rfl ?_
      refine st_icmp_ge rfl (fun h10 => (by exfalso; omega)) (fun h10 => ?_)
      refine st_iload_n rfl rfl ?_
      refine st_bipush rfl ?_
      refine st_icmp_ge rfl (fun h13 => (by exfalso; omega)) (fun h13 => ?_)
      refine st_iload_n rfl rfl ?_
      refine st_aload_n rfl rfl (by decide) ?_
      refine st_alenL rfl rfl ?_
      refine st_icmp_ge rfl (fun h17 => (by exfalso; omega)) (fun h17 => ?_)
      refine st_aload_n rfl rfl (by decide) ?_
      refine st_getR (kk := 2) rfl rfl rfl (pz_11_2 hP) rfl ?_
      refine st_aload_n rfl rfl (by decide) ?_
      refine st_getI (kk := 0) rfl rfl (by decide) rfl ?_
      rw [show (am_so H 13 (pfy (fun i => H 7 (i : Int)) (H 13) (c * 8) k)) 11 0 = c from h0]
      refine st_bipush rfl ?_
      refine st_imul rfl (by omega) ?_
      refine st_iload_n rfl rfl ?_
      refine st_iadd rfl (by omega) ?_
      refine st_aload_n rfl rfl (by decide) ?_
      refine st_iload_n rfl rfl ?_
      refine st_laload rfl rfl (by omega) (by omega) ?_
      rw [show (am_so H 13 (pfy (fun i => H 7 (i : Int)) (H 13) (c * 8) k)) 7 = H 7 from rfl]
      refine st_lastore rfl rfl (by omega) (by omega) ?_
      refine st_iinc (ls' := [_, _, _, _]) rfl rfl (by omega) rfl ?_
      refine st_goto rfl ?_
      rw [show am_up (am_so H 13 (pfy (fun i => H 7 (i : Int)) (H 13) (c * 8) k)) 13 (c * 8 + (k : Int)) (H 7 (k : Int)) = am_so H 13 (pfy (fun i => H 7 (i : Int)) (H 13) (c * 8) (k + 1)) by unfold am_up; rw [am_so_so, am_so_at, pfy_s]]
      exact ih
  · refine st_iconst rfl ?_
    refine st_iret rfl (fun z => by first | exact absurd z (by decide) | exact bi_01 _ | decide | omega) ?_
    exact ⟨am_ri (by rw [if_neg (by omega)]), by rw [if_neg (by omega)]⟩
theorem r_Cart_withinText {d N : Nat} {P : am_P} {H : am_H} {p n : Int}  : am_R (d + 1) 3 [am_i (p), am_i (n)] (N, P, H) (some (am_i (if 60 < n ∧ (p = -1 ∨ 60 < p) then 60 else p))) (N, P, H) := by
  refine am_en1 (d := d + 0) (ml := 2) (ls := [_, _]) cq_Cart_withinText rfl (Nat.le_of_ble_eq_true rfl) rfl ?_
  refine st_iload_n rfl rfl ?_
  refine st_bipush rfl ?_
  refine st_icmp_le rfl (fun h2 => ?_) (fun h2 => ?_)
  · refine st_iload_n rfl rfl ?_
    refine st_iret rfl (fun z => by first | exact absurd z (by decide) | exact bi_01 _ | decide | omega) ?_
    exact ⟨am_ri (by first | rw [if_pos (by omega)] | rw [if_neg (by omega)]), rfl⟩
  · refine st_iload_n rfl rfl ?_
    refine st_iconst rfl ?_
    refine st_icmp_eq rfl (fun h5 => ?_) (fun h5 => ?_)
    · refine st_bipush rfl ?_
      refine st_goto rfl ?_
      refine st_iret rfl (fun z => by first | exact absurd z (by decide) | exact bi_01 _ | decide | omega) ?_
      exact ⟨am_ri (by first | rw [if_pos (by omega)] | rw [if_neg (by omega)]), rfl⟩
    · refine st_iload_n rfl rfl ?_
      refine st_bipush rfl ?_
      refine st_icmp_le rfl (fun h8 => ?_) (fun h8 => ?_)
      · refine st_iload_n rfl rfl ?_
        refine st_iret rfl (fun z => by first | exact absurd z (by decide) | exact bi_01 _ | decide | omega) ?_
        exact ⟨am_ri (by first | rw [if_pos (by omega)] | rw [if_neg (by omega)]), rfl⟩
      · refine st_bipush rfl ?_
        refine st_goto rfl ?_
        refine st_iret rfl (fun z => by first | exact absurd z (by decide) | exact bi_01 _ | decide | omega) ?_
        exact ⟨am_ri (by first | rw [if_pos (by omega)] | rw [if_neg (by omega)]), rfl⟩
theorem ma_o {a K V G C : Int → Int} {n x : Int} (h1 : x ≠ 1) (h : x < 70 + 33 * a 1 ∨ 70 + 33 * a 1 + 32 < x) : mkA a K V G C n x = a x := by
  unfold mkA mkL
  rw [am_uf_ne _ _ h1, if_neg (by omega), if_neg (by omega)]
theorem ma_1 {a K V G C : Int → Int} {n : Int} : mkA a K V G C n 1 = a 1 + 1 := by unfold mkA; rw [am_uf_eq]
theorem ma_l {a K V G C : Int → Int} {n : Int} (h : 0 ≤ a 1) : lenF (mkA a K V G C n) (a 1) = n := by
  unfold lenF mkA mkL
  rw [am_uf_ne _ _ (by omega), if_pos rfl]
theorem ma_p {a K V G C : Int → Int} {n k w : Int} (h : 0 ≤ a 1) (hk : 0 ≤ k ∧ k < n) (hn : n ≤ 8) (hw : 0 ≤ w ∧ w < 4) : prtF (mkA a K V G C n) (a 1) k w = if w = 0 then K k else if w = 1 then V k else if w = 2 then G k else C k := by
  unfold prtF mkA mkL
  rw [am_uf_ne _ _ (by omega), if_neg (by omega), if_pos (by omega), show (70 + 33 * a 1 + 1 + 4 * k + w - 70 - 33 * a 1 - 1) / 4 = k by omega, show (70 + 33 * a 1 + 1 + 4 * k + w - 70 - 33 * a 1 - 1) % 4 = w by omega]
  unfold ceF
  rw [if_pos hk.2]
theorem inv_mk {a K V G C : Int → Int} {n : Int} (hI : Inv a) (h200 : a 1 ≠ 200) (hn : 1 ≤ n ∧ n ≤ 8) (hv : ∀ i, 0 ≤ i → i < n → PVal (K i) (V i) (G i) (C i)) : Inv (mkA a K V G C n) := by
  have hN := hI.n
  have e : ∀ x, x ≠ 1 → (x < 70 + 33 * a 1 ∨ 70 + 33 * a 1 + 32 < x) → mkA a K V G C n x = a x := fun x x1 x2 => ma_o x1 x2
  have e1 : mkA a K V G C n 1 = a 1 + 1 := ma_1
  have e2 := e 2 (by omega) (by omega)
  have e3 := e 3 (by omega) (by omega)
  have e4 := e 4 (by omega) (by omega)
  have eb : ∀ b w, 0 ≤ b → 0 ≤ w → bkF (mkA a K V G C n) b w = bkF a b w := fun b w b0 w0 => e _ (by omega) (by omega)
  refine ⟨by rw [e 0 (by omega) (by omega)]; exact hI.1, ⟨by omega, fun m m0 m1 => ?_⟩, InvS_cg e2 e3 (fun k k0 k1 => e k (by omega) (by omega)) (by omega) hI.s, ⟨by rw [e3]; exact hI.b.1, fun b b0 b1 => ?_⟩, ⟨by rw [e 5 (by omega) (by omega), e2]; exact hI.h.1, by rw [e 6 (by omega) (by omega)]; exact hI.h.2.1, fun k k0 k1 => ?_⟩, ⟨fun m m0 m1 => ?_, fun s s0 s1 => ?_⟩, ⟨by rw [e4]; exact hI.g.1, fun g g0 g1 => ?_⟩⟩
  · by_cases hm : m = a 1
    · subst hm
      refine ⟨by omega, by rw [ma_l (by omega)]; exact hn, fun k k0 k1 => ?_⟩
      rw [ma_l (by omega)] at k1
      rw [ma_p (by omega) ⟨k0, k1⟩ hn.2 (by omega), ma_p (by omega) ⟨k0, k1⟩ hn.2 (by omega), ma_p (by omega) ⟨k0, k1⟩ hn.2 (by omega), ma_p (by omega) ⟨k0, k1⟩ hn.2 (by omega)]
      exact hv k k0 k1
    · have hmv := hI.mv m0 (by omega)
      have hl := hmv.2.1
      have el : lenF (mkA a K V G C n) m = lenF a m := e _ (by omega) (by omega)
      refine ⟨hmv.1, by rw [el]; exact hl, fun k k0 k1 => ?_⟩
      rw [el] at k1
      have ep : ∀ w, 0 ≤ w → w < 4 → prtF (mkA a K V G C n) m k w = prtF a m k w := fun w w0 w1 => e _ (by omega) (by omega)
      rw [ep 0 (by omega) (by omega), ep 1 (by omega) (by omega), ep 2 (by omega) (by omega), ep 3 (by omega) (by omega)]
      exact hmv.2.2 k k0 k1
  · rw [e3] at b1
    obtain ⟨q0, q1, q2, q3, q4⟩ := hI.b.2 b b0 b1
    unfold InvB1
    rw [eb b 0 b0 (by omega), eb b 1 b0 (by omega), eb b 2 b0 (by omega), eb b 4 b0 (by omega), eb b 5 b0 (by omega), eb b 6 b0 (by omega), eb b 7 b0 (by omega), e1, e2]
    refine ⟨q0, by omega, q2, ?_, ?_⟩
    · rcases q3 with q3 | ⟨r1, r2, r3, r4⟩
      · exact Or.inl q3
      · refine Or.inr ⟨r1, r2, ?_, ?_⟩
        · rw [show thgF (mkA a K V G C n) (bkF a b 4) (bkF a b 5) = thgF a (bkF a b 4) (bkF a b 5) from e _ (by omega) (by omega)]; exact r3
        · rw [e _ (by omega) (by omega)]; exact r4
    · rcases q4 with q4 | ⟨r1, r2, r3, r4⟩
      · exact Or.inl q4
      · refine Or.inr ⟨r1, r2, ?_, ?_⟩
        · rw [show thgF (mkA a K V G C n) (bkF a b 6) (bkF a b 7) = thgF a (bkF a b 6) (bkF a b 7) from e _ (by omega) (by omega)]; exact r3
        · rw [e _ (by omega) (by omega)]; exact r4
  · have hh := hI.h.2.1
    rw [e 6 (by omega) (by omega)] at k1
    rw [e _ (by omega) (by omega), e1]
    have := hI.h.2.2 k k0 k1
    omega
  · have z := hI.l.1 m m0 m1
    rw [e (8782 + m) (by omega) (by omega), e (8982 + m) (by omega) (by omega), e (9182 + m) (by omega) (by omega), e1, e2]
    exact ⟨z.1, fun q => z.2.1 (by omega), z.2.2⟩
  · have z := hI.l.2 s s0 s1
    rw [e1, e _ (by omega) (by omega), e _ (by omega) (by omega)]
    refine ⟨z.1, z.2.1, fun k k0 k1 => ?_⟩
    rw [e _ (by omega) (by omega)]
    have := z.2.2 k k0 k1
    omega
  · rw [e4] at g1
    have z := hI.g.2 g g0 g1
    rw [e1, e _ (by omega) (by omega), e _ (by omega) (by omega), e _ (by omega) (by omega)]
    omega
theorem RS_mk {H H' : am_H} {a K V G C : Int → Int} {n : Int} (hI : Inv a) (hS : RS H 10 a) (h200 : a 1 ≠ 200) (hn : 1 ≤ n ∧ n ≤ 8) (hf : ∀ k, 10 ≤ k → k ≤ 36 → k ≠ 11 → k ≠ 12 → k ≠ 13 → H' k = H k) (h11 : H' 11 0 = a 1 + 1) (h12 : H' 12 = am_uf (H 12) (a 1) n) (h13 : ∀ x, H' 13 x = if a 1 * 8 ≤ x ∧ x < a 1 * 8 + n then pkF (K (x - a 1 * 8)) (V (x - a 1 * 8)) (G (x - a 1 * 8)) (C (x - a 1 * 8)) else H 13 x) : RS H' 10 (mkA a K V G C n) := by
  have hN := hI.n
  have e : ∀ x, x ≠ 1 → (x < 70 + 33 * a 1 ∨ 70 + 33 * a 1 + 32 < x) → mkA a K V G C n x = a x := fun x x1 x2 => ma_o x1 x2
  have e1 : mkA a K V G C n 1 = a 1 + 1 := ma_1
  obtain ⟨q0, ⟨m1, m2, m3⟩, qt, qr, ⟨c1, c2, c3⟩, qg⟩ := hS
  refine ⟨by rw [hf 10 (by decide) (by decide) (by decide) (by decide) (by decide), e 0 (by omega) (by omega)]; exact q0, ⟨by rw [e1]; exact h11, fun m m0 mm => ?_, fun m k m0 mm k0 k1 => ?_⟩, qt.cg hI (fun k k0 k1 => hf _ (by omega) (by omega) (by omega) (by omega) (by omega)) (e 2 (by omega) (by omega)) (e 3 (by omega) (by omega)) (fun k k0 k1 => e k (by omega) (by omega)), qr.cg hI (hf _ (by decide) (by decide) (by decide) (by decide) (by decide)) (hf _ (by decide) (by decide) (by decide) (by decide) (by decide)) (fun k k0 k1 => e k (by omega) (by omega)), ⟨?_, fun m m0 mm => ?_, fun s s0 s1 => ?_⟩, qg.cg hI (fun k k0 k1 => hf _ (by omega) (by omega) (by omega) (by omega) (by omega)) (e 4 (by omega) (by omega)) (fun k k0 k1 => e k (by omega) (by omega))⟩
  · rw [e1] at mm
    show H' 12 m = _
    rw [h12]
    by_cases hm : m = a 1
    · subst hm
      rw [am_uf_eq, ma_l (by omega)]
    · rw [am_uf_ne _ _ hm, show lenF (mkA a K V G C n) m = lenF a m from e _ (by omega) (by omega)]
      exact m2 m m0 (by omega)
  · rw [e1] at mm
    show H' 13 (m * 8 + k) = _
    rw [h13]
    by_cases hm : m = a 1
    · subst hm
      rw [ma_l (by omega)] at k1
      rw [if_pos (by omega), ma_p (by omega) ⟨k0, k1⟩ hn.2 (by omega), ma_p (by omega) ⟨k0, k1⟩ hn.2 (by omega), ma_p (by omega) ⟨k0, k1⟩ hn.2 (by omega), ma_p (by omega) ⟨k0, k1⟩ hn.2 (by omega), show a 1 * 8 + k - a 1 * 8 = k by omega]
      rfl
    · have hl := (hI.mv m0 (by omega)).2.1
      rw [show lenF (mkA a K V G C n) m = lenF a m from e _ (by omega) (by omega)] at k1
      have ep : ∀ w, 0 ≤ w → w < 4 → prtF (mkA a K V G C n) m k w = prtF a m k w := fun w w0 w1 => e _ (by omega) (by omega)
      rw [if_neg (by omega), ep 0 (by omega) (by omega), ep 1 (by omega) (by omega), ep 2 (by omega) (by omega), ep 3 (by omega) (by omega)]
      exact m3 m k m0 (by omega) k0 k1
  · rw [hf (10 + 18) (by decide) (by decide) (by decide) (by decide) (by decide), e1, c1, show (a 1 + 1).toNat = (a 1).toNat + 1 by omega, cntL_cg (a := a) (fun k k0 k1 => e k (by omega) (by omega)) _ (by omega)]
    show _ = cntL a (a 1).toNat + bi (0 ≤ a (8782 + (((a 1).toNat : Nat) : Int)))
    rw [show (((a 1).toNat : Nat) : Int) = a 1 by omega, (hI.l.1 (a 1) (by omega) (by omega)).2.1 (by omega), bi_f (by omega), Int.add_zero]
  · rw [hf (10 + 19) (by decide) (by decide) (by decide) (by decide) (by decide), hf (10 + 20) (by decide) (by decide) (by decide) (by decide) (by decide), e _ (by omega) (by omega), e _ (by omega) (by omega), e _ (by omega) (by omega)]
    exact c2 m m0 mm
  · have z := c3 s s0 s1
    have hl := hI.l.2 s s0 s1
    rw [hf (10 + 21) (by decide) (by decide) (by decide) (by decide) (by decide), hf (10 + 22) (by decide) (by decide) (by decide) (by decide) (by decide), e _ (by omega) (by omega), e _ (by omega) (by omega)]
    refine ⟨z.1, fun q k k0 k1 => ?_⟩
    rw [e _ (by omega) (by omega)]
    exact z.2 q k k0 k1

