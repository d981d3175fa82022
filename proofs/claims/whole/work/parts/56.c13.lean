/-! ===== the class: its calls, order ===== -/
theorem lgI_mono {a T : Int → Int} {i : Int} (m : Nat) : ∀ x : Nat, lgI a T i m ≤ lgI a T i (m + x)
  | 0 => Int.le_refl _
  | x + 1 => by
    have ih := lgI_mono (a := a) (T := T) (i := i) m x
    show lgI a T i m ≤ lgI a T i (m + x + 1)
    simp only [lgI]
    split <;> omega
theorem lgI_att {a T : Int → Int} {i : Int} : ∀ m : Nat, lgI a T i m = 1 ∨ ∃ j : Nat, j < m ∧ folF a i (i + 1 + (j : Int)) ≤ 0 ∧ lgI a T i m = T (i + 1 + (j : Int)) + 1
  | 0 => Or.inl rfl
  | m + 1 => by
    have ih := lgI_att (a := a) (T := T) (i := i) m
    simp only [lgI]
    split
    · rename_i h
      exact Or.inr ⟨m, by omega, h.1, rfl⟩
    · rcases ih with ih | ⟨j, h1, h2, h3⟩
      · exact Or.inl ih
      · exact Or.inr ⟨j, by omega, h2, h3⟩
theorem lgT_fix {a T0 : Int → Int} {n : Int} : ∀ r : Nat, (r : Int) ≤ n → ∀ k : Int, n - r ≤ k → k < n → lgT a T0 n r k = lgI a (lgT a T0 n r) k (n - 1 - k).toNat
  | 0, _, k, h1, h2 => by omega
  | r + 1, h, k, h1, h2 => by
    have ih := lgT_fix (a := a) (T0 := T0) (n := n) r (by omega)
    have e : ∀ x, x ≠ n - 1 - (r : Int) → lgT a T0 n (r + 1) x = lgT a T0 n r x := fun x hx => by simp only [lgT]; rw [am_uf_ne _ _ hx]
    by_cases hk : k = n - 1 - (r : Int)
    · rw [hk, show lgT a T0 n (r + 1) (n - 1 - (r : Int)) = lgI a (lgT a T0 n r) (n - 1 - (r : Int)) r by simp only [lgT]; rw [am_uf_eq], show (n - 1 - (n - 1 - (r : Int))).toNat = r by omega]
      exact lgI_cg r (fun q hq => (e _ (by omega)).symm)
    · rw [e k hk, ih k (by omega) h2]
      exact lgI_cg _ (fun q hq => (e _ (by omega)).symm)
theorem bsT_max {a T0 : Int → Int} {n : Int} : ∀ r : Nat, (r : Int) ≤ n → (∀ k, n - r ≤ k → k < n → lgT a T0 n r k ≤ bsT a T0 n r) ∧ (bsT a T0 n r = 0 ∨ ∃ k, n - r ≤ k ∧ k < n ∧ bsT a T0 n r = lgT a T0 n r k)
  | 0, _ => ⟨fun k h1 h2 => by omega, Or.inl rfl⟩
  | r + 1, h => by
    obtain ⟨i1, i2⟩ := bsT_max (a := a) (T0 := T0) (n := n) r (by omega)
    have e : ∀ x, x ≠ n - 1 - (r : Int) → lgT a T0 n (r + 1) x = lgT a T0 n r x := fun x hx => by simp only [lgT]; rw [am_uf_ne _ _ hx]
    have hb : bsT a T0 n (r + 1) = if bsT a T0 n r < lgT a T0 n (r + 1) (n - 1 - (r : Int)) then lgT a T0 n (r + 1) (n - 1 - (r : Int)) else bsT a T0 n r := rfl
    rw [hb]
    refine ⟨fun k h1 h2 => ?_, ?_⟩
    · by_cases hk : k = n - 1 - (r : Int)
      · rw [hk]; split <;> omega
      · have := i1 k (by omega) h2
        rw [e k hk]; split <;> omega
    · split
      · exact Or.inr ⟨n - 1 - (r : Int), by omega, by omega, rfl⟩
      · rcases i2 with i2 | ⟨k, k1, k2, k3⟩
        · exact Or.inl i2
        · exact Or.inr ⟨k, by omega, k2, by rw [e k (by omega)]; exact k3⟩
theorem ord_T {a T0 : Int → Int} {n : Int} (hn : 0 ≤ n) (hO : ∀ i, 0 ≤ i → i + 1 < n → folF a i (i + 1) ≤ 0) : ∀ x : Nat, (x : Int) < n → lgT a T0 n n.toNat (n - 1 - (x : Int)) = (x : Int) + 1
  | 0, h => by
    have := lgT_r (a := a) (T0 := T0) (n := n) n.toNat (by omega) (n - 1 - ((0 : Nat) : Int)) (by omega) (by omega)
    omega
  | x + 1, h => by
    have ih := ord_T (T0 := T0) hn hO x (by omega)
    have hr := lgT_r (a := a) (T0 := T0) (n := n) n.toNat (by omega) (n - 1 - ((x + 1 : Nat) : Int)) (by omega) (by omega)
    have hf := lgT_fix (a := a) (T0 := T0) (n := n) n.toNat (by omega) (n - 1 - ((x + 1 : Nat) : Int)) (by omega) (by omega)
    have ho := hO (n - 1 - ((x + 1 : Nat) : Int)) (by omega) (by omega)
    have hm := lgI_mono (a := a) (T := lgT a T0 n n.toNat) (i := n - 1 - ((x + 1 : Nat) : Int)) 1 x
    have h1 : lgI a (lgT a T0 n n.toNat) (n - 1 - ((x + 1 : Nat) : Int)) 1 = lgT a T0 n n.toNat (n - 1 - ((x + 1 : Nat) : Int) + 1 + ((0 : Nat) : Int)) + 1 := by
      have h1s : lgI a (lgT a T0 n n.toNat) (n - 1 - ((x + 1 : Nat) : Int)) 1 = if folF a (n - 1 - ((x + 1 : Nat) : Int)) (n - 1 - ((x + 1 : Nat) : Int) + 1 + ((0 : Nat) : Int)) ≤ 0 ∧ lgI a (lgT a T0 n n.toNat) (n - 1 - ((x + 1 : Nat) : Int)) 0 ≤ lgT a T0 n n.toNat (n - 1 - ((x + 1 : Nat) : Int) + 1 + ((0 : Nat) : Int)) then lgT a T0 n n.toNat (n - 1 - ((x + 1 : Nat) : Int) + 1 + ((0 : Nat) : Int)) + 1 else lgI a (lgT a T0 n n.toNat) (n - 1 - ((x + 1 : Nat) : Int)) 0 := rfl
      rw [h1s]
      refine if_pos ⟨?_, ?_⟩
      · rw [show n - 1 - ((x + 1 : Nat) : Int) + 1 + ((0 : Nat) : Int) = n - 1 - ((x + 1 : Nat) : Int) + 1 by omega]; exact ho
      · rw [show n - 1 - ((x + 1 : Nat) : Int) + 1 + ((0 : Nat) : Int) = n - 1 - (x : Int) by omega, ih]
        show (1 : Int) ≤ _
        omega
    rw [show n - 1 - ((x + 1 : Nat) : Int) + 1 + ((0 : Nat) : Int) = n - 1 - (x : Int) by omega, ih] at h1
    rw [show (n - 1 - (n - 1 - ((x + 1 : Nat) : Int))).toNat = 1 + x by omega] at hf
    omega
theorem ord_to {a T0 : Int → Int} (hI : Inv a) (hO : ∀ i, 0 ≤ i → i + 1 < manF a → folF a i (i + 1) ≤ 0) : bsF a T0 = manF a := by
  have hm := man_r hI
  have hb := bsT_max (a := a) (T0 := T0) (n := manF a) (manF a).toNat (by omega)
  have hr := bsT_r (a := a) (T0 := T0) (n := manF a) (manF a).toNat (by omega)
  unfold bsF
  by_cases h0 : manF a = 0
  · rw [h0]; rfl
  · have h1 := ord_T (T0 := T0) hm.1 hO ((manF a).toNat - 1) (by omega)
    have h2 := hb.1 0 (by omega) (by omega)
    rw [show manF a - 1 - (((manF a).toNat - 1 : Nat) : Int) = 0 by omega] at h1
    omega
theorem ord_of {a T0 : Int → Int} (hI : Inv a) (hb0 : bsF a T0 = manF a) : ∀ x : Nat, (x : Int) < manF a → lgF a T0 (x : Int) = manF a - (x : Int) ∧ (∀ i : Nat, i < x → folF a (i : Int) ((i : Int) + 1) ≤ 0)
  | 0, h => by
    have hm := man_r hI
    have hb := bsT_max (a := a) (T0 := T0) (n := manF a) (manF a).toNat (by omega)
    have hr := lgT_r (a := a) (T0 := T0) (n := manF a) (manF a).toNat (by omega)
    refine ⟨?_, fun i hi => by omega⟩
    have hb0' : bsT a T0 (manF a) (manF a).toNat = manF a := hb0
    rcases hb.2 with z | ⟨k, k1, k2, k3⟩
    · omega
    · have := hr k (by omega) k2
      have hk : k = 0 := by omega
      subst hk
      show lgT a T0 (manF a) (manF a).toNat 0 = manF a - 0
      omega
  | x + 1, h => by
    have hm := man_r hI
    obtain ⟨i1, i2⟩ := ord_of hI hb0 x (by omega)
    have i1 : lgT a T0 (manF a) (manF a).toNat (x : Int) = manF a - (x : Int) := i1
    have hf := lgT_fix (a := a) (T0 := T0) (n := manF a) (manF a).toNat (by omega) (x : Int) (by omega) (by omega)
    have hr := lgT_r (a := a) (T0 := T0) (n := manF a) (manF a).toNat (by omega)
    rcases lgI_att (a := a) (T := lgT a T0 (manF a) (manF a).toNat) (i := (x : Int)) (manF a - 1 - (x : Int)).toNat with z | ⟨j, j1, j2, j3⟩
    · omega
    · have hj := hr ((x : Int) + 1 + (j : Int)) (by omega) (by omega)
      have hj0 : j = 0 := by omega
      subst hj0
      rw [show (x : Int) + 1 + ((0 : Nat) : Int) = (x : Int) + 1 by omega] at j2 j3 hj
      refine ⟨?_, fun i hi => ?_⟩
      · show lgT a T0 (manF a) (manF a).toNat ((x + 1 : Nat) : Int) = _
        rw [show ((x + 1 : Nat) : Int) = (x : Int) + 1 by omega]
        omega
      · by_cases hx : i = x
        · rw [hx]; exact j2
        · exact i2 i (by omega)
theorem ord_R {a T0 R0 : Int → Int} (hI : Inv a) (hb0 : bsF a T0 = manF a) : ∀ j : Nat, (j : Int) ≤ manF a → (rgS a (lgF a T0) (zrT R0 (manF a) (manF a).toNat) (bsF a T0) j).1 = manF a - (j : Int) ∧ (rgS a (lgF a T0) (zrT R0 (manF a) (manF a).toNat) (bsF a T0) j).2.1 = (j : Int) - 1 ∧ ∀ i : Nat, i < j → (rgS a (lgF a T0) (zrT R0 (manF a) (manF a).toNat) (bsF a T0) j).2.2 (i : Int) = 1
  | 0, h => ⟨by show bsF a T0 = _; omega, rfl, fun i hi => by omega⟩
  | j + 1, h => by
    obtain ⟨i1, i2, i3⟩ := ord_R (R0 := R0) hI hb0 j (by omega)
    have hT := (ord_of hI hb0 j (by omega)).1
    have hF : 1 ≤ j → folF a ((j : Int) - 1) (j : Int) ≤ 0 := fun hj => by
      have := (ord_of hI hb0 j (by omega)).2 (j - 1) (by omega)
      rw [show (((j - 1 : Nat) : Int)) = (j : Int) - 1 by omega, show (j : Int) - 1 + 1 = (j : Int) by omega] at this
      exact this
    simp only [rgS]
    rw [if_neg]
    · refine ⟨?_, ?_, fun i hi => ?_⟩
      · show (rgS _ _ _ _ j).1 - 1 = _
        rw [i1]; omega
      · show (j : Int) = _
        omega
      · show am_uf _ _ _ _ = _
        by_cases hij : i = j
        · rw [hij, am_uf_eq]
        · rw [am_uf_ne _ _ (by omega)]
          exact i3 i (by omega)
    · rw [i1, i2, hT]
      by_cases hj : 1 ≤ j
      · have := hF hj
        omega
      · omega
theorem orL_none {R : Int → Int} : ∀ (f : Nat) (i : Int), (∀ k, i ≤ k → k < i + f → R k ≠ 0) → orL R 0 f i 0 = -1
  | 0, _, _ => rfl
  | f + 1, i, h => by
    have ih := orL_none (R := R) f (i + 1) (fun k k0 k1 => h k (by omega) (by omega))
    simp only [orL]
    rw [if_neg (h i (by omega) (by omega))]
    exact ih
theorem orL_wr {R : Int → Int} : ∀ (f : Nat) (i k : Int), i ≤ k → k < i + f → R k = 0 → orL R 0 f i 0 = wrL R f i
  | 0, i, k, h1, h2, _ => by omega
  | f + 1, i, k, h1, h2, h3 => by
    simp only [orL, wrL]
    by_cases hi : R i = 0
    · rw [if_pos hi, if_pos hi, if_pos trivial]
    · rw [if_neg hi, if_neg hi]
      exact orL_wr f (i + 1) k (by rcases Int.lt_or_eq_of_le h1 with h | h; · omega
                                   · rw [h] at hi; exact absurd h3 hi) (by omega) h3
theorem RS.sq {H : am_H} {a : Int → Int} {n b : Int} {T R : Int → Int} (hI : Inv a) (hS : RS H 10 a) : RS (sqH H n b T R) 10 a := hS.cg hI (fun k hk => sq_o _ _ _ _ _ (by omega)) (fun _ _ _ => rfl)

theorem c_Cart_order {d N : Nat} {P : am_P} {H : am_H} {w k : Int} {a : Int → Int} (hP : PZ P) (hI : Inv a) (hW : InvW a) (hS : RS H 10 a) (hw : w = 0 ∨ w = 1) (hk : k ≤ 2147483647) : am_C (d + 7) 22 [am_r 3, am_i (w), am_i (k)] (N, P, H) (CQ N P H (if 0 ≤ k then orL (rgF a (H 41) (H 42)) w (manF a).toNat 0 k else -1) (a)) := by
  refine am_enC (d := d + 6) (ml := 3) (ls := [_, _, _]) cq_Cart_order rfl (Nat.le_of_ble_eq_true rfl) rfl ?_
  have hn := hI.n
  have hM := hS.m
  have hT := hS.t
  have hR := hS.r
  have hC := hS.c
  have hG := hS.g
  have t0 : H 14 0 = a 2 := hT.1
  have t4 : H 14 4 = a 3 := hT.2.1
  have hm := man_r hI
  have hh2 := hI.h.2.1
  refine st_aload_n rfl rfl (by decide) ?_
  refine st_getR (kk := 3) rfl rfl rfl (pz_3_3 hP) rfl ?_
  refine st_getR (kk := 2) rfl rfl rfl (pz_10_2 hP) rfl ?_
  refine st_cv1 (w := []) rfl rfl rfl (Nat.le_of_ble_eq_true rfl) (Nat.le_of_ble_eq_true rfl) rfl rfl (r_Reading_isThere hP hI hR) ?_
  refine st_if_ne_b rfl (fun h4 => ?_) (fun h4 => ?_)
  · have hmn : manF a = a 6 := if_neg (by omega)
    refine st_aload_n rfl rfl (by decide) ?_
    refine st_getR (kk := 5) rfl rfl rfl (pz_3_5 hP) rfl ?_
    refine st_aload_n rfl rfl (by decide) ?_
    refine st_getR (kk := 3) rfl rfl rfl (pz_3_3 hP) rfl ?_
    refine st_cv0 (w := []) rfl rfl rfl (Nat.le_of_ble_eq_true rfl) (Nat.le_of_ble_eq_true rfl) rfl rfl (r_Sequence_study hP hI hM hR hS.way h4) ?_
    refine st_aload_n rfl rfl (by decide) ?_
    refine st_getR (kk := 5) rfl rfl rfl (pz_3_5 hP) rfl ?_
    refine st_iload_n rfl rfl ?_
    refine st_iload_n rfl rfl ?_
    refine st_cv1 (w := []) rfl rfl rfl (Nat.le_of_ble_eq_true rfl) (Nat.le_of_ble_eq_true rfl) rfl rfl (r_Sequence_placeOf (R := rgF a (H 41) (H 42)) hP (sq_n _ _ _ _ _) hh2 (fun k k0 k1 => ⟨by rw [sq_R], rgF_01 hI _ _ k0 (by rw [hmn]; exact k1)⟩) hw hk) ?_
    refine st_iret rfl (fun z => by first | exact absurd z (by decide) | exact bi_01 _ | decide | omega) ?_
    exact ⟨am_ri (by rw [hmn]), _, rfl, fun o ho => sq_o _ _ _ _ _ (by omega), hS.sq hI⟩
  · refine st_iconst rfl ?_
    refine st_iret rfl (fun z => by first | exact absurd z (by decide) | exact bi_01 _ | decide | omega) ?_
    have hmn : manF a = 0 := if_pos (by omega)
    exact ⟨am_ri (by rw [hmn]; split <;> rfl), H, rfl, fun _ _ => rfl, hS⟩
theorem c_Cart_fewest {d N : Nat} {P : am_P} {H : am_H}  {a : Int → Int} (hP : PZ P) (hI : Inv a) (hW : InvW a) (hS : RS H 10 a)  : am_C (d + 7) 23 [am_r 3] (N, P, H) (CQ N P H (if a 5 < 0 then -1 else manF a - bsF a (H 41)) (a)) := by
  refine am_enC (d := d + 6) (ml := 1) (ls := [_]) cq_Cart_fewest rfl (Nat.le_of_ble_eq_true rfl) rfl ?_
  have hn := hI.n
  have hM := hS.m
  have hT := hS.t
  have hR := hS.r
  have hC := hS.c
  have hG := hS.g
  have t0 : H 14 0 = a 2 := hT.1
  have t4 : H 14 4 = a 3 := hT.2.1
  have hm := man_r hI
  have hh2 := hI.h.2.1
  refine st_aload_n rfl rfl (by decide) ?_
  refine st_getR (kk := 3) rfl rfl rfl (pz_3_3 hP) rfl ?_
  refine st_getR (kk := 2) rfl rfl rfl (pz_10_2 hP) rfl ?_
  refine st_cv1 (w := []) rfl rfl rfl (Nat.le_of_ble_eq_true rfl) (Nat.le_of_ble_eq_true rfl) rfl rfl (r_Reading_isThere hP hI hR) ?_
  refine st_if_ne_b rfl (fun h4 => ?_) (fun h4 => ?_)
  · have hmn : manF a = a 6 := if_neg (by omega)
    have hbr := bsT_r (a := a) (T0 := H 41) (n := manF a) (manF a).toNat (by omega)
    have hbe : bsF a (H 41) = bsT a (H 41) (manF a) (manF a).toNat := rfl
    refine st_aload_n rfl rfl (by decide) ?_
    refine st_getR (kk := 5) rfl rfl rfl (pz_3_5 hP) rfl ?_
    refine st_aload_n rfl rfl (by decide) ?_
    refine st_getR (kk := 3) rfl rfl rfl (pz_3_3 hP) rfl ?_
    refine st_cv0 (w := []) rfl rfl rfl (Nat.le_of_ble_eq_true rfl) (Nat.le_of_ble_eq_true rfl) rfl rfl (r_Sequence_study hP hI hM hR hS.way h4) ?_
    refine st_aload_n rfl rfl (by decide) ?_
    refine st_getR (kk := 3) rfl rfl rfl (pz_3_3 hP) rfl ?_
    refine st_getR (kk := 2) rfl rfl rfl (pz_10_2 hP) rfl ?_
    refine st_getI (kk := 1) rfl rfl (by decide) rfl ?_
    rw [show (sqH H (a 6) (bsF a (H 41)) (lgF a (H 41)) (rgF a (H 41) (H 42))) 26 1 = a 6 by rw [sq_o _ _ _ _ _ (by decide)]; exact (hR.2 h4).1]
    refine st_aload_n rfl rfl (by decide) ?_
    refine st_getR (kk := 5) rfl rfl rfl (pz_3_5 hP) rfl ?_
    refine st_getI (kk := 0) rfl rfl (by decide) rfl ?_
    rw [sq_b]
    refine st_isub rfl (by omega) ?_
    refine st_iret rfl (fun z => by first | exact absurd z (by decide) | exact bi_01 _ | decide | omega) ?_
    exact ⟨am_ri (by rw [if_neg (by omega), hmn]), _, rfl, fun o ho => sq_o _ _ _ _ _ (by omega), hS.sq hI⟩
  · refine st_iconst rfl ?_
    refine st_iret rfl (fun z => by first | exact absurd z (by decide) | exact bi_01 _ | decide | omega) ?_
    exact ⟨am_ri (by rw [if_pos (by omega)]), H, rfl, fun _ _ => rfl, hS⟩
theorem RR_mv {H : am_H} {a R : Int → Int} {x y : Int} (hI : Inv a) (hR : RR H 10 a) (h5 : 0 ≤ a 5) (hx : 0 ≤ x ∧ x < a 6) (hy : 0 ≤ y ∧ y < a 6) : RR (am_so H 27 (am_uf (if x < y then am_cpy (H 27) (H 27) (x + 1) x (y - x) else am_cpy (H 27) (H 27) y (y + 1) (x - y)) y (H 27 x))) 10 (mvG a R (a 6) x y) := by
  have hh2 := hI.h.2.1
  obtain ⟨q0, q1⟩ := hR
  obtain ⟨q1, q2⟩ := q1 h5
  have e : ∀ k, k < 7 ∨ 7 + a 6 ≤ k → mvG a R (a 6) x y k = a k := fun k hk => by
    unfold mvG srF slF
    rw [am_uf_ne _ _ (by omega), if_neg (by omega), if_neg (by omega)]
  refine ⟨by rw [am_so_ne _ _ (by decide), e 5 (by omega)]; exact q0, fun _ => ⟨by rw [am_so_ne _ _ (by decide), e 6 (by omega)]; exact q1, fun k k0 k1 => ?_⟩⟩
  rw [e 6 (by omega)] at k1
  rw [show (10 + 17 : Nat) = 27 from rfl, am_so_at]
  have q2 : ∀ k, 0 ≤ k → k < a 6 → H 27 k = a (7 + k) := q2
  by_cases hk : k = y
  · rw [hk, am_uf_eq, q2 x hx.1 hx.2]
    unfold mvG
    rw [am_uf_eq]
    rfl
  · rw [am_uf_ne _ _ hk]
    unfold mvG
    rw [am_uf_ne _ _ (by omega)]
    unfold srF slF
    by_cases hxy : x < y
    · rw [if_pos hxy]
      unfold am_cpy
      by_cases h1 : x ≤ k ∧ k < x + (y - x)
      · rw [if_pos h1, if_neg (by omega), if_pos (by omega), q2 _ (by omega) (by omega)]
        congr 1
        omega
      · rw [if_neg h1, q2 k k0 k1]
        by_cases h2 : k < x
        · rw [if_neg (by omega), if_neg (by omega)]
        · rw [if_pos (by omega), if_pos (by omega)]
          congr 1
          omega
    · rw [if_neg hxy]
      unfold am_cpy
      by_cases h1 : y + 1 ≤ k ∧ k < y + 1 + (x - y)
      · rw [if_pos h1, if_pos (by omega), if_neg (by omega), q2 _ (by omega) (by omega)]
        congr 1
        omega
      · rw [if_neg h1, q2 k k0 k1]
        by_cases h2 : k ≤ y
        · rw [if_neg (by omega), if_neg (by omega)]
        · rw [if_pos (by omega), if_pos (by omega)]
          congr 1
          omega
theorem mvG_o {a R : Int → Int} {n x y : Int} (hx : 0 ≤ x ∧ x < n) (hy : 0 ≤ y ∧ y < n) {k : Int} (hk : k < 7 ∨ 7 + n ≤ k) : mvG a R n x y k = a k := by
  unfold mvG srF slF
  rw [am_uf_ne _ _ (by omega), if_neg (by omega), if_neg (by omega)]
theorem mvG_m {a R : Int → Int} {x y : Int} (hI : Inv a) (hx : 0 ≤ x ∧ x < a 6) (hy : 0 ≤ y ∧ y < a 6) {k : Int} (k0 : 0 ≤ k) (k1 : k < a 6) : ∃ j, 0 ≤ j ∧ j < a 6 ∧ mvG a R (a 6) x y (7 + k) = a (7 + j) := by
  unfold mvG
  by_cases hk : k = y
  · rw [hk, am_uf_eq]
    exact ⟨x, hx.1, hx.2, rfl⟩
  · rw [am_uf_ne _ _ (by omega)]
    unfold srF slF
    by_cases h1 : 7 + (a 6 - 1) - (a 6 - 1 - y) < 7 + k ∧ 7 + k ≤ 7 + (a 6 - 1)
    · rw [if_pos h1]
      by_cases h2 : 7 + x ≤ 7 + k - 1 ∧ 7 + k - 1 < 7 + x + (a 6 - 1 - x)
      · rw [if_pos h2]
        exact ⟨k, k0, k1, by congr 1; omega⟩
      · rw [if_neg h2]
        exact ⟨k - 1, by omega, by omega, by congr 1; omega⟩
    · rw [if_neg h1]
      by_cases h2 : 7 + x ≤ 7 + k ∧ 7 + k < 7 + x + (a 6 - 1 - x)
      · rw [if_pos h2]
        exact ⟨k + 1, by omega, by omega, by congr 1; omega⟩
      · rw [if_neg h2]
        exact ⟨k, k0, k1, rfl⟩
theorem inv_move {a R : Int → Int} {x y : Int} (hI : Inv a) (hx : 0 ≤ x ∧ x < a 6) (hy : 0 ≤ y ∧ y < a 6) : Inv (mvG a R (a 6) x y) := by
  have hh := hI.h
  have hh2 := hh.2.1
  have e : ∀ k, k < 7 ∨ 7 + a 6 ≤ k → mvG a R (a 6) x y k = a k := fun k hk => mvG_o hx hy hk
  refine inv_hd hI (by rw [e 0 (by omega)]; exact hI.1) (fun k hk => e k (by omega)) ⟨by rw [e 5 (by omega), e 2 (by omega)]; exact hh.1, by rw [e 6 (by omega)]; exact hh2, fun k k0 k1 => ?_⟩
  rw [e 6 (by omega)] at k1
  obtain ⟨j, j0, j1, j2⟩ := mvG_m (R := R) hI hx hy k0 k1
  rw [j2, e 1 (by omega)]
  exact hh.2.2 j j0 j1
theorem mv_r {a T0 R0 : Int → Int} (hI : Inv a) (h5 : 0 ≤ a 5) (hb : bsF a T0 ≠ manF a) : (0 ≤ mvFr a (rgF a T0 R0) ∧ mvFr a (rgF a T0 R0) < a 6) ∧ rgF a T0 R0 (mvFr a (rgF a T0 R0)) = 0 ∧ (0 ≤ mvTo a (rgF a T0 R0) ∧ mvTo a (rgF a T0 R0) < a 6) := by
  have hm := man_r hI
  have hmn : manF a = a 6 := if_neg (by omega)
  obtain ⟨k, k0, k1, k2⟩ := wr_ex hI T0 R0 hb
  have hw := wrL_r (manF a).toNat 0 k k0 (by omega) k2
  have hf : 0 ≤ mvFr a (rgF a T0 R0) ∧ mvFr a (rgF a T0 R0) < a 6 ∧ rgF a T0 R0 (mvFr a (rgF a T0 R0)) = 0 := by
    unfold mvFr
    exact ⟨hw.1, by omega, hw.2.2⟩
  refine ⟨⟨hf.1, hf.2.1⟩, hf.2.2, ?_⟩
  have ht := toL_r a (rgF a T0 R0) (seeF a (mvFr a (rgF a T0 R0))) (mvFr a (rgF a T0 R0)) (manF a).toNat
  have ht2 := toL_w (a := a) (m := seeF a (mvFr a (rgF a T0 R0))) hf.2.2 hf.1 (manF a).toNat (by omega)
  unfold mvTo
  omega

theorem c_Cart_move {d N : Nat} {P : am_P} {H : am_H}  {a : Int → Int} (hP : PZ P) (hI : Inv a) (hW : InvW a) (hS : RS H 10 a)  : am_C (d + 7) 24 [am_r 3] (N, P, H) (CQ N P H (if bsF a (H 41) = manF a then -1 else 100 * mvFr a (rgF a (H 41) (H 42)) + mvTo a (rgF a (H 41) (H 42))) (if bsF a (H 41) = manF a then a else mvG a (rgF a (H 41) (H 42)) (manF a) (mvFr a (rgF a (H 41) (H 42))) (mvTo a (rgF a (H 41) (H 42))))) := by
  refine am_enC (d := d + 6) (ml := 3) (ls := [_, _, _]) cq_Cart_move rfl (Nat.le_of_ble_eq_true rfl) rfl ?_
  have hn := hI.n
  have hM := hS.m
  have hT := hS.t
  have hR := hS.r
  have hC := hS.c
  have hG := hS.g
  have t0 : H 14 0 = a 2 := hT.1
  have t4 : H 14 4 = a 3 := hT.2.1
  have hm := man_r hI
  have hh2 := hI.h.2.1
  refine st_aload_n rfl rfl (by decide) ?_
  refine st_getR (kk := 3) rfl rfl rfl (pz_3_3 hP) rfl ?_
  refine st_getR (kk := 2) rfl rfl rfl (pz_10_2 hP) rfl ?_
  refine st_cv1 (w := []) rfl rfl rfl (Nat.le_of_ble_eq_true rfl) (Nat.le_of_ble_eq_true rfl) rfl rfl (r_Reading_isThere hP hI hR) ?_
  refine st_if_ne_b rfl (fun h4 => ?_) (fun h4 => ?_)
  · have hmn : manF a = a 6 := if_neg (by omega)
    refine st_aload_n rfl rfl (by decide) ?_
    refine st_getR (kk := 5) rfl rfl rfl (pz_3_5 hP) rfl ?_
    refine st_aload_n rfl rfl (by decide) ?_
    refine st_getR (kk := 3) rfl rfl rfl (pz_3_3 hP) rfl ?_
    refine st_cv0 (w := []) rfl rfl rfl (Nat.le_of_ble_eq_true rfl) (Nat.le_of_ble_eq_true rfl) rfl rfl (r_Sequence_study hP hI hM hR hS.way h4) ?_
    refine st_aload_n rfl rfl (by decide) ?_
    refine st_getR (kk := 5) rfl rfl rfl (pz_3_5 hP) rfl ?_
    refine st_iconst rfl ?_
    refine st_iconst rfl ?_
    refine st_cv1 (w := []) rfl rfl rfl (Nat.le_of_ble_eq_true rfl) (Nat.le_of_ble_eq_true rfl) rfl rfl (r_Sequence_placeOf (R := rgF a (H 41) (H 42)) (w := 0) (k := 0) hP (sq_n _ _ _ _ _) hh2 (fun k k0 k1 => ⟨by rw [sq_R], rgF_01 hI _ _ k0 (by rw [hmn]; exact k1)⟩) (Or.inl rfl) (by omega)) ?_
    rw [if_pos (show (0 : Int) ≤ 0 by omega)]
    refine st_istore_n (ls' := [_, _, _]) rfl (Nat.le_of_ble_eq_true rfl) rfl ?_
    by_cases hb : bsF a (H 41) = manF a
    · have ho : orL (rgF a (H 41) (H 42)) 0 (a 6).toNat 0 0 = -1 := orL_none _ _ (fun k k0 k1 => by
        have := (ord_R (R0 := H 42) hI hb (manF a).toNat (by omega)).2.2 k.toNat (by omega)
        rw [show ((k.toNat : Nat) : Int) = k by omega] at this
        rw [show rgF a (H 41) (H 42) k = 1 from this]; omega)
      rw [ho]
      refine st_iload_n rfl rfl ?_
      refine st_iconst rfl ?_
      refine st_icmp_ne rfl (fun h20 => (by exfalso; omega)) (fun h20 => ?_)
      refine st_iconst rfl ?_
      refine st_iret rfl (fun z => by first | exact absurd z (by decide) | exact bi_01 _ | decide | omega) ?_
      exact ⟨am_ri (by rw [if_pos hb]), _, rfl, fun o ho => sq_o _ _ _ _ _ (by omega), by rw [if_pos hb]; exact hS.sq hI⟩
    obtain ⟨mv1, mv2, mv3⟩ := mv_r (T0 := H 41) (R0 := H 42) hI h4 hb
    have ho : orL (rgF a (H 41) (H 42)) 0 (a 6).toNat 0 0 = mvFr a (rgF a (H 41) (H 42)) := by
      obtain ⟨k, k0, k1, k2⟩ := wr_ex hI (H 41) (H 42) hb
      rw [orL_wr _ _ k k0 (by omega) k2, ← hmn]; rfl
    rw [ho]
    refine st_iload_n rfl rfl ?_
    refine st_iconst rfl ?_
    refine st_icmp_ne rfl (fun h20 => ?_) (fun h20 => (by exfalso; omega))
    refine st_aload_n rfl rfl (by decide) ?_
    refine st_getR (kk := 5) rfl rfl rfl (pz_3_5 hP) rfl ?_
    refine st_iload_n rfl rfl ?_
    refine st_aload_n rfl rfl (by decide) ?_
    refine st_getR (kk := 3) rfl rfl rfl (pz_3_3 hP) rfl ?_
    refine st_cv1 (w := []) rfl rfl rfl (Nat.le_of_ble_eq_true rfl) (Nat.le_of_ble_eq_true rfl) rfl rfl (r_Sequence_newPlaceOf (R := rgF a (H 41) (H 42)) hP hI hM.sq hR.sq (by rw [sq_o _ _ _ _ _ (by decide)]; exact hS.way) h4 (sq_n _ _ _ _ _) (fun k k0 k1 => ⟨by rw [sq_R], rgF_01 hI _ _ k0 (by rw [hmn]; exact k1)⟩) mv1 mv2) ?_
    rw [show toL a (rgF a (H 41) (H 42)) (seeF a (mvFr a (rgF a (H 41) (H 42)))) (mvFr a (rgF a (H 41) (H 42))) (a 6).toNat = mvTo a (rgF a (H 41) (H 42)) by unfold mvTo; rw [hmn]]
    refine st_istore_n (ls' := [_, _, _]) rfl (Nat.le_of_ble_eq_true rfl) rfl ?_
    refine st_aload_n rfl rfl (by decide) ?_
    refine st_getR (kk := 3) rfl rfl rfl (pz_3_3 hP) rfl ?_
    refine st_getR (kk := 2) rfl rfl rfl (pz_10_2 hP) rfl ?_
    refine st_iload_n rfl rfl ?_
    refine st_iload_n rfl rfl ?_
    refine st_cv0 (w := []) rfl rfl rfl (Nat.le_of_ble_eq_true rfl) (Nat.le_of_ble_eq_true rfl) rfl rfl (r_Reading_shiftOne (n := a 6) hP (by rw [sq_o _ _ _ _ _ (by decide)]; exact (hR.2 h4).1) hh2.2 mv1 mv3) ?_
    refine st_bipush rfl ?_
    refine st_iload_n rfl rfl ?_
    refine st_imul rfl (by omega) ?_
    refine st_iload_n rfl rfl ?_
    refine st_iadd rfl (by omega) ?_
    refine st_iret rfl (fun z => by first | exact absurd z (by decide) | exact bi_01 _ | decide | omega) ?_
    refine ⟨am_ri (by rw [if_neg hb]), _, rfl, fun o ho => by rw [am_so_ne _ _ (by omega)]; exact sq_o _ _ _ _ _ (by omega), ?_⟩
    rw [if_neg hb, hmn]
    have hfr : ∀ k : Nat, k ≠ 27 → k < 40 → am_so (sqH H (a 6) (bsF a (H 41)) (lgF a (H 41)) (rgF a (H 41) (H 42))) 27 (am_uf (if mvFr a (rgF a (H 41) (H 42)) < mvTo a (rgF a (H 41) (H 42)) then am_cpy ((sqH H (a 6) (bsF a (H 41)) (lgF a (H 41)) (rgF a (H 41) (H 42))) 27) ((sqH H (a 6) (bsF a (H 41)) (lgF a (H 41)) (rgF a (H 41) (H 42))) 27) (mvFr a (rgF a (H 41) (H 42)) + 1) (mvFr a (rgF a (H 41) (H 42))) (mvTo a (rgF a (H 41) (H 42)) - mvFr a (rgF a (H 41) (H 42))) else am_cpy ((sqH H (a 6) (bsF a (H 41)) (lgF a (H 41)) (rgF a (H 41) (H 42))) 27) ((sqH H (a 6) (bsF a (H 41)) (lgF a (H 41)) (rgF a (H 41) (H 42))) 27) (mvTo a (rgF a (H 41) (H 42))) (mvTo a (rgF a (H 41) (H 42)) + 1) (mvFr a (rgF a (H 41) (H 42)) - mvTo a (rgF a (H 41) (H 42)))) (mvTo a (rgF a (H 41) (H 42))) ((sqH H (a 6) (bsF a (H 41)) (lgF a (H 41)) (rgF a (H 41) (H 42))) 27 (mvFr a (rgF a (H 41) (H 42))))) k = H k := fun k k1 k2 => by rw [am_so_ne _ _ k1]; exact sq_o _ _ _ _ _ (by omega)
    refine RS_hd hI hS (by rw [hfr 10 (by decide) (by decide), mvG_o mv1 mv3 (by omega)]; exact hS.way) (fun k hk => hfr k (by omega) (by omega)) (RR_mv hI hR.sq h4 mv1 mv3) (fun k hk => mvG_o mv1 mv3 (by omega))
  · refine st_iconst rfl ?_
    refine st_iret rfl (fun z => by first | exact absurd z (by decide) | exact bi_01 _ | decide | omega) ?_
    have hmn : manF a = 0 := if_pos (by omega)
    have hb : bsF a (H 41) = manF a := ord_to hI (fun i i0 i1 => by omega)
    exact ⟨am_ri (by rw [if_pos hb]), H, rfl, fun _ _ => rfl, by rw [if_pos hb]; exact hS⟩
