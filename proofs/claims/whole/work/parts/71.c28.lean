/-! ===== the class: mark ===== -/
def IW (a : Int → Int) (m : Int) : Prop := WKv a m ∧ wlF a m (lenF a m).toNat ≤ 60 ∧ ∀ k, 0 ≤ k → k + 1 < lenF a m → prtF a m k 0 ≠ 6 ∧ (prtF a m k 0 = 5 → prtF a m (k + 1) 0 = 6)
theorem IW_cg {a a' : Int → Int} {m : Int} (el : lenF a' m = lenF a m) (hl : lenF a m ≤ 8) (e : ∀ k w, 0 ≤ k → k < 8 → 0 ≤ w → w < 4 → prtF a' m k w = prtF a m k w) (h : IW a m) : IW a' m := by
  obtain ⟨w1, w2, w3⟩ := h
  refine ⟨fun k k0 k1 => ?_, ?_, fun k k0 k1 => ?_⟩
  · rw [el] at k1
    rw [e k 0 k0 (by omega) (by omega) (by omega), e k 1 k0 (by omega) (by omega) (by omega)]
    exact w1 k k0 k1
  · rw [el]
    have hw : ∀ j : Nat, (j : Int) ≤ lenF a m → wlF a' m j = wlF a m j := by
      intro j
      induction j with
      | zero => intro _; rfl
      | succ j ih =>
        intro hj
        have ih := ih (by omega)
        rw [wl_s, wl_s]
        have ej : ∀ w, 0 ≤ w → w < 4 → prtF a' m (j : Int) w = prtF a m (j : Int) w := fun w w0 w1 => e _ w (by omega) (by omega) w0 w1
        have hp : pwL (prtF a' m (j : Int) 0) (prtF a' m (j : Int) 1) (prtF a' m (j : Int) 2) (prtF a' m (j : Int) 3) = pwL (prtF a m (j : Int) 0) (prtF a m (j : Int) 1) (prtF a m (j : Int) 2) (prtF a m (j : Int) 3) := by rw [ej 0 (by omega) (by omega), ej 1 (by omega) (by omega), ej 2 (by omega) (by omega), ej 3 (by omega) (by omega)]
        have hc : (0 < j ∧ ¬ jnF a' m (j : Int)) ↔ (0 < j ∧ ¬ jnF a m (j : Int)) := by
          by_cases hj0 : 0 < j
          · have ek : prtF a' m ((j : Int) - 1) 0 = prtF a m ((j : Int) - 1) 0 := e _ 0 (by omega) (by omega) (by omega) (by omega)
            unfold jnF
            rw [ek, ej 0 (by omega) (by omega)]
          · exact ⟨fun z => absurd z.1 hj0, fun z => absurd z.1 hj0⟩
        rw [ih, hp]
        simp only [hc]
    by_cases h0 : 0 ≤ lenF a m
    · rw [hw _ (by omega)]
      exact w2
    · rw [show (lenF a m).toNat = 0 by omega]
      show (0 : Int) ≤ 60
      omega
  · rw [el] at k1
    rw [e k 0 k0 (by omega) (by omega) (by omega), e (k + 1) 0 (by omega) (by omega) (by omega) (by omega)]
    exact w3 k k0 k1
theorem tM_t (h : Int → Int) (n : Int) : ∀ j : Nat, txF h n (tM h n j) = txF h n j
  | 0 => rfl
  | j + 1 => by
    have ih := tM_t h n j
    have e : tM h n (j + 1) = if (txF h n j).ok = 1 then j + 1 else tM h n j := rfl
    rw [e]
    by_cases h1 : (txF h n j).ok = 1
    · rw [if_pos h1]
    · rw [if_neg h1, ih, tx_s, if_neg h1]
abbrev mkB (a h : Int → Int) (n : Int) : Int → Int := mkA a (tK h n) (tV h n) (tG h n) (tC h n) (tM h n 8 : Int)
theorem tx_end {h : Int → Int} {n : Int} {j : Nat} (h1 : (txF h n j).ok = 1) (h2 : (txF h n (j + 1)).ok = 2) : (txF h n j).pos = n := by
  have e := tx_s h n j
  rw [if_pos h1] at e
  by_cases hp : (txF h n j).pos = n
  · exact hp
  · rw [if_neg hp] at e
    rw [e] at h2
    split at h2
    · have := (npF_r h ((txF h n j).pos + (if blF h (txF h n j) then 1 else 0)) (txF h n j).kd (if blF h (txF h n j) then 1 else 0)).2
      omega
    · have h2 : (0 : Int) = 2 := h2
      omega
theorem iw_mk {a h : Int → Int} {n : Int} (hI : Inv a) (h200 : a 1 ≠ 200) (h2 : (txF h n 8).ok = 2) (ht : 1 ≤ tM h n 8 ∧ tM h n 8 ≤ 8) (hok : ∀ i : Nat, i < tM h n 8 → (txF h n i).ok = 1) (hn : n ≤ 60) : IW (mkB a h n) (a 1) := by
  have hN := hI.n
  have el : lenF (mkB a h n) (a 1) = (tM h n 8 : Int) := ma_l (by omega)
  have ep : ∀ (k : Nat), k < tM h n 8 → prtF (mkB a h n) (a 1) (k : Int) 0 = (txF h n k).kd ∧ prtF (mkB a h n) (a 1) (k : Int) 1 = (txF h n k).v ∧ prtF (mkB a h n) (a 1) (k : Int) 2 = (txF h n k).g ∧ prtF (mkB a h n) (a 1) (k : Int) 3 = (txF h n k).c := fun k hk => by
    rw [ma_p (by omega) (by omega) (by omega) (by omega), ma_p (by omega) (by omega) (by omega) (by omega), ma_p (by omega) (by omega) (by omega) (by omega), ma_p (by omega) (by omega) (by omega) (by omega)]
    refine ⟨?_, ?_, ?_, ?_⟩
    · show (txF h n ((k : Int)).toNat).kd = _
      rw [Int.toNat_natCast]
    · show (txF h n ((k : Int)).toNat).v = _
      rw [Int.toNat_natCast]
    · show (txF h n ((k : Int)).toNat).g = _
      rw [Int.toNat_natCast]
    · show (txF h n ((k : Int)).toNat).c = _
      rw [Int.toNat_natCast]
  have hwl : ∀ k : Nat, k < tM h n 8 → wlF (mkB a h n) (a 1) (k + 1) = (txF h n k).pos := by
    intro k
    induction k with
    | zero =>
      intro hk
      have g := tx_0 (hok 0 hk)
      have e0 := ep 0 hk
      rw [wl_s, if_neg (by omega), e0.1, e0.2.1, e0.2.2.1, e0.2.2.2, g.2.2]
      show 0 + 0 + _ = 0 + _
      omega
    | succ k ih =>
      intro hk
      have ih := ih (by omega)
      have g := tx_g (hok (k + 1) hk)
      have e0 := ep (k + 1) hk
      have e1 := ep k (by omega)
      have hp : pwL (prtF (mkB a h n) (a 1) ((k + 1 : Nat) : Int) 0) (prtF (mkB a h n) (a 1) ((k + 1 : Nat) : Int) 1) (prtF (mkB a h n) (a 1) ((k + 1 : Nat) : Int) 2) (prtF (mkB a h n) (a 1) ((k + 1 : Nat) : Int) 3) = pwL (txF h n (k + 1)).kd (txF h n (k + 1)).v (txF h n (k + 1)).g (txF h n (k + 1)).c := by rw [e0.1, e0.2.1, e0.2.2.1, e0.2.2.2]
      rw [wl_s, ih, hp, g.1.2.2]
      have hj : jnF (mkB a h n) (a 1) ((k + 1 : Nat) : Int) ↔ ¬ blF h (txF h n k) := by
        rw [g.2.2]
        unfold jnF
        rw [show ((k + 1 : Nat) : Int) - 1 = (k : Int) by omega, e0.1, e1.1]
      by_cases hb : blF h (txF h n k)
      · rw [if_pos ⟨by omega, fun z => (hj.mp z) hb⟩, if_pos hb]
      · rw [if_neg (fun z => z.2 (hj.mpr hb)), if_neg hb]
  refine ⟨fun k k0 k1 => ?_, ?_, fun k k0 k1 => ?_⟩
  · rw [el] at k1
    have e0 := ep k.toNat (by omega)
    rw [show ((k.toNat : Nat) : Int) = k by omega] at e0
    rw [e0.1, e0.2.1]
    exact (tx_pv (hok k.toNat (by omega))).2
  · rw [el, Int.toNat_natCast]
    have := hwl (tM h n 8 - 1) (by omega)
    rw [show tM h n 8 - 1 + 1 = tM h n 8 by omega] at this
    rw [this, tx_end (hok (tM h n 8 - 1) (by omega)) (by rw [show tM h n 8 - 1 + 1 = tM h n 8 by omega, tM_t]; exact h2)]
    exact hn
  · rw [el] at k1
    have e0 := ep k.toNat (by omega)
    have e1 := ep (k.toNat + 1) (by omega)
    rw [show ((k.toNat : Nat) : Int) = k by omega] at e0
    rw [show ((k.toNat + 1 : Nat) : Int) = k + 1 by omega] at e1
    rw [e0.1, e1.1]
    exact (tx_g (hok (k.toNat + 1) (by omega))).2.1
theorem invW_mk {a h : Int → Int} {n : Int} (hI : Inv a) (hW : InvW a) (h200 : a 1 ≠ 200) (h2 : (txF h n 8).ok = 2) (ht : 1 ≤ tM h n 8 ∧ tM h n 8 ≤ 8) (hok : ∀ i : Nat, i < tM h n 8 → (txF h n i).ok = 1) (hn : n ≤ 60) : InvW (mkB a h n) := by
  have hN := hI.n
  intro m m0 m1
  rw [show mkB a h n 1 = a 1 + 1 from ma_1] at m1
  by_cases hm : m = a 1
  · subst hm
    exact iw_mk hI h200 h2 ht hok hn
  · have hl := (hI.mv m0 (by omega)).2.1
    exact IW_cg (a := a) (ma_o (by omega) (by omega)) hl.2 (fun k w k0 k1 w0 w1 => ma_o (by omega) (by omega)) (hW m m0 (by omega))
theorem row_pv {h : Int → Int} {n : Int} (hok : ∀ i : Nat, i < tM h n 8 → (txF h n i).ok = 1) : ∀ i, 0 ≤ i → i < (tM h n 8 : Int) → PVal (tK h n i) (tV h n i) (tG h n i) (tC h n i) := fun i i0 i1 => (tx_pv (hok i.toNat (by omega))).1
/-- what mark leaves in the class -/
def CMQ (N : Nat) (P : am_P) (H : am_H) (a h : Int → Int) (n : Int) (v : Option am_V) (σ : am_S) : Prop := ∃ H' : am_H, σ = (N, P, H') ∧ (∀ o, o ≠ 3 → o ≠ 4 → o ≠ 5 → o ≠ 7 → (o < 11 ∨ 13 < o) → H' o = H o) ∧
  ((n < 0 ∨ H 5 1 < n) → v = some (am_i (-3)) ∧ H' 5 1 = H 5 1 ∧ H' 3 2 = -1 ∧ RS H' 10 a) ∧
  ((0 ≤ n ∧ n ≤ H 5 1) → H' 5 1 = 0 ∧
    (((txF h n 8).ok ≠ 2 ∨ 60 < n) → v = some (am_i (-1)) ∧ H' 3 2 = (if (txF h n 8).ok = 2 ∨ 60 < (txF h n 8).pos then 60 else (txF h n 8).pos) ∧ RS H' 10 a) ∧
    (((txF h n 8).ok = 2 ∧ n ≤ 60) → H' 3 2 = -1 ∧ ((1 ≤ tM h n 8 ∧ tM h n 8 ≤ 8) ∧ ∀ i : Nat, i < tM h n 8 → (txF h n i).ok = 1) ∧
      (0 ≤ fnL a (tK h n) (tV h n) (tG h n) (tC h n) (tM h n 8 : Int) (a 1).toNat 0 → v = some (am_i (fnL a (tK h n) (tV h n) (tG h n) (tC h n) (tM h n 8 : Int) (a 1).toNat 0)) ∧ RS H' 10 a) ∧
      ((fnL a (tK h n) (tV h n) (tG h n) (tC h n) (tM h n 8 : Int) (a 1).toNat 0 < 0 ∧ a 1 = 200) → v = some (am_i (-2)) ∧ RS H' 10 a) ∧
      ((fnL a (tK h n) (tV h n) (tG h n) (tC h n) (tM h n 8 : Int) (a 1).toNat 0 < 0 ∧ a 1 ≠ 200) → v = some (am_i (a 1)) ∧ RS H' 10 (mkB a h n))))
theorem RS.fr {H H' : am_H} {a : Int → Int} (hI : Inv a) (hS : RS H 10 a) (hf : ∀ k, 10 ≤ k → k ≤ 36 → H' k = H k) : RS H' 10 a := hS.cg hI (fun k hk => hf _ (by omega) (by omega)) (fun _ _ _ => rfl)

theorem c_Cart_mark {d N : Nat} {P : am_P} {H : am_H} {n : Int} {h : Int → Int} {a : Int → Int} (hP : PZ P) (hI : Inv a) (hW : InvW a) (hS : RS H 10 a) (hHB : 0 ≤ n → n ≤ H 5 1 → HB h H n) : am_C (d + 7) 2 [am_r 3, am_i (n)] (N, P, H) (CMQ N P H a h n) := by
  refine am_enC (d := d + 6) (ml := 4) (ls := [_, _, _, _]) cq_Cart_mark rfl (Nat.le_of_ble_eq_true rfl) rfl ?_
  have hn := hI.n
  have hM := hS.m
  have hT := hS.t
  have hR := hS.r
  have hC := hS.c
  have hG := hS.g
  have t0 : H 14 0 = a 2 := hT.1
  have t4 : H 14 4 = a 3 := hT.2.1
  refine st_aload_n rfl rfl (by decide) ?_
  refine st_iconst rfl ?_
  refine st_putI (kk := 2) rfl rfl rfl rfl ?_
  refine st_iload_n rfl rfl ?_
  refine st_if_lt rfl (fun h4 => ?_) (fun h4 => ?_)
  · refine st_bipush rfl ?_
    refine st_iret rfl (fun z => by first | exact absurd z (by decide) | exact bi_01 _ | decide | omega) ?_
    exact ⟨_, rfl, fun o o1 _ _ _ _ => am_up_ne o1, fun _ => ⟨rfl, rfl, by rw [am_up_eq, am_uf_eq], hS.fr hI (fun k k0 k1 => am_up_ne (by omega))⟩, fun z => by omega⟩
  · refine st_iload_n rfl rfl ?_
    refine st_aload_n rfl rfl (by decide) ?_
    refine st_getR (kk := 0) rfl rfl rfl (pz_3_0 hP) rfl ?_
    refine st_getR (kk := 0) rfl rfl rfl (pz_4_0 hP) rfl ?_
    refine st_getI (kk := 1) rfl rfl (by decide) rfl ?_
    rw [show am_up H 3 2 (-1) 5 1 = H 5 1 from rfl]
    refine st_icmp_le rfl (fun h10 => ?_) (fun h10 => ?_)
    · have hB := hHB (by omega) (by omega)
      have hz : ∀ x, n ≤ x → h x = -1 := fun x hx => by rw [hB.2.1 x (by omega), if_neg (by omega)]
      have hle := tx_le hz (by omega) 8
      have hp0 := (txF_r h n 8).1
      refine st_aload_n rfl rfl (by decide) ?_
      refine st_aload_n rfl rfl (by decide) ?_
      refine st_getR (kk := 0) rfl rfl rfl (pz_3_0 hP) rfl ?_
      refine st_iload_n rfl rfl ?_
      refine st_cvC (w := [_]) rfl rfl rfl (Nat.le_of_ble_eq_true rfl) (Nat.le_of_ble_eq_true rfl) rfl rfl (c_faultOf (H := am_up H 3 2 (-1)) hP ⟨hB.1, fun x x0 => by rw [hB.2.1 x x0]; rfl, hB.2.2⟩ (by omega)) ?_
      rintro v σ ⟨rfl, H2, rfl, f2, gg⟩
      show am_WP _ _ _ _ _ [am_i _, am_r 3] _
      refine st_iload_n rfl rfl ?_
      refine st_cs1 (w := [_]) rfl (by decide) (by decide) (by decide) (Nat.le_of_ble_eq_true rfl) (Nat.le_of_ble_eq_true rfl) rfl rfl (r_Cart_withinText) ?_
      refine st_putI (kk := 2) rfl rfl rfl rfl ?_
      refine st_aload_n rfl rfl (by decide) ?_
      refine st_getR (kk := 0) rfl rfl rfl (pz_3_0 hP) rfl ?_
      refine st_getR (kk := 0) rfl rfl rfl (pz_4_0 hP) rfl ?_
      refine st_iconst rfl ?_
      refine st_putI (kk := 1) rfl rfl rfl rfl ?_
      refine st_aload_n rfl rfl (by decide) ?_
      refine st_getI (kk := 2) rfl rfl (by decide) rfl ?_
      rw [show am_up (am_up H2 3 2 (if 60 < n ∧ ((if (txF h n 8).ok = 2 then (-1 : Int) else (txF h n 8).pos) = -1 ∨ 60 < (if (txF h n 8).ok = 2 then (-1 : Int) else (txF h n 8).pos)) then 60 else (if (txF h n 8).ok = 2 then (-1 : Int) else (txF h n 8).pos))) 5 1 0 3 2 = (if 60 < n ∧ ((if (txF h n 8).ok = 2 then (-1 : Int) else (txF h n 8).pos) = -1 ∨ 60 < (if (txF h n 8).ok = 2 then (-1 : Int) else (txF h n 8).pos)) then 60 else (if (txF h n 8).ok = 2 then (-1 : Int) else (txF h n 8).pos)) by rw [am_up_ne (by decide), am_up_eq, am_uf_eq]]
      by_cases hbad : (txF h n 8).ok ≠ 2 ∨ 60 < n
      case pos =>
        have hw : (if 60 < n ∧ ((if (txF h n 8).ok = 2 then (-1 : Int) else (txF h n 8).pos) = -1 ∨ 60 < (if (txF h n 8).ok = 2 then (-1 : Int) else (txF h n 8).pos)) then 60 else (if (txF h n 8).ok = 2 then (-1 : Int) else (txF h n 8).pos)) = (if (txF h n 8).ok = 2 ∨ 60 < (txF h n 8).pos then 60 else (txF h n 8).pos) := by
          (repeat' split) <;> omega
        rw [hw]
        have hge : 0 ≤ (if (txF h n 8).ok = 2 ∨ 60 < (txF h n 8).pos then (60 : Int) else (txF h n 8).pos) := by split <;> omega
        refine st_iconst rfl ?_
        refine st_icmp_eq rfl (fun h29 => (by exfalso; omega)) (fun h29 => ?_)
        refine st_iconst rfl ?_
        refine st_iret rfl (fun z => by first | exact absurd z (by decide) | exact bi_01 _ | decide | omega) ?_
        refine ⟨_, rfl, fun o o1 o2 o3 o4 o5 => by rw [am_up_ne o3, am_up_ne o1, f2 o o2 o4, am_up_ne o1], fun z => by omega, fun _ => ⟨by rw [am_up_eq, am_uf_eq], fun _ => ⟨rfl, by rw [am_up_ne (by decide), am_up_eq, am_uf_eq], hS.fr hI (fun k k0 k1 => by rw [am_up_ne (by omega), am_up_ne (by omega), f2 k (by omega) (by omega), am_up_ne (by omega)])⟩, fun z => by omega⟩⟩
      rw [show (if 60 < n ∧ ((if (txF h n 8).ok = 2 then (-1 : Int) else (txF h n 8).pos) = -1 ∨ 60 < (if (txF h n 8).ok = 2 then (-1 : Int) else (txF h n 8).pos)) then 60 else (if (txF h n 8).ok = 2 then (-1 : Int) else (txF h n 8).pos)) = -1 by rw [if_pos (show (txF h n 8).ok = 2 by omega), if_neg (by omega)]]
      obtain ⟨g1, g2, g3⟩ := gg (by omega)
      have h42 : (am_up (am_up H2 3 2 (-1)) 5 1 0) 4 2 = (tM h n 8 : Int) := g1
      have hrow : ∀ i, 0 ≤ i → i < (tM h n 8 : Int) → (am_up (am_up H2 3 2 (-1)) 5 1 0) 7 i = pkF (tK h n i) (tV h n i) (tG h n i) (tC h n i) ∧ PVal (tK h n i) (tV h n i) (tG h n i) (tC h n i) := fun i i0 i1 => by
        have q := g3 i.toNat (by omega)
        rw [show ((i.toNat : Nat) : Int) = i by omega] at q
        exact ⟨q.2, (tx_pv q.1).1⟩
      have hS3 : RS (am_up (am_up H2 3 2 (-1)) 5 1 0) 10 a := hS.fr hI (fun k k0 k1 => by rw [am_up_ne (by omega), am_up_ne (by omega), f2 k (by omega) (by omega), am_up_ne (by omega)])
      have hfr := fnL_r a (tK h n) (tV h n) (tG h n) (tC h n) (tM h n 8 : Int) (a 1).toNat 0 (by omega)
      refine st_iconst rfl ?_
      refine st_icmp_eq rfl (fun h29 => ?_) (fun h29 => (by exfalso; omega))
      refine st_aload_n rfl rfl (by decide) ?_
      refine st_getR (kk := 3) rfl rfl rfl (pz_3_3 hP) rfl ?_
      refine st_getR (kk := 0) rfl rfl rfl (pz_10_0 hP) rfl ?_
      refine st_aload_n rfl rfl (by decide) ?_
      refine st_getR (kk := 0) rfl rfl rfl (pz_3_0 hP) rfl ?_
      refine st_getR (kk := 1) rfl rfl rfl (pz_4_1 hP) rfl ?_
      refine st_aload_n rfl rfl (by decide) ?_
      refine st_getR (kk := 0) rfl rfl rfl (pz_3_0 hP) rfl ?_
      refine st_getI (kk := 2) rfl rfl (by decide) rfl ?_
      rw [h42]
      refine st_cv1 (w := []) rfl rfl rfl (Nat.le_of_ble_eq_true rfl) (Nat.le_of_ble_eq_true rfl) rfl rfl (r_Marks_numberOf hP hI hS3.m (by omega) hrow) ?_
      refine st_istore_n (ls' := [_, _, _, _]) rfl (Nat.le_of_ble_eq_true rfl) rfl ?_
      refine st_iload_n rfl rfl ?_
      refine st_iconst rfl ?_
      refine st_icmp_eq rfl (fun h45 => ?_) (fun h45 => ?_)
      · refine st_aload_n rfl rfl (by decide) ?_
        refine st_getR (kk := 3) rfl rfl rfl (pz_3_3 hP) rfl ?_
        refine st_getR (kk := 0) rfl rfl rfl (pz_10_0 hP) rfl ?_
        refine st_aload_n rfl rfl (by decide) ?_
        refine st_getR (kk := 0) rfl rfl rfl (pz_3_0 hP) rfl ?_
        refine st_getR (kk := 1) rfl rfl rfl (pz_4_1 hP) rfl ?_
        refine st_aload_n rfl rfl (by decide) ?_
        refine st_getR (kk := 0) rfl rfl rfl (pz_3_0 hP) rfl ?_
        refine st_getI (kk := 2) rfl rfl (by decide) rfl ?_
        rw [h42]
        refine st_cv1 (w := []) rfl rfl rfl (Nat.le_of_ble_eq_true rfl) (Nat.le_of_ble_eq_true rfl) rfl rfl (r_Marks_make hP hS3.m.1 hn.1 (by omega)) ?_
        refine st_istore_n (ls' := [_, _, _, _]) rfl (Nat.le_of_ble_eq_true rfl) rfl ?_
        refine st_iload_n rfl rfl ?_
        refine st_iconst rfl ?_
        refine st_icmp_ne rfl (fun h61 => ?_) (fun h61 => ?_)
        · refine st_iload_n rfl rfl ?_
          refine st_iret rfl (fun z => by first | exact absurd z (by decide) | exact bi_01 _ | decide | omega) ?_
          by_cases h200 : a 1 = 200
          · first
            | (exfalso; rw [if_neg (show ¬ (a 1 ≠ 200) by omega)] at h61; omega)
            | (rw [if_neg (show ¬ (a 1 ≠ 200) by omega)]
               exact ⟨_, rfl, fun o o1 o2 o3 o4 o5 => by rw [am_up_ne o3, am_up_ne o1, f2 o o2 o4, am_up_ne o1], fun z => by omega, fun _ => ⟨by rw [am_up_eq, am_uf_eq], fun z => by omega, fun _ => ⟨by rw [am_up_ne (by decide), am_up_eq, am_uf_eq], ⟨g2, fun i hi => (g3 i hi).1⟩, fun z => by omega, fun _ => ⟨rfl, hS3⟩, fun z => by omega⟩⟩⟩)
          · first
            | (exfalso; rw [if_pos h200] at h61; omega)
            | (rw [if_pos h200, if_pos h200]
               refine ⟨_, rfl, fun o o1 o2 o3 o4 o5 => by rw [am_up_ne (by omega), am_up_ne (by omega), am_so_ne _ _ (by omega), am_up_ne o3, am_up_ne o1, f2 o o2 o4, am_up_ne o1], fun z => by omega, fun _ => ⟨by rw [am_up_ne (by decide), am_up_ne (by decide), am_so_ne _ _ (by decide), am_up_eq, am_uf_eq], fun z => by omega, fun _ => ⟨by rw [am_up_ne (by decide), am_up_ne (by decide), am_so_ne _ _ (by decide), am_up_ne (by decide), am_up_eq, am_uf_eq], ⟨g2, fun i hi => (g3 i hi).1⟩, fun z => by omega, fun z => by omega, fun _ => ⟨rfl, ?_⟩⟩⟩⟩
               refine RS_mk hI hS3 h200 (by omega) (fun k k0 k1 k2 k3 k4 => by rw [am_up_ne (by omega), am_up_ne (by omega), am_so_ne _ _ (by omega)]) (by rw [am_up_eq, am_uf_eq]) (by rw [am_up_ne (by decide), am_up_eq, am_so_ne _ _ (by decide)]) (fun x => ?_)
               rw [am_up_ne (by decide), am_up_ne (by decide), am_so_at]
               unfold pfy
               rw [Int.toNat_natCast]
               by_cases hx : a 1 * 8 ≤ x ∧ x < a 1 * 8 + (tM h n 8 : Int)
               · rw [if_pos hx, if_pos hx]
                 have q := (hrow (x - a 1 * 8) (by omega) (by omega)).1
                 rw [← q]
                 show (am_up (am_up H2 3 2 (-1)) 5 1 0) 7 (((x - a 1 * 8).toNat : Nat) : Int) = _
                 rw [show ((((x - a 1 * 8).toNat : Nat)) : Int) = x - a 1 * 8 by omega]
               · rw [if_neg hx, if_neg hx])
        · refine st_bipush rfl ?_
          refine st_goto rfl ?_
          refine st_iret rfl (fun z => by first | exact absurd z (by decide) | exact bi_01 _ | decide | omega) ?_
          by_cases h200 : a 1 = 200
          · first
            | (exfalso; rw [if_neg (show ¬ (a 1 ≠ 200) by omega)] at h61; omega)
            | (rw [if_neg (show ¬ (a 1 ≠ 200) by omega)]
               exact ⟨_, rfl, fun o o1 o2 o3 o4 o5 => by rw [am_up_ne o3, am_up_ne o1, f2 o o2 o4, am_up_ne o1], fun z => by omega, fun _ => ⟨by rw [am_up_eq, am_uf_eq], fun z => by omega, fun _ => ⟨by rw [am_up_ne (by decide), am_up_eq, am_uf_eq], ⟨g2, fun i hi => (g3 i hi).1⟩, fun z => by omega, fun _ => ⟨rfl, hS3⟩, fun z => by omega⟩⟩⟩)
          · first
            | (exfalso; rw [if_pos h200] at h61; omega)
            | (rw [if_pos h200, if_pos h200]
               refine ⟨_, rfl, fun o o1 o2 o3 o4 o5 => by rw [am_up_ne (by omega), am_up_ne (by omega), am_so_ne _ _ (by omega), am_up_ne o3, am_up_ne o1, f2 o o2 o4, am_up_ne o1], fun z => by omega, fun _ => ⟨by rw [am_up_ne (by decide), am_up_ne (by decide), am_so_ne _ _ (by decide), am_up_eq, am_uf_eq], fun z => by omega, fun _ => ⟨by rw [am_up_ne (by decide), am_up_ne (by decide), am_so_ne _ _ (by decide), am_up_ne (by decide), am_up_eq, am_uf_eq], ⟨g2, fun i hi => (g3 i hi).1⟩, fun z => by omega, fun z => by omega, fun _ => ⟨rfl, ?_⟩⟩⟩⟩
               refine RS_mk hI hS3 h200 (by omega) (fun k k0 k1 k2 k3 k4 => by rw [am_up_ne (by omega), am_up_ne (by omega), am_so_ne _ _ (by omega)]) (by rw [am_up_eq, am_uf_eq]) (by rw [am_up_ne (by decide), am_up_eq, am_so_ne _ _ (by decide)]) (fun x => ?_)
               rw [am_up_ne (by decide), am_up_ne (by decide), am_so_at]
               unfold pfy
               rw [Int.toNat_natCast]
               by_cases hx : a 1 * 8 ≤ x ∧ x < a 1 * 8 + (tM h n 8 : Int)
               · rw [if_pos hx, if_pos hx]
                 have q := (hrow (x - a 1 * 8) (by omega) (by omega)).1
                 rw [← q]
                 show (am_up (am_up H2 3 2 (-1)) 5 1 0) 7 (((x - a 1 * 8).toNat : Nat) : Int) = _
                 rw [show ((((x - a 1 * 8).toNat : Nat)) : Int) = x - a 1 * 8 by omega]
               · rw [if_neg hx, if_neg hx])
      · refine st_iload_n rfl rfl ?_
        refine st_iret rfl (fun z => by first | exact absurd z (by decide) | exact bi_01 _ | decide | omega) ?_
        exact ⟨_, rfl, fun o o1 o2 o3 o4 o5 => by rw [am_up_ne o3, am_up_ne o1, f2 o o2 o4, am_up_ne o1], fun z => by omega, fun _ => ⟨by rw [am_up_eq, am_uf_eq], fun z => by omega, fun _ => ⟨by rw [am_up_ne (by decide), am_up_eq, am_uf_eq], ⟨g2, fun i hi => (g3 i hi).1⟩, fun _ => ⟨rfl, hS3⟩, fun z => by omega, fun z => by omega⟩⟩⟩
    · refine st_bipush rfl ?_
      refine st_iret rfl (fun z => by first | exact absurd z (by decide) | exact bi_01 _ | decide | omega) ?_
      exact ⟨_, rfl, fun o o1 _ _ _ _ => am_up_ne o1, fun _ => ⟨rfl, rfl, by rw [am_up_eq, am_uf_eq], hS.fr hI (fun k k0 k1 => am_up_ne (by omega))⟩, fun z => by omega⟩
