/-! ===== what always holds is kept ===== -/
theorem InvW_cg {a a' : Int → Int} (hI : Inv a) (h1 : a' 1 = a 1) (h : ∀ k, 70 ≤ k → k < 6670 → a' k = a k) (hW : InvW a) : InvW a' := by
  intro m m0 m1
  have hn := hI.n
  rw [h1] at m1
  obtain ⟨w1, w2, w3⟩ := hW m m0 m1
  have hl := (hI.mv m0 m1).2.1
  have el : lenF a' m = lenF a m := h _ (by omega) (by omega)
  have e : ∀ k w, 0 ≤ k → k < 8 → 0 ≤ w → w < 4 → prtF a' m k w = prtF a m k w := fun k w k0 k1 w0 w1 => h _ (by omega) (by omega)
  refine ⟨fun k k0 k1 => ?_, ?_, fun k k0 k1 => ?_⟩
  · rw [el] at k1
    rw [e k 0 k0 (by omega) (by omega) (by omega), e k 1 k0 (by omega) (by omega) (by omega)]
    exact w1 k k0 k1
  · rw [el]
    have hw : ∀ j : Nat, (j : Int) ≤ lenF a m → wlF a' m j = wlF a m j := by
      intro j
      induction j with
      | zero => intro _; rfl
      | succ j ih =>
        intro hj
        have ih := ih (by omega)
        simp only [wlF]
        have ej : ∀ w, 0 ≤ w → w < 4 → prtF a' m (j : Int) w = prtF a m (j : Int) w := fun w w0 w1 => e _ w (by omega) (by omega) w0 w1
        have hp : pwL (prtF a' m (j : Int) 0) (prtF a' m (j : Int) 1) (prtF a' m (j : Int) 2) (prtF a' m (j : Int) 3) = pwL (prtF a m (j : Int) 0) (prtF a m (j : Int) 1) (prtF a m (j : Int) 2) (prtF a m (j : Int) 3) := by rw [ej 0 (by omega) (by omega), ej 1 (by omega) (by omega), ej 2 (by omega) (by omega), ej 3 (by omega) (by omega)]
        have hc : (0 < j ∧ ¬ jnF a' m (j : Int)) ↔ (0 < j ∧ ¬ jnF a m (j : Int)) := by
          by_cases hj0 : 0 < j
          · have ek : prtF a' m ((j : Int) - 1) 0 = prtF a m ((j : Int) - 1) 0 := e _ 0 (by omega) (by omega) (by omega) (by omega)
            unfold jnF
            rw [ek, ej 0 (by omega) (by omega)]
          · exact ⟨fun z => absurd z.1 hj0, fun z => absurd z.1 hj0⟩
        rw [ih, hp]
        simp only [hc]
    rw [hw _ (by omega)]
    exact w2
  · rw [el] at k1
    rw [e k 0 k0 (by omega) (by omega) (by omega), e (k + 1) 0 (by omega) (by omega) (by omega) (by omega)]
    exact w3 k k0 k1
theorem inv_hd {a a' : Int → Int} (hI : Inv a) (hw : a' 0 = 0 ∨ a' 0 = 1) (e : ∀ k, (1 ≤ k ∧ k ≤ 4) ∨ 67 ≤ k → a' k = a k) (hH : InvH a') : Inv a' := by
  have hn := hI.n
  have e1 := e 1 (by omega)
  have e2 := e 2 (by omega)
  have e3 := e 3 (by omega)
  have e4 := e 4 (by omega)
  exact ⟨hw, InvM_cg e1 (fun k k0 k1 => e k (by omega)) hI.m, InvS_cg e2 e3 (fun k k0 k1 => e k (by omega)) (by omega) hI.s, InvB_cg e1 e2 e3 (fun k k0 k1 => e k (by omega)) (by omega) hI.b, hH, InvL_cg e1 e2 (fun k k0 k1 => e k (by omega)) hI.l, InvG_cg e1 e4 (fun k k0 k1 => e k (by omega)) hI.g⟩
theorem inv_ls {a a' : Int → Int} (hI : Inv a) (e : ∀ k, k < 5 ∨ (67 ≤ k ∧ k < 8782) ∨ 10374 ≤ k → a' k = a k) (hH : InvH a') (hL : InvL a') : Inv a' := by
  have hn := hI.n
  have e1 := e 1 (by omega)
  have e2 := e 2 (by omega)
  have e3 := e 3 (by omega)
  have e4 := e 4 (by omega)
  exact ⟨by rw [e 0 (by omega)]; exact hI.1, InvM_cg e1 (fun k k0 k1 => e k (by omega)) hI.m, InvS_cg e2 e3 (fun k k0 k1 => e k (by omega)) (by omega) hI.s, InvB_cg e1 e2 e3 (fun k k0 k1 => e k (by omega)) (by omega) hI.b, hH, hL, InvG_cg e1 e4 (fun k k0 k1 => e k (by omega)) hI.g⟩
theorem inv_way {a : Int → Int} {w : Int} (hI : Inv a) (hw : 0 ≤ w ∧ w < 2) : Inv (am_uf a 0 w) := by
  refine inv_hd hI ?_ (fun k hk => am_uf_ne _ _ (by omega)) (InvH_cg (am_uf_ne _ _ (by omega)) (am_uf_ne _ _ (by omega)) (fun k k0 k1 => am_uf_ne _ _ (by omega)) hI.h)
  rw [am_uf_eq]; omega
theorem inv_seen {a : Int → Int} {m : Int} (hI : Inv a) (h : 0 ≤ a 5 ∧ (0 ≤ m ∧ m < a 1) ∧ a 6 ≠ 60) : Inv (am_uf (am_uf a (7 + a 6) m) 6 (a 6 + 1)) := by
  have hh := hI.h
  have hh2 := hh.2.1
  have e : ∀ k, k ≠ 6 → k ≠ 7 + a 6 → am_uf (am_uf a (7 + a 6) m) 6 (a 6 + 1) k = a k := fun k k1 k2 => by rw [am_uf_ne _ _ k1, am_uf_ne _ _ k2]
  refine inv_hd hI (by rw [e 0 (by omega) (by omega)]; exact hI.1) (fun k hk => e k (by omega) (by omega)) ⟨by rw [e 5 (by omega) (by omega), e 2 (by omega) (by omega)]; exact hh.1, by rw [am_uf_eq]; omega, fun k k0 k1 => ?_⟩
  rw [am_uf_eq] at k1
  rw [e 1 (by omega) (by omega)]
  by_cases hk : k = a 6
  · rw [hk, am_uf_ne _ _ (by omega), am_uf_eq]
    exact h.2.1
  · rw [e _ (by omega) (by omega)]
    exact hh.2.2 k k0 (by omega)
theorem rnL_o (a : Int → Int) (s : Int) {k : Int} (hk : k < 5 ∨ k = 6 ∨ 67 ≤ k) : ∀ p : Nat, p ≤ 30 → (rnL a s p).2 k = a k
  | 0, _ => am_uf_ne _ _ (by omega)
  | p + 1, h => by
    have ih := rnL_o a s hk p (by omega)
    have hr := rnL_r a s p
    simp only [rnL]
    split
    · exact ih
    · show am_uf _ _ _ _ = _
      rw [am_uf_ne _ _ (by omega)]
      exact ih
theorem rnL_5 (a : Int → Int) (s : Int) : ∀ p : Nat, (rnL a s p).2 5 = s
  | 0 => by show am_uf a 5 s 5 = s; exact am_uf_eq _ _ _
  | p + 1 => by
    have ih := rnL_5 a s p
    have hr := rnL_r a s p
    simp only [rnL]
    split
    · exact ih
    · show am_uf _ _ _ _ = _
      rw [am_uf_ne _ _ (by omega)]
      exact ih
theorem rnL_m {a : Int → Int} (hI : Inv a) {s : Int} (hs : 0 ≤ s ∧ s < a 2) : ∀ p : Nat, p ≤ 30 → ∀ k, 0 ≤ k → k < (rnL a s p).1 → 0 ≤ (rnL a s p).2 (7 + k) ∧ (rnL a s p).2 (7 + k) < a 1
  | 0, _, k, k0, k1 => by simp only [rnL] at k1; omega
  | p + 1, h, k, k0, k1 => by
    have ih := rnL_m hI hs p (by omega)
    have hr := rnL_r a s p
    have hth := hI.th hs.1 hs.2 (p := (p : Int)) (by omega) (by omega)
    have hn := hI.n
    have hsp : rnL a s (p + 1) = if thgF a s (p : Int) < 0 then rnL a s p else ((rnL a s p).1 + 1, am_uf (rnL a s p).2 (7 + (rnL a s p).1) (mkF a (thgF a s (p : Int)))) := rfl
    rw [hsp] at k1 ⊢
    split at k1
    · rename_i hz
      rw [if_pos hz]
      exact ih k k0 k1
    · rename_i hz
      rw [if_neg hz]
      show 0 ≤ am_uf _ _ _ _ ∧ am_uf _ _ _ _ < _
      have k1 : k < (rnL a s p).1 + 1 := k1
      by_cases hk : k = (rnL a s p).1
      · rw [hk, am_uf_eq]
        have hb := bo_mod hth (by omega) (by omega)
        have := (hI.b.2 _ hb.2.1 hb.2.2).2.1
        unfold mkF
        rw [← hb.1]
        exact this
      · rw [am_uf_ne _ _ (by omega)]
        exact ih k k0 (by omega)
theorem inv_run {a : Int → Int} {s w : Int} (hI : Inv a) (hs : 0 ≤ s ∧ s < a 2) : Inv (rnF a s w) := by
  have hh := hI.h
  unfold rnF
  split
  · have e : ∀ k, k ≠ 5 → k ≠ 6 → am_uf (am_uf a 5 s) 6 0 k = a k := fun k k1 k2 => by rw [am_uf_ne _ _ k2, am_uf_ne _ _ k1]
    refine inv_hd hI (by rw [e 0 (by omega) (by omega)]; exact hI.1) (fun k hk => e k (by omega) (by omega)) ⟨by rw [am_uf_ne _ _ (by omega), am_uf_eq, e 2 (by omega) (by omega)]; omega, by rw [am_uf_eq]; omega, fun k k0 k1 => ?_⟩
    rw [am_uf_eq] at k1
    omega
  · have hr := rnL_r a s 30
    refine inv_hd hI (by rw [am_uf_ne _ _ (by omega), rnL_o a s (by omega) 30 (Nat.le_refl _)]; exact hI.1) (fun k hk => by rw [am_uf_ne _ _ (by omega), rnL_o a s (by omega) 30 (Nat.le_refl _)]) ⟨by rw [am_uf_ne _ _ (by omega), rnL_5, am_uf_ne _ _ (by omega), rnL_o a s (by omega) 30 (Nat.le_refl _)]; omega, by rw [am_uf_eq]; omega, fun k k0 k1 => ?_⟩
    rw [am_uf_eq] at k1
    rw [am_uf_ne _ _ (by omega), am_uf_ne _ _ (by omega), rnL_o a s (k := 1) (by omega) 30 (Nat.le_refl _)]
    exact rnL_m hI hs 30 (Nat.le_refl _) k k0 k1
theorem inv_list {a : Int → Int} {m s : Int} (hI : Inv a) (h : (0 ≤ m ∧ m < a 1) ∧ 0 ≤ s ∧ s < a 2) : Inv (am_uf a (8782 + m) s) := by
  have hn := hI.n
  have e : ∀ k, k ≠ 8782 + m → am_uf a (8782 + m) s k = a k := fun k hk => am_uf_ne _ _ hk
  refine inv_ls hI (fun k hk => e k (by omega)) (InvH_cg (e 1 (by omega)) (e 2 (by omega)) (fun k k0 k1 => e k (by omega)) hI.h) ⟨fun x x0 x1 => ?_, fun t t0 t1 => ?_⟩
  · have z := hI.l.1 x x0 x1
    rw [e 1 (by omega), e 2 (by omega), e (8982 + x) (by omega), e (9182 + x) (by omega)]
    by_cases hx : x = m
    · rw [hx, am_uf_eq]
      rw [hx] at z
      exact ⟨by omega, by omega, z.2.2⟩
    · rw [e _ (by omega)]
      exact z
  · have z := hI.l.2 t t0 t1
    rw [e 1 (by omega), e _ (by omega), e _ (by omega)]
    refine ⟨z.1, z.2.1, fun k k0 k1 => ?_⟩
    rw [e _ (by omega)]
    exact z.2.2 k k0 k1
theorem inv_forget {a : Int → Int} {m : Int} (hI : Inv a) (h : 0 ≤ m ∧ m < a 1) : Inv (am_uf (am_uf (am_uf a (8782 + m) (-1)) (8982 + m) 0) (9182 + m) 0) := by
  have hn := hI.n
  have e : ∀ k, k ≠ 8782 + m → k ≠ 8982 + m → k ≠ 9182 + m → am_uf (am_uf (am_uf a (8782 + m) (-1)) (8982 + m) 0) (9182 + m) 0 k = a k := fun k k1 k2 k3 => by rw [am_uf_ne _ _ k3, am_uf_ne _ _ k2, am_uf_ne _ _ k1]
  refine inv_ls hI (fun k hk => e k (by omega) (by omega) (by omega)) (InvH_cg (e 1 (by omega) (by omega) (by omega)) (e 2 (by omega) (by omega) (by omega)) (fun k k0 k1 => e k (by omega) (by omega) (by omega)) hI.h) ⟨fun x x0 x1 => ?_, fun t t0 t1 => ?_⟩
  · have z := hI.l.1 x x0 x1
    rw [e 1 (by omega) (by omega) (by omega), e 2 (by omega) (by omega) (by omega)]
    by_cases hx : x = m
    · rw [hx, am_uf_eq, am_uf_ne _ _ (by omega), am_uf_ne _ _ (by omega), am_uf_eq, am_uf_ne _ _ (by omega), am_uf_eq]
      exact ⟨by omega, by omega, Or.inl ⟨rfl, rfl⟩⟩
    · rw [e (8782 + x) (by omega) (by omega) (by omega), e (8982 + x) (by omega) (by omega) (by omega), e (9182 + x) (by omega) (by omega) (by omega)]
      exact z
  · have z := hI.l.2 t t0 t1
    rw [e 1 (by omega) (by omega) (by omega), e _ (by omega) (by omega) (by omega), e _ (by omega) (by omega) (by omega)]
    refine ⟨z.1, z.2.1, fun k k0 k1 => ?_⟩
    rw [e _ (by omega) (by omega) (by omega)]
    exact z.2.2 k k0 k1
theorem dn2_o {a : Int → Int} (hI : Inv a) {k : Int} (h5 : 0 ≤ a 5) (hk : k ≠ 5) (hk2 : k < 9382 ∨ 10374 ≤ k) : dn2 a k = a k := by
  have hh := hI.h.1
  have hh2 := hI.h.2.1
  have hn := hI.n
  unfold dn2 cpF dn1
  rw [am_uf_ne _ _ hk, if_neg (by omega), am_uf_ne _ _ (by omega), am_uf_ne _ _ (by omega)]
theorem inv_done {a : Int → Int} (hI : Inv a) (h5 : 0 ≤ a 5) : Inv (dnS (dn2 a) (a 5) (a 1)) := by
  have hn := hI.n
  have hL := InvL_dn2 hI h5
  have hL2 := InvL_dn (s := a 5) hL (a 1).toNat (by omega)
  rw [show (((a 1).toNat : Nat) : Int) = a 1 by omega] at hL2
  have e : ∀ k, k ≠ 5 → k < 8782 ∨ 10374 ≤ k → dnS (dn2 a) (a 5) (a 1) k = a k := fun k k1 k2 => by rw [dnS_k _ _ _ (by omega) (by omega), dn2_o hI h5 k1 (by omega)]
  have e5 : dnS (dn2 a) (a 5) (a 1) 5 = -1 := by rw [dnS_k _ _ _ (by omega) (by omega)]; unfold dn2; rw [am_uf_eq]
  refine inv_ls hI (fun k hk => e k (by omega) (by omega)) ⟨by rw [e5, e 2 (by omega) (by omega)]; omega, by rw [e 6 (by omega) (by omega)]; exact hI.h.2.1, fun k k0 k1 => ?_⟩ hL2
  have hh2 := hI.h.2.1
  rw [e 6 (by omega) (by omega)] at k1
  rw [e _ (by omega) (by omega), e 1 (by omega) (by omega)]
  exact hI.h.2.2 k k0 k1
theorem dnS_ext {a : Int → Int} (hI : Inv a) (h5 : 0 ≤ a 5) : dnS (dn2 a) (a 5) 200 = dnS (dn2 a) (a 5) (a 1) := by
  have hn := hI.n
  have hh := hI.h.1
  have hL := InvL_dn2 hI h5
  have e1 : dn2 a 1 = a 1 := dn2_o hI h5 (by omega) (by omega)
  have hof : ∀ m, a 1 ≤ m → m < 200 → ofF (dn2 a) (a 5) m = 0 := by
    intro m m0 m1
    have z := hL.2 (a 5) h5 (by omega)
    have : ∀ j : Nat, (j : Int) ≤ dn2 a (9382 + 62 * a 5 + 1) → ofL (dn2 a) (a 5) m j = 0 := by
      intro j
      induction j with
      | zero => intro _; rfl
      | succ j ih =>
        intro hj
        have := z.2.2 (j : Int) (by omega) (by omega)
        simp only [ofL]
        rw [ih (by omega), bi_f (by omega)]
        rfl
    exact this _ (by omega)
  have hls : ∀ m, a 1 ≤ m → m < 200 → dn2 a (8782 + m) = -1 := fun m m0 m1 => (hL.1 m (by omega) m1).2.1 (by omega)
  funext k
  unfold dnS
  by_cases h1 : 8982 ≤ k ∧ k < 8982 + a 1
  · rw [if_pos (by omega), if_pos h1]
  · by_cases h2 : 8982 ≤ k ∧ k < 8982 + 200
    · rw [if_pos h2, if_neg h1, if_neg (by omega)]
      unfold nlF
      rw [if_neg (by rw [hof _ (by omega) (by omega)]; omega), if_neg (by rw [hls _ (by omega) (by omega)]; omega)]
      congr 1
      omega
    · rw [if_neg h2, if_neg h1]
      by_cases h3 : 9182 ≤ k ∧ k < 9182 + a 1
      · rw [if_pos (by omega), if_pos h3]
      · by_cases h4 : 9182 ≤ k ∧ k < 9182 + 200
        · rw [if_pos h4, if_neg h3]
          unfold nfF
          rw [if_neg (by rw [hof _ (by omega) (by omega)]; omega), if_neg (by rw [hls _ (by omega) (by omega)]; omega)]
          congr 1
          omega
        · rw [if_neg h4, if_neg h3]
theorem goL_cg {a a' : Int → Int} {s : Int} (hs : 0 ≤ s ∧ s < 16) (hl : a (9382 + 62 * s + 1) ≤ 60) (g : ∀ k, (8782 ≤ k ∧ k < 8982) ∨ (9382 ≤ k ∧ k < 10374) → a' k = a k) : ∀ j : Nat, j ≤ 200 → goL a' s j = goL a s j
  | 0, _ => rfl
  | j + 1, h => by
    simp only [goL]
    rw [goL_cg hs hl g j (by omega), ofF_cg hs hl (fun k k0 k1 => g k (by omega)), g _ (by omega)]
theorem goL_ext {a : Int → Int} {s : Int} (hs : 0 ≤ s) (h : ∀ m, a 1 ≤ m → m < 200 → a (8782 + m) = -1) (h1 : 0 ≤ a 1) : ∀ j : Nat, (a 1).toNat + j ≤ 200 → goL a s ((a 1).toNat + j) = goL a s (a 1).toNat
  | 0, _ => rfl
  | j + 1, hj => by
    have ih := goL_ext hs h h1 j (by omega)
    show goL a s ((a 1).toNat + j + 1) = _
    simp only [goL]
    rw [if_neg (by rw [h _ (by omega) (by omega)]; omega)]
    exact ih
theorem inv_grow {a : Int → Int} {x y z : Int} (hI : Inv a) (h : a 4 ≠ 12 ∧ (0 ≤ x ∧ x < a 1) ∧ (0 ≤ y ∧ y < a 1) ∧ 0 ≤ cmpF a y x 0 ∧ 1 ≤ z ∧ z ≤ 1000) : Inv (am_uf (am_uf (am_uf (am_uf a (10374 + 3 * a 4) x) (10374 + 3 * a 4 + 1) y) (10374 + 3 * a 4 + 2) z) 4 (a 4 + 1)) := by
  have hn := hI.n
  have e : ∀ k, k ≠ 4 → (k < 10374 + 3 * a 4 ∨ 10374 + 3 * a 4 + 2 < k) → am_uf (am_uf (am_uf (am_uf a (10374 + 3 * a 4) x) (10374 + 3 * a 4 + 1) y) (10374 + 3 * a 4 + 2) z) 4 (a 4 + 1) k = a k := fun k k1 k2 => by rw [am_uf_ne _ _ k1, am_uf_ne _ _ (by omega), am_uf_ne _ _ (by omega), am_uf_ne _ _ (by omega)]
  have e1 := e 1 (by omega) (by omega)
  have e2 := e 2 (by omega) (by omega)
  have e3 := e 3 (by omega) (by omega)
  refine ⟨by rw [e 0 (by omega) (by omega)]; exact hI.1, InvM_cg e1 (fun k k0 k1 => e k (by omega) (by omega)) hI.m, InvS_cg e2 e3 (fun k k0 k1 => e k (by omega) (by omega)) (by omega) hI.s, InvB_cg e1 e2 e3 (fun k k0 k1 => e k (by omega) (by omega)) (by omega) hI.b, InvH_cg e1 e2 (fun k k0 k1 => e k (by omega) (by omega)) hI.h, InvL_cg e1 e2 (fun k k0 k1 => e k (by omega) (by omega)) hI.l, by rw [am_uf_eq]; omega, fun g g0 g1 => ?_⟩
  rw [am_uf_eq] at g1
  rw [e1]
  by_cases hg : g = a 4
  · rw [hg, am_uf_ne _ _ (by omega), am_uf_ne _ _ (by omega), am_uf_ne _ _ (by omega), am_uf_eq, am_uf_ne _ _ (by omega), am_uf_ne _ _ (by omega), am_uf_eq, am_uf_ne _ _ (by omega), am_uf_eq]
    exact ⟨h.2.1, h.2.2.1, h.2.2.2.2⟩
  · rw [e _ (by omega) (by omega), e _ (by omega) (by omega), e _ (by omega) (by omega)]
    exact hI.g.2 g g0 (by omega)
theorem sh_k {a : Int → Int} {w h : Int} (h2 : 0 ≤ a 2 ∧ a 2 < 16) {k : Int} (hk : k ≠ 2) (hk2 : k < 6670 + 32 * a 2 ∨ 6670 + 32 * a 2 + 32 ≤ k) : shF a w h k = a k := by
  unfold shF fillF
  rw [am_uf_ne _ _ hk, if_neg (by omega), am_uf_ne _ _ (by omega), am_uf_ne _ _ (by omega)]
theorem sh_2 {a : Int → Int} {w h : Int} : shF a w h 2 = a 2 + 1 := by unfold shF; rw [am_uf_eq]
theorem sh_w {a : Int → Int} {w h : Int} (h2 : 0 ≤ a 2 ∧ a 2 < 16) : shF a w h (6670 + 32 * a 2) = w ∧ shF a w h (6670 + 32 * a 2 + 1) = h := by
  unfold shF fillF
  rw [am_uf_ne _ _ (by omega), if_neg (by omega), am_uf_ne _ _ (by omega), am_uf_eq, am_uf_ne _ _ (by omega), if_neg (by omega), am_uf_eq]
  exact ⟨rfl, rfl⟩
theorem sh_t {a : Int → Int} {w h p : Int} (h2 : 0 ≤ a 2 ∧ a 2 < 16) (hp : 0 ≤ p ∧ p < 30) : thgF (shF a w h) (a 2) p = -1 := by
  unfold thgF shF fillF
  rw [am_uf_ne _ _ (by omega), if_pos (by omega)]
theorem inv_shelf {a : Int → Int} {w h : Int} (hI : Inv a) (h16 : a 2 ≠ 16) (hw : 100 ≤ w ∧ w ≤ 2000) (hh : h = 0 ∨ h = 1) : Inv (shF a w h) := by
  have hn := hI.n
  have h2 : 0 ≤ a 2 ∧ a 2 < 16 := by omega
  have e : ∀ k, k ≠ 2 → (k < 6670 + 32 * a 2 ∨ 6670 + 32 * a 2 + 32 ≤ k) → shF a w h k = a k := fun k k1 k2 => sh_k h2 k1 k2
  have e1 := e 1 (by omega) (by omega)
  have e3 := e 3 (by omega) (by omega)
  have e2 : shF a w h 2 = a 2 + 1 := sh_2
  have et : ∀ s p, 0 ≤ s → s < a 2 → 0 ≤ p → p < 30 → thgF (shF a w h) s p = thgF a s p := fun s p s0 s1 p0 p1 => e _ (by omega) (by omega)
  have eb : ∀ b v, 0 ≤ b → 0 ≤ v → bkF (shF a w h) b v = bkF a b v := fun b v b0 v0 => e _ (by omega) (by omega)
  have es : ∀ s, 0 ≤ s → s < a 2 → shF a w h (6670 + 32 * s + 1) = a (6670 + 32 * s + 1) := fun s s0 s1 => e _ (by omega) (by omega)
  refine ⟨by rw [e 0 (by omega) (by omega)]; exact hI.1, InvM_cg e1 (fun k k0 k1 => e k (by omega) (by omega)) hI.m, ⟨by omega, fun s s0 s1 => ?_, fun s p s0 s1 p0 p1 => ?_⟩, ⟨by rw [e3]; exact hI.b.1, fun b b0 b1 => ?_⟩, ⟨?_, ?_, ?_⟩, ⟨fun m m0 m1 => ?_, fun t t0 t1 => ?_⟩, InvG_cg e1 (e 4 (by omega) (by omega)) (fun k k0 k1 => e k (by omega) (by omega)) hI.g⟩
  · rw [e2] at s1
    by_cases hs : s = a 2
    · rw [hs, (sh_w h2).1, (sh_w h2).2]; exact ⟨hw, hh⟩
    · rw [e _ (by omega) (by omega), es s s0 (by omega)]
      exact hI.s.2.1 s s0 (by omega)
  · rw [e2] at s1
    by_cases hs : s = a 2
    · rw [hs, sh_t h2 ⟨p0, p1⟩]; exact Or.inl rfl
    · have z := hI.s.2.2 s p s0 (by omega) p0 p1
      rw [et s p s0 (by omega) p0 p1, e3]
      rcases z with z | ⟨z1, z2, z3⟩ | ⟨z1, z2, z3⟩
      · exact Or.inl z
      · refine Or.inr (Or.inl ⟨z1, z2, ?_⟩)
        rw [eb _ _ z1 (by omega), eb _ _ z1 (by omega)]; exact z3
      · refine Or.inr (Or.inr ⟨z1, z2, ?_⟩)
        rw [eb _ _ (by omega) (by omega), eb _ _ (by omega) (by omega)]; exact z3
  · rw [e3] at b1
    obtain ⟨q0, q1, q2, q3, q4⟩ := hI.b.2 b b0 b1
    unfold InvB1
    rw [eb b 0 b0 (by omega), eb b 1 b0 (by omega), eb b 2 b0 (by omega), eb b 4 b0 (by omega), eb b 5 b0 (by omega), eb b 6 b0 (by omega), eb b 7 b0 (by omega), e1, e2]
    refine ⟨q0, q1, q2, ?_, ?_⟩
    · rcases q3 with q3 | ⟨r1, r2, r3, r4⟩
      · exact Or.inl q3
      · refine Or.inr ⟨by omega, r2, ?_, ?_⟩
        · rw [et _ _ r1.1 r1.2 r2.1 r2.2]; exact r3
        · rw [es _ r1.1 r1.2]; exact r4
    · rcases q4 with q4 | ⟨r1, r2, r3, r4⟩
      · exact Or.inl q4
      · refine Or.inr ⟨by omega, r2, ?_, ?_⟩
        · rw [et _ _ r1.1 r1.2 r2.1 r2.2]; exact r3
        · rw [es _ r1.1 r1.2]; exact r4
  · rw [e 5 (by omega) (by omega), e2]
    have := hI.h.1
    omega
  · rw [e 6 (by omega) (by omega)]; exact hI.h.2.1
  · intro k k0 k1
    have hh2 := hI.h.2.1
    rw [e 6 (by omega) (by omega)] at k1
    rw [e _ (by omega) (by omega), e1]
    exact hI.h.2.2 k k0 k1
  · have z := hI.l.1 m m0 m1
    rw [e (8782 + m) (by omega) (by omega), e (8982 + m) (by omega) (by omega), e (9182 + m) (by omega) (by omega), e1, e2]
    exact ⟨by omega, z.2.1, z.2.2⟩
  · have z := hI.l.2 t t0 t1
    rw [e1, e _ (by omega) (by omega), e _ (by omega) (by omega)]
    refine ⟨z.1, z.2.1, fun k k0 k1 => ?_⟩
    rw [e _ (by omega) (by omega)]
    exact z.2.2 k k0 k1
theorem bg_k {a : Int → Int} {kd m w l : Int} (h3 : 0 ≤ a 3 ∧ a 3 < 200) {k : Int} (hk : k ≠ 3) (hk2 : k < 7182 + 8 * a 3 ∨ 7182 + 8 * a 3 + 8 ≤ k) : bkG a kd m w l k = a k := by
  unfold bkG fillF bkN
  rw [am_uf_ne _ _ hk, if_neg (by omega), am_uf_ne _ _ (by omega), am_uf_ne _ _ (by omega), am_uf_ne _ _ (by omega), am_uf_ne _ _ (by omega)]
theorem bg_3 {a : Int → Int} {kd m w l : Int} : bkG a kd m w l 3 = a 3 + 1 := by unfold bkG; rw [am_uf_eq]
theorem bg_n {a : Int → Int} {kd m w l : Int} (h3 : 0 ≤ a 3 ∧ a 3 < 200) : bkF (bkG a kd m w l) (a 3) 0 = kd ∧ bkF (bkG a kd m w l) (a 3) 1 = m ∧ bkF (bkG a kd m w l) (a 3) 2 = w ∧ bkF (bkG a kd m w l) (a 3) 3 = (if kd = 2 then l else 0) ∧ ∀ v, 4 ≤ v → v < 8 → bkF (bkG a kd m w l) (a 3) v = -1 := by
  unfold bkF bkG fillF bkN
  refine ⟨?_, ?_, ?_, ?_, fun v v0 v1 => ?_⟩
  · rw [am_uf_ne _ _ (by omega), if_neg (by omega), am_uf_ne _ _ (by omega), am_uf_ne _ _ (by omega), am_uf_ne _ _ (by omega), Int.add_zero, am_uf_eq]
  · rw [am_uf_ne _ _ (by omega), if_neg (by omega), am_uf_ne _ _ (by omega), am_uf_ne _ _ (by omega), am_uf_eq]
  · rw [am_uf_ne _ _ (by omega), if_neg (by omega), am_uf_ne _ _ (by omega), am_uf_eq]
  · rw [am_uf_ne _ _ (by omega), if_neg (by omega), am_uf_eq]
  · rw [am_uf_ne _ _ (by omega), if_pos (by omega)]
theorem inv_book {a : Int → Int} {kd m w l : Int} (hI : Inv a) (hO : bkO a kd m w l) : Inv (bkG a kd m w l) := by
  have hn := hI.n
  obtain ⟨o1, o2, o3, o4, o5⟩ := hO
  have h3 : 0 ≤ a 3 ∧ a 3 < 200 := by omega
  have e : ∀ k, k ≠ 3 → (k < 7182 + 8 * a 3 ∨ 7182 + 8 * a 3 + 8 ≤ k) → bkG a kd m w l k = a k := fun k k1 k2 => bg_k h3 k1 k2
  have e1 := e 1 (by omega) (by omega)
  have e2 := e 2 (by omega) (by omega)
  have e3 : bkG a kd m w l 3 = a 3 + 1 := bg_3
  have et : ∀ s p, 0 ≤ s → s < 16 → 0 ≤ p → p < 30 → thgF (bkG a kd m w l) s p = thgF a s p := fun s p s0 s1 p0 p1 => e _ (by omega) (by omega)
  have eb : ∀ b v, 0 ≤ b → b < a 3 → 0 ≤ v → v < 8 → bkF (bkG a kd m w l) b v = bkF a b v := fun b v b0 b1 v0 v1 => e _ (by omega) (by omega)
  have es : ∀ s, 0 ≤ s → s < 16 → bkG a kd m w l (6670 + 32 * s + 1) = a (6670 + 32 * s + 1) := fun s s0 s1 => e _ (by omega) (by omega)
  obtain ⟨n0, n1, n2, n3, n4⟩ := bg_n (kd := kd) (m := m) (w := w) (l := l) h3
  refine ⟨by rw [e 0 (by omega) (by omega)]; exact hI.1, InvM_cg e1 (fun k k0 k1 => e k (by omega) (by omega)) hI.m, ⟨by rw [e2]; exact hI.s.1, fun s s0 s1 => ?_, fun s p s0 s1 p0 p1 => ?_⟩, ⟨by omega, fun b b0 b1 => ?_⟩, InvH_cg e1 e2 (fun k k0 k1 => e k (by omega) (by omega)) hI.h, InvL_cg e1 e2 (fun k k0 k1 => e k (by omega) (by omega)) hI.l, InvG_cg e1 (e 4 (by omega) (by omega)) (fun k k0 k1 => e k (by omega) (by omega)) hI.g⟩
  · rw [e2] at s1
    rw [e _ (by omega) (by omega), es s s0 (by omega)]
    exact hI.s.2.1 s s0 s1
  · rw [e2] at s1
    have z := hI.s.2.2 s p s0 s1 p0 p1
    rw [et s p s0 (by omega) p0 p1, e3]
    rcases z with z | ⟨z1, z2, z3⟩ | ⟨z1, z2, z3⟩
    · exact Or.inl z
    · refine Or.inr (Or.inl ⟨z1, by omega, ?_⟩)
      rw [eb _ _ z1 z2 (by omega) (by omega), eb _ _ z1 z2 (by omega) (by omega)]; exact z3
    · refine Or.inr (Or.inr ⟨z1, by omega, ?_⟩)
      rw [eb _ _ (by omega) (by omega) (by omega) (by omega), eb _ _ (by omega) (by omega) (by omega) (by omega)]; exact z3
  · rw [e3] at b1
    unfold InvB1
    by_cases hb : b = a 3
    · rw [hb, n0, n1, n2, n4 4 (by omega) (by omega), n4 5 (by omega) (by omega), n4 6 (by omega) (by omega), n4 7 (by omega) (by omega), e1]
      exact ⟨by omega, o2, o4, Or.inl ⟨rfl, rfl⟩, Or.inl ⟨rfl, rfl⟩⟩
    · have b2 : b < a 3 := by omega
      obtain ⟨q0, q1, q2, q3, q4⟩ := hI.b.2 b b0 b2
      rw [eb b 0 b0 b2 (by omega) (by omega), eb b 1 b0 b2 (by omega) (by omega), eb b 2 b0 b2 (by omega) (by omega), eb b 4 b0 b2 (by omega) (by omega), eb b 5 b0 b2 (by omega) (by omega), eb b 6 b0 b2 (by omega) (by omega), eb b 7 b0 b2 (by omega) (by omega), e1, e2]
      refine ⟨q0, q1, q2, ?_, ?_⟩
      · rcases q3 with q3 | ⟨r1, r2, r3, r4⟩
        · exact Or.inl q3
        · refine Or.inr ⟨r1, r2, ?_, ?_⟩
          · rw [et _ _ r1.1 (by omega) r2.1 r2.2]; exact r3
          · rw [es _ r1.1 (by omega)]; exact r4
      · rcases q4 with q4 | ⟨r1, r2, r3, r4⟩
        · exact Or.inl q4
        · refine Or.inr ⟨r1, r2, ?_, ?_⟩
          · rw [et _ _ r1.1 (by omega) r2.1 r2.2]; exact r3
          · rw [es _ r1.1 (by omega)]; exact r4

