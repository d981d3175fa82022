/-! ===== the class: what stands on a floor ===== -/
theorem php : ∀ (m n : Nat) (g : Nat → Nat), (∀ i, i < n → g i < m) → (∀ i j, i < n → j < n → g i = g j → i = j) → n ≤ m
  | 0, n, g, h1, _ => by
    rcases Nat.eq_zero_or_pos n with h | h
    · omega
    · exact absurd (h1 0 h) (Nat.not_lt_zero _)
  | m + 1, 0, g, _, _ => Nat.zero_le _
  | m + 1, n + 1, g, h1, h2 => by
    have := php m n (fun i => if g i = m then g n else g i) (fun i hi => by
      have a1 := h1 i (by omega)
      have a2 := h1 n (by omega)
      show (if g i = m then g n else g i) < m
      split
      · rename_i hm
        have : g n ≠ m := fun z => by
          have := h2 i n (by omega) (by omega) (by omega)
          omega
        omega
      · omega) (fun i j hi hj he => by
      have he : (if g i = m then g n else g i) = (if g j = m then g n else g j) := he
      by_cases hi2 : g i = m
      · by_cases hj2 : g j = m
        · exact h2 i j (by omega) (by omega) (by omega)
        · rw [if_pos hi2, if_neg hj2] at he
          have := h2 n j (by omega) (by omega) he
          omega
      · by_cases hj2 : g j = m
        · rw [if_neg hi2, if_pos hj2] at he
          have := h2 i n (by omega) (by omega) he
          omega
        · rw [if_neg hi2, if_neg hj2] at he
          exact h2 i j (by omega) (by omega) he)
    omega
theorem gW_inj {a : Int → Int} (hI : Inv a) {f l : Int} (h0 : 0 ≤ f) (hl : l < a 2) {u v : Nat} (hu : u < shT f l) (hv : v < shT f l) (hu0 : 0 ≤ gW a f u) (he : gW a f u = gW a f v) : u = v := by
  have hn := hI.n
  unfold shT at hu hv
  have pu := hI.s.2.2 (f + ((u / 30 : Nat) : Int)) ((u % 30 : Nat) : Int) (by omega) (by omega) (by omega) (by omega)
  have pv := hI.s.2.2 (f + ((v / 30 : Nat) : Int)) ((v % 30 : Nat) : Int) (by omega) (by omega) (by omega) (by omega)
  have eu : gW a f u = thgF a (f + ((u / 30 : Nat) : Int)) ((u % 30 : Nat) : Int) := rfl
  have ev : gW a f v = thgF a (f + ((v / 30 : Nat) : Int)) ((v % 30 : Nat) : Int) := rfl
  rw [← eu] at pu
  rw [← ev, ← he] at pv
  have : u / 30 = v / 30 ∧ u % 30 = v % 30 := by
    rcases pu with p | ⟨p1, p2, p3, p4⟩ | ⟨p1, p2, p3, p4⟩ <;> rcases pv with q | ⟨q1, q2, q3, q4⟩ | ⟨q1, q2, q3, q4⟩ <;> omega
  omega
theorem sh_200 {a : Int → Int} (hI : Inv a) {f l : Int} (h0 : 0 ≤ f) (hl : l < a 2) (hz : ∀ s, f ≤ s → s ≤ l → a (6670 + 32 * s + 1) ≠ 1) : shN a f l ≤ 200 := by
  have hn := hI.n
  have key : ∀ i : Nat, i < shN a f l → 0 ≤ shI a f l (i : Int) % 1000 ∧ shI a f l (i : Int) % 1000 < a 3 := fun i hi => by
    obtain ⟨u, -, -, e, -, hb, -⟩ := sh_thing hI h0 hl hz (x := (i : Int)) (by omega) (by omega)
    rw [e]; exact hb
  have := php 200 (shN a f l) (fun i => (shI a f l (i : Int) % 1000).toNat) (fun i hi => by
    have := key i hi
    show (shI a f l (i : Int) % 1000).toNat < 200
    omega) (fun i j hi hj he => by
    have ki := key i hi
    have kj := key j hj
    have he : (shI a f l (i : Int) % 1000).toNat = (shI a f l (j : Int) % 1000).toNat := he
    have he : shI a f l (i : Int) % 1000 = shI a f l (j : Int) % 1000 := by omega
    obtain ⟨u, hu, gu, eu, u0, ub, u4, u6, ue⟩ := sh_thing hI h0 hl hz (x := (i : Int)) (by omega) (by omega)
    obtain ⟨v, hv, gv, ev, v0, vb, v4, v6, ve⟩ := sh_thing hI h0 hl hz (x := (j : Int)) (by omega) (by omega)
    rw [eu, ev] at he
    have hw : gW a f u = gW a f v := by
      rcases foF_r (gW a f u) with x | x <;> rcases foF_r (gW a f v) with y | y
      · rw [if_pos x] at ue
        rw [if_pos y] at ve
        omega
      · exact absurd (by rw [he]; exact v6 y) (u4 x)
      · exact absurd (by rw [← he]; exact u6 x) (v4 y)
      · rw [if_neg (by omega)] at ue
        rw [if_neg (by omega)] at ve
        omega
    have huv := gW_inj hI h0 hl hu hv u0 hw
    rw [huv, gv] at gu
    omega)
  omega
theorem gN_shN {a : Int → Int} {f l : Int} : (shN a f l : Int) = gN a f (shT f l) := by
  have := gN_r a f (shT f l)
  unfold shN
  omega
/-- what gathering has done behind t places -/
def GI (H H' : am_H) (a : Int → Int) (f : Int) (t : Nat) : Prop := (∀ o, o < 43 ∨ 47 < o → H' o = H o) ∧ (∀ k, k ≠ 0 → H' 43 k = H 43 k) ∧ H' 43 0 = gN a f t ∧ ∀ x, 0 ≤ x → x < gN a f t → H' 44 x = gA a f (gW a f) (fun _ => 0) t x ∧ H' 45 x = mkF a (gA a f (gW a f) (fun _ => 0) t x) ∧ H' 46 x = f + gA a f (fun t => ((t / 30 : Nat) : Int)) (fun _ => 0) t x ∧ H' 47 x = widF a (gA a f (gW a f) (fun _ => 0) t x)
theorem GI_n {H H' : am_H} {a : Int → Int} {f : Int} {t : Nat} (h : gW a f t < 0) (g : GI H H' a f t) : GI H H' a f (t + 1) := by
  have e1 : gN a f (t + 1) = gN a f t := if_pos h
  have e2 : ∀ V I, gA a f V I (t + 1) = gA a f V I t := fun V I => if_pos h
  unfold GI
  rw [e1, e2, e2]
  exact g
theorem GI_s {H H' : am_H} {a : Int → Int} {f : Int} {t : Nat} {c : Int} (h : ¬ gW a f t < 0) (g : GI H H' a f t) (hc : gN a f t = c) : GI H (am_up (am_up (am_up (am_up (am_up H' 44 c (gW a f t)) 45 c (mkF a (gW a f t))) 46 c (f + ((t / 30 : Nat) : Int))) 47 c (widF a (gW a f t))) 43 0 (c + 1)) a f (t + 1) := by
  subst hc
  have e1 : gN a f (t + 1) = gN a f t + 1 := if_neg h
  have e2 : ∀ V I, gA a f V I (t + 1) = am_uf (gA a f V I t) (gN a f t) (V t) := fun V I => if_neg h
  obtain ⟨g1, g2, g3, g4⟩ := g
  unfold GI
  rw [e1, e2, e2]
  refine ⟨fun o ho => ?_, fun k hk => ?_, ?_, fun x x0 x1 => ?_⟩
  · rw [am_up_ne (by omega), am_up_ne (by omega), am_up_ne (by omega), am_up_ne (by omega), am_up_ne (by omega)]
    exact g1 o ho
  · rw [am_up_eq, am_uf_ne _ _ hk, am_up_ne (by decide), am_up_ne (by decide), am_up_ne (by decide), am_up_ne (by decide)]
    exact g2 k hk
  · rw [am_up_eq, am_uf_eq]
  · show am_uf (H' 44) _ _ x = _ ∧ am_uf (H' 45) _ _ x = _ ∧ am_uf (H' 46) _ _ x = _ ∧ am_uf (H' 47) _ _ x = _
    by_cases hx : x = gN a f t
    · rw [hx, am_uf_eq, am_uf_eq, am_uf_eq, am_uf_eq, am_uf_eq, am_uf_eq]
      exact ⟨rfl, rfl, rfl, rfl⟩
    · rw [am_uf_ne _ _ hx, am_uf_ne _ _ hx, am_uf_ne _ _ hx, am_uf_ne _ _ hx, am_uf_ne _ _ hx, am_uf_ne _ _ hx]
      exact g4 x x0 (by omega)

theorem l1_gather {d N : Nat} {P : am_P} {H : am_H} {a : Int → Int} {Q : Option am_V → am_S → Prop} {f l : Int} (hP : PZ P) (hI : Inv a) (hT : RT H 10 a) (hf : 0 ≤ f ∧ f ≤ l ∧ l < a 2) (h200 : gN a f (shT f l) ≤ 200) {i : Nat} (hi : (i : Int) < l + 1 - f) (hx : ∀ (H' : am_H) w6, GI H H' a f (30 * i + 30) → am_WP (am_R (d + 3)) cd_Shifter_gather Q 61 [some (am_r 43), some (am_r 14), some (am_i f), some (am_i l), some (am_i (f + (i : Int))), some (am_i 30), w6] [] (N, P, H')) : ∀ p : Nat, p ≤ 30 → ∀ (H' : am_H) w6, GI H H' a f (30 * i + p) → am_WP (am_R (d + 3)) cd_Shifter_gather Q 10 [some (am_r 43), some (am_r 14), some (am_i f), some (am_i l), some (am_i (f + (i : Int))), some (am_i (p : Int)), w6] [] (N, P, H') := by
  have hn := hI.n
  refine up_ind (n := 30) ?_ ?_
  · intro H' w6 g
    refine st_iload rfl rfl ?_
    refine st_bipush rfl ?_
    refine st_icmp_ge rfl (fun h12 => ?_) (fun h12 => (by exfalso; omega))
    exact hx H' w6 g
  · intro p hp ih H' w6 g
    have hT' : RT H' 10 a := hT.cgh (fun k k0 k1 => g.1 k (by omega))
    have hgw : gW a f (30 * i + p) = thgF a (f + (i : Int)) (p : Int) := by
      unfold gW
      rw [show (30 * i + p) / 30 = i by omega, show (30 * i + p) % 30 = p by omega]
    have hth := hI.th (s := f + (i : Int)) (p := (p : Int)) (by omega) (by omega) (by omega) (by omega)
    rw [← hgw] at hth
    have hth2 := hth
    unfold TH at hth2
    have hq := g.2.2.1
    have hr := gN_r a f (30 * i + p)
    have hsf : shT f l = 30 * i + p + 1 + (30 * (l + 1 - f).toNat - (30 * i + p + 1)) := by unfold shT; omega
    have hmo := gN_mono a f (30 * i + p + 1) (30 * (l + 1 - f).toNat - (30 * i + p + 1))
    rw [← hsf] at hmo
    have hst : ¬ gW a f (30 * i + p) < 0 → gN a f (30 * i + p + 1) = gN a f (30 * i + p) + 1 := fun z => if_neg z
    have hdv : ((((30 * i + p) / 30 : Nat)) : Int) = (i : Int) := by omega
    refine st_iload rfl rfl ?_
    refine st_bipush rfl ?_
    refine st_icmp_ge rfl (fun h12 => (by exfalso; omega)) (fun h12 => ?_)
    refine st_aload_n rfl rfl (by decide) ?_
    refine st_iload rfl rfl ?_
    refine st_iload rfl rfl ?_
    refine st_cv1 (w := []) rfl rfl rfl (Nat.le_of_ble_eq_true rfl) (Nat.le_of_ble_eq_true rfl) rfl rfl (r_Stacks_thingAt hP hI hT') ?_
    rw [show tgA a (f + (i : Int)) (p : Int) = gW a f (30 * i + p) by rw [hgw]; exact if_pos ⟨by omega, by omega, by omega⟩]
    refine st_istore (ls' := [_, _, _, _, _, _, _]) rfl (Nat.le_of_ble_eq_true rfl) rfl ?_
    refine st_iload rfl rfl ?_
    refine st_iconst rfl ?_
    refine st_icmp_eq rfl (fun h20 => ?_) (fun h20 => ?_)
    · refine st_iinc (ls' := [_, _, _, _, _, _, _]) rfl rfl (by omega) rfl ?_
      refine st_goto rfl ?_
      first
      | exact ih H' _ (GI_n (t := 30 * i + p) (show gW a f (30 * i + p) < 0 by omega) g)
      | (have g2 := GI_s (t := 30 * i + p) (show ¬ gW a f (30 * i + p) < 0 by omega) g rfl
         rw [hdv] at g2
         exact ih _ _ g2)
    · have hst := hst (by omega)
      refine st_aload_n rfl rfl (by decide) ?_
      refine st_getI (kk := 0) rfl rfl (by decide) rfl ?_
      refine st_sipush rfl ?_
      rw [hq]
      refine st_icmp_ge rfl (fun h24 => (by exfalso; omega)) (fun h24 => ?_)
      refine st_aload_n rfl rfl (by decide) ?_
      refine st_getR (kk := 1) rfl rfl rfl (pz_43_1 hP) rfl ?_
      refine st_aload_n rfl rfl (by decide) ?_
      refine st_getI (kk := 0) rfl rfl (by decide) rfl ?_
      rw [hq]
      refine st_iload rfl rfl ?_
      refine st_iastore rfl rfl (by omega) (by omega) ?_
      refine st_aload_n rfl rfl (by decide) ?_
      refine st_getR (kk := 2) rfl rfl rfl (pz_43_2 hP) rfl ?_
      refine st_aload_n rfl rfl (by decide) ?_
      refine st_getI (kk := 0) rfl rfl (by decide) rfl ?_
      rw [am_up_ne (by decide), hq]
      refine st_aload_n rfl rfl (by decide) ?_
      refine st_iload rfl rfl ?_
      refine st_cv1 (w := [_, _]) rfl rfl rfl (Nat.le_of_ble_eq_true rfl) (Nat.le_of_ble_eq_true rfl) rfl rfl (r_Stacks_markOf hP hI (hT'.so (o := 44) (by decide)) hth (by omega)) ?_
      refine st_iastore rfl rfl (by omega) (by omega) ?_
      refine st_aload_n rfl rfl (by decide) ?_
      refine st_getR (kk := 3) rfl rfl rfl (pz_43_3 hP) rfl ?_
      refine st_aload_n rfl rfl (by decide) ?_
      refine st_getI (kk := 0) rfl rfl (by decide) rfl ?_
      rw [am_up_ne (by decide), am_up_ne (by decide), hq]
      refine st_iload rfl rfl ?_
      refine st_iastore rfl rfl (by omega) (by omega) ?_
      refine st_aload_n rfl rfl (by decide) ?_
      refine st_getR (kk := 4) rfl rfl rfl (pz_43_4 hP) rfl ?_
      refine st_aload_n rfl rfl (by decide) ?_
      refine st_getI (kk := 0) rfl rfl (by decide) rfl ?_
      rw [am_up_ne (by decide), am_up_ne (by decide), am_up_ne (by decide), hq]
      refine st_aload_n rfl rfl (by decide) ?_
      refine st_iload rfl rfl ?_
      refine st_cv1 (w := [_, _]) rfl rfl rfl (Nat.le_of_ble_eq_true rfl) (Nat.le_of_ble_eq_true rfl) rfl rfl (r_Stacks_widthTaken hP hI (((hT'.so (o := 44) (by decide)).so (o := 45) (by decide)).so (o := 46) (by decide)) hth (by omega)) ?_
      refine st_iastore rfl rfl (by omega) (by omega) ?_
      refine st_aload_n rfl rfl (by decide) ?_
      refine st_dup rfl rfl ?_
      refine st_getI (kk := 0) rfl rfl (by decide) rfl ?_
      rw [am_up_ne (by decide), am_up_ne (by decide), am_up_ne (by decide), am_up_ne (by decide), hq]
      refine st_iconst rfl ?_
      refine st_iadd rfl (by omega) ?_
      refine st_putI (kk := 0) rfl rfl rfl rfl ?_
      refine st_iinc (ls' := [_, _, _, _, _, _, _]) rfl rfl (by omega) rfl ?_
      refine st_goto rfl ?_
      first
      | exact ih H' _ (GI_n (t := 30 * i + p) (show gW a f (30 * i + p) < 0 by omega) g)
      | (have g2 := GI_s (t := 30 * i + p) (show ¬ gW a f (30 * i + p) < 0 by omega) g rfl
         rw [hdv] at g2
         exact ih _ _ g2)
theorem l2_gather {d N : Nat} {P : am_P} {H : am_H} {a : Int → Int} {Q : Option am_V → am_S → Prop} {f l : Int} (hP : PZ P) (hI : Inv a) (hT : RT H 10 a) (hf : 0 ≤ f ∧ f ≤ l ∧ l < a 2) (h200 : gN a f (shT f l) ≤ 200) (hx : ∀ H' : am_H, GI H H' a f (shT f l) → Q none (N, P, H')) : ∀ i : Nat, i ≤ (l + 1 - f).toNat → ∀ (H' : am_H) w5 w6, GI H H' a f (30 * i) → am_WP (am_R (d + 3)) cd_Shifter_gather Q 5 [some (am_r 43), some (am_r 14), some (am_i f), some (am_i l), some (am_i (f + (i : Int))), w5, w6] [] (N, P, H') := by
  have hn := hI.n
  refine up_ind (n := (l + 1 - f).toNat) ?_ ?_
  · intro H' w5 w6 g
    refine st_iload rfl rfl ?_
    refine st_iload_n rfl rfl ?_
    refine st_icmp_gt rfl (fun h7 => ?_) (fun h7 => (by exfalso; omega))
    refine st_ret rfl ?_
    exact hx H' g
  · intro i hi ih H' w5 w6 g
    refine st_iload rfl rfl ?_
    refine st_iload_n rfl rfl ?_
    refine st_icmp_gt rfl (fun h7 => (by exfalso; omega)) (fun h7 => ?_)
    refine st_iconst rfl ?_
    refine st_istore (ls' := [_, _, _, _, _, _, _]) rfl (Nat.le_of_ble_eq_true rfl) rfl ?_
    refine l1_gather hP hI hT hf h200 (i := i) (by omega) (fun H' w6 g => ?_) 0 (Nat.zero_le _) H' w6 g
    refine st_iinc (ls' := [_, _, _, _, _, _, _]) rfl rfl (by omega) rfl ?_
    refine st_goto rfl ?_
    rw [show f + (i : Int) + 1 = f + ((i + 1 : Nat) : Int) by omega]
    exact ih H' _ _ g
theorem c_gather {d N : Nat} {P : am_P} {H : am_H} {a : Int → Int} {f l : Int} (hP : PZ P) (hI : Inv a) (hT : RT H 10 a) (hf : 0 ≤ f ∧ f ≤ l ∧ l < a 2) (h200 : gN a f (shT f l) ≤ 200) : am_C (d + 4) 199 [am_r 43, am_r 14, am_i f, am_i l] (N, P, H) (fun v σ => v = none ∧ ∃ H' : am_H, σ = (N, P, H') ∧ GI H H' a f (shT f l)) := by
  refine am_enC (d := d + 3) (ml := 7) (ls := [_, _, _, _, _, _, _]) cq_Shifter_gather rfl (Nat.le_of_ble_eq_true rfl) rfl ?_
  refine st_aload_n rfl rfl (by decide) ?_
  refine st_iconst rfl ?_
  refine st_putI (kk := 0) rfl rfl rfl rfl ?_
  refine st_iload_n rfl rfl ?_
  refine st_istore (ls' := [_, _, _, _, _, _, _]) rfl (Nat.le_of_ble_eq_true rfl) rfl ?_
  have hz := l2_gather (d := d) (N := N) hP hI hT hf h200 (Q := fun v σ => v = none ∧ ∃ H' : am_H, σ = (N, P, H') ∧ GI H H' a f (shT f l)) (fun H' g => ⟨rfl, H', rfl, g⟩) 0 (Nat.zero_le _) (am_up H 43 0 0) none none ⟨fun o ho => am_up_ne (by omega), fun k hk => by rw [am_up_eq, am_uf_ne _ _ hk], by rw [am_up_eq, am_uf_eq]; rfl, fun x x0 x1 => by have : x < 0 := x1; omega⟩
  rw [show f + ((0 : Nat) : Int) = f by omega] at hz
  exact hz
