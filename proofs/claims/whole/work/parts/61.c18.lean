/-! ===== the class: a plan made ===== -/
theorem gW_is {a : Int → Int} {f : Int} {k p : Nat} (hp : p < 30) : gW a f (30 * k + p) = thgF a (f + (k : Int)) (p : Int) := by
  unfold gW
  rw [show (30 * k + p) / 30 = k by omega, show (30 * k + p) % 30 = p by omega]
/-- what keeping a plan has done behind k shelves and p places more -/
def KI (H H' : am_H) (a : Int → Int) (f m : Int) (E : Nat → Int) (k t : Nat) : Prop := (∀ o, (o < 43 ∨ (44 ≤ o ∧ o ≤ 50) ∨ 52 < o) → H' o = H o) ∧ (∀ x, x ≠ 10 → x ≠ 11 → x ≠ 12 → H' 43 x = H 43 x) ∧ (H' 43 10 = 1 ∧ H' 43 11 = f ∧ H' 43 12 = m) ∧ (∀ j : Nat, j < k → H' 51 (j : Int) = E (j + 1)) ∧ ∀ u : Nat, u < t → H' 52 (u : Int) = gW a f u

theorem l1_keepPlan {d N : Nat} {P : am_P} {H : am_H} {a : Int → Int} {Q : Option am_V → am_S → Prop} {f : Int} {m : Nat} {E : Nat → Int} (hP : PZ P) (hI : Inv a) (hT : RT H 10 a) (hf : 0 ≤ f ∧ f + (m : Int) ≤ a 2) {k : Nat} {b : Int} (hk : k < m) (hx : ∀ (H' : am_H), KI H H' a f (m : Int) E (k + 1) (30 * k + 30) → am_WP (am_R (d + 3)) cd_Shifter_keepPlan Q 54 [some (am_r 43), some (am_r 14), some (am_i f), some (am_i (m : Int)), some (am_i b), some (am_i (k : Int)), some (am_i 30)] [] (N, P, H')) : ∀ p : Nat, p ≤ 30 → ∀ (H' : am_H), KI H H' a f (m : Int) E (k + 1) (30 * k + p) → am_WP (am_R (d + 3)) cd_Shifter_keepPlan Q 35 [some (am_r 43), some (am_r 14), some (am_i f), some (am_i (m : Int)), some (am_i b), some (am_i (k : Int)), some (am_i (p : Int))] [] (N, P, H') := by
  have hn := hI.n
  refine up_ind (n := 30) ?_ ?_
  · intro H' g
    refine st_iload rfl rfl ?_
    refine st_bipush rfl ?_
    refine st_icmp_ge rfl (fun h37 => ?_) (fun h37 => (by exfalso; omega))
    exact hx H' g
  · intro p hp ih H' g
    have hT' : RT H' 10 a := hT.cgh (fun k k0 k1 => g.1 k (by omega))
    refine st_iload rfl rfl ?_
    refine st_bipush rfl ?_
    refine st_icmp_ge rfl (fun h37 => (by exfalso; omega)) (fun h37 => ?_)
    refine st_aload_n rfl rfl (by decide) ?_
    refine st_getR (kk := 14) rfl rfl rfl (pz_43_14 hP) rfl ?_
    refine st_iload rfl rfl ?_
    refine st_bipush rfl ?_
    refine st_imul rfl (by omega) ?_
    refine st_iload rfl rfl ?_
    refine st_iadd rfl (by omega) ?_
    refine st_aload_n rfl rfl (by decide) ?_
    refine st_iload_n rfl rfl ?_
    refine st_iload rfl rfl ?_
    refine st_iadd rfl (by omega) ?_
    refine st_iload rfl rfl ?_
    refine st_cv1 (w := [_, _]) rfl rfl rfl (Nat.le_of_ble_eq_true rfl) (Nat.le_of_ble_eq_true rfl) rfl rfl (r_Stacks_thingAt hP hI hT') ?_
    rw [show tgA a (f + (k : Int)) (p : Int) = gW a f (30 * k + p) by rw [gW_is (by omega)]; exact if_pos ⟨by omega, by omega, by omega⟩]
    refine st_iastore rfl rfl (by omega) (by omega) ?_
    refine st_iinc (ls' := [_, _, _, _, _, _, _]) rfl rfl (by omega) rfl ?_
    refine st_goto rfl ?_
    refine ih _ ⟨fun o ho => by rw [am_up_ne (by omega)]; exact g.1 o ho, fun x x1 x2 x3 => by rw [am_up_ne (by decide)]; exact g.2.1 x x1 x2 x3, by rw [am_up_ne (by decide)]; exact g.2.2.1, fun j hj => by rw [am_up_ne (by decide)]; exact g.2.2.2.1 j hj, fun u hu => ?_⟩
    rw [am_up_eq]
    by_cases hu2 : u = 30 * k + p
    · rw [hu2, show (k : Int) * 30 + (p : Int) = ((30 * k + p : Nat) : Int) by omega, am_uf_eq]
    · rw [am_uf_ne _ _ (by omega)]
      exact g.2.2.2.2 u (by omega)
theorem l2_keepPlan {d N : Nat} {P : am_P} {H : am_H} {a : Int → Int} {Q : Option am_V → am_S → Prop} {f : Int} {m : Nat} {E : Nat → Int} (hP : PZ P) (hI : Inv a) (hT : RT H 10 a) (hf : 0 ≤ f ∧ f + (m : Int) ≤ a 2) (hE : ∀ k : Nat, k < m → 0 ≤ E k ∧ E k ≤ 200 ∧ H 50 ((k : Int) * 201 + E k) = E (k + 1)) (hm : m ≤ 16) (hx : ∀ H' : am_H, KI H H' a f (m : Int) E m (30 * m) → Q none (N, P, H')) : ∀ k : Nat, k ≤ m → ∀ (H' : am_H) w6, KI H H' a f (m : Int) E k (30 * k) → am_WP (am_R (d + 3)) cd_Shifter_keepPlan Q 13 [some (am_r 43), some (am_r 14), some (am_i f), some (am_i (m : Int)), some (am_i (E k)), some (am_i (k : Int)), w6] [] (N, P, H') := by
  have hn := hI.n
  refine up_ind (n := m) ?_ ?_
  · intro H' w6 g
    refine st_iload rfl rfl ?_
    refine st_iload_n rfl rfl ?_
    refine st_icmp_ge rfl (fun h15 => ?_) (fun h15 => (by exfalso; omega))
    refine st_ret rfl ?_
    exact hx H' g
  · intro k hk ih H' w6 g
    have hEk := hE k hk
    have h50 : H' 50 ((k : Int) * 201 + E k) = E (k + 1) := by rw [g.1 _ (by decide)]; exact hEk.2.2
    refine st_iload rfl rfl ?_
    refine st_iload_n rfl rfl ?_
    refine st_icmp_ge rfl (fun h15 => (by exfalso; omega)) (fun h15 => ?_)
    refine st_aload_n rfl rfl (by decide) ?_
    refine st_getR (kk := 13) rfl rfl rfl (pz_43_13 hP) rfl ?_
    refine st_iload rfl rfl ?_
    refine st_aload_n rfl rfl (by decide) ?_
    refine st_getR (kk := 7) rfl rfl rfl (pz_43_7 hP) rfl ?_
    refine st_iload rfl rfl ?_
    refine st_sipush rfl ?_
    refine st_imul rfl (by omega) ?_
    refine st_iload rfl rfl ?_
    refine st_iadd rfl (by omega) ?_
    refine st_iaload rfl rfl (by omega) (by omega) ?_
    rw [h50]
    refine st_iastore rfl rfl (by omega) (by omega) ?_
    refine st_aload_n rfl rfl (by decide) ?_
    refine st_getR (kk := 13) rfl rfl rfl (pz_43_13 hP) rfl ?_
    refine st_iload rfl rfl ?_
    refine st_iaload rfl rfl (by omega) (by omega) ?_
    rw [am_up_eq, am_uf_eq]
    refine st_istore (ls' := [_, _, _, _, _, _, _]) rfl (Nat.le_of_ble_eq_true rfl) rfl ?_
    refine st_iconst rfl ?_
    refine st_istore (ls' := [_, _, _, _, _, _, _]) rfl (Nat.le_of_ble_eq_true rfl) rfl ?_
    refine l1_keepPlan (E := E) hP hI hT hf hk (fun H' g => ?_) 0 (Nat.zero_le _) _ ⟨fun o ho => by rw [am_up_ne (by omega)]; exact g.1 o ho, fun x x1 x2 x3 => by rw [am_up_ne (by decide)]; exact g.2.1 x x1 x2 x3, by rw [am_up_ne (by decide)]; exact g.2.2.1, fun j hj => ?_, fun u hu => by rw [am_up_ne (by decide)]; exact g.2.2.2.2 u hu⟩
    · refine st_iinc (ls' := [_, _, _, _, _, _, _]) rfl rfl (by omega) rfl ?_
      refine st_goto rfl ?_
      exact ih H' _ g
    · rw [am_up_eq]
      by_cases hj2 : j = k
      · rw [hj2, am_uf_eq]
      · rw [am_uf_ne _ _ (by omega)]
        exact g.2.2.2.1 j (by omega)
theorem c_keepPlan {d N : Nat} {P : am_P} {H : am_H} {a : Int → Int} {f : Int} {m : Nat} {E : Nat → Int} (hP : PZ P) (hI : Inv a) (hT : RT H 10 a) (hf : 0 ≤ f ∧ f + (m : Int) ≤ a 2) (hE : ∀ k : Nat, k < m → 0 ≤ E k ∧ E k ≤ 200 ∧ H 50 ((k : Int) * 201 + E k) = E (k + 1)) (hm : m ≤ 16) (h0 : E 0 = 0) : am_C (d + 4) 203 [am_r 43, am_r 14, am_i f, am_i (m : Int)] (N, P, H) (fun v σ => v = none ∧ ∃ H' : am_H, σ = (N, P, H') ∧ KI H H' a f (m : Int) E m (30 * m)) := by
  refine am_enC (d := d + 3) (ml := 7) (ls := [_, _, _, _, _, _, _]) cq_Shifter_keepPlan rfl (Nat.le_of_ble_eq_true rfl) rfl ?_
  refine st_aload_n rfl rfl (by decide) ?_
  refine st_iconst rfl ?_
  refine st_putZ (kk := 10) rfl rfl rfl (by first | exact bi_01 _ | decide | omega) rfl ?_
  refine st_aload_n rfl rfl (by decide) ?_
  refine st_iload_n rfl rfl ?_
  refine st_putI (kk := 11) rfl rfl rfl rfl ?_
  refine st_aload_n rfl rfl (by decide) ?_
  refine st_iload_n rfl rfl ?_
  refine st_putI (kk := 12) rfl rfl rfl rfl ?_
  refine st_iconst rfl ?_
  refine st_istore (ls' := [_, _, _, _, _, _, _]) rfl (Nat.le_of_ble_eq_true rfl) rfl ?_
  refine st_iconst rfl ?_
  refine st_istore (ls' := [_, _, _, _, _, _, _]) rfl (Nat.le_of_ble_eq_true rfl) rfl ?_
  have hz := l2_keepPlan (d := d) (N := N) hP hI hT hf hE hm (Q := fun v σ => v = none ∧ ∃ H' : am_H, σ = (N, P, H') ∧ KI H H' a f (m : Int) E m (30 * m)) (fun H' g => ⟨rfl, H', rfl, g⟩) 0 (Nat.zero_le _) (am_up (am_up (am_up H 43 10 1) 43 11 f) 43 12 (m : Int)) none ⟨fun o ho => by rw [am_up_ne (by omega), am_up_ne (by omega), am_up_ne (by omega)], fun x x1 x2 x3 => by rw [am_up_eq, am_uf_ne _ _ x3, am_up_eq, am_uf_ne _ _ x2, am_up_eq, am_uf_ne _ _ x1], ⟨by rw [am_up_eq, am_uf_ne _ _ (by omega), am_up_eq, am_uf_ne _ _ (by omega), am_up_eq, am_uf_eq], by rw [am_up_eq, am_uf_ne _ _ (by omega), am_up_eq, am_uf_eq], by rw [am_up_eq, am_uf_eq]⟩, fun j hj => by omega, fun u hu => by omega⟩
  rw [h0] at hz
  exact hz
def MD (B : am_H) (a : Int → Int) (n : Nat) (f le gr m : Int) : Nat → Int → Int × Int := dpR 1000000 (fun j => j) (B 47) (B 46) (B 48) (n : Int) (fun k => f + k) (fun k => a (6670 + 32 * (f + k)) * le / 100) (fun k => a (6670 + 32 * (f + k)) * gr / 100) m
def MI (B H' : am_H) (D : Nat → Int → Int × Int) (n : Nat) (m : Int) (r : Nat) : Prop := (∀ o, (o < 43 ∨ (44 ≤ o ∧ o ≤ 48) ∨ 50 < o) → H' o = B o) ∧ (∀ k, k ≠ 8 → k ≠ 9 → H' 43 k = B 43 k) ∧ ∀ r' : Nat, r' ≤ r → ∀ i, 0 ≤ i → i ≤ (n : Int) → H' 49 ((m - (r' : Int)) * 201 + i) = (D r' i).1 ∧ (1 ≤ r' → H' 50 ((m - (r' : Int)) * 201 + i) = (D r' i).2)
theorem MI_f {B H' H2 : am_H} {D : Nat → Int → Int × Int} {n : Nat} {m : Int} {r : Nat} {k b x y : Int} (g : MI B H' D n m r) (hn : n ≤ 200) (hk : k < m - (r : Int)) (hb : 0 ≤ b ∧ b ≤ (n : Int)) (hH : H2 = am_up (am_up H' 49 (k * 201 + b) x) 50 (k * 201 + b) y) : MI B H2 D n m r := by
  subst hH
  refine ⟨fun o ho => by rw [am_up_ne (by omega), am_up_ne (by omega)]; exact g.1 o ho, fun q q1 q2 => by rw [am_up_ne (by decide), am_up_ne (by decide)]; exact g.2.1 q q1 q2, fun r' hr i i0 i1 => ?_⟩
  have z := g.2.2 r' hr i i0 i1
  refine ⟨?_, fun h1 => ?_⟩
  · rw [am_up_ne (by decide), am_up_eq, am_uf_ne _ _ (by omega)]
    exact z.1
  · rw [am_up_eq, am_uf_ne _ _ (by omega), am_up_ne (by decide)]
    exact z.2 h1

theorem l3_plan {d N : Nat} {P : am_P} {B : am_H} {a : Int → Int} {Q : Option am_V → am_S → Prop} {f l le gr : Int} {m n : Nat} (hP : PZ P) (hI : Inv a) (hT : RT B 10 a) (hf : 0 ≤ f ∧ f + (m : Int) ≤ a 2) (hm : m ≤ 16) (hB0 : B 43 0 = (n : Int)) (hn2 : n ≤ 200) (hw : ∀ x, 0 ≤ x → x < (n : Int) → 1 ≤ B 47 x ∧ B 47 x ≤ 210) (hg : 0 ≤ le ∧ le ≤ gr ∧ gr ≤ 100) {r : Nat} {k wd : Int} (hr : (r : Int) < (m : Int)) (hk : k = (m : Int) - 1 - (r : Int)) (hx : ∀ (H' : am_H), MI B H' (MD B a n f le gr (m : Int)) n (m : Int) (r + 1) → am_WP (am_R (d + 5)) cd_Shifter_makePlan Q 93 [some (am_r 43), some (am_r 10), some (am_i f), some (am_i l), some (am_i le), some (am_i gr), some (am_i (m : Int)), some (am_i k), some (am_i wd), some (am_i ((n : Int) + 1))] [] (N, P, H')) : ∀ b : Nat, b ≤ n + 1 → ∀ (H' : am_H), MI B H' (MD B a n f le gr (m : Int)) n (m : Int) r → H' 43 8 = a (6670 + 32 * (f + k)) * le / 100 → H' 43 9 = a (6670 + 32 * (f + k)) * gr / 100 → (∀ i, 0 ≤ i → i < (b : Int) → H' 49 (k * 201 + i) = ((MD B a n f le gr (m : Int)) (r + 1) i).1 ∧ H' 50 (k * 201 + i) = ((MD B a n f le gr (m : Int)) (r + 1) i).2) → am_WP (am_R (d + 5)) cd_Shifter_makePlan Q 80 [some (am_r 43), some (am_r 10), some (am_i f), some (am_i l), some (am_i le), some (am_i gr), some (am_i (m : Int)), some (am_i k), some (am_i wd), some (am_i (b : Int))] [] (N, P, H') := by
  have hn := hI.n
  refine up_ind (n := n + 1) ?_ ?_
  · intro H' g q8 q9 hrow
    have h0 : H' 43 0 = (n : Int) := by rw [g.2.1 0 (by omega) (by omega)]; exact hB0
    rw [show ((n + 1 : Nat) : Int) = (n : Int) + 1 by omega] at hrow ⊢
    refine st_iload rfl rfl ?_
    refine st_aload_n rfl rfl (by decide) ?_
    refine st_getI (kk := 0) rfl rfl (by decide) rfl ?_
    refine st_icmp_gt rfl (fun h83 => ?_) (fun h83 => (by exfalso; omega))
    refine hx H' ⟨g.1, g.2.1, fun r' hr' i i0 i1 => ?_⟩
    by_cases hr2 : r' = r + 1
    · subst hr2
      have z := hrow i i0 (by omega)
      rw [show (m : Int) - ((r + 1 : Nat) : Int) = k by omega]
      exact ⟨z.1, fun _ => z.2⟩
    · exact g.2.2 r' (by omega) i i0 i1
  · intro b hb ih H' g q8 q9 hrow
    have h0 : H' 43 0 = (n : Int) := by rw [g.2.1 0 (by omega) (by omega)]; exact hB0
    have e47 : H' 47 = B 47 := g.1 _ (by decide)
    have e46 : H' 46 = B 46 := g.1 _ (by decide)
    have e48 : H' 48 = B 48 := g.1 _ (by decide)
    have hrest : ∀ j, 0 ≤ j → j ≤ (n : Int) → H' 49 ((k + 1) * 201 + j) = ((MD B a n f le gr (m : Int)) r j).1 := fun j j0 j1 => by
      have := (g.2.2 r (Nat.le_refl _) j j0 j1).1
      rw [show (m : Int) - (r : Int) = k + 1 by omega] at this
      exact this
    have hDr : ∀ j, 0 ≤ j → 0 ≤ ((MD B a n f le gr (m : Int)) r j).1 ∧ ((MD B a n f le gr (m : Int)) r j).1 ≤ 1000000 := fun j j0 => dpR_r (by omega) _ r j j0
    have hR : trL 1000000 (b : Int) (H' 47) (H' 46) (H' 48) (fun j => H' 49 ((k + 1) * 201 + j)) (n : Int) (f + k) (a (6670 + 32 * (f + k)) * le / 100) (a (6670 + 32 * (f + k)) * gr / 100) (b : Int) 31 = (MD B a n f le gr (m : Int)) (r + 1) (b : Int) := by
      rw [e47, e46, e48]
      have := trL_cg (T := 1000000) (e0 := (b : Int)) (w := B 47) (w' := B 47) (hm := B 46) (hm' := B 46) (pd := B 48) (pd' := B 48) (rest := fun j => H' 49 ((k + 1) * 201 + j)) (rest' := fun j => ((MD B a n f le gr (m : Int)) r j).1) (n := (n : Int)) (k := f + k) (k' := f + k) (L := a (6670 + 32 * (f + k)) * le / 100) (G := a (6670 + 32 * (f + k)) * gr / 100) (i := (b : Int)) (by omega) (fun _ _ _ => rfl) (fun _ _ _ => Iff.rfl) (fun _ _ _ => Iff.rfl) (fun x x0 x1 => hrest x x0 x1) 31
      rw [this, hk]
      rfl
    refine st_iload rfl rfl ?_
    refine st_aload_n rfl rfl (by decide) ?_
    refine st_getI (kk := 0) rfl rfl (by decide) rfl ?_
    rw [h0]
    refine st_icmp_gt rfl (fun h83 => (by exfalso; omega)) (fun h83 => ?_)
    refine st_aload_n rfl rfl (by decide) ?_
    refine st_iload rfl rfl ?_
    refine st_iload rfl rfl ?_
    refine st_iload_n rfl rfl ?_
    refine st_iload rfl rfl ?_
    refine st_iadd rfl (by omega) ?_
    refine st_cv0 (w := []) rfl rfl rfl (Nat.le_of_ble_eq_true rfl) (Nat.le_of_ble_eq_true rfl) rfl rfl (r_Shifter_fill hP h0 hn2 q8 q9 (by omega) (by omega) (by rw [e47]; exact hw) (fun j j0 j1 => by rw [hrest j j0 j1]; exact hDr j j0)) ?_
    rw [hR]
    refine st_iinc (ls' := [_, _, _, _, _, _, _, _, _, _]) rfl rfl (by omega) rfl ?_
    refine st_goto rfl ?_
    refine ih _ (MI_f g hn2 (by omega) (by omega) rfl) (by rw [am_up_ne (by decide), am_up_ne (by decide)]; exact q8) (by rw [am_up_ne (by decide), am_up_ne (by decide)]; exact q9) (fun i i0 i1 => ?_)
    by_cases hi : i = (b : Int)
    · rw [hi, am_up_ne (by decide), am_up_eq, am_uf_eq, am_up_eq, am_uf_eq]
      exact ⟨rfl, rfl⟩
    · rw [am_up_ne (by decide), am_up_eq, am_uf_ne _ _ (by omega), am_up_eq, am_uf_ne _ _ (by omega), am_up_ne (by decide)]
      exact hrow i i0 (by omega)
theorem l2_plan {d N : Nat} {P : am_P} {B : am_H} {a : Int → Int} {Q : Option am_V → am_S → Prop} {f l le gr : Int} {m n : Nat} (hP : PZ P) (hI : Inv a) (hT : RT B 10 a) (hf : 0 ≤ f ∧ f + (m : Int) ≤ a 2) (hm : m ≤ 16) (hB0 : B 43 0 = (n : Int)) (hn2 : n ≤ 200) (hw : ∀ x, 0 ≤ x → x < (n : Int) → 1 ≤ B 47 x ∧ B 47 x ≤ 210) (hg : 0 ≤ le ∧ le ≤ gr ∧ gr ≤ 100) (hx : ∀ (H' : am_H) w8 w9, MI B H' (MD B a n f le gr (m : Int)) n (m : Int) m → am_WP (am_R (d + 5)) cd_Shifter_makePlan Q 95 [some (am_r 43), some (am_r 10), some (am_i f), some (am_i l), some (am_i le), some (am_i gr), some (am_i (m : Int)), some (am_i (-1)), w8, w9] [] (N, P, H')) : ∀ r : Nat, r ≤ m → ∀ (H' : am_H) w8 w9, MI B H' (MD B a n f le gr (m : Int)) n (m : Int) r → am_WP (am_R (d + 5)) cd_Shifter_makePlan Q 55 [some (am_r 43), some (am_r 10), some (am_i f), some (am_i l), some (am_i le), some (am_i gr), some (am_i (m : Int)), some (am_i ((m : Int) - 1 - (r : Int))), w8, w9] [] (N, P, H') := by
  have hn := hI.n
  refine up_ind (n := m) ?_ ?_
  · intro H' w8 w9 g
    rw [show (m : Int) - 1 - (m : Int) = -1 by omega]
    refine st_iload rfl rfl ?_
    refine st_if_lt rfl (fun h56 => ?_) (fun h56 => (by exfalso; omega))
    exact hx H' _ _ g
  · intro r hr ih H' w8 w9 g
    have hT' : RT H' 10 a := hT.cgh (fun k k0 k1 => g.1 k (by omega))
    have hwd := (hI.s.2.1 (f + ((m : Int) - 1 - (r : Int))) (by omega) (by omega)).1
    have m1 := mulb (x := a (6670 + 32 * (f + ((m : Int) - 1 - (r : Int))))) (y := le) (A := 2000) (B := 100) (by omega) hwd.2 hg.1 (by omega)
    have m2 := mulb (x := a (6670 + 32 * (f + ((m : Int) - 1 - (r : Int))))) (y := gr) (A := 2000) (B := 100) (by omega) hwd.2 (by omega) (by omega)
    refine st_iload rfl rfl ?_
    refine st_if_lt rfl (fun h56 => (by exfalso; omega)) (fun h56 => ?_)
    refine st_aload_n rfl rfl (by decide) ?_
    refine st_getR (kk := 1) rfl rfl rfl (pz_10_1 hP) rfl ?_
    refine st_iload_n rfl rfl ?_
    refine st_iload rfl rfl ?_
    refine st_iadd rfl (by omega) ?_
    refine st_cv1 (w := []) rfl rfl rfl (Nat.le_of_ble_eq_true rfl) (Nat.le_of_ble_eq_true rfl) rfl rfl (r_Stacks_widthOf hP hI hT') ?_
    rw [show swA a (f + ((m : Int) - 1 - (r : Int))) = a (6670 + 32 * (f + ((m : Int) - 1 - (r : Int)))) from if_pos ⟨by omega, by omega⟩]
    refine st_istore (ls' := [_, _, _, _, _, _, _, _, _, _]) rfl (Nat.le_of_ble_eq_true rfl) rfl ?_
    refine st_aload_n rfl rfl (by decide) ?_
    refine st_iload rfl rfl ?_
    refine st_iload rfl rfl ?_
    refine st_imul rfl (by omega) ?_
    refine st_bipush rfl ?_
    refine st_idiv rfl (by omega) (by omega) (by omega) ?_
    refine st_putI (kk := 8) rfl rfl rfl rfl ?_
    refine st_aload_n rfl rfl (by decide) ?_
    refine st_iload rfl rfl ?_
    refine st_iload rfl rfl ?_
    refine st_imul rfl (by omega) ?_
    refine st_bipush rfl ?_
    refine st_idiv rfl (by omega) (by omega) (by omega) ?_
    refine st_putI (kk := 9) rfl rfl rfl rfl ?_
    refine st_iconst rfl ?_
    refine st_istore (ls' := [_, _, _, _, _, _, _, _, _, _]) rfl (Nat.le_of_ble_eq_true rfl) rfl ?_
    refine l3_plan hP hI hT hf hm hB0 hn2 hw hg (r := r) (by omega) rfl (fun H' g => ?_) 0 (Nat.zero_le _) _ ⟨fun o ho => by rw [am_up_ne (by omega), am_up_ne (by omega)]; exact g.1 o ho, fun k k1 k2 => by rw [am_up_eq, am_uf_ne _ _ k2, am_up_eq, am_uf_ne _ _ k1]; exact g.2.1 k k1 k2, fun r' hr' i i0 i1 => by rw [am_up_ne (by decide), am_up_ne (by decide), am_up_ne (by decide), am_up_ne (by decide)]; exact g.2.2 r' hr' i i0 i1⟩ (by rw [am_up_eq, am_uf_ne _ _ (by omega), am_up_eq, am_uf_eq]) (by rw [am_up_eq, am_uf_eq]) (fun i i0 i1 => by omega)
    refine st_iinc (ls' := [_, _, _, _, _, _, _, _, _, _]) rfl rfl (by omega) rfl ?_
    refine st_goto rfl ?_
    rw [show (m : Int) - 1 - (r : Int) + -1 = (m : Int) - 1 - ((r + 1 : Nat) : Int) by omega]
    exact ih H' _ _ g
theorem l1_plan {d N : Nat} {P : am_P} {B : am_H} {a : Int → Int} {Q : Option am_V → am_S → Prop} {f l le gr : Int} {m n : Nat} (hP : PZ P) (hI : Inv a) (hT : RT B 10 a) (hf : 0 ≤ f ∧ f + (m : Int) ≤ a 2) (hm : m ≤ 16) (hB0 : B 43 0 = (n : Int)) (hn2 : n ≤ 200) (hw : ∀ x, 0 ≤ x → x < (n : Int) → 1 ≤ B 47 x ∧ B 47 x ≤ 210) (hg : 0 ≤ le ∧ le ≤ gr ∧ gr ≤ 100) (hx : ∀ (H' : am_H) w7, MI B H' (MD B a n f le gr (m : Int)) n (m : Int) 0 → am_WP (am_R (d + 5)) cd_Shifter_makePlan Q 51 [some (am_r 43), some (am_r 10), some (am_i f), some (am_i l), some (am_i le), some (am_i gr), some (am_i (m : Int)), w7, none, none] [] (N, P, H')) : ∀ e : Nat, e ≤ n + 1 → ∀ (H' : am_H), (∀ o, o ≠ 49 → H' o = B o) → (∀ i, 0 ≤ i → i < (e : Int) → H' 49 ((m : Int) * 201 + i) = if i = (n : Int) then 0 else 1000000) → am_WP (am_R (d + 5)) cd_Shifter_makePlan Q 30 [some (am_r 43), some (am_r 10), some (am_i f), some (am_i l), some (am_i le), some (am_i gr), some (am_i (m : Int)), some (am_i (e : Int)), none, none] [] (N, P, H') := by
  have hn := hI.n
  refine up_ind (n := n + 1) ?_ ?_
  · intro H' hfr hrow
    have h0 : H' 43 0 = (n : Int) := by rw [hfr _ (by decide)]; exact hB0
    rw [show ((n + 1 : Nat) : Int) = (n : Int) + 1 by omega] at hrow ⊢
    refine st_iload rfl rfl ?_
    refine st_aload_n rfl rfl (by decide) ?_
    refine st_getI (kk := 0) rfl rfl (by decide) rfl ?_
    refine st_icmp_gt rfl (fun h33 => ?_) (fun h33 => (by exfalso; omega))
    refine hx H' _ ⟨fun o ho => hfr o (by omega), fun k _ _ => by rw [hfr _ (by decide)], fun r' hr' i i0 i1 => ?_⟩
    have hr0 : r' = 0 := by omega
    subst hr0
    rw [show (m : Int) - ((0 : Nat) : Int) = (m : Int) by omega]
    exact ⟨hrow i i0 (by omega), fun z => by omega⟩
  · intro e he ih H' hfr hrow
    have h0 : H' 43 0 = (n : Int) := by rw [hfr _ (by decide)]; exact hB0
    refine st_iload rfl rfl ?_
    refine st_aload_n rfl rfl (by decide) ?_
    refine st_getI (kk := 0) rfl rfl (by decide) rfl ?_
    rw [h0]
    refine st_icmp_gt rfl (fun h33 => (by exfalso; omega)) (fun h33 => ?_)
    refine st_aload_n rfl rfl (by decide) ?_
    refine st_getR (kk := 6) rfl rfl rfl (pz_43_6 hP) rfl ?_
    refine st_iload rfl rfl ?_
    refine st_sipush rfl ?_
    refine st_imul rfl (by omega) ?_
    refine st_iload rfl rfl ?_
    refine st_iadd rfl (by omega) ?_
    refine st_iload rfl rfl ?_
    refine st_aload_n rfl rfl (by decide) ?_
    refine st_getI (kk := 0) rfl rfl (by decide) rfl ?_
    rw [h0]
    refine st_icmp_ne rfl (fun h44 => ?_) (fun h44 => ?_)
    · refine st_ldc rfl ?_
      refine st_iastore rfl rfl (by omega) (by omega) ?_
      refine st_iinc (ls' := [_, _, _, _, _, _, _, _, _, _]) rfl rfl (by omega) rfl ?_
      refine st_goto rfl ?_
      refine ih _ (fun o ho => by rw [am_up_ne ho]; exact hfr o ho) (fun i i0 i1 => ?_)
      rw [am_up_eq]
      by_cases hi : i = (e : Int)
      · rw [hi, am_uf_eq]
        first
        | rw [if_pos (by omega)]
        | rw [if_neg (by omega)]
      · rw [am_uf_ne _ _ (by omega)]
        exact hrow i i0 (by omega)
    · refine st_iconst rfl ?_
      refine st_goto rfl ?_
      refine st_iastore rfl rfl (by omega) (by omega) ?_
      refine st_iinc (ls' := [_, _, _, _, _, _, _, _, _, _]) rfl rfl (by omega) rfl ?_
      refine st_goto rfl ?_
      refine ih _ (fun o ho => by rw [am_up_ne ho]; exact hfr o ho) (fun i i0 i1 => ?_)
      rw [am_up_eq]
      by_cases hi : i = (e : Int)
      · rw [hi, am_uf_eq]
        first
        | rw [if_pos (by omega)]
        | rw [if_neg (by omega)]
      · rw [am_uf_ne _ _ (by omega)]
        exact hrow i i0 (by omega)
