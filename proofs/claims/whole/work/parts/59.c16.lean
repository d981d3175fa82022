/-! ===== the class: where shelves may end ===== -/
def meF (M : Int → Int) (b e p : Int) : Int → Int := fun j => if b ≤ j ∧ j < e then (if j = b ∨ p ≠ 0 then 1 else 0) else M j
theorem meF_0 (M : Int → Int) (b p : Int) : meF M b b p = M := by funext j; exact if_neg (by omega)
theorem meF_s (M : Int → Int) {b e p v : Int} (h : b ≤ e) (hv : v = if e = b ∨ p ≠ 0 then 1 else 0) : am_uf (meF M b e p) e v = meF M b (e + 1) p := by
  funext j
  unfold am_uf meF
  by_cases hj : j = e
  · rw [if_pos hj, if_pos (by omega), hv, hj]
  · rw [if_neg hj]
    by_cases h2 : b ≤ j ∧ j < e
    · rw [if_pos h2, if_pos (show b ≤ j ∧ j < e + 1 by omega)]
    · rw [if_neg h2, if_neg (show ¬ (b ≤ j ∧ j < e + 1) by omega)]

theorem r_Shifter_markEnds {d N : Nat} {P : am_P} {H : am_H} {b e p : Int} (hP : PZ P) (hb : 0 ≤ b ∧ b ≤ e ∧ e ≤ 200) : am_R (d + 1) 201 [am_r 43, am_i (b), am_i (e), am_i (p)] (N, P, H) none (N, P, am_so H 48 (meF (H 48) b (e + 1) p)) := by
  refine am_en1 (d := d + 0) (ml := 5) (ls := [_, _, _, _, _]) cq_Shifter_markEnds rfl (Nat.le_of_ble_eq_true rfl) rfl ?_
  refine st_iload_n rfl rfl ?_
  refine st_istore (ls' := [_, _, _, _, _]) rfl (Nat.le_of_ble_eq_true rfl) rfl ?_
  suffices hz : ∀ j, j ≤ (e + 1 - b).toNat → am_WP (am_R (d + 0)) cd_Shifter_markEnds (fun v' s' => v' = none ∧ s' = (N, P, am_so H 48 (meF (H 48) b (e + 1) p))) 2 [some (am_r 43), some (am_i b), some (am_i e), some (am_i p), some (am_i (b + (j : Int)))] [] (N, P, am_so H 48 (meF (H 48) b (b + (j : Int)) p)) by
    have := hz 0 (Nat.zero_le _)
    rw [show b + ((0 : Nat) : Int) = b by omega, meF_0, am_so_self] at this
    exact this
  refine up_ind (n := (e + 1 - b).toNat) ?_ ?_
  · rw [show b + (((e + 1 - b).toNat : Nat) : Int) = e + 1 by omega]
    refine st_iload rfl rfl ?_
    refine st_iload_n rfl rfl ?_
    refine st_icmp_gt rfl (fun h4 => ?_) (fun h4 => (by exfalso; omega))
    refine st_ret rfl ?_
    exact ⟨rfl, rfl⟩
  · intro j hj ih
    refine st_iload rfl rfl ?_
    refine st_iload_n rfl rfl ?_
    refine st_icmp_gt rfl (fun h4 => (by exfalso; omega)) (fun h4 => ?_)
    refine st_aload_n rfl rfl (by decide) ?_
    refine st_getR (kk := 5) rfl rfl rfl (pz_43_5 hP) rfl ?_
    refine st_iload rfl rfl ?_
    refine st_iload rfl rfl ?_
    refine st_iload_n rfl rfl ?_
    refine st_icmp_eq rfl (fun h10 => ?_) (fun h10 => ?_)
    · refine st_iconst rfl ?_
      refine st_goto rfl ?_
      refine st_iastore rfl rfl (by omega) (by omega) ?_
      refine st_iinc (ls' := [_, _, _, _, _]) rfl rfl (by omega) rfl ?_
      refine st_goto rfl ?_
      rw [am_up, am_so_so, am_so_at, meF_s _ (by omega) (by first | rw [if_pos (by omega)] | rw [if_neg (by omega)]), show b + (j : Int) + 1 = b + ((j + 1 : Nat) : Int) by omega]
      exact ih
    · refine st_iload_n rfl rfl ?_
      refine st_if_eq rfl (fun h12 => ?_) (fun h12 => ?_)
      · refine st_iconst rfl ?_
        refine st_iastore rfl rfl (by omega) (by omega) ?_
        refine st_iinc (ls' := [_, _, _, _, _]) rfl rfl (by omega) rfl ?_
        refine st_goto rfl ?_
        rw [am_up, am_so_so, am_so_at, meF_s _ (by omega) (by first | rw [if_pos (by omega)] | rw [if_neg (by omega)]), show b + (j : Int) + 1 = b + ((j + 1 : Nat) : Int) by omega]
        exact ih
      · refine st_iconst rfl ?_
        refine st_goto rfl ?_
        refine st_iastore rfl rfl (by omega) (by omega) ?_
        refine st_iinc (ls' := [_, _, _, _, _]) rfl rfl (by omega) rfl ?_
        refine st_goto rfl ?_
        rw [am_up, am_so_so, am_so_at, meF_s _ (by omega) (by first | rw [if_pos (by omega)] | rw [if_neg (by omega)]), show b + (j : Int) + 1 = b + ((j + 1 : Nat) : Int) by omega]
        exact ih
/-- the widths, works and count that gathering left -/
def GX (H : am_H) (a : Int → Int) (n : Nat) : Prop := H 43 0 = (n : Int) ∧ n ≤ 200 ∧ ∀ x, 0 ≤ x → x < (n : Int) → (0 ≤ H 45 x ∧ H 45 x < a 1) ∧ 1 ≤ H 47 x ∧ H 47 x ≤ 210
def lkF (H : am_H) (a : Int → Int) (k : Nat) : Int := oneF a (H 45 (k : Int)) (H 45 ((k : Int) + 1))
theorem oneF_01 (a : Int → Int) (x y : Int) : oneF a x y = 0 ∨ oneF a x y = 1 := oneL_r a x y _
/-- what has been found behind k things -/
def FI (H H' : am_H) (a : Int → Int) (n : Nat) (most : Int) (k b : Nat) (w : Int) : Prop := (∀ o, o ≠ 48 → H' o = H o) ∧ (∀ j : Nat, j < b → H' 48 (j : Int) = pdV (H 47) (lkF H a) n most j) ∧ b ≤ k ∧ (b < n → gsF (lkF H a) b = b) ∧ (∀ x, b ≤ x → x < k → lkF H a x ≠ 0) ∧ w = smF (H 47) (b : Int) (k - b) ∧ (k = n → b = n)
theorem FI_c {H H' : am_H} {a : Int → Int} {n : Nat} {most w p : Int} {k b : Nat} (hk : k < n) (g : FI H H' a n most k b w) (hc : k + 1 = n ∨ lkF H a k = 0) (hp : p = if most < w + H 47 (k : Int) then 1 else 0) : FI H (am_so H' 48 (meF (H' 48) (b : Int) ((k : Int) + 1) p)) a n most (k + 1) (k + 1) 0 := by
  obtain ⟨g1, g2, g3, g4, g5, g6, g7⟩ := g
  refine ⟨fun o ho => by rw [am_so_ne _ _ ho]; exact g1 o ho, fun j hj => ?_, Nat.le_refl _, fun hn => ?_, fun x x0 x1 => by omega, ?_, fun z => z⟩
  · rw [am_so_at]
    unfold meF
    by_cases hjb : j < b
    · rw [if_neg (by omega)]
      exact g2 j hjb
    · rw [if_pos (by omega)]
      have hgs : gsF (lkF H a) j = b := by
        have := gsF_q (g4 (by omega)) (j - b) (fun x x0 x1 => g5 x x0 (by omega))
        rw [show b + (j - b) = j by omega] at this
        exact this
      have hge : geF (lkF H a) n n j = k + 1 := geF_q (t := k + 1) hc (by omega) n j (by omega) (by omega) (fun x x0 x1 => g5 x (by omega) (by omega))
      unfold pdV
      rw [hgs, hge]
      have hsm : smF (H 47) (b : Int) (k + 1 - b) = w + H 47 (k : Int) := by
        rw [show k + 1 - b = (k - b) + 1 by omega]
        show smF (H 47) (b : Int) (k - b) + H 47 ((b : Int) + ((k - b : Nat) : Int)) = _
        rw [← g6, show (b : Int) + ((k - b : Nat) : Int) = (k : Int) by omega]
      rw [hsm]
      by_cases hjb2 : j = b
      · rw [if_pos (by omega), if_pos (Or.inl hjb2)]
      · by_cases hm : most < w + H 47 (k : Int)
        · rw [if_pos hm] at hp
          rw [if_pos (by omega), if_pos (Or.inr hm)]
        · rw [if_neg hm] at hp
          rw [if_neg (by omega), if_neg (by omega)]
  · rcases hc with h | h
    · omega
    · show (if lkF H a k = 0 then k + 1 else gsF (lkF H a) k) = k + 1
      rw [if_pos h]
  · rw [Nat.sub_self]; rfl
theorem FI_n {H H' : am_H} {a : Int → Int} {n : Nat} {most w : Int} {k b : Nat} (hk : k + 1 < n) (g : FI H H' a n most k b w) (hc : lkF H a k ≠ 0) : FI H H' a n most (k + 1) b (w + H 47 (k : Int)) := by
  obtain ⟨g1, g2, g3, g4, g5, g6, g7⟩ := g
  refine ⟨g1, g2, by omega, g4, fun x x0 x1 => ?_, ?_, fun z => by omega⟩
  · by_cases hx : x = k
    · rw [hx]; exact hc
    · exact g5 x x0 (by omega)
  · rw [show k + 1 - b = (k - b) + 1 by omega]
    show _ = smF (H 47) (b : Int) (k - b) + H 47 ((b : Int) + ((k - b : Nat) : Int))
    rw [← g6, show (b : Int) + ((k - b : Nat) : Int) = (k : Int) by omega]
theorem FI_w {H H' : am_H} {a : Int → Int} {n : Nat} {most w : Int} {k b : Nat} (hk : k ≤ n) (hG : GX H a n) (g : FI H H' a n most k b w) : 0 ≤ w ∧ w ≤ 42000 := by
  have := smF_r (w := H 47) (i := (b : Int)) (n := (n : Int)) (fun x x0 x1 => (hG.2.2 x x0 x1).2) (by omega) (k - b) (by have := g.2.2.1; omega)
  have h1 := g.2.2.2.2.2.1
  have h2 := hG.2.1
  have h3 := g.2.2.1
  omega

theorem l2_findEnds {d N : Nat} {P : am_P} {H : am_H} {a : Int → Int} {Q : Option am_V → am_S → Prop} {f l gr nr most : Int} {n : Nat} (hP : PZ P) (hI : Inv a) (hW : InvW a) (hM : RM H 10 a) (hG : GX H a n) (hx : ∀ H' : am_H, (∀ o, o ≠ 48 → H' o = H o) → (∀ j : Nat, j < n → H' 48 (j : Int) = pdV (H 47) (lkF H a) n most j) → H' 48 (n : Int) = 1 → Q none (N, P, H')) : ∀ k : Nat, k ≤ n → ∀ (H' : am_H) (b : Nat) (w : Int), FI H H' a n most k b w → am_WP (am_R (d + 4)) cd_Shifter_findEnds Q 31 [some (am_r 43), some (am_r 10), some (am_i f), some (am_i l), some (am_i gr), some (am_i nr), some (am_i most), some (am_i (b : Int)), some (am_i w), some (am_i (k : Int))] [] (N, P, H') := by
  have hn := hI.n
  have hc0 := hG.1
  have hc1 := hG.2.1
  refine up_ind (n := n) ?_ ?_
  · intro H' b w g
    have hf := g.1
    have hb := g.2.2.2.2.2.2 rfl
    subst hb
    refine st_iload rfl rfl ?_
    refine st_aload_n rfl rfl (by decide) ?_
    refine st_getI (kk := 0) rfl rfl (by decide) rfl ?_
    rw [hf _ (by decide), hc0]
    refine st_icmp_ge rfl (fun h34 => ?_) (fun h34 => (by exfalso; omega))
    refine st_aload_n rfl rfl (by decide) ?_
    refine st_getR (kk := 5) rfl rfl rfl (pz_43_5 hP) rfl ?_
    refine st_aload_n rfl rfl (by decide) ?_
    refine st_getI (kk := 0) rfl rfl (by decide) rfl ?_
    rw [hf _ (by decide), hc0]
    refine st_iconst rfl ?_
    refine st_iastore rfl rfl (by omega) (by omega) ?_
    refine st_ret rfl ?_
    refine hx _ (fun o ho => by rw [am_up_ne ho]; exact hf o ho) (fun j hj => ?_) (by rw [am_up_eq, am_uf_eq])
    rw [am_up_eq, am_uf_ne _ _ (by omega)]
    exact g.2.1 j hj
  · intro k hk ih H' b w g
    have hf := g.1
    have hbk := g.2.2.1
    have hw := FI_w (by omega) hG g
    have hgx := hG.2.2 (k : Int) (by omega) (by omega)
    have hlk : k + 1 < n → lkF H a k = oneF a (H 45 (k : Int)) (H 45 ((k : Int) + 1)) := fun _ => rfl
    have h01 := oneF_01 a (H 45 (k : Int)) (H 45 ((k : Int) + 1))
    have hM' : RM H' 10 a := hM.cg hI (hf _ (by decide)) (hf _ (by decide)) (hf _ (by decide)) rfl (fun _ _ _ => rfl)
    refine st_iload rfl rfl ?_
    refine st_aload_n rfl rfl (by decide) ?_
    refine st_getI (kk := 0) rfl rfl (by decide) rfl ?_
    rw [hf _ (by decide), hc0]
    refine st_icmp_ge rfl (fun h34 => (by exfalso; omega)) (fun h34 => ?_)
    refine st_iload rfl rfl ?_
    refine st_aload_n rfl rfl (by decide) ?_
    refine st_getR (kk := 4) rfl rfl rfl (pz_43_4 hP) rfl ?_
    refine st_iload rfl rfl ?_
    refine st_iaload rfl rfl (by omega) (by omega) ?_
    rw [hf 47 (by decide)]
    refine st_iadd rfl (by omega) ?_
    refine st_istore (ls' := [_, _, _, _, _, _, _, _, _, _]) rfl (Nat.le_of_ble_eq_true rfl) rfl ?_
    refine st_iload rfl rfl ?_
    refine st_iconst rfl ?_
    refine st_iadd rfl (by omega) ?_
    refine st_aload_n rfl rfl (by decide) ?_
    refine st_getI (kk := 0) rfl rfl (by decide) rfl ?_
    rw [hf _ (by decide), hc0]
    refine st_icmp_eq rfl (fun h47 => ?_) (fun h47 => ?_)
    · refine st_aload_n rfl rfl (by decide) ?_
      refine st_iload rfl rfl ?_
      refine st_iload rfl rfl ?_
      refine st_iload rfl rfl ?_
      refine st_iload rfl rfl ?_
      refine st_icmp_le rfl (fun h67 => ?_) (fun h67 => ?_)
      · refine st_iconst rfl ?_
        refine st_cv0 (w := []) rfl rfl rfl (Nat.le_of_ble_eq_true rfl) (Nat.le_of_ble_eq_true rfl) rfl rfl (r_Shifter_markEnds hP (by omega)) ?_
        refine st_iload rfl rfl ?_
        refine st_iconst rfl ?_
        refine st_iadd rfl (by omega) ?_
        refine st_istore (ls' := [_, _, _, _, _, _, _, _, _, _]) rfl (Nat.le_of_ble_eq_true rfl) rfl ?_
        refine st_iconst rfl ?_
        refine st_istore (ls' := [_, _, _, _, _, _, _, _, _, _]) rfl (Nat.le_of_ble_eq_true rfl) rfl ?_
        refine st_iinc (ls' := [_, _, _, _, _, _, _, _, _, _]) rfl rfl (by omega) rfl ?_
        refine st_goto rfl ?_
        first
        | (have hFI := FI_c (p := 1) hk g (by first | exact Or.inl (by omega) | exact Or.inr (by rw [hlk (by omega)]; omega)) (by rw [if_pos (by omega)])
           exact ih _ (k + 1) 0 hFI)
        | (have hFI := FI_c (p := 0) hk g (by first | exact Or.inl (by omega) | exact Or.inr (by rw [hlk (by omega)]; omega)) (by rw [if_neg (by omega)])
           exact ih _ (k + 1) 0 hFI)
        | (exact ih H' b _ (FI_n (by omega) g (by rw [hlk (by omega)]; omega)))
      · refine st_iconst rfl ?_
        refine st_goto rfl ?_
        refine st_cv0 (w := []) rfl rfl rfl (Nat.le_of_ble_eq_true rfl) (Nat.le_of_ble_eq_true rfl) rfl rfl (r_Shifter_markEnds hP (by omega)) ?_
        refine st_iload rfl rfl ?_
        refine st_iconst rfl ?_
        refine st_iadd rfl (by omega) ?_
        refine st_istore (ls' := [_, _, _, _, _, _, _, _, _, _]) rfl (Nat.le_of_ble_eq_true rfl) rfl ?_
        refine st_iconst rfl ?_
        refine st_istore (ls' := [_, _, _, _, _, _, _, _, _, _]) rfl (Nat.le_of_ble_eq_true rfl) rfl ?_
        refine st_iinc (ls' := [_, _, _, _, _, _, _, _, _, _]) rfl rfl (by omega) rfl ?_
        refine st_goto rfl ?_
        first
        | (have hFI := FI_c (p := 1) hk g (by first | exact Or.inl (by omega) | exact Or.inr (by rw [hlk (by omega)]; omega)) (by rw [if_pos (by omega)])
           exact ih _ (k + 1) 0 hFI)
        | (have hFI := FI_c (p := 0) hk g (by first | exact Or.inl (by omega) | exact Or.inr (by rw [hlk (by omega)]; omega)) (by rw [if_neg (by omega)])
           exact ih _ (k + 1) 0 hFI)
        | (exact ih H' b _ (FI_n (by omega) g (by rw [hlk (by omega)]; omega)))
    · refine st_aload_n rfl rfl (by decide) ?_
      refine st_getR (kk := 0) rfl rfl rfl (pz_10_0 hP) rfl ?_
      refine st_aload_n rfl rfl (by decide) ?_
      refine st_getR (kk := 2) rfl rfl rfl (pz_43_2 hP) rfl ?_
      refine st_iload rfl rfl ?_
      refine st_iaload rfl rfl (by omega) (by omega) ?_
      rw [hf 45 (by decide)]
      refine st_aload_n rfl rfl (by decide) ?_
      refine st_getR (kk := 2) rfl rfl rfl (pz_43_2 hP) rfl ?_
      refine st_iload rfl rfl ?_
      refine st_iconst rfl ?_
      refine st_iadd rfl (by omega) ?_
      refine st_iaload rfl rfl (by omega) (by omega) ?_
      rw [hf 45 (by decide)]
      have hgy := hG.2.2 ((k : Int) + 1) (by omega) (by omega)
      refine st_cv1 (w := []) rfl rfl rfl (Nat.le_of_ble_eq_true rfl) (Nat.le_of_ble_eq_true rfl) rfl rfl (r_Marks_areOfOneWork hP hI hW hM' hgx.1 hgy.1) ?_
      refine st_if_ne rfl (fun h61 => ?_) (fun h61 => ?_)
      · refine st_iinc (ls' := [_, _, _, _, _, _, _, _, _, _]) rfl rfl (by omega) rfl ?_
        refine st_goto rfl ?_
        first
        | (have hFI := FI_c (p := 1) hk g (by first | exact Or.inl (by omega) | exact Or.inr (by rw [hlk (by omega)]; omega)) (by rw [if_pos (by omega)])
           exact ih _ (k + 1) 0 hFI)
        | (have hFI := FI_c (p := 0) hk g (by first | exact Or.inl (by omega) | exact Or.inr (by rw [hlk (by omega)]; omega)) (by rw [if_neg (by omega)])
           exact ih _ (k + 1) 0 hFI)
        | (exact ih H' b _ (FI_n (by omega) g (by rw [hlk (by omega)]; omega)))
      · refine st_aload_n rfl rfl (by decide) ?_
        refine st_iload rfl rfl ?_
        refine st_iload rfl rfl ?_
        refine st_iload rfl rfl ?_
        refine st_iload rfl rfl ?_
        refine st_icmp_le rfl (fun h67 => ?_) (fun h67 => ?_)
        · refine st_iconst rfl ?_
          refine st_cv0 (w := []) rfl rfl rfl (Nat.le_of_ble_eq_true rfl) (Nat.le_of_ble_eq_true rfl) rfl rfl (r_Shifter_markEnds hP (by omega)) ?_
          refine st_iload rfl rfl ?_
          refine st_iconst rfl ?_
          refine st_iadd rfl (by omega) ?_
          refine st_istore (ls' := [_, _, _, _, _, _, _, _, _, _]) rfl (Nat.le_of_ble_eq_true rfl) rfl ?_
          refine st_iconst rfl ?_
          refine st_istore (ls' := [_, _, _, _, _, _, _, _, _, _]) rfl (Nat.le_of_ble_eq_true rfl) rfl ?_
          refine st_iinc (ls' := [_, _, _, _, _, _, _, _, _, _]) rfl rfl (by omega) rfl ?_
          refine st_goto rfl ?_
          first
          | (have hFI := FI_c (p := 1) hk g (by first | exact Or.inl (by omega) | exact Or.inr (by rw [hlk (by omega)]; omega)) (by rw [if_pos (by omega)])
             exact ih _ (k + 1) 0 hFI)
          | (have hFI := FI_c (p := 0) hk g (by first | exact Or.inl (by omega) | exact Or.inr (by rw [hlk (by omega)]; omega)) (by rw [if_neg (by omega)])
             exact ih _ (k + 1) 0 hFI)
          | (exact ih H' b _ (FI_n (by omega) g (by rw [hlk (by omega)]; omega)))
        · refine st_iconst rfl ?_
          refine st_goto rfl ?_
          refine st_cv0 (w := []) rfl rfl rfl (Nat.le_of_ble_eq_true rfl) (Nat.le_of_ble_eq_true rfl) rfl rfl (r_Shifter_markEnds hP (by omega)) ?_
          refine st_iload rfl rfl ?_
          refine st_iconst rfl ?_
          refine st_iadd rfl (by omega) ?_
          refine st_istore (ls' := [_, _, _, _, _, _, _, _, _, _]) rfl (Nat.le_of_ble_eq_true rfl) rfl ?_
          refine st_iconst rfl ?_
          refine st_istore (ls' := [_, _, _, _, _, _, _, _, _, _]) rfl (Nat.le_of_ble_eq_true rfl) rfl ?_
          refine st_iinc (ls' := [_, _, _, _, _, _, _, _, _, _]) rfl rfl (by omega) rfl ?_
          refine st_goto rfl ?_
          first
          | (have hFI := FI_c (p := 1) hk g (by first | exact Or.inl (by omega) | exact Or.inr (by rw [hlk (by omega)]; omega)) (by rw [if_pos (by omega)])
             exact ih _ (k + 1) 0 hFI)
          | (have hFI := FI_c (p := 0) hk g (by first | exact Or.inl (by omega) | exact Or.inr (by rw [hlk (by omega)]; omega)) (by rw [if_neg (by omega)])
             exact ih _ (k + 1) 0 hFI)
          | (exact ih H' b _ (FI_n (by omega) g (by rw [hlk (by omega)]; omega)))
theorem l1_findEnds {d N : Nat} {P : am_P} {H : am_H} {a : Int → Int} {Q : Option am_V → am_S → Prop} {f l gr : Int} {n : Nat} (hP : PZ P) (hI : Inv a) (hW : InvW a) (hM : RM H 10 a) (hG : GX H a n) (hT : RT H 10 a) (hf : 0 ≤ f ∧ f ≤ l ∧ l < a 2) (hx : ∀ w6, am_WP (am_R (d + 4)) cd_Shifter_findEnds Q 19 [some (am_r 43), some (am_r 10), some (am_i f), some (am_i l), some (am_i gr), some (am_i (nrL a f (l + 1 - f).toNat)), w6, none, none, none] [] (N, P, H)) : ∀ j : Nat, j ≤ (l + 1 - f).toNat → ∀ w, (w = nrL a f j ∨ (j = 0 ∧ w = swA a f)) → am_WP (am_R (d + 4)) cd_Shifter_findEnds Q 7 [some (am_r 43), some (am_r 10), some (am_i f), some (am_i l), some (am_i gr), some (am_i w), some (am_i (f + (j : Int))), none, none, none] [] (N, P, H) := by
  have hn := hI.n
  refine up_ind (n := (l + 1 - f).toNat) ?_ ?_
  · intro w hw
    have hw : w = nrL a f (l + 1 - f).toNat := by rcases hw with h | h <;> omega
    rw [hw]
    refine st_iload rfl rfl ?_
    refine st_iload_n rfl rfl ?_
    refine st_icmp_gt rfl (fun h9 => ?_) (fun h9 => (by exfalso; omega))
    exact hx _
  · intro j hj ih w hw
    have hs : nrL a f (j + 1) = if a (6670 + 32 * (f + (j : Int))) < nrL a f j then a (6670 + 32 * (f + (j : Int))) else nrL a f j := rfl
    have hsw : swA a (f + (j : Int)) = a (6670 + 32 * (f + (j : Int))) := if_pos ⟨by omega, by omega⟩
    have hr := nrL_r hI hf.1 j (by omega)
    have hwd := (hI.s.2.1 (f + (j : Int)) (by omega) (by omega)).1
    refine st_iload rfl rfl ?_
    refine st_iload_n rfl rfl ?_
    refine st_icmp_gt rfl (fun h9 => (by exfalso; omega)) (fun h9 => ?_)
    refine st_iload rfl rfl ?_
    refine st_aload_n rfl rfl (by decide) ?_
    refine st_getR (kk := 1) rfl rfl rfl (pz_10_1 hP) rfl ?_
    refine st_iload rfl rfl ?_
    refine st_cv1 (w := [_]) rfl rfl rfl (Nat.le_of_ble_eq_true rfl) (Nat.le_of_ble_eq_true rfl) rfl rfl (r_Stacks_widthOf hP hI hT) ?_
    rw [hsw]
    refine st_min rfl (Nat.le_of_ble_eq_true rfl) ?_
    refine st_istore (ls' := [_, _, _, _, _, _, _, _, _, _]) rfl (Nat.le_of_ble_eq_true rfl) rfl ?_
    refine st_iinc (ls' := [_, _, _, _, _, _, _, _, _, _]) rfl rfl (by omega) rfl ?_
    refine st_goto rfl ?_
    rw [show f + (j : Int) + 1 = f + ((j + 1 : Nat) : Int) by omega]
    refine ih _ (Or.inl ?_)
    rw [hs]
    rcases hw with h | ⟨h1, h2⟩
    · rw [h]
    · subst h1
      rw [show f + ((0 : Nat) : Int) = f by omega] at hsw hwd ⊢
      rw [h2, hsw, if_neg (Int.lt_irrefl _)]
      show _ = if a (6670 + 32 * f) < 2000 then a (6670 + 32 * f) else 2000
      split <;> omega
theorem c_findEnds {d N : Nat} {P : am_P} {H : am_H} {a : Int → Int} {f l gr : Int} {n : Nat} (hP : PZ P) (hI : Inv a) (hW : InvW a) (hM : RM H 10 a) (hT : RT H 10 a) (hG : GX H a n) (hf : 0 ≤ f ∧ f ≤ l ∧ l < a 2) (hgr : 0 ≤ gr ∧ gr ≤ 100) : am_C (d + 5) 200 [am_r 43, am_r 10, am_i f, am_i l, am_i gr] (N, P, H) (fun v σ => v = none ∧ ∃ H' : am_H, σ = (N, P, H') ∧ (∀ o, o ≠ 48 → H' o = H o) ∧ (∀ j : Nat, j < n → H' 48 (j : Int) = pdV (H 47) (lkF H a) n (nrL a f (l + 1 - f).toNat * gr / 100) j) ∧ H' 48 (n : Int) = 1) := by
  refine am_enC (d := d + 4) (ml := 10) (ls := [_, _, _, _, _, _, _, _, _, _]) cq_Shifter_findEnds rfl (Nat.le_of_ble_eq_true rfl) rfl ?_
  have hn := hI.n
  have hr := nrL_r hI hf.1 (l + 1 - f).toNat (by omega)
  have hm := mulb (x := nrL a f (l + 1 - f).toNat) (y := gr) (A := 2000) (B := 100) (by omega) hr.2 hgr.1 hgr.2
  refine st_aload_n rfl rfl (by decide) ?_
  refine st_getR (kk := 1) rfl rfl rfl (pz_10_1 hP) rfl ?_
  refine st_iload_n rfl rfl ?_
  refine st_cv1 (w := []) rfl rfl rfl (Nat.le_of_ble_eq_true rfl) (Nat.le_of_ble_eq_true rfl) rfl rfl (r_Stacks_widthOf hP hI hT) ?_
  refine st_istore (ls' := [_, _, _, _, _, _, _, _, _, _]) rfl (Nat.le_of_ble_eq_true rfl) rfl ?_
  refine st_iload_n rfl rfl ?_
  refine st_istore (ls' := [_, _, _, _, _, _, _, _, _, _]) rfl (Nat.le_of_ble_eq_true rfl) rfl ?_
  have hz := l1_findEnds (d := d) (N := N) (gr := gr) (Q := (fun v σ => v = none ∧ ∃ H' : am_H, σ = (N, P, H') ∧ (∀ o, o ≠ 48 → H' o = H o) ∧ (∀ j : Nat, j < n → H' 48 (j : Int) = pdV (H 47) (lkF H a) n (nrL a f (l + 1 - f).toNat * gr / 100) j) ∧ H' 48 (n : Int) = 1)) hP hI hW hM hG hT hf (fun w6 => ?_) 0 (Nat.zero_le _) (swA a f) (Or.inr ⟨rfl, rfl⟩)
  · rw [show f + ((0 : Nat) : Int) = f by omega] at hz
    exact hz
  · refine st_iload rfl rfl ?_
    refine st_iload rfl rfl ?_
    refine st_imul rfl (by omega) ?_
    refine st_bipush rfl ?_
    refine st_idiv rfl (by omega) (by omega) (by omega) ?_
    refine st_istore (ls' := [_, _, _, _, _, _, _, _, _, _]) rfl (Nat.le_of_ble_eq_true rfl) rfl ?_
    refine st_iconst rfl ?_
    refine st_istore (ls' := [_, _, _, _, _, _, _, _, _, _]) rfl (Nat.le_of_ble_eq_true rfl) rfl ?_
    refine st_iconst rfl ?_
    refine st_istore (ls' := [_, _, _, _, _, _, _, _, _, _]) rfl (Nat.le_of_ble_eq_true rfl) rfl ?_
    refine st_iconst rfl ?_
    refine st_istore (ls' := [_, _, _, _, _, _, _, _, _, _]) rfl (Nat.le_of_ble_eq_true rfl) rfl ?_
    refine l2_findEnds hP hI hW hM hG (fun H' h1 h2 h3 => ⟨rfl, H', rfl, h1, h2, h3⟩) 0 (Nat.zero_le _) H 0 0 ⟨fun _ _ => rfl, fun j hj => by omega, Nat.le_refl _, fun _ => rfl, fun x x0 x1 => by omega, rfl, fun z => z⟩
