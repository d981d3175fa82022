/-! ===== the class: the relation kept ===== -/
theorem RM_cg {H H' : am_H} {b b' : Nat} {a a' : Int → Int} (h1 : H' (b' + 1) = H (b + 1)) (h2 : H' (b' + 2) = H (b + 2)) (h3 : H' (b' + 3) = H (b + 3)) (g1 : a' 1 = a 1) (g : ∀ k, 70 ≤ k → k < 6670 → a' k = a k) (hn : a 1 ≤ 200) (hl : ∀ m, 0 ≤ m → m < a 1 → lenF a m ≤ 8) (h : RM H b a) : RM H' b' a' := by
  obtain ⟨q0, q1, q2⟩ := h
  have el : ∀ m, 0 ≤ m → m < a 1 → lenF a' m = lenF a m := fun m m0 m1 => g _ (by omega) (by omega)
  refine ⟨by rw [h1, g1, q0], fun m m0 m1 => ?_, fun m k m0 m1 k0 k1 => ?_⟩
  · rw [g1] at m1
    rw [h2, el m m0 m1]
    exact q1 m m0 m1
  · rw [g1] at m1
    rw [el m m0 m1] at k1
    have := hl m m0 m1
    have e : ∀ w, 0 ≤ w → w < 4 → prtF a' m k w = prtF a m k w := fun w w0 w1 => g _ (by omega) (by omega)
    rw [h3, e 0 (by omega) (by omega), e 1 (by omega) (by omega), e 2 (by omega) (by omega), e 3 (by omega) (by omega)]
    exact q2 m k m0 m1 k0 k1
theorem RM.cg {H H' : am_H} {b b' : Nat} {a a' : Int → Int} (h : RM H b a) (hI : Inv a) (h1 : H' (b' + 1) = H (b + 1)) (h2 : H' (b' + 2) = H (b + 2)) (h3 : H' (b' + 3) = H (b + 3)) (g1 : a' 1 = a 1) (g : ∀ k, 70 ≤ k → k < 6670 → a' k = a k) : RM H' b' a' :=
  RM_cg h1 h2 h3 g1 g hI.n.1.2 (fun m m0 m1 => (hI.mv m0 m1).2.1.2) h
theorem RT.cg {H H' : am_H} {b b' : Nat} {a a' : Int → Int} (h : RT H b a) (hI : Inv a) (hh : ∀ k, 4 ≤ k → k ≤ 15 → H' (b' + k) = H (b + k)) (g2 : a' 2 = a 2) (g3 : a' 3 = a 3) (g : ∀ k, 6670 ≤ k → k < 8782 → a' k = a k) : RT H' b' a' := by
  have hn := hI.n
  obtain ⟨q0, q1, q2, q3, q4⟩ := h
  refine ⟨by rw [hh 4 (by decide) (by decide), g2, q0], by rw [hh 4 (by decide) (by decide), g3, q1], fun s s0 s1 => ?_, fun s p s0 s1 p0 p1 => ?_, fun x x0 x1 => ?_⟩
  · rw [g2] at s1
    rw [hh 5 (by decide) (by decide), hh 6 (by decide) (by decide), g _ (by omega) (by omega), g _ (by omega) (by omega)]
    exact q2 s s0 s1
  · rw [g2] at s1
    rw [hh 7 (by decide) (by decide), show thgF a' s p = thgF a s p from g _ (by omega) (by omega)]
    exact q3 s p s0 s1 p0 p1
  · rw [g3] at x1
    have e : ∀ w, 0 ≤ w → w < 8 → bkF a' x w = bkF a x w := fun w w0 w1 => g _ (by omega) (by omega)
    rw [hh 8 (by decide) (by decide), hh 9 (by decide) (by decide), hh 10 (by decide) (by decide), hh 11 (by decide) (by decide), hh 12 (by decide) (by decide), hh 13 (by decide) (by decide), hh 14 (by decide) (by decide), hh 15 (by decide) (by decide), e 0 (by omega) (by omega), e 1 (by omega) (by omega), e 2 (by omega) (by omega), e 3 (by omega) (by omega), e 4 (by omega) (by omega), e 5 (by omega) (by omega), e 6 (by omega) (by omega), e 7 (by omega) (by omega)]
    exact q4 x x0 x1
theorem RR.cg {H H' : am_H} {b b' : Nat} {a a' : Int → Int} (h : RR H b a) (hI : Inv a) (h1 : H' (b' + 16) = H (b + 16)) (h2 : H' (b' + 17) = H (b + 17)) (g : ∀ k, 5 ≤ k → k < 67 → a' k = a k) : RR H' b' a' := by
  have hh := hI.h.2.1
  obtain ⟨q0, q1⟩ := h
  refine ⟨by rw [h1, g 5 (by omega) (by omega), q0], fun z => ?_⟩
  rw [g 5 (by omega) (by omega)] at z
  obtain ⟨q1, q2⟩ := q1 z
  rw [h1, h2, g 6 (by omega) (by omega)]
  refine ⟨q1, fun k k0 k1 => ?_⟩
  rw [g _ (by omega) (by omega)]
  exact q2 k k0 k1
theorem cntL_cg {a a' : Int → Int} (g : ∀ k, 8782 ≤ k → k < 8982 → a' k = a k) : ∀ n : Nat, n ≤ 200 → cntL a' n = cntL a n
  | 0, _ => rfl
  | n + 1, h => by
    simp only [cntL]
    rw [cntL_cg g n (by omega), g _ (by omega) (by omega)]
theorem RC.cg {H H' : am_H} {b b' : Nat} {a a' : Int → Int} (h : RC H b a) (hI : Inv a) (hh : ∀ k, 18 ≤ k → k ≤ 22 → H' (b' + k) = H (b + k)) (g1 : a' 1 = a 1) (g : ∀ k, 8782 ≤ k → k < 10374 → a' k = a k) : RC H' b' a' := by
  have hn := hI.n
  have hl := hI.l.2
  obtain ⟨q0, q1, q2⟩ := h
  refine ⟨by rw [hh 18 (by decide) (by decide), g1, q0, cntL_cg (a := a) (a' := a') (fun k k0 k1 => g k k0 (by omega)) _ (by omega)], fun m m0 m1 => ?_, fun s s0 s1 => ?_⟩
  · rw [hh 19 (by decide) (by decide), hh 20 (by decide) (by decide), g _ (by omega) (by omega), g _ (by omega) (by omega), g _ (by omega) (by omega)]
    exact q1 m m0 m1
  · have := hl s s0 s1
    rw [hh 21 (by decide) (by decide), hh 22 (by decide) (by decide), g _ (by omega) (by omega), g _ (by omega) (by omega)]
    refine ⟨(q2 s s0 s1).1, fun z k k0 k1 => ?_⟩
    rw [g _ (by omega) (by omega)]
    exact (q2 s s0 s1).2 z k k0 k1
theorem RG.cg {H H' : am_H} {b b' : Nat} {a a' : Int → Int} (h : RG H b a) (hI : Inv a) (hh : ∀ k, 23 ≤ k → k ≤ 26 → H' (b' + k) = H (b + k)) (g4 : a' 4 = a 4) (g : ∀ k, 10374 ≤ k → k < 10410 → a' k = a k) : RG H' b' a' := by
  have hn := hI.n
  obtain ⟨q0, q1⟩ := h
  refine ⟨by rw [hh 23 (by decide) (by decide), g4, q0], fun x x0 x1 => ?_⟩
  rw [g4] at x1
  rw [hh 24 (by decide) (by decide), hh 25 (by decide) (by decide), hh 26 (by decide) (by decide), g _ (by omega) (by omega), g _ (by omega) (by omega), g _ (by omega) (by omega)]
  exact q1 x x0 x1
theorem RS.cg {H H' : am_H} {b b' : Nat} {a a' : Int → Int} (h : RS H b a) (hI : Inv a) (hh : ∀ k, k ≤ 26 → H' (b' + k) = H (b + k)) (g : ∀ k, 0 ≤ k → k < 10410 → a' k = a k) : RS H' b' a' := by
  obtain ⟨q0, q1, q2, q3, q4, q5⟩ := h
  refine ⟨?_, q1.cg hI (hh 1 (by decide)) (hh 2 (by decide)) (hh 3 (by decide)) (g 1 (by omega) (by omega)) (fun k k0 k1 => g k (by omega) (by omega)), q2.cg hI (fun k _ k1 => hh k (by omega)) (g 2 (by omega) (by omega)) (g 3 (by omega) (by omega)) (fun k k0 k1 => g k (by omega) (by omega)), q3.cg hI (hh 16 (by decide)) (hh 17 (by decide)) (fun k k0 k1 => g k (by omega) (by omega)), q4.cg hI (fun k _ k1 => hh k (by omega)) (g 1 (by omega) (by omega)) (fun k k0 k1 => g k (by omega) (by omega)), q5.cg hI (fun k _ k1 => hh k (by omega)) (g 4 (by omega) (by omega)) (fun k k0 k1 => g k (by omega) (by omega))⟩
  have := hh 0 (by decide)
  simp only [Nat.add_zero] at this
  rw [this, g 0 (by omega) (by omega), q0]
theorem RM.so {H : am_H} {a : Int → Int} {o : Nat} {f : Int → Int} (h : RM H 10 a) (ho : o < 11 ∨ 13 < o) : RM (am_so H o f) 10 a := by
  have e : ∀ k, 11 ≤ k → k ≤ 13 → am_so H o f k = H k := fun k _ _ => am_so_ne _ _ (by omega)
  exact ⟨by rw [e _ (by decide) (by decide)]; exact h.1, fun m m0 m1 => by rw [e _ (by decide) (by decide)]; exact h.2.1 m m0 m1, fun m k m0 m1 k0 k1 => by rw [e _ (by decide) (by decide)]; exact h.2.2 m k m0 m1 k0 k1⟩
theorem RT.so {H : am_H} {a : Int → Int} {o : Nat} {f : Int → Int} (h : RT H 10 a) (ho : o < 14 ∨ 25 < o) : RT (am_so H o f) 10 a := by
  have e : ∀ k, 14 ≤ k → k ≤ 25 → am_so H o f k = H k := fun k _ _ => am_so_ne _ _ (by omega)
  obtain ⟨q0, q1, q2, q3, q4⟩ := h
  refine ⟨by rw [e _ (by decide) (by decide)]; exact q0, by rw [e _ (by decide) (by decide)]; exact q1, fun s s0 s1 => ?_, fun s p s0 s1 p0 p1 => ?_, fun x x0 x1 => ?_⟩
  · rw [e (10 + 5) (by decide) (by decide), e (10 + 6) (by decide) (by decide)]; exact q2 s s0 s1
  · rw [e (10 + 7) (by decide) (by decide)]; exact q3 s p s0 s1 p0 p1
  · rw [e (10 + 8) (by decide) (by decide), e (10 + 9) (by decide) (by decide), e (10 + 10) (by decide) (by decide), e (10 + 11) (by decide) (by decide), e (10 + 12) (by decide) (by decide), e (10 + 13) (by decide) (by decide), e (10 + 14) (by decide) (by decide), e (10 + 15) (by decide) (by decide)]; exact q4 x x0 x1
theorem RR.so {H : am_H} {a : Int → Int} {o : Nat} {f : Int → Int} (h : RR H 10 a) (ho : o < 26 ∨ 27 < o) : RR (am_so H o f) 10 a := by
  have e : ∀ k, 26 ≤ k → k ≤ 27 → am_so H o f k = H k := fun k _ _ => am_so_ne _ _ (by omega)
  unfold RR
  rw [e _ (by decide) (by decide), e _ (by decide) (by decide)]
  exact h

theorem RT_lv4 {H : am_H} {a : Int → Int} {b : Int} (hI : Inv a) (hT : RT H 10 a) (hb : 0 ≤ b ∧ b < a 3) : RT (ntH (slH H (a 2) (H 22 b) (H 23 b) (-1)) 22 b (-1) (-1)) 10 (lvF a b 4) := by
  have hn := hI.n
  have hp := hI.pos hb.1 hb.2 (f := 4) (by omega)
  have hB := hI.b.2 b hb.1 hb.2
  have hb2 : 0 ≤ b ∧ b < 200 := by omega
  obtain ⟨q0, q1, q2, q3, q4⟩ := hT
  have hq := q4 b hb.1 hb.2
  have e4 : H 22 b = bkF a b 4 := by first | exact hq.2.2.2.2.1 | exact hq.2.2.2.2.2.2.1
  have e5 : H 23 b = bkF a b 5 := by first | exact hq.2.2.2.2.2.1 | exact hq.2.2.2.2.2.2.2
  rw [e4, e5]
  have hS : ∀ k : Nat, k ≠ 17 → slH H (a 2) (bkF a b 4) (bkF a b 5) (-1) k = H k := fun k hk => by
    unfold slH
    split
    · exact am_so_ne _ _ hk
    · rfl
  have hE : ∀ k : Nat, k ≠ 17 → k ≠ 22 → k ≠ 23 → ntH (slH H (a 2) (bkF a b 4) (bkF a b 5) (-1)) 22 b (-1) (-1) k = H k := fun k hk k1 k2 => by
    unfold ntH am_up
    rw [am_so_ne _ _ k2, am_so_ne _ _ k1, hS k hk]
  have h17 : ntH (slH H (a 2) (bkF a b 4) (bkF a b 5) (-1)) 22 b (-1) (-1) 17 = slH H (a 2) (bkF a b 4) (bkF a b 5) (-1) 17 := rfl
  have hA : ntH (slH H (a 2) (bkF a b 4) (bkF a b 5) (-1)) 22 b (-1) (-1) 22 = am_uf (H 22) b (-1) := by
    unfold ntH am_up
    rw [am_so_ne _ _ (by decide), am_so_at, hS _ (by decide)]
  have hC : ntH (slH H (a 2) (bkF a b 4) (bkF a b 5) (-1)) 22 b (-1) (-1) 23 = am_uf (H 23) b (-1) := by
    unfold ntH am_up
    rw [am_so_at, am_so_ne _ _ (by decide), hS _ (by decide)]
  have hlo : ∀ k, k < 6672 ∨ 8782 ≤ k → lvF a b 4 k = a k := fun k hk => lvF_o hb2 (by omega) hp hk
  refine ⟨by rw [hE _ (by decide) (by decide) (by decide), hlo _ (by omega)]; exact q0, by rw [hE _ (by decide) (by decide) (by decide), hlo _ (by omega)]; exact q1, fun s s0 s1 => ?_, fun s p s0 s1 p0 p1 => ?_, fun x x0 x1 => ?_⟩
  · rw [hlo _ (by omega)] at s1
    have e0 := lvF_s (a := a) (b := b) (f := 4) (s := s) (w := 0) hb2 (by omega) hp (by omega) (by omega)
    rw [Int.add_zero] at e0
    rw [hE _ (by decide) (by decide) (by decide), hE (10 + 6) (by decide) (by decide) (by decide), e0, lvF_s hb2 (by omega) hp (by omega) (by omega)]
    exact q2 s s0 s1
  · rw [hlo _ (by omega)] at s1
    rw [lvF_t hb2 (by omega) hp (by omega) ⟨p0, p1⟩]
    show ntH (slH H (a 2) (bkF a b 4) (bkF a b 5) (-1)) 22 b (-1) (-1) 17 (s * 30 + p) = if s = bkF a b 4 ∧ p = bkF a b 5 then -1 else thgF a s p
    have q3 := q3 s p s0 s1 p0 p1
    rw [h17]
    unfold slH
    have hB := hB.2.2.2.1
    by_cases hz : 0 ≤ bkF a b 4
    · have hz2 := hp hz
      have hz3 : bkF a b (4 + 1) = bkF a b 5 := rfl
      rw [if_pos (by omega)]
      show am_uf (H 17) (bkF a b 4 * 30 + bkF a b 5) (-1) (s * 30 + p) = _
      by_cases hc : s = bkF a b 4 ∧ p = bkF a b 5
      · rw [if_pos hc, hc.1, hc.2, am_uf_eq]
      · rw [if_neg hc, am_uf_ne _ _ (by omega)]
        exact q3
    · rw [if_neg (by omega), if_neg (by omega)]
      exact q3
  · rw [hlo _ (by omega)] at x1
    have hbk : ∀ w, 0 ≤ w → w < 8 → bkF (lvF a b 4) x w = if x = b ∧ (w = 4 ∨ w = 4 + 1) then -1 else bkF a x w := fun w w0 w1 => lvF_b hb2 (by omega) hp x0 ⟨w0, w1⟩
    rw [hbk 0 (by omega) (by omega), hbk 1 (by omega) (by omega), hbk 2 (by omega) (by omega), hbk 3 (by omega) (by omega), hbk 4 (by omega) (by omega), hbk 5 (by omega) (by omega), hbk 6 (by omega) (by omega), hbk 7 (by omega) (by omega)]
    have q4 := q4 x x0 x1
    rw [if_neg (show ¬ (x = b ∧ ((0 : Int) = 4 ∨ (0 : Int) = 4 + 1)) by omega)]; rw [if_neg (show ¬ (x = b ∧ ((1 : Int) = 4 ∨ (1 : Int) = 4 + 1)) by omega)]; rw [if_neg (show ¬ (x = b ∧ ((2 : Int) = 4 ∨ (2 : Int) = 4 + 1)) by omega)]; rw [if_neg (show ¬ (x = b ∧ ((3 : Int) = 4 ∨ (3 : Int) = 4 + 1)) by omega)]; rw [if_neg (show ¬ (x = b ∧ ((6 : Int) = 4 ∨ (6 : Int) = 4 + 1)) by omega)]; rw [if_neg (show ¬ (x = b ∧ ((7 : Int) = 4 ∨ (7 : Int) = 4 + 1)) by omega)];
    rw [hE (10 + 8) (by decide) (by decide) (by decide)]; rw [hE (10 + 9) (by decide) (by decide) (by decide)]; rw [hE (10 + 10) (by decide) (by decide) (by decide)]; rw [hE (10 + 11) (by decide) (by decide) (by decide)]; rw [hE (10 + 14) (by decide) (by decide) (by decide)]; rw [hE (10 + 15) (by decide) (by decide) (by decide)];
    rw [show ntH (slH H (a 2) (bkF a b 4) (bkF a b 5) (-1)) 22 b (-1) (-1) (10 + 12) = am_uf (H 22) b (-1) from hA, show ntH (slH H (a 2) (bkF a b 4) (bkF a b 5) (-1)) 22 b (-1) (-1) (10 + 13) = am_uf (H 23) b (-1) from hC]
    by_cases hx : x = b
    · subst hx
      rw [am_uf_eq, am_uf_eq, if_pos (by omega), if_pos (by omega)]
      obtain ⟨r0, r1, r2, r3, r4, r5, r6, r7⟩ := q4
      exact ⟨r0, r1, r2, r3, rfl, rfl, r6, r7⟩
    · rw [am_uf_ne _ _ hx, am_uf_ne _ _ hx, if_neg (by omega), if_neg (by omega)]
      exact q4
theorem RT_pt4 {H : am_H} {a : Int → Int} {b s p : Int} (hI : Inv a) (hT : RT H 10 a) (hb : 0 ≤ b ∧ b < a 3) (hs : 0 ≤ s ∧ s < a 2) (hq : 0 ≤ p ∧ p < 30) : RT (ntH (stH H s p (b)) 22 b s p) 10 (ptF a b 4 s p) := by
  have hn := hI.n
  have hb2 : 0 ≤ b ∧ b < 200 := by omega
  have hs2 : 0 ≤ s ∧ s < 16 := by omega
  obtain ⟨q0, q1, q2, q3, q4⟩ := hT
  have hE : ∀ k : Nat, k ≠ 17 → k ≠ 22 → k ≠ 23 → ntH (stH H s p (b)) 22 b s p k = H k := fun k hk k1 k2 => by
    unfold ntH stH am_up
    rw [am_so_ne _ _ k2, am_so_ne _ _ k1, am_so_ne _ _ hk]
  have hlo : ∀ k, k < 6672 ∨ 8782 ≤ k → ptF a b 4 s p k = a k := fun k hk => ptF_o hb2 (by omega) hs2 hq hk
  refine ⟨by rw [hE _ (by decide) (by decide) (by decide), hlo _ (by omega)]; exact q0, by rw [hE _ (by decide) (by decide) (by decide), hlo _ (by omega)]; exact q1, fun s' s0 s1 => ?_, fun s' p' s0 s1 p0 p1 => ?_, fun x x0 x1 => ?_⟩
  · rw [hlo _ (by omega)] at s1
    have e0 := ptF_s (a := a) (b := b) (f := 4) (s := s) (p := p) (s' := s') (w := 0) hb2 (by omega) hs2 hq (by omega) (by omega)
    rw [Int.add_zero] at e0
    rw [hE _ (by decide) (by decide) (by decide), hE (10 + 6) (by decide) (by decide) (by decide), e0, ptF_s hb2 (by omega) hs2 hq (by omega) (by omega)]
    exact q2 s' s0 s1
  · rw [hlo _ (by omega)] at s1
    rw [ptF_t hb2 (by omega) hs2 hq (by omega) ⟨p0, p1⟩]
    show am_uf (H 17) (s * 30 + p) (b) (s' * 30 + p') = _
    by_cases hc : s' = s ∧ p' = p
    · rw [if_pos hc, hc.1, hc.2, am_uf_eq]
      rfl
    · rw [if_neg hc, am_uf_ne _ _ (by omega)]
      exact q3 s' p' s0 s1 p0 p1
  · rw [hlo _ (by omega)] at x1
    have hbk : ∀ w, 0 ≤ w → w < 8 → bkF (ptF a b 4 s p) x w = if x = b ∧ w = 4 then s else if x = b ∧ w = 4 + 1 then p else bkF a x w := fun w w0 w1 => ptF_b hb2 (by omega) hs2 hq x0 ⟨w0, w1⟩
    rw [hbk 0 (by omega) (by omega), hbk 1 (by omega) (by omega), hbk 2 (by omega) (by omega), hbk 3 (by omega) (by omega), hbk 4 (by omega) (by omega), hbk 5 (by omega) (by omega), hbk 6 (by omega) (by omega), hbk 7 (by omega) (by omega)]
    have q4 := q4 x x0 x1
    rw [if_neg (show ¬ (x = b ∧ (0 : Int) = 4) by omega), if_neg (show ¬ (x = b ∧ (0 : Int) = 4 + 1) by omega)]; rw [if_neg (show ¬ (x = b ∧ (1 : Int) = 4) by omega), if_neg (show ¬ (x = b ∧ (1 : Int) = 4 + 1) by omega)]; rw [if_neg (show ¬ (x = b ∧ (2 : Int) = 4) by omega), if_neg (show ¬ (x = b ∧ (2 : Int) = 4 + 1) by omega)]; rw [if_neg (show ¬ (x = b ∧ (3 : Int) = 4) by omega), if_neg (show ¬ (x = b ∧ (3 : Int) = 4 + 1) by omega)]; rw [if_neg (show ¬ (x = b ∧ (6 : Int) = 4) by omega), if_neg (show ¬ (x = b ∧ (6 : Int) = 4 + 1) by omega)]; rw [if_neg (show ¬ (x = b ∧ (7 : Int) = 4) by omega), if_neg (show ¬ (x = b ∧ (7 : Int) = 4 + 1) by omega)];
    rw [hE (10 + 8) (by decide) (by decide) (by decide)]; rw [hE (10 + 9) (by decide) (by decide) (by decide)]; rw [hE (10 + 10) (by decide) (by decide) (by decide)]; rw [hE (10 + 11) (by decide) (by decide) (by decide)]; rw [hE (10 + 14) (by decide) (by decide) (by decide)]; rw [hE (10 + 15) (by decide) (by decide) (by decide)];
    rw [show ntH (stH H s p (b)) 22 b s p (10 + 12) = am_uf (H 22) b s from rfl, show ntH (stH H s p (b)) 22 b s p (10 + 13) = am_uf (H 23) b p from rfl]
    by_cases hx : x = b
    · subst hx
      rw [am_uf_eq, am_uf_eq, if_pos (by omega), if_neg (by omega), if_pos (by omega)]
      obtain ⟨r0, r1, r2, r3, r4, r5, r6, r7⟩ := q4
      exact ⟨r0, r1, r2, r3, rfl, rfl, r6, r7⟩
    · rw [am_uf_ne _ _ hx, am_uf_ne _ _ hx, if_neg (by omega), if_neg (by omega), if_neg (by omega), if_neg (by omega)]
      exact q4

theorem RT_lv6 {H : am_H} {a : Int → Int} {b : Int} (hI : Inv a) (hT : RT H 10 a) (hb : 0 ≤ b ∧ b < a 3) : RT (ntH (slH H (a 2) (H 24 b) (H 25 b) (-1)) 24 b (-1) (-1)) 10 (lvF a b 6) := by
  have hn := hI.n
  have hp := hI.pos hb.1 hb.2 (f := 6) (by omega)
  have hB := hI.b.2 b hb.1 hb.2
  have hb2 : 0 ≤ b ∧ b < 200 := by omega
  obtain ⟨q0, q1, q2, q3, q4⟩ := hT
  have hq := q4 b hb.1 hb.2
  have e4 : H 24 b = bkF a b 6 := by first | exact hq.2.2.2.2.1 | exact hq.2.2.2.2.2.2.1
  have e5 : H 25 b = bkF a b 7 := by first | exact hq.2.2.2.2.2.1 | exact hq.2.2.2.2.2.2.2
  rw [e4, e5]
  have hS : ∀ k : Nat, k ≠ 17 → slH H (a 2) (bkF a b 6) (bkF a b 7) (-1) k = H k := fun k hk => by
    unfold slH
    split
    · exact am_so_ne _ _ hk
    · rfl
  have hE : ∀ k : Nat, k ≠ 17 → k ≠ 24 → k ≠ 25 → ntH (slH H (a 2) (bkF a b 6) (bkF a b 7) (-1)) 24 b (-1) (-1) k = H k := fun k hk k1 k2 => by
    unfold ntH am_up
    rw [am_so_ne _ _ k2, am_so_ne _ _ k1, hS k hk]
  have h17 : ntH (slH H (a 2) (bkF a b 6) (bkF a b 7) (-1)) 24 b (-1) (-1) 17 = slH H (a 2) (bkF a b 6) (bkF a b 7) (-1) 17 := rfl
  have hA : ntH (slH H (a 2) (bkF a b 6) (bkF a b 7) (-1)) 24 b (-1) (-1) 24 = am_uf (H 24) b (-1) := by
    unfold ntH am_up
    rw [am_so_ne _ _ (by decide), am_so_at, hS _ (by decide)]
  have hC : ntH (slH H (a 2) (bkF a b 6) (bkF a b 7) (-1)) 24 b (-1) (-1) 25 = am_uf (H 25) b (-1) := by
    unfold ntH am_up
    rw [am_so_at, am_so_ne _ _ (by decide), hS _ (by decide)]
  have hlo : ∀ k, k < 6672 ∨ 8782 ≤ k → lvF a b 6 k = a k := fun k hk => lvF_o hb2 (by omega) hp hk
  refine ⟨by rw [hE _ (by decide) (by decide) (by decide), hlo _ (by omega)]; exact q0, by rw [hE _ (by decide) (by decide) (by decide), hlo _ (by omega)]; exact q1, fun s s0 s1 => ?_, fun s p s0 s1 p0 p1 => ?_, fun x x0 x1 => ?_⟩
  · rw [hlo _ (by omega)] at s1
    have e0 := lvF_s (a := a) (b := b) (f := 6) (s := s) (w := 0) hb2 (by omega) hp (by omega) (by omega)
    rw [Int.add_zero] at e0
    rw [hE _ (by decide) (by decide) (by decide), hE (10 + 6) (by decide) (by decide) (by decide), e0, lvF_s hb2 (by omega) hp (by omega) (by omega)]
    exact q2 s s0 s1
  · rw [hlo _ (by omega)] at s1
    rw [lvF_t hb2 (by omega) hp (by omega) ⟨p0, p1⟩]
    show ntH (slH H (a 2) (bkF a b 6) (bkF a b 7) (-1)) 24 b (-1) (-1) 17 (s * 30 + p) = if s = bkF a b 6 ∧ p = bkF a b 7 then -1 else thgF a s p
    have q3 := q3 s p s0 s1 p0 p1
    rw [h17]
    unfold slH
    have hB := hB.2.2.2.2
    by_cases hz : 0 ≤ bkF a b 6
    · have hz2 := hp hz
      have hz3 : bkF a b (6 + 1) = bkF a b 7 := rfl
      rw [if_pos (by omega)]
      show am_uf (H 17) (bkF a b 6 * 30 + bkF a b 7) (-1) (s * 30 + p) = _
      by_cases hc : s = bkF a b 6 ∧ p = bkF a b 7
      · rw [if_pos hc, hc.1, hc.2, am_uf_eq]
      · rw [if_neg hc, am_uf_ne _ _ (by omega)]
        exact q3
    · rw [if_neg (by omega), if_neg (by omega)]
      exact q3
  · rw [hlo _ (by omega)] at x1
    have hbk : ∀ w, 0 ≤ w → w < 8 → bkF (lvF a b 6) x w = if x = b ∧ (w = 6 ∨ w = 6 + 1) then -1 else bkF a x w := fun w w0 w1 => lvF_b hb2 (by omega) hp x0 ⟨w0, w1⟩
    rw [hbk 0 (by omega) (by omega), hbk 1 (by omega) (by omega), hbk 2 (by omega) (by omega), hbk 3 (by omega) (by omega), hbk 4 (by omega) (by omega), hbk 5 (by omega) (by omega), hbk 6 (by omega) (by omega), hbk 7 (by omega) (by omega)]
    have q4 := q4 x x0 x1
    rw [if_neg (show ¬ (x = b ∧ ((0 : Int) = 6 ∨ (0 : Int) = 6 + 1)) by omega)]; rw [if_neg (show ¬ (x = b ∧ ((1 : Int) = 6 ∨ (1 : Int) = 6 + 1)) by omega)]; rw [if_neg (show ¬ (x = b ∧ ((2 : Int) = 6 ∨ (2 : Int) = 6 + 1)) by omega)]; rw [if_neg (show ¬ (x = b ∧ ((3 : Int) = 6 ∨ (3 : Int) = 6 + 1)) by omega)]; rw [if_neg (show ¬ (x = b ∧ ((4 : Int) = 6 ∨ (4 : Int) = 6 + 1)) by omega)]; rw [if_neg (show ¬ (x = b ∧ ((5 : Int) = 6 ∨ (5 : Int) = 6 + 1)) by omega)];
    rw [hE (10 + 8) (by decide) (by decide) (by decide)]; rw [hE (10 + 9) (by decide) (by decide) (by decide)]; rw [hE (10 + 10) (by decide) (by decide) (by decide)]; rw [hE (10 + 11) (by decide) (by decide) (by decide)]; rw [hE (10 + 12) (by decide) (by decide) (by decide)]; rw [hE (10 + 13) (by decide) (by decide) (by decide)];
    rw [show ntH (slH H (a 2) (bkF a b 6) (bkF a b 7) (-1)) 24 b (-1) (-1) (10 + 14) = am_uf (H 24) b (-1) from hA, show ntH (slH H (a 2) (bkF a b 6) (bkF a b 7) (-1)) 24 b (-1) (-1) (10 + 15) = am_uf (H 25) b (-1) from hC]
    by_cases hx : x = b
    · subst hx
      rw [am_uf_eq, am_uf_eq, if_pos (by omega), if_pos (by omega)]
      obtain ⟨r0, r1, r2, r3, r4, r5, r6, r7⟩ := q4
      exact ⟨r0, r1, r2, r3, r4, r5, rfl, rfl⟩
    · rw [am_uf_ne _ _ hx, am_uf_ne _ _ hx, if_neg (by omega), if_neg (by omega)]
      exact q4
theorem RT_pt6 {H : am_H} {a : Int → Int} {b s p : Int} (hI : Inv a) (hT : RT H 10 a) (hb : 0 ≤ b ∧ b < a 3) (hs : 0 ≤ s ∧ s < a 2) (hq : 0 ≤ p ∧ p < 30) : RT (ntH (stH H s p (1000 + b)) 24 b s p) 10 (ptF a b 6 s p) := by
  have hn := hI.n
  have hb2 : 0 ≤ b ∧ b < 200 := by omega
  have hs2 : 0 ≤ s ∧ s < 16 := by omega
  obtain ⟨q0, q1, q2, q3, q4⟩ := hT
  have hE : ∀ k : Nat, k ≠ 17 → k ≠ 24 → k ≠ 25 → ntH (stH H s p (1000 + b)) 24 b s p k = H k := fun k hk k1 k2 => by
    unfold ntH stH am_up
    rw [am_so_ne _ _ k2, am_so_ne _ _ k1, am_so_ne _ _ hk]
  have hlo : ∀ k, k < 6672 ∨ 8782 ≤ k → ptF a b 6 s p k = a k := fun k hk => ptF_o hb2 (by omega) hs2 hq hk
  refine ⟨by rw [hE _ (by decide) (by decide) (by decide), hlo _ (by omega)]; exact q0, by rw [hE _ (by decide) (by decide) (by decide), hlo _ (by omega)]; exact q1, fun s' s0 s1 => ?_, fun s' p' s0 s1 p0 p1 => ?_, fun x x0 x1 => ?_⟩
  · rw [hlo _ (by omega)] at s1
    have e0 := ptF_s (a := a) (b := b) (f := 6) (s := s) (p := p) (s' := s') (w := 0) hb2 (by omega) hs2 hq (by omega) (by omega)
    rw [Int.add_zero] at e0
    rw [hE _ (by decide) (by decide) (by decide), hE (10 + 6) (by decide) (by decide) (by decide), e0, ptF_s hb2 (by omega) hs2 hq (by omega) (by omega)]
    exact q2 s' s0 s1
  · rw [hlo _ (by omega)] at s1
    rw [ptF_t hb2 (by omega) hs2 hq (by omega) ⟨p0, p1⟩]
    show am_uf (H 17) (s * 30 + p) (1000 + b) (s' * 30 + p') = _
    by_cases hc : s' = s ∧ p' = p
    · rw [if_pos hc, hc.1, hc.2, am_uf_eq]
      rfl
    · rw [if_neg hc, am_uf_ne _ _ (by omega)]
      exact q3 s' p' s0 s1 p0 p1
  · rw [hlo _ (by omega)] at x1
    have hbk : ∀ w, 0 ≤ w → w < 8 → bkF (ptF a b 6 s p) x w = if x = b ∧ w = 6 then s else if x = b ∧ w = 6 + 1 then p else bkF a x w := fun w w0 w1 => ptF_b hb2 (by omega) hs2 hq x0 ⟨w0, w1⟩
    rw [hbk 0 (by omega) (by omega), hbk 1 (by omega) (by omega), hbk 2 (by omega) (by omega), hbk 3 (by omega) (by omega), hbk 4 (by omega) (by omega), hbk 5 (by omega) (by omega), hbk 6 (by omega) (by omega), hbk 7 (by omega) (by omega)]
    have q4 := q4 x x0 x1
    rw [if_neg (show ¬ (x = b ∧ (0 : Int) = 6) by omega), if_neg (show ¬ (x = b ∧ (0 : Int) = 6 + 1) by omega)]; rw [if_neg (show ¬ (x = b ∧ (1 : Int) = 6) by omega), if_neg (show ¬ (x = b ∧ (1 : Int) = 6 + 1) by omega)]; rw [if_neg (show ¬ (x = b ∧ (2 : Int) = 6) by omega), if_neg (show ¬ (x = b ∧ (2 : Int) = 6 + 1) by omega)]; rw [if_neg (show ¬ (x = b ∧ (3 : Int) = 6) by omega), if_neg (show ¬ (x = b ∧ (3 : Int) = 6 + 1) by omega)]; rw [if_neg (show ¬ (x = b ∧ (4 : Int) = 6) by omega), if_neg (show ¬ (x = b ∧ (4 : Int) = 6 + 1) by omega)]; rw [if_neg (show ¬ (x = b ∧ (5 : Int) = 6) by omega), if_neg (show ¬ (x = b ∧ (5 : Int) = 6 + 1) by omega)];
    rw [hE (10 + 8) (by decide) (by decide) (by decide)]; rw [hE (10 + 9) (by decide) (by decide) (by decide)]; rw [hE (10 + 10) (by decide) (by decide) (by decide)]; rw [hE (10 + 11) (by decide) (by decide) (by decide)]; rw [hE (10 + 12) (by decide) (by decide) (by decide)]; rw [hE (10 + 13) (by decide) (by decide) (by decide)];
    rw [show ntH (stH H s p (1000 + b)) 24 b s p (10 + 14) = am_uf (H 24) b s from rfl, show ntH (stH H s p (1000 + b)) 24 b s p (10 + 15) = am_uf (H 25) b p from rfl]
    by_cases hx : x = b
    · subst hx
      rw [am_uf_eq, am_uf_eq, if_pos (by omega), if_neg (by omega), if_pos (by omega)]
      obtain ⟨r0, r1, r2, r3, r4, r5, r6, r7⟩ := q4
      exact ⟨r0, r1, r2, r3, r4, r5, rfl, rfl⟩
    · rw [am_uf_ne _ _ hx, am_uf_ne _ _ hx, if_neg (by omega), if_neg (by omega), if_neg (by omega), if_neg (by omega)]
      exact q4

/-- what a call upon the stacks leaves -/
def SQ (N : Nat) (P : am_P) (H : am_H) (v0 : Option am_V) (A : Int → Int) (v : Option am_V) (σ : am_S) : Prop := v = v0 ∧ ∃ H' : am_H, σ = (N, P, H') ∧ (∀ o, o < 14 ∨ 25 < o → H' o = H o) ∧ RT H' 10 A
theorem slH_o (H : am_H) (n s p t : Int) {o : Nat} (h : o ≠ 17) : slH H n s p t o = H o := by
  unfold slH
  split
  · exact am_so_ne _ _ h
  · rfl

theorem c_Stacks_take4 {d N : Nat} {P : am_P} {H : am_H} {a : Int → Int} {b : Int} (hP : PZ P) (hI : Inv a) (hT : RT H 10 a) (hb : 0 ≤ b ∧ b < a 3) : am_C (d + 4) 224 [am_r 14, am_i (b)] (N, P, H) (SQ N P H none (lvF a b 4)) := by
  have hn := hI.n
  refine am_C_of (r_Stacks_takeThingB (n := a 3) (n0 := a 2) hP hT.2.1 hT.1 (by omega) (by omega) hb) ⟨rfl, _, rfl, fun k hk => ?_, RT_lv4 hI hT hb⟩
  unfold ntH am_up
  rw [am_so_ne _ _ (by omega), am_so_ne _ _ (by omega), slH_o _ _ _ _ _ (by omega)]
theorem c_Stacks_put4 {d N : Nat} {P : am_P} {H : am_H} {a : Int → Int} {b s p : Int} (hP : PZ P) (hI : Inv a) (hT : RT H 10 a) (hb : 0 ≤ b ∧ b < a 3) (hs : 0 ≤ s ∧ s < a 2) (hq : 0 ≤ p ∧ p < 30) : am_C (d + 5) 225 [am_r 14, am_i (b), am_i s, am_i p] (N, P, H) (SQ N P H none (cmF a b 4 s p)) := by
  have hn := hI.n
  have hlo : ∀ k, k < 6672 ∨ 8782 ≤ k → lvF a b 4 k = a k := fun k hk => lvF_o (by omega) (by omega) (hI.pos hb.1 hb.2 (by omega)) hk
  refine am_C_of (r_Stacks_putThingB (n := a 3) (n0 := a 2) hP hT.2.1 hT.1 (by omega) (by omega) hb hs hq) ⟨rfl, _, rfl, fun k hk => ?_, ?_⟩
  · unfold ntH stH am_up
    rw [am_so_ne _ _ (by omega), am_so_ne _ _ (by omega), am_so_ne _ _ (by omega), am_so_ne _ _ (by omega), am_so_ne _ _ (by omega), slH_o _ _ _ _ _ (by omega)]
  · rw [cmF_pt]
    exact RT_pt4 (inv_lv hI hb.1 hb.2 (by omega)) (RT_lv4 hI hT hb) (by rw [hlo _ (by omega)]; exact hb) (by rw [hlo _ (by omega)]; exact hs) hq

theorem c_Stacks_take6 {d N : Nat} {P : am_P} {H : am_H} {a : Int → Int} {b : Int} (hP : PZ P) (hI : Inv a) (hT : RT H 10 a) (hb : 0 ≤ b ∧ b < a 3) : am_C (d + 4) 224 [am_r 14, am_i (1000 + b)] (N, P, H) (SQ N P H none (lvF a b 6)) := by
  have hn := hI.n
  refine am_C_of (r_Stacks_takeThingD (n := a 3) (n0 := a 2) hP hT.2.1 hT.1 (by omega) (by omega) hb) ⟨rfl, _, rfl, fun k hk => ?_, RT_lv6 hI hT hb⟩
  unfold ntH am_up
  rw [am_so_ne _ _ (by omega), am_so_ne _ _ (by omega), slH_o _ _ _ _ _ (by omega)]
theorem c_Stacks_put6 {d N : Nat} {P : am_P} {H : am_H} {a : Int → Int} {b s p : Int} (hP : PZ P) (hI : Inv a) (hT : RT H 10 a) (hb : 0 ≤ b ∧ b < a 3) (hs : 0 ≤ s ∧ s < a 2) (hq : 0 ≤ p ∧ p < 30) : am_C (d + 5) 225 [am_r 14, am_i (1000 + b), am_i s, am_i p] (N, P, H) (SQ N P H none (cmF a b 6 s p)) := by
  have hn := hI.n
  have hlo : ∀ k, k < 6672 ∨ 8782 ≤ k → lvF a b 6 k = a k := fun k hk => lvF_o (by omega) (by omega) (hI.pos hb.1 hb.2 (by omega)) hk
  refine am_C_of (r_Stacks_putThingD (n := a 3) (n0 := a 2) hP hT.2.1 hT.1 (by omega) (by omega) hb hs hq) ⟨rfl, _, rfl, fun k hk => ?_, ?_⟩
  · unfold ntH stH am_up
    rw [am_so_ne _ _ (by omega), am_so_ne _ _ (by omega), am_so_ne _ _ (by omega), am_so_ne _ _ (by omega), am_so_ne _ _ (by omega), slH_o _ _ _ _ _ (by omega)]
  · rw [cmF_pt]
    exact RT_pt6 (inv_lv hI hb.1 hb.2 (by omega)) (RT_lv6 hI hT hb) (by rw [hlo _ (by omega)]; exact hb) (by rw [hlo _ (by omega)]; exact hs) hq

