/-! ===== class and reference side by side: tape, texts, plans ===== -/
theorem RPl.cg2 {H H' : am_H} (h : RPl H) (h43 : H' 43 = H 43) (h51 : H' 51 = H 51) (h52 : H' 52 = H 52) (e1 : H' 53 22 = H 53 22) (e2 : H' 53 23 = H 53 23) (e3 : H' 53 24 = H 53 24) (h69 : H' 69 = H 69) (h70 : H' 70 = H 70) (h2 : H 54 2 ≤ H' 54 2) (hh : ∀ s, 0 ≤ s → s < H 54 2 → H' 54 (6670 + 32 * s + 1) = H 54 (6670 + 32 * s + 1)) : RPl H' := by
  unfold RPl
  rw [h43, h51, h52, e1, e2, e3, h69, h70]
  refine ⟨h.1, h.2.1, fun z => ?_⟩
  obtain ⟨q1, q2⟩ := h.2.2 z
  exact ⟨q1.cg h2 hh, q2⟩
theorem Rel_nf {L : Nat} {xs : Int → Int} {N : Nat} {P : am_P} {H H2 : am_H} (hR : Rel L xs N P H) (hf : ∀ o, o = 0 ∨ o = 2 ∨ (10 ≤ o ∧ o ≤ 42) ∨ o = 54 ∨ o = 55 ∨ 72 ≤ o → H2 o = H o) : RNow H2 ∧ RIm N P H2 ∧ H2 0 0 = (L : Int) ∧ H2 2 = xs := by
  obtain ⟨hP, ⟨hI, hW, hS⟩, tp, ft, ot, im, pl, s0, s2⟩ := hR
  have e54 := hf 54 (by omega)
  refine ⟨⟨by rw [e54]; exact hI, by rw [e54]; exact hW, by rw [e54]; exact hS.fr hI (fun k k0 k1 => hf k (by omega))⟩, im.cg (fun o ho => hf o (by omega)) (hf 55 (by omega)) (fun k _ => by rw [e54]), by rw [hf 0 (by omega)]; exact s0, by rw [hf 2 (by omega)]; exact s2⟩

theorem case_feed {L : Nat} {xs : Int → Int} {a b c e f : Int} (ha : -2147483648 ≤ a ∧ a < 2147483648) (hb : -2147483648 ≤ b ∧ b < 2147483648) (hcc : -2147483648 ≤ c ∧ c < 2147483648) (he : -2147483648 ≤ e ∧ e < 2147483648) (hf : -2147483648 ≤ f ∧ f < 2147483648) : CaseOK L xs 1 48 [am_i a, am_i b, am_i c, am_i e, am_i f] := by
  intro N P H hR
  obtain ⟨hP, now, ⟨t1, t2, t3⟩, ft, ot, im, pl, s0, s2⟩ := id hR
  have h1 := r_Cart_feed (d := 5) (N := N) (H := H) (a := a) (b := b) (c := c) (e := e) (f := f) hP (by rw [t2]; exact t1)
  by_cases hc : H 53 3 + 20 ≤ 80
  · rw [t2, if_pos hc, if_pos hc] at h1
    have k53 : tH H (i4F (i4F (i4F (i4F (i4F ((H 6, H 53 3)) a) b) c) e) f) 53 = H 53 := tH_o _ _ (by decide) (by decide)
    have h2 := r_Model_feed (d := 7) (N := N) (H := tH H (i4F (i4F (i4F (i4F (i4F ((H 6, H 53 3)) a) b) c) e) f)) (a := a) (b := b) (c := c) (e := e) (f := f) hP (by rw [k53]; exact t1)
    rw [k53, if_pos hc, if_pos hc] at h2
    have hF : ∀ o, o ≠ 5 → o ≠ 6 → o ≠ 53 → o ≠ 56 → fdH (tH H (i4F (i4F (i4F (i4F (i4F ((H 6, H 53 3)) a) b) c) e) f)) (fbF a b c e f) 20 o = H o := fun o o1 o2 o3 o4 => by
      unfold fdH
      rw [am_so_ne _ _ o3, am_so_ne _ _ o4, tH_o _ _ o1 o2]
    have e53 : ∀ k, k ≠ 3 → fdH (tH H (i4F (i4F (i4F (i4F (i4F ((H 6, H 53 3)) a) b) c) e) f)) (fbF a b c e f) 20 53 k = H 53 k := fun k hk => by
      unfold fdH
      rw [am_so_at, am_uf_ne _ _ hk, k53]
    have e3 : fdH (tH H (i4F (i4F (i4F (i4F (i4F ((H 6, H 53 3)) a) b) c) e) f)) (fbF a b c e f) 20 53 3 = H 53 3 + 20 := by
      unfold fdH
      rw [am_so_at, am_uf_eq, k53]
      rfl
    have e5 : fdH (tH H (i4F (i4F (i4F (i4F (i4F ((H 6, H 53 3)) a) b) c) e) f)) (fbF a b c e f) 20 5 1 = H 53 3 + 20 := by
      unfold fdH
      rw [am_so_ne _ _ (by decide), am_so_ne _ _ (by decide), tH_1]
      simp only [i4F]
      omega
    have e6 : fdH (tH H (i4F (i4F (i4F (i4F (i4F ((H 6, H 53 3)) a) b) c) e) f)) (fbF a b c e f) 20 6 = (i4F (i4F (i4F (i4F (i4F ((H 6, H 53 3)) a) b) c) e) f).1 := by
      unfold fdH
      rw [am_so_ne _ _ (by decide), am_so_ne _ _ (by decide), tH_b]
    have e56 : fdH (tH H (i4F (i4F (i4F (i4F (i4F ((H 6, H 53 3)) a) b) c) e) f)) (fbF a b c e f) 20 56 = pfy (fbF a b c e f) (H 56) (H 53 3) 20 := by
      unfold fdH
      rw [am_so_ne _ _ (by decide), am_so_at, k53, tH_o _ _ (by decide) (by decide)]
    obtain ⟨n1, n2, n3, n4⟩ := Rel_nf (H2 := fdH (tH H (i4F (i4F (i4F (i4F (i4F ((H 6, H 53 3)) a) b) c) e) f)) (fbF a b c e f) 20) hR (fun o ho => hF o (by omega) (by omega) (by omega) (by omega))
    refine ⟨_, N, P, _, N, P, _, h1, ⟨by rw [tH_o _ _ (by decide) (by decide)]; exact s0, by rw [tH_o _ _ (by decide) (by decide)]; exact s2⟩, h2, hP, n1, ⟨by rw [e3]; omega, by rw [e3, e5], fun x x0 x1 => ?_⟩, by rw [hF 3 (by decide) (by decide) (by decide) (by decide), e53 4 (by omega)]; exact ft, ot.cg (hF _ (by decide) (by decide) (by decide) (by decide)) (hF _ (by decide) (by decide) (by decide) (by decide)) (e53 13 (by omega)) (hF _ (by decide) (by decide) (by decide) (by decide)), n2, pl.cg2 (hF _ (by decide) (by decide) (by decide) (by decide)) (hF _ (by decide) (by decide) (by decide) (by decide)) (hF _ (by decide) (by decide) (by decide) (by decide)) (e53 _ (by omega)) (e53 _ (by omega)) (e53 _ (by omega)) (hF _ (by decide) (by decide) (by decide) (by decide)) (hF _ (by decide) (by decide) (by decide) (by decide)) (by rw [hF 54 (by decide) (by decide) (by decide) (by decide)]; exact Int.le_refl _) (fun s _ _ => by rw [hF 54 (by decide) (by decide) (by decide) (by decide)]), n3, n4⟩
    rw [e3] at x1
    rw [e6, e56]
    unfold pfy
    by_cases hx : x < H 53 3
    · rw [if_neg (by omega), feed_o hx]
      exact t3 x x0 hx
    · rw [if_pos (by omega)]
      have := feed_b (H := H) (S := H 6) (n := H 53 3) (i := (x - H 53 3).toNat) ha hb hcc he hf (by omega)
      rw [show H 53 3 + (((x - H 53 3).toNat : Nat) : Int) = x by omega] at this
      exact this
  · rw [t2, if_neg hc, if_neg hc] at h1
    have h2 := r_Model_feed (d := 7) (N := N) (H := H) (a := a) (b := b) (c := c) (e := e) (f := f) hP t1
    rw [if_neg hc, if_neg hc] at h2
    exact ⟨_, N, P, H, N, P, H, h1, ⟨s0, s2⟩, h2, hR⟩

theorem case_write {L : Nat} {xs : Int → Int} {m : Int} : CaseOK L xs 7 74 [am_i m] := by
  intro N P H hR
  obtain ⟨hP, ⟨hI, hW, hS⟩, tp, ft, ot, im, pl, s0, s2⟩ := id hR
  have h1 := r_Cart_write (d := 2) (N := N) (H := H) (m := m) hP hI hW hS.m
  by_cases hc : 0 ≤ m ∧ m < H 54 1
  · rw [if_pos hc, if_pos hc] at h1
    have k54 : (wH H (wtF (H 54) m (H 9, 0) (lenF (H 54) m).toNat)) 54 = H 54 := wH_o _ _ (by decide) (by decide)
    have k61 : (wH H (wtF (H 54) m (H 9, 0) (lenF (H 54) m).toNat)) 61 = H 61 := wH_o _ _ (by decide) (by decide)
    have h2 := r_Model_write (d := 4) (N := N) (H := wH H (wtF (H 54) m (H 9, 0) (lenF (H 54) m).toNat)) (m := m) hP (by rw [k54]; exact hI) (fun m0 m1 => by rw [k54] at m1 ⊢; exact (hW m m0 m1).1)
    rw [k54, k61, if_pos hc, if_pos hc] at h2
    have hF : ∀ o, o ≠ 8 → o ≠ 9 → o ≠ 53 → o ≠ 61 → (oH (wH H (wtF (H 54) m (H 9, 0) (lenF (H 54) m).toNat)) (wtF (H 54) m (H 61, 0) (lenF (H 54) m).toNat)) o = H o := fun o o1 o2 o3 o4 => by rw [oH_o _ _ o4 o3, wH_o _ _ o1 o2]
    have e53 : ∀ k, k ≠ 13 → (oH (wH H (wtF (H 54) m (H 9, 0) (lenF (H 54) m).toNat)) (wtF (H 54) m (H 61, 0) (lenF (H 54) m).toNat)) 53 k = H 53 k := fun k hk => by rw [oH_k _ _ hk, wH_o _ _ (by decide) (by decide)]
    have hq : OQ (wtF (H 54) m (H 9, 0) (lenF (H 54) m).toNat) (wtF (H 54) m (H 61, 0) (lenF (H 54) m).toNat) := OQ.wt (s := (H 9, 0)) (s' := (H 61, 0)) ⟨rfl, fun k k0 k1 => by have : k < 0 := k1; omega⟩ _
    have hw2 : (wtF (H 54) m (H 61, 0) (lenF (H 54) m).toNat).2 = wlF (H 54) m (lenF (H 54) m).toNat := by rw [wtF_2]; show 0 + _ = _; omega
    have hmv := hI.mv hc.1 hc.2
    have hwr := wlF_r hmv (lenF (H 54) m).toNat (by have := hmv.2.1; omega)
    have h60 := (hW m hc.1 hc.2).2.1
    obtain ⟨n1, n2, n3, n4⟩ := Rel_nf (H2 := oH (wH H (wtF (H 54) m (H 9, 0) (lenF (H 54) m).toNat)) (wtF (H 54) m (H 61, 0) (lenF (H 54) m).toNat)) hR (fun o ho => hF o (by omega) (by omega) (by omega) (by omega))
    refine ⟨_, N, P, _, N, P, _, h1, ⟨by rw [wH_o _ _ (by decide) (by decide)]; exact s0, by rw [wH_o _ _ (by decide) (by decide)]; exact s2⟩, h2, hP, n1, tp.cg (hF _ (by decide) (by decide) (by decide) (by decide)) (hF _ (by decide) (by decide) (by decide) (by decide)) (e53 3 (by omega)) (hF _ (by decide) (by decide) (by decide) (by decide)), by rw [hF 3 (by decide) (by decide) (by decide) (by decide), e53 4 (by omega)]; exact ft, ⟨by rw [oH_13, hw2]; omega, ?_, fun x x0 x1 => ?_⟩, n2, pl.cg2 (hF _ (by decide) (by decide) (by decide) (by decide)) (hF _ (by decide) (by decide) (by decide) (by decide)) (hF _ (by decide) (by decide) (by decide) (by decide)) (e53 _ (by omega)) (e53 _ (by omega)) (e53 _ (by omega)) (hF _ (by decide) (by decide) (by decide) (by decide)) (hF _ (by decide) (by decide) (by decide) (by decide)) (by rw [hF 54 (by decide) (by decide) (by decide) (by decide)]; exact Int.le_refl _) (fun s _ _ => by rw [hF 54 (by decide) (by decide) (by decide) (by decide)]), n3, n4⟩
    · rw [oH_13, oH_o _ _ (by decide) (by decide), wH_1, hq.1]
    · rw [oH_13] at x1
      rw [oH_o _ _ (by decide) (by decide), wH_b, oH_61]
      exact hq.2 x x0 (by rw [hq.1]; exact x1)
  · rw [if_neg hc, if_neg hc] at h1
    have h2 := r_Model_write (d := 4) (N := N) (H := H) (m := m) hP hI (fun m0 m1 => (hW m m0 m1).1)
    rw [if_neg hc, if_neg hc] at h2
    exact ⟨_, N, P, H, N, P, H, h1, ⟨s0, s2⟩, h2, hR⟩

