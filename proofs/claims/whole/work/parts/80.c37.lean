/-! ===== class and reference side by side: plans ===== -/
theorem RS_st2 {H H' : am_H} {a a' : Int → Int} (hI : Inv a) (hS : RS H 10 a) (hh : ∀ k, k < 14 ∨ (25 < k ∧ k ≤ 36) → H' k = H k) (ht : RT H' 10 a') (e : ∀ k, (k < 6670 ∧ k ≠ 2 ∧ k ≠ 3) ∨ 8782 ≤ k → a' k = a k) : RS H' 10 a' :=
  ⟨by rw [hh _ (by omega), e 0 (by omega)]; exact hS.way, hS.m.cg hI (hh _ (by omega)) (hh _ (by omega)) (hh _ (by omega)) (e 1 (by omega)) (fun k k0 k1 => e k (by omega)), ht, hS.r.cg hI (hh _ (by omega)) (hh _ (by omega)) (fun k k0 k1 => e k (by omega)), hS.c.cg hI (fun k k0 k1 => hh _ (by omega)) (e 1 (by omega)) (fun k k0 k1 => e k (by omega)), hS.g.cg hI (fun k k0 k1 => hh _ (by omega)) (e 4 (by omega)) (fun k k0 k1 => e k (by omega))⟩

theorem case_lift {L : Nat} {xs : Int → Int} : CaseOK L xs 40 129 [] := by
  intro N P H hR
  obtain ⟨hP, ⟨hI, hW, hS⟩, tp, ft, ot, im, ⟨p1, p2, p3⟩, s0, s2⟩ := id hR
  have hc := c_Cart_lift (d := 1) (N := N) (H := H) (f := H 53 23) (l := H 53 24) (pl := H 69) (S := H 70) hP hI hS.t (by rw [p2]; exact p1) (fun z => by rw [p2] at z; exact p3 z)
  obtain ⟨v, _, hr, H1, rfl, q1, q2, q3, q4, q5⟩ := hc
  have k54 : H1 54 = H 54 := q1 54 (by omega)
  have k53 : H1 53 = H 53 := q1 53 (by omega)
  have k69 : H1 69 = H 69 := q1 69 (by omega)
  have k70 : H1 70 = H 70 := q1 70 (by omega)
  have hm := c_Model_lift (d := 4) (N := N) (H := H1) hP (by rw [k54]; exact hI) (by rw [k53]; exact p1) (by rw [k53, k54, k69, k70]; exact fun z => (p3 z).1)
  obtain ⟨w, _, hr2, H2, rfl, m1, m2, m3, m4, m5⟩ := hm
  have hlf : lfOK H1 ↔ (H 43 10 = 1 ∧ ∀ u : Nat, u < shT (H 53 23) (H 53 24) → gW (H 54) (H 53 23) u = H 70 (u : Int)) := by
    unfold lfOK
    rw [k53, k54, k70, p2]
  have key : ∀ A : Int → Int, H2 54 = A → Inv A → InvW A → (∀ k, k < 6670 ∨ 8782 ≤ k → A k = H 54 k) → RT H1 10 A → Rel L xs N P H2 := fun A e hIA hWA hA hT => by
    have hF : ∀ o, (o < 14 ∨ (25 < o ∧ o < 43) ∨ (47 < o ∧ o ≠ 53 ∧ o ≠ 54 ∧ o ≠ 64 ∧ o ≠ 65 ∧ o ≠ 70)) → H2 o = H o := fun o ho => by rw [m1 o (by omega), q1 o (by omega)]
    have e53 : ∀ k, k ≠ 19 → k ≠ 22 → H2 53 k = H 53 k := fun k k1 k2 => by rw [m2 k k1 k2, k53]
    have hRS : RS H2 10 A := (RS_st2 hI hS (fun k hk => q1 k (by omega)) hT (fun k hk => hA k (by omega))).fr hIA (fun k k0 k1 => m1 k (by omega))
    refine ⟨hP, ⟨by rw [e]; exact hIA, by rw [e]; exact hWA, by rw [e]; exact hRS⟩, tp.cg (hF _ (by omega)) (hF _ (by omega)) (e53 3 (by omega) (by omega)) (hF _ (by omega)), by rw [hF 3 (by omega), e53 4 (by omega) (by omega)]; exact ft, ot.cg (hF _ (by omega)) (hF _ (by omega)) (e53 13 (by omega) (by omega)) (hF _ (by omega)), im.cg (fun o ho => hF o (by omega)) (hF _ (by omega)) (fun k k0 => by rw [e]; exact hA k (by omega)), ⟨Or.inl m3, by rw [m1 43 (by omega), q3, m3], fun z => by omega⟩, by rw [hF 0 (by omega)]; exact s0, by rw [hF 2 (by omega)]; exact s2⟩
  have hsc : H1 0 0 = (L : Int) ∧ H1 2 = xs := ⟨by rw [q1 0 (by omega)]; exact s0, by rw [q1 2 (by omega)]; exact s2⟩
  by_cases hok : lfOK H1
  · obtain ⟨rfl, e1⟩ := m4 hok
    have hok2 := hlf.mp hok
    obtain ⟨rfl, e2⟩ := q4 hok2
    rw [k53, k54, k69] at e1
    have hz : H 53 22 = 1 := by rw [← p2]; exact hok2.1
    have hO := (p3 hz).1
    have hO0 := hO.1
    have hsn : H 69 (H 53 24 - H 53 23) = (shN (H 54) (H 53 23) (H 53 24) : Int) := by rw [hO.2.2.1, gN_shN, cnS_gN _ hok2.2]
    have hkp := (lfC_ok hI hO hsn (H 53 24 - H 53 23 + 1).toNat (by omega)).1
    exact ⟨1, N, P, H1, N, P, H2, hr, hsc, hr2, key _ e1 hkp.1 (InvW_cg hI (hkp.2.1 1 (by omega)) (fun k k0 k1 => hkp.2.1 k (by omega)) hW) hkp.2.1 e2⟩
  · obtain ⟨rfl, e1⟩ := m5 hok
    obtain ⟨rfl, e2⟩ := q5 (fun z => hok (hlf.mpr z))
    rw [k54] at e1
    exact ⟨0, N, P, H1, N, P, H2, hr, hsc, hr2, key _ e1 hI hW (fun _ _ => rfl) e2⟩

