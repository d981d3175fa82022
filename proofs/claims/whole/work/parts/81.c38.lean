/-! ===== class and reference side by side: shift ===== -/
theorem plan_ok {a pl S : Int → Int} {f l le gr : Int} (hO : shOK a f l le gr) (hs : (shP a f l le gr (l - f + 1).toNat 0).1 < 100000) (hp : ∀ k : Nat, (k : Int) ≤ l - f → pl (k : Int) = shE a f l le gr (k + 1)) (hS : ∀ u : Nat, u < shT f l → S (u : Int) = gW a f u) : PlanOK a f l pl S := by
  have h0 := hO.1
  refine ⟨by omega, fun k hk => ?_, ?_, hO.2⟩
  · have hr := (shE_r (le := le) (gr := gr) h0.2.2.1 hs (k + 1) (by omega)).2.2.2 (by omega)
    rw [show k + 1 - 1 = k from rfl] at hr
    have hb : pbF pl k = shE a f l le gr k := by
      unfold pbF
      by_cases hk0 : k = 0
      · rw [if_pos hk0, hk0]; rfl
      · rw [if_neg hk0, show (k : Int) - 1 = ((k - 1 : Nat) : Int) by omega, hp (k - 1) (by omega), show k - 1 + 1 = k by omega]
    rw [hb, hp k hk]
    exact hr
  · have := hp (l - f).toNat (by omega)
    rw [show (((l - f).toNat : Nat) : Int) = l - f by omega, show (l - f).toNat + 1 = (l - f + 1).toNat by omega, shE_n h0.2.2.1 hs] at this
    rw [this, gN_shN]
    exact cnS_gN _ (fun u hu => (hS u hu).symm)
theorem case_shift {L : Nat} {xs : Int → Int} {f l le gr : Int} : CaseOK L xs 37 127 [am_i f, am_i l, am_i le, am_i gr] := by
  intro N P H hR
  obtain ⟨hP, ⟨hI, hW, hS⟩, tp, ft, ot, im, ⟨p1, p2, p3⟩, s0, s2⟩ := id hR
  obtain ⟨v, _, hr, H1, rfl, q1, q2, q3⟩ := c_Cart_shift (d := 1) (N := N) (H := H) (f := f) (l := l) (le := le) (gr := gr) hP hI hW hS
  have k54 : H1 54 = H 54 := q1 54 (by omega)
  obtain ⟨w, _, hr2, H2, rfl, m1, m2, m3, m4⟩ := c_Model_shift (d := 4) (N := N) (H := H1) (f := f) (l := l) (le := le) (gr := gr) hP (by rw [k54]; exact hI)
  rw [k54] at m3 m4
  have hF : ∀ o, (o < 43 ∨ (54 ≤ o ∧ o ≤ 63) ∨ 71 < o) → H2 o = H o := fun o ho => by rw [m1 o (by omega), q1 o (by omega)]
  have hG : ∀ o, 43 ≤ o → o ≤ 52 → H2 o = H1 o := fun o o0 o1 => m1 o (by omega)
  have e53 : ∀ k, k ≠ 19 → k ≠ 22 → k ≠ 23 → k ≠ 24 → k ≠ 27 → H2 53 k = H 53 k := fun k k1 k2 k3 k4 k5 => by rw [m2 k k1 k2 k3 k4 k5, q1 53 (by omega)]
  obtain ⟨n1, n2, n3, n4⟩ := Rel_nf (H2 := H2) hR (fun o ho => hF o (by omega))
  have hsc : H1 0 0 = (L : Int) ∧ H1 2 = xs := ⟨by rw [q1 0 (by omega)]; exact s0, by rw [q1 2 (by omega)]; exact s2⟩
  have key : RPl H2 → Rel L xs N P H2 := fun hpl => ⟨hP, n1, tp.cg (hF _ (by omega)) (hF _ (by omega)) (e53 3 (by omega) (by omega) (by omega) (by omega) (by omega)) (hF _ (by omega)), by rw [hF 3 (by omega), e53 4 (by omega) (by omega) (by omega) (by omega) (by omega)]; exact ft, ot.cg (hF _ (by omega)) (hF _ (by omega)) (e53 13 (by omega) (by omega) (by omega) (by omega) (by omega)) (hF _ (by omega)), n2, hpl, n3, n4⟩
  by_cases hc : ¬ shOK (H 54) f l le gr ∨ 100000 ≤ (shP (H 54) f l le gr (l - f + 1).toNat 0).1
  · obtain ⟨rfl, ⟨a1, a2, a3⟩, a4, a5⟩ := q2 hc
    obtain ⟨rfl, ⟨b1, b2, b3⟩, b4, b5⟩ := m3 hc
    refine ⟨_, N, P, H1, N, P, H2, hr, hsc, hr2, key ?_⟩
    unfold RPl
    rw [hG 43 (by omega) (by omega), hG 51 (by omega) (by omega), hG 52 (by omega) (by omega), a1, a2, a3, a4, a5, b1, b2, b3, b4, b5, hF 54 (by omega), q1 53 (by omega), q1 69 (by omega), q1 70 (by omega)]
    exact ⟨p1, p2, p3⟩
  · have hok : shOK (H 54) f l le gr ∧ (shP (H 54) f l le gr (l - f + 1).toNat 0).1 < 100000 := by
      refine ⟨Classical.byContradiction (fun z => hc (Or.inl z)), ?_⟩
      have : ¬ 100000 ≤ (shP (H 54) f l le gr (l - f + 1).toNat 0).1 := fun z => hc (Or.inr z)
      omega
    obtain ⟨rfl, ⟨a1, a2, a3⟩, a4, a5⟩ := q3 hok
    obtain ⟨rfl, ⟨b1, b2, b3⟩, b4, b5⟩ := m4 hok
    have h0 := hok.1.1
    have e69 : ∀ k : Nat, (k : Int) ≤ l - f → H2 69 (k : Int) = shE (H 54) f l le gr (k + 1) := fun k hk => by
      rw [b4]
      unfold pfx
      rw [if_pos (by omega), Int.toNat_natCast]
    have e70 : ∀ u : Nat, u < shT f l → H2 70 (u : Int) = gW (H 54) f u := fun u hu => by
      rw [b5]
      unfold pfx
      rw [if_pos (by omega), Int.toNat_natCast]
    refine ⟨_, N, P, H1, N, P, H2, hr, hsc, hr2, key ?_⟩
    unfold RPl
    rw [hG 43 (by omega) (by omega), hG 51 (by omega) (by omega), hG 52 (by omega) (by omega), a1, a2, a3, b1, b2, b3, hF 54 (by omega)]
    exact ⟨Or.inr rfl, rfl, fun _ => ⟨plan_ok hok.1 hok.2 e69 e70, rfl, rfl, fun k hk => by rw [a4 k (by omega), e69 k hk], fun u hu => by rw [a5 u hu, e70 u hu]⟩⟩

