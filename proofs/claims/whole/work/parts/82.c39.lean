/-! ===== class and reference side by side: mark ===== -/
theorem HB_of {H : am_H} {n : Int} (tp : RTp H) (h1 : n ≤ H 5 1) : HB (hbN (H 56) n) H n := by
  obtain ⟨t1, t2, t3⟩ := tp
  refine ⟨by omega, fun x x0 => ?_, fun x => ?_⟩
  · unfold hbN
    by_cases hx : x < n
    · rw [if_pos hx, if_pos hx, t3 x x0 (by omega)]
    · rw [if_neg hx, if_neg hx]
  · unfold hbN
    split <;> omega
theorem mkT_e (a T : Int → Int) (n : Int) : mkT a T n = mkB a (hbN T n) n := rfl
theorem mk_same {a K V G C : Int → Int} {m : Int} (hI : Inv a) (h200 : a 1 ≠ 200) (k : Int) (hk : k = 2 ∨ 6670 ≤ k) : mkA a K V G C m k = a k := by
  have hn := hI.n
  exact ma_o (by omega) (by omega)
theorem mk_good {a h : Int → Int} {n : Int} (hI : Inv a) (hW : InvW a) (h200 : a 1 ≠ 200) (h2 : (txF h n 8).ok = 2) (ht : 1 ≤ tM h n 8 ∧ tM h n 8 ≤ 8) (hok : ∀ i : Nat, i < tM h n 8 → (txF h n i).ok = 1) (hn : n ≤ 60) : Inv (mkB a h n) ∧ InvW (mkB a h n) ∧ ∀ k, k = 2 ∨ 6670 ≤ k → mkB a h n k = a k := by
  refine ⟨?_, invW_mk hI hW h200 h2 ht hok hn, fun k hk => mk_same hI h200 k hk⟩
  have hq := row_pv hok
  clear hok h2
  exact inv_mk hI h200 ⟨by omega, by omega⟩ hq
theorem case_mark {L : Nat} {xs : Int → Int} {n : Int} : CaseOK L xs 2 64 [am_i n] := by
  intro N P H hR
  obtain ⟨hP, ⟨hI, hW, hS⟩, tp, ft, ot, im, pl, s0, s2⟩ := id hR
  obtain ⟨t1, t2, t3⟩ := id tp
  have hn := hI.n
  obtain ⟨v, _, hr, H1, rfl, q1, q2, q3⟩ := c_Cart_mark (d := 1) (N := N) (H := H) (n := n) (h := hbN (H 56) n) hP hI hW hS (fun _ h1 => HB_of tp h1)
  have kk : ∀ o, 13 < o → H1 o = H o := fun o ho => q1 o (by omega) (by omega) (by omega) (by omega) (by omega)
  obtain ⟨w, _, hr2, H2, rfl, m1, m2, m3, m4⟩ := c_Model_mark (d := 0) (N := N) (H := H1) (n := n) hP (by rw [kk 54 (by omega)]; exact hI) (by rw [kk 53 (by omega)]; exact t1)
  rw [kk 53 (by omega), kk 54 (by omega), kk 56 (by omega)] at m4
  rw [kk 53 (by omega), kk 54 (by omega)] at m3
  rw [t2] at q2 q3
  have hF : ∀ o, o ≠ 3 → o ≠ 4 → o ≠ 5 → o ≠ 7 → (o < 11 ∨ 13 < o) → o ≠ 53 → o ≠ 54 → (o < 57 ∨ 60 < o) → H2 o = H o := fun o o1 o2 o3 o4 o5 o6 o7 o8 => by rw [m1 o o6 o7 o8, q1 o o1 o2 o3 o4 o5]
  have hJ : ∀ o, (o < 53 ∨ 60 < o) → H2 o = H1 o := fun o ho => m1 o (by omega) (by omega) (by omega)
  have e53 : ∀ k, k < 3 ∨ 7 < k → H2 53 k = H 53 k := fun k hk => by rw [m2 k hk, kk 53 (by omega)]
  have hsc : H1 0 0 = (L : Int) ∧ H1 2 = xs := ⟨by rw [q1 0 (by omega) (by omega) (by omega) (by omega) (by omega)]; exact s0, by rw [q1 2 (by omega) (by omega) (by omega) (by omega) (by omega)]; exact s2⟩
  have key : ∀ (A : Int → Int) (t : Int), (t = H 53 3 ∨ t = 0) → H2 53 3 = t → H1 5 1 = t → H1 3 2 = H2 53 4 → H2 54 = A → Inv A → InvW A → (∀ k, k = 2 ∨ 6670 ≤ k → A k = H 54 k) → RS H1 10 A → Rel L xs N P H2 := fun A t ht c1 c2 c3 e hIA hWA hA hRS => by
    refine ⟨hP, ⟨by rw [e]; exact hIA, by rw [e]; exact hWA, by rw [e]; exact hRS.fr hIA (fun k k0 k1 => hJ k (by omega))⟩, ⟨by omega, by rw [hJ 5 (by omega), c2, c1], fun x x0 x1 => ?_⟩, by rw [hJ 3 (by omega)]; exact c3, ot.cg (hF _ (by omega) (by omega) (by omega) (by omega) (by omega) (by omega) (by omega) (by omega)) (hF _ (by omega) (by omega) (by omega) (by omega) (by omega) (by omega) (by omega) (by omega)) (e53 13 (by omega)) (hF _ (by omega) (by omega) (by omega) (by omega) (by omega) (by omega) (by omega) (by omega)), im.cg (fun o ho => hF o (by omega) (by omega) (by omega) (by omega) (by omega) (by omega) (by omega) (by omega)) (hF _ (by omega) (by omega) (by omega) (by omega) (by omega) (by omega) (by omega) (by omega)) (fun k k0 => by rw [e]; exact hA k (by omega)), pl.cg2 (hF _ (by omega) (by omega) (by omega) (by omega) (by omega) (by omega) (by omega) (by omega)) (hF _ (by omega) (by omega) (by omega) (by omega) (by omega) (by omega) (by omega) (by omega)) (hF _ (by omega) (by omega) (by omega) (by omega) (by omega) (by omega) (by omega) (by omega)) (e53 _ (by omega)) (e53 _ (by omega)) (e53 _ (by omega)) (hF _ (by omega) (by omega) (by omega) (by omega) (by omega) (by omega) (by omega) (by omega)) (hF _ (by omega) (by omega) (by omega) (by omega) (by omega) (by omega) (by omega) (by omega)) (by rw [e, hA 2 (by omega)]; exact Int.le_refl _) (fun s s0 _ => by rw [e]; exact hA _ (by omega)), by rw [hF 0 (by omega) (by omega) (by omega) (by omega) (by omega) (by omega) (by omega) (by omega)]; exact s0, by rw [hF 2 (by omega) (by omega) (by omega) (by omega) (by omega) (by omega) (by omega) (by omega)]; exact s2⟩
    rw [hF 6 (by omega) (by omega) (by omega) (by omega) (by omega) (by omega) (by omega) (by omega), hF 56 (by omega) (by omega) (by omega) (by omega) (by omega) (by omega) (by omega) (by omega)]
    exact t3 x x0 (by omega)
  by_cases hb : n < 0 ∨ H 53 3 < n
  · obtain ⟨rfl, a1, a2, a3⟩ := q2 hb
    obtain ⟨rfl, b1, b2, b3⟩ := m3 hb
    exact ⟨_, N, P, H1, N, P, H2, hr, hsc, hr2, key (H 54) (H 53 3) (Or.inl rfl) b1 a1 (by rw [a2, b2]) b3 hI hW (fun _ _ => rfl) a3⟩
  · obtain ⟨a1, a2, a3⟩ := q3 (by omega)
    obtain ⟨b1, b2, b3⟩ := m4 (by omega)
    by_cases hbad : (txF (hbN (H 56) n) n 8).ok ≠ 2 ∨ 60 < n
    · obtain ⟨rfl, c1, c2⟩ := a2 hbad
      obtain ⟨rfl, d1, d2⟩ := b2 hbad
      exact ⟨_, N, P, H1, N, P, H2, hr, hsc, hr2, key (H 54) 0 (Or.inr rfl) b1 a1 (by rw [c1, d1]) d2 hI hW (fun _ _ => rfl) c2⟩
    · have hg : (txF (hbN (H 56) n) n 8).ok = 2 ∧ n ≤ 60 := by omega
      obtain ⟨c1, ⟨c2, c3⟩, c4, c5, c6⟩ := a3 hg
      obtain ⟨d1, d4, d5, d6⟩ := b3 hg
      by_cases hf : 0 ≤ fnT (H 54) (H 56) n
      · obtain ⟨rfl, e1⟩ := c4 hf
        obtain ⟨rfl, f1⟩ := d4 hf
        exact ⟨_, N, P, H1, N, P, H2, hr, hsc, hr2, key (H 54) 0 (Or.inr rfl) b1 a1 (by rw [c1, d1]) f1 hI hW (fun _ _ => rfl) e1⟩
      · have hf2 : fnT (H 54) (H 56) n < 0 := by omega
        by_cases h200 : H 54 1 = 200
        · obtain ⟨rfl, e1⟩ := c5 ⟨hf2, h200⟩
          obtain ⟨rfl, f1⟩ := d5 ⟨hf2, h200⟩
          exact ⟨_, N, P, H1, N, P, H2, hr, hsc, hr2, key (H 54) 0 (Or.inr rfl) b1 a1 (by rw [c1, d1]) f1 hI hW (fun _ _ => rfl) e1⟩
        · obtain ⟨rfl, e1⟩ := c6 ⟨hf2, h200⟩
          obtain ⟨rfl, f1⟩ := d6 ⟨hf2, h200⟩
          rw [mkT_e] at f1
          obtain ⟨i1, i2, i3⟩ := mk_good hI hW h200 hg.1 c2 c3 hg.2
          have hz := key _ 0 (Or.inr rfl) b1 a1 (by rw [c1, d1]) f1 i1 i2 i3 e1
          exact ⟨_, N, P, H1, N, P, H2, hr, hsc, hr2, hz⟩

