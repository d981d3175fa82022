/-! ===== class and reference side by side: readings, small calls ===== -/
theorem orL_cg {R R' : Int → Int} {w : Int} : ∀ (f : Nat) (i l : Int), (∀ k, i ≤ k → k < i + f → R k = R' k) → orL R w f i l = orL R' w f i l
  | 0, _, _, _ => rfl
  | f + 1, i, l, h => by
    have h1 := orL_cg (R := R) (R' := R') (w := w) f (i + 1) l (fun k k0 k1 => h k (by omega) (by omega))
    have h2 := orL_cg (R := R) (R' := R') (w := w) f (i + 1) (l - 1) (fun k k0 k1 => h k (by omega) (by omega))
    simp only [orL]
    rw [h i (by omega) (by omega), h1, h2]
theorem wrL_cg {R R' : Int → Int} : ∀ (f : Nat) (i : Int), (∀ k, i ≤ k → k < i + f → R k = R' k) → wrL R f i = wrL R' f i
  | 0, _, _ => rfl
  | f + 1, i, h => by
    have h1 := wrL_cg (R := R) (R' := R') f (i + 1) (fun k k0 k1 => h k (by omega) (by omega))
    simp only [wrL]
    rw [h i (by omega) (by omega), h1]
theorem toL_cg {a R R' : Int → Int} {m w : Int} : ∀ f : Nat, (∀ k, 0 ≤ k → k < (f : Int) → R k = R' k) → toL a R m w f = toL a R' m w f
  | 0, _ => rfl
  | f + 1, h => by
    have h1 := toL_cg (a := a) (R := R) (R' := R') (m := m) (w := w) f (fun k k0 k1 => h k k0 (by omega))
    simp only [toL]
    rw [h (f : Int) (by omega) (by omega), h1]
theorem mv_cg {a T0 T1 R0 R1 : Int → Int} (hI : Inv a) : mvFr a (rgF a T0 R0) = mvFr a (rgF a T1 R1) ∧ mvTo a (rgF a T0 R0) = mvTo a (rgF a T1 R1) := by
  have hm := man_r hI
  have e : mvFr a (rgF a T0 R0) = mvFr a (rgF a T1 R1) := wrL_cg _ _ (fun k k0 k1 => rgF_cg hI k0 (by omega))
  refine ⟨e, ?_⟩
  unfold mvTo
  rw [e]
  exact toL_cg _ (fun k k0 k1 => rgF_cg hI k0 (by omega))

theorem case_order {L : Nat} {xs : Int → Int} {w k : Int} (hw : w = 0 ∨ w = 1) (hk : k ≤ 2147483647) : CaseOK L xs 22 109 [am_i w, am_i k] := by
  intro N P H hR
  obtain ⟨hI, hW, hS⟩ := hR.2.1
  have hm := man_r hI
  refine case_now hR (c_Cart_order (d := 1)  hR.1 hI hW hS hw hk) (fun H1 e => ?_) hI hW (fun _ _ => rfl) (Int.le_refl _) (fun _ _ _ => rfl)
  have hz := r_Model_order (d := 2) (N := N) (H := H1) (w := w) (k := k) hR.1 (by rw [e]; exact hI) hk
  rw [e, orL_cg (R' := rgF (H 54) (H 41) (H 42)) _ _ _ (fun q q0 q1 => rgF_cg hI q0 (by omega))] at hz
  exact ⟨_, hz, fun o _ o2 o3 => rgH_o _ o2 o3, by rw [rgH_o _ (by decide) (by decide)]; exact e⟩

theorem case_fewest {L : Nat} {xs : Int → Int}   : CaseOK L xs 23 110 [] := by
  intro N P H hR
  obtain ⟨hI, hW, hS⟩ := hR.2.1
  have hm := man_r hI
  refine case_now hR (c_Cart_fewest (d := 1)  hR.1 hI hW hS ) (fun H1 e => ?_) hI hW (fun _ _ => rfl) (Int.le_refl _) (fun _ _ _ => rfl)
  have hz := r_Model_fewest (d := 2) (N := N) (H := H1) hR.1 (by rw [e]; exact hI)
  rw [e, bsF_cg (T1 := H 41) hI] at hz
  refine ⟨_, hz, fun o o1 o2 o3 => ?_, ?_⟩
  · split
    · rfl
    · exact rgH_o _ o2 o3
  · split
    · exact e
    · rw [rgH_o _ (by decide) (by decide)]; exact e

theorem case_move {L : Nat} {xs : Int → Int} : CaseOK L xs 24 111 [] := by
  intro N P H hR
  obtain ⟨hI, hW, hS⟩ := hR.2.1
  have hm := man_r hI
  have hh := hI.h.2.1
  have h5 : bsF (H 54) (H 41) ≠ manF (H 54) → 0 ≤ H 54 5 := fun z => by
    by_cases q : 0 ≤ H 54 5
    · exact q
    · exfalso
      have hmn : manF (H 54) = 0 := if_pos (by omega)
      exact z (ord_to hI (fun i i0 i1 => by omega))
  have hmn : bsF (H 54) (H 41) ≠ manF (H 54) → manF (H 54) = H 54 6 := fun z => if_neg (by have := h5 z; omega)
  have he : bsF (H 54) (H 41) ≠ manF (H 54) → ∀ k, k < 7 ∨ 7 + H 54 6 ≤ k → mvG (H 54) (rgF (H 54) (H 41) (H 42)) (manF (H 54)) (mvFr (H 54) (rgF (H 54) (H 41) (H 42))) (mvTo (H 54) (rgF (H 54) (H 41) (H 42))) k = H 54 k := fun z k hk => by
    have q := mv_r (T0 := H 41) (R0 := H 42) hI (h5 z) z
    rw [hmn z]
    exact mvG_o q.1 q.2.2 hk
  refine case_now hR (c_Cart_move (d := 1) hR.1 hI hW hS) (fun H1 e => ?_) ?_ ?_ (fun k hk => ?_) ?_ (fun s' t0 t1 => ?_)
  · have hz := r_Model_move (d := 2) (N := N) (H := H1) hR.1 (by rw [e]; exact hI)
    have hc := mv_cg (T0 := H1 62) (T1 := H 41) (R0 := H1 63) (R1 := H 42) hI
    rw [e, bsF_cg (T1 := H 41) hI, hc.1, hc.2] at hz
    refine ⟨_, hz, fun o o1 o2 o3 => ?_, ?_⟩
    · split
      · exact rgH_o _ o2 o3
      · rw [am_so_ne _ _ o1]; exact rgH_o _ o2 o3
    · split
      · rw [rgH_o _ (by decide) (by decide)]; exact e
      · rw [am_so_at]; rfl
  · by_cases hc : bsF (H 54) (H 41) = manF (H 54)
    · rw [if_pos hc]; exact hI
    · rw [if_neg hc, hmn hc]
      have q := mv_r (T0 := H 41) (R0 := H 42) hI (h5 hc) hc
      exact inv_move hI q.1 q.2.2
  · by_cases hc : bsF (H 54) (H 41) = manF (H 54)
    · rw [if_pos hc]; exact hW
    · rw [if_neg hc]; exact InvW_cg hI (he hc 1 (by omega)) (fun k k0 k1 => he hc k (by omega)) hW
  · by_cases hc : bsF (H 54) (H 41) = manF (H 54)
    · rw [if_pos hc]
    · rw [if_neg hc]; exact he hc k (by omega)
  · by_cases hc : bsF (H 54) (H 41) = manF (H 54)
    · rw [if_pos hc]; exact Int.le_refl _
    · rw [if_neg hc, he hc 2 (by omega)]; exact Int.le_refl _
  · by_cases hc : bsF (H 54) (H 41) = manF (H 54)
    · rw [if_pos hc]
    · rw [if_neg hc]; exact he hc _ (by omega)

theorem case_where {L : Nat} {xs : Int → Int} {m : Int}  : CaseOK L xs 25 112 [am_i m] := by
  intro N P H hR
  obtain ⟨hI, hW, hS⟩ := hR.2.1
  have hm := man_r hI
  refine case_now hR (c_Cart_where (d := 2) (m := m) (T0 := H 41) hR.1 hI hW hS ) (fun H1 e => ?_) hI hW (fun _ _ => rfl) (Int.le_refl _) (fun _ _ _ => rfl)
  have hz := r_Model_where (d := 2) (N := N) (H := H1) (m := m) hR.1 (by rw [e]; exact hI)
  unfold whC at hz
  rw [e, bsF_cg (T1 := H 41) hI] at hz
  exact ⟨_, hz, fun o o1 o2 o3 => by
    unfold whS
    split
    · exact rgH_o _ o2 o3
    · rfl, by rw [whS_54]; exact e⟩

theorem case_between {L : Nat} {xs : Int → Int} {m w : Int}  : CaseOK L xs 27 113 [am_i m, am_i w] := by
  intro N P H hR
  obtain ⟨hI, hW, hS⟩ := hR.2.1
  have hm := man_r hI
  refine case_now hR (c_Cart_between (d := 1) (m := m) (w := w) (T0 := H 41) hR.1 hI hW hS ) (fun H1 e => ?_) hI hW (fun _ _ => rfl) (Int.le_refl _) (fun _ _ _ => rfl)
  have hz := r_Model_between (d := 1) (N := N) (H := H1) (m := m) (w := w) hR.1 (by rw [e]; exact hI)
  unfold btF whC at hz
  rw [e, bsF_cg (T1 := H 41) hI] at hz
  exact ⟨_, hz, fun o o1 o2 o3 => by
    unfold whS
    split
    · exact rgH_o _ o2 o3
    · rfl, by rw [whS_54]; exact e⟩

theorem case_fault {L : Nat} {xs : Int → Int} : CaseOK L xs 4 65 [] := by
  intro N P H hR
  have h2 := r_Model_fault (d := 7) (N := N) (H := H) hR.1
  rw [← hR.2.2.2.1] at h2
  exact ⟨_, N, P, H, N, P, H, r_Cart_fault (d := 7) hR.1, hR.2.2.2.2.2.2.2, h2, hR⟩
theorem case_out {L : Nat} {xs : Int → Int} {i : Int} : CaseOK L xs 8 75 [am_i i] := by
  intro N P H hR
  obtain ⟨q1, q2, q3⟩ := hR.2.2.2.2.1
  have h1 := r_Cart_out (d := 6) (N := N) (H := H) (i := i) hR.1 (by omega)
  have h2 := r_Model_out (d := 6) (N := N) (H := H) (i := i) hR.1 (by omega)
  have e : (if 0 ≤ i ∧ i < H 53 13 then H 61 i else -1) = (if 0 ≤ i ∧ i < H 8 1 then H 9 i else -1) := by
    rw [q2]
    by_cases hc : 0 ≤ i ∧ i < H 53 13
    · rw [if_pos hc, if_pos hc, q3 i hc.1 hc.2]
    · rw [if_neg hc, if_neg hc]
  rw [e] at h2
  exact ⟨_, N, P, H, N, P, H, h1, hR.2.2.2.2.2.2.2, h2, hR⟩
theorem case_plan {L : Nat} {xs : Int → Int} {k : Int} : CaseOK L xs 39 128 [am_i k] := by
  intro N P H hR
  obtain ⟨q1, q2, q3⟩ := hR.2.2.2.2.2.2.1
  have hn := hR.2.1.1.n
  have h1 := r_Cart_plan (d := 6) (N := N) (H := H) (k := k) hR.1 q2 q1 (fun z => by
    obtain ⟨p1, p2, p3, -⟩ := q3 z
    have := p1.1
    omega)
  have h2 := r_Model_plan (d := 6) (N := N) (H := H) (k := k) hR.1 (fun z => by
    obtain ⟨p1, -⟩ := q3 z
    have := p1.1
    omega) q1
  have e : (if H 53 22 = 1 ∧ 0 ≤ k ∧ k < H 53 24 - H 53 23 + 1 then H 69 k else -1) = (if H 53 22 = 1 ∧ 0 ≤ k ∧ k < H 43 12 then H 51 k else -1) := by
    by_cases hz : H 53 22 = 1
    · obtain ⟨p1, p2, p3, p4, -⟩ := q3 hz
      rw [p3]
      by_cases hc : H 53 22 = 1 ∧ 0 ≤ k ∧ k < H 53 24 - H 53 23 + 1
      · rw [if_pos hc, if_pos hc]
        have := p4 k.toNat (by omega)
        rw [show ((k.toNat : Nat) : Int) = k by omega] at this
        exact this.symm
      · rw [if_neg hc, if_neg hc]
    · rw [if_neg (fun z => hz z.1), if_neg (fun z => hz z.1)]
  rw [e] at h2
  exact ⟨_, N, P, H, N, P, H, h1, hR.2.2.2.2.2.2.2, h2, hR⟩

