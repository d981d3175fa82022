/-! ===== class and reference side by side ===== -/
def imF (a : Int → Int) (k : Int) : Int → Int := fun i => a (10410 * (k + 1) + i)
def RNow (H : am_H) : Prop := Inv (H 54) ∧ InvW (H 54) ∧ RS H 10 (H 54)
def RTp (H : am_H) : Prop := (0 ≤ H 53 3 ∧ H 53 3 ≤ 80) ∧ H 5 1 = H 53 3 ∧ ∀ x, 0 ≤ x → x < H 53 3 → H 6 x = H 56 x % 256
def ROt (H : am_H) : Prop := (0 ≤ H 53 13 ∧ H 53 13 ≤ 60) ∧ H 8 1 = H 53 13 ∧ ∀ x, 0 ≤ x → x < H 53 13 → H 9 x = H 61 x
def RIm (N : Nat) (P : am_P) (H : am_H) : Prop := (∀ k, 0 ≤ k → k < 4 → (H 55 k = 0 ∧ P 39 k = 0) ∨ (H 55 k = 1 ∧ ∃ j : Nat, (j : Int) < H 55 0 + H 55 1 + H 55 2 + H 55 3 ∧ P 39 k = 72 + 29 * j ∧ PB P (72 + 29 * j) ∧ RS H (72 + 29 * j) (imF (H 54) k) ∧ Inv (imF (H 54) k) ∧ InvW (imF (H 54) k))) ∧ (∀ k k', 0 ≤ k → k < 4 → 0 ≤ k' → k' < 4 → P 39 k ≠ 0 → P 39 k = P 39 k' → k = k') ∧ (N : Int) = 72 + 29 * (H 55 0 + H 55 1 + H 55 2 + H 55 3)
def RPl (H : am_H) : Prop := (H 53 22 = 0 ∨ H 53 22 = 1) ∧ H 43 10 = H 53 22 ∧ (H 53 22 = 1 → PlanOK (H 54) (H 53 23) (H 53 24) (H 69) (H 70) ∧ H 43 11 = H 53 23 ∧ H 43 12 = H 53 24 - H 53 23 + 1 ∧ (∀ k : Nat, (k : Int) ≤ H 53 24 - H 53 23 → H 51 (k : Int) = H 69 (k : Int)) ∧ ∀ u : Nat, u < shT (H 53 23) (H 53 24) → H 52 (u : Int) = H 70 (u : Int))
def Rel (L : Nat) (xs : Int → Int) (N : Nat) (P : am_P) (H : am_H) : Prop := PZ P ∧ RNow H ∧ RTp H ∧ H 3 2 = H 53 4 ∧ ROt H ∧ RIm N P H ∧ RPl H ∧ H 0 0 = (L : Int) ∧ H 2 = xs
/-- a call: class, then reference, answer alike and stand side by side again -/
def CaseOK (L : Nat) (xs : Int → Int) (yc ym : Nat) (args : List am_V) : Prop := ∀ N P H, Rel L xs N P H → ∃ (v : Int) (N1 : Nat) (P1 : am_P) (H1 : am_H) (N2 : Nat) (P2 : am_P) (H2 : am_H), am_R 8 yc (am_r 3 :: args) (N, P, H) (some (am_i v)) (N1, P1, H1) ∧ (H1 0 0 = (L : Int) ∧ H1 2 = xs) ∧ am_R 8 ym (am_r 53 :: args) (N1, P1, H1) (some (am_i v)) (N2, P2, H2) ∧ Rel L xs N2 P2 H2
theorem RTp.cg {H H' : am_H} (h : RTp H) (h5 : H' 5 = H 5) (h6 : H' 6 = H 6) (h53 : H' 53 3 = H 53 3) (h56 : H' 56 = H 56) : RTp H' := by
  unfold RTp
  rw [h5, h6, h53, h56]
  exact h
theorem ROt.cg {H H' : am_H} (h : ROt H) (h8 : H' 8 = H 8) (h9 : H' 9 = H 9) (h53 : H' 53 13 = H 53 13) (h61 : H' 61 = H 61) : ROt H' := by
  unfold ROt
  rw [h8, h9, h53, h61]
  exact h
theorem RIm.cg {N : Nat} {P : am_P} {H H' : am_H} (h : RIm N P H) (hf : ∀ o, 72 ≤ o → H' o = H o) (h55 : H' 55 = H 55) (h54 : ∀ k, 10410 ≤ k → H' 54 k = H 54 k) : RIm N P H' := by
  obtain ⟨h1, h2, h3⟩ := h
  have e : ∀ k, 0 ≤ k → ∀ i, 0 ≤ i → imF (H' 54) k i = imF (H 54) k i := fun k k0 i i0 => h54 _ (by omega)
  unfold RIm
  rw [h55]
  refine ⟨fun k k0 k1 => ?_, h2, h3⟩
  rcases h1 k k0 k1 with z | ⟨z1, j, z2, z3, z4, z5, z6, z7⟩
  · exact Or.inl z
  · have hI : Inv (imF (H' 54) k) := by
      have e0 := e k k0
      have e1 := e0 1 (by omega)
      have e2 := e0 2 (by omega)
      have e3 := e0 3 (by omega)
      have e4 := e0 4 (by omega)
      have hn := z6.n
      exact ⟨by rw [e0 0 (by omega)]; exact z6.1, InvM_cg e1 (fun k k0 k1 => e0 k (by omega)) z6.m, InvS_cg e2 e3 (fun k k0 k1 => e0 k (by omega)) (by omega) z6.s, InvB_cg e1 e2 e3 (fun k k0 k1 => e0 k (by omega)) (by omega) z6.b, InvH_cg e1 e2 (fun k k0 k1 => e0 k (by omega)) z6.h, InvL_cg e1 e2 (fun k k0 k1 => e0 k (by omega)) z6.l, InvG_cg e1 e4 (fun k k0 k1 => e0 k (by omega)) z6.g⟩
    exact Or.inr ⟨z1, j, z2, z3, z4, z5.cg z6 (fun q hq => hf _ (by omega)) (fun i i0 _ => e k k0 i i0), hI, InvW_cg z6 (e k k0 1 (by omega)) (fun i i0 _ => e k k0 i (by omega)) z7⟩
theorem PlanOK.cg {a a' pl S : Int → Int} {f l : Int} (h : PlanOK a f l pl S) (h2 : a 2 ≤ a' 2) (hh : ∀ s, 0 ≤ s → s < a 2 → a' (6670 + 32 * s + 1) = a (6670 + 32 * s + 1)) : PlanOK a' f l pl S := by
  obtain ⟨q1, q2, q3, q4⟩ := h
  exact ⟨by omega, q2, q3, fun s s0 s1 => by rw [hh s (by omega) (by omega)]; exact q4 s s0 s1⟩
theorem RPl.cg {H H' : am_H} (h : RPl H) (h43 : H' 43 = H 43) (h51 : H' 51 = H 51) (h52 : H' 52 = H 52) (h53 : H' 53 = H 53) (h69 : H' 69 = H 69) (h70 : H' 70 = H 70) (h2 : H 54 2 ≤ H' 54 2) (hh : ∀ s, 0 ≤ s → s < H 54 2 → H' 54 (6670 + 32 * s + 1) = H 54 (6670 + 32 * s + 1)) : RPl H' := by
  unfold RPl
  rw [h43, h51, h52, h53, h69, h70]
  refine ⟨h.1, h.2.1, fun z => ?_⟩
  obtain ⟨q1, q2⟩ := h.2.2 z
  exact ⟨q1.cg h2 hh, q2⟩
/-- for calls that change the state alone -/
theorem case_now {L : Nat} {xs : Int → Int} {N : Nat} {P : am_P} {H : am_H} {yc ym : Nat} {args : List am_V} {v : Int} {A : Int → Int} (hR : Rel L xs N P H) (hc : am_C 8 yc (am_r 3 :: args) (N, P, H) (CQ N P H v A)) (hm : ∀ H1 : am_H, H1 54 = H 54 → ∃ H2 : am_H, am_R 8 ym (am_r 53 :: args) (N, P, H1) (some (am_i v)) (N, P, H2) ∧ (∀ o, o ≠ 54 → o ≠ 62 → o ≠ 63 → H2 o = H1 o) ∧ H2 54 = A) (hI' : Inv A) (hW' : InvW A) (hk : ∀ k, 10410 ≤ k → A k = H 54 k) (h2 : H 54 2 ≤ A 2) (hh : ∀ s, 0 ≤ s → s < H 54 2 → A (6670 + 32 * s + 1) = H 54 (6670 + 32 * s + 1)) : ∃ (v : Int) (N1 : Nat) (P1 : am_P) (H1 : am_H) (N2 : Nat) (P2 : am_P) (H2 : am_H), am_R 8 yc (am_r 3 :: args) (N, P, H) (some (am_i v)) (N1, P1, H1) ∧ (H1 0 0 = (L : Int) ∧ H1 2 = xs) ∧ am_R 8 ym (am_r 53 :: args) (N1, P1, H1) (some (am_i v)) (N2, P2, H2) ∧ Rel L xs N2 P2 H2 := by
  obtain ⟨_, _, hr, rfl, H1, rfl, hf, hS1⟩ := hc
  obtain ⟨H2, hr2, hf2, h54⟩ := hm H1 (hf 54 (by omega))
  obtain ⟨hP, -, tp, ft, ot, im, pl, s0, s2⟩ := hR
  have hF : ∀ o, o < 10 ∨ 42 < o → o ≠ 54 → o ≠ 62 → o ≠ 63 → H2 o = H o := fun o ho o1 o2 o3 => by rw [hf2 o o1 o2 o3, hf o ho]
  refine ⟨v, N, P, H1, N, P, H2, hr, ⟨by rw [hf 0 (by omega)]; exact s0, by rw [hf 2 (by omega)]; exact s2⟩, hr2, hP, ⟨by rw [h54]; exact hI', by rw [h54]; exact hW', ?_⟩, tp.cg (hF _ (by decide) (by decide) (by decide) (by decide)) (hF _ (by decide) (by decide) (by decide) (by decide)) (by rw [hF 53 (by decide) (by decide) (by decide) (by decide)]) (hF _ (by decide) (by decide) (by decide) (by decide)), by rw [hF 3 (by decide) (by decide) (by decide) (by decide), hF 53 (by decide) (by decide) (by decide) (by decide)]; exact ft, ot.cg (hF _ (by decide) (by decide) (by decide) (by decide)) (hF _ (by decide) (by decide) (by decide) (by decide)) (by rw [hF 53 (by decide) (by decide) (by decide) (by decide)]) (hF _ (by decide) (by decide) (by decide) (by decide)), im.cg (fun o ho => hF o (by omega) (by omega) (by omega) (by omega)) (hF _ (by decide) (by decide) (by decide) (by decide)) (fun k k0 => by rw [h54]; exact hk k k0), pl.cg (hF _ (by decide) (by decide) (by decide) (by decide)) (hF _ (by decide) (by decide) (by decide) (by decide)) (hF _ (by decide) (by decide) (by decide) (by decide)) (hF _ (by decide) (by decide) (by decide) (by decide)) (hF _ (by decide) (by decide) (by decide) (by decide)) (hF _ (by decide) (by decide) (by decide) (by decide)) (by rw [h54]; exact h2) (fun s s0 s1 => by rw [h54]; exact hh s s0 s1), by rw [hF 0 (by decide) (by decide) (by decide) (by decide)]; exact s0, by rw [hF 2 (by decide) (by decide) (by decide) (by decide)]; exact s2⟩
  rw [h54]
  exact hS1.fr hI' (fun k k0 k1 => hf2 k (by omega) (by omega) (by omega))

theorem case_count {L : Nat} {xs : Int → Int} {w : Int}  : CaseOK L xs 5 66 [am_i w] := by
  intro N P H hR
  obtain ⟨hI, hW, hS⟩ := hR.2.1
  refine case_now hR (c_Cart_count (d := 6) hR.1 hI hW hS) (fun H1 e => ?_) hI hW (fun _ _ => rfl) (Int.le_refl _) (fun _ _ _ => rfl)
  have hz := r_Model_count (d := 7) (N := N) (H := H1) (w := w) hR.1 (by rw [e]; exact hI)
  rw [e] at hz
  exact ⟨H1, hz, fun _ _ _ _ => rfl, e⟩

theorem case_part {L : Nat} {xs : Int → Int} {m k w : Int}  : CaseOK L xs 6 69 [am_i m, am_i k, am_i w] := by
  intro N P H hR
  obtain ⟨hI, hW, hS⟩ := hR.2.1
  refine case_now hR (c_Cart_part (d := 5) hR.1 hI hW hS) (fun H1 e => ?_) hI hW (fun _ _ => rfl) (Int.le_refl _) (fun _ _ _ => rfl)
  have hz := r_Model_part (d := 5) (N := N) (H := H1) (m := m) (k := k) (w := w) hR.1 (by rw [e]; exact hI)
  rw [e] at hz
  exact ⟨H1, hz, fun _ _ _ _ => rfl, e⟩

theorem case_sorts {L : Nat} {xs : Int → Int} {x y : Int}  : CaseOK L xs 10 83 [am_i x, am_i y] := by
  intro N P H hR
  obtain ⟨hI, hW, hS⟩ := hR.2.1
  refine case_now hR (c_Cart_sorts (d := 4) hR.1 hI hW hS) (fun H1 e => ?_) hI hW (fun _ _ => rfl) (Int.le_refl _) (fun _ _ _ => rfl)
  have hz := r_Model_sorts (d := 3) (N := N) (H := H1) (x := x) (y := y) hR.1 (by rw [e]; exact hI)
  rw [e] at hz
  exact ⟨H1, hz, fun _ _ _ _ => rfl, e⟩

theorem case_tell {L : Nat} {xs : Int → Int} {b w : Int}  : CaseOK L xs 16 95 [am_i b, am_i w] := by
  intro N P H hR
  obtain ⟨hI, hW, hS⟩ := hR.2.1
  refine case_now hR (c_Cart_tell (d := 6) hR.1 hI hW hS) (fun H1 e => ?_) hI hW (fun _ _ => rfl) (Int.le_refl _) (fun _ _ _ => rfl)
  have hz := r_Model_tell (d := 5) (N := N) (H := H1) (b := b) (w := w) hR.1 (by rw [e]; exact hI)
  rw [e] at hz
  exact ⟨H1, hz, fun _ _ _ _ => rfl, e⟩

theorem case_place {L : Nat} {xs : Int → Int} {s p : Int}  : CaseOK L xs 17 96 [am_i s, am_i p] := by
  intro N P H hR
  obtain ⟨hI, hW, hS⟩ := hR.2.1
  refine case_now hR (c_Cart_place (d := 4) hR.1 hI hW hS) (fun H1 e => ?_) hI hW (fun _ _ => rfl) (Int.le_refl _) (fun _ _ _ => rfl)
  have hz := r_Model_place (d := 5) (N := N) (H := H1) (s := s) (p := p) hR.1 (by rw [e]; exact hI)
  rw [e] at hz
  exact ⟨H1, hz, fun _ _ _ _ => rfl, e⟩

theorem case_read {L : Nat} {xs : Int → Int} {k : Int}  : CaseOK L xs 21 107 [am_i k] := by
  intro N P H hR
  obtain ⟨hI, hW, hS⟩ := hR.2.1
  refine case_now hR (c_Cart_read (d := 6) hR.1 hI hW hS) (fun H1 e => ?_) hI hW (fun _ _ => rfl) (Int.le_refl _) (fun _ _ _ => rfl)
  have hz := r_Model_read (d := 6) (N := N) (H := H1) (k := k) hR.1 (by rw [e]; exact hI)
  rw [e] at hz
  exact ⟨H1, hz, fun _ _ _ _ => rfl, e⟩

theorem case_listed {L : Nat} {xs : Int → Int} {m : Int}  : CaseOK L xs 31 118 [am_i m] := by
  intro N P H hR
  obtain ⟨hI, hW, hS⟩ := hR.2.1
  refine case_now hR (c_Cart_listed (d := 5) hR.1 hI hW hS) (fun H1 e => ?_) hI hW (fun _ _ => rfl) (Int.le_refl _) (fun _ _ _ => rfl)
  have hz := r_Model_listed (d := 5) (N := N) (H := H1) (m := m) hR.1 (by rw [e]; exact hI)
  rw [e] at hz
  exact ⟨H1, hz, fun _ _ _ _ => rfl, e⟩

theorem case_check {L : Nat} {xs : Int → Int} {s : Int}  : CaseOK L xs 33 120 [am_i s] := by
  intro N P H hR
  obtain ⟨hI, hW, hS⟩ := hR.2.1
  refine case_now hR (c_Cart_check (d := 3) hR.1 hI hW hS) (fun H1 e => ?_) hI hW (fun _ _ => rfl) (Int.le_refl _) (fun _ _ _ => rfl)
  have hz := r_Model_check (d := 3) (N := N) (H := H1) (s := s) hR.1 (by rw [e]; exact hI)
  rw [e] at hz
  exact ⟨H1, hz, fun _ _ _ _ => rfl, e⟩

theorem case_room {L : Nat} {xs : Int → Int} {s y : Int}  : CaseOK L xs 18 102 [am_i s, am_i y] := by
  intro N P H hR
  obtain ⟨hI, hW, hS⟩ := hR.2.1
  refine case_now hR (c_Cart_room (d := 2) hR.1 hI hW hS) (fun H1 e => ?_) hI hW (fun _ _ => rfl) (Int.le_refl _) (fun _ _ _ => rfl)
  have hz := r_Model_room (d := 2) (N := N) (H := H1) (s := s) (y := y) hR.1 (by rw [e]; exact hI)
  rw [e] at hz
  exact ⟨H1, hz, fun _ _ _ _ => rfl, e⟩

theorem case_full {L : Nat} {xs : Int → Int}   : CaseOK L xs 35 122 [] := by
  intro N P H hR
  obtain ⟨hI, hW, hS⟩ := hR.2.1
  refine case_now hR (c_Cart_full (d := 2) hR.1 hI hW hS) (fun H1 e => ?_) hI hW (fun _ _ => rfl) (Int.le_refl _) (fun _ _ _ => rfl)
  have hz := r_Model_full (d := 2) (N := N) (H := H1)  hR.1 (by rw [e]; exact hI)
  rw [e] at hz
  exact ⟨H1, hz, fun _ _ _ _ => rfl, e⟩

