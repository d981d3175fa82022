/-! ===== class and reference side by side: images ===== -/
theorem Inv_cgA {a a' : Int → Int} (hI : Inv a) (e0 : ∀ i, 0 ≤ i → i < 10410 → a' i = a i) : Inv a' := by
  have e1 := e0 1 (by omega) (by omega)
  have e2 := e0 2 (by omega) (by omega)
  have e3 := e0 3 (by omega) (by omega)
  have e4 := e0 4 (by omega) (by omega)
  have hn := hI.n
  exact ⟨by rw [e0 0 (by omega) (by omega)]; exact hI.1, InvM_cg e1 (fun k k0 k1 => e0 k (by omega) (by omega)) hI.m, InvS_cg e2 e3 (fun k k0 k1 => e0 k (by omega) (by omega)) (by omega) hI.s, InvB_cg e1 e2 e3 (fun k k0 k1 => e0 k (by omega) (by omega)) (by omega) hI.b, InvH_cg e1 e2 (fun k k0 k1 => e0 k (by omega) (by omega)) hI.h, InvL_cg e1 e2 (fun k k0 k1 => e0 k (by omega) (by omega)) hI.l, InvG_cg e1 e4 (fun k k0 k1 => e0 k (by omega) (by omega)) hI.g⟩
theorem InvW_cgA {a a' : Int → Int} (hI : Inv a) (hW : InvW a) (e0 : ∀ i, 0 ≤ i → i < 10410 → a' i = a i) : InvW a' := InvW_cg hI (e0 1 (by omega) (by omega)) (fun k k0 k1 => e0 k (by omega) (by omega)) hW
theorem has_le {N : Nat} {P : am_P} {H : am_H} (im : RIm N P H) (k : Int) (h0 : 0 ≤ k) (h1 : k < 4) : H 55 k = 0 ∨ H 55 k = 1 := by
  rcases im.1 k h0 h1 with z | z
  · exact Or.inl z.1
  · exact Or.inr z.1
theorem has_sum {N : Nat} {P : am_P} {H : am_H} (im : RIm N P H) : 0 ≤ H 55 0 + H 55 1 + H 55 2 + H 55 3 ∧ H 55 0 + H 55 1 + H 55 2 + H 55 3 ≤ 4 := by
  have a0 := has_le im 0 (by omega) (by omega)
  have a1 := has_le im 1 (by omega) (by omega)
  have a2 := has_le im 2 (by omega) (by omega)
  have a3 := has_le im 3 (by omega) (by omega)
  omega
theorem has_sum3 {N : Nat} {P : am_P} {H : am_H} (im : RIm N P H) {k : Int} (h0 : 0 ≤ k) (h1 : k < 4) (hk : H 55 k = 0) : H 55 0 + H 55 1 + H 55 2 + H 55 3 ≤ 3 := by
  have a0 := has_le im 0 (by omega) (by omega)
  have a1 := has_le im 1 (by omega) (by omega)
  have a2 := has_le im 2 (by omega) (by omega)
  have a3 := has_le im 3 (by omega) (by omega)
  have hq : k = 0 ∨ k = 1 ∨ k = 2 ∨ k = 3 := by omega
  rcases hq with rfl | rfl | rfl | rfl <;> omega
theorem sum_uf {f : Int → Int} {k : Int} (h0 : 0 ≤ k) (h1 : k < 4) (hk : f k = 0) : am_uf f k 1 0 + am_uf f k 1 1 + am_uf f k 1 2 + am_uf f k 1 3 = f 0 + f 1 + f 2 + f 3 + 1 := by
  have hq : k = 0 ∨ k = 1 ∨ k = 2 ∨ k = 3 := by omega
  rcases hq with rfl | rfl | rfl | rfl
  · rw [am_uf_eq, am_uf_ne _ _ (by omega), am_uf_ne _ _ (by omega), am_uf_ne _ _ (by omega)]; omega
  · rw [am_uf_eq, am_uf_ne _ _ (by omega), am_uf_ne _ _ (by omega), am_uf_ne _ _ (by omega)]; omega
  · rw [am_uf_eq, am_uf_ne _ _ (by omega), am_uf_ne _ _ (by omega), am_uf_ne _ _ (by omega)]; omega
  · rw [am_uf_eq, am_uf_ne _ _ (by omega), am_uf_ne _ _ (by omega), am_uf_ne _ _ (by omega)]; omega
theorem ufv_self {f : Int → Int} {k v : Int} (h : f k = v) : am_uf f k v = f := by
  funext x
  by_cases hx : x = k
  · subst hx; rw [am_uf_eq, h]
  · rw [am_uf_ne _ _ hx]
theorem j_four {j : Nat} (h : j < 4) : j = 0 ∨ j = 1 ∨ j = 2 ∨ j = 3 := by omega
theorem c_again_any {N : Nat} {P : am_P} {H : am_H} {k : Int} {j : Nat} (hj : j < 4) (hP : PZ P) (hB : PB P (72 + 29 * j)) (hk : 0 ≤ k ∧ k < 4) (hk2 : P 39 k = 72 + 29 * j) : am_R 8 42 [am_r 3, am_i k] (N, P, H) (some (am_i 1)) (N, P, am_up (bcS H 10 (72 + 29 * j)) 43 10 0) := by
  rcases j_four hj with rfl | rfl | rfl | rfl
  · exact r_Cart_again_72 (d := 5) hP hB hk hk2
  · exact r_Cart_again_101 (d := 5) hP hB hk hk2
  · exact r_Cart_again_130 (d := 5) hP hB hk hk2
  · exact r_Cart_again_159 (d := 5) hP hB hk hk2
theorem c_image_old {N : Nat} {P : am_P} {H : am_H} {k : Int} {j : Nat} (hj : j < 4) (hP : PZ P) (hB : PB P (72 + 29 * j)) (hk : 0 ≤ k ∧ k < 4) (hk2 : P 39 k = 72 + 29 * j) : am_R 8 41 [am_r 3, am_i k] (N, P, H) (some (am_i 1)) (N, P, bcS H (72 + 29 * j) 10) := by
  rcases j_four hj with rfl | rfl | rfl | rfl
  · exact r_Cart_image_e72 (d := 5) hP hB hk hk2
  · exact r_Cart_image_e101 (d := 5) hP hB hk hk2
  · exact r_Cart_image_e130 (d := 5) hP hB hk hk2
  · exact r_Cart_image_e159 (d := 5) hP hB hk hk2
theorem c_image_new {P : am_P} {H : am_H} {k : Int} {j : Nat} (hj : j < 4) (hP : PZ P) (hk : 0 ≤ k ∧ k < 4) (hk2 : P 39 k = 0) : am_R 8 41 [am_r 3, am_i k] (72 + 29 * j, P, H) (some (am_i 1)) (72 + 29 * (j + 1), am_up (iPS (am_so P (72 + 29 * j) (fun _ => 0)) (72 + 29 * j)) 39 k (72 + 29 * j), bcS (iHS (am_so H (72 + 29 * j) (fun _ => 0)) (72 + 29 * j)) (72 + 29 * j) 10) := by
  rcases j_four hj with rfl | rfl | rfl | rfl
  · exact r_Cart_image_n72 (d := 5) (N := 0) hP hk hk2
  · exact r_Cart_image_n101 (d := 5) (N := 0) hP hk hk2
  · exact r_Cart_image_n130 (d := 5) (N := 0) hP hk hk2
  · exact r_Cart_image_n159 (d := 5) (N := 0) hP hk hk2
theorem cp_in {a : Int → Int} {s t i : Int} (h0 : 0 ≤ i) (h1 : i < 10410) : cpF a s t 10410 (t + i) = a (s + i) := by
  unfold cpF
  rw [if_pos (by omega)]
  congr 1
  omega
theorem cp_out {a : Int → Int} {s t i : Int} (h : i < t ∨ t + 10410 ≤ i) : cpF a s t 10410 i = a i := if_neg (by omega)

theorem case_again {L : Nat} {xs : Int → Int} {k : Int} : CaseOK L xs 42 131 [am_i k] := by
  intro N P H hR
  obtain ⟨hP, ⟨hI, hW, hS⟩, tp, ft, ot, im, pl, s0, s2⟩ := id hR
  by_cases hg : (0 ≤ k ∧ k < 4) ∧ H 55 k = 1
  · obtain ⟨hk, hk1⟩ := hg
    have hsum := has_sum im
    rcases im.1 k hk.1 hk.2 with z | ⟨z1, j, z2, z3, z4, z5, z6, z7⟩
    · omega
    · have hj : j < 4 := by omega
      have hr := c_again_any (N := N) (H := H) hj hP z4 hk z3
      have o1 : ∀ o, (o < 10 ∨ 38 < o) → o ≠ 43 → am_up (bcS H 10 (72 + 29 * j)) 43 10 0 o = H o := fun o h1 h2 => by rw [am_up_ne h2, bcS_o _ _ _ (by omega)]
      have o2 : am_up (bcS H 10 (72 + 29 * j)) 43 10 0 43 10 = 0 := by rw [am_up_eq, am_uf_eq]
      have o3 : RS (am_up (bcS H 10 (72 + 29 * j)) 43 10 0) 10 (imF (H 54) k) := (RS_bc z6 (Or.inl (by omega)) z5).fr z6 (fun q q0 q1 => am_up_ne (by omega))
      generalize am_up (bcS H 10 (72 + 29 * j)) 43 10 0 = H1 at hr o1 o2 o3
      have hm := r_Model_again (d := 6) (N := N) (H := H1) (k := k) hP (fun _ _ => by rw [o1 55 (by omega) (by omega)]; exact Or.inr hk1)
      rw [o1 55 (by omega) (by omega), o1 54 (by omega) (by omega), if_pos ⟨hk, hk1⟩, bi_t ⟨hk, hk1⟩] at hm
      have p1 : ∀ o, o ≠ 53 → o ≠ 54 → am_up (am_so H1 54 (cpF (H 54) (10410 * (k + 1)) 0 10410)) 53 22 0 o = H1 o := fun o h1 h2 => by rw [am_up_ne h1, am_so_ne _ _ h2]
      have p2 : am_up (am_so H1 54 (cpF (H 54) (10410 * (k + 1)) 0 10410)) 53 22 0 54 = cpF (H 54) (10410 * (k + 1)) 0 10410 := by rw [am_up_ne (by omega), am_so_at]
      have p3 : ∀ i, i ≠ 22 → am_up (am_so H1 54 (cpF (H 54) (10410 * (k + 1)) 0 10410)) 53 22 0 53 i = H 53 i := fun i hi => by rw [am_up_eq, am_uf_ne _ _ hi, am_so_ne _ _ (by omega), o1 53 (by omega) (by omega)]
      have p4 : am_up (am_so H1 54 (cpF (H 54) (10410 * (k + 1)) 0 10410)) 53 22 0 53 22 = 0 := by rw [am_up_eq, am_uf_eq]
      have eA : ∀ i, 0 ≤ i → i < 10410 → cpF (H 54) (10410 * (k + 1)) 0 10410 i = imF (H 54) k i := fun i i0 i1 => by
        have hz := cp_in (a := H 54) (s := 10410 * (k + 1)) (t := 0) i0 i1
        rw [Int.zero_add] at hz
        exact hz
      have eB : ∀ i, 10410 ≤ i → cpF (H 54) (10410 * (k + 1)) 0 10410 i = H 54 i := fun i i0 => cp_out (by omega)
      generalize cpF (H 54) (10410 * (k + 1)) 0 10410 = A at hm p1 p2 p3 p4 eA eB
      generalize am_up (am_so H1 54 A) 53 22 0 = H2 at hm p1 p2 p3 p4
      have hIA := Inv_cgA z6 eA
      refine ⟨1, N, P, H1, N, P, H2, hr, ⟨by rw [o1 0 (by omega) (by omega)]; exact s0, by rw [o1 2 (by omega) (by omega)]; exact s2⟩, hm, hP, ⟨by rw [p2]; exact hIA, by rw [p2]; exact InvW_cgA z6 z7 eA, ?_⟩, tp.cg ?_ ?_ (p3 3 (by omega)) ?_, ?_, ot.cg ?_ ?_ (p3 13 (by omega)) ?_, im.cg (fun o ho => ?_) ?_ (fun i i0 => ?_), ⟨Or.inl p4, ?_, fun z => ?_⟩, ?_, ?_⟩
      · rw [p2]; exact o3.cg z6 (fun q q0 => p1 _ (by omega) (by omega)) eA
      · rw [p1 _ (by omega) (by omega), o1 _ (by omega) (by omega)]
      · rw [p1 _ (by omega) (by omega), o1 _ (by omega) (by omega)]
      · rw [p1 _ (by omega) (by omega), o1 _ (by omega) (by omega)]
      · rw [p1 _ (by omega) (by omega), o1 _ (by omega) (by omega), p3 4 (by omega)]; exact ft
      · rw [p1 _ (by omega) (by omega), o1 _ (by omega) (by omega)]
      · rw [p1 _ (by omega) (by omega), o1 _ (by omega) (by omega)]
      · rw [p1 _ (by omega) (by omega), o1 _ (by omega) (by omega)]
      · rw [p1 _ (by omega) (by omega), o1 _ (by omega) (by omega)]
      · rw [p1 _ (by omega) (by omega), o1 _ (by omega) (by omega)]
      · rw [p2]; exact eB i i0
      · rw [p1 _ (by omega) (by omega), o2, p4]
      · rw [p4] at z; omega
      · rw [p1 _ (by omega) (by omega), o1 _ (by omega) (by omega)]; exact s0
      · rw [p1 _ (by omega) (by omega), o1 _ (by omega) (by omega)]; exact s2
  · have hz : 0 ≤ k ∧ k < 4 → P 39 k = 0 := fun hk => by
      rcases im.1 k hk.1 hk.2 with z | z
      · exact z.2
      · exact absurd ⟨hk, z.1⟩ hg
    have hr := r_Cart_again_n (d := 5) (N := N) (H := H) (k := k) hP hz
    have hm := r_Model_again (d := 6) (N := N) (H := H) (k := k) hP (fun h0 h1 => has_le im k h0 h1)
    rw [if_neg hg, bi_f hg] at hm
    exact ⟨0, N, P, H, N, P, H, hr, ⟨s0, s2⟩, hm, hR⟩

theorem rim_img {N N' : Nat} {P P' : am_P} {H H2 : am_H} {k : Int} {j : Nat} (im : RIm N P H) (h0 : 0 ≤ k) (h1 : k < 4) (h55 : H2 55 = am_uf (H 55) k 1) (h54 : H2 54 = cpF (H 54) 0 (10410 * (k + 1)) 10410) (g1 : ∀ k', k' ≠ k → P' 39 k' = P 39 k') (g2 : P' 39 k = 72 + 29 * j) (g3 : PB P' (72 + 29 * j)) (g4 : ∀ (k' : Int) (j' : Nat), k' ≠ k → 0 ≤ k' → k' < 4 → P 39 k' = 72 + 29 * j' → (j' : Int) < H 55 0 + H 55 1 + H 55 2 + H 55 3 → j' ≠ j) (g5 : ∀ j' : Nat, j' ≠ j → (j' : Int) < H 55 0 + H 55 1 + H 55 2 + H 55 3 → PB P (72 + 29 * j') → PB P' (72 + 29 * j')) (g6 : ∀ (j' q : Nat), j' ≠ j → (j' : Int) < H 55 0 + H 55 1 + H 55 2 + H 55 3 → q ≤ 28 → H2 (72 + 29 * j' + q) = H (72 + 29 * j' + q)) (g7 : RS H2 (72 + 29 * j) (H 54)) (hI : Inv (H 54)) (hW : InvW (H 54)) (g8 : (j : Int) < H2 55 0 + H2 55 1 + H2 55 2 + H2 55 3) (g9 : H 55 0 + H 55 1 + H 55 2 + H 55 3 ≤ H2 55 0 + H2 55 1 + H2 55 2 + H2 55 3) (gN : (N' : Int) = 72 + 29 * (H2 55 0 + H2 55 1 + H2 55 2 + H2 55 3)) : RIm N' P' H2 := by
  obtain ⟨i1, i2, i3⟩ := im
  have hjj : ∀ k', k' ≠ k → 0 ≤ k' → k' < 4 → P 39 k' ≠ 72 + 29 * j := fun k' hne q0 q1 he => by
    rcases i1 k' q0 q1 with z | ⟨z1, j', z2, z3, z4⟩
    · omega
    · exact g4 k' j' hne q0 q1 z3 z2 (by omega)
  refine ⟨fun k' q0 q1 => ?_, fun k1 k2 a0 a1 b0 b1 hne he => ?_, gN⟩
  · by_cases hk : k' = k
    · subst hk
      have eA : ∀ i, 0 ≤ i → i < 10410 → imF (H2 54) k' i = H 54 i := fun i e0 e1 => by
        have hz := cp_in (a := H 54) (s := 0) (t := 10410 * (k' + 1)) e0 e1
        rw [Int.zero_add] at hz
        unfold imF
        rw [h54]
        exact hz
      exact Or.inr ⟨by rw [h55, am_uf_eq], j, g8, g2, g3, g7.cg hI (fun _ _ => rfl) eA, Inv_cgA hI eA, InvW_cgA hI hW eA⟩
    · rcases i1 k' q0 q1 with z | ⟨z1, j', z2, z3, z4, z5, z6, z7⟩
      · exact Or.inl ⟨by rw [h55, am_uf_ne _ _ hk]; exact z.1, by rw [g1 _ hk]; exact z.2⟩
      · have hj := g4 k' j' hk q0 q1 z3 z2
        have eA : ∀ i, 0 ≤ i → i < 10410 → imF (H2 54) k' i = imF (H 54) k' i := fun i e0 e1 => by
          unfold imF
          rw [h54]
          exact cp_out (by omega)
        exact Or.inr ⟨by rw [h55, am_uf_ne _ _ hk]; exact z1, j', by omega, by rw [g1 _ hk]; exact z3, g5 j' hj z2 z4, z5.cg z6 (fun q hq => g6 j' q hj z2 (by omega)) eA, Inv_cgA z6 eA, InvW_cgA z6 z7 eA⟩
  · by_cases c1 : k1 = k
    · by_cases c2 : k2 = k
      · omega
      · rw [c1, g2, g1 _ c2] at he
        exact absurd he.symm (hjj k2 c2 b0 b1)
    · by_cases c2 : k2 = k
      · rw [c2, g2, g1 _ c1] at he
        exact absurd he (hjj k1 c1 a0 a1)
      · rw [g1 _ c1] at hne he
        rw [g1 _ c2] at he
        exact i2 k1 k2 a0 a1 b0 b1 hne he

theorem case_image {L : Nat} {xs : Int → Int} {k : Int} : CaseOK L xs 41 130 [am_i k] := by
  intro N P H hR
  obtain ⟨hP, ⟨hI, hW, hS⟩, tp, ft, ot, im, pl, s0, s2⟩ := id hR
  by_cases hk : 0 ≤ k ∧ k < 4
  · have hsum := has_sum im
    have hn := hI.n
    have key : ∀ (N1 : Nat) (P1 : am_P) (H1 : am_H) (j : Nat), PZ P1 → (∀ o, o < 72 → H1 o = H o) → am_R 8 41 [am_r 3, am_i k] (N, P, H) (some (am_i 1)) (N1, P1, H1) → (∀ H2 : am_H, (∀ o, o ≠ 54 → o ≠ 55 → H2 o = H1 o) → H2 55 = am_uf (H 55) k 1 → H2 54 = cpF (H 54) 0 (10410 * (k + 1)) 10410 → RIm N1 P1 H2) → ∃ (v : Int) (N1 : Nat) (P1 : am_P) (H1 : am_H) (N2 : Nat) (P2 : am_P) (H2 : am_H), am_R 8 41 [am_r 3, am_i k] (N, P, H) (some (am_i v)) (N1, P1, H1) ∧ (H1 0 0 = (L : Int) ∧ H1 2 = xs) ∧ am_R 8 130 [am_r 53, am_i k] (N1, P1, H1) (some (am_i v)) (N2, P2, H2) ∧ Rel L xs N2 P2 H2 := fun N1 P1 H1 j hP1 o1 hr hI1 => by
      have hm := r_Model_image (d := 6) (N := N1) (H := H1) (k := k) hP1
      rw [if_pos hk, bi_t hk, o1 54 (by omega), o1 55 (by omega)] at hm
      have p1 : ∀ o, o ≠ 54 → o ≠ 55 → am_so (am_so H1 55 (am_uf (H 55) k 1)) 54 (cpF (H 54) 0 (10410 * (k + 1)) 10410) o = H1 o := fun o h1 h2 => by rw [am_so_ne _ _ h1, am_so_ne _ _ h2]
      have p2 : am_so (am_so H1 55 (am_uf (H 55) k 1)) 54 (cpF (H 54) 0 (10410 * (k + 1)) 10410) 54 = cpF (H 54) 0 (10410 * (k + 1)) 10410 := am_so_at _ _ _
      have p3 : am_so (am_so H1 55 (am_uf (H 55) k 1)) 54 (cpF (H 54) 0 (10410 * (k + 1)) 10410) 55 = am_uf (H 55) k 1 := by rw [am_so_ne _ _ (by omega), am_so_at]
      generalize am_so (am_so H1 55 (am_uf (H 55) k 1)) 54 (cpF (H 54) 0 (10410 * (k + 1)) 10410) = H2 at hm p1 p2 p3
      have hI2 := hI1 H2 p1 p3 p2
      have eA : ∀ i, 0 ≤ i → i < 10410 → cpF (H 54) 0 (10410 * (k + 1)) 10410 i = H 54 i := fun i i0 i1 => cp_out (by omega)
      generalize cpF (H 54) 0 (10410 * (k + 1)) 10410 = A at p2 eA
      have oo : ∀ o, o < 72 → o ≠ 54 → o ≠ 55 → H2 o = H o := fun o h1 h2 h3 => by rw [p1 o h2 h3, o1 o h1]
      refine ⟨1, N1, P1, H1, N1, P1, H2, hr, ⟨by rw [o1 0 (by omega)]; exact s0, by rw [o1 2 (by omega)]; exact s2⟩, hm, hP1, ⟨by rw [p2]; exact Inv_cgA hI eA, by rw [p2]; exact InvW_cgA hI hW eA, ?_⟩, tp.cg (oo _ (by omega) (by omega) (by omega)) (oo _ (by omega) (by omega) (by omega)) (by rw [oo 53 (by omega) (by omega) (by omega)]) (oo _ (by omega) (by omega) (by omega)), ?_, ot.cg (oo _ (by omega) (by omega) (by omega)) (oo _ (by omega) (by omega) (by omega)) (by rw [oo 53 (by omega) (by omega) (by omega)]) (oo _ (by omega) (by omega) (by omega)), hI2, pl.cg (oo _ (by omega) (by omega) (by omega)) (oo _ (by omega) (by omega) (by omega)) (oo _ (by omega) (by omega) (by omega)) (oo _ (by omega) (by omega) (by omega)) (oo _ (by omega) (by omega) (by omega)) (oo _ (by omega) (by omega) (by omega)) ?_ (fun s q0 q1 => ?_), ?_, ?_⟩
      · rw [p2]; exact hS.cg hI (fun q hq => oo _ (by omega) (by omega) (by omega)) eA
      · rw [oo 3 (by omega) (by omega) (by omega), oo 53 (by omega) (by omega) (by omega)]; exact ft
      · rw [p2, eA 2 (by omega) (by omega)]; exact Int.le_refl _
      · rw [p2, eA _ (by omega) (by omega)]
      · rw [oo 0 (by omega) (by omega) (by omega)]; exact s0
      · rw [oo 2 (by omega) (by omega) (by omega)]; exact s2
    rcases im.1 k hk.1 hk.2 with z | ⟨z1, j, z2, z3, z4, z5, z6, z7⟩
    · have h3 := has_sum3 im hk.1 hk.2 z.1
      have hN := im.2.2
      obtain ⟨j, hj⟩ : ∃ j : Nat, (j : Int) = H 55 0 + H 55 1 + H 55 2 + H 55 3 := ⟨(H 55 0 + H 55 1 + H 55 2 + H 55 3).toNat, by omega⟩
      have hNj : N = 72 + 29 * j := by omega
      subst hNj
      refine key (72 + 29 * (j + 1)) _ _ j (PZ_im (by omega) hP) (fun o ho => ?_) (c_image_new (by omega) hP hk z.2) (fun H2 q1 q2 q3 => ?_)
      · rw [bcS_o _ _ _ (by omega), iHS_o _ _ (by omega), am_so_ne _ _ (by omega)]
      · have hsu := sum_uf hk.1 hk.2 z.1
        rw [← q2] at hsu
        refine rim_img (j := j) im hk.1 hk.2 q2 q3 (fun k' hne => ?_) ?_ (PB_im (by omega)) (fun k' j' _ _ _ _ hlt => by omega) (fun j' hne hlt hb => ?_) (fun j' q hne hlt hq => ?_) ?_ hI hW (by omega) (by omega) (by omega)
        · rw [am_up_eq, am_uf_ne _ _ hne, iPS_o _ _ (by omega), am_so_ne _ _ (by omega)]
        · rw [am_up_eq, am_uf_eq]
        · intro q hq
          have hq2 : q.1 ≤ 28 := (show ∀ q ∈ PBt, q.1 ≤ 28 by decide +kernel) q hq
          rw [am_up_ne (by omega), iPS_o _ _ (by omega), am_so_ne _ _ (by omega)]
          exact hb q hq
        · rw [q1 _ (by omega) (by omega), bcS_o _ _ _ (by omega), iHS_o _ _ (by omega), am_so_ne _ _ (by omega)]
        · refine RS.cg (H := bcS (iHS (am_so H (72 + 29 * j) (fun _ => 0)) (72 + 29 * j)) (72 + 29 * j) 10) (b := 72 + 29 * j) (RS_bc hI (Or.inr (by omega)) (hS.cg hI (fun q hq => ?_) (fun _ _ _ => rfl))) hI (fun q hq => q1 _ (by omega) (by omega)) (fun _ _ _ => rfl)
          rw [iHS_o _ _ (by omega), am_so_ne _ _ (by omega)]
    · have hj : j < 4 := by omega
      refine key N P _ j hP (fun o ho => bcS_o _ _ _ (by omega)) (c_image_old hj hP z4 hk z3) (fun H2 q1 q2 q3 => ?_)
      have hu : H2 55 = H 55 := by rw [q2]; exact ufv_self z1
      refine rim_img (j := j) im hk.1 hk.2 q2 q3 (fun _ _ => rfl) z3 z4 (fun k' j' hne y0 y1 he hlt => ?_) (fun j' _ _ hb => hb) (fun j' q hne hlt hq => ?_) ?_ hI hW (by rw [hu]; omega) (by rw [hu]; omega) (by rw [hu]; exact im.2.2)
      · intro hjj
        exact hne (im.2.1 k' k y0 y1 hk.1 hk.2 (by omega) (by rw [he, z3, hjj]))
      · rw [q1 _ (by omega) (by omega), bcS_o _ _ _ (by omega)]
      · exact RS.cg (H := bcS H (72 + 29 * j) 10) (b := 72 + 29 * j) (RS_bc hI (Or.inr (by omega)) hS) hI (fun q hq => q1 _ (by omega) (by omega)) (fun _ _ _ => rfl)
  · have hr := r_Cart_image_b (d := 5) (N := N) (H := H) (k := k) hP hk
    have hm := r_Model_image (d := 6) (N := N) (H := H) (k := k) hP
    rw [if_neg hk, bi_f hk] at hm
    exact ⟨0, N, P, H, N, P, H, hr, ⟨s0, s2⟩, hm, hR⟩

