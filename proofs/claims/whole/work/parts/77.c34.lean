/-! ===== class and reference side by side: calls that change ===== -/
theorem cm_s {a : Int → Int} (hI : Inv a) {b f s p s' : Int} (hb : 0 ≤ b ∧ b < a 3) (hf : f = 4 ∨ f = 6) (hs : 0 ≤ s ∧ s < a 2) (hp : 0 ≤ p ∧ p < 30) (hs' : 0 ≤ s' ∧ s' < a 2) : cmF a b f s p (6670 + 32 * s' + 1) = a (6670 + 32 * s' + 1) := by
  have hn := hI.n
  rw [cmF_pt, ptF_s (by omega) hf (by omega) hp (by omega) (by omega), lvF_s (by omega) hf (hI.pos hb.1 hb.2 hf) (by omega) (by omega)]
theorem lv_fr {a : Int → Int} (hI : Inv a) {b f s p : Int} (hb : 0 ≤ b ∧ b < a 3) (hf : f = 4 ∨ f = 6) (hs : 0 ≤ s ∧ s < a 2) (hp : 0 ≤ p ∧ p < 30) (h : thgF a s p = -1) : thgF (lvF a b f) s p = -1 := by
  have hn := hI.n
  rw [lvF_t (by omega) hf (hI.pos hb.1 hb.2 hf) (by omega) hp]
  split
  · rfl
  · exact h

theorem case_way {L : Nat} {xs : Int → Int} {w : Int}  : CaseOK L xs 9 76 [am_i w] := by
  intro N P H hR
  obtain ⟨hI, hW, hS⟩ := hR.2.1
  have hn := hI.n
  have hh6 := hI.h.2.1
  have hh5 := hI.h.1
  have he : (0 ≤ w ∧ w < 2) → ∀ k, (k = 1 ∨ k = 2 ∨ (70 ≤ k ∧ k < 6670) ∨ 10410 ≤ k) → (am_uf (H 54) 0 w) k = H 54 k := fun hc k hk => by
    exact am_uf_ne _ _ (by omega)
  have heh : (0 ≤ w ∧ w < 2) → ∀ s', 0 ≤ s' → s' < H 54 2 → (am_uf (H 54) 0 w) (6670 + 32 * s' + 1) = H 54 (6670 + 32 * s' + 1) := fun hc s' t0 t1 => by
    exact am_uf_ne _ _ (by omega)
  refine case_now hR (c_Cart_way (d := 7) hR.1 hI hW hS) (fun H1 e => ?_) ?_ ?_ (fun k hk => ?_) ?_ (fun s' t0 t1 => ?_)
  · have hz := r_Model_way (d := 6) (N := N) (H := H1) (w := w) hR.1 (by rw [e]; exact hI)
    rw [e] at hz
    exact ⟨_, hz, fun o o1 _ _ => am_so_ne _ _ o1, am_so_at _ _ _⟩
  · by_cases hc : 0 ≤ w ∧ w < 2
    · rw [if_pos hc]
      exact inv_way hI hc
    · rw [if_neg hc]; exact hI
  · by_cases hc : 0 ≤ w ∧ w < 2
    · rw [if_pos hc]; exact InvW_cg hI (he hc 1 (by omega)) (fun k k0 k1 => he hc k (by omega)) hW
    · rw [if_neg hc]; exact hW
  · by_cases hc : 0 ≤ w ∧ w < 2
    · rw [if_pos hc]; exact he hc k (by omega)
    · rw [if_neg hc]
  · by_cases hc : 0 ≤ w ∧ w < 2
    · rw [if_pos hc, he hc 2 (by omega)]; exact Int.le_refl _
    · rw [if_neg hc]; exact Int.le_refl _
  · by_cases hc : 0 ≤ w ∧ w < 2
    · rw [if_pos hc]; exact heh hc s' t0 t1
    · rw [if_neg hc]

theorem case_seen {L : Nat} {xs : Int → Int} {m : Int}  : CaseOK L xs 20 106 [am_i m] := by
  intro N P H hR
  obtain ⟨hI, hW, hS⟩ := hR.2.1
  have hn := hI.n
  have hh6 := hI.h.2.1
  have hh5 := hI.h.1
  have he : (0 ≤ H 54 5 ∧ (0 ≤ m ∧ m < H 54 1) ∧ H 54 6 ≠ 60) → ∀ k, (k = 1 ∨ k = 2 ∨ (70 ≤ k ∧ k < 6670) ∨ 10410 ≤ k) → (am_uf (am_uf (H 54) (7 + H 54 6) m) 6 (H 54 6 + 1)) k = H 54 k := fun hc k hk => by
    rw [am_uf_ne _ _ (by omega), am_uf_ne _ _ (by omega)]
  have heh : (0 ≤ H 54 5 ∧ (0 ≤ m ∧ m < H 54 1) ∧ H 54 6 ≠ 60) → ∀ s', 0 ≤ s' → s' < H 54 2 → (am_uf (am_uf (H 54) (7 + H 54 6) m) 6 (H 54 6 + 1)) (6670 + 32 * s' + 1) = H 54 (6670 + 32 * s' + 1) := fun hc s' t0 t1 => by
    rw [am_uf_ne _ _ (by omega), am_uf_ne _ _ (by omega)]
  refine case_now hR (c_Cart_seen (d := 6) hR.1 hI hW hS) (fun H1 e => ?_) ?_ ?_ (fun k hk => ?_) ?_ (fun s' t0 t1 => ?_)
  · have hz := r_Model_seen (d := 5) (N := N) (H := H1) (m := m) hR.1 (by rw [e]; exact hI)
    rw [e] at hz
    exact ⟨_, hz, fun o o1 _ _ => am_so_ne _ _ o1, am_so_at _ _ _⟩
  · by_cases hc : 0 ≤ H 54 5 ∧ (0 ≤ m ∧ m < H 54 1) ∧ H 54 6 ≠ 60
    · rw [if_pos hc]
      exact inv_seen hI hc
    · rw [if_neg hc]; exact hI
  · by_cases hc : 0 ≤ H 54 5 ∧ (0 ≤ m ∧ m < H 54 1) ∧ H 54 6 ≠ 60
    · rw [if_pos hc]; exact InvW_cg hI (he hc 1 (by omega)) (fun k k0 k1 => he hc k (by omega)) hW
    · rw [if_neg hc]; exact hW
  · by_cases hc : 0 ≤ H 54 5 ∧ (0 ≤ m ∧ m < H 54 1) ∧ H 54 6 ≠ 60
    · rw [if_pos hc]; exact he hc k (by omega)
    · rw [if_neg hc]
  · by_cases hc : 0 ≤ H 54 5 ∧ (0 ≤ m ∧ m < H 54 1) ∧ H 54 6 ≠ 60
    · rw [if_pos hc, he hc 2 (by omega)]; exact Int.le_refl _
    · rw [if_neg hc]; exact Int.le_refl _
  · by_cases hc : 0 ≤ H 54 5 ∧ (0 ≤ m ∧ m < H 54 1) ∧ H 54 6 ≠ 60
    · rw [if_pos hc]; exact heh hc s' t0 t1
    · rw [if_neg hc]

theorem case_list {L : Nat} {xs : Int → Int} {m s : Int}  : CaseOK L xs 29 116 [am_i m, am_i s] := by
  intro N P H hR
  obtain ⟨hI, hW, hS⟩ := hR.2.1
  have hn := hI.n
  have hh6 := hI.h.2.1
  have hh5 := hI.h.1
  have he : ((0 ≤ m ∧ m < H 54 1) ∧ 0 ≤ s ∧ s < H 54 2) → ∀ k, (k = 1 ∨ k = 2 ∨ (70 ≤ k ∧ k < 6670) ∨ 10410 ≤ k) → (am_uf (H 54) (8782 + m) s) k = H 54 k := fun hc k hk => by
    exact am_uf_ne _ _ (by omega)
  have heh : ((0 ≤ m ∧ m < H 54 1) ∧ 0 ≤ s ∧ s < H 54 2) → ∀ s', 0 ≤ s' → s' < H 54 2 → (am_uf (H 54) (8782 + m) s) (6670 + 32 * s' + 1) = H 54 (6670 + 32 * s' + 1) := fun hc s' t0 t1 => by
    exact am_uf_ne _ _ (by omega)
  refine case_now hR (c_Cart_list (d := 5) hR.1 hI hW hS) (fun H1 e => ?_) ?_ ?_ (fun k hk => ?_) ?_ (fun s' t0 t1 => ?_)
  · have hz := r_Model_list (d := 5) (N := N) (H := H1) (m := m) (s := s) hR.1 (by rw [e]; exact hI)
    rw [e] at hz
    exact ⟨_, hz, fun o o1 _ _ => am_so_ne _ _ o1, am_so_at _ _ _⟩
  · by_cases hc : (0 ≤ m ∧ m < H 54 1) ∧ 0 ≤ s ∧ s < H 54 2
    · rw [if_pos hc]
      exact inv_list hI hc
    · rw [if_neg hc]; exact hI
  · by_cases hc : (0 ≤ m ∧ m < H 54 1) ∧ 0 ≤ s ∧ s < H 54 2
    · rw [if_pos hc]; exact InvW_cg hI (he hc 1 (by omega)) (fun k k0 k1 => he hc k (by omega)) hW
    · rw [if_neg hc]; exact hW
  · by_cases hc : (0 ≤ m ∧ m < H 54 1) ∧ 0 ≤ s ∧ s < H 54 2
    · rw [if_pos hc]; exact he hc k (by omega)
    · rw [if_neg hc]
  · by_cases hc : (0 ≤ m ∧ m < H 54 1) ∧ 0 ≤ s ∧ s < H 54 2
    · rw [if_pos hc, he hc 2 (by omega)]; exact Int.le_refl _
    · rw [if_neg hc]; exact Int.le_refl _
  · by_cases hc : (0 ≤ m ∧ m < H 54 1) ∧ 0 ≤ s ∧ s < H 54 2
    · rw [if_pos hc]; exact heh hc s' t0 t1
    · rw [if_neg hc]

theorem case_forget {L : Nat} {xs : Int → Int} {m : Int}  : CaseOK L xs 30 117 [am_i m] := by
  intro N P H hR
  obtain ⟨hI, hW, hS⟩ := hR.2.1
  have hn := hI.n
  have hh6 := hI.h.2.1
  have hh5 := hI.h.1
  have he : ((0 ≤ m ∧ m < H 54 1) ∧ 0 ≤ H 54 (8782 + m)) → ∀ k, (k = 1 ∨ k = 2 ∨ (70 ≤ k ∧ k < 6670) ∨ 10410 ≤ k) → (am_uf (am_uf (am_uf (H 54) (8782 + m) (-1)) (8982 + m) 0) (9182 + m) 0) k = H 54 k := fun hc k hk => by
    rw [am_uf_ne _ _ (by omega), am_uf_ne _ _ (by omega), am_uf_ne _ _ (by omega)]
  have heh : ((0 ≤ m ∧ m < H 54 1) ∧ 0 ≤ H 54 (8782 + m)) → ∀ s', 0 ≤ s' → s' < H 54 2 → (am_uf (am_uf (am_uf (H 54) (8782 + m) (-1)) (8982 + m) 0) (9182 + m) 0) (6670 + 32 * s' + 1) = H 54 (6670 + 32 * s' + 1) := fun hc s' t0 t1 => by
    rw [am_uf_ne _ _ (by omega), am_uf_ne _ _ (by omega), am_uf_ne _ _ (by omega)]
  refine case_now hR (c_Cart_forget (d := 4) hR.1 hI hW hS) (fun H1 e => ?_) ?_ ?_ (fun k hk => ?_) ?_ (fun s' t0 t1 => ?_)
  · have hz := r_Model_forget (d := 5) (N := N) (H := H1) (m := m) hR.1 (by rw [e]; exact hI)
    rw [e] at hz
    exact ⟨_, hz, fun o o1 _ _ => am_so_ne _ _ o1, am_so_at _ _ _⟩
  · by_cases hc : (0 ≤ m ∧ m < H 54 1) ∧ 0 ≤ H 54 (8782 + m)
    · rw [if_pos hc]
      exact inv_forget hI hc.1
    · rw [if_neg hc]; exact hI
  · by_cases hc : (0 ≤ m ∧ m < H 54 1) ∧ 0 ≤ H 54 (8782 + m)
    · rw [if_pos hc]; exact InvW_cg hI (he hc 1 (by omega)) (fun k k0 k1 => he hc k (by omega)) hW
    · rw [if_neg hc]; exact hW
  · by_cases hc : (0 ≤ m ∧ m < H 54 1) ∧ 0 ≤ H 54 (8782 + m)
    · rw [if_pos hc]; exact he hc k (by omega)
    · rw [if_neg hc]
  · by_cases hc : (0 ≤ m ∧ m < H 54 1) ∧ 0 ≤ H 54 (8782 + m)
    · rw [if_pos hc, he hc 2 (by omega)]; exact Int.le_refl _
    · rw [if_neg hc]; exact Int.le_refl _
  · by_cases hc : (0 ≤ m ∧ m < H 54 1) ∧ 0 ≤ H 54 (8782 + m)
    · rw [if_pos hc]; exact heh hc s' t0 t1
    · rw [if_neg hc]

theorem case_grow {L : Nat} {xs : Int → Int} {x y z : Int}  : CaseOK L xs 34 121 [am_i x, am_i y, am_i z] := by
  intro N P H hR
  obtain ⟨hI, hW, hS⟩ := hR.2.1
  have hn := hI.n
  have hh6 := hI.h.2.1
  have hh5 := hI.h.1
  have he : (H 54 4 ≠ 12 ∧ (0 ≤ x ∧ x < H 54 1) ∧ (0 ≤ y ∧ y < H 54 1) ∧ 0 ≤ cmpF (H 54) y x 0 ∧ 1 ≤ z ∧ z ≤ 1000) → ∀ k, (k = 1 ∨ k = 2 ∨ (70 ≤ k ∧ k < 6670) ∨ 10410 ≤ k) → (am_uf (am_uf (am_uf (am_uf (H 54) (10374 + 3 * H 54 4) x) (10374 + 3 * H 54 4 + 1) y) (10374 + 3 * H 54 4 + 2) z) 4 (H 54 4 + 1)) k = H 54 k := fun hc k hk => by
    rw [am_uf_ne _ _ (by omega), am_uf_ne _ _ (by omega), am_uf_ne _ _ (by omega), am_uf_ne _ _ (by omega)]
  have heh : (H 54 4 ≠ 12 ∧ (0 ≤ x ∧ x < H 54 1) ∧ (0 ≤ y ∧ y < H 54 1) ∧ 0 ≤ cmpF (H 54) y x 0 ∧ 1 ≤ z ∧ z ≤ 1000) → ∀ s', 0 ≤ s' → s' < H 54 2 → (am_uf (am_uf (am_uf (am_uf (H 54) (10374 + 3 * H 54 4) x) (10374 + 3 * H 54 4 + 1) y) (10374 + 3 * H 54 4 + 2) z) 4 (H 54 4 + 1)) (6670 + 32 * s' + 1) = H 54 (6670 + 32 * s' + 1) := fun hc s' t0 t1 => by
    rw [am_uf_ne _ _ (by omega), am_uf_ne _ _ (by omega), am_uf_ne _ _ (by omega), am_uf_ne _ _ (by omega)]
  refine case_now hR (c_Cart_grow (d := 4) hR.1 hI hW hS) (fun H1 e => ?_) ?_ ?_ (fun k hk => ?_) ?_ (fun s' t0 t1 => ?_)
  · have hz := r_Model_grow (d := 4) (N := N) (H := H1) (x := x) (y := y) (z := z) hR.1 (by rw [e]; exact hI)
    rw [e] at hz
    exact ⟨_, hz, fun o o1 _ _ => am_so_ne _ _ o1, am_so_at _ _ _⟩
  · by_cases hc : H 54 4 ≠ 12 ∧ (0 ≤ x ∧ x < H 54 1) ∧ (0 ≤ y ∧ y < H 54 1) ∧ 0 ≤ cmpF (H 54) y x 0 ∧ 1 ≤ z ∧ z ≤ 1000
    · rw [if_pos hc]
      exact inv_grow hI hc
    · rw [if_neg hc]; exact hI
  · by_cases hc : H 54 4 ≠ 12 ∧ (0 ≤ x ∧ x < H 54 1) ∧ (0 ≤ y ∧ y < H 54 1) ∧ 0 ≤ cmpF (H 54) y x 0 ∧ 1 ≤ z ∧ z ≤ 1000
    · rw [if_pos hc]; exact InvW_cg hI (he hc 1 (by omega)) (fun k k0 k1 => he hc k (by omega)) hW
    · rw [if_neg hc]; exact hW
  · by_cases hc : H 54 4 ≠ 12 ∧ (0 ≤ x ∧ x < H 54 1) ∧ (0 ≤ y ∧ y < H 54 1) ∧ 0 ≤ cmpF (H 54) y x 0 ∧ 1 ≤ z ∧ z ≤ 1000
    · rw [if_pos hc]; exact he hc k (by omega)
    · rw [if_neg hc]
  · by_cases hc : H 54 4 ≠ 12 ∧ (0 ≤ x ∧ x < H 54 1) ∧ (0 ≤ y ∧ y < H 54 1) ∧ 0 ≤ cmpF (H 54) y x 0 ∧ 1 ≤ z ∧ z ≤ 1000
    · rw [if_pos hc, he hc 2 (by omega)]; exact Int.le_refl _
    · rw [if_neg hc]; exact Int.le_refl _
  · by_cases hc : H 54 4 ≠ 12 ∧ (0 ≤ x ∧ x < H 54 1) ∧ (0 ≤ y ∧ y < H 54 1) ∧ 0 ≤ cmpF (H 54) y x 0 ∧ 1 ≤ z ∧ z ≤ 1000
    · rw [if_pos hc]; exact heh hc s' t0 t1
    · rw [if_neg hc]

theorem case_stand {L : Nat} {xs : Int → Int} {b s p : Int}  : CaseOK L xs 13 92 [am_i b, am_i s, am_i p] := by
  intro N P H hR
  obtain ⟨hI, hW, hS⟩ := hR.2.1
  have hn := hI.n
  have hh6 := hI.h.2.1
  have hh5 := hI.h.1
  have he : ((0 ≤ b ∧ b < H 54 3) ∧ (0 ≤ s ∧ s < H 54 2) ∧ (0 ≤ p ∧ p < 30) ∧ (H 54 (6670 + 32 * s + 1) = 1 ↔ bkF (H 54) b 0 = 1) ∧ thgF (H 54) s p < 0) → ∀ k, (k = 1 ∨ k = 2 ∨ (70 ≤ k ∧ k < 6670) ∨ 10410 ≤ k) → (cmF (H 54) b 4 s p) k = H 54 k := fun hc k hk => by
    exact cm_o hI hc.1 (Or.inl rfl) hc.2.1 hc.2.2.1 (by omega)
  have heh : ((0 ≤ b ∧ b < H 54 3) ∧ (0 ≤ s ∧ s < H 54 2) ∧ (0 ≤ p ∧ p < 30) ∧ (H 54 (6670 + 32 * s + 1) = 1 ↔ bkF (H 54) b 0 = 1) ∧ thgF (H 54) s p < 0) → ∀ s', 0 ≤ s' → s' < H 54 2 → (cmF (H 54) b 4 s p) (6670 + 32 * s' + 1) = H 54 (6670 + 32 * s' + 1) := fun hc s' t0 t1 => by
    exact cm_s hI hc.1 (Or.inl rfl) hc.2.1 hc.2.2.1 ⟨t0, t1⟩
  refine case_now hR (c_Cart_stand (d := 2) hR.1 hI hW hS) (fun H1 e => ?_) ?_ ?_ (fun k hk => ?_) ?_ (fun s' t0 t1 => ?_)
  · have hz := r_Model_stand (d := 4) (N := N) (H := H1) (b := b) (s := s) (p := p) hR.1 (by rw [e]; exact hI)
    rw [e] at hz
    exact ⟨_, hz, fun o o1 _ _ => am_so_ne _ _ o1, am_so_at _ _ _⟩
  · by_cases hc : (0 ≤ b ∧ b < H 54 3) ∧ (0 ≤ s ∧ s < H 54 2) ∧ (0 ≤ p ∧ p < 30) ∧ (H 54 (6670 + 32 * s + 1) = 1 ↔ bkF (H 54) b 0 = 1) ∧ thgF (H 54) s p < 0
    · rw [if_pos hc]
      exact inv_cm hI hc.1.1 hc.1.2 (Or.inl rfl) hc.2.1 hc.2.2.1 (lv_fr hI hc.1 (Or.inl rfl) hc.2.1 hc.2.2.1 ((th_neg hI hc.2.1 hc.2.2.1).mp hc.2.2.2.2)) (fun _ => hc.2.2.2.1) (fun z => by omega)
    · rw [if_neg hc]; exact hI
  · by_cases hc : (0 ≤ b ∧ b < H 54 3) ∧ (0 ≤ s ∧ s < H 54 2) ∧ (0 ≤ p ∧ p < 30) ∧ (H 54 (6670 + 32 * s + 1) = 1 ↔ bkF (H 54) b 0 = 1) ∧ thgF (H 54) s p < 0
    · rw [if_pos hc]; exact InvW_cg hI (he hc 1 (by omega)) (fun k k0 k1 => he hc k (by omega)) hW
    · rw [if_neg hc]; exact hW
  · by_cases hc : (0 ≤ b ∧ b < H 54 3) ∧ (0 ≤ s ∧ s < H 54 2) ∧ (0 ≤ p ∧ p < 30) ∧ (H 54 (6670 + 32 * s + 1) = 1 ↔ bkF (H 54) b 0 = 1) ∧ thgF (H 54) s p < 0
    · rw [if_pos hc]; exact he hc k (by omega)
    · rw [if_neg hc]
  · by_cases hc : (0 ≤ b ∧ b < H 54 3) ∧ (0 ≤ s ∧ s < H 54 2) ∧ (0 ≤ p ∧ p < 30) ∧ (H 54 (6670 + 32 * s + 1) = 1 ↔ bkF (H 54) b 0 = 1) ∧ thgF (H 54) s p < 0
    · rw [if_pos hc, he hc 2 (by omega)]; exact Int.le_refl _
    · rw [if_neg hc]; exact Int.le_refl _
  · by_cases hc : (0 ≤ b ∧ b < H 54 3) ∧ (0 ≤ s ∧ s < H 54 2) ∧ (0 ≤ p ∧ p < 30) ∧ (H 54 (6670 + 32 * s + 1) = 1 ↔ bkF (H 54) b 0 = 1) ∧ thgF (H 54) s p < 0
    · rw [if_pos hc]; exact heh hc s' t0 t1
    · rw [if_neg hc]

theorem case_dummy {L : Nat} {xs : Int → Int} {b s p : Int}  : CaseOK L xs 14 93 [am_i b, am_i s, am_i p] := by
  intro N P H hR
  obtain ⟨hI, hW, hS⟩ := hR.2.1
  have hn := hI.n
  have hh6 := hI.h.2.1
  have hh5 := hI.h.1
  have he : ((0 ≤ b ∧ b < H 54 3) ∧ (0 ≤ s ∧ s < H 54 2) ∧ (0 ≤ p ∧ p < 30) ∧ bkF (H 54) b 0 = 1 ∧ 0 ≤ bkF (H 54) b 4 ∧ ¬ H 54 (6670 + 32 * s + 1) = 1 ∧ thgF (H 54) s p < 0) → ∀ k, (k = 1 ∨ k = 2 ∨ (70 ≤ k ∧ k < 6670) ∨ 10410 ≤ k) → (cmF (H 54) b 6 s p) k = H 54 k := fun hc k hk => by
    exact cm_o hI hc.1 (Or.inr rfl) hc.2.1 hc.2.2.1 (by omega)
  have heh : ((0 ≤ b ∧ b < H 54 3) ∧ (0 ≤ s ∧ s < H 54 2) ∧ (0 ≤ p ∧ p < 30) ∧ bkF (H 54) b 0 = 1 ∧ 0 ≤ bkF (H 54) b 4 ∧ ¬ H 54 (6670 + 32 * s + 1) = 1 ∧ thgF (H 54) s p < 0) → ∀ s', 0 ≤ s' → s' < H 54 2 → (cmF (H 54) b 6 s p) (6670 + 32 * s' + 1) = H 54 (6670 + 32 * s' + 1) := fun hc s' t0 t1 => by
    exact cm_s hI hc.1 (Or.inr rfl) hc.2.1 hc.2.2.1 ⟨t0, t1⟩
  refine case_now hR (c_Cart_dummy (d := 2) hR.1 hI hW hS) (fun H1 e => ?_) ?_ ?_ (fun k hk => ?_) ?_ (fun s' t0 t1 => ?_)
  · have hz := r_Model_dummy (d := 4) (N := N) (H := H1) (b := b) (s := s) (p := p) hR.1 (by rw [e]; exact hI)
    rw [e] at hz
    exact ⟨_, hz, fun o o1 _ _ => am_so_ne _ _ o1, am_so_at _ _ _⟩
  · by_cases hc : (0 ≤ b ∧ b < H 54 3) ∧ (0 ≤ s ∧ s < H 54 2) ∧ (0 ≤ p ∧ p < 30) ∧ bkF (H 54) b 0 = 1 ∧ 0 ≤ bkF (H 54) b 4 ∧ ¬ H 54 (6670 + 32 * s + 1) = 1 ∧ thgF (H 54) s p < 0
    · rw [if_pos hc]
      exact inv_cm hI hc.1.1 hc.1.2 (Or.inr rfl) hc.2.1 hc.2.2.1 (lv_fr hI hc.1 (Or.inr rfl) hc.2.1 hc.2.2.1 ((th_neg hI hc.2.1 hc.2.2.1).mp hc.2.2.2.2.2.2)) (fun z => by omega) (fun _ => ⟨by have := (hI.s.2.1 s hc.2.1.1 hc.2.1.2).2; have := hc.2.2.2.2.2.1; omega, hc.2.2.2.1⟩)
    · rw [if_neg hc]; exact hI
  · by_cases hc : (0 ≤ b ∧ b < H 54 3) ∧ (0 ≤ s ∧ s < H 54 2) ∧ (0 ≤ p ∧ p < 30) ∧ bkF (H 54) b 0 = 1 ∧ 0 ≤ bkF (H 54) b 4 ∧ ¬ H 54 (6670 + 32 * s + 1) = 1 ∧ thgF (H 54) s p < 0
    · rw [if_pos hc]; exact InvW_cg hI (he hc 1 (by omega)) (fun k k0 k1 => he hc k (by omega)) hW
    · rw [if_neg hc]; exact hW
  · by_cases hc : (0 ≤ b ∧ b < H 54 3) ∧ (0 ≤ s ∧ s < H 54 2) ∧ (0 ≤ p ∧ p < 30) ∧ bkF (H 54) b 0 = 1 ∧ 0 ≤ bkF (H 54) b 4 ∧ ¬ H 54 (6670 + 32 * s + 1) = 1 ∧ thgF (H 54) s p < 0
    · rw [if_pos hc]; exact he hc k (by omega)
    · rw [if_neg hc]
  · by_cases hc : (0 ≤ b ∧ b < H 54 3) ∧ (0 ≤ s ∧ s < H 54 2) ∧ (0 ≤ p ∧ p < 30) ∧ bkF (H 54) b 0 = 1 ∧ 0 ≤ bkF (H 54) b 4 ∧ ¬ H 54 (6670 + 32 * s + 1) = 1 ∧ thgF (H 54) s p < 0
    · rw [if_pos hc, he hc 2 (by omega)]; exact Int.le_refl _
    · rw [if_neg hc]; exact Int.le_refl _
  · by_cases hc : (0 ≤ b ∧ b < H 54 3) ∧ (0 ≤ s ∧ s < H 54 2) ∧ (0 ≤ p ∧ p < 30) ∧ bkF (H 54) b 0 = 1 ∧ 0 ≤ bkF (H 54) b 4 ∧ ¬ H 54 (6670 + 32 * s + 1) = 1 ∧ thgF (H 54) s p < 0
    · rw [if_pos hc]; exact heh hc s' t0 t1
    · rw [if_neg hc]

theorem case_off {L : Nat} {xs : Int → Int} {b : Int}  : CaseOK L xs 15 94 [am_i b] := by
  intro N P H hR
  obtain ⟨hI, hW, hS⟩ := hR.2.1
  have hn := hI.n
  have hh6 := hI.h.2.1
  have hh5 := hI.h.1
  have he : ((0 ≤ b ∧ b < H 54 3) ∧ 0 ≤ bkF (H 54) b 4) → ∀ k, (k = 1 ∨ k = 2 ∨ (70 ≤ k ∧ k < 6670) ∨ 10410 ≤ k) → (lvF (lvF (H 54) b 4) b 6) k = H 54 k := fun hc k hk => by
    have hI1 := inv_lv hI hc.1.1 hc.1.2 (f := 4) (Or.inl rfl)
    have h3 : lvF (H 54) b 4 3 = H 54 3 := lvF_o (by omega) (Or.inl rfl) (hI.pos hc.1.1 hc.1.2 (Or.inl rfl)) (by omega)
    rw [lvF_o (by omega) (Or.inr rfl) (hI1.pos hc.1.1 (by rw [h3]; exact hc.1.2) (Or.inr rfl)) (by omega), lvF_o (by omega) (Or.inl rfl) (hI.pos hc.1.1 hc.1.2 (Or.inl rfl)) (by omega)]
  have heh : ((0 ≤ b ∧ b < H 54 3) ∧ 0 ≤ bkF (H 54) b 4) → ∀ s', 0 ≤ s' → s' < H 54 2 → (lvF (lvF (H 54) b 4) b 6) (6670 + 32 * s' + 1) = H 54 (6670 + 32 * s' + 1) := fun hc s' t0 t1 => by
    have hI1 := inv_lv hI hc.1.1 hc.1.2 (f := 4) (Or.inl rfl)
    have h3 : lvF (H 54) b 4 3 = H 54 3 := lvF_o (by omega) (Or.inl rfl) (hI.pos hc.1.1 hc.1.2 (Or.inl rfl)) (by omega)
    rw [lvF_s (by omega) (Or.inr rfl) (hI1.pos hc.1.1 (by rw [h3]; exact hc.1.2) (Or.inr rfl)) (by omega) (Or.inr rfl), lvF_s (by omega) (Or.inl rfl) (hI.pos hc.1.1 hc.1.2 (Or.inl rfl)) (by omega) (Or.inr rfl)]
  refine case_now hR (c_Cart_off (d := 3) hR.1 hI hW hS) (fun H1 e => ?_) ?_ ?_ (fun k hk => ?_) ?_ (fun s' t0 t1 => ?_)
  · have hz := r_Model_off (d := 5) (N := N) (H := H1) (b := b) hR.1 (by rw [e]; exact hI)
    rw [e] at hz
    exact ⟨_, hz, fun o o1 _ _ => am_so_ne _ _ o1, am_so_at _ _ _⟩
  · by_cases hc : (0 ≤ b ∧ b < H 54 3) ∧ 0 ≤ bkF (H 54) b 4
    · rw [if_pos hc]
      have hI1 := inv_lv hI hc.1.1 hc.1.2 (f := 4) (Or.inl rfl)
      exact inv_lv hI1 hc.1.1 (by rw [lvF_o (by omega) (Or.inl rfl) (hI.pos hc.1.1 hc.1.2 (Or.inl rfl)) (by omega)]; exact hc.1.2) (Or.inr rfl)
    · rw [if_neg hc]; exact hI
  · by_cases hc : (0 ≤ b ∧ b < H 54 3) ∧ 0 ≤ bkF (H 54) b 4
    · rw [if_pos hc]; exact InvW_cg hI (he hc 1 (by omega)) (fun k k0 k1 => he hc k (by omega)) hW
    · rw [if_neg hc]; exact hW
  · by_cases hc : (0 ≤ b ∧ b < H 54 3) ∧ 0 ≤ bkF (H 54) b 4
    · rw [if_pos hc]; exact he hc k (by omega)
    · rw [if_neg hc]
  · by_cases hc : (0 ≤ b ∧ b < H 54 3) ∧ 0 ≤ bkF (H 54) b 4
    · rw [if_pos hc, he hc 2 (by omega)]; exact Int.le_refl _
    · rw [if_neg hc]; exact Int.le_refl _
  · by_cases hc : (0 ≤ b ∧ b < H 54 3) ∧ 0 ≤ bkF (H 54) b 4
    · rw [if_pos hc]; exact heh hc s' t0 t1
    · rw [if_neg hc]

theorem case_run {L : Nat} {xs : Int → Int} {s w : Int}  : CaseOK L xs 19 103 [am_i s, am_i w] := by
  intro N P H hR
  obtain ⟨hI, hW, hS⟩ := hR.2.1
  have hn := hI.n
  have hh6 := hI.h.2.1
  have hh5 := hI.h.1
  have he : (0 ≤ s ∧ s < H 54 2) → ∀ k, (k = 1 ∨ k = 2 ∨ (70 ≤ k ∧ k < 6670) ∨ 10410 ≤ k) → (rnF (H 54) s w) k = H 54 k := fun hc k hk => by
    unfold rnF
    have hr := rnL_r (H 54) s 30
    split
    · rw [am_uf_ne _ _ (by omega), am_uf_ne _ _ (by omega)]
    · rw [am_uf_ne _ _ (by omega), rnL_o _ _ (by omega) 30 (Nat.le_refl _)]
  have heh : (0 ≤ s ∧ s < H 54 2) → ∀ s', 0 ≤ s' → s' < H 54 2 → (rnF (H 54) s w) (6670 + 32 * s' + 1) = H 54 (6670 + 32 * s' + 1) := fun hc s' t0 t1 => by
    unfold rnF
    have hr := rnL_r (H 54) s 30
    split
    · rw [am_uf_ne _ _ (by omega), am_uf_ne _ _ (by omega)]
    · rw [am_uf_ne _ _ (by omega), rnL_o _ _ (by omega) 30 (Nat.le_refl _)]
  refine case_now hR (c_Cart_run (d := 4) hR.1 hI hW hS) (fun H1 e => ?_) ?_ ?_ (fun k hk => ?_) ?_ (fun s' t0 t1 => ?_)
  · have hz := r_Model_run (d := 5) (N := N) (H := H1) (s := s) (w := w) hR.1 (by rw [e]; exact hI)
    rw [e] at hz
    exact ⟨_, hz, fun o o1 _ _ => am_so_ne _ _ o1, am_so_at _ _ _⟩
  · by_cases hc : 0 ≤ s ∧ s < H 54 2
    · rw [if_pos hc]
      exact inv_run hI hc
    · rw [if_neg hc]; exact hI
  · by_cases hc : 0 ≤ s ∧ s < H 54 2
    · rw [if_pos hc]; exact InvW_cg hI (he hc 1 (by omega)) (fun k k0 k1 => he hc k (by omega)) hW
    · rw [if_neg hc]; exact hW
  · by_cases hc : 0 ≤ s ∧ s < H 54 2
    · rw [if_pos hc]; exact he hc k (by omega)
    · rw [if_neg hc]
  · by_cases hc : 0 ≤ s ∧ s < H 54 2
    · rw [if_pos hc, he hc 2 (by omega)]; exact Int.le_refl _
    · rw [if_neg hc]; exact Int.le_refl _
  · by_cases hc : 0 ≤ s ∧ s < H 54 2
    · rw [if_pos hc]; exact heh hc s' t0 t1
    · rw [if_neg hc]

theorem case_done {L : Nat} {xs : Int → Int}   : CaseOK L xs 28 115 [] := by
  intro N P H hR
  obtain ⟨hI, hW, hS⟩ := hR.2.1
  have hn := hI.n
  have hh6 := hI.h.2.1
  have hh5 := hI.h.1
  have he : (0 ≤ H 54 5) → ∀ k, (k = 1 ∨ k = 2 ∨ (70 ≤ k ∧ k < 6670) ∨ 10410 ≤ k) → (dnS (dn2 (H 54)) (H 54 5) (H 54 1)) k = H 54 k := fun hc k hk => by
    rw [dnS_k _ _ _ (by omega) (by omega), dn2_o hI hc (by omega) (by omega)]
  have heh : (0 ≤ H 54 5) → ∀ s', 0 ≤ s' → s' < H 54 2 → (dnS (dn2 (H 54)) (H 54 5) (H 54 1)) (6670 + 32 * s' + 1) = H 54 (6670 + 32 * s' + 1) := fun hc s' t0 t1 => by
    rw [dnS_k _ _ _ (by omega) (by omega), dn2_o hI hc (by omega) (by omega)]
  refine case_now hR (c_Cart_done (d := 2) hR.1 hI hW hS) (fun H1 e => ?_) ?_ ?_ (fun k hk => ?_) ?_ (fun s' t0 t1 => ?_)
  · have hz := r_Model_done (d := 6) (N := N) (H := H1)  hR.1 (by rw [e]; exact hI)
    rw [e] at hz
    exact ⟨_, hz, fun o o1 _ _ => am_so_ne _ _ o1, am_so_at _ _ _⟩
  · by_cases hc : 0 ≤ H 54 5
    · rw [if_pos hc]
      exact inv_done hI hc
    · rw [if_neg hc]; exact hI
  · by_cases hc : 0 ≤ H 54 5
    · rw [if_pos hc]; exact InvW_cg hI (he hc 1 (by omega)) (fun k k0 k1 => he hc k (by omega)) hW
    · rw [if_neg hc]; exact hW
  · by_cases hc : 0 ≤ H 54 5
    · rw [if_pos hc]; exact he hc k (by omega)
    · rw [if_neg hc]
  · by_cases hc : 0 ≤ H 54 5
    · rw [if_pos hc, he hc 2 (by omega)]; exact Int.le_refl _
    · rw [if_neg hc]; exact Int.le_refl _
  · by_cases hc : 0 ≤ H 54 5
    · rw [if_pos hc]; exact heh hc s' t0 t1
    · rw [if_neg hc]

theorem case_book {L : Nat} {xs : Int → Int} {kd m w l : Int}  : CaseOK L xs 12 86 [am_i kd, am_i m, am_i w, am_i l] := by
  intro N P H hR
  obtain ⟨hI, hW, hS⟩ := hR.2.1
  have hn := hI.n
  have hh6 := hI.h.2.1
  have hh5 := hI.h.1
  have he : (bkO (H 54) kd m w l) → ∀ k, (k = 1 ∨ k = 2 ∨ (70 ≤ k ∧ k < 6670) ∨ 10410 ≤ k) → (bkG (H 54) kd m w l) k = H 54 k := fun hc k hk => by
    have := hc.1
    exact bg_k (by omega) (by omega) (by omega)
  have heh : (bkO (H 54) kd m w l) → ∀ s', 0 ≤ s' → s' < H 54 2 → (bkG (H 54) kd m w l) (6670 + 32 * s' + 1) = H 54 (6670 + 32 * s' + 1) := fun hc s' t0 t1 => by
    have := hc.1
    exact bg_k (by omega) (by omega) (by omega)
  refine case_now hR (c_Cart_book (d := 4) hR.1 hI hW hS) (fun H1 e => ?_) ?_ ?_ (fun k hk => ?_) ?_ (fun s' t0 t1 => ?_)
  · have hz := r_Model_book (d := 5) (N := N) (H := H1) (kd := kd) (m := m) (w := w) (l := l) hR.1 (by rw [e]; exact hI)
    rw [e] at hz
    exact ⟨_, hz, fun o o1 _ _ => am_so_ne _ _ o1, am_so_at _ _ _⟩
  · by_cases hc : bkO (H 54) kd m w l
    · rw [if_pos hc]
      exact inv_book hI hc
    · rw [if_neg hc]; exact hI
  · by_cases hc : bkO (H 54) kd m w l
    · rw [if_pos hc]; exact InvW_cg hI (he hc 1 (by omega)) (fun k k0 k1 => he hc k (by omega)) hW
    · rw [if_neg hc]; exact hW
  · by_cases hc : bkO (H 54) kd m w l
    · rw [if_pos hc]; exact he hc k (by omega)
    · rw [if_neg hc]
  · by_cases hc : bkO (H 54) kd m w l
    · rw [if_pos hc, he hc 2 (by omega)]; exact Int.le_refl _
    · rw [if_neg hc]; exact Int.le_refl _
  · by_cases hc : bkO (H 54) kd m w l
    · rw [if_pos hc]; exact heh hc s' t0 t1
    · rw [if_neg hc]

theorem case_shelf {L : Nat} {xs : Int → Int} {w h : Int} : CaseOK L xs 11 84 [am_i w, am_i h] := by
  intro N P H hR
  obtain ⟨hI, hW, hS⟩ := hR.2.1
  have hn := hI.n
  have he : (H 54 2 ≠ 16 ∧ 100 ≤ w ∧ w ≤ 2000) → ∀ k, k ≠ 2 → (k < 6670 + 32 * H 54 2 ∨ 6670 + 32 * H 54 2 + 32 ≤ k) → shF (H 54) w (bi (h ≠ 0)) k = H 54 k := fun hc k k1 k2 => sh_k (by omega) k1 k2
  refine case_now hR (c_Cart_shelf (d := 2) hR.1 hI hW hS) (fun H1 e => ?_) ?_ ?_ (fun k hk => ?_) ?_ (fun s' t0 t1 => ?_)
  · have hz := r_Model_shelf (d := 7) (N := N) (H := H1) (w := w) (h := h) hR.1 (by rw [e]; exact hI)
    rw [e] at hz
    exact ⟨_, hz, fun o o1 _ _ => am_so_ne _ _ o1, am_so_at _ _ _⟩
  · by_cases hc : H 54 2 ≠ 16 ∧ 100 ≤ w ∧ w ≤ 2000
    · rw [if_pos hc]; exact inv_shelf hI hc.1 hc.2 (bi_01 _)
    · rw [if_neg hc]; exact hI
  · by_cases hc : H 54 2 ≠ 16 ∧ 100 ≤ w ∧ w ≤ 2000
    · rw [if_pos hc]; exact InvW_cg hI (he hc 1 (by omega) (by omega)) (fun k k0 k1 => he hc k (by omega) (by omega)) hW
    · rw [if_neg hc]; exact hW
  · by_cases hc : H 54 2 ≠ 16 ∧ 100 ≤ w ∧ w ≤ 2000
    · rw [if_pos hc]; exact he hc k (by omega) (by omega)
    · rw [if_neg hc]
  · by_cases hc : H 54 2 ≠ 16 ∧ 100 ≤ w ∧ w ≤ 2000
    · rw [if_pos hc, sh_2]; omega
    · rw [if_neg hc]; exact Int.le_refl _
  · by_cases hc : H 54 2 ≠ 16 ∧ 100 ≤ w ∧ w ≤ 2000
    · rw [if_pos hc]; exact he hc _ (by omega) (by omega)
    · rw [if_neg hc]

theorem case_found {L : Nat} {xs : Int → Int} {s w k : Int} (hk : k ≤ 2147483647) : CaseOK L xs 32 119 [am_i s, am_i w, am_i k] := by
  intro N P H hR
  obtain ⟨hI, hW, hS⟩ := hR.2.1
  refine case_now hR (c_Cart_found (d := 3) hR.1 hI hW hS hk) (fun H1 e => ?_) hI hW (fun _ _ => rfl) (Int.le_refl _) (fun _ _ _ => rfl)
  have hz := r_Model_found (d := 5) (N := N) (H := H1) (s := s) (w := w) (k := k) hR.1 (by rw [e]; exact hI) hk
  rw [e] at hz
  exact ⟨H1, hz, fun _ _ _ _ => rfl, e⟩

