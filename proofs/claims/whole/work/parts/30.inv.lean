/-! ===== what always holds stays so: leaving and coming ===== -/
theorem InvM_cg {a a' : Int → Int} (h1 : a' 1 = a 1) (h : ∀ k, 70 ≤ k → k < 6670 → a' k = a k) (hI : InvM a) : InvM a' := by
  refine ⟨by rw [h1]; exact hI.1, fun m q0 q1 => ?_⟩
  rw [h1] at q1
  have hm := hI.2 m q0 q1
  have hn := hI.1
  have e0 : lenF a' m = lenF a m := h _ (by omega) (by omega)
  refine ⟨hm.1, by rw [e0]; exact hm.2.1, fun k q2 q3 => ?_⟩
  rw [e0] at q3
  have hl := hm.2.1
  have e1 : ∀ w, 0 ≤ w → w < 4 → prtF a' m k w = prtF a m k w := fun w r0 r1 => h _ (by omega) (by omega)
  rw [e1 0 (by omega) (by omega), e1 1 (by omega) (by omega), e1 2 (by omega) (by omega), e1 3 (by omega) (by omega)]
  exact hm.2.2 k q2 q3
theorem InvH_cg {a a' : Int → Int} (h1 : a' 1 = a 1) (h2 : a' 2 = a 2) (h : ∀ k, 5 ≤ k → k < 67 → a' k = a k) (hI : InvH a) : InvH a' := by
  have e5 := h 5 (by omega) (by omega)
  have e6 := h 6 (by omega) (by omega)
  refine ⟨by rw [e5, h2]; exact hI.1, by rw [e6]; exact hI.2.1, fun k q0 q1 => ?_⟩
  rw [e6] at q1
  have := hI.2.1
  rw [h (7 + k) (by omega) (by omega), h1]
  exact hI.2.2 k q0 q1
theorem InvL_cg {a a' : Int → Int} (h1 : a' 1 = a 1) (h2 : a' 2 = a 2) (h : ∀ k, 8782 ≤ k → k < 10374 → a' k = a k) (hI : InvL a) : InvL a' := by
  refine ⟨fun m q0 q1 => ?_, fun s q0 q1 => ?_⟩
  · rw [h (8782 + m) (by omega) (by omega), h (8982 + m) (by omega) (by omega), h (9182 + m) (by omega) (by omega), h1, h2]
    exact hI.1 m q0 q1
  · have hs := hI.2 s q0 q1
    have e1 := h (9382 + 62 * s + 1) (by omega) (by omega)
    rw [h (9382 + 62 * s) (by omega) (by omega), e1]
    refine ⟨hs.1, hs.2.1, fun k r0 r1 => ?_⟩
    have := hs.2.1
    rw [h (9382 + 62 * s + 2 + k) (by omega) (by omega), h1]
    exact hs.2.2 k r0 r1
theorem InvG_cg {a a' : Int → Int} (h1 : a' 1 = a 1) (h4 : a' 4 = a 4) (h : ∀ k, 10374 ≤ k → k < 10410 → a' k = a k) (hI : InvG a) : InvG a' := by
  refine ⟨by rw [h4]; exact hI.1, fun g q0 q1 => ?_⟩
  rw [h4] at q1
  have := hI.1
  rw [h (10374 + 3 * g) (by omega) (by omega), h (10374 + 3 * g + 1) (by omega) (by omega), h (10374 + 3 * g + 2) (by omega) (by omega), h1]
  exact hI.2 g q0 q1
theorem InvS_cg {a a' : Int → Int} (h2 : a' 2 = a 2) (h3 : a' 3 = a 3) (h : ∀ k, 6670 ≤ k → k < 8782 → a' k = a k) (hb : a 3 ≤ 200) (hI : InvS a) : InvS a' := by
  have hn := hI.1
  refine ⟨by rw [h2]; exact hI.1, fun s q0 q1 => ?_, fun s p q0 q1 q2 q3 => ?_⟩
  · rw [h2] at q1
    rw [h _ (by omega) (by omega), h _ (by omega) (by omega)]
    exact hI.2.1 s q0 q1
  · rw [h2] at q1
    have e : thgF a' s p = thgF a s p := h _ (by omega) (by omega)
    rw [e, h3]
    rcases hI.2.2 s p q0 q1 q2 q3 with q | ⟨r1, r2, r3⟩ | ⟨r1, r2, r3⟩
    · exact Or.inl q
    · refine Or.inr (Or.inl ⟨r1, r2, ?_⟩)
      have e1 : ∀ w, 0 ≤ w → w < 8 → bkF a' (thgF a s p) w = bkF a (thgF a s p) w := fun w r0 r1 => h _ (by omega) (by omega)
      rw [e1 4 (by omega) (by omega), e1 5 (by omega) (by omega)]
      exact r3
    · refine Or.inr (Or.inr ⟨r1, r2, ?_⟩)
      have e1 : ∀ w, 0 ≤ w → w < 8 → bkF a' (thgF a s p - 1000) w = bkF a (thgF a s p - 1000) w := fun w r0 r1 => h _ (by omega) (by omega)
      rw [e1 6 (by omega) (by omega), e1 7 (by omega) (by omega)]
      exact r3
theorem InvB_cg {a a' : Int → Int} (h1 : a' 1 = a 1) (h2 : a' 2 = a 2) (h3 : a' 3 = a 3) (h : ∀ k, 6670 ≤ k → k < 8782 → a' k = a k) (hs : a 2 ≤ 16) (hI : InvB a) : InvB a' := by
  have hn := hI.1
  refine ⟨by rw [h3]; exact hI.1, fun b q0 q1 => ?_⟩
  rw [h3] at q1
  have hb := hI.2 b q0 q1
  have e1 : ∀ w, 0 ≤ w → w < 8 → bkF a' b w = bkF a b w := fun w r0 r1 => h _ (by omega) (by omega)
  unfold InvB1 at hb ⊢
  rw [e1 0 (by omega) (by omega), e1 1 (by omega) (by omega), e1 2 (by omega) (by omega), e1 4 (by omega) (by omega), e1 5 (by omega) (by omega), e1 6 (by omega) (by omega), e1 7 (by omega) (by omega), h1, h2]
  refine ⟨hb.1, hb.2.1, hb.2.2.1, ?_, ?_⟩
  · rcases hb.2.2.2.1 with q | ⟨r1, r2, r3, r4⟩
    · exact Or.inl q
    · refine Or.inr ⟨r1, r2, ?_, ?_⟩
      · exact (h (6670 + 32 * bkF a b 4 + 2 + bkF a b 5) (by omega) (by omega)).trans r3
      · rw [h _ (by omega) (by omega)]; exact r4
  · rcases hb.2.2.2.2 with q | ⟨r1, r2, r3, r4⟩
    · exact Or.inl q
    · refine Or.inr ⟨r1, r2, ?_, ?_⟩
      · exact (h (6670 + 32 * bkF a b 6 + 2 + bkF a b 7) (by omega) (by omega)).trans r3
      · rw [h _ (by omega) (by omega)]; exact r4
/-- a standing, or none, of one book -/
abbrev Pos (a : Int → Int) (b f : Int) : Prop := 0 ≤ bkF a b f → bkF a b f < 16 ∧ 0 ≤ bkF a b (f + 1) ∧ bkF a b (f + 1) < 30
theorem Inv.pos {a : Int → Int} (hI : Inv a) {b f : Int} (h0 : 0 ≤ b) (h1 : b < a 3) (hf : f = 4 ∨ f = 6) : Pos a b f := by
  have hn := hI.n
  have hb := hI.b.2 b h0 h1
  unfold InvB1 at hb
  intro q
  rcases hf with rfl | rfl
  · rcases hb.2.2.2.1 with r | r
    · omega
    · have e : (4 : Int) + 1 = 5 := rfl
      rw [e]
      exact ⟨by omega, r.2.1.1, r.2.1.2⟩
  · rcases hb.2.2.2.2 with r | r
    · omega
    · have e : (6 : Int) + 1 = 7 := rfl
      rw [e]
      exact ⟨by omega, r.2.1.1, r.2.1.2⟩
theorem lvF_o {a : Int → Int} {b f k : Int} (hb : 0 ≤ b ∧ b < 200) (hf : f = 4 ∨ f = 6) (hp : Pos a b f) (hk : k < 6672 ∨ 8782 ≤ k) : lvF a b f k = a k := by
  unfold lvF
  rw [am_uf_ne _ _ (by omega), am_uf_ne _ _ (by omega)]
  split
  · rename_i h
    have := hp h
    rw [am_uf_ne _ _ (by omega)]
  · rfl
theorem lvF_s {a : Int → Int} {b f s w : Int} (hb : 0 ≤ b ∧ b < 200) (hf : f = 4 ∨ f = 6) (hp : Pos a b f) (hs : 0 ≤ s ∧ s < 16) (hw : w = 0 ∨ w = 1) : lvF a b f (6670 + 32 * s + w) = a (6670 + 32 * s + w) := by
  unfold lvF
  rw [am_uf_ne _ _ (by omega), am_uf_ne _ _ (by omega)]
  split
  · rename_i h
    have := hp h
    rw [am_uf_ne _ _ (by omega)]
  · rfl
theorem lvF_t {a : Int → Int} {b f s p : Int} (hb : 0 ≤ b ∧ b < 200) (hf : f = 4 ∨ f = 6) (hp : Pos a b f) (hs : 0 ≤ s ∧ s < 16) (hq : 0 ≤ p ∧ p < 30) : thgF (lvF a b f) s p = if s = bkF a b f ∧ p = bkF a b (f + 1) then -1 else thgF a s p := by
  unfold thgF lvF
  rw [am_uf_ne _ _ (by omega), am_uf_ne _ _ (by omega)]
  by_cases h : 0 ≤ bkF a b f
  · have := hp h
    rw [if_pos h]
    by_cases q : s = bkF a b f ∧ p = bkF a b (f + 1)
    · rw [if_pos q, ← q.1, ← q.2, am_uf_eq]
    · rw [if_neg q, am_uf_ne _ _ (by omega)]
  · rw [if_neg h, if_neg (by omega)]
theorem lvF_b {a : Int → Int} {b f b' w : Int} (hb : 0 ≤ b ∧ b < 200) (hf : f = 4 ∨ f = 6) (hp : Pos a b f) (hb' : 0 ≤ b') (hw : 0 ≤ w ∧ w < 8) : bkF (lvF a b f) b' w = if b' = b ∧ (w = f ∨ w = f + 1) then -1 else bkF a b' w := by
  by_cases q : b' = b ∧ (w = f ∨ w = f + 1)
  · rw [if_pos q]
    unfold bkF lvF
    rcases q.2 with r | r
    · rw [am_uf_ne _ _ (by omega), q.1, r, am_uf_eq]
    · rw [q.1, r, show 7182 + 8 * b + (f + 1) = 7182 + 8 * b + f + 1 by omega, am_uf_eq]
  · rw [if_neg q]
    unfold bkF lvF
    rw [am_uf_ne _ _ (by omega), am_uf_ne _ _ (by omega)]
    split
    · rename_i h
      have := hp h
      unfold bkF at this
      rw [am_uf_ne _ _ (by unfold bkF; omega)]
    · rfl
/-- a book or a dummy is put at a place -/
def ptF (a : Int → Int) (b f s p : Int) : Int → Int := am_uf (am_uf (am_uf a (7182 + 8 * b + f) s) (7182 + 8 * b + f + 1) p) (6670 + 32 * s + 2 + p) (if f = 4 then b else 1000 + b)
theorem cmF_pt (a : Int → Int) (b f s p : Int) : cmF a b f s p = ptF (lvF a b f) b f s p := rfl
theorem ptF_o {a : Int → Int} {b f s p k : Int} (hb : 0 ≤ b ∧ b < 200) (hf : f = 4 ∨ f = 6) (hs : 0 ≤ s ∧ s < 16) (hq : 0 ≤ p ∧ p < 30) (hk : k < 6672 ∨ 8782 ≤ k) : ptF a b f s p k = a k := by
  unfold ptF
  rw [am_uf_ne _ _ (by omega), am_uf_ne _ _ (by omega), am_uf_ne _ _ (by omega)]
theorem ptF_s {a : Int → Int} {b f s p s' w : Int} (hb : 0 ≤ b ∧ b < 200) (hf : f = 4 ∨ f = 6) (hs : 0 ≤ s ∧ s < 16) (hq : 0 ≤ p ∧ p < 30) (hs' : 0 ≤ s' ∧ s' < 16) (hw : w = 0 ∨ w = 1) : ptF a b f s p (6670 + 32 * s' + w) = a (6670 + 32 * s' + w) := by
  unfold ptF
  rw [am_uf_ne _ _ (by omega), am_uf_ne _ _ (by omega), am_uf_ne _ _ (by omega)]
theorem ptF_t {a : Int → Int} {b f s p s' p' : Int} (hb : 0 ≤ b ∧ b < 200) (hf : f = 4 ∨ f = 6) (hs : 0 ≤ s ∧ s < 16) (hq : 0 ≤ p ∧ p < 30) (hs' : 0 ≤ s' ∧ s' < 16) (hq' : 0 ≤ p' ∧ p' < 30) : thgF (ptF a b f s p) s' p' = if s' = s ∧ p' = p then (if f = 4 then b else 1000 + b) else thgF a s' p' := by
  unfold thgF ptF
  by_cases q : s' = s ∧ p' = p
  · rw [if_pos q, q.1, q.2, am_uf_eq]
  · rw [if_neg q, am_uf_ne _ _ (by omega), am_uf_ne _ _ (by omega), am_uf_ne _ _ (by omega)]
theorem ptF_b {a : Int → Int} {b f s p b' w : Int} (hb : 0 ≤ b ∧ b < 200) (hf : f = 4 ∨ f = 6) (hs : 0 ≤ s ∧ s < 16) (hq : 0 ≤ p ∧ p < 30) (hb' : 0 ≤ b') (hw : 0 ≤ w ∧ w < 8) : bkF (ptF a b f s p) b' w = if b' = b ∧ w = f then s else if b' = b ∧ w = f + 1 then p else bkF a b' w := by
  unfold bkF ptF
  rw [am_uf_ne _ _ (by omega)]
  by_cases q : b' = b ∧ w = f
  · rw [if_pos q, am_uf_ne _ _ (by omega), q.1, q.2, am_uf_eq]
  · rw [if_neg q]
    by_cases r : b' = b ∧ w = f + 1
    · rw [if_pos r, r.1, r.2, show 7182 + 8 * b + (f + 1) = 7182 + 8 * b + f + 1 by omega, am_uf_eq]
    · rw [if_neg r, am_uf_ne _ _ (by omega), am_uf_ne _ _ (by omega)]
/-- what is held of shelves and books, in the words of places and books alone -/
theorem Inv_sb {a a' : Int → Int} (hI : Inv a) (ho : ∀ k, k < 6670 ∨ 8782 ≤ k → a' k = a k) (hw : ∀ s w, 0 ≤ s → s < 16 → (w = 0 ∨ w = 1) → a' (6670 + 32 * s + w) = a (6670 + 32 * s + w)) (hb : ∀ b w, 0 ≤ b → b < a 3 → 0 ≤ w → w < 4 → bkF a' b w = bkF a b w)
  (hs : ∀ s p, 0 ≤ s → s < a 2 → 0 ≤ p → p < 30 → thgF a' s p = -1 ∨ (0 ≤ thgF a' s p ∧ thgF a' s p < a 3 ∧ bkF a' (thgF a' s p) 4 = s ∧ bkF a' (thgF a' s p) 5 = p) ∨ (1000 ≤ thgF a' s p ∧ thgF a' s p < 1000 + a 3 ∧ bkF a' (thgF a' s p - 1000) 6 = s ∧ bkF a' (thgF a' s p - 1000) 7 = p))
  (h4 : ∀ b, 0 ≤ b → b < a 3 → (bkF a' b 4 = -1 ∧ bkF a' b 5 = -1) ∨ ((0 ≤ bkF a' b 4 ∧ bkF a' b 4 < a 2) ∧ (0 ≤ bkF a' b 5 ∧ bkF a' b 5 < 30) ∧ thgF a' (bkF a' b 4) (bkF a' b 5) = b ∧ (a (6670 + 32 * bkF a' b 4 + 1) = 1 ↔ bkF a b 0 = 1)))
  (h6 : ∀ b, 0 ≤ b → b < a 3 → (bkF a' b 6 = -1 ∧ bkF a' b 7 = -1) ∨ ((0 ≤ bkF a' b 6 ∧ bkF a' b 6 < a 2) ∧ (0 ≤ bkF a' b 7 ∧ bkF a' b 7 < 30) ∧ thgF a' (bkF a' b 6) (bkF a' b 7) = 1000 + b ∧ a (6670 + 32 * bkF a' b 6 + 1) = 0 ∧ bkF a b 0 = 1)) : Inv a' := by
  have hn := hI.n
  have e0 := ho 0 (by omega)
  have e1 := ho 1 (by omega)
  have e2 := ho 2 (by omega)
  have e3 := ho 3 (by omega)
  have e4 := ho 4 (by omega)
  refine ⟨by rw [e0]; exact hI.1, InvM_cg e1 (fun k q0 q1 => ho k (by omega)) hI.m, ⟨by rw [e2]; exact hI.s.1, fun s q0 q1 => ?_, by rw [e2, e3]; exact hs⟩, ⟨by rw [e3]; exact hI.b.1, fun b q0 q1 => ?_⟩, InvH_cg e1 e2 (fun k q0 q1 => ho k (by omega)) hI.h, InvL_cg e1 e2 (fun k q0 q1 => ho k (by omega)) hI.l, InvG_cg e1 e4 (fun k q0 q1 => ho k (by omega)) hI.g⟩
  · rw [e2] at q1
    have r0 := hw s 0 q0 (by omega) (Or.inl rfl)
    rw [show 6670 + 32 * s + 0 = 6670 + 32 * s by omega] at r0
    rw [r0, hw s 1 q0 (by omega) (Or.inr rfl)]
    exact hI.s.2.1 s q0 q1
  · rw [e3] at q1
    have hb1 := hI.b.2 b q0 q1
    unfold InvB1 at hb1 ⊢
    rw [hb b 0 q0 q1 (by omega) (by omega), hb b 1 q0 q1 (by omega) (by omega), hb b 2 q0 q1 (by omega) (by omega), e1, e2]
    refine ⟨hb1.1, hb1.2.1, hb1.2.2.1, ?_, ?_⟩
    · rcases h4 b q0 q1 with r | r
      · exact Or.inl r
      · refine Or.inr ⟨r.1, r.2.1, r.2.2.1, ?_⟩
        rw [hw _ 1 r.1.1 (by omega) (Or.inr rfl)]
        exact r.2.2.2
    · rcases h6 b q0 q1 with r | r
      · exact Or.inl r
      · refine Or.inr ⟨r.1, r.2.1, r.2.2.1, ?_⟩
        rw [hw _ 1 r.1.1 (by omega) (Or.inr rfl)]
        exact r.2.2.2
theorem inv_lv {a : Int → Int} (hI : Inv a) {b f : Int} (h0 : 0 ≤ b) (h1 : b < a 3) (hf : f = 4 ∨ f = 6) : Inv (lvF a b f) := by
  have hn := hI.n
  have hp := hI.pos h0 h1 hf
  have hb : 0 ≤ b ∧ b < 200 := by omega
  have eb := fun b' w (q0 : 0 ≤ b') (q1 : 0 ≤ w) (q2 : w < 8) => lvF_b (a := a) (b' := b') (w := w) hb hf hp q0 ⟨q1, q2⟩
  have et := fun s p (q0 : 0 ≤ s) (q1 : s < a 2) (q2 : 0 ≤ p) (q3 : p < 30) => lvF_t (a := a) (s := s) (p := p) hb hf hp ⟨q0, by omega⟩ ⟨q2, q3⟩
  refine Inv_sb hI (fun k q => lvF_o hb hf hp (by omega)) (fun s w q0 q1 q2 => lvF_s hb hf hp ⟨q0, q1⟩ q2) (fun b' w q0 q1 q2 q3 => ?_) (fun s p q0 q1 q2 q3 => ?_) (fun b' q0 q1 => ?_) (fun b' q0 q1 => ?_)
  · rw [eb b' w q0 q2 (by omega), if_neg (by omega)]
  · rw [et s p q0 q1 q2 q3]
    split
    · exact Or.inl rfl
    · rename_i hne
      rcases hI.s.2.2 s p q0 q1 q2 q3 with q | ⟨r1, r2, r3, r4⟩ | ⟨r1, r2, r3, r4⟩
      · exact Or.inl q
      · refine Or.inr (Or.inl ⟨r1, r2, ?_⟩)
        have : ¬ (thgF a s p = b ∧ f = 4) := by
          rintro ⟨z1, z2⟩
          rw [z1] at r3 r4
          rw [z2] at hne
          exact hne ⟨r3.symm, r4.symm⟩
        rw [eb _ 4 r1 (by omega) (by omega), eb _ 5 r1 (by omega) (by omega), if_neg (by omega), if_neg (by omega)]
        exact ⟨r3, r4⟩
      · refine Or.inr (Or.inr ⟨r1, r2, ?_⟩)
        have : ¬ (thgF a s p - 1000 = b ∧ f = 6) := by
          rintro ⟨z1, z2⟩
          rw [z1] at r3 r4
          rw [z2] at hne
          exact hne ⟨r3.symm, r4.symm⟩
        rw [eb _ 6 (by omega) (by omega) (by omega), eb _ 7 (by omega) (by omega) (by omega), if_neg (by omega), if_neg (by omega)]
        exact ⟨r3, r4⟩
  · rw [eb b' 4 q0 (by omega) (by omega), eb b' 5 q0 (by omega) (by omega)]
    by_cases z : b' = b ∧ f = 4
    · rw [if_pos (by omega), if_pos (by omega)]
      exact Or.inl ⟨rfl, rfl⟩
    · rw [if_neg (by omega), if_neg (by omega)]
      have hb1 := hI.b.2 b' q0 q1
      unfold InvB1 at hb1
      rcases hb1.2.2.2.1 with r | ⟨r1, r2, r3, r4⟩
      · exact Or.inl r
      · refine Or.inr ⟨r1, r2, ?_, r4⟩
        rw [et _ _ r1.1 r1.2 r2.1 r2.2, if_neg, r3]
        rintro ⟨z1, z2⟩
        rcases hf with rfl | rfl
        · rw [z1, z2] at r3
          have hb2 := hI.b.2 b h0 h1
          unfold InvB1 at hb2
          rcases hb2.2.2.2.1 with y | y
          · omega
          · have := y.2.2.1
            rw [show (4 : Int) + 1 = 5 from rfl] at r3
            omega
        · rw [z1, z2] at r3
          have hb2 := hI.b.2 b h0 h1
          unfold InvB1 at hb2
          rcases hb2.2.2.2.2 with y | y
          · omega
          · have := y.2.2.1
            rw [show (6 : Int) + 1 = 7 from rfl] at r3
            omega
  · rw [eb b' 6 q0 (by omega) (by omega), eb b' 7 q0 (by omega) (by omega)]
    by_cases z : b' = b ∧ f = 6
    · rw [if_pos (by omega), if_pos (by omega)]
      exact Or.inl ⟨rfl, rfl⟩
    · rw [if_neg (by omega), if_neg (by omega)]
      have hb1 := hI.b.2 b' q0 q1
      unfold InvB1 at hb1
      rcases hb1.2.2.2.2 with r | ⟨r1, r2, r3, r4⟩
      · exact Or.inl r
      · refine Or.inr ⟨r1, r2, ?_, r4⟩
        rw [et _ _ r1.1 r1.2 r2.1 r2.2, if_neg, r3]
        rintro ⟨z1, z2⟩
        rcases hf with rfl | rfl
        · rw [z1, z2] at r3
          have hb2 := hI.b.2 b h0 h1
          unfold InvB1 at hb2
          rcases hb2.2.2.2.1 with y | y
          · omega
          · have := y.2.2.1
            rw [show (4 : Int) + 1 = 5 from rfl] at r3
            omega
        · rw [z1, z2] at r3
          have hb2 := hI.b.2 b h0 h1
          unfold InvB1 at hb2
          rcases hb2.2.2.2.2 with y | y
          · omega
          · have := y.2.2.1
            rw [show (6 : Int) + 1 = 7 from rfl] at r3
            omega
theorem inv_pt {a : Int → Int} (hI : Inv a) {b f s p : Int} (h0 : 0 ≤ b) (h1 : b < a 3) (hf : f = 4 ∨ f = 6) (hs : 0 ≤ s ∧ s < a 2) (hq : 0 ≤ p ∧ p < 30) (hg : bkF a b f = -1) (hfr : thgF a s p = -1) (hh4 : f = 4 → (a (6670 + 32 * s + 1) = 1 ↔ bkF a b 0 = 1)) (hh6 : f = 6 → a (6670 + 32 * s + 1) = 0 ∧ bkF a b 0 = 1) : Inv (ptF a b f s p) := by
  have hn := hI.n
  have hb : 0 ≤ b ∧ b < 200 := by omega
  have hs' : 0 ≤ s ∧ s < 16 := by omega
  have eb := fun b' w (q0 : 0 ≤ b') (q1 : 0 ≤ w) (q2 : w < 8) => ptF_b (a := a) (b' := b') (w := w) hb hf hs' hq q0 ⟨q1, q2⟩
  have et := fun s1 p1 (q0 : 0 ≤ s1) (q1 : s1 < a 2) (q2 : 0 ≤ p1) (q3 : p1 < 30) => ptF_t (a := a) (s' := s1) (p' := p1) hb hf hs' hq ⟨q0, by omega⟩ ⟨q2, q3⟩
  refine Inv_sb hI (fun k q => ptF_o hb hf hs' hq (by omega)) (fun s w q0 q1 q2 => ptF_s hb hf hs' hq ⟨q0, q1⟩ q2) (fun b' w q0 q1 q2 q3 => ?_) (fun s1 p1 q0 q1 q2 q3 => ?_) (fun b' q0 q1 => ?_) (fun b' q0 q1 => ?_)
  · rw [eb b' w q0 q2 (by omega), if_neg (by omega), if_neg (by omega)]
  · rw [et s1 p1 q0 q1 q2 q3]
    by_cases z : s1 = s ∧ p1 = p
    · rw [if_pos z]
      rcases hf with rfl | rfl
      · rw [if_pos rfl, eb b 4 h0 (by omega) (by omega), eb b 5 h0 (by omega) (by omega), if_pos ⟨rfl, rfl⟩, if_neg (by omega), if_pos ⟨rfl, rfl⟩]
        exact Or.inr (Or.inl ⟨h0, h1, z.1.symm, z.2.symm⟩)
      · rw [if_neg (by omega), show 1000 + b - 1000 = b by omega, eb b 6 h0 (by omega) (by omega), eb b 7 h0 (by omega) (by omega), if_pos ⟨rfl, rfl⟩, if_neg (by omega), if_pos ⟨rfl, rfl⟩]
        exact Or.inr (Or.inr ⟨by omega, by omega, z.1.symm, z.2.symm⟩)
    · rw [if_neg z]
      rcases hI.s.2.2 s1 p1 q0 q1 q2 q3 with q | ⟨r1, r2, r3, r4⟩ | ⟨r1, r2, r3, r4⟩
      · exact Or.inl q
      · refine Or.inr (Or.inl ⟨r1, r2, ?_⟩)
        have : ¬ (thgF a s1 p1 = b ∧ f = 4) := by
          rintro ⟨z1, z2⟩
          rw [z1] at r3
          rw [z2] at hg
          omega
        rw [eb _ 4 r1 (by omega) (by omega), eb _ 5 r1 (by omega) (by omega), if_neg (by omega), if_neg (by omega), if_neg (by omega), if_neg (by omega)]
        exact ⟨r3, r4⟩
      · refine Or.inr (Or.inr ⟨r1, r2, ?_⟩)
        have : ¬ (thgF a s1 p1 - 1000 = b ∧ f = 6) := by
          rintro ⟨z1, z2⟩
          rw [z1] at r3
          rw [z2] at hg
          omega
        rw [eb _ 6 (by omega) (by omega) (by omega), eb _ 7 (by omega) (by omega) (by omega), if_neg (by omega), if_neg (by omega), if_neg (by omega), if_neg (by omega)]
        exact ⟨r3, r4⟩
  · rw [eb b' 4 q0 (by omega) (by omega), eb b' 5 q0 (by omega) (by omega)]
    by_cases z : b' = b ∧ f = 4
    · rw [if_pos (by omega), if_neg (by omega), if_pos (by omega), z.1]
      refine Or.inr ⟨hs, hq, ?_, hh4 z.2⟩
      rw [et s p hs.1 hs.2 hq.1 hq.2, if_pos ⟨rfl, rfl⟩, if_pos z.2]
    · rw [if_neg (by omega), if_neg (by omega), if_neg (by omega), if_neg (by omega)]
      have hb1 := hI.b.2 b' q0 q1
      unfold InvB1 at hb1
      rcases hb1.2.2.2.1 with r | ⟨r1, r2, r3, r4⟩
      · exact Or.inl r
      · refine Or.inr ⟨r1, r2, ?_, r4⟩
        rw [et _ _ r1.1 r1.2 r2.1 r2.2, if_neg, r3]
        rintro ⟨z1, z2⟩
        rw [z1, z2, hfr] at r3
        omega
  · rw [eb b' 6 q0 (by omega) (by omega), eb b' 7 q0 (by omega) (by omega)]
    by_cases z : b' = b ∧ f = 6
    · rw [if_pos (by omega), if_neg (by omega), if_pos (by omega), z.1]
      refine Or.inr ⟨hs, hq, ?_, hh6 z.2⟩
      rw [et s p hs.1 hs.2 hq.1 hq.2, if_pos ⟨rfl, rfl⟩, if_neg (by omega)]
    · rw [if_neg (by omega), if_neg (by omega), if_neg (by omega), if_neg (by omega)]
      have hb1 := hI.b.2 b' q0 q1
      unfold InvB1 at hb1
      rcases hb1.2.2.2.2 with r | ⟨r1, r2, r3, r4⟩
      · exact Or.inl r
      · refine Or.inr ⟨r1, r2, ?_, r4⟩
        rw [et _ _ r1.1 r1.2 r2.1 r2.2, if_neg, r3]
        rintro ⟨z1, z2⟩
        rw [z1, z2, hfr] at r3
        omega
theorem inv_cm {a : Int → Int} (hI : Inv a) {b f s p : Int} (h0 : 0 ≤ b) (h1 : b < a 3) (hf : f = 4 ∨ f = 6) (hs : 0 ≤ s ∧ s < a 2) (hq : 0 ≤ p ∧ p < 30) (hfr : thgF (lvF a b f) s p = -1) (hh4 : f = 4 → (a (6670 + 32 * s + 1) = 1 ↔ bkF a b 0 = 1)) (hh6 : f = 6 → a (6670 + 32 * s + 1) = 0 ∧ bkF a b 0 = 1) : Inv (cmF a b f s p) := by
  have hn := hI.n
  have hp := hI.pos h0 h1 hf
  have hb : 0 ≤ b ∧ b < 200 := by omega
  have e2 := lvF_o (k := 2) hb hf hp (by omega)
  have e3 := lvF_o (k := 3) hb hf hp (by omega)
  have ew := lvF_s (s := s) (w := 1) hb hf hp (by omega) (Or.inr rfl)
  have e0 := lvF_b (b' := b) (w := 0) hb hf hp h0 (by omega)
  rw [if_neg (by omega)] at e0
  have ef := lvF_b (b' := b) (w := f) hb hf hp h0 (by omega)
  rw [if_pos ⟨rfl, Or.inl rfl⟩] at ef
  rw [cmF_pt]
  exact inv_pt (inv_lv hI h0 h1 hf) h0 (by rw [e3]; exact h1) hf (by rw [e2]; exact hs) hq ef hfr (by rw [ew, e0]; exact hh4) (by rw [ew, e0]; exact hh6)
