/-! ===== the reference: a text ===== -/
theorem npF_r (h : Int → Int) (p b bl : Int) : (p ≤ (npF h p b bl).pos ∧ (npF h p b bl).pos ≤ p + 8) ∧ ((npF h p b bl).ok = 0 ∨ (npF h p b bl).ok = 1) := by
  have d1 := fun p m => (dgF_r h p m).1
  have l1 := (ltF_r h p 3 (by omega)).1
  have hc : ∀ kd, p ≤ (cdF h p kd).pos ∧ (cdF h p kd).pos ≤ p + 8 := by
    intro kd
    have := d1 (p + 1) 3
    unfold cdF
    split
    · simp only [NP.pos]; omega
    · simp only [NP.pos]; omega
  have hy : p ≤ (yrF h p).pos ∧ (yrF h p).pos ≤ p + 8 := by
    have := d1 (p + 1) 4
    unfold yrF
    split
    · simp only [NP.pos]; omega
    · simp only [NP.pos]; omega
  have hw : p ≤ (whF h p).pos ∧ (whF h p).pos ≤ p + 8 := by
    have h1 := d1 p 1
    have h4 := d1 p 4
    unfold whF
    simp only [NP.pos]
    split <;> omega
  have ho : ∀ x y, p ≤ (poF h p x y).pos ∧ (poF h p x y).pos ≤ p + 8 := by
    intro x y
    have h1 := d1 (p + 1) 6
    have h2 := d1 (p + 2) 5
    unfold poF frF
    split
    · simp only [NP.pos]; omega
    · split
      · simp only [NP.pos]; omega
      · simp only [NP.pos]; omega
  unfold npF
  split
  · split
    · exact ⟨hc 6, cdF_01 h p 6⟩
    · exact ⟨by simp only [NP.pos]; omega, Or.inl rfl⟩
  · split
    · exact ⟨by unfold ltR; simp only [NP.pos]; omega, Or.inr rfl⟩
    · split
      · split
        · exact ⟨by simp only [NP.pos]; omega, Or.inl rfl⟩
        · exact ⟨hw, whF_01 h p⟩
      · split
        · exact ⟨ho _ _, poF_01 _ _ _ _⟩
        · split
          · exact ⟨hy, yrF_01 h p⟩
          · split
            · exact ⟨hc 5, cdF_01 h p 5⟩
            · split
              · exact ⟨hc 6, cdF_01 h p 6⟩
              · exact ⟨by simp only [NP.pos]; omega, Or.inl rfl⟩
abbrev jdF (h : Int → Int) (r : NP) : Prop := (r.kd = 0 ∧ isD (h r.pos)) ∨ (r.kd = 1 ∧ h r.pos = 46)
abbrev blF (h : Int → Int) (r : NP) : Prop := h r.pos = 32 ∧ r.kd ≠ 6
/-- part j of a text: 1 read, 2 ended well ahead of it, 0 not *)
-/
def txF (h : Int → Int) (sz : Int) : Nat → NP
  | 0 => npF h 0 (-1) 0
  | j + 1 => if (txF h sz j).ok = 1 then (if (txF h sz j).pos = sz then ⟨2, (txF h sz j).pos, 0, 0, 0, 0⟩ else if (j : Int) + 1 < 8 ∧ (jdF h (txF h sz j) ∨ blF h (txF h sz j)) then npF h ((txF h sz j).pos + (if blF h (txF h sz j) then 1 else 0)) (txF h sz j).kd (if blF h (txF h sz j) then 1 else 0) else ⟨0, (txF h sz j).pos, 0, 0, 0, 0⟩) else txF h sz j
theorem txF_r (h : Int → Int) (sz : Int) : ∀ j : Nat, 0 ≤ (txF h sz j).pos ∧ (txF h sz j).pos ≤ 9 * (j : Int) + 8
  | 0 => by
    have := (npF_r h 0 (-1) 0).1
    simp only [txF]
    omega
  | j + 1 => by
    have ih := txF_r h sz j
    simp only [txF]
    split
    · split
      · simp only [NP.pos]; simp only [NP.pos] at ih; omega
      · split
        · have h1 := (npF_r h ((txF h sz j).pos + (if blF h (txF h sz j) then 1 else 0)) (txF h sz j).kd (if blF h (txF h sz j) then 1 else 0)).1
          generalize npF h ((txF h sz j).pos + (if blF h (txF h sz j) then 1 else 0)) (txF h sz j).kd (if blF h (txF h sz j) then 1 else 0) = z at *
          split at h1 <;> omega
        · simp only [NP.pos]; simp only [NP.pos] at ih; omega
    · omega
/-- where a text was ended, the rest is the same -/
theorem txF_s (h : Int → Int) (sz : Int) {j : Nat} (hj : (txF h sz j).ok ≠ 1) : ∀ x : Nat, txF h sz (j + x) = txF h sz j
  | 0 => rfl
  | x + 1 => by
    have ih := txF_s h sz hj x
    rw [show j + (x + 1) = (j + x) + 1 from rfl]
    simp only [txF]
    rw [ih, if_neg hj]

def TQ (N : Nat) (P : am_P) (H : am_H) (v : Option am_V) (σ : am_S) : Prop := ∃ (m : Nat) (K' V' G' C' : Int → Int), σ = (N, P, pH H (txF (hbF H) (H 53 5) 8).pos (m : Int) K' V' G' C') ∧ v = some (am_i (bi ((txF (hbF H) (H 53 5) 8).ok = 2))) ∧ ((txF (hbF H) (H 53 5) 8).ok = 2 → (1 ≤ m ∧ m ≤ 8) ∧ (txF (hbF H) (H 53 5) m).ok = 2 ∧ ∀ i : Nat, i < m → (txF (hbF H) (H 53 5) i).ok = 1 ∧ K' (i : Int) = (txF (hbF H) (H 53 5) i).kd ∧ V' (i : Int) = (txF (hbF H) (H 53 5) i).v ∧ G' (i : Int) = (txF (hbF H) (H 53 5) i).g ∧ C' (i : Int) = (txF (hbF H) (H 53 5) i).c)

theorem l_isText {d N : Nat} {P : am_P} {H : am_H} (hP : PZ P) (hz : H 53 5 ≤ 80) : ∀ (f j : Nat), j + f = 7 → ∀ (K V G C : Int → Int), (∀ i : Nat, i < j → (txF (hbF H) (H 53 5) i).ok = 1 ∧ K (i : Int) = (txF (hbF H) (H 53 5) i).kd ∧ V (i : Int) = (txF (hbF H) (H 53 5) i).v ∧ G (i : Int) = (txF (hbF H) (H 53 5) i).g ∧ C (i : Int) = (txF (hbF H) (H 53 5) i).c) → ((txF (hbF H) (H 53 5) j).ok = 1 → K (j : Int) = (txF (hbF H) (H 53 5) j).kd ∧ V (j : Int) = (txF (hbF H) (H 53 5) j).v ∧ G (j : Int) = (txF (hbF H) (H 53 5) j).g ∧ C (j : Int) = (txF (hbF H) (H 53 5) j).c) → ((txF (hbF H) (H 53 5) j).ok = 0 ∨ (txF (hbF H) (H 53 5) j).ok = 1) → ∀ w1 w3 w4, am_WP (am_R (d + 6)) cd_Model_isText (TQ N P H) 13 [some (am_r 53), w1, some (am_i (txF (hbF H) (H 53 5) j).ok), w3, w4] [] (N, P, pH H (txF (hbF H) (H 53 5) j).pos (j : Int) K V G C) := by
  intro f
  induction f with
  | zero =>
    intro j hj K V G C hA hB h01 w1 w3 w4
    have hr := txF_r (hbF H) (H 53 5) j
    refine st_iload_n rfl rfl ?_
    refine st_if_eq rfl (fun h14 => ?_) (fun h14 => ?_)
    · refine st_iconst rfl ?_
      refine st_iret rfl (fun z => by first | exact absurd z (by decide) | exact bi_01 _ | decide | omega) ?_
      have e8 : (txF (hbF H) (H 53 5) 8) = (txF (hbF H) (H 53 5) j) := by
        have := txF_s (hbF H) (H 53 5) (j := j) (by omega) (8 - j)
        rw [show j + (8 - j) = 8 by omega] at this
        exact this
      refine ⟨j, K, V, G, C, ?_, ?_, fun q => ?_⟩
      · rw [e8]
      · rw [e8, bi_f (by omega)]
      · rw [e8] at q; omega
    · have h1 : (txF (hbF H) (H 53 5) j).ok = 1 := by omega
      refine st_aload_n rfl rfl (by decide) ?_
      refine st_getR (kk := 8) rfl rfl rfl (pz_53_8 hP) rfl ?_
      refine st_aload_n rfl rfl (by decide) ?_
      refine st_getI (kk := 7) rfl rfl (by decide) rfl ?_
      rw [pH_7]
      refine st_iaload rfl rfl (by omega) (by omega) ?_
      rw [show pH H (txF (hbF H) (H 53 5) j).pos (j : Int) K V G C 57 (j : Int) = (txF (hbF H) (H 53 5) j).kd from (hB h1).1]
      refine st_istore_n (ls' := [_, _, _, _, _]) rfl (Nat.le_of_ble_eq_true rfl) rfl ?_
      refine st_aload_n rfl rfl (by decide) ?_
      refine st_dup rfl rfl ?_
      refine st_getI (kk := 7) rfl rfl (by decide) rfl ?_
      rw [pH_7]
      refine st_iconst rfl ?_
      refine st_iadd rfl (by omega) ?_
      refine st_putI (kk := 7) rfl rfl rfl rfl ?_
      rw [pH_u7]
      refine st_aload_n rfl rfl (by decide) ?_
      refine st_getI (kk := 6) rfl rfl (by decide) rfl ?_
      rw [pH_6]
      refine st_aload_n rfl rfl (by decide) ?_
      refine st_getI (kk := 5) rfl rfl (by decide) rfl ?_
      rw [pH_k _ _ _ _ _ _ _ (by omega) (by omega)]
      refine st_icmp_ne rfl (fun h31 => ?_) (fun h31 => ?_)
      · refine st_iload_n rfl rfl ?_
        refine st_if_ne rfl (fun h35 => ?_) (fun h35 => ?_)
        · refine st_iload_n rfl rfl ?_
          refine st_iconst rfl ?_
          refine st_icmp_ne rfl (fun h41 => ?_) (fun h41 => ?_)
          · refine st_iconst rfl ?_
            first
            | (have hjd : jdF (hbF H) (txF (hbF H) (H 53 5) j) := Or.inl ⟨by omega, by assumption⟩)
            | (have hjd : jdF (hbF H) (txF (hbF H) (H 53 5) j) := Or.inr ⟨by omega, by omega⟩)
            | (have hjd : ¬ (jdF (hbF H) (txF (hbF H) (H 53 5) j)) := fun q => by rcases q with q | q <;> (have q1 := q.1; have q2 := q.2; omega))
            refine st_istore_n (ls' := [_, _, _, _, _]) rfl (Nat.le_of_ble_eq_true rfl) rfl ?_
            refine st_aload_n rfl rfl (by decide) ?_
            refine st_cv1 (w := []) rfl rfl rfl (Nat.le_of_ble_eq_true rfl) (Nat.le_of_ble_eq_true rfl) rfl rfl (r_Model_here hP (by rw [pH_6]; omega) (by rw [pH_k _ _ _ _ _ _ _ (by omega) (by omega)]; exact hz)) ?_
            rw [pH_h]
            refine st_bipush rfl ?_
            refine st_icmp_ne rfl (fun h53 => ?_) (fun h53 => ?_)
            · refine st_iconst rfl ?_
              first
              | (have hbl : blF (hbF H) (txF (hbF H) (H 53 5) j) := ⟨by omega, by omega⟩)
              | (have hbl : ¬ (blF (hbF H) (txF (hbF H) (H 53 5) j)) := fun q => by have q1 := q.1; have q2 := q.2; omega)
              refine st_istore (ls' := [_, _, _, _, _]) rfl (Nat.le_of_ble_eq_true rfl) rfl ?_
              refine st_aload_n rfl rfl (by decide) ?_
              refine st_getI (kk := 7) rfl rfl (by decide) rfl ?_
              rw [pH_7]
              refine st_bipush rfl ?_
              refine st_icmp_ge rfl (fun h64 => ?_) (fun h64 => ?_)
              · have hno : ¬ ((j : Int) + 1 < 8 ∧ (jdF (hbF H) (txF (hbF H) (H 53 5) j) ∨ blF (hbF H) (txF (hbF H) (H 53 5) j))) := by
                  rintro ⟨q1, q2⟩
                  first
                  | omega
                  | (rcases q2 with q2 | q2
                     · exact hjd q2
                     · exact hbl q2)
                refine st_iconst rfl ?_
                refine st_istore_n (ls' := [_, _, _, _, _]) rfl (Nat.le_of_ble_eq_true rfl) rfl ?_
                refine st_iload_n rfl rfl ?_
                refine st_if_ne rfl (fun h74 => (by exfalso; omega)) (fun h74 => ?_)
                refine st_goto rfl ?_
                refine st_iload_n rfl rfl ?_
                refine st_if_eq rfl (fun h14 => ?_) (fun h14 => (by exfalso; omega))
                refine st_iconst rfl ?_
                refine st_iret rfl (fun z => by first | exact absurd z (by decide) | exact bi_01 _ | decide | omega) ?_
                have e1 : (txF (hbF H) (H 53 5) (j + 1)) = ⟨0, (txF (hbF H) (H 53 5) j).pos, 0, 0, 0, 0⟩ := by
                  simp only [txF]
                  rw [if_pos h1, if_neg h31, if_neg hno]
                have e8 : (txF (hbF H) (H 53 5) 8) = (txF (hbF H) (H 53 5) (j + 1)) := by
                  have := txF_s (hbF H) (H 53 5) (j := j + 1) (by rw [e1]; show (0 : Int) ≠ 1; decide) (8 - (j + 1))
                  rw [show j + 1 + (8 - (j + 1)) = 8 by omega] at this
                  exact this
                rw [e1] at e8
                refine ⟨j + 1, K, V, G, C, ?_, ?_, fun q => ?_⟩
                · rw [e8]; rfl
                · rw [e8, bi_f (show ¬ (0 : Int) = 2 by decide)]
                · rw [e8] at q; exact absurd (show (0 : Int) = 2 from q) (by decide)
              · refine st_iload_n rfl rfl ?_
                refine st_if_ne rfl (fun h66 => (by exfalso; omega)) (fun h66 => ?_)
                refine st_iload rfl rfl ?_
                refine st_if_eq rfl (fun h68 => ?_) (fun h68 => (by exfalso; omega))
                have hno : ¬ ((j : Int) + 1 < 8 ∧ (jdF (hbF H) (txF (hbF H) (H 53 5) j) ∨ blF (hbF H) (txF (hbF H) (H 53 5) j))) := by
                  rintro ⟨q1, q2⟩
                  first
                  | omega
                  | (rcases q2 with q2 | q2
                     · exact hjd q2
                     · exact hbl q2)
                refine st_iconst rfl ?_
                refine st_istore_n (ls' := [_, _, _, _, _]) rfl (Nat.le_of_ble_eq_true rfl) rfl ?_
                refine st_iload_n rfl rfl ?_
                refine st_if_ne rfl (fun h74 => (by exfalso; omega)) (fun h74 => ?_)
                refine st_goto rfl ?_
                refine st_iload_n rfl rfl ?_
                refine st_if_eq rfl (fun h14 => ?_) (fun h14 => (by exfalso; omega))
                refine st_iconst rfl ?_
                refine st_iret rfl (fun z => by first | exact absurd z (by decide) | exact bi_01 _ | decide | omega) ?_
                have e1 : (txF (hbF H) (H 53 5) (j + 1)) = ⟨0, (txF (hbF H) (H 53 5) j).pos, 0, 0, 0, 0⟩ := by
                  simp only [txF]
                  rw [if_pos h1, if_neg h31, if_neg hno]
                have e8 : (txF (hbF H) (H 53 5) 8) = (txF (hbF H) (H 53 5) (j + 1)) := by
                  have := txF_s (hbF H) (H 53 5) (j := j + 1) (by rw [e1]; show (0 : Int) ≠ 1; decide) (8 - (j + 1))
                  rw [show j + 1 + (8 - (j + 1)) = 8 by omega] at this
                  exact this
                rw [e1] at e8
                refine ⟨j + 1, K, V, G, C, ?_, ?_, fun q => ?_⟩
                · rw [e8]; rfl
                · rw [e8, bi_f (show ¬ (0 : Int) = 2 by decide)]
                · rw [e8] at q; exact absurd (show (0 : Int) = 2 from q) (by decide)
            · refine st_iload_n rfl rfl ?_
              refine st_bipush rfl ?_
              refine st_icmp_eq rfl (fun h56 => ?_) (fun h56 => ?_)
              · refine st_iconst rfl ?_
                first
                | (have hbl : blF (hbF H) (txF (hbF H) (H 53 5) j) := ⟨by omega, by omega⟩)
                | (have hbl : ¬ (blF (hbF H) (txF (hbF H) (H 53 5) j)) := fun q => by have q1 := q.1; have q2 := q.2; omega)
                refine st_istore (ls' := [_, _, _, _, _]) rfl (Nat.le_of_ble_eq_true rfl) rfl ?_
                refine st_aload_n rfl rfl (by decide) ?_
                refine st_getI (kk := 7) rfl rfl (by decide) rfl ?_
                rw [pH_7]
                refine st_bipush rfl ?_
                refine st_icmp_ge rfl (fun h64 => ?_) (fun h64 => ?_)
                · have hno : ¬ ((j : Int) + 1 < 8 ∧ (jdF (hbF H) (txF (hbF H) (H 53 5) j) ∨ blF (hbF H) (txF (hbF H) (H 53 5) j))) := by
                    rintro ⟨q1, q2⟩
                    first
                    | omega
                    | (rcases q2 with q2 | q2
                       · exact hjd q2
                       · exact hbl q2)
                  refine st_iconst rfl ?_
                  refine st_istore_n (ls' := [_, _, _, _, _]) rfl (Nat.le_of_ble_eq_true rfl) rfl ?_
                  refine st_iload_n rfl rfl ?_
                  refine st_if_ne rfl (fun h74 => (by exfalso; omega)) (fun h74 => ?_)
                  refine st_goto rfl ?_
                  refine st_iload_n rfl rfl ?_
                  refine st_if_eq rfl (fun h14 => ?_) (fun h14 => (by exfalso; omega))
                  refine st_iconst rfl ?_
                  refine st_iret rfl (fun z => by first | exact absurd z (by decide) | exact bi_01 _ | decide | omega) ?_
                  have e1 : (txF (hbF H) (H 53 5) (j + 1)) = ⟨0, (txF (hbF H) (H 53 5) j).pos, 0, 0, 0, 0⟩ := by
                    simp only [txF]
                    rw [if_pos h1, if_neg h31, if_neg hno]
                  have e8 : (txF (hbF H) (H 53 5) 8) = (txF (hbF H) (H 53 5) (j + 1)) := by
                    have := txF_s (hbF H) (H 53 5) (j := j + 1) (by rw [e1]; show (0 : Int) ≠ 1; decide) (8 - (j + 1))
                    rw [show j + 1 + (8 - (j + 1)) = 8 by omega] at this
                    exact this
                  rw [e1] at e8
                  refine ⟨j + 1, K, V, G, C, ?_, ?_, fun q => ?_⟩
                  · rw [e8]; rfl
                  · rw [e8, bi_f (show ¬ (0 : Int) = 2 by decide)]
                  · rw [e8] at q; exact absurd (show (0 : Int) = 2 from q) (by decide)
                · refine st_iload_n rfl rfl ?_
                  refine st_if_ne rfl (fun h66 => (by exfalso; omega)) (fun h66 => ?_)
                  refine st_iload rfl rfl ?_
                  refine st_if_eq rfl (fun h68 => ?_) (fun h68 => (by exfalso; omega))
                  have hno : ¬ ((j : Int) + 1 < 8 ∧ (jdF (hbF H) (txF (hbF H) (H 53 5) j) ∨ blF (hbF H) (txF (hbF H) (H 53 5) j))) := by
                    rintro ⟨q1, q2⟩
                    first
                    | omega
                    | (rcases q2 with q2 | q2
                       · exact hjd q2
                       · exact hbl q2)
                  refine st_iconst rfl ?_
                  refine st_istore_n (ls' := [_, _, _, _, _]) rfl (Nat.le_of_ble_eq_true rfl) rfl ?_
                  refine st_iload_n rfl rfl ?_
                  refine st_if_ne rfl (fun h74 => (by exfalso; omega)) (fun h74 => ?_)
                  refine st_goto rfl ?_
                  refine st_iload_n rfl rfl ?_
                  refine st_if_eq rfl (fun h14 => ?_) (fun h14 => (by exfalso; omega))
                  refine st_iconst rfl ?_
                  refine st_iret rfl (fun z => by first | exact absurd z (by decide) | exact bi_01 _ | decide | omega) ?_
                  have e1 : (txF (hbF H) (H 53 5) (j + 1)) = ⟨0, (txF (hbF H) (H 53 5) j).pos, 0, 0, 0, 0⟩ := by
                    simp only [txF]
                    rw [if_pos h1, if_neg h31, if_neg hno]
                  have e8 : (txF (hbF H) (H 53 5) 8) = (txF (hbF H) (H 53 5) (j + 1)) := by
                    have := txF_s (hbF H) (H 53 5) (j := j + 1) (by rw [e1]; show (0 : Int) ≠ 1; decide) (8 - (j + 1))
                    rw [show j + 1 + (8 - (j + 1)) = 8 by omega] at this
                    exact this
                  rw [e1] at e8
                  refine ⟨j + 1, K, V, G, C, ?_, ?_, fun q => ?_⟩
                  · rw [e8]; rfl
                  · rw [e8, bi_f (show ¬ (0 : Int) = 2 by decide)]
                  · rw [e8] at q; exact absurd (show (0 : Int) = 2 from q) (by decide)
              · refine st_iconst rfl ?_
                refine st_goto rfl ?_
                first
                | (have hbl : blF (hbF H) (txF (hbF H) (H 53 5) j) := ⟨by omega, by omega⟩)
                | (have hbl : ¬ (blF (hbF H) (txF (hbF H) (H 53 5) j)) := fun q => by have q1 := q.1; have q2 := q.2; omega)
                refine st_istore (ls' := [_, _, _, _, _]) rfl (Nat.le_of_ble_eq_true rfl) rfl ?_
                refine st_aload_n rfl rfl (by decide) ?_
                refine st_getI (kk := 7) rfl rfl (by decide) rfl ?_
                rw [pH_7]
                refine st_bipush rfl ?_
                refine st_icmp_ge rfl (fun h64 => ?_) (fun h64 => ?_)
                · have hno : ¬ ((j : Int) + 1 < 8 ∧ (jdF (hbF H) (txF (hbF H) (H 53 5) j) ∨ blF (hbF H) (txF (hbF H) (H 53 5) j))) := by
                    rintro ⟨q1, q2⟩
                    first
                    | omega
                    | (rcases q2 with q2 | q2
                       · exact hjd q2
                       · exact hbl q2)
                  refine st_iconst rfl ?_
                  refine st_istore_n (ls' := [_, _, _, _, _]) rfl (Nat.le_of_ble_eq_true rfl) rfl ?_
                  refine st_iload_n rfl rfl ?_
                  refine st_if_ne rfl (fun h74 => (by exfalso; omega)) (fun h74 => ?_)
                  refine st_goto rfl ?_
                  refine st_iload_n rfl rfl ?_
                  refine st_if_eq rfl (fun h14 => ?_) (fun h14 => (by exfalso; omega))
                  refine st_iconst rfl ?_
                  refine st_iret rfl (fun z => by first | exact absurd z (by decide) | exact bi_01 _ | decide | omega) ?_
                  have e1 : (txF (hbF H) (H 53 5) (j + 1)) = ⟨0, (txF (hbF H) (H 53 5) j).pos, 0, 0, 0, 0⟩ := by
                    simp only [txF]
                    rw [if_pos h1, if_neg h31, if_neg hno]
                  have e8 : (txF (hbF H) (H 53 5) 8) = (txF (hbF H) (H 53 5) (j + 1)) := by
                    have := txF_s (hbF H) (H 53 5) (j := j + 1) (by rw [e1]; show (0 : Int) ≠ 1; decide) (8 - (j + 1))
                    rw [show j + 1 + (8 - (j + 1)) = 8 by omega] at this
                    exact this
                  rw [e1] at e8
                  refine ⟨j + 1, K, V, G, C, ?_, ?_, fun q => ?_⟩
                  · rw [e8]; rfl
                  · rw [e8, bi_f (show ¬ (0 : Int) = 2 by decide)]
                  · rw [e8] at q; exact absurd (show (0 : Int) = 2 from q) (by decide)
                · refine st_iload_n rfl rfl ?_
                  refine st_if_ne rfl (fun h66 => (by exfalso; omega)) (fun h66 => ?_)
                  refine st_iload rfl rfl ?_
                  refine st_if_eq rfl (fun h68 => (by exfalso; omega)) (fun h68 => ?_)
                  exfalso; omega
          · refine st_aload_n rfl rfl (by decide) ?_
            refine st_cv1 (w := []) rfl rfl rfl (Nat.le_of_ble_eq_true rfl) (Nat.le_of_ble_eq_true rfl) rfl rfl (r_Model_here hP (by rw [pH_6]; omega) (by rw [pH_k _ _ _ _ _ _ _ (by omega) (by omega)]; exact hz)) ?_
            rw [pH_h]
            refine st_bipush rfl ?_
            refine st_icmp_ne rfl (fun h45 => ?_) (fun h45 => ?_)
            · refine st_iconst rfl ?_
              first
              | (have hjd : jdF (hbF H) (txF (hbF H) (H 53 5) j) := Or.inl ⟨by omega, by assumption⟩)
              | (have hjd : jdF (hbF H) (txF (hbF H) (H 53 5) j) := Or.inr ⟨by omega, by omega⟩)
              | (have hjd : ¬ (jdF (hbF H) (txF (hbF H) (H 53 5) j)) := fun q => by rcases q with q | q <;> (have q1 := q.1; have q2 := q.2; omega))
              refine st_istore_n (ls' := [_, _, _, _, _]) rfl (Nat.le_of_ble_eq_true rfl) rfl ?_
              refine st_aload_n rfl rfl (by decide) ?_
              refine st_cv1 (w := []) rfl rfl rfl (Nat.le_of_ble_eq_true rfl) (Nat.le_of_ble_eq_true rfl) rfl rfl (r_Model_here hP (by rw [pH_6]; omega) (by rw [pH_k _ _ _ _ _ _ _ (by omega) (by omega)]; exact hz)) ?_
              rw [pH_h]
              refine st_bipush rfl ?_
              refine st_icmp_ne rfl (fun h53 => ?_) (fun h53 => ?_)
              · refine st_iconst rfl ?_
                first
                | (have hbl : blF (hbF H) (txF (hbF H) (H 53 5) j) := ⟨by omega, by omega⟩)
                | (have hbl : ¬ (blF (hbF H) (txF (hbF H) (H 53 5) j)) := fun q => by have q1 := q.1; have q2 := q.2; omega)
                refine st_istore (ls' := [_, _, _, _, _]) rfl (Nat.le_of_ble_eq_true rfl) rfl ?_
                refine st_aload_n rfl rfl (by decide) ?_
                refine st_getI (kk := 7) rfl rfl (by decide) rfl ?_
                rw [pH_7]
                refine st_bipush rfl ?_
                refine st_icmp_ge rfl (fun h64 => ?_) (fun h64 => ?_)
                · have hno : ¬ ((j : Int) + 1 < 8 ∧ (jdF (hbF H) (txF (hbF H) (H 53 5) j) ∨ blF (hbF H) (txF (hbF H) (H 53 5) j))) := by
                    rintro ⟨q1, q2⟩
                    first
                    | omega
                    | (rcases q2 with q2 | q2
                       · exact hjd q2
                       · exact hbl q2)
                  refine st_iconst rfl ?_
                  refine st_istore_n (ls' := [_, _, _, _, _]) rfl (Nat.le_of_ble_eq_true rfl) rfl ?_
                  refine st_iload_n rfl rfl ?_
                  refine st_if_ne rfl (fun h74 => (by exfalso; omega)) (fun h74 => ?_)
                  refine st_goto rfl ?_
                  refine st_iload_n rfl rfl ?_
                  refine st_if_eq rfl (fun h14 => ?_) (fun h14 => (by exfalso; omega))
                  refine st_iconst rfl ?_
                  refine st_iret rfl (fun z => by first | exact absurd z (by decide) | exact bi_01 _ | decide | omega) ?_
                  have e1 : (txF (hbF H) (H 53 5) (j + 1)) = ⟨0, (txF (hbF H) (H 53 5) j).pos, 0, 0, 0, 0⟩ := by
                    simp only [txF]
                    rw [if_pos h1, if_neg h31, if_neg hno]
                  have e8 : (txF (hbF H) (H 53 5) 8) = (txF (hbF H) (H 53 5) (j + 1)) := by
                    have := txF_s (hbF H) (H 53 5) (j := j + 1) (by rw [e1]; show (0 : Int) ≠ 1; decide) (8 - (j + 1))
                    rw [show j + 1 + (8 - (j + 1)) = 8 by omega] at this
                    exact this
                  rw [e1] at e8
                  refine ⟨j + 1, K, V, G, C, ?_, ?_, fun q => ?_⟩
                  · rw [e8]; rfl
                  · rw [e8, bi_f (show ¬ (0 : Int) = 2 by decide)]
                  · rw [e8] at q; exact absurd (show (0 : Int) = 2 from q) (by decide)
                · refine st_iload_n rfl rfl ?_
                  refine st_if_ne rfl (fun h66 => (by exfalso; omega)) (fun h66 => ?_)
                  refine st_iload rfl rfl ?_
                  refine st_if_eq rfl (fun h68 => ?_) (fun h68 => (by exfalso; omega))
                  have hno : ¬ ((j : Int) + 1 < 8 ∧ (jdF (hbF H) (txF (hbF H) (H 53 5) j) ∨ blF (hbF H) (txF (hbF H) (H 53 5) j))) := by
                    rintro ⟨q1, q2⟩
                    first
                    | omega
                    | (rcases q2 with q2 | q2
                       · exact hjd q2
                       · exact hbl q2)
                  refine st_iconst rfl ?_
                  refine st_istore_n (ls' := [_, _, _, _, _]) rfl (Nat.le_of_ble_eq_true rfl) rfl ?_
                  refine st_iload_n rfl rfl ?_
                  refine st_if_ne rfl (fun h74 => (by exfalso; omega)) (fun h74 => ?_)
                  refine st_goto rfl ?_
                  refine st_iload_n rfl rfl ?_
                  refine st_if_eq rfl (fun h14 => ?_) (fun h14 => (by exfalso; omega))
                  refine st_iconst rfl ?_
                  refine st_iret rfl (fun z => by first | exact absurd z (by decide) | exact bi_01 _ | decide | omega) ?_
                  have e1 : (txF (hbF H) (H 53 5) (j + 1)) = ⟨0, (txF (hbF H) (H 53 5) j).pos, 0, 0, 0, 0⟩ := by
                    simp only [txF]
                    rw [if_pos h1, if_neg h31, if_neg hno]
                  have e8 : (txF (hbF H) (H 53 5) 8) = (txF (hbF H) (H 53 5) (j + 1)) := by
                    have := txF_s (hbF H) (H 53 5) (j := j + 1) (by rw [e1]; show (0 : Int) ≠ 1; decide) (8 - (j + 1))
                    rw [show j + 1 + (8 - (j + 1)) = 8 by omega] at this
                    exact this
                  rw [e1] at e8
                  refine ⟨j + 1, K, V, G, C, ?_, ?_, fun q => ?_⟩
                  · rw [e8]; rfl
                  · rw [e8, bi_f (show ¬ (0 : Int) = 2 by decide)]
                  · rw [e8] at q; exact absurd (show (0 : Int) = 2 from q) (by decide)
              · refine st_iload_n rfl rfl ?_
                refine st_bipush rfl ?_
                refine st_icmp_eq rfl (fun h56 => (by exfalso; omega)) (fun h56 => ?_)
                refine st_iconst rfl ?_
                refine st_goto rfl ?_
                first
                | (have hbl : blF (hbF H) (txF (hbF H) (H 53 5) j) := ⟨by omega, by omega⟩)
                | (have hbl : ¬ (blF (hbF H) (txF (hbF H) (H 53 5) j)) := fun q => by have q1 := q.1; have q2 := q.2; omega)
                refine st_istore (ls' := [_, _, _, _, _]) rfl (Nat.le_of_ble_eq_true rfl) rfl ?_
                refine st_aload_n rfl rfl (by decide) ?_
                refine st_getI (kk := 7) rfl rfl (by decide) rfl ?_
                rw [pH_7]
                refine st_bipush rfl ?_
                refine st_icmp_ge rfl (fun h64 => ?_) (fun h64 => ?_)
                · have hno : ¬ ((j : Int) + 1 < 8 ∧ (jdF (hbF H) (txF (hbF H) (H 53 5) j) ∨ blF (hbF H) (txF (hbF H) (H 53 5) j))) := by
                    rintro ⟨q1, q2⟩
                    first
                    | omega
                    | (rcases q2 with q2 | q2
                       · exact hjd q2
                       · exact hbl q2)
                  refine st_iconst rfl ?_
                  refine st_istore_n (ls' := [_, _, _, _, _]) rfl (Nat.le_of_ble_eq_true rfl) rfl ?_
                  refine st_iload_n rfl rfl ?_
                  refine st_if_ne rfl (fun h74 => (by exfalso; omega)) (fun h74 => ?_)
                  refine st_goto rfl ?_
                  refine st_iload_n rfl rfl ?_
                  refine st_if_eq rfl (fun h14 => ?_) (fun h14 => (by exfalso; omega))
                  refine st_iconst rfl ?_
                  refine st_iret rfl (fun z => by first | exact absurd z (by decide) | exact bi_01 _ | decide | omega) ?_
                  have e1 : (txF (hbF H) (H 53 5) (j + 1)) = ⟨0, (txF (hbF H) (H 53 5) j).pos, 0, 0, 0, 0⟩ := by
                    simp only [txF]
                    rw [if_pos h1, if_neg h31, if_neg hno]
                  have e8 : (txF (hbF H) (H 53 5) 8) = (txF (hbF H) (H 53 5) (j + 1)) := by
                    have := txF_s (hbF H) (H 53 5) (j := j + 1) (by rw [e1]; show (0 : Int) ≠ 1; decide) (8 - (j + 1))
                    rw [show j + 1 + (8 - (j + 1)) = 8 by omega] at this
                    exact this
                  rw [e1] at e8
                  refine ⟨j + 1, K, V, G, C, ?_, ?_, fun q => ?_⟩
                  · rw [e8]; rfl
                  · rw [e8, bi_f (show ¬ (0 : Int) = 2 by decide)]
                  · rw [e8] at q; exact absurd (show (0 : Int) = 2 from q) (by decide)
                · refine st_iload_n rfl rfl ?_
                  refine st_if_ne rfl (fun h66 => (by exfalso; omega)) (fun h66 => ?_)
                  refine st_iload rfl rfl ?_
                  refine st_if_eq rfl (fun h68 => (by exfalso; omega)) (fun h68 => ?_)
                  exfalso; omega
            · refine st_iconst rfl ?_
              refine st_goto rfl ?_
              first
              | (have hjd : jdF (hbF H) (txF (hbF H) (H 53 5) j) := Or.inl ⟨by omega, by assumption⟩)
              | (have hjd : jdF (hbF H) (txF (hbF H) (H 53 5) j) := Or.inr ⟨by omega, by omega⟩)
              | (have hjd : ¬ (jdF (hbF H) (txF (hbF H) (H 53 5) j)) := fun q => by rcases q with q | q <;> (have q1 := q.1; have q2 := q.2; omega))
              refine st_istore_n (ls' := [_, _, _, _, _]) rfl (Nat.le_of_ble_eq_true rfl) rfl ?_
              refine st_aload_n rfl rfl (by decide) ?_
              refine st_cv1 (w := []) rfl rfl rfl (Nat.le_of_ble_eq_true rfl) (Nat.le_of_ble_eq_true rfl) rfl rfl (r_Model_here hP (by rw [pH_6]; omega) (by rw [pH_k _ _ _ _ _ _ _ (by omega) (by omega)]; exact hz)) ?_
              rw [pH_h]
              refine st_bipush rfl ?_
              refine st_icmp_ne rfl (fun h53 => ?_) (fun h53 => ?_)
              · refine st_iconst rfl ?_
                first
                | (have hbl : blF (hbF H) (txF (hbF H) (H 53 5) j) := ⟨by omega, by omega⟩)
                | (have hbl : ¬ (blF (hbF H) (txF (hbF H) (H 53 5) j)) := fun q => by have q1 := q.1; have q2 := q.2; omega)
                refine st_istore (ls' := [_, _, _, _, _]) rfl (Nat.le_of_ble_eq_true rfl) rfl ?_
                refine st_aload_n rfl rfl (by decide) ?_
                refine st_getI (kk := 7) rfl rfl (by decide) rfl ?_
                rw [pH_7]
                refine st_bipush rfl ?_
                refine st_icmp_ge rfl (fun h64 => ?_) (fun h64 => ?_)
                · have hno : ¬ ((j : Int) + 1 < 8 ∧ (jdF (hbF H) (txF (hbF H) (H 53 5) j) ∨ blF (hbF H) (txF (hbF H) (H 53 5) j))) := by
                    rintro ⟨q1, q2⟩
                    first
                    | omega
                    | (rcases q2 with q2 | q2
                       · exact hjd q2
                       · exact hbl q2)
                  refine st_iconst rfl ?_
                  refine st_istore_n (ls' := [_, _, _, _, _]) rfl (Nat.le_of_ble_eq_true rfl) rfl ?_
                  refine st_iload_n rfl rfl ?_
                  refine st_if_ne rfl (fun h74 => (by exfalso; omega)) (fun h74 => ?_)
                  refine st_goto rfl ?_
                  refine st_iload_n rfl rfl ?_
                  refine st_if_eq rfl (fun h14 => ?_) (fun h14 => (by exfalso; omega))
                  refine st_iconst rfl ?_
                  refine st_iret rfl (fun z => by first | exact absurd z (by decide) | exact bi_01 _ | decide | omega) ?_
                  have e1 : (txF (hbF H) (H 53 5) (j + 1)) = ⟨0, (txF (hbF H) (H 53 5) j).pos, 0, 0, 0, 0⟩ := by
                    simp only [txF]
                    rw [if_pos h1, if_neg h31, if_neg hno]
                  have e8 : (txF (hbF H) (H 53 5) 8) = (txF (hbF H) (H 53 5) (j + 1)) := by
                    have := txF_s (hbF H) (H 53 5) (j := j + 1) (by rw [e1]; show (0 : Int) ≠ 1; decide) (8 - (j + 1))
                    rw [show j + 1 + (8 - (j + 1)) = 8 by omega] at this
                    exact this
                  rw [e1] at e8
                  refine ⟨j + 1, K, V, G, C, ?_, ?_, fun q => ?_⟩
                  · rw [e8]; rfl
                  · rw [e8, bi_f (show ¬ (0 : Int) = 2 by decide)]
                  · rw [e8] at q; exact absurd (show (0 : Int) = 2 from q) (by decide)
                · refine st_iload_n rfl rfl ?_
                  refine st_if_ne rfl (fun h66 => ?_) (fun h66 => (by exfalso; omega))
                  exfalso; omega
              · refine st_iload_n rfl rfl ?_
                refine st_bipush rfl ?_
                refine st_icmp_eq rfl (fun h56 => (by exfalso; omega)) (fun h56 => ?_)
                refine st_iconst rfl ?_
                refine st_goto rfl ?_
                first
                | (have hbl : blF (hbF H) (txF (hbF H) (H 53 5) j) := ⟨by omega, by omega⟩)
                | (have hbl : ¬ (blF (hbF H) (txF (hbF H) (H 53 5) j)) := fun q => by have q1 := q.1; have q2 := q.2; omega)
                refine st_istore (ls' := [_, _, _, _, _]) rfl (Nat.le_of_ble_eq_true rfl) rfl ?_
                refine st_aload_n rfl rfl (by decide) ?_
                refine st_getI (kk := 7) rfl rfl (by decide) rfl ?_
                rw [pH_7]
                refine st_bipush rfl ?_
                refine st_icmp_ge rfl (fun h64 => ?_) (fun h64 => ?_)
                · have hno : ¬ ((j : Int) + 1 < 8 ∧ (jdF (hbF H) (txF (hbF H) (H 53 5) j) ∨ blF (hbF H) (txF (hbF H) (H 53 5) j))) := by
                    rintro ⟨q1, q2⟩
                    first
                    | omega
                    | (rcases q2 with q2 | q2
                       · exact hjd q2
                       · exact hbl q2)
                  refine st_iconst rfl ?_
                  refine st_istore_n (ls' := [_, _, _, _, _]) rfl (Nat.le_of_ble_eq_true rfl) rfl ?_
                  refine st_iload_n rfl rfl ?_
                  refine st_if_ne rfl (fun h74 => (by exfalso; omega)) (fun h74 => ?_)
                  refine st_goto rfl ?_
                  refine st_iload_n rfl rfl ?_
                  refine st_if_eq rfl (fun h14 => ?_) (fun h14 => (by exfalso; omega))
                  refine st_iconst rfl ?_
                  refine st_iret rfl (fun z => by first | exact absurd z (by decide) | exact bi_01 _ | decide | omega) ?_
                  have e1 : (txF (hbF H) (H 53 5) (j + 1)) = ⟨0, (txF (hbF H) (H 53 5) j).pos, 0, 0, 0, 0⟩ := by
                    simp only [txF]
                    rw [if_pos h1, if_neg h31, if_neg hno]
                  have e8 : (txF (hbF H) (H 53 5) 8) = (txF (hbF H) (H 53 5) (j + 1)) := by
                    have := txF_s (hbF H) (H 53 5) (j := j + 1) (by rw [e1]; show (0 : Int) ≠ 1; decide) (8 - (j + 1))
                    rw [show j + 1 + (8 - (j + 1)) = 8 by omega] at this
                    exact this
                  rw [e1] at e8
                  refine ⟨j + 1, K, V, G, C, ?_, ?_, fun q => ?_⟩
                  · rw [e8]; rfl
                  · rw [e8, bi_f (show ¬ (0 : Int) = 2 by decide)]
                  · rw [e8] at q; exact absurd (show (0 : Int) = 2 from q) (by decide)
                · refine st_iload_n rfl rfl ?_
                  refine st_if_ne rfl (fun h66 => ?_) (fun h66 => (by exfalso; omega))
                  exfalso; omega
        · refine st_aload_n rfl rfl (by decide) ?_
          refine st_cv1 (w := []) rfl rfl rfl (Nat.le_of_ble_eq_true rfl) (Nat.le_of_ble_eq_true rfl) rfl rfl (r_Model_isDigit hP (by rw [pH_6]; omega) (by rw [pH_k _ _ _ _ _ _ _ (by omega) (by omega)]; exact hz)) ?_
          rw [pH_h]
          refine st_if_ne_b rfl (fun h38 => ?_) (fun h38 => ?_)
          · refine st_iconst rfl ?_
            refine st_goto rfl ?_
            first
            | (have hjd : jdF (hbF H) (txF (hbF H) (H 53 5) j) := Or.inl ⟨by omega, by assumption⟩)
            | (have hjd : jdF (hbF H) (txF (hbF H) (H 53 5) j) := Or.inr ⟨by omega, by omega⟩)
            | (have hjd : ¬ (jdF (hbF H) (txF (hbF H) (H 53 5) j)) := fun q => by rcases q with q | q <;> (have q1 := q.1; have q2 := q.2; omega))
            refine st_istore_n (ls' := [_, _, _, _, _]) rfl (Nat.le_of_ble_eq_true rfl) rfl ?_
            refine st_aload_n rfl rfl (by decide) ?_
            refine st_cv1 (w := []) rfl rfl rfl (Nat.le_of_ble_eq_true rfl) (Nat.le_of_ble_eq_true rfl) rfl rfl (r_Model_here hP (by rw [pH_6]; omega) (by rw [pH_k _ _ _ _ _ _ _ (by omega) (by omega)]; exact hz)) ?_
            rw [pH_h]
            refine st_bipush rfl ?_
            refine st_icmp_ne rfl (fun h53 => ?_) (fun h53 => ?_)
            · refine st_iconst rfl ?_
              first
              | (have hbl : blF (hbF H) (txF (hbF H) (H 53 5) j) := ⟨by omega, by omega⟩)
              | (have hbl : ¬ (blF (hbF H) (txF (hbF H) (H 53 5) j)) := fun q => by have q1 := q.1; have q2 := q.2; omega)
              refine st_istore (ls' := [_, _, _, _, _]) rfl (Nat.le_of_ble_eq_true rfl) rfl ?_
              refine st_aload_n rfl rfl (by decide) ?_
              refine st_getI (kk := 7) rfl rfl (by decide) rfl ?_
              rw [pH_7]
              refine st_bipush rfl ?_
              refine st_icmp_ge rfl (fun h64 => ?_) (fun h64 => ?_)
              · have hno : ¬ ((j : Int) + 1 < 8 ∧ (jdF (hbF H) (txF (hbF H) (H 53 5) j) ∨ blF (hbF H) (txF (hbF H) (H 53 5) j))) := by
                  rintro ⟨q1, q2⟩
                  first
                  | omega
                  | (rcases q2 with q2 | q2
                     · exact hjd q2
                     · exact hbl q2)
                refine st_iconst rfl ?_
                refine st_istore_n (ls' := [_, _, _, _, _]) rfl (Nat.le_of_ble_eq_true rfl) rfl ?_
                refine st_iload_n rfl rfl ?_
                refine st_if_ne rfl (fun h74 => (by exfalso; omega)) (fun h74 => ?_)
                refine st_goto rfl ?_
                refine st_iload_n rfl rfl ?_
                refine st_if_eq rfl (fun h14 => ?_) (fun h14 => (by exfalso; omega))
                refine st_iconst rfl ?_
                refine st_iret rfl (fun z => by first | exact absurd z (by decide) | exact bi_01 _ | decide | omega) ?_
                have e1 : (txF (hbF H) (H 53 5) (j + 1)) = ⟨0, (txF (hbF H) (H 53 5) j).pos, 0, 0, 0, 0⟩ := by
                  simp only [txF]
                  rw [if_pos h1, if_neg h31, if_neg hno]
                have e8 : (txF (hbF H) (H 53 5) 8) = (txF (hbF H) (H 53 5) (j + 1)) := by
                  have := txF_s (hbF H) (H 53 5) (j := j + 1) (by rw [e1]; show (0 : Int) ≠ 1; decide) (8 - (j + 1))
                  rw [show j + 1 + (8 - (j + 1)) = 8 by omega] at this
                  exact this
                rw [e1] at e8
                refine ⟨j + 1, K, V, G, C, ?_, ?_, fun q => ?_⟩
                · rw [e8]; rfl
                · rw [e8, bi_f (show ¬ (0 : Int) = 2 by decide)]
                · rw [e8] at q; exact absurd (show (0 : Int) = 2 from q) (by decide)
              · refine st_iload_n rfl rfl ?_
                refine st_if_ne rfl (fun h66 => ?_) (fun h66 => (by exfalso; omega))
                exfalso; omega
            · refine st_iload_n rfl rfl ?_
              refine st_bipush rfl ?_
              refine st_icmp_eq rfl (fun h56 => (by exfalso; omega)) (fun h56 => ?_)
              refine st_iconst rfl ?_
              refine st_goto rfl ?_
              first
              | (have hbl : blF (hbF H) (txF (hbF H) (H 53 5) j) := ⟨by omega, by omega⟩)
              | (have hbl : ¬ (blF (hbF H) (txF (hbF H) (H 53 5) j)) := fun q => by have q1 := q.1; have q2 := q.2; omega)
              refine st_istore (ls' := [_, _, _, _, _]) rfl (Nat.le_of_ble_eq_true rfl) rfl ?_
              refine st_aload_n rfl rfl (by decide) ?_
              refine st_getI (kk := 7) rfl rfl (by decide) rfl ?_
              rw [pH_7]
              refine st_bipush rfl ?_
              refine st_icmp_ge rfl (fun h64 => ?_) (fun h64 => ?_)
              · have hno : ¬ ((j : Int) + 1 < 8 ∧ (jdF (hbF H) (txF (hbF H) (H 53 5) j) ∨ blF (hbF H) (txF (hbF H) (H 53 5) j))) := by
                  rintro ⟨q1, q2⟩
                  first
                  | omega
                  | (rcases q2 with q2 | q2
                     · exact hjd q2
                     · exact hbl q2)
                refine st_iconst rfl ?_
                refine st_istore_n (ls' := [_, _, _, _, _]) rfl (Nat.le_of_ble_eq_true rfl) rfl ?_
                refine st_iload_n rfl rfl ?_
                refine st_if_ne rfl (fun h74 => (by exfalso; omega)) (fun h74 => ?_)
                refine st_goto rfl ?_
                refine st_iload_n rfl rfl ?_
                refine st_if_eq rfl (fun h14 => ?_) (fun h14 => (by exfalso; omega))
                refine st_iconst rfl ?_
                refine st_iret rfl (fun z => by first | exact absurd z (by decide) | exact bi_01 _ | decide | omega) ?_
                have e1 : (txF (hbF H) (H 53 5) (j + 1)) = ⟨0, (txF (hbF H) (H 53 5) j).pos, 0, 0, 0, 0⟩ := by
                  simp only [txF]
                  rw [if_pos h1, if_neg h31, if_neg hno]
                have e8 : (txF (hbF H) (H 53 5) 8) = (txF (hbF H) (H 53 5) (j + 1)) := by
                  have := txF_s (hbF H) (H 53 5) (j := j + 1) (by rw [e1]; show (0 : Int) ≠ 1; decide) (8 - (j + 1))
                  rw [show j + 1 + (8 - (j + 1)) = 8 by omega] at this
                  exact this
                rw [e1] at e8
                refine ⟨j + 1, K, V, G, C, ?_, ?_, fun q => ?_⟩
                · rw [e8]; rfl
                · rw [e8, bi_f (show ¬ (0 : Int) = 2 by decide)]
                · rw [e8] at q; exact absurd (show (0 : Int) = 2 from q) (by decide)
              · refine st_iload_n rfl rfl ?_
                refine st_if_ne rfl (fun h66 => ?_) (fun h66 => (by exfalso; omega))
                exfalso; omega
          · refine st_iload_n rfl rfl ?_
            refine st_iconst rfl ?_
            refine st_icmp_ne rfl (fun h41 => ?_) (fun h41 => (by exfalso; omega))
            refine st_iconst rfl ?_
            first
            | (have hjd : jdF (hbF H) (txF (hbF H) (H 53 5) j) := Or.inl ⟨by omega, by assumption⟩)
            | (have hjd : jdF (hbF H) (txF (hbF H) (H 53 5) j) := Or.inr ⟨by omega, by omega⟩)
            | (have hjd : ¬ (jdF (hbF H) (txF (hbF H) (H 53 5) j)) := fun q => by rcases q with q | q <;> (have q1 := q.1; have q2 := q.2; omega))
            refine st_istore_n (ls' := [_, _, _, _, _]) rfl (Nat.le_of_ble_eq_true rfl) rfl ?_
            refine st_aload_n rfl rfl (by decide) ?_
            refine st_cv1 (w := []) rfl rfl rfl (Nat.le_of_ble_eq_true rfl) (Nat.le_of_ble_eq_true rfl) rfl rfl (r_Model_here hP (by rw [pH_6]; omega) (by rw [pH_k _ _ _ _ _ _ _ (by omega) (by omega)]; exact hz)) ?_
            rw [pH_h]
            refine st_bipush rfl ?_
            refine st_icmp_ne rfl (fun h53 => ?_) (fun h53 => ?_)
            · refine st_iconst rfl ?_
              first
              | (have hbl : blF (hbF H) (txF (hbF H) (H 53 5) j) := ⟨by omega, by omega⟩)
              | (have hbl : ¬ (blF (hbF H) (txF (hbF H) (H 53 5) j)) := fun q => by have q1 := q.1; have q2 := q.2; omega)
              refine st_istore (ls' := [_, _, _, _, _]) rfl (Nat.le_of_ble_eq_true rfl) rfl ?_
              refine st_aload_n rfl rfl (by decide) ?_
              refine st_getI (kk := 7) rfl rfl (by decide) rfl ?_
              rw [pH_7]
              refine st_bipush rfl ?_
              refine st_icmp_ge rfl (fun h64 => ?_) (fun h64 => ?_)
              · have hno : ¬ ((j : Int) + 1 < 8 ∧ (jdF (hbF H) (txF (hbF H) (H 53 5) j) ∨ blF (hbF H) (txF (hbF H) (H 53 5) j))) := by
                  rintro ⟨q1, q2⟩
                  first
                  | omega
                  | (rcases q2 with q2 | q2
                     · exact hjd q2
                     · exact hbl q2)
                refine st_iconst rfl ?_
                refine st_istore_n (ls' := [_, _, _, _, _]) rfl (Nat.le_of_ble_eq_true rfl) rfl ?_
                refine st_iload_n rfl rfl ?_
                refine st_if_ne rfl (fun h74 => (by exfalso; omega)) (fun h74 => ?_)
                refine st_goto rfl ?_
                refine st_iload_n rfl rfl ?_
                refine st_if_eq rfl (fun h14 => ?_) (fun h14 => (by exfalso; omega))
                refine st_iconst rfl ?_
                refine st_iret rfl (fun z => by first | exact absurd z (by decide) | exact bi_01 _ | decide | omega) ?_
                have e1 : (txF (hbF H) (H 53 5) (j + 1)) = ⟨0, (txF (hbF H) (H 53 5) j).pos, 0, 0, 0, 0⟩ := by
                  simp only [txF]
                  rw [if_pos h1, if_neg h31, if_neg hno]
                have e8 : (txF (hbF H) (H 53 5) 8) = (txF (hbF H) (H 53 5) (j + 1)) := by
                  have := txF_s (hbF H) (H 53 5) (j := j + 1) (by rw [e1]; show (0 : Int) ≠ 1; decide) (8 - (j + 1))
                  rw [show j + 1 + (8 - (j + 1)) = 8 by omega] at this
                  exact this
                rw [e1] at e8
                refine ⟨j + 1, K, V, G, C, ?_, ?_, fun q => ?_⟩
                · rw [e8]; rfl
                · rw [e8, bi_f (show ¬ (0 : Int) = 2 by decide)]
                · rw [e8] at q; exact absurd (show (0 : Int) = 2 from q) (by decide)
              · refine st_iload_n rfl rfl ?_
                refine st_if_ne rfl (fun h66 => (by exfalso; omega)) (fun h66 => ?_)
                refine st_iload rfl rfl ?_
                refine st_if_eq rfl (fun h68 => ?_) (fun h68 => (by exfalso; omega))
                have hno : ¬ ((j : Int) + 1 < 8 ∧ (jdF (hbF H) (txF (hbF H) (H 53 5) j) ∨ blF (hbF H) (txF (hbF H) (H 53 5) j))) := by
                  rintro ⟨q1, q2⟩
                  first
                  | omega
                  | (rcases q2 with q2 | q2
                     · exact hjd q2
                     · exact hbl q2)
                refine st_iconst rfl ?_
                refine st_istore_n (ls' := [_, _, _, _, _]) rfl (Nat.le_of_ble_eq_true rfl) rfl ?_
                refine st_iload_n rfl rfl ?_
                refine st_if_ne rfl (fun h74 => (by exfalso; omega)) (fun h74 => ?_)
                refine st_goto rfl ?_
                refine st_iload_n rfl rfl ?_
                refine st_if_eq rfl (fun h14 => ?_) (fun h14 => (by exfalso; omega))
                refine st_iconst rfl ?_
                refine st_iret rfl (fun z => by first | exact absurd z (by decide) | exact bi_01 _ | decide | omega) ?_
                have e1 : (txF (hbF H) (H 53 5) (j + 1)) = ⟨0, (txF (hbF H) (H 53 5) j).pos, 0, 0, 0, 0⟩ := by
                  simp only [txF]
                  rw [if_pos h1, if_neg h31, if_neg hno]
                have e8 : (txF (hbF H) (H 53 5) 8) = (txF (hbF H) (H 53 5) (j + 1)) := by
                  have := txF_s (hbF H) (H 53 5) (j := j + 1) (by rw [e1]; show (0 : Int) ≠ 1; decide) (8 - (j + 1))
                  rw [show j + 1 + (8 - (j + 1)) = 8 by omega] at this
                  exact this
                rw [e1] at e8
                refine ⟨j + 1, K, V, G, C, ?_, ?_, fun q => ?_⟩
                · rw [e8]; rfl
                · rw [e8, bi_f (show ¬ (0 : Int) = 2 by decide)]
                · rw [e8] at q; exact absurd (show (0 : Int) = 2 from q) (by decide)
            · refine st_iload_n rfl rfl ?_
              refine st_bipush rfl ?_
              refine st_icmp_eq rfl (fun h56 => (by exfalso; omega)) (fun h56 => ?_)
              refine st_iconst rfl ?_
              refine st_goto rfl ?_
              first
              | (have hbl : blF (hbF H) (txF (hbF H) (H 53 5) j) := ⟨by omega, by omega⟩)
              | (have hbl : ¬ (blF (hbF H) (txF (hbF H) (H 53 5) j)) := fun q => by have q1 := q.1; have q2 := q.2; omega)
              refine st_istore (ls' := [_, _, _, _, _]) rfl (Nat.le_of_ble_eq_true rfl) rfl ?_
              refine st_aload_n rfl rfl (by decide) ?_
              refine st_getI (kk := 7) rfl rfl (by decide) rfl ?_
              rw [pH_7]
              refine st_bipush rfl ?_
              refine st_icmp_ge rfl (fun h64 => ?_) (fun h64 => ?_)
              · have hno : ¬ ((j : Int) + 1 < 8 ∧ (jdF (hbF H) (txF (hbF H) (H 53 5) j) ∨ blF (hbF H) (txF (hbF H) (H 53 5) j))) := by
                  rintro ⟨q1, q2⟩
                  first
                  | omega
                  | (rcases q2 with q2 | q2
                     · exact hjd q2
                     · exact hbl q2)
                refine st_iconst rfl ?_
                refine st_istore_n (ls' := [_, _, _, _, _]) rfl (Nat.le_of_ble_eq_true rfl) rfl ?_
                refine st_iload_n rfl rfl ?_
                refine st_if_ne rfl (fun h74 => (by exfalso; omega)) (fun h74 => ?_)
                refine st_goto rfl ?_
                refine st_iload_n rfl rfl ?_
                refine st_if_eq rfl (fun h14 => ?_) (fun h14 => (by exfalso; omega))
                refine st_iconst rfl ?_
                refine st_iret rfl (fun z => by first | exact absurd z (by decide) | exact bi_01 _ | decide | omega) ?_
                have e1 : (txF (hbF H) (H 53 5) (j + 1)) = ⟨0, (txF (hbF H) (H 53 5) j).pos, 0, 0, 0, 0⟩ := by
                  simp only [txF]
                  rw [if_pos h1, if_neg h31, if_neg hno]
                have e8 : (txF (hbF H) (H 53 5) 8) = (txF (hbF H) (H 53 5) (j + 1)) := by
                  have := txF_s (hbF H) (H 53 5) (j := j + 1) (by rw [e1]; show (0 : Int) ≠ 1; decide) (8 - (j + 1))
                  rw [show j + 1 + (8 - (j + 1)) = 8 by omega] at this
                  exact this
                rw [e1] at e8
                refine ⟨j + 1, K, V, G, C, ?_, ?_, fun q => ?_⟩
                · rw [e8]; rfl
                · rw [e8, bi_f (show ¬ (0 : Int) = 2 by decide)]
                · rw [e8] at q; exact absurd (show (0 : Int) = 2 from q) (by decide)
              · refine st_iload_n rfl rfl ?_
                refine st_if_ne rfl (fun h66 => (by exfalso; omega)) (fun h66 => ?_)
                refine st_iload rfl rfl ?_
                refine st_if_eq rfl (fun h68 => (by exfalso; omega)) (fun h68 => ?_)
                exfalso; omega
      · refine st_iconst rfl ?_
        refine st_iret rfl (fun z => by first | exact absurd z (by decide) | exact bi_01 _ | decide | omega) ?_
        have e1 : (txF (hbF H) (H 53 5) (j + 1)) = ⟨2, (txF (hbF H) (H 53 5) j).pos, 0, 0, 0, 0⟩ := by
          simp only [txF]
          rw [if_pos h1, if_pos h31]
        have e8 : (txF (hbF H) (H 53 5) 8) = (txF (hbF H) (H 53 5) (j + 1)) := by
          have := txF_s (hbF H) (H 53 5) (j := j + 1) (by rw [e1]; show (2 : Int) ≠ 1; decide) (8 - (j + 1))
          rw [show j + 1 + (8 - (j + 1)) = 8 by omega] at this
          exact this
        refine ⟨j + 1, K, V, G, C, ?_, ?_, fun q => ⟨by omega, by rw [e1], fun i qi => ?_⟩⟩
        · rw [e8, e1]; rfl
        · rw [e8, e1, bi_t rfl]
        · by_cases q2 : i < j
          · exact hA i q2
          · rw [show i = j by omega]
            exact ⟨h1, hB h1⟩
  | succ f ih =>
    intro j hj K V G C hA hB h01 w1 w3 w4
    have hr := txF_r (hbF H) (H 53 5) j
    refine st_iload_n rfl rfl ?_
    refine st_if_eq rfl (fun h14 => ?_) (fun h14 => ?_)
    · refine st_iconst rfl ?_
      refine st_iret rfl (fun z => by first | exact absurd z (by decide) | exact bi_01 _ | decide | omega) ?_
      have e8 : (txF (hbF H) (H 53 5) 8) = (txF (hbF H) (H 53 5) j) := by
        have := txF_s (hbF H) (H 53 5) (j := j) (by omega) (8 - j)
        rw [show j + (8 - j) = 8 by omega] at this
        exact this
      refine ⟨j, K, V, G, C, ?_, ?_, fun q => ?_⟩
      · rw [e8]
      · rw [e8, bi_f (by omega)]
      · rw [e8] at q; omega
    · have h1 : (txF (hbF H) (H 53 5) j).ok = 1 := by omega
      refine st_aload_n rfl rfl (by decide) ?_
      refine st_getR (kk := 8) rfl rfl rfl (pz_53_8 hP) rfl ?_
      refine st_aload_n rfl rfl (by decide) ?_
      refine st_getI (kk := 7) rfl rfl (by decide) rfl ?_
      rw [pH_7]
      refine st_iaload rfl rfl (by omega) (by omega) ?_
      rw [show pH H (txF (hbF H) (H 53 5) j).pos (j : Int) K V G C 57 (j : Int) = (txF (hbF H) (H 53 5) j).kd from (hB h1).1]
      refine st_istore_n (ls' := [_, _, _, _, _]) rfl (Nat.le_of_ble_eq_true rfl) rfl ?_
      refine st_aload_n rfl rfl (by decide) ?_
      refine st_dup rfl rfl ?_
      refine st_getI (kk := 7) rfl rfl (by decide) rfl ?_
      rw [pH_7]
      refine st_iconst rfl ?_
      refine st_iadd rfl (by omega) ?_
      refine st_putI (kk := 7) rfl rfl rfl rfl ?_
      rw [pH_u7]
      refine st_aload_n rfl rfl (by decide) ?_
      refine st_getI (kk := 6) rfl rfl (by decide) rfl ?_
      rw [pH_6]
      refine st_aload_n rfl rfl (by decide) ?_
      refine st_getI (kk := 5) rfl rfl (by decide) rfl ?_
      rw [pH_k _ _ _ _ _ _ _ (by omega) (by omega)]
      refine st_icmp_ne rfl (fun h31 => ?_) (fun h31 => ?_)
      · refine st_iload_n rfl rfl ?_
        refine st_if_ne rfl (fun h35 => ?_) (fun h35 => ?_)
        · refine st_iload_n rfl rfl ?_
          refine st_iconst rfl ?_
          refine st_icmp_ne rfl (fun h41 => ?_) (fun h41 => ?_)
          · refine st_iconst rfl ?_
            first
            | (have hjd : jdF (hbF H) (txF (hbF H) (H 53 5) j) := Or.inl ⟨by omega, by assumption⟩)
            | (have hjd : jdF (hbF H) (txF (hbF H) (H 53 5) j) := Or.inr ⟨by omega, by omega⟩)
            | (have hjd : ¬ (jdF (hbF H) (txF (hbF H) (H 53 5) j)) := fun q => by rcases q with q | q <;> (have q1 := q.1; have q2 := q.2; omega))
            refine st_istore_n (ls' := [_, _, _, _, _]) rfl (Nat.le_of_ble_eq_true rfl) rfl ?_
            refine st_aload_n rfl rfl (by decide) ?_
            refine st_cv1 (w := []) rfl rfl rfl (Nat.le_of_ble_eq_true rfl) (Nat.le_of_ble_eq_true rfl) rfl rfl (r_Model_here hP (by rw [pH_6]; omega) (by rw [pH_k _ _ _ _ _ _ _ (by omega) (by omega)]; exact hz)) ?_
            rw [pH_h]
            refine st_bipush rfl ?_
            refine st_icmp_ne rfl (fun h53 => ?_) (fun h53 => ?_)
            · refine st_iconst rfl ?_
              first
              | (have hbl : blF (hbF H) (txF (hbF H) (H 53 5) j) := ⟨by omega, by omega⟩)
              | (have hbl : ¬ (blF (hbF H) (txF (hbF H) (H 53 5) j)) := fun q => by have q1 := q.1; have q2 := q.2; omega)
              refine st_istore (ls' := [_, _, _, _, _]) rfl (Nat.le_of_ble_eq_true rfl) rfl ?_
              refine st_aload_n rfl rfl (by decide) ?_
              refine st_getI (kk := 7) rfl rfl (by decide) rfl ?_
              rw [pH_7]
              refine st_bipush rfl ?_
              refine st_icmp_ge rfl (fun h64 => ?_) (fun h64 => ?_)
              · have hno : ¬ ((j : Int) + 1 < 8 ∧ (jdF (hbF H) (txF (hbF H) (H 53 5) j) ∨ blF (hbF H) (txF (hbF H) (H 53 5) j))) := by
                  rintro ⟨q1, q2⟩
                  first
                  | omega
                  | (rcases q2 with q2 | q2
                     · exact hjd q2
                     · exact hbl q2)
                refine st_iconst rfl ?_
                refine st_istore_n (ls' := [_, _, _, _, _]) rfl (Nat.le_of_ble_eq_true rfl) rfl ?_
                refine st_iload_n rfl rfl ?_
                refine st_if_ne rfl (fun h74 => (by exfalso; omega)) (fun h74 => ?_)
                refine st_goto rfl ?_
                refine st_iload_n rfl rfl ?_
                refine st_if_eq rfl (fun h14 => ?_) (fun h14 => (by exfalso; omega))
                refine st_iconst rfl ?_
                refine st_iret rfl (fun z => by first | exact absurd z (by decide) | exact bi_01 _ | decide | omega) ?_
                have e1 : (txF (hbF H) (H 53 5) (j + 1)) = ⟨0, (txF (hbF H) (H 53 5) j).pos, 0, 0, 0, 0⟩ := by
                  simp only [txF]
                  rw [if_pos h1, if_neg h31, if_neg hno]
                have e8 : (txF (hbF H) (H 53 5) 8) = (txF (hbF H) (H 53 5) (j + 1)) := by
                  have := txF_s (hbF H) (H 53 5) (j := j + 1) (by rw [e1]; show (0 : Int) ≠ 1; decide) (8 - (j + 1))
                  rw [show j + 1 + (8 - (j + 1)) = 8 by omega] at this
                  exact this
                rw [e1] at e8
                refine ⟨j + 1, K, V, G, C, ?_, ?_, fun q => ?_⟩
                · rw [e8]; rfl
                · rw [e8, bi_f (show ¬ (0 : Int) = 2 by decide)]
                · rw [e8] at q; exact absurd (show (0 : Int) = 2 from q) (by decide)
              · refine st_iload_n rfl rfl ?_
                refine st_if_ne rfl (fun h66 => (by exfalso; omega)) (fun h66 => ?_)
                refine st_iload rfl rfl ?_
                refine st_if_eq rfl (fun h68 => ?_) (fun h68 => (by exfalso; omega))
                have hno : ¬ ((j : Int) + 1 < 8 ∧ (jdF (hbF H) (txF (hbF H) (H 53 5) j) ∨ blF (hbF H) (txF (hbF H) (H 53 5) j))) := by
                  rintro ⟨q1, q2⟩
                  first
                  | omega
                  | (rcases q2 with q2 | q2
                     · exact hjd q2
                     · exact hbl q2)
                refine st_iconst rfl ?_
                refine st_istore_n (ls' := [_, _, _, _, _]) rfl (Nat.le_of_ble_eq_true rfl) rfl ?_
                refine st_iload_n rfl rfl ?_
                refine st_if_ne rfl (fun h74 => (by exfalso; omega)) (fun h74 => ?_)
                refine st_goto rfl ?_
                refine st_iload_n rfl rfl ?_
                refine st_if_eq rfl (fun h14 => ?_) (fun h14 => (by exfalso; omega))
                refine st_iconst rfl ?_
                refine st_iret rfl (fun z => by first | exact absurd z (by decide) | exact bi_01 _ | decide | omega) ?_
                have e1 : (txF (hbF H) (H 53 5) (j + 1)) = ⟨0, (txF (hbF H) (H 53 5) j).pos, 0, 0, 0, 0⟩ := by
                  simp only [txF]
                  rw [if_pos h1, if_neg h31, if_neg hno]
                have e8 : (txF (hbF H) (H 53 5) 8) = (txF (hbF H) (H 53 5) (j + 1)) := by
                  have := txF_s (hbF H) (H 53 5) (j := j + 1) (by rw [e1]; show (0 : Int) ≠ 1; decide) (8 - (j + 1))
                  rw [show j + 1 + (8 - (j + 1)) = 8 by omega] at this
                  exact this
                rw [e1] at e8
                refine ⟨j + 1, K, V, G, C, ?_, ?_, fun q => ?_⟩
                · rw [e8]; rfl
                · rw [e8, bi_f (show ¬ (0 : Int) = 2 by decide)]
                · rw [e8] at q; exact absurd (show (0 : Int) = 2 from q) (by decide)
            · refine st_iload_n rfl rfl ?_
              refine st_bipush rfl ?_
              refine st_icmp_eq rfl (fun h56 => ?_) (fun h56 => ?_)
              · refine st_iconst rfl ?_
                first
                | (have hbl : blF (hbF H) (txF (hbF H) (H 53 5) j) := ⟨by omega, by omega⟩)
                | (have hbl : ¬ (blF (hbF H) (txF (hbF H) (H 53 5) j)) := fun q => by have q1 := q.1; have q2 := q.2; omega)
                refine st_istore (ls' := [_, _, _, _, _]) rfl (Nat.le_of_ble_eq_true rfl) rfl ?_
                refine st_aload_n rfl rfl (by decide) ?_
                refine st_getI (kk := 7) rfl rfl (by decide) rfl ?_
                rw [pH_7]
                refine st_bipush rfl ?_
                refine st_icmp_ge rfl (fun h64 => ?_) (fun h64 => ?_)
                · have hno : ¬ ((j : Int) + 1 < 8 ∧ (jdF (hbF H) (txF (hbF H) (H 53 5) j) ∨ blF (hbF H) (txF (hbF H) (H 53 5) j))) := by
                    rintro ⟨q1, q2⟩
                    first
                    | omega
                    | (rcases q2 with q2 | q2
                       · exact hjd q2
                       · exact hbl q2)
                  refine st_iconst rfl ?_
                  refine st_istore_n (ls' := [_, _, _, _, _]) rfl (Nat.le_of_ble_eq_true rfl) rfl ?_
                  refine st_iload_n rfl rfl ?_
                  refine st_if_ne rfl (fun h74 => (by exfalso; omega)) (fun h74 => ?_)
                  refine st_goto rfl ?_
                  refine st_iload_n rfl rfl ?_
                  refine st_if_eq rfl (fun h14 => ?_) (fun h14 => (by exfalso; omega))
                  refine st_iconst rfl ?_
                  refine st_iret rfl (fun z => by first | exact absurd z (by decide) | exact bi_01 _ | decide | omega) ?_
                  have e1 : (txF (hbF H) (H 53 5) (j + 1)) = ⟨0, (txF (hbF H) (H 53 5) j).pos, 0, 0, 0, 0⟩ := by
                    simp only [txF]
                    rw [if_pos h1, if_neg h31, if_neg hno]
                  have e8 : (txF (hbF H) (H 53 5) 8) = (txF (hbF H) (H 53 5) (j + 1)) := by
                    have := txF_s (hbF H) (H 53 5) (j := j + 1) (by rw [e1]; show (0 : Int) ≠ 1; decide) (8 - (j + 1))
                    rw [show j + 1 + (8 - (j + 1)) = 8 by omega] at this
                    exact this
                  rw [e1] at e8
                  refine ⟨j + 1, K, V, G, C, ?_, ?_, fun q => ?_⟩
                  · rw [e8]; rfl
                  · rw [e8, bi_f (show ¬ (0 : Int) = 2 by decide)]
                  · rw [e8] at q; exact absurd (show (0 : Int) = 2 from q) (by decide)
                · refine st_iload_n rfl rfl ?_
                  refine st_if_ne rfl (fun h66 => (by exfalso; omega)) (fun h66 => ?_)
                  refine st_iload rfl rfl ?_
                  refine st_if_eq rfl (fun h68 => ?_) (fun h68 => (by exfalso; omega))
                  have hno : ¬ ((j : Int) + 1 < 8 ∧ (jdF (hbF H) (txF (hbF H) (H 53 5) j) ∨ blF (hbF H) (txF (hbF H) (H 53 5) j))) := by
                    rintro ⟨q1, q2⟩
                    first
                    | omega
                    | (rcases q2 with q2 | q2
                       · exact hjd q2
                       · exact hbl q2)
                  refine st_iconst rfl ?_
                  refine st_istore_n (ls' := [_, _, _, _, _]) rfl (Nat.le_of_ble_eq_true rfl) rfl ?_
                  refine st_iload_n rfl rfl ?_
                  refine st_if_ne rfl (fun h74 => (by exfalso; omega)) (fun h74 => ?_)
                  refine st_goto rfl ?_
                  refine st_iload_n rfl rfl ?_
                  refine st_if_eq rfl (fun h14 => ?_) (fun h14 => (by exfalso; omega))
                  refine st_iconst rfl ?_
                  refine st_iret rfl (fun z => by first | exact absurd z (by decide) | exact bi_01 _ | decide | omega) ?_
                  have e1 : (txF (hbF H) (H 53 5) (j + 1)) = ⟨0, (txF (hbF H) (H 53 5) j).pos, 0, 0, 0, 0⟩ := by
                    simp only [txF]
                    rw [if_pos h1, if_neg h31, if_neg hno]
                  have e8 : (txF (hbF H) (H 53 5) 8) = (txF (hbF H) (H 53 5) (j + 1)) := by
                    have := txF_s (hbF H) (H 53 5) (j := j + 1) (by rw [e1]; show (0 : Int) ≠ 1; decide) (8 - (j + 1))
                    rw [show j + 1 + (8 - (j + 1)) = 8 by omega] at this
                    exact this
                  rw [e1] at e8
                  refine ⟨j + 1, K, V, G, C, ?_, ?_, fun q => ?_⟩
                  · rw [e8]; rfl
                  · rw [e8, bi_f (show ¬ (0 : Int) = 2 by decide)]
                  · rw [e8] at q; exact absurd (show (0 : Int) = 2 from q) (by decide)
              · refine st_iconst rfl ?_
                refine st_goto rfl ?_
                first
                | (have hbl : blF (hbF H) (txF (hbF H) (H 53 5) j) := ⟨by omega, by omega⟩)
                | (have hbl : ¬ (blF (hbF H) (txF (hbF H) (H 53 5) j)) := fun q => by have q1 := q.1; have q2 := q.2; omega)
                refine st_istore (ls' := [_, _, _, _, _]) rfl (Nat.le_of_ble_eq_true rfl) rfl ?_
                refine st_aload_n rfl rfl (by decide) ?_
                refine st_getI (kk := 7) rfl rfl (by decide) rfl ?_
                rw [pH_7]
                refine st_bipush rfl ?_
                refine st_icmp_ge rfl (fun h64 => ?_) (fun h64 => ?_)
                · have hno : ¬ ((j : Int) + 1 < 8 ∧ (jdF (hbF H) (txF (hbF H) (H 53 5) j) ∨ blF (hbF H) (txF (hbF H) (H 53 5) j))) := by
                    rintro ⟨q1, q2⟩
                    first
                    | omega
                    | (rcases q2 with q2 | q2
                       · exact hjd q2
                       · exact hbl q2)
                  refine st_iconst rfl ?_
                  refine st_istore_n (ls' := [_, _, _, _, _]) rfl (Nat.le_of_ble_eq_true rfl) rfl ?_
                  refine st_iload_n rfl rfl ?_
                  refine st_if_ne rfl (fun h74 => (by exfalso; omega)) (fun h74 => ?_)
                  refine st_goto rfl ?_
                  refine st_iload_n rfl rfl ?_
                  refine st_if_eq rfl (fun h14 => ?_) (fun h14 => (by exfalso; omega))
                  refine st_iconst rfl ?_
                  refine st_iret rfl (fun z => by first | exact absurd z (by decide) | exact bi_01 _ | decide | omega) ?_
                  have e1 : (txF (hbF H) (H 53 5) (j + 1)) = ⟨0, (txF (hbF H) (H 53 5) j).pos, 0, 0, 0, 0⟩ := by
                    simp only [txF]
                    rw [if_pos h1, if_neg h31, if_neg hno]
                  have e8 : (txF (hbF H) (H 53 5) 8) = (txF (hbF H) (H 53 5) (j + 1)) := by
                    have := txF_s (hbF H) (H 53 5) (j := j + 1) (by rw [e1]; show (0 : Int) ≠ 1; decide) (8 - (j + 1))
                    rw [show j + 1 + (8 - (j + 1)) = 8 by omega] at this
                    exact this
                  rw [e1] at e8
                  refine ⟨j + 1, K, V, G, C, ?_, ?_, fun q => ?_⟩
                  · rw [e8]; rfl
                  · rw [e8, bi_f (show ¬ (0 : Int) = 2 by decide)]
                  · rw [e8] at q; exact absurd (show (0 : Int) = 2 from q) (by decide)
                · refine st_iload_n rfl rfl ?_
                  refine st_if_ne rfl (fun h66 => (by exfalso; omega)) (fun h66 => ?_)
                  refine st_iload rfl rfl ?_
                  refine st_if_eq rfl (fun h68 => (by exfalso; omega)) (fun h68 => ?_)
                  refine st_iconst rfl ?_
                  refine st_goto rfl ?_
                  refine st_istore_n (ls' := [_, _, _, _, _]) rfl (Nat.le_of_ble_eq_true rfl) rfl ?_
                  refine st_iload_n rfl rfl ?_
                  refine st_if_ne rfl (fun h74 => ?_) (fun h74 => (by exfalso; omega))
                  refine st_iload rfl rfl ?_
                  refine st_if_eq rfl (fun h77 => (by exfalso; omega)) (fun h77 => ?_)
                  refine st_aload_n rfl rfl (by decide) ?_
                  refine st_dup rfl rfl ?_
                  refine st_getI (kk := 6) rfl rfl (by decide) rfl ?_
                  rw [pH_6]
                  refine st_iconst rfl ?_
                  refine st_iadd rfl (by omega) ?_
                  refine st_putI (kk := 6) rfl rfl rfl rfl ?_
                  first
                  | rw [pH_u6]
                  | skip
                  refine st_aload_n rfl rfl (by decide) ?_
                  refine st_iload_n rfl rfl ?_
                  refine st_iload rfl rfl ?_
                  refine st_cvC (w := []) rfl rfl rfl (Nat.le_of_ble_eq_true rfl) (Nat.le_of_ble_eq_true rfl) rfl rfl (c_Model_nextPart (b := (txF (hbF H) (H 53 5) j).kd) (bl := 1) hP (by omega) hz (by omega)) ?_
                  rintro v σ' ⟨K', V', G', C', e1, e2, e3, e4⟩
                  subst e1
                  subst e2
                  have hnp := npF_r (hbF H) ((txF (hbF H) (H 53 5) j).pos + 1) (txF (hbF H) (H 53 5) j).kd 1
                  have eT : (txF (hbF H) (H 53 5) (j + 1)) = npF (hbF H) ((txF (hbF H) (H 53 5) j).pos + 1) (txF (hbF H) (H 53 5) j).kd 1 := by
                    simp only [txF]
                    rw [if_pos h1, if_neg h31, if_pos ⟨by omega, by exact Or.inr hbl⟩]
                    rw [if_pos hbl]
                  rw [← eT] at hnp e4
                  rw [← eT]
                  show am_WP _ _ _ _ _ [am_i (txF (hbF H) (H 53 5) (j + 1)).ok] _
                  refine st_istore_n (ls' := [_, _, _, _, _]) rfl (Nat.le_of_ble_eq_true rfl) rfl ?_
                  refine st_goto rfl ?_
                  refine ih (j + 1) (by omega) K' V' G' C' (fun i qi => ?_) e4 hnp.2 _ _ _
                  have e3i := e3 (i : Int) (by omega)
                  rw [e3i.1, e3i.2.1, e3i.2.2.1, e3i.2.2.2]
                  by_cases q2 : i < j
                  · exact hA i q2
                  · rw [show i = j by omega]
                    exact ⟨h1, hB h1⟩
          · refine st_aload_n rfl rfl (by decide) ?_
            refine st_cv1 (w := []) rfl rfl rfl (Nat.le_of_ble_eq_true rfl) (Nat.le_of_ble_eq_true rfl) rfl rfl (r_Model_here hP (by rw [pH_6]; omega) (by rw [pH_k _ _ _ _ _ _ _ (by omega) (by omega)]; exact hz)) ?_
            rw [pH_h]
            refine st_bipush rfl ?_
            refine st_icmp_ne rfl (fun h45 => ?_) (fun h45 => ?_)
            · refine st_iconst rfl ?_
              first
              | (have hjd : jdF (hbF H) (txF (hbF H) (H 53 5) j) := Or.inl ⟨by omega, by assumption⟩)
              | (have hjd : jdF (hbF H) (txF (hbF H) (H 53 5) j) := Or.inr ⟨by omega, by omega⟩)
              | (have hjd : ¬ (jdF (hbF H) (txF (hbF H) (H 53 5) j)) := fun q => by rcases q with q | q <;> (have q1 := q.1; have q2 := q.2; omega))
              refine st_istore_n (ls' := [_, _, _, _, _]) rfl (Nat.le_of_ble_eq_true rfl) rfl ?_
              refine st_aload_n rfl rfl (by decide) ?_
              refine st_cv1 (w := []) rfl rfl rfl (Nat.le_of_ble_eq_true rfl) (Nat.le_of_ble_eq_true rfl) rfl rfl (r_Model_here hP (by rw [pH_6]; omega) (by rw [pH_k _ _ _ _ _ _ _ (by omega) (by omega)]; exact hz)) ?_
              rw [pH_h]
              refine st_bipush rfl ?_
              refine st_icmp_ne rfl (fun h53 => ?_) (fun h53 => ?_)
              · refine st_iconst rfl ?_
                first
                | (have hbl : blF (hbF H) (txF (hbF H) (H 53 5) j) := ⟨by omega, by omega⟩)
                | (have hbl : ¬ (blF (hbF H) (txF (hbF H) (H 53 5) j)) := fun q => by have q1 := q.1; have q2 := q.2; omega)
                refine st_istore (ls' := [_, _, _, _, _]) rfl (Nat.le_of_ble_eq_true rfl) rfl ?_
                refine st_aload_n rfl rfl (by decide) ?_
                refine st_getI (kk := 7) rfl rfl (by decide) rfl ?_
                rw [pH_7]
                refine st_bipush rfl ?_
                refine st_icmp_ge rfl (fun h64 => ?_) (fun h64 => ?_)
                · have hno : ¬ ((j : Int) + 1 < 8 ∧ (jdF (hbF H) (txF (hbF H) (H 53 5) j) ∨ blF (hbF H) (txF (hbF H) (H 53 5) j))) := by
                    rintro ⟨q1, q2⟩
                    first
                    | omega
                    | (rcases q2 with q2 | q2
                       · exact hjd q2
                       · exact hbl q2)
                  refine st_iconst rfl ?_
                  refine st_istore_n (ls' := [_, _, _, _, _]) rfl (Nat.le_of_ble_eq_true rfl) rfl ?_
                  refine st_iload_n rfl rfl ?_
                  refine st_if_ne rfl (fun h74 => (by exfalso; omega)) (fun h74 => ?_)
                  refine st_goto rfl ?_
                  refine st_iload_n rfl rfl ?_
                  refine st_if_eq rfl (fun h14 => ?_) (fun h14 => (by exfalso; omega))
                  refine st_iconst rfl ?_
                  refine st_iret rfl (fun z => by first | exact absurd z (by decide) | exact bi_01 _ | decide | omega) ?_
                  have e1 : (txF (hbF H) (H 53 5) (j + 1)) = ⟨0, (txF (hbF H) (H 53 5) j).pos, 0, 0, 0, 0⟩ := by
                    simp only [txF]
                    rw [if_pos h1, if_neg h31, if_neg hno]
                  have e8 : (txF (hbF H) (H 53 5) 8) = (txF (hbF H) (H 53 5) (j + 1)) := by
                    have := txF_s (hbF H) (H 53 5) (j := j + 1) (by rw [e1]; show (0 : Int) ≠ 1; decide) (8 - (j + 1))
                    rw [show j + 1 + (8 - (j + 1)) = 8 by omega] at this
                    exact this
                  rw [e1] at e8
                  refine ⟨j + 1, K, V, G, C, ?_, ?_, fun q => ?_⟩
                  · rw [e8]; rfl
                  · rw [e8, bi_f (show ¬ (0 : Int) = 2 by decide)]
                  · rw [e8] at q; exact absurd (show (0 : Int) = 2 from q) (by decide)
                · refine st_iload_n rfl rfl ?_
                  refine st_if_ne rfl (fun h66 => (by exfalso; omega)) (fun h66 => ?_)
                  refine st_iload rfl rfl ?_
                  refine st_if_eq rfl (fun h68 => ?_) (fun h68 => (by exfalso; omega))
                  have hno : ¬ ((j : Int) + 1 < 8 ∧ (jdF (hbF H) (txF (hbF H) (H 53 5) j) ∨ blF (hbF H) (txF (hbF H) (H 53 5) j))) := by
                    rintro ⟨q1, q2⟩
                    first
                    | omega
                    | (rcases q2 with q2 | q2
                       · exact hjd q2
                       · exact hbl q2)
                  refine st_iconst rfl ?_
                  refine st_istore_n (ls' := [_, _, _, _, _]) rfl (Nat.le_of_ble_eq_true rfl) rfl ?_
                  refine st_iload_n rfl rfl ?_
                  refine st_if_ne rfl (fun h74 => (by exfalso; omega)) (fun h74 => ?_)
                  refine st_goto rfl ?_
                  refine st_iload_n rfl rfl ?_
                  refine st_if_eq rfl (fun h14 => ?_) (fun h14 => (by exfalso; omega))
                  refine st_iconst rfl ?_
                  refine st_iret rfl (fun z => by first | exact absurd z (by decide) | exact bi_01 _ | decide | omega) ?_
                  have e1 : (txF (hbF H) (H 53 5) (j + 1)) = ⟨0, (txF (hbF H) (H 53 5) j).pos, 0, 0, 0, 0⟩ := by
                    simp only [txF]
                    rw [if_pos h1, if_neg h31, if_neg hno]
                  have e8 : (txF (hbF H) (H 53 5) 8) = (txF (hbF H) (H 53 5) (j + 1)) := by
                    have := txF_s (hbF H) (H 53 5) (j := j + 1) (by rw [e1]; show (0 : Int) ≠ 1; decide) (8 - (j + 1))
                    rw [show j + 1 + (8 - (j + 1)) = 8 by omega] at this
                    exact this
                  rw [e1] at e8
                  refine ⟨j + 1, K, V, G, C, ?_, ?_, fun q => ?_⟩
                  · rw [e8]; rfl
                  · rw [e8, bi_f (show ¬ (0 : Int) = 2 by decide)]
                  · rw [e8] at q; exact absurd (show (0 : Int) = 2 from q) (by decide)
              · refine st_iload_n rfl rfl ?_
                refine st_bipush rfl ?_
                refine st_icmp_eq rfl (fun h56 => (by exfalso; omega)) (fun h56 => ?_)
                refine st_iconst rfl ?_
                refine st_goto rfl ?_
                first
                | (have hbl : blF (hbF H) (txF (hbF H) (H 53 5) j) := ⟨by omega, by omega⟩)
                | (have hbl : ¬ (blF (hbF H) (txF (hbF H) (H 53 5) j)) := fun q => by have q1 := q.1; have q2 := q.2; omega)
                refine st_istore (ls' := [_, _, _, _, _]) rfl (Nat.le_of_ble_eq_true rfl) rfl ?_
                refine st_aload_n rfl rfl (by decide) ?_
                refine st_getI (kk := 7) rfl rfl (by decide) rfl ?_
                rw [pH_7]
                refine st_bipush rfl ?_
                refine st_icmp_ge rfl (fun h64 => ?_) (fun h64 => ?_)
                · have hno : ¬ ((j : Int) + 1 < 8 ∧ (jdF (hbF H) (txF (hbF H) (H 53 5) j) ∨ blF (hbF H) (txF (hbF H) (H 53 5) j))) := by
                    rintro ⟨q1, q2⟩
                    first
                    | omega
                    | (rcases q2 with q2 | q2
                       · exact hjd q2
                       · exact hbl q2)
                  refine st_iconst rfl ?_
                  refine st_istore_n (ls' := [_, _, _, _, _]) rfl (Nat.le_of_ble_eq_true rfl) rfl ?_
                  refine st_iload_n rfl rfl ?_
                  refine st_if_ne rfl (fun h74 => (by exfalso; omega)) (fun h74 => ?_)
                  refine st_goto rfl ?_
                  refine st_iload_n rfl rfl ?_
                  refine st_if_eq rfl (fun h14 => ?_) (fun h14 => (by exfalso; omega))
                  refine st_iconst rfl ?_
                  refine st_iret rfl (fun z => by first | exact absurd z (by decide) | exact bi_01 _ | decide | omega) ?_
                  have e1 : (txF (hbF H) (H 53 5) (j + 1)) = ⟨0, (txF (hbF H) (H 53 5) j).pos, 0, 0, 0, 0⟩ := by
                    simp only [txF]
                    rw [if_pos h1, if_neg h31, if_neg hno]
                  have e8 : (txF (hbF H) (H 53 5) 8) = (txF (hbF H) (H 53 5) (j + 1)) := by
                    have := txF_s (hbF H) (H 53 5) (j := j + 1) (by rw [e1]; show (0 : Int) ≠ 1; decide) (8 - (j + 1))
                    rw [show j + 1 + (8 - (j + 1)) = 8 by omega] at this
                    exact this
                  rw [e1] at e8
                  refine ⟨j + 1, K, V, G, C, ?_, ?_, fun q => ?_⟩
                  · rw [e8]; rfl
                  · rw [e8, bi_f (show ¬ (0 : Int) = 2 by decide)]
                  · rw [e8] at q; exact absurd (show (0 : Int) = 2 from q) (by decide)
                · refine st_iload_n rfl rfl ?_
                  refine st_if_ne rfl (fun h66 => (by exfalso; omega)) (fun h66 => ?_)
                  refine st_iload rfl rfl ?_
                  refine st_if_eq rfl (fun h68 => (by exfalso; omega)) (fun h68 => ?_)
                  refine st_iconst rfl ?_
                  refine st_goto rfl ?_
                  refine st_istore_n (ls' := [_, _, _, _, _]) rfl (Nat.le_of_ble_eq_true rfl) rfl ?_
                  refine st_iload_n rfl rfl ?_
                  refine st_if_ne rfl (fun h74 => ?_) (fun h74 => (by exfalso; omega))
                  refine st_iload rfl rfl ?_
                  refine st_if_eq rfl (fun h77 => (by exfalso; omega)) (fun h77 => ?_)
                  refine st_aload_n rfl rfl (by decide) ?_
                  refine st_dup rfl rfl ?_
                  refine st_getI (kk := 6) rfl rfl (by decide) rfl ?_
                  rw [pH_6]
                  refine st_iconst rfl ?_
                  refine st_iadd rfl (by omega) ?_
                  refine st_putI (kk := 6) rfl rfl rfl rfl ?_
                  first
                  | rw [pH_u6]
                  | skip
                  refine st_aload_n rfl rfl (by decide) ?_
                  refine st_iload_n rfl rfl ?_
                  refine st_iload rfl rfl ?_
                  refine st_cvC (w := []) rfl rfl rfl (Nat.le_of_ble_eq_true rfl) (Nat.le_of_ble_eq_true rfl) rfl rfl (c_Model_nextPart (b := (txF (hbF H) (H 53 5) j).kd) (bl := 1) hP (by omega) hz (by omega)) ?_
                  rintro v σ' ⟨K', V', G', C', e1, e2, e3, e4⟩
                  subst e1
                  subst e2
                  have hnp := npF_r (hbF H) ((txF (hbF H) (H 53 5) j).pos + 1) (txF (hbF H) (H 53 5) j).kd 1
                  have eT : (txF (hbF H) (H 53 5) (j + 1)) = npF (hbF H) ((txF (hbF H) (H 53 5) j).pos + 1) (txF (hbF H) (H 53 5) j).kd 1 := by
                    simp only [txF]
                    rw [if_pos h1, if_neg h31, if_pos ⟨by omega, by exact Or.inr hbl⟩]
                    rw [if_pos hbl]
                  rw [← eT] at hnp e4
                  rw [← eT]
                  show am_WP _ _ _ _ _ [am_i (txF (hbF H) (H 53 5) (j + 1)).ok] _
                  refine st_istore_n (ls' := [_, _, _, _, _]) rfl (Nat.le_of_ble_eq_true rfl) rfl ?_
                  refine st_goto rfl ?_
                  refine ih (j + 1) (by omega) K' V' G' C' (fun i qi => ?_) e4 hnp.2 _ _ _
                  have e3i := e3 (i : Int) (by omega)
                  rw [e3i.1, e3i.2.1, e3i.2.2.1, e3i.2.2.2]
                  by_cases q2 : i < j
                  · exact hA i q2
                  · rw [show i = j by omega]
                    exact ⟨h1, hB h1⟩
            · refine st_iconst rfl ?_
              refine st_goto rfl ?_
              first
              | (have hjd : jdF (hbF H) (txF (hbF H) (H 53 5) j) := Or.inl ⟨by omega, by assumption⟩)
              | (have hjd : jdF (hbF H) (txF (hbF H) (H 53 5) j) := Or.inr ⟨by omega, by omega⟩)
              | (have hjd : ¬ (jdF (hbF H) (txF (hbF H) (H 53 5) j)) := fun q => by rcases q with q | q <;> (have q1 := q.1; have q2 := q.2; omega))
              refine st_istore_n (ls' := [_, _, _, _, _]) rfl (Nat.le_of_ble_eq_true rfl) rfl ?_
              refine st_aload_n rfl rfl (by decide) ?_
              refine st_cv1 (w := []) rfl rfl rfl (Nat.le_of_ble_eq_true rfl) (Nat.le_of_ble_eq_true rfl) rfl rfl (r_Model_here hP (by rw [pH_6]; omega) (by rw [pH_k _ _ _ _ _ _ _ (by omega) (by omega)]; exact hz)) ?_
              rw [pH_h]
              refine st_bipush rfl ?_
              refine st_icmp_ne rfl (fun h53 => ?_) (fun h53 => ?_)
              · refine st_iconst rfl ?_
                first
                | (have hbl : blF (hbF H) (txF (hbF H) (H 53 5) j) := ⟨by omega, by omega⟩)
                | (have hbl : ¬ (blF (hbF H) (txF (hbF H) (H 53 5) j)) := fun q => by have q1 := q.1; have q2 := q.2; omega)
                refine st_istore (ls' := [_, _, _, _, _]) rfl (Nat.le_of_ble_eq_true rfl) rfl ?_
                refine st_aload_n rfl rfl (by decide) ?_
                refine st_getI (kk := 7) rfl rfl (by decide) rfl ?_
                rw [pH_7]
                refine st_bipush rfl ?_
                refine st_icmp_ge rfl (fun h64 => ?_) (fun h64 => ?_)
                · have hno : ¬ ((j : Int) + 1 < 8 ∧ (jdF (hbF H) (txF (hbF H) (H 53 5) j) ∨ blF (hbF H) (txF (hbF H) (H 53 5) j))) := by
                    rintro ⟨q1, q2⟩
                    first
                    | omega
                    | (rcases q2 with q2 | q2
                       · exact hjd q2
                       · exact hbl q2)
                  refine st_iconst rfl ?_
                  refine st_istore_n (ls' := [_, _, _, _, _]) rfl (Nat.le_of_ble_eq_true rfl) rfl ?_
                  refine st_iload_n rfl rfl ?_
                  refine st_if_ne rfl (fun h74 => (by exfalso; omega)) (fun h74 => ?_)
                  refine st_goto rfl ?_
                  refine st_iload_n rfl rfl ?_
                  refine st_if_eq rfl (fun h14 => ?_) (fun h14 => (by exfalso; omega))
                  refine st_iconst rfl ?_
                  refine st_iret rfl (fun z => by first | exact absurd z (by decide) | exact bi_01 _ | decide | omega) ?_
                  have e1 : (txF (hbF H) (H 53 5) (j + 1)) = ⟨0, (txF (hbF H) (H 53 5) j).pos, 0, 0, 0, 0⟩ := by
                    simp only [txF]
                    rw [if_pos h1, if_neg h31, if_neg hno]
                  have e8 : (txF (hbF H) (H 53 5) 8) = (txF (hbF H) (H 53 5) (j + 1)) := by
                    have := txF_s (hbF H) (H 53 5) (j := j + 1) (by rw [e1]; show (0 : Int) ≠ 1; decide) (8 - (j + 1))
                    rw [show j + 1 + (8 - (j + 1)) = 8 by omega] at this
                    exact this
                  rw [e1] at e8
                  refine ⟨j + 1, K, V, G, C, ?_, ?_, fun q => ?_⟩
                  · rw [e8]; rfl
                  · rw [e8, bi_f (show ¬ (0 : Int) = 2 by decide)]
                  · rw [e8] at q; exact absurd (show (0 : Int) = 2 from q) (by decide)
                · refine st_iload_n rfl rfl ?_
                  refine st_if_ne rfl (fun h66 => ?_) (fun h66 => (by exfalso; omega))
                  refine st_iconst rfl ?_
                  refine st_goto rfl ?_
                  refine st_istore_n (ls' := [_, _, _, _, _]) rfl (Nat.le_of_ble_eq_true rfl) rfl ?_
                  refine st_iload_n rfl rfl ?_
                  refine st_if_ne rfl (fun h74 => ?_) (fun h74 => (by exfalso; omega))
                  refine st_iload rfl rfl ?_
                  refine st_if_eq rfl (fun h77 => ?_) (fun h77 => (by exfalso; omega))
                  first
                  | rw [pH_u6]
                  | skip
                  refine st_aload_n rfl rfl (by decide) ?_
                  refine st_iload_n rfl rfl ?_
                  refine st_iload rfl rfl ?_
                  refine st_cvC (w := []) rfl rfl rfl (Nat.le_of_ble_eq_true rfl) (Nat.le_of_ble_eq_true rfl) rfl rfl (c_Model_nextPart (b := (txF (hbF H) (H 53 5) j).kd) (bl := 0) hP (by omega) hz (by omega)) ?_
                  rintro v σ' ⟨K', V', G', C', e1, e2, e3, e4⟩
                  subst e1
                  subst e2
                  have hnp := npF_r (hbF H) (txF (hbF H) (H 53 5) j).pos (txF (hbF H) (H 53 5) j).kd 0
                  have eT : (txF (hbF H) (H 53 5) (j + 1)) = npF (hbF H) (txF (hbF H) (H 53 5) j).pos (txF (hbF H) (H 53 5) j).kd 0 := by
                    simp only [txF]
                    rw [if_pos h1, if_neg h31, if_pos ⟨by omega, by exact Or.inl hjd⟩]
                    rw [if_neg hbl, Int.add_zero]
                  rw [← eT] at hnp e4
                  rw [← eT]
                  show am_WP _ _ _ _ _ [am_i (txF (hbF H) (H 53 5) (j + 1)).ok] _
                  refine st_istore_n (ls' := [_, _, _, _, _]) rfl (Nat.le_of_ble_eq_true rfl) rfl ?_
                  refine st_goto rfl ?_
                  refine ih (j + 1) (by omega) K' V' G' C' (fun i qi => ?_) e4 hnp.2 _ _ _
                  have e3i := e3 (i : Int) (by omega)
                  rw [e3i.1, e3i.2.1, e3i.2.2.1, e3i.2.2.2]
                  by_cases q2 : i < j
                  · exact hA i q2
                  · rw [show i = j by omega]
                    exact ⟨h1, hB h1⟩
              · refine st_iload_n rfl rfl ?_
                refine st_bipush rfl ?_
                refine st_icmp_eq rfl (fun h56 => (by exfalso; omega)) (fun h56 => ?_)
                refine st_iconst rfl ?_
                refine st_goto rfl ?_
                first
                | (have hbl : blF (hbF H) (txF (hbF H) (H 53 5) j) := ⟨by omega, by omega⟩)
                | (have hbl : ¬ (blF (hbF H) (txF (hbF H) (H 53 5) j)) := fun q => by have q1 := q.1; have q2 := q.2; omega)
                refine st_istore (ls' := [_, _, _, _, _]) rfl (Nat.le_of_ble_eq_true rfl) rfl ?_
                refine st_aload_n rfl rfl (by decide) ?_
                refine st_getI (kk := 7) rfl rfl (by decide) rfl ?_
                rw [pH_7]
                refine st_bipush rfl ?_
                refine st_icmp_ge rfl (fun h64 => ?_) (fun h64 => ?_)
                · have hno : ¬ ((j : Int) + 1 < 8 ∧ (jdF (hbF H) (txF (hbF H) (H 53 5) j) ∨ blF (hbF H) (txF (hbF H) (H 53 5) j))) := by
                    rintro ⟨q1, q2⟩
                    first
                    | omega
                    | (rcases q2 with q2 | q2
                       · exact hjd q2
                       · exact hbl q2)
                  refine st_iconst rfl ?_
                  refine st_istore_n (ls' := [_, _, _, _, _]) rfl (Nat.le_of_ble_eq_true rfl) rfl ?_
                  refine st_iload_n rfl rfl ?_
                  refine st_if_ne rfl (fun h74 => (by exfalso; omega)) (fun h74 => ?_)
                  refine st_goto rfl ?_
                  refine st_iload_n rfl rfl ?_
                  refine st_if_eq rfl (fun h14 => ?_) (fun h14 => (by exfalso; omega))
                  refine st_iconst rfl ?_
                  refine st_iret rfl (fun z => by first | exact absurd z (by decide) | exact bi_01 _ | decide | omega) ?_
                  have e1 : (txF (hbF H) (H 53 5) (j + 1)) = ⟨0, (txF (hbF H) (H 53 5) j).pos, 0, 0, 0, 0⟩ := by
                    simp only [txF]
                    rw [if_pos h1, if_neg h31, if_neg hno]
                  have e8 : (txF (hbF H) (H 53 5) 8) = (txF (hbF H) (H 53 5) (j + 1)) := by
                    have := txF_s (hbF H) (H 53 5) (j := j + 1) (by rw [e1]; show (0 : Int) ≠ 1; decide) (8 - (j + 1))
                    rw [show j + 1 + (8 - (j + 1)) = 8 by omega] at this
                    exact this
                  rw [e1] at e8
                  refine ⟨j + 1, K, V, G, C, ?_, ?_, fun q => ?_⟩
                  · rw [e8]; rfl
                  · rw [e8, bi_f (show ¬ (0 : Int) = 2 by decide)]
                  · rw [e8] at q; exact absurd (show (0 : Int) = 2 from q) (by decide)
                · refine st_iload_n rfl rfl ?_
                  refine st_if_ne rfl (fun h66 => ?_) (fun h66 => (by exfalso; omega))
                  refine st_iconst rfl ?_
                  refine st_goto rfl ?_
                  refine st_istore_n (ls' := [_, _, _, _, _]) rfl (Nat.le_of_ble_eq_true rfl) rfl ?_
                  refine st_iload_n rfl rfl ?_
                  refine st_if_ne rfl (fun h74 => ?_) (fun h74 => (by exfalso; omega))
                  refine st_iload rfl rfl ?_
                  refine st_if_eq rfl (fun h77 => (by exfalso; omega)) (fun h77 => ?_)
                  refine st_aload_n rfl rfl (by decide) ?_
                  refine st_dup rfl rfl ?_
                  refine st_getI (kk := 6) rfl rfl (by decide) rfl ?_
                  rw [pH_6]
                  refine st_iconst rfl ?_
                  refine st_iadd rfl (by omega) ?_
                  refine st_putI (kk := 6) rfl rfl rfl rfl ?_
                  first
                  | rw [pH_u6]
                  | skip
                  refine st_aload_n rfl rfl (by decide) ?_
                  refine st_iload_n rfl rfl ?_
                  refine st_iload rfl rfl ?_
                  refine st_cvC (w := []) rfl rfl rfl (Nat.le_of_ble_eq_true rfl) (Nat.le_of_ble_eq_true rfl) rfl rfl (c_Model_nextPart (b := (txF (hbF H) (H 53 5) j).kd) (bl := 1) hP (by omega) hz (by omega)) ?_
                  rintro v σ' ⟨K', V', G', C', e1, e2, e3, e4⟩
                  subst e1
                  subst e2
                  have hnp := npF_r (hbF H) ((txF (hbF H) (H 53 5) j).pos + 1) (txF (hbF H) (H 53 5) j).kd 1
                  have eT : (txF (hbF H) (H 53 5) (j + 1)) = npF (hbF H) ((txF (hbF H) (H 53 5) j).pos + 1) (txF (hbF H) (H 53 5) j).kd 1 := by
                    simp only [txF]
                    rw [if_pos h1, if_neg h31, if_pos ⟨by omega, by exact Or.inr hbl⟩]
                    rw [if_pos hbl]
                  rw [← eT] at hnp e4
                  rw [← eT]
                  show am_WP _ _ _ _ _ [am_i (txF (hbF H) (H 53 5) (j + 1)).ok] _
                  refine st_istore_n (ls' := [_, _, _, _, _]) rfl (Nat.le_of_ble_eq_true rfl) rfl ?_
                  refine st_goto rfl ?_
                  refine ih (j + 1) (by omega) K' V' G' C' (fun i qi => ?_) e4 hnp.2 _ _ _
                  have e3i := e3 (i : Int) (by omega)
                  rw [e3i.1, e3i.2.1, e3i.2.2.1, e3i.2.2.2]
                  by_cases q2 : i < j
                  · exact hA i q2
                  · rw [show i = j by omega]
                    exact ⟨h1, hB h1⟩
        · refine st_aload_n rfl rfl (by decide) ?_
          refine st_cv1 (w := []) rfl rfl rfl (Nat.le_of_ble_eq_true rfl) (Nat.le_of_ble_eq_true rfl) rfl rfl (r_Model_isDigit hP (by rw [pH_6]; omega) (by rw [pH_k _ _ _ _ _ _ _ (by omega) (by omega)]; exact hz)) ?_
          rw [pH_h]
          refine st_if_ne_b rfl (fun h38 => ?_) (fun h38 => ?_)
          · refine st_iconst rfl ?_
            refine st_goto rfl ?_
            first
            | (have hjd : jdF (hbF H) (txF (hbF H) (H 53 5) j) := Or.inl ⟨by omega, by assumption⟩)
            | (have hjd : jdF (hbF H) (txF (hbF H) (H 53 5) j) := Or.inr ⟨by omega, by omega⟩)
            | (have hjd : ¬ (jdF (hbF H) (txF (hbF H) (H 53 5) j)) := fun q => by rcases q with q | q <;> (have q1 := q.1; have q2 := q.2; omega))
            refine st_istore_n (ls' := [_, _, _, _, _]) rfl (Nat.le_of_ble_eq_true rfl) rfl ?_
            refine st_aload_n rfl rfl (by decide) ?_
            refine st_cv1 (w := []) rfl rfl rfl (Nat.le_of_ble_eq_true rfl) (Nat.le_of_ble_eq_true rfl) rfl rfl (r_Model_here hP (by rw [pH_6]; omega) (by rw [pH_k _ _ _ _ _ _ _ (by omega) (by omega)]; exact hz)) ?_
            rw [pH_h]
            refine st_bipush rfl ?_
            refine st_icmp_ne rfl (fun h53 => ?_) (fun h53 => ?_)
            · refine st_iconst rfl ?_
              first
              | (have hbl : blF (hbF H) (txF (hbF H) (H 53 5) j) := ⟨by omega, by omega⟩)
              | (have hbl : ¬ (blF (hbF H) (txF (hbF H) (H 53 5) j)) := fun q => by have q1 := q.1; have q2 := q.2; omega)
              refine st_istore (ls' := [_, _, _, _, _]) rfl (Nat.le_of_ble_eq_true rfl) rfl ?_
              refine st_aload_n rfl rfl (by decide) ?_
              refine st_getI (kk := 7) rfl rfl (by decide) rfl ?_
              rw [pH_7]
              refine st_bipush rfl ?_
              refine st_icmp_ge rfl (fun h64 => ?_) (fun h64 => ?_)
              · have hno : ¬ ((j : Int) + 1 < 8 ∧ (jdF (hbF H) (txF (hbF H) (H 53 5) j) ∨ blF (hbF H) (txF (hbF H) (H 53 5) j))) := by
                  rintro ⟨q1, q2⟩
                  first
                  | omega
                  | (rcases q2 with q2 | q2
                     · exact hjd q2
                     · exact hbl q2)
                refine st_iconst rfl ?_
                refine st_istore_n (ls' := [_, _, _, _, _]) rfl (Nat.le_of_ble_eq_true rfl) rfl ?_
                refine st_iload_n rfl rfl ?_
                refine st_if_ne rfl (fun h74 => (by exfalso; omega)) (fun h74 => ?_)
                refine st_goto rfl ?_
                refine st_iload_n rfl rfl ?_
                refine st_if_eq rfl (fun h14 => ?_) (fun h14 => (by exfalso; omega))
                refine st_iconst rfl ?_
                refine st_iret rfl (fun z => by first | exact absurd z (by decide) | exact bi_01 _ | decide | omega) ?_
                have e1 : (txF (hbF H) (H 53 5) (j + 1)) = ⟨0, (txF (hbF H) (H 53 5) j).pos, 0, 0, 0, 0⟩ := by
                  simp only [txF]
                  rw [if_pos h1, if_neg h31, if_neg hno]
                have e8 : (txF (hbF H) (H 53 5) 8) = (txF (hbF H) (H 53 5) (j + 1)) := by
                  have := txF_s (hbF H) (H 53 5) (j := j + 1) (by rw [e1]; show (0 : Int) ≠ 1; decide) (8 - (j + 1))
                  rw [show j + 1 + (8 - (j + 1)) = 8 by omega] at this
                  exact this
                rw [e1] at e8
                refine ⟨j + 1, K, V, G, C, ?_, ?_, fun q => ?_⟩
                · rw [e8]; rfl
                · rw [e8, bi_f (show ¬ (0 : Int) = 2 by decide)]
                · rw [e8] at q; exact absurd (show (0 : Int) = 2 from q) (by decide)
              · refine st_iload_n rfl rfl ?_
                refine st_if_ne rfl (fun h66 => ?_) (fun h66 => (by exfalso; omega))
                refine st_iconst rfl ?_
                refine st_goto rfl ?_
                refine st_istore_n (ls' := [_, _, _, _, _]) rfl (Nat.le_of_ble_eq_true rfl) rfl ?_
                refine st_iload_n rfl rfl ?_
                refine st_if_ne rfl (fun h74 => ?_) (fun h74 => (by exfalso; omega))
                refine st_iload rfl rfl ?_
                refine st_if_eq rfl (fun h77 => ?_) (fun h77 => (by exfalso; omega))
                first
                | rw [pH_u6]
                | skip
                refine st_aload_n rfl rfl (by decide) ?_
                refine st_iload_n rfl rfl ?_
                refine st_iload rfl rfl ?_
                refine st_cvC (w := []) rfl rfl rfl (Nat.le_of_ble_eq_true rfl) (Nat.le_of_ble_eq_true rfl) rfl rfl (c_Model_nextPart (b := (txF (hbF H) (H 53 5) j).kd) (bl := 0) hP (by omega) hz (by omega)) ?_
                rintro v σ' ⟨K', V', G', C', e1, e2, e3, e4⟩
                subst e1
                subst e2
                have hnp := npF_r (hbF H) (txF (hbF H) (H 53 5) j).pos (txF (hbF H) (H 53 5) j).kd 0
                have eT : (txF (hbF H) (H 53 5) (j + 1)) = npF (hbF H) (txF (hbF H) (H 53 5) j).pos (txF (hbF H) (H 53 5) j).kd 0 := by
                  simp only [txF]
                  rw [if_pos h1, if_neg h31, if_pos ⟨by omega, by exact Or.inl hjd⟩]
                  rw [if_neg hbl, Int.add_zero]
                rw [← eT] at hnp e4
                rw [← eT]
                show am_WP _ _ _ _ _ [am_i (txF (hbF H) (H 53 5) (j + 1)).ok] _
                refine st_istore_n (ls' := [_, _, _, _, _]) rfl (Nat.le_of_ble_eq_true rfl) rfl ?_
                refine st_goto rfl ?_
                refine ih (j + 1) (by omega) K' V' G' C' (fun i qi => ?_) e4 hnp.2 _ _ _
                have e3i := e3 (i : Int) (by omega)
                rw [e3i.1, e3i.2.1, e3i.2.2.1, e3i.2.2.2]
                by_cases q2 : i < j
                · exact hA i q2
                · rw [show i = j by omega]
                  exact ⟨h1, hB h1⟩
            · refine st_iload_n rfl rfl ?_
              refine st_bipush rfl ?_
              refine st_icmp_eq rfl (fun h56 => (by exfalso; omega)) (fun h56 => ?_)
              refine st_iconst rfl ?_
              refine st_goto rfl ?_
              first
              | (have hbl : blF (hbF H) (txF (hbF H) (H 53 5) j) := ⟨by omega, by omega⟩)
              | (have hbl : ¬ (blF (hbF H) (txF (hbF H) (H 53 5) j)) := fun q => by have q1 := q.1; have q2 := q.2; omega)
              refine st_istore (ls' := [_, _, _, _, _]) rfl (Nat.le_of_ble_eq_true rfl) rfl ?_
              refine st_aload_n rfl rfl (by decide) ?_
              refine st_getI (kk := 7) rfl rfl (by decide) rfl ?_
              rw [pH_7]
              refine st_bipush rfl ?_
              refine st_icmp_ge rfl (fun h64 => ?_) (fun h64 => ?_)
              · have hno : ¬ ((j : Int) + 1 < 8 ∧ (jdF (hbF H) (txF (hbF H) (H 53 5) j) ∨ blF (hbF H) (txF (hbF H) (H 53 5) j))) := by
                  rintro ⟨q1, q2⟩
                  first
                  | omega
                  | (rcases q2 with q2 | q2
                     · exact hjd q2
                     · exact hbl q2)
                refine st_iconst rfl ?_
                refine st_istore_n (ls' := [_, _, _, _, _]) rfl (Nat.le_of_ble_eq_true rfl) rfl ?_
                refine st_iload_n rfl rfl ?_
                refine st_if_ne rfl (fun h74 => (by exfalso; omega)) (fun h74 => ?_)
                refine st_goto rfl ?_
                refine st_iload_n rfl rfl ?_
                refine st_if_eq rfl (fun h14 => ?_) (fun h14 => (by exfalso; omega))
                refine st_iconst rfl ?_
                refine st_iret rfl (fun z => by first | exact absurd z (by decide) | exact bi_01 _ | decide | omega) ?_
                have e1 : (txF (hbF H) (H 53 5) (j + 1)) = ⟨0, (txF (hbF H) (H 53 5) j).pos, 0, 0, 0, 0⟩ := by
                  simp only [txF]
                  rw [if_pos h1, if_neg h31, if_neg hno]
                have e8 : (txF (hbF H) (H 53 5) 8) = (txF (hbF H) (H 53 5) (j + 1)) := by
                  have := txF_s (hbF H) (H 53 5) (j := j + 1) (by rw [e1]; show (0 : Int) ≠ 1; decide) (8 - (j + 1))
                  rw [show j + 1 + (8 - (j + 1)) = 8 by omega] at this
                  exact this
                rw [e1] at e8
                refine ⟨j + 1, K, V, G, C, ?_, ?_, fun q => ?_⟩
                · rw [e8]; rfl
                · rw [e8, bi_f (show ¬ (0 : Int) = 2 by decide)]
                · rw [e8] at q; exact absurd (show (0 : Int) = 2 from q) (by decide)
              · refine st_iload_n rfl rfl ?_
                refine st_if_ne rfl (fun h66 => ?_) (fun h66 => (by exfalso; omega))
                refine st_iconst rfl ?_
                refine st_goto rfl ?_
                refine st_istore_n (ls' := [_, _, _, _, _]) rfl (Nat.le_of_ble_eq_true rfl) rfl ?_
                refine st_iload_n rfl rfl ?_
                refine st_if_ne rfl (fun h74 => ?_) (fun h74 => (by exfalso; omega))
                refine st_iload rfl rfl ?_
                refine st_if_eq rfl (fun h77 => (by exfalso; omega)) (fun h77 => ?_)
                refine st_aload_n rfl rfl (by decide) ?_
                refine st_dup rfl rfl ?_
                refine st_getI (kk := 6) rfl rfl (by decide) rfl ?_
                rw [pH_6]
                refine st_iconst rfl ?_
                refine st_iadd rfl (by omega) ?_
                refine st_putI (kk := 6) rfl rfl rfl rfl ?_
                first
                | rw [pH_u6]
                | skip
                refine st_aload_n rfl rfl (by decide) ?_
                refine st_iload_n rfl rfl ?_
                refine st_iload rfl rfl ?_
                refine st_cvC (w := []) rfl rfl rfl (Nat.le_of_ble_eq_true rfl) (Nat.le_of_ble_eq_true rfl) rfl rfl (c_Model_nextPart (b := (txF (hbF H) (H 53 5) j).kd) (bl := 1) hP (by omega) hz (by omega)) ?_
                rintro v σ' ⟨K', V', G', C', e1, e2, e3, e4⟩
                subst e1
                subst e2
                have hnp := npF_r (hbF H) ((txF (hbF H) (H 53 5) j).pos + 1) (txF (hbF H) (H 53 5) j).kd 1
                have eT : (txF (hbF H) (H 53 5) (j + 1)) = npF (hbF H) ((txF (hbF H) (H 53 5) j).pos + 1) (txF (hbF H) (H 53 5) j).kd 1 := by
                  simp only [txF]
                  rw [if_pos h1, if_neg h31, if_pos ⟨by omega, by exact Or.inr hbl⟩]
                  rw [if_pos hbl]
                rw [← eT] at hnp e4
                rw [← eT]
                show am_WP _ _ _ _ _ [am_i (txF (hbF H) (H 53 5) (j + 1)).ok] _
                refine st_istore_n (ls' := [_, _, _, _, _]) rfl (Nat.le_of_ble_eq_true rfl) rfl ?_
                refine st_goto rfl ?_
                refine ih (j + 1) (by omega) K' V' G' C' (fun i qi => ?_) e4 hnp.2 _ _ _
                have e3i := e3 (i : Int) (by omega)
                rw [e3i.1, e3i.2.1, e3i.2.2.1, e3i.2.2.2]
                by_cases q2 : i < j
                · exact hA i q2
                · rw [show i = j by omega]
                  exact ⟨h1, hB h1⟩
          · refine st_iload_n rfl rfl ?_
            refine st_iconst rfl ?_
            refine st_icmp_ne rfl (fun h41 => ?_) (fun h41 => (by exfalso; omega))
            refine st_iconst rfl ?_
            first
            | (have hjd : jdF (hbF H) (txF (hbF H) (H 53 5) j) := Or.inl ⟨by omega, by assumption⟩)
            | (have hjd : jdF (hbF H) (txF (hbF H) (H 53 5) j) := Or.inr ⟨by omega, by omega⟩)
            | (have hjd : ¬ (jdF (hbF H) (txF (hbF H) (H 53 5) j)) := fun q => by rcases q with q | q <;> (have q1 := q.1; have q2 := q.2; omega))
            refine st_istore_n (ls' := [_, _, _, _, _]) rfl (Nat.le_of_ble_eq_true rfl) rfl ?_
            refine st_aload_n rfl rfl (by decide) ?_
            refine st_cv1 (w := []) rfl rfl rfl (Nat.le_of_ble_eq_true rfl) (Nat.le_of_ble_eq_true rfl) rfl rfl (r_Model_here hP (by rw [pH_6]; omega) (by rw [pH_k _ _ _ _ _ _ _ (by omega) (by omega)]; exact hz)) ?_
            rw [pH_h]
            refine st_bipush rfl ?_
            refine st_icmp_ne rfl (fun h53 => ?_) (fun h53 => ?_)
            · refine st_iconst rfl ?_
              first
              | (have hbl : blF (hbF H) (txF (hbF H) (H 53 5) j) := ⟨by omega, by omega⟩)
              | (have hbl : ¬ (blF (hbF H) (txF (hbF H) (H 53 5) j)) := fun q => by have q1 := q.1; have q2 := q.2; omega)
              refine st_istore (ls' := [_, _, _, _, _]) rfl (Nat.le_of_ble_eq_true rfl) rfl ?_
              refine st_aload_n rfl rfl (by decide) ?_
              refine st_getI (kk := 7) rfl rfl (by decide) rfl ?_
              rw [pH_7]
              refine st_bipush rfl ?_
              refine st_icmp_ge rfl (fun h64 => ?_) (fun h64 => ?_)
              · have hno : ¬ ((j : Int) + 1 < 8 ∧ (jdF (hbF H) (txF (hbF H) (H 53 5) j) ∨ blF (hbF H) (txF (hbF H) (H 53 5) j))) := by
                  rintro ⟨q1, q2⟩
                  first
                  | omega
                  | (rcases q2 with q2 | q2
                     · exact hjd q2
                     · exact hbl q2)
                refine st_iconst rfl ?_
                refine st_istore_n (ls' := [_, _, _, _, _]) rfl (Nat.le_of_ble_eq_true rfl) rfl ?_
                refine st_iload_n rfl rfl ?_
                refine st_if_ne rfl (fun h74 => (by exfalso; omega)) (fun h74 => ?_)
                refine st_goto rfl ?_
                refine st_iload_n rfl rfl ?_
                refine st_if_eq rfl (fun h14 => ?_) (fun h14 => (by exfalso; omega))
                refine st_iconst rfl ?_
                refine st_iret rfl (fun z => by first | exact absurd z (by decide) | exact bi_01 _ | decide | omega) ?_
                have e1 : (txF (hbF H) (H 53 5) (j + 1)) = ⟨0, (txF (hbF H) (H 53 5) j).pos, 0, 0, 0, 0⟩ := by
                  simp only [txF]
                  rw [if_pos h1, if_neg h31, if_neg hno]
                have e8 : (txF (hbF H) (H 53 5) 8) = (txF (hbF H) (H 53 5) (j + 1)) := by
                  have := txF_s (hbF H) (H 53 5) (j := j + 1) (by rw [e1]; show (0 : Int) ≠ 1; decide) (8 - (j + 1))
                  rw [show j + 1 + (8 - (j + 1)) = 8 by omega] at this
                  exact this
                rw [e1] at e8
                refine ⟨j + 1, K, V, G, C, ?_, ?_, fun q => ?_⟩
                · rw [e8]; rfl
                · rw [e8, bi_f (show ¬ (0 : Int) = 2 by decide)]
                · rw [e8] at q; exact absurd (show (0 : Int) = 2 from q) (by decide)
              · refine st_iload_n rfl rfl ?_
                refine st_if_ne rfl (fun h66 => (by exfalso; omega)) (fun h66 => ?_)
                refine st_iload rfl rfl ?_
                refine st_if_eq rfl (fun h68 => ?_) (fun h68 => (by exfalso; omega))
                have hno : ¬ ((j : Int) + 1 < 8 ∧ (jdF (hbF H) (txF (hbF H) (H 53 5) j) ∨ blF (hbF H) (txF (hbF H) (H 53 5) j))) := by
                  rintro ⟨q1, q2⟩
                  first
                  | omega
                  | (rcases q2 with q2 | q2
                     · exact hjd q2
                     · exact hbl q2)
                refine st_iconst rfl ?_
                refine st_istore_n (ls' := [_, _, _, _, _]) rfl (Nat.le_of_ble_eq_true rfl) rfl ?_
                refine st_iload_n rfl rfl ?_
                refine st_if_ne rfl (fun h74 => (by exfalso; omega)) (fun h74 => ?_)
                refine st_goto rfl ?_
                refine st_iload_n rfl rfl ?_
                refine st_if_eq rfl (fun h14 => ?_) (fun h14 => (by exfalso; omega))
                refine st_iconst rfl ?_
                refine st_iret rfl (fun z => by first | exact absurd z (by decide) | exact bi_01 _ | decide | omega) ?_
                have e1 : (txF (hbF H) (H 53 5) (j + 1)) = ⟨0, (txF (hbF H) (H 53 5) j).pos, 0, 0, 0, 0⟩ := by
                  simp only [txF]
                  rw [if_pos h1, if_neg h31, if_neg hno]
                have e8 : (txF (hbF H) (H 53 5) 8) = (txF (hbF H) (H 53 5) (j + 1)) := by
                  have := txF_s (hbF H) (H 53 5) (j := j + 1) (by rw [e1]; show (0 : Int) ≠ 1; decide) (8 - (j + 1))
                  rw [show j + 1 + (8 - (j + 1)) = 8 by omega] at this
                  exact this
                rw [e1] at e8
                refine ⟨j + 1, K, V, G, C, ?_, ?_, fun q => ?_⟩
                · rw [e8]; rfl
                · rw [e8, bi_f (show ¬ (0 : Int) = 2 by decide)]
                · rw [e8] at q; exact absurd (show (0 : Int) = 2 from q) (by decide)
            · refine st_iload_n rfl rfl ?_
              refine st_bipush rfl ?_
              refine st_icmp_eq rfl (fun h56 => (by exfalso; omega)) (fun h56 => ?_)
              refine st_iconst rfl ?_
              refine st_goto rfl ?_
              first
              | (have hbl : blF (hbF H) (txF (hbF H) (H 53 5) j) := ⟨by omega, by omega⟩)
              | (have hbl : ¬ (blF (hbF H) (txF (hbF H) (H 53 5) j)) := fun q => by have q1 := q.1; have q2 := q.2; omega)
              refine st_istore (ls' := [_, _, _, _, _]) rfl (Nat.le_of_ble_eq_true rfl) rfl ?_
              refine st_aload_n rfl rfl (by decide) ?_
              refine st_getI (kk := 7) rfl rfl (by decide) rfl ?_
              rw [pH_7]
              refine st_bipush rfl ?_
              refine st_icmp_ge rfl (fun h64 => ?_) (fun h64 => ?_)
              · have hno : ¬ ((j : Int) + 1 < 8 ∧ (jdF (hbF H) (txF (hbF H) (H 53 5) j) ∨ blF (hbF H) (txF (hbF H) (H 53 5) j))) := by
                  rintro ⟨q1, q2⟩
                  first
                  | omega
                  | (rcases q2 with q2 | q2
                     · exact hjd q2
                     · exact hbl q2)
                refine st_iconst rfl ?_
                refine st_istore_n (ls' := [_, _, _, _, _]) rfl (Nat.le_of_ble_eq_true rfl) rfl ?_
                refine st_iload_n rfl rfl ?_
                refine st_if_ne rfl (fun h74 => (by exfalso; omega)) (fun h74 => ?_)
                refine st_goto rfl ?_
                refine st_iload_n rfl rfl ?_
                refine st_if_eq rfl (fun h14 => ?_) (fun h14 => (by exfalso; omega))
                refine st_iconst rfl ?_
                refine st_iret rfl (fun z => by first | exact absurd z (by decide) | exact bi_01 _ | decide | omega) ?_
                have e1 : (txF (hbF H) (H 53 5) (j + 1)) = ⟨0, (txF (hbF H) (H 53 5) j).pos, 0, 0, 0, 0⟩ := by
                  simp only [txF]
                  rw [if_pos h1, if_neg h31, if_neg hno]
                have e8 : (txF (hbF H) (H 53 5) 8) = (txF (hbF H) (H 53 5) (j + 1)) := by
                  have := txF_s (hbF H) (H 53 5) (j := j + 1) (by rw [e1]; show (0 : Int) ≠ 1; decide) (8 - (j + 1))
                  rw [show j + 1 + (8 - (j + 1)) = 8 by omega] at this
                  exact this
                rw [e1] at e8
                refine ⟨j + 1, K, V, G, C, ?_, ?_, fun q => ?_⟩
                · rw [e8]; rfl
                · rw [e8, bi_f (show ¬ (0 : Int) = 2 by decide)]
                · rw [e8] at q; exact absurd (show (0 : Int) = 2 from q) (by decide)
              · refine st_iload_n rfl rfl ?_
                refine st_if_ne rfl (fun h66 => (by exfalso; omega)) (fun h66 => ?_)
                refine st_iload rfl rfl ?_
                refine st_if_eq rfl (fun h68 => (by exfalso; omega)) (fun h68 => ?_)
                refine st_iconst rfl ?_
                refine st_goto rfl ?_
                refine st_istore_n (ls' := [_, _, _, _, _]) rfl (Nat.le_of_ble_eq_true rfl) rfl ?_
                refine st_iload_n rfl rfl ?_
                refine st_if_ne rfl (fun h74 => ?_) (fun h74 => (by exfalso; omega))
                refine st_iload rfl rfl ?_
                refine st_if_eq rfl (fun h77 => (by exfalso; omega)) (fun h77 => ?_)
                refine st_aload_n rfl rfl (by decide) ?_
                refine st_dup rfl rfl ?_
                refine st_getI (kk := 6) rfl rfl (by decide) rfl ?_
                rw [pH_6]
                refine st_iconst rfl ?_
                refine st_iadd rfl (by omega) ?_
                refine st_putI (kk := 6) rfl rfl rfl rfl ?_
                first
                | rw [pH_u6]
                | skip
                refine st_aload_n rfl rfl (by decide) ?_
                refine st_iload_n rfl rfl ?_
                refine st_iload rfl rfl ?_
                refine st_cvC (w := []) rfl rfl rfl (Nat.le_of_ble_eq_true rfl) (Nat.le_of_ble_eq_true rfl) rfl rfl (c_Model_nextPart (b := (txF (hbF H) (H 53 5) j).kd) (bl := 1) hP (by omega) hz (by omega)) ?_
                rintro v σ' ⟨K', V', G', C', e1, e2, e3, e4⟩
                subst e1
                subst e2
                have hnp := npF_r (hbF H) ((txF (hbF H) (H 53 5) j).pos + 1) (txF (hbF H) (H 53 5) j).kd 1
                have eT : (txF (hbF H) (H 53 5) (j + 1)) = npF (hbF H) ((txF (hbF H) (H 53 5) j).pos + 1) (txF (hbF H) (H 53 5) j).kd 1 := by
                  simp only [txF]
                  rw [if_pos h1, if_neg h31, if_pos ⟨by omega, by exact Or.inr hbl⟩]
                  rw [if_pos hbl]
                rw [← eT] at hnp e4
                rw [← eT]
                show am_WP _ _ _ _ _ [am_i (txF (hbF H) (H 53 5) (j + 1)).ok] _
                refine st_istore_n (ls' := [_, _, _, _, _]) rfl (Nat.le_of_ble_eq_true rfl) rfl ?_
                refine st_goto rfl ?_
                refine ih (j + 1) (by omega) K' V' G' C' (fun i qi => ?_) e4 hnp.2 _ _ _
                have e3i := e3 (i : Int) (by omega)
                rw [e3i.1, e3i.2.1, e3i.2.2.1, e3i.2.2.2]
                by_cases q2 : i < j
                · exact hA i q2
                · rw [show i = j by omega]
                  exact ⟨h1, hB h1⟩
      · refine st_iconst rfl ?_
        refine st_iret rfl (fun z => by first | exact absurd z (by decide) | exact bi_01 _ | decide | omega) ?_
        have e1 : (txF (hbF H) (H 53 5) (j + 1)) = ⟨2, (txF (hbF H) (H 53 5) j).pos, 0, 0, 0, 0⟩ := by
          simp only [txF]
          rw [if_pos h1, if_pos h31]
        have e8 : (txF (hbF H) (H 53 5) 8) = (txF (hbF H) (H 53 5) (j + 1)) := by
          have := txF_s (hbF H) (H 53 5) (j := j + 1) (by rw [e1]; show (2 : Int) ≠ 1; decide) (8 - (j + 1))
          rw [show j + 1 + (8 - (j + 1)) = 8 by omega] at this
          exact this
        refine ⟨j + 1, K, V, G, C, ?_, ?_, fun q => ⟨by omega, by rw [e1], fun i qi => ?_⟩⟩
        · rw [e8, e1]; rfl
        · rw [e8, e1, bi_t rfl]
        · by_cases q2 : i < j
          · exact hA i q2
          · rw [show i = j by omega]
            exact ⟨h1, hB h1⟩
theorem pH_st (H : am_H) : am_up (am_up H 53 6 0) 53 7 0 = pH H 0 0 (H 57) (H 58) (H 59) (H 60) := by
  funext o
  by_cases h : o = 53
  · subst h; rw [am_up_eq, am_up_eq]; rfl
  · rw [am_up_ne h, am_up_ne h]; unfold pH; rw [if_neg h]
    repeat' split
    all_goals first | rfl | (rename_i q; rw [q])

theorem c_Model_isText {d N : Nat} {P : am_P} {H : am_H} (hP : PZ P) (hz : H 53 5 ≤ 80) : am_C (d + 7) 62 [am_r 53] (N, P, H) (TQ N P H) := by
  refine am_enC (d := d + 6) (ml := 5) (ls := [_, _, _, _, _]) cq_Model_isText rfl (Nat.le_of_ble_eq_true rfl) rfl ?_
  refine st_aload_n rfl rfl (by decide) ?_
  refine st_iconst rfl ?_
  refine st_putI (kk := 6) rfl rfl rfl rfl ?_
  refine st_aload_n rfl rfl (by decide) ?_
  refine st_iconst rfl ?_
  refine st_putI (kk := 7) rfl rfl rfl rfl ?_
  rw [pH_st]
  refine st_iconst rfl ?_
  refine st_istore_n (ls' := [_, _, _, _, _]) rfl (Nat.le_of_ble_eq_true rfl) rfl ?_
  refine st_aload_n rfl rfl (by decide) ?_
  refine st_iconst rfl ?_
  refine st_iconst rfl ?_
  refine st_cvC (w := []) rfl rfl rfl (Nat.le_of_ble_eq_true rfl) (Nat.le_of_ble_eq_true rfl) rfl rfl (c_Model_nextPart (b := -1) (bl := 0) hP (by omega) hz (by omega)) ?_
  rintro v σ' ⟨K', V', G', C', e1, e2, e3, e4⟩
  subst e1
  subst e2
  show am_WP _ _ _ _ _ [am_i (npF (hbF H) 0 (-1) 0).ok] _
  refine st_istore_n (ls' := [_, _, _, _, _]) rfl (Nat.le_of_ble_eq_true rfl) rfl ?_
  exact l_isText hP hz 7 0 rfl K' V' G' C' (fun i q => by omega) e4 (npF_r (hbF H) 0 (-1) 0).2 _ _ _
/-- is mark m these parts *)
-/
def mdL (a : Int → Int) (m : Int) (K V G C : Int → Int) (n : Int) : Nat → Int
  | 0 => if lenF a m = n then 1 else 0
  | k + 1 => if mdL a m K V G C n k ≠ 0 ∧ prtF a m (k : Int) 0 = K (k : Int) ∧ prtF a m (k : Int) 1 = V (k : Int) ∧ prtF a m (k : Int) 2 = G (k : Int) ∧ prtF a m (k : Int) 3 = C (k : Int) then 1 else 0
theorem mdL_01 (a : Int → Int) (m : Int) (K V G C : Int → Int) (n : Int) : ∀ k, mdL a m K V G C n k = 0 ∨ mdL a m K V G C n k = 1
  | 0 => by simp only [mdL]; split <;> simp
  | k + 1 => by simp only [mdL]; split <;> simp

theorem r_Model_isMade {d N : Nat} {P : am_P} {H : am_H} {m : Int} (hP : PZ P) (hm : 0 ≤ m ∧ m < 200) (hq : 0 ≤ H 53 7 ∧ H 53 7 ≤ 8) : am_R (d + 1) 63 [am_r 53, am_i (m)] (N, P, H) (some (am_i (mdL (H 54) m (H 57) (H 58) (H 59) (H 60) (H 53 7) (H 53 7).toNat))) (N, P, H) := by
  refine am_en1 (d := d + 0) (ml := 6) (ls := [_, _, _, _, _, _]) cq_Model_isMade rfl (Nat.le_of_ble_eq_true rfl) rfl ?_
  have e0 : H 54 (70 + 33 * m) = lenF (H 54) m := rfl
  refine st_bipush rfl ?_
  refine st_bipush rfl ?_
  refine st_iload_n rfl rfl ?_
  refine st_imul rfl (by omega) ?_
  refine st_iadd rfl (by omega) ?_
  refine st_istore_n (ls' := [_, _, _, _, _, _]) rfl (Nat.le_of_ble_eq_true rfl) rfl ?_
  refine st_aload_n rfl rfl (by decide) ?_
  refine st_getR (kk := 0) rfl rfl rfl (pz_53_0 hP) rfl ?_
  refine st_iload_n rfl rfl ?_
  refine st_iaload rfl rfl (by omega) (by omega) ?_
  refine st_aload_n rfl rfl (by decide) ?_
  refine st_getI (kk := 7) rfl rfl (by decide) rfl ?_
  refine st_icmp_ne rfl (fun h12 => ?_) (fun h12 => ?_)
  · refine st_iconst rfl ?_
    refine st_istore_n (ls' := [_, _, _, _, _, _]) rfl (Nat.le_of_ble_eq_true rfl) rfl ?_
    refine st_iconst rfl ?_
    refine st_istore (ls' := [_, _, _, _, _, _]) rfl (Nat.le_of_ble_eq_true rfl) rfl ?_
    have hini : mdL (H 54) m (H 57) (H 58) (H 59) (H 60) (H 53 7) 0 = 0 := by
      show (if lenF (H 54) m = H 53 7 then (1 : Int) else 0) = 0
      rw [if_neg (by omega)]
    suffices hlo : ∀ k, k ≤ (H 53 7).toNat → ∀ t, am_WP (am_R (d + 0)) cd_Model_isMade (fun v' s' => v' = some (am_i (mdL (H 54) m (H 57) (H 58) (H 59) (H 60) (H 53 7) (H 53 7).toNat)) ∧ s' = (N, P, H)) 19 [some (am_r 53), some (am_i m), some (am_i (70 + 33 * m)), some (am_i (mdL (H 54) m (H 57) (H 58) (H 59) (H 60) (H 53 7) k)), some (am_i (k : Int)), t] [] (N, P, H) from by
      have h0 := hlo 0 (Nat.zero_le _) none
      rw [hini] at h0
      exact h0
    refine up_ind (n := (H 53 7).toNat) ?_ ?_
    · intro t
      have h01 := mdL_01 (H 54) m (H 57) (H 58) (H 59) (H 60) (H 53 7) (H 53 7).toNat
      refine st_iload rfl rfl ?_
      refine st_aload_n rfl rfl (by decide) ?_
      refine st_getI (kk := 7) rfl rfl (by decide) rfl ?_
      refine st_icmp_ge rfl (fun h22 => ?_) (fun h22 => (by exfalso; omega))
      refine st_iload_n rfl rfl ?_
      refine st_iret rfl (fun z => by first | exact absurd z (by decide) | exact bi_01 _ | decide | omega) ?_
      exact ⟨rfl, rfl⟩
    · intro k hk ihk t
      have h01 := mdL_01 (H 54) m (H 57) (H 58) (H 59) (H 60) (H 53 7) k
      have ep : ∀ w, H 54 (70 + 33 * m + 1 + 4 * (k : Int) + w) = prtF (H 54) m (k : Int) w := fun _ => rfl
      have ep0 : H 54 (70 + 33 * m + 1 + 4 * (k : Int)) = prtF (H 54) m (k : Int) 0 := by rw [← ep]; congr 1; omega
      refine st_iload rfl rfl ?_
      refine st_aload_n rfl rfl (by decide) ?_
      refine st_getI (kk := 7) rfl rfl (by decide) rfl ?_
      refine st_icmp_ge rfl (fun h22 => (by exfalso; omega)) (fun h22 => ?_)
      refine st_iload_n rfl rfl ?_
      refine st_iconst rfl ?_
      refine st_iadd rfl (by omega) ?_
      refine st_iconst rfl ?_
      refine st_iload rfl rfl ?_
      refine st_imul rfl (by omega) ?_
      refine st_iadd rfl (by omega) ?_
      refine st_istore (ls' := [_, _, _, _, _, _]) rfl (Nat.le_of_ble_eq_true rfl) rfl ?_
      refine st_iload_n rfl rfl ?_
      refine st_if_eq rfl (fun h32 => ?_) (fun h32 => ?_)
      · refine st_iconst rfl ?_
        refine st_istore_n (ls' := [_, _, _, _, _, _]) rfl (Nat.le_of_ble_eq_true rfl) rfl ?_
        refine st_iinc (ls' := [_, _, _, _, _, _]) rfl rfl (by omega) rfl ?_
        refine st_goto rfl ?_
        have e1 : mdL (H 54) m (H 57) (H 58) (H 59) (H 60) (H 53 7) (k + 1) = if mdL (H 54) m (H 57) (H 58) (H 59) (H 60) (H 53 7) k ≠ 0 ∧ prtF (H 54) m (k : Int) 0 = H 57 (k : Int) ∧ prtF (H 54) m (k : Int) 1 = H 58 (k : Int) ∧ prtF (H 54) m (k : Int) 2 = H 59 (k : Int) ∧ prtF (H 54) m (k : Int) 3 = H 60 (k : Int) then 1 else 0 := rfl
        have ihk := ihk (some (am_i (70 + 33 * m + 1 + 4 * (k : Int))))
        first
        | (rw [show mdL (H 54) m (H 57) (H 58) (H 59) (H 60) (H 53 7) (k + 1) = 1 by rw [e1, if_pos (by omega)]] at ihk; exact ihk)
        | (rw [show mdL (H 54) m (H 57) (H 58) (H 59) (H 60) (H 53 7) (k + 1) = 0 by rw [e1, if_neg (by omega)]] at ihk; exact ihk)
      · refine st_aload_n rfl rfl (by decide) ?_
        refine st_getR (kk := 0) rfl rfl rfl (pz_53_0 hP) rfl ?_
        refine st_iload rfl rfl ?_
        refine st_iaload rfl rfl (by omega) (by omega) ?_
        rw [ep0]
        refine st_aload_n rfl rfl (by decide) ?_
        refine st_getR (kk := 8) rfl rfl rfl (pz_53_8 hP) rfl ?_
        refine st_iload rfl rfl ?_
        refine st_iaload rfl rfl (by omega) (by omega) ?_
        refine st_icmp_ne rfl (fun h41 => ?_) (fun h41 => ?_)
        · refine st_iconst rfl ?_
          refine st_istore_n (ls' := [_, _, _, _, _, _]) rfl (Nat.le_of_ble_eq_true rfl) rfl ?_
          refine st_iinc (ls' := [_, _, _, _, _, _]) rfl rfl (by omega) rfl ?_
          refine st_goto rfl ?_
          have e1 : mdL (H 54) m (H 57) (H 58) (H 59) (H 60) (H 53 7) (k + 1) = if mdL (H 54) m (H 57) (H 58) (H 59) (H 60) (H 53 7) k ≠ 0 ∧ prtF (H 54) m (k : Int) 0 = H 57 (k : Int) ∧ prtF (H 54) m (k : Int) 1 = H 58 (k : Int) ∧ prtF (H 54) m (k : Int) 2 = H 59 (k : Int) ∧ prtF (H 54) m (k : Int) 3 = H 60 (k : Int) then 1 else 0 := rfl
          have ihk := ihk (some (am_i (70 + 33 * m + 1 + 4 * (k : Int))))
          first
          | (rw [show mdL (H 54) m (H 57) (H 58) (H 59) (H 60) (H 53 7) (k + 1) = 1 by rw [e1, if_pos (by omega)]] at ihk; exact ihk)
          | (rw [show mdL (H 54) m (H 57) (H 58) (H 59) (H 60) (H 53 7) (k + 1) = 0 by rw [e1, if_neg (by omega)]] at ihk; exact ihk)
        · refine st_aload_n rfl rfl (by decide) ?_
          refine st_getR (kk := 0) rfl rfl rfl (pz_53_0 hP) rfl ?_
          refine st_iload rfl rfl ?_
          refine st_iconst rfl ?_
          refine st_iadd rfl (by omega) ?_
          refine st_iaload rfl rfl (by omega) (by omega) ?_
          rw [ep]
          refine st_aload_n rfl rfl (by decide) ?_
          refine st_getR (kk := 9) rfl rfl rfl (pz_53_9 hP) rfl ?_
          refine st_iload rfl rfl ?_
          refine st_iaload rfl rfl (by omega) (by omega) ?_
          refine st_icmp_ne rfl (fun h52 => ?_) (fun h52 => ?_)
          · refine st_iconst rfl ?_
            refine st_istore_n (ls' := [_, _, _, _, _, _]) rfl (Nat.le_of_ble_eq_true rfl) rfl ?_
            refine st_iinc (ls' := [_, _, _, _, _, _]) rfl rfl (by omega) rfl ?_
            refine st_goto rfl ?_
            have e1 : mdL (H 54) m (H 57) (H 58) (H 59) (H 60) (H 53 7) (k + 1) = if mdL (H 54) m (H 57) (H 58) (H 59) (H 60) (H 53 7) k ≠ 0 ∧ prtF (H 54) m (k : Int) 0 = H 57 (k : Int) ∧ prtF (H 54) m (k : Int) 1 = H 58 (k : Int) ∧ prtF (H 54) m (k : Int) 2 = H 59 (k : Int) ∧ prtF (H 54) m (k : Int) 3 = H 60 (k : Int) then 1 else 0 := rfl
            have ihk := ihk (some (am_i (70 + 33 * m + 1 + 4 * (k : Int))))
            first
            | (rw [show mdL (H 54) m (H 57) (H 58) (H 59) (H 60) (H 53 7) (k + 1) = 1 by rw [e1, if_pos (by omega)]] at ihk; exact ihk)
            | (rw [show mdL (H 54) m (H 57) (H 58) (H 59) (H 60) (H 53 7) (k + 1) = 0 by rw [e1, if_neg (by omega)]] at ihk; exact ihk)
          · refine st_aload_n rfl rfl (by decide) ?_
            refine st_getR (kk := 0) rfl rfl rfl (pz_53_0 hP) rfl ?_
            refine st_iload rfl rfl ?_
            refine st_iconst rfl ?_
            refine st_iadd rfl (by omega) ?_
            refine st_iaload rfl rfl (by omega) (by omega) ?_
            rw [ep]
            refine st_aload_n rfl rfl (by decide) ?_
            refine st_getR (kk := 10) rfl rfl rfl (pz_53_10 hP) rfl ?_
            refine st_iload rfl rfl ?_
            refine st_iaload rfl rfl (by omega) (by omega) ?_
            refine st_icmp_ne rfl (fun h63 => ?_) (fun h63 => ?_)
            · refine st_iconst rfl ?_
              refine st_istore_n (ls' := [_, _, _, _, _, _]) rfl (Nat.le_of_ble_eq_true rfl) rfl ?_
              refine st_iinc (ls' := [_, _, _, _, _, _]) rfl rfl (by omega) rfl ?_
              refine st_goto rfl ?_
              have e1 : mdL (H 54) m (H 57) (H 58) (H 59) (H 60) (H 53 7) (k + 1) = if mdL (H 54) m (H 57) (H 58) (H 59) (H 60) (H 53 7) k ≠ 0 ∧ prtF (H 54) m (k : Int) 0 = H 57 (k : Int) ∧ prtF (H 54) m (k : Int) 1 = H 58 (k : Int) ∧ prtF (H 54) m (k : Int) 2 = H 59 (k : Int) ∧ prtF (H 54) m (k : Int) 3 = H 60 (k : Int) then 1 else 0 := rfl
              have ihk := ihk (some (am_i (70 + 33 * m + 1 + 4 * (k : Int))))
              first
              | (rw [show mdL (H 54) m (H 57) (H 58) (H 59) (H 60) (H 53 7) (k + 1) = 1 by rw [e1, if_pos (by omega)]] at ihk; exact ihk)
              | (rw [show mdL (H 54) m (H 57) (H 58) (H 59) (H 60) (H 53 7) (k + 1) = 0 by rw [e1, if_neg (by omega)]] at ihk; exact ihk)
            · refine st_aload_n rfl rfl (by decide) ?_
              refine st_getR (kk := 0) rfl rfl rfl (pz_53_0 hP) rfl ?_
              refine st_iload rfl rfl ?_
              refine st_iconst rfl ?_
              refine st_iadd rfl (by omega) ?_
              refine st_iaload rfl rfl (by omega) (by omega) ?_
              rw [ep]
              refine st_aload_n rfl rfl (by decide) ?_
              refine st_getR (kk := 11) rfl rfl rfl (pz_53_11 hP) rfl ?_
              refine st_iload rfl rfl ?_
              refine st_iaload rfl rfl (by omega) (by omega) ?_
              refine st_icmp_ne rfl (fun h74 => ?_) (fun h74 => ?_)
              · refine st_iconst rfl ?_
                refine st_istore_n (ls' := [_, _, _, _, _, _]) rfl (Nat.le_of_ble_eq_true rfl) rfl ?_
                refine st_iinc (ls' := [_, _, _, _, _, _]) rfl rfl (by omega) rfl ?_
                refine st_goto rfl ?_
                have e1 : mdL (H 54) m (H 57) (H 58) (H 59) (H 60) (H 53 7) (k + 1) = if mdL (H 54) m (H 57) (H 58) (H 59) (H 60) (H 53 7) k ≠ 0 ∧ prtF (H 54) m (k : Int) 0 = H 57 (k : Int) ∧ prtF (H 54) m (k : Int) 1 = H 58 (k : Int) ∧ prtF (H 54) m (k : Int) 2 = H 59 (k : Int) ∧ prtF (H 54) m (k : Int) 3 = H 60 (k : Int) then 1 else 0 := rfl
                have ihk := ihk (some (am_i (70 + 33 * m + 1 + 4 * (k : Int))))
                first
                | (rw [show mdL (H 54) m (H 57) (H 58) (H 59) (H 60) (H 53 7) (k + 1) = 1 by rw [e1, if_pos (by omega)]] at ihk; exact ihk)
                | (rw [show mdL (H 54) m (H 57) (H 58) (H 59) (H 60) (H 53 7) (k + 1) = 0 by rw [e1, if_neg (by omega)]] at ihk; exact ihk)
              · refine st_iconst rfl ?_
                refine st_goto rfl ?_
                refine st_istore_n (ls' := [_, _, _, _, _, _]) rfl (Nat.le_of_ble_eq_true rfl) rfl ?_
                refine st_iinc (ls' := [_, _, _, _, _, _]) rfl rfl (by omega) rfl ?_
                refine st_goto rfl ?_
                have e1 : mdL (H 54) m (H 57) (H 58) (H 59) (H 60) (H 53 7) (k + 1) = if mdL (H 54) m (H 57) (H 58) (H 59) (H 60) (H 53 7) k ≠ 0 ∧ prtF (H 54) m (k : Int) 0 = H 57 (k : Int) ∧ prtF (H 54) m (k : Int) 1 = H 58 (k : Int) ∧ prtF (H 54) m (k : Int) 2 = H 59 (k : Int) ∧ prtF (H 54) m (k : Int) 3 = H 60 (k : Int) then 1 else 0 := rfl
                have ihk := ihk (some (am_i (70 + 33 * m + 1 + 4 * (k : Int))))
                first
                | (rw [show mdL (H 54) m (H 57) (H 58) (H 59) (H 60) (H 53 7) (k + 1) = 1 by rw [e1, if_pos (by omega)]] at ihk; exact ihk)
                | (rw [show mdL (H 54) m (H 57) (H 58) (H 59) (H 60) (H 53 7) (k + 1) = 0 by rw [e1, if_neg (by omega)]] at ihk; exact ihk)
  · refine st_iconst rfl ?_
    refine st_goto rfl ?_
    refine st_istore_n (ls' := [_, _, _, _, _, _]) rfl (Nat.le_of_ble_eq_true rfl) rfl ?_
    refine st_iconst rfl ?_
    refine st_istore (ls' := [_, _, _, _, _, _]) rfl (Nat.le_of_ble_eq_true rfl) rfl ?_
    have hini : mdL (H 54) m (H 57) (H 58) (H 59) (H 60) (H 53 7) 0 = 1 := by
      show (if lenF (H 54) m = H 53 7 then (1 : Int) else 0) = 1
      rw [if_pos (by omega)]
    suffices hlo : ∀ k, k ≤ (H 53 7).toNat → ∀ t, am_WP (am_R (d + 0)) cd_Model_isMade (fun v' s' => v' = some (am_i (mdL (H 54) m (H 57) (H 58) (H 59) (H 60) (H 53 7) (H 53 7).toNat)) ∧ s' = (N, P, H)) 19 [some (am_r 53), some (am_i m), some (am_i (70 + 33 * m)), some (am_i (mdL (H 54) m (H 57) (H 58) (H 59) (H 60) (H 53 7) k)), some (am_i (k : Int)), t] [] (N, P, H) from by
      have h0 := hlo 0 (Nat.zero_le _) none
      rw [hini] at h0
      exact h0
    refine up_ind (n := (H 53 7).toNat) ?_ ?_
    · intro t
      have h01 := mdL_01 (H 54) m (H 57) (H 58) (H 59) (H 60) (H 53 7) (H 53 7).toNat
      refine st_iload rfl rfl ?_
      refine st_aload_n rfl rfl (by decide) ?_
      refine st_getI (kk := 7) rfl rfl (by decide) rfl ?_
      refine st_icmp_ge rfl (fun h22 => ?_) (fun h22 => (by exfalso; omega))
      refine st_iload_n rfl rfl ?_
      refine st_iret rfl (fun z => by first | exact absurd z (by decide) | exact bi_01 _ | decide | omega) ?_
      exact ⟨rfl, rfl⟩
    · intro k hk ihk t
      have h01 := mdL_01 (H 54) m (H 57) (H 58) (H 59) (H 60) (H 53 7) k
      have ep : ∀ w, H 54 (70 + 33 * m + 1 + 4 * (k : Int) + w) = prtF (H 54) m (k : Int) w := fun _ => rfl
      have ep0 : H 54 (70 + 33 * m + 1 + 4 * (k : Int)) = prtF (H 54) m (k : Int) 0 := by rw [← ep]; congr 1; omega
      refine st_iload rfl rfl ?_
      refine st_aload_n rfl rfl (by decide) ?_
      refine st_getI (kk := 7) rfl rfl (by decide) rfl ?_
      refine st_icmp_ge rfl (fun h22 => (by exfalso; omega)) (fun h22 => ?_)
      refine st_iload_n rfl rfl ?_
      refine st_iconst rfl ?_
      refine st_iadd rfl (by omega) ?_
      refine st_iconst rfl ?_
      refine st_iload rfl rfl ?_
      refine st_imul rfl (by omega) ?_
      refine st_iadd rfl (by omega) ?_
      refine st_istore (ls' := [_, _, _, _, _, _]) rfl (Nat.le_of_ble_eq_true rfl) rfl ?_
      refine st_iload_n rfl rfl ?_
      refine st_if_eq rfl (fun h32 => ?_) (fun h32 => ?_)
      · refine st_iconst rfl ?_
        refine st_istore_n (ls' := [_, _, _, _, _, _]) rfl (Nat.le_of_ble_eq_true rfl) rfl ?_
        refine st_iinc (ls' := [_, _, _, _, _, _]) rfl rfl (by omega) rfl ?_
        refine st_goto rfl ?_
        have e1 : mdL (H 54) m (H 57) (H 58) (H 59) (H 60) (H 53 7) (k + 1) = if mdL (H 54) m (H 57) (H 58) (H 59) (H 60) (H 53 7) k ≠ 0 ∧ prtF (H 54) m (k : Int) 0 = H 57 (k : Int) ∧ prtF (H 54) m (k : Int) 1 = H 58 (k : Int) ∧ prtF (H 54) m (k : Int) 2 = H 59 (k : Int) ∧ prtF (H 54) m (k : Int) 3 = H 60 (k : Int) then 1 else 0 := rfl
        have ihk := ihk (some (am_i (70 + 33 * m + 1 + 4 * (k : Int))))
        first
        | (rw [show mdL (H 54) m (H 57) (H 58) (H 59) (H 60) (H 53 7) (k + 1) = 1 by rw [e1, if_pos (by omega)]] at ihk; exact ihk)
        | (rw [show mdL (H 54) m (H 57) (H 58) (H 59) (H 60) (H 53 7) (k + 1) = 0 by rw [e1, if_neg (by omega)]] at ihk; exact ihk)
      · refine st_aload_n rfl rfl (by decide) ?_
        refine st_getR (kk := 0) rfl rfl rfl (pz_53_0 hP) rfl ?_
        refine st_iload rfl rfl ?_
        refine st_iaload rfl rfl (by omega) (by omega) ?_
        rw [ep0]
        refine st_aload_n rfl rfl (by decide) ?_
        refine st_getR (kk := 8) rfl rfl rfl (pz_53_8 hP) rfl ?_
        refine st_iload rfl rfl ?_
        refine st_iaload rfl rfl (by omega) (by omega) ?_
        refine st_icmp_ne rfl (fun h41 => ?_) (fun h41 => ?_)
        · refine st_iconst rfl ?_
          refine st_istore_n (ls' := [_, _, _, _, _, _]) rfl (Nat.le_of_ble_eq_true rfl) rfl ?_
          refine st_iinc (ls' := [_, _, _, _, _, _]) rfl rfl (by omega) rfl ?_
          refine st_goto rfl ?_
          have e1 : mdL (H 54) m (H 57) (H 58) (H 59) (H 60) (H 53 7) (k + 1) = if mdL (H 54) m (H 57) (H 58) (H 59) (H 60) (H 53 7) k ≠ 0 ∧ prtF (H 54) m (k : Int) 0 = H 57 (k : Int) ∧ prtF (H 54) m (k : Int) 1 = H 58 (k : Int) ∧ prtF (H 54) m (k : Int) 2 = H 59 (k : Int) ∧ prtF (H 54) m (k : Int) 3 = H 60 (k : Int) then 1 else 0 := rfl
          have ihk := ihk (some (am_i (70 + 33 * m + 1 + 4 * (k : Int))))
          first
          | (rw [show mdL (H 54) m (H 57) (H 58) (H 59) (H 60) (H 53 7) (k + 1) = 1 by rw [e1, if_pos (by omega)]] at ihk; exact ihk)
          | (rw [show mdL (H 54) m (H 57) (H 58) (H 59) (H 60) (H 53 7) (k + 1) = 0 by rw [e1, if_neg (by omega)]] at ihk; exact ihk)
        · refine st_aload_n rfl rfl (by decide) ?_
          refine st_getR (kk := 0) rfl rfl rfl (pz_53_0 hP) rfl ?_
          refine st_iload rfl rfl ?_
          refine st_iconst rfl ?_
          refine st_iadd rfl (by omega) ?_
          refine st_iaload rfl rfl (by omega) (by omega) ?_
          rw [ep]
          refine st_aload_n rfl rfl (by decide) ?_
          refine st_getR (kk := 9) rfl rfl rfl (pz_53_9 hP) rfl ?_
          refine st_iload rfl rfl ?_
          refine st_iaload rfl rfl (by omega) (by omega) ?_
          refine st_icmp_ne rfl (fun h52 => ?_) (fun h52 => ?_)
          · refine st_iconst rfl ?_
            refine st_istore_n (ls' := [_, _, _, _, _, _]) rfl (Nat.le_of_ble_eq_true rfl) rfl ?_
            refine st_iinc (ls' := [_, _, _, _, _, _]) rfl rfl (by omega) rfl ?_
            refine st_goto rfl ?_
            have e1 : mdL (H 54) m (H 57) (H 58) (H 59) (H 60) (H 53 7) (k + 1) = if mdL (H 54) m (H 57) (H 58) (H 59) (H 60) (H 53 7) k ≠ 0 ∧ prtF (H 54) m (k : Int) 0 = H 57 (k : Int) ∧ prtF (H 54) m (k : Int) 1 = H 58 (k : Int) ∧ prtF (H 54) m (k : Int) 2 = H 59 (k : Int) ∧ prtF (H 54) m (k : Int) 3 = H 60 (k : Int) then 1 else 0 := rfl
            have ihk := ihk (some (am_i (70 + 33 * m + 1 + 4 * (k : Int))))
            first
            | (rw [show mdL (H 54) m (H 57) (H 58) (H 59) (H 60) (H 53 7) (k + 1) = 1 by rw [e1, if_pos (by omega)]] at ihk; exact ihk)
            | (rw [show mdL (H 54) m (H 57) (H 58) (H 59) (H 60) (H 53 7) (k + 1) = 0 by rw [e1, if_neg (by omega)]] at ihk; exact ihk)
          · refine st_aload_n rfl rfl (by decide) ?_
            refine st_getR (kk := 0) rfl rfl rfl (pz_53_0 hP) rfl ?_
            refine st_iload rfl rfl ?_
            refine st_iconst rfl ?_
            refine st_iadd rfl (by omega) ?_
            refine st_iaload rfl rfl (by omega) (by omega) ?_
            rw [ep]
            refine st_aload_n rfl rfl (by decide) ?_
            refine st_getR (kk := 10) rfl rfl rfl (pz_53_10 hP) rfl ?_
            refine st_iload rfl rfl ?_
            refine st_iaload rfl rfl (by omega) (by omega) ?_
            refine st_icmp_ne rfl (fun h63 => ?_) (fun h63 => ?_)
            · refine st_iconst rfl ?_
              refine st_istore_n (ls' := [_, _, _, _, _, _]) rfl (Nat.le_of_ble_eq_true rfl) rfl ?_
              refine st_iinc (ls' := [_, _, _, _, _, _]) rfl rfl (by omega) rfl ?_
              refine st_goto rfl ?_
              have e1 : mdL (H 54) m (H 57) (H 58) (H 59) (H 60) (H 53 7) (k + 1) = if mdL (H 54) m (H 57) (H 58) (H 59) (H 60) (H 53 7) k ≠ 0 ∧ prtF (H 54) m (k : Int) 0 = H 57 (k : Int) ∧ prtF (H 54) m (k : Int) 1 = H 58 (k : Int) ∧ prtF (H 54) m (k : Int) 2 = H 59 (k : Int) ∧ prtF (H 54) m (k : Int) 3 = H 60 (k : Int) then 1 else 0 := rfl
              have ihk := ihk (some (am_i (70 + 33 * m + 1 + 4 * (k : Int))))
              first
              | (rw [show mdL (H 54) m (H 57) (H 58) (H 59) (H 60) (H 53 7) (k + 1) = 1 by rw [e1, if_pos (by omega)]] at ihk; exact ihk)
              | (rw [show mdL (H 54) m (H 57) (H 58) (H 59) (H 60) (H 53 7) (k + 1) = 0 by rw [e1, if_neg (by omega)]] at ihk; exact ihk)
            · refine st_aload_n rfl rfl (by decide) ?_
              refine st_getR (kk := 0) rfl rfl rfl (pz_53_0 hP) rfl ?_
              refine st_iload rfl rfl ?_
              refine st_iconst rfl ?_
              refine st_iadd rfl (by omega) ?_
              refine st_iaload rfl rfl (by omega) (by omega) ?_
              rw [ep]
              refine st_aload_n rfl rfl (by decide) ?_
              refine st_getR (kk := 11) rfl rfl rfl (pz_53_11 hP) rfl ?_
              refine st_iload rfl rfl ?_
              refine st_iaload rfl rfl (by omega) (by omega) ?_
              refine st_icmp_ne rfl (fun h74 => ?_) (fun h74 => ?_)
              · refine st_iconst rfl ?_
                refine st_istore_n (ls' := [_, _, _, _, _, _]) rfl (Nat.le_of_ble_eq_true rfl) rfl ?_
                refine st_iinc (ls' := [_, _, _, _, _, _]) rfl rfl (by omega) rfl ?_
                refine st_goto rfl ?_
                have e1 : mdL (H 54) m (H 57) (H 58) (H 59) (H 60) (H 53 7) (k + 1) = if mdL (H 54) m (H 57) (H 58) (H 59) (H 60) (H 53 7) k ≠ 0 ∧ prtF (H 54) m (k : Int) 0 = H 57 (k : Int) ∧ prtF (H 54) m (k : Int) 1 = H 58 (k : Int) ∧ prtF (H 54) m (k : Int) 2 = H 59 (k : Int) ∧ prtF (H 54) m (k : Int) 3 = H 60 (k : Int) then 1 else 0 := rfl
                have ihk := ihk (some (am_i (70 + 33 * m + 1 + 4 * (k : Int))))
                first
                | (rw [show mdL (H 54) m (H 57) (H 58) (H 59) (H 60) (H 53 7) (k + 1) = 1 by rw [e1, if_pos (by omega)]] at ihk; exact ihk)
                | (rw [show mdL (H 54) m (H 57) (H 58) (H 59) (H 60) (H 53 7) (k + 1) = 0 by rw [e1, if_neg (by omega)]] at ihk; exact ihk)
              · refine st_iconst rfl ?_
                refine st_goto rfl ?_
                refine st_istore_n (ls' := [_, _, _, _, _, _]) rfl (Nat.le_of_ble_eq_true rfl) rfl ?_
                refine st_iinc (ls' := [_, _, _, _, _, _]) rfl rfl (by omega) rfl ?_
                refine st_goto rfl ?_
                have e1 : mdL (H 54) m (H 57) (H 58) (H 59) (H 60) (H 53 7) (k + 1) = if mdL (H 54) m (H 57) (H 58) (H 59) (H 60) (H 53 7) k ≠ 0 ∧ prtF (H 54) m (k : Int) 0 = H 57 (k : Int) ∧ prtF (H 54) m (k : Int) 1 = H 58 (k : Int) ∧ prtF (H 54) m (k : Int) 2 = H 59 (k : Int) ∧ prtF (H 54) m (k : Int) 3 = H 60 (k : Int) then 1 else 0 := rfl
                have ihk := ihk (some (am_i (70 + 33 * m + 1 + 4 * (k : Int))))
                first
                | (rw [show mdL (H 54) m (H 57) (H 58) (H 59) (H 60) (H 53 7) (k + 1) = 1 by rw [e1, if_pos (by omega)]] at ihk; exact ihk)
                | (rw [show mdL (H 54) m (H 57) (H 58) (H 59) (H 60) (H 53 7) (k + 1) = 0 by rw [e1, if_neg (by omega)]] at ihk; exact ihk)
