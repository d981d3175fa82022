/-! ===== the class: a text read whole ===== -/
theorem frF_01 (h : Int → Int) (p kd v : Int) (m : Nat) : (frF h p kd v m).ok = 0 ∨ (frF h p kd v m).ok = 1 := bi_01 _
theorem frF_n {h : Int → Int} {p kd v : Int} {m : Nat} (hd : ¬ isD (h p)) : (frF h p kd v m).ok = 0 ∧ (frF h p kd v m).pos = p := by
  unfold frF
  rw [dg_0 hd m]
  refine ⟨?_, ?_⟩
  · exact bi_f (p := 0 < (0 : Int) ∧ (0 : Int) % 10 ≠ 0) (by omega)
  · show p + 0 = p
    omega
theorem NR.v {N : Nat} {P : am_P} {H : am_H} {n q : Int} {X : Int → Int} {r : NP} {v : Option am_V} {σ : am_S} (h : NR N P H n q X r v σ) : v = some (am_i r.ok) := h.1

theorem c_TextReader_takePoint {d N : Nat} {P : am_P} {H : am_H} {h : Int → Int} {H1 : am_H} {n p q : Int} {X : Int → Int} {b jo : Int} (hP : PZ P) (hB : HB h H n) (hS : TS H H1 n p q X) (hp : 0 ≤ p ∧ p ≤ 80) (hq : 0 ≤ q ∧ q < 8)  : am_C (d + 4) 242 [am_r 4, am_i (b), am_i (jo)] (N, P, H1) (NR N P H n q X (poF h p (if jo ≠ 0 ∨ b ≠ 1 then 1 else 0) (if jo = 0 then 1 else 0))) := by
  refine am_enC (d := d + 3) (ml := 4) (ls := [_, _, _, _]) cq_TextReader_takePoint rfl (Nat.le_of_ble_eq_true rfl) rfl ?_
  have hb := hB.2.2 (p + 1)
  have s3 := hS.2.2.1
  have hS1 := hS.at (p + 1)
  refine st_aload_n rfl rfl (by decide) ?_
  refine st_dup rfl rfl ?_
  refine st_getI (kk := 3) rfl rfl (by decide) rfl ?_
  rw [s3]
  refine st_iconst rfl ?_
  refine st_iadd rfl (by omega) ?_
  refine st_putI (kk := 3) rfl rfl rfl rfl ?_
  refine st_aload_n rfl rfl (by decide) ?_
  refine st_cv1 (w := []) rfl rfl rfl (Nat.le_of_ble_eq_true rfl) (Nat.le_of_ble_eq_true rfl) rfl rfl (r_TextReader_next hP hB hS1 (by omega)) ?_
  refine st_cs1 (w := []) rfl (by decide) (by decide) (by decide) (Nat.le_of_ble_eq_true rfl) (Nat.le_of_ble_eq_true rfl) rfl rfl (r_TextReader_isLetter) ?_
  refine st_if_eq_b rfl (fun h9 => ?_) (fun h9 => ?_)
  · refine st_iload_n rfl rfl ?_
    refine st_if_ne rfl (fun h32 => ?_) (fun h32 => ?_)
    · refine st_iconst rfl ?_
      refine st_goto rfl ?_
      refine st_istore_n (ls' := [_, _, _, _]) rfl (Nat.le_of_ble_eq_true rfl) rfl ?_
      refine st_iload_n rfl rfl ?_
      refine st_if_eq rfl (fun h41 => (by exfalso; omega)) (fun h41 => ?_)
      refine st_aload_n rfl rfl (by decide) ?_
      refine st_iconst rfl ?_
      refine st_iconst rfl ?_
      refine st_bipush rfl ?_
      refine st_cvC (w := []) rfl rfl rfl (Nat.le_of_ble_eq_true rfl) (Nat.le_of_ble_eq_true rfl) rfl rfl (c_TextReader_takeFraction (p := p + 1) (kd := 2) (v := 0) (m := 6) hP hB (hS1) (by omega) hq (by omega) (by omega)) ?_
      intro v' σ hN
      have hv := hN.v
      subst hv
      obtain ⟨N2, P2, H2⟩ := σ
      have h01 := frF_01 h (p + 1) 2 0 6
      show am_WP _ _ _ _ _ [am_i _] _
      refine st_if_eq rfl (fun h47 => ?_) (fun h47 => ?_)
      · refine st_iconst rfl ?_
        refine st_iret rfl (fun z => by first | exact absurd z (by decide) | exact bi_01 _ | decide | omega) ?_
        by_cases hd : isD (h (p + 1))
        · first
          | (have hw : poF h p (if jo ≠ 0 ∨ b ≠ 1 then 1 else 0) (if jo = 0 then 1 else 0) = frF h (p + 1) 2 0 6 := by
               unfold poF
               rw [if_pos ⟨hd, by rw [if_pos (by omega)]; omega⟩]
             rw [hw]
             first
             | (have e1 : (frF h (p + 1) 2 0 6).ok = 1 := by omega
                rw [e1] at hN
                exact hN)
             | (have e1 : (frF h (p + 1) 2 0 6).ok = 0 := by omega
                rw [e1] at hN
                exact hN))
          | (have hw : poF h p (if jo ≠ 0 ∨ b ≠ 1 then 1 else 0) (if jo = 0 then 1 else 0) = ⟨0, p + 1, 0, 0, 0, 0⟩ := by
               unfold poF
               rw [if_neg (fun z => by have := z.2; rw [if_neg (by omega)] at this; exact this rfl), if_neg (fun z => by omega)]
             rw [hw]
             exact NR_0 (r := (0, p + 1, 0, 0, 0, 0)) rfl hS1)
        · have hw : poF h p (if jo ≠ 0 ∨ b ≠ 1 then 1 else 0) (if jo = 0 then 1 else 0) = ⟨0, p + 1, 0, 0, 0, 0⟩ := by
            unfold poF
            rw [if_neg (fun z => hd z.1), if_neg (fun z => by have z2 := z.2; by_cases hj : jo = 0; · omega
                                                              · rw [if_neg hj] at z2; exact z2 rfl)]
          rw [hw]
          first
          | exact NR_0 (r := (0, p + 1, 0, 0, 0, 0)) rfl hS1
          | (have e1 := frF_n (h := h) (p := p + 1) (kd := 2) (v := 0) (m := 6) hd
             rw [e1.1] at hN
             exact NR_c (r' := (0, p + 1, 0, 0, 0, 0)) e1.1 rfl e1.2 hN)
          | (exfalso
             have e1 := (frF_n (h := h) (p := p + 1) (kd := 2) (v := 0) (m := 6) hd).1
             omega)
      · refine st_iconst rfl ?_
        refine st_goto rfl ?_
        refine st_iret rfl (fun z => by first | exact absurd z (by decide) | exact bi_01 _ | decide | omega) ?_
        by_cases hd : isD (h (p + 1))
        · first
          | (have hw : poF h p (if jo ≠ 0 ∨ b ≠ 1 then 1 else 0) (if jo = 0 then 1 else 0) = frF h (p + 1) 2 0 6 := by
               unfold poF
               rw [if_pos ⟨hd, by rw [if_pos (by omega)]; omega⟩]
             rw [hw]
             first
             | (have e1 : (frF h (p + 1) 2 0 6).ok = 1 := by omega
                rw [e1] at hN
                exact hN)
             | (have e1 : (frF h (p + 1) 2 0 6).ok = 0 := by omega
                rw [e1] at hN
                exact hN))
          | (have hw : poF h p (if jo ≠ 0 ∨ b ≠ 1 then 1 else 0) (if jo = 0 then 1 else 0) = ⟨0, p + 1, 0, 0, 0, 0⟩ := by
               unfold poF
               rw [if_neg (fun z => by have := z.2; rw [if_neg (by omega)] at this; exact this rfl), if_neg (fun z => by omega)]
             rw [hw]
             exact NR_0 (r := (0, p + 1, 0, 0, 0, 0)) rfl hS1)
        · have hw : poF h p (if jo ≠ 0 ∨ b ≠ 1 then 1 else 0) (if jo = 0 then 1 else 0) = ⟨0, p + 1, 0, 0, 0, 0⟩ := by
            unfold poF
            rw [if_neg (fun z => hd z.1), if_neg (fun z => by have z2 := z.2; by_cases hj : jo = 0; · omega
                                                              · rw [if_neg hj] at z2; exact z2 rfl)]
          rw [hw]
          first
          | exact NR_0 (r := (0, p + 1, 0, 0, 0, 0)) rfl hS1
          | (have e1 := frF_n (h := h) (p := p + 1) (kd := 2) (v := 0) (m := 6) hd
             rw [e1.1] at hN
             exact NR_c (r' := (0, p + 1, 0, 0, 0, 0)) e1.1 rfl e1.2 hN)
          | (exfalso
             have e1 := (frF_n (h := h) (p := p + 1) (kd := 2) (v := 0) (m := 6) hd).1
             omega)
    · refine st_iload_n rfl rfl ?_
      refine st_iconst rfl ?_
      refine st_icmp_eq rfl (fun h35 => ?_) (fun h35 => ?_)
      · refine st_iconst rfl ?_
        refine st_istore_n (ls' := [_, _, _, _]) rfl (Nat.le_of_ble_eq_true rfl) rfl ?_
        refine st_iload_n rfl rfl ?_
        refine st_if_eq rfl (fun h41 => ?_) (fun h41 => (by exfalso; omega))
        refine st_iconst rfl ?_
        refine st_iret rfl (fun z => by first | exact absurd z (by decide) | exact bi_01 _ | decide | omega) ?_
        by_cases hd : isD (h (p + 1))
        · first
          | (have hw : poF h p (if jo ≠ 0 ∨ b ≠ 1 then 1 else 0) (if jo = 0 then 1 else 0) = frF h (p + 1) 2 0 6 := by
               unfold poF
               rw [if_pos ⟨hd, by rw [if_pos (by omega)]; omega⟩]
             rw [hw]
             first
             | (have e1 : (frF h (p + 1) 2 0 6).ok = 1 := by omega
                rw [e1] at hN
                exact hN)
             | (have e1 : (frF h (p + 1) 2 0 6).ok = 0 := by omega
                rw [e1] at hN
                exact hN))
          | (have hw : poF h p (if jo ≠ 0 ∨ b ≠ 1 then 1 else 0) (if jo = 0 then 1 else 0) = ⟨0, p + 1, 0, 0, 0, 0⟩ := by
               unfold poF
               rw [if_neg (fun z => by have := z.2; rw [if_neg (by omega)] at this; exact this rfl), if_neg (fun z => by omega)]
             rw [hw]
             exact NR_0 (r := (0, p + 1, 0, 0, 0, 0)) rfl hS1)
        · have hw : poF h p (if jo ≠ 0 ∨ b ≠ 1 then 1 else 0) (if jo = 0 then 1 else 0) = ⟨0, p + 1, 0, 0, 0, 0⟩ := by
            unfold poF
            rw [if_neg (fun z => hd z.1), if_neg (fun z => by have z2 := z.2; by_cases hj : jo = 0; · omega
                                                              · rw [if_neg hj] at z2; exact z2 rfl)]
          rw [hw]
          first
          | exact NR_0 (r := (0, p + 1, 0, 0, 0, 0)) rfl hS1
          | (have e1 := frF_n (h := h) (p := p + 1) (kd := 2) (v := 0) (m := 6) hd
             rw [e1.1] at hN
             exact NR_c (r' := (0, p + 1, 0, 0, 0, 0)) e1.1 rfl e1.2 hN)
          | (exfalso
             have e1 := (frF_n (h := h) (p := p + 1) (kd := 2) (v := 0) (m := 6) hd).1
             omega)
      · refine st_iconst rfl ?_
        refine st_goto rfl ?_
        refine st_istore_n (ls' := [_, _, _, _]) rfl (Nat.le_of_ble_eq_true rfl) rfl ?_
        refine st_iload_n rfl rfl ?_
        refine st_if_eq rfl (fun h41 => (by exfalso; omega)) (fun h41 => ?_)
        refine st_aload_n rfl rfl (by decide) ?_
        refine st_iconst rfl ?_
        refine st_iconst rfl ?_
        refine st_bipush rfl ?_
        refine st_cvC (w := []) rfl rfl rfl (Nat.le_of_ble_eq_true rfl) (Nat.le_of_ble_eq_true rfl) rfl rfl (c_TextReader_takeFraction (p := p + 1) (kd := 2) (v := 0) (m := 6) hP hB (hS1) (by omega) hq (by omega) (by omega)) ?_
        intro v' σ hN
        have hv := hN.v
        subst hv
        obtain ⟨N2, P2, H2⟩ := σ
        have h01 := frF_01 h (p + 1) 2 0 6
        show am_WP _ _ _ _ _ [am_i _] _
        refine st_if_eq rfl (fun h47 => ?_) (fun h47 => ?_)
        · refine st_iconst rfl ?_
          refine st_iret rfl (fun z => by first | exact absurd z (by decide) | exact bi_01 _ | decide | omega) ?_
          by_cases hd : isD (h (p + 1))
          · first
            | (have hw : poF h p (if jo ≠ 0 ∨ b ≠ 1 then 1 else 0) (if jo = 0 then 1 else 0) = frF h (p + 1) 2 0 6 := by
                 unfold poF
                 rw [if_pos ⟨hd, by rw [if_pos (by omega)]; omega⟩]
               rw [hw]
               first
               | (have e1 : (frF h (p + 1) 2 0 6).ok = 1 := by omega
                  rw [e1] at hN
                  exact hN)
               | (have e1 : (frF h (p + 1) 2 0 6).ok = 0 := by omega
                  rw [e1] at hN
                  exact hN))
            | (have hw : poF h p (if jo ≠ 0 ∨ b ≠ 1 then 1 else 0) (if jo = 0 then 1 else 0) = ⟨0, p + 1, 0, 0, 0, 0⟩ := by
                 unfold poF
                 rw [if_neg (fun z => by have := z.2; rw [if_neg (by omega)] at this; exact this rfl), if_neg (fun z => by omega)]
               rw [hw]
               exact NR_0 (r := (0, p + 1, 0, 0, 0, 0)) rfl hS1)
          · have hw : poF h p (if jo ≠ 0 ∨ b ≠ 1 then 1 else 0) (if jo = 0 then 1 else 0) = ⟨0, p + 1, 0, 0, 0, 0⟩ := by
              unfold poF
              rw [if_neg (fun z => hd z.1), if_neg (fun z => by have z2 := z.2; by_cases hj : jo = 0; · omega
                                                                · rw [if_neg hj] at z2; exact z2 rfl)]
            rw [hw]
            first
            | exact NR_0 (r := (0, p + 1, 0, 0, 0, 0)) rfl hS1
            | (have e1 := frF_n (h := h) (p := p + 1) (kd := 2) (v := 0) (m := 6) hd
               rw [e1.1] at hN
               exact NR_c (r' := (0, p + 1, 0, 0, 0, 0)) e1.1 rfl e1.2 hN)
            | (exfalso
               have e1 := (frF_n (h := h) (p := p + 1) (kd := 2) (v := 0) (m := 6) hd).1
               omega)
        · refine st_iconst rfl ?_
          refine st_goto rfl ?_
          refine st_iret rfl (fun z => by first | exact absurd z (by decide) | exact bi_01 _ | decide | omega) ?_
          by_cases hd : isD (h (p + 1))
          · first
            | (have hw : poF h p (if jo ≠ 0 ∨ b ≠ 1 then 1 else 0) (if jo = 0 then 1 else 0) = frF h (p + 1) 2 0 6 := by
                 unfold poF
                 rw [if_pos ⟨hd, by rw [if_pos (by omega)]; omega⟩]
               rw [hw]
               first
               | (have e1 : (frF h (p + 1) 2 0 6).ok = 1 := by omega
                  rw [e1] at hN
                  exact hN)
               | (have e1 : (frF h (p + 1) 2 0 6).ok = 0 := by omega
                  rw [e1] at hN
                  exact hN))
            | (have hw : poF h p (if jo ≠ 0 ∨ b ≠ 1 then 1 else 0) (if jo = 0 then 1 else 0) = ⟨0, p + 1, 0, 0, 0, 0⟩ := by
                 unfold poF
                 rw [if_neg (fun z => by have := z.2; rw [if_neg (by omega)] at this; exact this rfl), if_neg (fun z => by omega)]
               rw [hw]
               exact NR_0 (r := (0, p + 1, 0, 0, 0, 0)) rfl hS1)
          · have hw : poF h p (if jo ≠ 0 ∨ b ≠ 1 then 1 else 0) (if jo = 0 then 1 else 0) = ⟨0, p + 1, 0, 0, 0, 0⟩ := by
              unfold poF
              rw [if_neg (fun z => hd z.1), if_neg (fun z => by have z2 := z.2; by_cases hj : jo = 0; · omega
                                                                · rw [if_neg hj] at z2; exact z2 rfl)]
            rw [hw]
            first
            | exact NR_0 (r := (0, p + 1, 0, 0, 0, 0)) rfl hS1
            | (have e1 := frF_n (h := h) (p := p + 1) (kd := 2) (v := 0) (m := 6) hd
               rw [e1.1] at hN
               exact NR_c (r' := (0, p + 1, 0, 0, 0, 0)) e1.1 rfl e1.2 hN)
            | (exfalso
               have e1 := (frF_n (h := h) (p := p + 1) (kd := 2) (v := 0) (m := 6) hd).1
               omega)
  · refine st_iload_n rfl rfl ?_
    refine st_if_ne rfl (fun h11 => ?_) (fun h11 => ?_)
    · refine st_iload_n rfl rfl ?_
      refine st_if_ne rfl (fun h32 => ?_) (fun h32 => (by exfalso; omega))
      refine st_iconst rfl ?_
      refine st_goto rfl ?_
      refine st_istore_n (ls' := [_, _, _, _]) rfl (Nat.le_of_ble_eq_true rfl) rfl ?_
      refine st_iload_n rfl rfl ?_
      refine st_if_eq rfl (fun h41 => (by exfalso; omega)) (fun h41 => ?_)
      refine st_aload_n rfl rfl (by decide) ?_
      refine st_iconst rfl ?_
      refine st_iconst rfl ?_
      refine st_bipush rfl ?_
      refine st_cvC (w := []) rfl rfl rfl (Nat.le_of_ble_eq_true rfl) (Nat.le_of_ble_eq_true rfl) rfl rfl (c_TextReader_takeFraction (p := p + 1) (kd := 2) (v := 0) (m := 6) hP hB (hS1) (by omega) hq (by omega) (by omega)) ?_
      intro v' σ hN
      have hv := hN.v
      subst hv
      obtain ⟨N2, P2, H2⟩ := σ
      have h01 := frF_01 h (p + 1) 2 0 6
      show am_WP _ _ _ _ _ [am_i _] _
      refine st_if_eq rfl (fun h47 => ?_) (fun h47 => ?_)
      · refine st_iconst rfl ?_
        refine st_iret rfl (fun z => by first | exact absurd z (by decide) | exact bi_01 _ | decide | omega) ?_
        by_cases hd : isD (h (p + 1))
        · first
          | (have hw : poF h p (if jo ≠ 0 ∨ b ≠ 1 then 1 else 0) (if jo = 0 then 1 else 0) = frF h (p + 1) 2 0 6 := by
               unfold poF
               rw [if_pos ⟨hd, by rw [if_pos (by omega)]; omega⟩]
             rw [hw]
             first
             | (have e1 : (frF h (p + 1) 2 0 6).ok = 1 := by omega
                rw [e1] at hN
                exact hN)
             | (have e1 : (frF h (p + 1) 2 0 6).ok = 0 := by omega
                rw [e1] at hN
                exact hN))
          | (have hw : poF h p (if jo ≠ 0 ∨ b ≠ 1 then 1 else 0) (if jo = 0 then 1 else 0) = ⟨0, p + 1, 0, 0, 0, 0⟩ := by
               unfold poF
               rw [if_neg (fun z => by have := z.2; rw [if_neg (by omega)] at this; exact this rfl), if_neg (fun z => by omega)]
             rw [hw]
             exact NR_0 (r := (0, p + 1, 0, 0, 0, 0)) rfl hS1)
        · have hw : poF h p (if jo ≠ 0 ∨ b ≠ 1 then 1 else 0) (if jo = 0 then 1 else 0) = ⟨0, p + 1, 0, 0, 0, 0⟩ := by
            unfold poF
            rw [if_neg (fun z => hd z.1), if_neg (fun z => by have z2 := z.2; by_cases hj : jo = 0; · omega
                                                              · rw [if_neg hj] at z2; exact z2 rfl)]
          rw [hw]
          first
          | exact NR_0 (r := (0, p + 1, 0, 0, 0, 0)) rfl hS1
          | (have e1 := frF_n (h := h) (p := p + 1) (kd := 2) (v := 0) (m := 6) hd
             rw [e1.1] at hN
             exact NR_c (r' := (0, p + 1, 0, 0, 0, 0)) e1.1 rfl e1.2 hN)
          | (exfalso
             have e1 := (frF_n (h := h) (p := p + 1) (kd := 2) (v := 0) (m := 6) hd).1
             omega)
      · refine st_iconst rfl ?_
        refine st_goto rfl ?_
        refine st_iret rfl (fun z => by first | exact absurd z (by decide) | exact bi_01 _ | decide | omega) ?_
        by_cases hd : isD (h (p + 1))
        · first
          | (have hw : poF h p (if jo ≠ 0 ∨ b ≠ 1 then 1 else 0) (if jo = 0 then 1 else 0) = frF h (p + 1) 2 0 6 := by
               unfold poF
               rw [if_pos ⟨hd, by rw [if_pos (by omega)]; omega⟩]
             rw [hw]
             first
             | (have e1 : (frF h (p + 1) 2 0 6).ok = 1 := by omega
                rw [e1] at hN
                exact hN)
             | (have e1 : (frF h (p + 1) 2 0 6).ok = 0 := by omega
                rw [e1] at hN
                exact hN))
          | (have hw : poF h p (if jo ≠ 0 ∨ b ≠ 1 then 1 else 0) (if jo = 0 then 1 else 0) = ⟨0, p + 1, 0, 0, 0, 0⟩ := by
               unfold poF
               rw [if_neg (fun z => by have := z.2; rw [if_neg (by omega)] at this; exact this rfl), if_neg (fun z => by omega)]
             rw [hw]
             exact NR_0 (r := (0, p + 1, 0, 0, 0, 0)) rfl hS1)
        · have hw : poF h p (if jo ≠ 0 ∨ b ≠ 1 then 1 else 0) (if jo = 0 then 1 else 0) = ⟨0, p + 1, 0, 0, 0, 0⟩ := by
            unfold poF
            rw [if_neg (fun z => hd z.1), if_neg (fun z => by have z2 := z.2; by_cases hj : jo = 0; · omega
                                                              · rw [if_neg hj] at z2; exact z2 rfl)]
          rw [hw]
          first
          | exact NR_0 (r := (0, p + 1, 0, 0, 0, 0)) rfl hS1
          | (have e1 := frF_n (h := h) (p := p + 1) (kd := 2) (v := 0) (m := 6) hd
             rw [e1.1] at hN
             exact NR_c (r' := (0, p + 1, 0, 0, 0, 0)) e1.1 rfl e1.2 hN)
          | (exfalso
             have e1 := (frF_n (h := h) (p := p + 1) (kd := 2) (v := 0) (m := 6) hd).1
             omega)
    · refine st_aload_n rfl rfl (by decide) ?_
      refine st_cv1 (w := []) rfl rfl rfl (Nat.le_of_ble_eq_true rfl) (Nat.le_of_ble_eq_true rfl) rfl rfl (r_TextReader_next hP hB hS1 (by omega)) ?_
      refine st_bipush rfl ?_
      refine st_isub rfl (by omega) ?_
      refine st_iconst rfl ?_
      refine st_iadd rfl (by omega) ?_
      refine st_istore_n (ls' := [_, _, _, _]) rfl (Nat.le_of_ble_eq_true rfl) rfl ?_
      refine st_aload_n rfl rfl (by decide) ?_
      refine st_dup rfl rfl ?_
      refine st_getI (kk := 3) rfl rfl (by decide) rfl ?_
      rw [show am_up H1 4 3 (p + 1) 4 3 = p + 1 by rw [am_up_eq, am_uf_eq]]
      refine st_iconst rfl ?_
      refine st_iadd rfl (by omega) ?_
      refine st_putI (kk := 3) rfl rfl rfl rfl ?_
      rw [show p + 1 + 1 = p + 2 by omega]
      refine st_aload_n rfl rfl (by decide) ?_
      refine st_iconst rfl ?_
      refine st_iload_n rfl rfl ?_
      refine st_iconst rfl ?_
      refine st_cvC (w := []) rfl rfl rfl (Nat.le_of_ble_eq_true rfl) (Nat.le_of_ble_eq_true rfl) rfl rfl (c_TextReader_takeFraction (p := p + 2) (kd := 4) (v := h (p + 1) - 65 + 1) (m := 5) hP hB (hS1.at (p + 2)) (by omega) hq (by omega) (by omega)) ?_
      intro v' σ hN
      have hv := hN.v
      subst hv
      obtain ⟨N2, P2, H2⟩ := σ
      have h01 := frF_01 h (p + 2) 4 (h (p + 1) - 65 + 1) 5
      show am_WP _ _ _ _ _ [am_i _] _
      refine st_iret rfl (fun z => by first | exact absurd z (by decide) | exact bi_01 _ | decide | omega) ?_
      have hw : poF h p (if jo ≠ 0 ∨ b ≠ 1 then 1 else 0) (if jo = 0 then 1 else 0) = frF h (p + 2) 4 (h (p + 1) - 65 + 1) 5 := by
        unfold poF
        rw [if_neg (by omega), if_pos ⟨h9, by rw [if_pos (by omega)]; omega⟩, show h (p + 1) - 64 = h (p + 1) - 65 + 1 by omega]
      rw [hw]
      exact hN
theorem c_TextReader_takePart {d N : Nat} {P : am_P} {H : am_H} {h : Int → Int} {H1 : am_H} {n p q : Int} {X : Int → Int} {b bl jo : Int} (hP : PZ P) (hB : HB h H n) (hS : TS H H1 n p q X) (hp : 0 ≤ p ∧ p ≤ 80) (hq : 0 ≤ q ∧ q < 8) (hj : (jo = 0 ∧ (bl ≠ 0 ∨ b = -1)) ∨ (jo ≠ 0 ∧ bl = 0 ∧ b ≠ -1)) : am_C (d + 5) 238 [am_r 4, am_i (b), am_i (jo)] (N, P, H1) (NR N P H n q X (npF h p b bl)) := by
  refine am_enC (d := d + 4) (ml := 4) (ls := [_, _, _, _]) cq_TextReader_takePart rfl (Nat.le_of_ble_eq_true rfl) rfl ?_
  have hb := hB.2.2 p
  refine st_aload_n rfl rfl (by decide) ?_
  refine st_cv1 (w := []) rfl rfl rfl (Nat.le_of_ble_eq_true rfl) (Nat.le_of_ble_eq_true rfl) rfl rfl (r_TextReader_next hP hB hS (by omega)) ?_
  refine st_istore_n (ls' := [_, _, _, _]) rfl (Nat.le_of_ble_eq_true rfl) rfl ?_
  refine st_iload_n rfl rfl ?_
  refine st_iconst rfl ?_
  refine st_icmp_ne rfl (fun h5 => ?_) (fun h5 => ?_)
  · refine st_iload_n rfl rfl ?_
    refine st_cs1 (w := []) rfl (by decide) (by decide) (by decide) (Nat.le_of_ble_eq_true rfl) (Nat.le_of_ble_eq_true rfl) rfl rfl (r_TextReader_isLetter) ?_
    refine st_if_eq_b rfl (fun h13 => ?_) (fun h13 => ?_)
    · refine st_iload_n rfl rfl ?_
      refine st_cs1 (w := []) rfl (by decide) (by decide) (by decide) (Nat.le_of_ble_eq_true rfl) (Nat.le_of_ble_eq_true rfl) rfl rfl (r_TextReader_isDigit) ?_
      refine st_if_eq_b rfl (fun h19 => ?_) (fun h19 => ?_)
      · refine st_iload_n rfl rfl ?_
        by_cases h32_0 : h p = 46
        · refine st_lsC (c := 46) rfl h32_0 (t := 33) (by decide +kernel) ?_
          refine st_aload_n rfl rfl (by decide) ?_
          refine st_iload_n rfl rfl ?_
          refine st_iload_n rfl rfl ?_
          refine st_cvC (w := []) rfl rfl rfl (Nat.le_of_ble_eq_true rfl) (Nat.le_of_ble_eq_true rfl) rfl rfl (c_TextReader_takePoint hP hB hS hp hq) ?_
          intro v' σ hN
          have hv := hN.v
          subst hv
          obtain ⟨N2, P2, H2⟩ := σ
          have h01 := poF_01 h p (if jo ≠ 0 ∨ b ≠ 1 then 1 else 0) (if jo = 0 then 1 else 0)
          show am_WP _ _ _ _ _ [am_i _] _
          refine st_iret rfl (fun z => by first | exact absurd z (by decide) | exact bi_01 _ | decide | omega) ?_
          have hw : npF h p b bl = poF h p (if bl ≠ 0 ∧ b = 1 then 0 else 1) (if bl ≠ 0 ∨ b = -1 then 1 else 0) := by
            unfold npF
            rw [if_neg (show ¬ b = 5 by omega), if_neg (show ¬ isL (h p) by omega), if_neg (show ¬ isD (h p) by omega), if_pos (show h p = 46 by omega)]
          rw [hw]
          rw [show (if bl ≠ 0 ∧ b = 1 then (0 : Int) else 1) = (if jo ≠ 0 ∨ b ≠ 1 then 1 else 0) by (repeat' split) <;> omega, show (if bl ≠ 0 ∨ b = -1 then (1 : Int) else 0) = (if jo = 0 then 1 else 0) by (repeat' split) <;> omega]
          exact hN
        by_cases h32_1 : h p = 99
        · refine st_lsC (c := 99) rfl h32_1 (t := 45) (by decide +kernel) ?_
          refine st_aload_n rfl rfl (by decide) ?_
          refine st_bipush rfl ?_
          refine st_cvC (w := []) rfl rfl rfl (Nat.le_of_ble_eq_true rfl) (Nat.le_of_ble_eq_true rfl) rfl rfl (c_TextReader_takeNumber (kd := 6) hP hB hS (by omega) hq hp.2 (by omega)) ?_
          intro v' σ hN
          have hv := hN.v
          subst hv
          obtain ⟨N2, P2, H2⟩ := σ
          have h01 := cdF_01 h p 6
          show am_WP _ _ _ _ _ [am_i _] _
          refine st_iret rfl (fun z => by first | exact absurd z (by decide) | exact bi_01 _ | decide | omega) ?_
          by_cases hb5 : b = 5
          · have hw : npF h p b bl = cdF h p 6 := by
              unfold npF
              rw [if_pos hb5, if_pos (show h p = 99 by omega)]
            rw [hw]
            exact hN
          · have hw : npF h p b bl = cdF h p 6 := by
              unfold npF
              rw [if_neg hb5, if_neg (show ¬ isL (h p) by omega), if_neg (show ¬ isD (h p) by omega), if_neg (show ¬ h p = 46 by omega), if_neg (show ¬ h p = 121 by omega), if_neg (show ¬ h p = 118 by omega), if_pos (show h p = 99 by omega)]
            rw [hw]
            exact hN
        by_cases h32_2 : h p = 118
        · refine st_lsC (c := 118) rfl h32_2 (t := 41) (by decide +kernel) ?_
          refine st_aload_n rfl rfl (by decide) ?_
          refine st_iconst rfl ?_
          refine st_cvC (w := []) rfl rfl rfl (Nat.le_of_ble_eq_true rfl) (Nat.le_of_ble_eq_true rfl) rfl rfl (c_TextReader_takeNumber (kd := 5) hP hB hS (by omega) hq hp.2 (by omega)) ?_
          intro v' σ hN
          have hv := hN.v
          subst hv
          obtain ⟨N2, P2, H2⟩ := σ
          have h01 := cdF_01 h p 5
          show am_WP _ _ _ _ _ [am_i _] _
          refine st_iret rfl (fun z => by first | exact absurd z (by decide) | exact bi_01 _ | decide | omega) ?_
          have hw : npF h p b bl = cdF h p 5 := by
            unfold npF
            rw [if_neg (show ¬ b = 5 by omega), if_neg (show ¬ isL (h p) by omega), if_neg (show ¬ isD (h p) by omega), if_neg (show ¬ h p = 46 by omega), if_neg (show ¬ h p = 121 by omega), if_pos (show h p = 118 by omega)]
          rw [hw]
          exact hN
        by_cases h32_3 : h p = 121
        · refine st_lsC (c := 121) rfl h32_3 (t := 38) (by decide +kernel) ?_
          refine st_aload_n rfl rfl (by decide) ?_
          refine st_cvC (w := []) rfl rfl rfl (Nat.le_of_ble_eq_true rfl) (Nat.le_of_ble_eq_true rfl) rfl rfl (c_TextReader_takeYear hP hB hS (by omega) hq hp.2) ?_
          intro v' σ hN
          have hv := hN.v
          subst hv
          obtain ⟨N2, P2, H2⟩ := σ
          have h01 := yrF_01 h p
          show am_WP _ _ _ _ _ [am_i _] _
          refine st_iret rfl (fun z => by first | exact absurd z (by decide) | exact bi_01 _ | decide | omega) ?_
          have hw : npF h p b bl = yrF h p := by
            unfold npF
            rw [if_neg (show ¬ b = 5 by omega), if_neg (show ¬ isL (h p) by omega), if_neg (show ¬ isD (h p) by omega), if_neg (show ¬ h p = 46 by omega), if_pos (show h p = 121 by omega)]
          rw [hw]
          exact hN
        refine st_lsD (l := [46, 99, 118, 121]) rfl rfl (by simp only [List.mem_cons, List.not_mem_nil, or_false, forall_eq_or_imp, forall_eq]; omega) (t := 49) (by decide +kernel) ?_
        refine st_iconst rfl ?_
        refine st_iret rfl (fun z => by first | exact absurd z (by decide) | exact bi_01 _ | decide | omega) ?_
        have hw : npF h p b bl = ⟨0, p, 0, 0, 0, 0⟩ := by
          unfold npF
          rw [if_neg (show ¬ b = 5 by omega), if_neg (show ¬ isL (h p) by omega), if_neg (show ¬ isD (h p) by omega), if_neg (show ¬ h p = 46 by omega), if_neg (show ¬ h p = 121 by omega), if_neg (show ¬ h p = 118 by omega), if_neg (show ¬ h p = 99 by omega)]
        rw [hw]
        exact NR_0 (r := (0, p, 0, 0, 0, 0)) rfl hS
      · refine st_iload_n rfl rfl ?_
        refine st_if_ne rfl (fun h21 => ?_) (fun h21 => ?_)
        · refine st_aload_n rfl rfl (by decide) ?_
          refine st_cvC (w := []) rfl rfl rfl (Nat.le_of_ble_eq_true rfl) (Nat.le_of_ble_eq_true rfl) rfl rfl (c_TextReader_takeWhole hP hB hS (by omega) hq (by omega)) ?_
          intro v' σ hN
          have hv := hN.v
          subst hv
          obtain ⟨N2, P2, H2⟩ := σ
          have h01 := whF_01 h p
          show am_WP _ _ _ _ _ [am_i _] _
          refine st_if_eq rfl (fun h26 => ?_) (fun h26 => ?_)
          · refine st_iconst rfl ?_
            refine st_iret rfl (fun z => by first | exact absurd z (by decide) | exact bi_01 _ | decide | omega) ?_
            first
            | (have hw : npF h p b bl = whF h p := by
                 unfold npF
                 rw [if_neg (show ¬ b = 5 by omega), if_neg (show ¬ isL (h p) by omega), if_pos (show isD (h p) by omega), if_neg (by omega)]
               rw [hw]
               have e1 : (whF h p).ok = 1 := bi_t (by
                 by_cases h48 : h p = 48
                 · rw [if_pos h48]; exact dg_1 (by omega) 0
                 · rw [if_neg h48]; exact dg_1 (by omega) 3)
               first
               | (rw [e1] at hN; exact hN)
               | (exfalso; omega))
            | (have hw : npF h p b bl = ⟨0, p, 0, 0, 0, 0⟩ := by
                 unfold npF
                 rw [if_neg (show ¬ b = 5 by omega), if_neg (show ¬ isL (h p) by omega), if_pos (show isD (h p) by omega), if_pos (by omega)]
               rw [hw]
               exact NR_0 (r := (0, p, 0, 0, 0, 0)) rfl hS)
          · refine st_iconst rfl ?_
            refine st_goto rfl ?_
            refine st_iret rfl (fun z => by first | exact absurd z (by decide) | exact bi_01 _ | decide | omega) ?_
            first
            | (have hw : npF h p b bl = whF h p := by
                 unfold npF
                 rw [if_neg (show ¬ b = 5 by omega), if_neg (show ¬ isL (h p) by omega), if_pos (show isD (h p) by omega), if_neg (by omega)]
               rw [hw]
               have e1 : (whF h p).ok = 1 := bi_t (by
                 by_cases h48 : h p = 48
                 · rw [if_pos h48]; exact dg_1 (by omega) 0
                 · rw [if_neg h48]; exact dg_1 (by omega) 3)
               first
               | (rw [e1] at hN; exact hN)
               | (exfalso; omega))
            | (have hw : npF h p b bl = ⟨0, p, 0, 0, 0, 0⟩ := by
                 unfold npF
                 rw [if_neg (show ¬ b = 5 by omega), if_neg (show ¬ isL (h p) by omega), if_pos (show isD (h p) by omega), if_pos (by omega)]
               rw [hw]
               exact NR_0 (r := (0, p, 0, 0, 0, 0)) rfl hS)
        · refine st_iload_n rfl rfl ?_
          refine st_if_eq rfl (fun h23 => ?_) (fun h23 => ?_)
          · refine st_iconst rfl ?_
            refine st_iret rfl (fun z => by first | exact absurd z (by decide) | exact bi_01 _ | decide | omega) ?_
            first
            | (have hw : npF h p b bl = whF h p := by
                 unfold npF
                 rw [if_neg (show ¬ b = 5 by omega), if_neg (show ¬ isL (h p) by omega), if_pos (show isD (h p) by omega), if_neg (by omega)]
               rw [hw]
               have e1 : (whF h p).ok = 1 := bi_t (by
                 by_cases h48 : h p = 48
                 · rw [if_pos h48]; exact dg_1 (by omega) 0
                 · rw [if_neg h48]; exact dg_1 (by omega) 3)
               first
               | (rw [e1] at hN; exact hN)
               | (exfalso; omega))
            | (have hw : npF h p b bl = ⟨0, p, 0, 0, 0, 0⟩ := by
                 unfold npF
                 rw [if_neg (show ¬ b = 5 by omega), if_neg (show ¬ isL (h p) by omega), if_pos (show isD (h p) by omega), if_pos (by omega)]
               rw [hw]
               exact NR_0 (r := (0, p, 0, 0, 0, 0)) rfl hS)
          · refine st_aload_n rfl rfl (by decide) ?_
            refine st_cvC (w := []) rfl rfl rfl (Nat.le_of_ble_eq_true rfl) (Nat.le_of_ble_eq_true rfl) rfl rfl (c_TextReader_takeWhole hP hB hS (by omega) hq (by omega)) ?_
            intro v' σ hN
            have hv := hN.v
            subst hv
            obtain ⟨N2, P2, H2⟩ := σ
            have h01 := whF_01 h p
            show am_WP _ _ _ _ _ [am_i _] _
            refine st_if_eq rfl (fun h26 => ?_) (fun h26 => ?_)
            · refine st_iconst rfl ?_
              refine st_iret rfl (fun z => by first | exact absurd z (by decide) | exact bi_01 _ | decide | omega) ?_
              first
              | (have hw : npF h p b bl = whF h p := by
                   unfold npF
                   rw [if_neg (show ¬ b = 5 by omega), if_neg (show ¬ isL (h p) by omega), if_pos (show isD (h p) by omega), if_neg (by omega)]
                 rw [hw]
                 have e1 : (whF h p).ok = 1 := bi_t (by
                   by_cases h48 : h p = 48
                   · rw [if_pos h48]; exact dg_1 (by omega) 0
                   · rw [if_neg h48]; exact dg_1 (by omega) 3)
                 first
                 | (rw [e1] at hN; exact hN)
                 | (exfalso; omega))
              | (have hw : npF h p b bl = ⟨0, p, 0, 0, 0, 0⟩ := by
                   unfold npF
                   rw [if_neg (show ¬ b = 5 by omega), if_neg (show ¬ isL (h p) by omega), if_pos (show isD (h p) by omega), if_pos (by omega)]
                 rw [hw]
                 exact NR_0 (r := (0, p, 0, 0, 0, 0)) rfl hS)
            · refine st_iconst rfl ?_
              refine st_goto rfl ?_
              refine st_iret rfl (fun z => by first | exact absurd z (by decide) | exact bi_01 _ | decide | omega) ?_
              first
              | (have hw : npF h p b bl = whF h p := by
                   unfold npF
                   rw [if_neg (show ¬ b = 5 by omega), if_neg (show ¬ isL (h p) by omega), if_pos (show isD (h p) by omega), if_neg (by omega)]
                 rw [hw]
                 have e1 : (whF h p).ok = 1 := bi_t (by
                   by_cases h48 : h p = 48
                   · rw [if_pos h48]; exact dg_1 (by omega) 0
                   · rw [if_neg h48]; exact dg_1 (by omega) 3)
                 first
                 | (rw [e1] at hN; exact hN)
                 | (exfalso; omega))
              | (have hw : npF h p b bl = ⟨0, p, 0, 0, 0, 0⟩ := by
                   unfold npF
                   rw [if_neg (show ¬ b = 5 by omega), if_neg (show ¬ isL (h p) by omega), if_pos (show isD (h p) by omega), if_pos (by omega)]
                 rw [hw]
                 exact NR_0 (r := (0, p, 0, 0, 0, 0)) rfl hS)
    · refine st_aload_n rfl rfl (by decide) ?_
      refine st_cvC (w := []) rfl rfl rfl (Nat.le_of_ble_eq_true rfl) (Nat.le_of_ble_eq_true rfl) rfl rfl (c_TextReader_takeLetters hP hB hS (by omega) hq) ?_
      intro v' σ hN
      have hv := hN.v
      subst hv
      obtain ⟨N2, P2, H2⟩ := σ
      have h01 := (Or.inr rfl : (ltR h p).ok = 0 ∨ (ltR h p).ok = 1)
      show am_WP _ _ _ _ _ [am_i _] _
      refine st_iret rfl (fun z => by first | exact absurd z (by decide) | exact bi_01 _ | decide | omega) ?_
      have hw : npF h p b bl = ltR h p := by
        unfold npF
        rw [if_neg (show ¬ b = 5 by omega), if_pos (show isL (h p) by omega)]
      rw [hw]
      exact hN
  · refine st_iload_n rfl rfl ?_
    refine st_bipush rfl ?_
    refine st_icmp_eq rfl (fun h8 => ?_) (fun h8 => ?_)
    · refine st_iload_n rfl rfl ?_
      refine st_cs1 (w := []) rfl (by decide) (by decide) (by decide) (Nat.le_of_ble_eq_true rfl) (Nat.le_of_ble_eq_true rfl) rfl rfl (r_TextReader_isLetter) ?_
      refine st_if_eq_b rfl (fun h13 => ?_) (fun h13 => ?_)
      · refine st_iload_n rfl rfl ?_
        refine st_cs1 (w := []) rfl (by decide) (by decide) (by decide) (Nat.le_of_ble_eq_true rfl) (Nat.le_of_ble_eq_true rfl) rfl rfl (r_TextReader_isDigit) ?_
        refine st_if_eq_b rfl (fun h19 => ?_) (fun h19 => ?_)
        · refine st_iload_n rfl rfl ?_
          by_cases h32_0 : h p = 46
          · refine st_lsC (c := 46) rfl h32_0 (t := 33) (by decide +kernel) ?_
            refine st_aload_n rfl rfl (by decide) ?_
            refine st_iload_n rfl rfl ?_
            refine st_iload_n rfl rfl ?_
            refine st_cvC (w := []) rfl rfl rfl (Nat.le_of_ble_eq_true rfl) (Nat.le_of_ble_eq_true rfl) rfl rfl (c_TextReader_takePoint hP hB hS hp hq) ?_
            intro v' σ hN
            have hv := hN.v
            subst hv
            obtain ⟨N2, P2, H2⟩ := σ
            have h01 := poF_01 h p (if jo ≠ 0 ∨ b ≠ 1 then 1 else 0) (if jo = 0 then 1 else 0)
            show am_WP _ _ _ _ _ [am_i _] _
            refine st_iret rfl (fun z => by first | exact absurd z (by decide) | exact bi_01 _ | decide | omega) ?_
            have hw : npF h p b bl = poF h p (if bl ≠ 0 ∧ b = 1 then 0 else 1) (if bl ≠ 0 ∨ b = -1 then 1 else 0) := by
              unfold npF
              rw [if_neg (show ¬ b = 5 by omega), if_neg (show ¬ isL (h p) by omega), if_neg (show ¬ isD (h p) by omega), if_pos (show h p = 46 by omega)]
            rw [hw]
            rw [show (if bl ≠ 0 ∧ b = 1 then (0 : Int) else 1) = (if jo ≠ 0 ∨ b ≠ 1 then 1 else 0) by (repeat' split) <;> omega, show (if bl ≠ 0 ∨ b = -1 then (1 : Int) else 0) = (if jo = 0 then 1 else 0) by (repeat' split) <;> omega]
            exact hN
          by_cases h32_1 : h p = 99
          · refine st_lsC (c := 99) rfl h32_1 (t := 45) (by decide +kernel) ?_
            refine st_aload_n rfl rfl (by decide) ?_
            refine st_bipush rfl ?_
            refine st_cvC (w := []) rfl rfl rfl (Nat.le_of_ble_eq_true rfl) (Nat.le_of_ble_eq_true rfl) rfl rfl (c_TextReader_takeNumber (kd := 6) hP hB hS (by omega) hq hp.2 (by omega)) ?_
            intro v' σ hN
            have hv := hN.v
            subst hv
            obtain ⟨N2, P2, H2⟩ := σ
            have h01 := cdF_01 h p 6
            show am_WP _ _ _ _ _ [am_i _] _
            refine st_iret rfl (fun z => by first | exact absurd z (by decide) | exact bi_01 _ | decide | omega) ?_
            by_cases hb5 : b = 5
            · have hw : npF h p b bl = cdF h p 6 := by
                unfold npF
                rw [if_pos hb5, if_pos (show h p = 99 by omega)]
              rw [hw]
              exact hN
            · have hw : npF h p b bl = cdF h p 6 := by
                unfold npF
                rw [if_neg hb5, if_neg (show ¬ isL (h p) by omega), if_neg (show ¬ isD (h p) by omega), if_neg (show ¬ h p = 46 by omega), if_neg (show ¬ h p = 121 by omega), if_neg (show ¬ h p = 118 by omega), if_pos (show h p = 99 by omega)]
              rw [hw]
              exact hN
          by_cases h32_2 : h p = 118
          · refine st_lsC (c := 118) rfl h32_2 (t := 41) (by decide +kernel) ?_
            refine st_aload_n rfl rfl (by decide) ?_
            refine st_iconst rfl ?_
            refine st_cvC (w := []) rfl rfl rfl (Nat.le_of_ble_eq_true rfl) (Nat.le_of_ble_eq_true rfl) rfl rfl (c_TextReader_takeNumber (kd := 5) hP hB hS (by omega) hq hp.2 (by omega)) ?_
            intro v' σ hN
            have hv := hN.v
            subst hv
            obtain ⟨N2, P2, H2⟩ := σ
            have h01 := cdF_01 h p 5
            show am_WP _ _ _ _ _ [am_i _] _
            refine st_iret rfl (fun z => by first | exact absurd z (by decide) | exact bi_01 _ | decide | omega) ?_
            have hw : npF h p b bl = cdF h p 5 := by
              unfold npF
              rw [if_neg (show ¬ b = 5 by omega), if_neg (show ¬ isL (h p) by omega), if_neg (show ¬ isD (h p) by omega), if_neg (show ¬ h p = 46 by omega), if_neg (show ¬ h p = 121 by omega), if_pos (show h p = 118 by omega)]
            rw [hw]
            exact hN
          by_cases h32_3 : h p = 121
          · refine st_lsC (c := 121) rfl h32_3 (t := 38) (by decide +kernel) ?_
            refine st_aload_n rfl rfl (by decide) ?_
            refine st_cvC (w := []) rfl rfl rfl (Nat.le_of_ble_eq_true rfl) (Nat.le_of_ble_eq_true rfl) rfl rfl (c_TextReader_takeYear hP hB hS (by omega) hq hp.2) ?_
            intro v' σ hN
            have hv := hN.v
            subst hv
            obtain ⟨N2, P2, H2⟩ := σ
            have h01 := yrF_01 h p
            show am_WP _ _ _ _ _ [am_i _] _
            refine st_iret rfl (fun z => by first | exact absurd z (by decide) | exact bi_01 _ | decide | omega) ?_
            have hw : npF h p b bl = yrF h p := by
              unfold npF
              rw [if_neg (show ¬ b = 5 by omega), if_neg (show ¬ isL (h p) by omega), if_neg (show ¬ isD (h p) by omega), if_neg (show ¬ h p = 46 by omega), if_pos (show h p = 121 by omega)]
            rw [hw]
            exact hN
          refine st_lsD (l := [46, 99, 118, 121]) rfl rfl (by simp only [List.mem_cons, List.not_mem_nil, or_false, forall_eq_or_imp, forall_eq]; omega) (t := 49) (by decide +kernel) ?_
          refine st_iconst rfl ?_
          refine st_iret rfl (fun z => by first | exact absurd z (by decide) | exact bi_01 _ | decide | omega) ?_
          have hw : npF h p b bl = ⟨0, p, 0, 0, 0, 0⟩ := by
            unfold npF
            rw [if_neg (show ¬ b = 5 by omega), if_neg (show ¬ isL (h p) by omega), if_neg (show ¬ isD (h p) by omega), if_neg (show ¬ h p = 46 by omega), if_neg (show ¬ h p = 121 by omega), if_neg (show ¬ h p = 118 by omega), if_neg (show ¬ h p = 99 by omega)]
          rw [hw]
          exact NR_0 (r := (0, p, 0, 0, 0, 0)) rfl hS
        · refine st_iload_n rfl rfl ?_
          refine st_if_ne rfl (fun h21 => ?_) (fun h21 => (by exfalso; omega))
          refine st_aload_n rfl rfl (by decide) ?_
          refine st_cvC (w := []) rfl rfl rfl (Nat.le_of_ble_eq_true rfl) (Nat.le_of_ble_eq_true rfl) rfl rfl (c_TextReader_takeWhole hP hB hS (by omega) hq (by omega)) ?_
          intro v' σ hN
          have hv := hN.v
          subst hv
          obtain ⟨N2, P2, H2⟩ := σ
          have h01 := whF_01 h p
          show am_WP _ _ _ _ _ [am_i _] _
          refine st_if_eq rfl (fun h26 => ?_) (fun h26 => ?_)
          · refine st_iconst rfl ?_
            refine st_iret rfl (fun z => by first | exact absurd z (by decide) | exact bi_01 _ | decide | omega) ?_
            first
            | (have hw : npF h p b bl = whF h p := by
                 unfold npF
                 rw [if_neg (show ¬ b = 5 by omega), if_neg (show ¬ isL (h p) by omega), if_pos (show isD (h p) by omega), if_neg (by omega)]
               rw [hw]
               have e1 : (whF h p).ok = 1 := bi_t (by
                 by_cases h48 : h p = 48
                 · rw [if_pos h48]; exact dg_1 (by omega) 0
                 · rw [if_neg h48]; exact dg_1 (by omega) 3)
               first
               | (rw [e1] at hN; exact hN)
               | (exfalso; omega))
            | (have hw : npF h p b bl = ⟨0, p, 0, 0, 0, 0⟩ := by
                 unfold npF
                 rw [if_neg (show ¬ b = 5 by omega), if_neg (show ¬ isL (h p) by omega), if_pos (show isD (h p) by omega), if_pos (by omega)]
               rw [hw]
               exact NR_0 (r := (0, p, 0, 0, 0, 0)) rfl hS)
          · refine st_iconst rfl ?_
            refine st_goto rfl ?_
            refine st_iret rfl (fun z => by first | exact absurd z (by decide) | exact bi_01 _ | decide | omega) ?_
            first
            | (have hw : npF h p b bl = whF h p := by
                 unfold npF
                 rw [if_neg (show ¬ b = 5 by omega), if_neg (show ¬ isL (h p) by omega), if_pos (show isD (h p) by omega), if_neg (by omega)]
               rw [hw]
               have e1 : (whF h p).ok = 1 := bi_t (by
                 by_cases h48 : h p = 48
                 · rw [if_pos h48]; exact dg_1 (by omega) 0
                 · rw [if_neg h48]; exact dg_1 (by omega) 3)
               first
               | (rw [e1] at hN; exact hN)
               | (exfalso; omega))
            | (have hw : npF h p b bl = ⟨0, p, 0, 0, 0, 0⟩ := by
                 unfold npF
                 rw [if_neg (show ¬ b = 5 by omega), if_neg (show ¬ isL (h p) by omega), if_pos (show isD (h p) by omega), if_pos (by omega)]
               rw [hw]
               exact NR_0 (r := (0, p, 0, 0, 0, 0)) rfl hS)
      · refine st_aload_n rfl rfl (by decide) ?_
        refine st_cvC (w := []) rfl rfl rfl (Nat.le_of_ble_eq_true rfl) (Nat.le_of_ble_eq_true rfl) rfl rfl (c_TextReader_takeLetters hP hB hS (by omega) hq) ?_
        intro v' σ hN
        have hv := hN.v
        subst hv
        obtain ⟨N2, P2, H2⟩ := σ
        have h01 := (Or.inr rfl : (ltR h p).ok = 0 ∨ (ltR h p).ok = 1)
        show am_WP _ _ _ _ _ [am_i _] _
        refine st_iret rfl (fun z => by first | exact absurd z (by decide) | exact bi_01 _ | decide | omega) ?_
        have hw : npF h p b bl = ltR h p := by
          unfold npF
          rw [if_neg (show ¬ b = 5 by omega), if_pos (show isL (h p) by omega)]
        rw [hw]
        exact hN
    · refine st_iconst rfl ?_
      refine st_iret rfl (fun z => by first | exact absurd z (by decide) | exact bi_01 _ | decide | omega) ?_
      have hw : npF h p b bl = ⟨0, p, 0, 0, 0, 0⟩ := by
        unfold npF
        rw [if_pos (show b = 5 by omega), if_neg (show ¬ h p = 99 by omega)]
      rw [hw]
      exact NR_0 (r := (0, p, 0, 0, 0, 0)) rfl hS
