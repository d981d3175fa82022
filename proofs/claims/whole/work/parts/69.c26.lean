/-! ===== the class: the fault of a text ===== -/
abbrev pkN (r : NP) : Int := pkF r.kd r.v r.g r.c
theorem tx_s (h : Int → Int) (sz : Int) (j : Nat) : txF h sz (j + 1) = if (txF h sz j).ok = 1 then (if (txF h sz j).pos = sz then ⟨2, (txF h sz j).pos, 0, 0, 0, 0⟩ else if (j : Int) + 1 < 8 ∧ (jdF h (txF h sz j) ∨ blF h (txF h sz j)) then npF h ((txF h sz j).pos + (if blF h (txF h sz j) then 1 else 0)) (txF h sz j).kd (if blF h (txF h sz j) then 1 else 0) else ⟨0, (txF h sz j).pos, 0, 0, 0, 0⟩) else txF h sz j := rfl
theorem tx_p {h : Int → Int} {sz : Int} {j : Nat} (ho : (txF h sz (j + 1)).ok = 1) : (txF h sz j).ok = 1 ∧ (txF h sz j).pos ≠ sz ∧ (jdF h (txF h sz j) ∨ blF h (txF h sz j)) ∧ txF h sz (j + 1) = npF h ((txF h sz j).pos + (if blF h (txF h sz j) then 1 else 0)) (txF h sz j).kd (if blF h (txF h sz j) then 1 else 0) := by
  have e := tx_s h sz j
  by_cases h1 : (txF h sz j).ok = 1
  · rw [if_pos h1] at e
    by_cases h2 : (txF h sz j).pos = sz
    · rw [if_pos h2] at e
      rw [e] at ho
      have ho : (2 : Int) = 1 := ho
      omega
    · rw [if_neg h2] at e
      by_cases h3 : (j : Int) + 1 < 8 ∧ (jdF h (txF h sz j) ∨ blF h (txF h sz j))
      · rw [if_pos h3] at e
        exact ⟨h1, h2, h3.2, e⟩
      · rw [if_neg h3] at e
        rw [e] at ho
        have ho : (0 : Int) = 1 := ho
        omega
  · rw [if_neg h1] at e
    rw [e] at ho
    exact absurd ho h1
theorem tx_0 {h : Int → Int} {sz : Int} (ho : (txF h sz 0).ok = 1) : NPg 0 (txF h sz 0) := (np_g (h := h) (p := 0) (b := -1) (bl := 0) ho).1
theorem tx_g {h : Int → Int} {sz : Int} {j : Nat} (ho : (txF h sz (j + 1)).ok = 1) : NPg ((txF h sz j).pos + (if blF h (txF h sz j) then 1 else 0)) (txF h sz (j + 1)) ∧ ((txF h sz j).kd ≠ 6 ∧ ((txF h sz j).kd = 5 → (txF h sz (j + 1)).kd = 6)) ∧ (¬ blF h (txF h sz j) ↔ (((txF h sz j).kd = 0 ∧ (txF h sz (j + 1)).kd = 1) ∨ ((txF h sz j).kd = 1 ∧ (txF h sz (j + 1)).kd = 2))) := by
  obtain ⟨p1, p2, p3, p4⟩ := tx_p ho
  have hn : (npF h ((txF h sz j).pos + (if blF h (txF h sz j) then 1 else 0)) (txF h sz j).kd (if blF h (txF h sz j) then 1 else 0)).ok = 1 := by rw [← p4]; exact ho
  have g := np_g hn
  rw [p4]
  by_cases hb : blF h (txF h sz j)
  · rw [if_pos hb] at g ⊢
    refine ⟨g.1, ⟨hb.2, g.2.1⟩, ⟨fun z => absurd hb z, fun z => ?_⟩⟩
    rcases z with z | z
    · exact absurd z.2 (g.2.2.2.2.1 ⟨by omega, z.1⟩)
    · exact absurd z.2 (g.2.2.2.2.2 ⟨by omega, z.1⟩)
  · rw [if_neg hb, Int.add_zero] at g ⊢
    have hj := p3.resolve_right hb
    refine ⟨g.1, ⟨by omega, by omega⟩, ⟨fun _ => ?_, fun _ => hb⟩⟩
    rcases hj with z | z
    · exact Or.inl ⟨z.1, g.2.2.1 ⟨z.1, z.2, rfl⟩⟩
    · exact Or.inr ⟨z.1, g.2.2.2.1 ⟨z.1, z.2, rfl⟩⟩
theorem tx_pv {h : Int → Int} {sz : Int} : ∀ {j : Nat}, (txF h sz j).ok = 1 → PVal (txF h sz j).kd (txF h sz j).v (txF h sz j).g (txF h sz j).c ∧ ((txF h sz j).kd = 4 → (txF h sz j).v ≤ 26)
  | 0, ho => ⟨(tx_0 ho).1, (tx_0 ho).2.1⟩
  | j + 1, ho => ⟨(tx_g ho).1.1, (tx_g ho).1.2.1⟩
theorem tx_le {h : Int → Int} {n : Int} (hz : ∀ x, n ≤ x → h x = -1) (h0 : 0 ≤ n) : ∀ j : Nat, (txF h n j).pos ≤ n
  | 0 => np_le hz h0
  | j + 1 => by
    have ih := tx_le hz h0 j
    rw [tx_s]
    split
    · split
      · exact ih
      · split
        · by_cases hb : blF h (txF h n j)
          · rw [if_pos hb]
            have : ¬ n ≤ (txF h n j).pos := fun z => by have := hz _ z; have := hb.1; omega
            exact np_le hz (by omega)
          · rw [if_neg hb, Int.add_zero]
            exact np_le hz ih
        · exact ih
    · exact ih
/-- what reading a text leaves -/
def FQ (N : Nat) (P : am_P) (H : am_H) (h : Int → Int) (n : Int) (v : Option am_V) (σ : am_S) : Prop := v = some (am_i (if (txF h n 8).ok = 2 then -1 else (txF h n 8).pos)) ∧ ∃ H2 : am_H, σ = (N, P, H2) ∧ (∀ o, o ≠ 4 → o ≠ 7 → H2 o = H o) ∧ ((txF h n 8).ok = 2 → H2 4 2 = (tM h n 8 : Int) ∧ (1 ≤ tM h n 8 ∧ tM h n 8 ≤ 8) ∧ ∀ i : Nat, i < tM h n 8 → (txF h n i).ok = 1 ∧ H2 7 (i : Int) = pkN (txF h n i))
theorem FQ_2 {N : Nat} {P : am_P} {H H1 : am_H} {h : Int → Int} {n p : Int} {X : Int → Int} {j : Nat} (hj : j ≤ 7) (h1 : ∀ i : Nat, i ≤ j → (txF h n i).ok = 1) (t : TS H H1 n p ((j : Int) + 1) X) (hX : ∀ i : Nat, i ≤ j → X (i : Int) = pkN (txF h n i)) (h2 : (txF h n (j + 1)).ok = 2) : FQ N P H h n (some (am_i (-1))) (N, P, H1) := by
  have e := txF_s h n (j := j + 1) (by omega) (8 - (j + 1))
  rw [show j + 1 + (8 - (j + 1)) = 8 by omega] at e
  have em := tM_e (h := h) (sz := n) (m := j + 1) (fun i hi => h1 i (by omega)) h2 (8 - (j + 1))
  rw [show j + 1 + (8 - (j + 1)) = 8 by omega] at em
  refine ⟨by rw [e, if_pos h2], H1, rfl, t.1, fun _ => ?_⟩
  rw [em]
  refine ⟨by rw [t.2.2.2.1]; omega, by omega, fun i hi => ⟨h1 i (by omega), ?_⟩⟩
  rw [t.2.2.2.2]
  exact hX i (by omega)
theorem FQ_0 {N : Nat} {P : am_P} {H H1 : am_H} {h : Int → Int} {n p q : Int} {X : Int → Int} {j : Nat} (hj : j ≤ 8) (t : TS H H1 n p q X) (h2 : (txF h n j).ok = 0) (hp : (txF h n j).pos = p) : FQ N P H h n (some (am_i p)) (N, P, H1) := by
  have e := txF_s h n (j := j) (by omega) (8 - j)
  rw [show j + (8 - j) = 8 by omega] at e
  refine ⟨by rw [e, if_neg (by omega), hp], H1, rfl, t.1, fun z => ?_⟩
  rw [e] at z
  omega

theorem l_fault40 {d N : Nat} {P : am_P} {H : am_H} {h : Int → Int} {n : Int} (hP : PZ P) (hB : HB h H n) (h0 : 0 ≤ n) {k : Nat} {b bl jo p : Int} {H1 : am_H} {X : Int → Int} (hk : k < 8) (hj : (jo = 0 ∧ (bl ≠ 0 ∨ b = -1)) ∨ (jo ≠ 0 ∧ bl = 0 ∧ b ≠ -1)) (hs : (txF h n k) = npF h p b bl) (hp : 0 ≤ p ∧ p ≤ n) (h1 : ∀ i : Nat, i < k → (txF h n i).ok = 1) (t : TS H H1 n p (k : Int) X) (hX : ∀ i : Nat, i < k → X (i : Int) = pkN (txF h n i))
    (hx : ∀ (H1 : am_H) (X : Int → Int) w4, (∀ i : Nat, i ≤ k → (txF h n i).ok = 1) → TS H H1 n (txF h n k).pos ((k : Int) + 1) X → (∀ i : Nat, i ≤ k → X (i : Int) = pkN (txF h n i)) → am_WP (am_R (d + 5)) cd_TextReader_faultOf (FQ N P H h n) 13 [some (am_r 4), some (am_i n), some (am_i (txF h n k).kd), some (am_i ((k : Int) + 1)), w4] [] (N, P, H1)) : am_WP (am_R (d + 5)) cd_TextReader_faultOf (FQ N P H h n) 40 [some (am_r 4), some (am_i n), some (am_i b), some (am_i (k : Int)), some (am_i jo)] [] (N, P, H1) := by
  have h80 := hB.1
  refine st_aload_n rfl rfl (by decide) ?_
  refine st_iload_n rfl rfl ?_
  refine st_iload rfl rfl ?_
  refine st_cvC (w := []) rfl rfl rfl (Nat.le_of_ble_eq_true rfl) (Nat.le_of_ble_eq_true rfl) rfl rfl (c_TextReader_takePart (bl := bl) hP hB t (by omega) (by omega) hj) ?_
  rintro v σ ⟨rfl, H2, X', rfl, t2, f2, x2⟩
  show am_WP _ _ _ _ _ [am_i _] _
  have hnr := (npF_r h p b bl).2
  refine st_if_ne rfl (fun h44 => ?_) (fun h44 => ?_)
  · have hok : (npF h p b bl).ok = 1 := by omega
    rw [hok] at t2
    have hX2 := x2 hok
    have hpk := (np_g hok).1.1.pk
    refine st_aload_n rfl rfl (by decide) ?_
    refine st_getR (kk := 1) rfl rfl rfl (pz_4_1 hP) rfl ?_
    refine st_iload_n rfl rfl ?_
    refine st_laload rfl rfl (by omega) (by omega) ?_
    rw [show H2 7 = X' from t2.2.2.2.2, hX2]
    refine st_cs1 (w := []) rfl (by decide) (by decide) (by decide) (Nat.le_of_ble_eq_true rfl) (Nat.le_of_ble_eq_true rfl) rfl rfl (r_Part_kindOf hpk) ?_
    refine st_istore_n (ls' := [_, _, _, _, _]) rfl (Nat.le_of_ble_eq_true rfl) rfl ?_
    refine st_iinc (ls' := [_, _, _, _, _]) rfl rfl (by omega) rfl ?_
    refine st_goto rfl ?_
    have hz := hx H2 X' (some (am_i jo)) (fun i hi => by
      by_cases hi2 : i = k
      · rw [hi2, hs]; exact hok
      · exact h1 i (by omega)) (by rw [hs]; exact t2) (fun i hi => by
      by_cases hi2 : i = k
      · rw [hi2, hs]; exact hX2
      · rw [f2 _ (by omega)]; exact hX i (by omega))
    rw [hs] at hz
    exact hz
  · refine st_aload_n rfl rfl (by decide) ?_
    refine st_getI (kk := 3) rfl rfl (by decide) rfl ?_
    rw [t2.2.2.1]
    refine st_iret rfl (fun z => by first | exact absurd z (by decide) | exact bi_01 _ | decide | omega) ?_
    have hok : (npF h p b bl).ok = 0 := by omega
    rw [hok, Int.add_zero] at t2
    exact FQ_0 (j := k) (by omega) t2 (by rw [hs]; exact hok) (by rw [hs])
theorem l_faultOf {d N : Nat} {P : am_P} {H : am_H} {h : Int → Int} {n : Int} (hP : PZ P) (hB : HB h H n) (h0 : 0 ≤ n) : ∀ j : Nat, j ≤ 7 → ∀ (H1 : am_H) (X : Int → Int) w4, (∀ i : Nat, i ≤ j → (txF h n i).ok = 1) → TS H H1 n (txF h n j).pos ((j : Int) + 1) X → (∀ i : Nat, i ≤ j → X (i : Int) = pkN (txF h n i)) → am_WP (am_R (d + 5)) cd_TextReader_faultOf (FQ N P H h n) 13 [some (am_r 4), some (am_i n), some (am_i (txF h n j).kd), some (am_i ((j : Int) + 1)), w4] [] (N, P, H1) := by
  have h80 := hB.1
  have hz : ∀ x, n ≤ x → h x = -1 := fun x hx => by rw [hB.2.1 x (by omega), if_neg (by omega)]
  refine up_ind (n := 7) ?_ ?_
  · intro H1 X w4 h1 t hX
    have hle := tx_le hz h0 7
    have hs := tx_s h n 7
    rw [if_pos (h1 7 (Nat.le_refl _))] at hs
    refine st_iload_n rfl rfl ?_
    refine st_bipush rfl ?_
    refine st_icmp_ge rfl (fun h15 => ?_) (fun h15 => (by exfalso; omega))
    refine st_aload_n rfl rfl (by decide) ?_
    refine st_getI (kk := 3) rfl rfl (by decide) rfl ?_
    rw [t.2.2.1]
    refine st_aload_n rfl rfl (by decide) ?_
    refine st_getI (kk := 4) rfl rfl (by decide) rfl ?_
    rw [t.2.1]
    refine st_icmp_ge rfl (fun h60 => ?_) (fun h60 => ?_)
    · refine st_iconst rfl ?_
      refine st_iret rfl (fun z => by first | exact absurd z (by decide) | exact bi_01 _ | decide | omega) ?_
      first
      | (rw [if_pos (show (txF h n 7).pos = n by omega)] at hs
         exact FQ_2 (j := 7) (by omega) h1 t hX (by rw [hs]))
      | (rw [if_neg (show ¬ (txF h n 7).pos = n by omega), if_neg (fun z => by have := z.1; omega)] at hs
         exact FQ_0 (j := 8) (by omega) t (by rw [hs]) (by rw [hs]))
    · refine st_aload_n rfl rfl (by decide) ?_
      refine st_getI (kk := 3) rfl rfl (by decide) rfl ?_
      rw [t.2.2.1]
      refine st_goto rfl ?_
      refine st_iret rfl (fun z => by first | exact absurd z (by decide) | exact bi_01 _ | decide | omega) ?_
      first
      | (rw [if_pos (show (txF h n 7).pos = n by omega)] at hs
         exact FQ_2 (j := 7) (by omega) h1 t hX (by rw [hs]))
      | (rw [if_neg (show ¬ (txF h n 7).pos = n by omega), if_neg (fun z => by have := z.1; omega)] at hs
         exact FQ_0 (j := 8) (by omega) t (by rw [hs]) (by rw [hs]))
  · intro j hj ih H1 X w4 h1 t hX
    have hle := tx_le hz h0 j
    have hr := txF_r h n j
    have hs := tx_s h n j
    rw [if_pos (h1 j (Nat.le_refl _))] at hs
    have hpos := t.2.2.1
    refine st_iload_n rfl rfl ?_
    refine st_bipush rfl ?_
    refine st_icmp_ge rfl (fun h15 => (by exfalso; omega)) (fun h15 => ?_)
    refine st_iconst rfl ?_
    refine st_istore (ls' := [_, _, _, _, _]) rfl (Nat.le_of_ble_eq_true rfl) rfl ?_
    refine st_iload_n rfl rfl ?_
    refine st_if_le rfl (fun h19 => (by exfalso; omega)) (fun h19 => ?_)
    refine st_aload_n rfl rfl (by decide) ?_
    refine st_getI (kk := 3) rfl rfl (by decide) rfl ?_
    rw [hpos]
    refine st_aload_n rfl rfl (by decide) ?_
    refine st_getI (kk := 4) rfl rfl (by decide) rfl ?_
    rw [t.2.1]
    refine st_icmp_lt rfl (fun h24 => ?_) (fun h24 => ?_)
    · refine st_aload_n rfl rfl (by decide) ?_
      refine st_iload_n rfl rfl ?_
      refine st_cv1 (w := []) rfl rfl rfl (Nat.le_of_ble_eq_true rfl) (Nat.le_of_ble_eq_true rfl) rfl rfl (r_TextReader_isJoined hP hB t (by omega)) ?_
      refine st_istore (ls' := [_, _, _, _, _]) rfl (Nat.le_of_ble_eq_true rfl) rfl ?_
      refine st_iload rfl rfl ?_
      refine st_if_ne_b rfl (fun h32 => ?_) (fun h32 => ?_)
      · first
        | (have hjd : (((txF h n j).kd = 0 ∧ isD (h (txF h n j).pos)) ∨ ((txF h n j).kd = 1 ∧ h (txF h n j).pos = 46)) := h32
           have hjd2 : ¬ blF h (txF h n j) := fun z => by have := z.1; omega
           rw [if_neg (show ¬ (txF h n j).pos = n by omega), if_pos ⟨by omega, Or.inl hjd⟩, if_neg hjd2, Int.add_zero] at hs
           rw [bi_t hjd]
           exact l_fault40 hP hB h0 (k := j + 1) (bl := 0) (by omega) (Or.inr ⟨by omega, rfl, by omega⟩) hs (by omega) (fun i hi => h1 i (by omega)) t (fun i hi => hX i (by omega)) (fun H1 X w4 q1 q2 q3 => ih H1 X w4 q1 (by rw [show ((j + 1 : Nat) : Int) + 1 = ((j + 1 : Nat) : Int) + 1 from rfl]; exact q2) q3))
        | (have hjd : ¬ (((txF h n j).kd = 0 ∧ isD (h (txF h n j).pos)) ∨ ((txF h n j).kd = 1 ∧ h (txF h n j).pos = 46)) := h32
           have hbl2 : blF h (txF h n j) := hbl
           have hlt : (txF h n j).pos < n := by omega
           rw [if_neg (show ¬ (txF h n j).pos = n by omega), if_pos ⟨by omega, Or.inr hbl2⟩, if_pos hbl2] at hs
           rw [bi_f hjd]
           exact l_fault40 hP hB h0 (k := j + 1) (bl := 1) (by omega) (Or.inl ⟨rfl, Or.inl (by omega)⟩) hs (by omega) (fun i hi => h1 i (by omega)) (t.at _) (fun i hi => hX i (by omega)) (fun H1 X w4 q1 q2 q3 => ih H1 X w4 q1 (by rw [show ((j + 1 : Nat) : Int) + 1 = ((j + 1 : Nat) : Int) + 1 from rfl]; exact q2) q3))
      · refine st_aload_n rfl rfl (by decide) ?_
        refine st_iload_n rfl rfl ?_
        refine st_cv1 (w := []) rfl rfl rfl (Nat.le_of_ble_eq_true rfl) (Nat.le_of_ble_eq_true rfl) rfl rfl (r_TextReader_takeBlank hP hB t (by omega)) ?_
        by_cases hbl : h (txF h n j).pos = 32 ∧ (txF h n j).kd ≠ 6
        case neg =>
          rw [if_neg hbl]
          refine st_if_ne_b rfl (fun h36 => (by exfalso; exact hbl h36)) (fun h36 => ?_)
          refine st_aload_n rfl rfl (by decide) ?_
          refine st_getI (kk := 3) rfl rfl (by decide) rfl ?_
          rw [hpos]
          refine st_iret rfl (fun z => by first | exact absurd z (by decide) | exact bi_01 _ | decide | omega) ?_
          rw [if_neg (show ¬ (txF h n j).pos = n by omega), if_neg (fun z => z.2.elim h32 hbl)] at hs
          exact FQ_0 (j := j + 1) (by omega) t (by rw [hs]) (by rw [hs])
        rw [if_pos hbl]
        refine st_if_ne_b rfl (fun h36 => ?_) (fun h36 => ?_)
        · first
          | (have hjd : (((txF h n j).kd = 0 ∧ isD (h (txF h n j).pos)) ∨ ((txF h n j).kd = 1 ∧ h (txF h n j).pos = 46)) := h32
             have hjd2 : ¬ blF h (txF h n j) := fun z => by have := z.1; omega
             rw [if_neg (show ¬ (txF h n j).pos = n by omega), if_pos ⟨by omega, Or.inl hjd⟩, if_neg hjd2, Int.add_zero] at hs
             rw [bi_t hjd]
             exact l_fault40 hP hB h0 (k := j + 1) (bl := 0) (by omega) (Or.inr ⟨by omega, rfl, by omega⟩) hs (by omega) (fun i hi => h1 i (by omega)) t (fun i hi => hX i (by omega)) (fun H1 X w4 q1 q2 q3 => ih H1 X w4 q1 (by rw [show ((j + 1 : Nat) : Int) + 1 = ((j + 1 : Nat) : Int) + 1 from rfl]; exact q2) q3))
          | (have hjd : ¬ (((txF h n j).kd = 0 ∧ isD (h (txF h n j).pos)) ∨ ((txF h n j).kd = 1 ∧ h (txF h n j).pos = 46)) := h32
             have hbl2 : blF h (txF h n j) := hbl
             have hlt : (txF h n j).pos < n := by omega
             rw [if_neg (show ¬ (txF h n j).pos = n by omega), if_pos ⟨by omega, Or.inr hbl2⟩, if_pos hbl2] at hs
             rw [bi_f hjd]
             exact l_fault40 hP hB h0 (k := j + 1) (bl := 1) (by omega) (Or.inl ⟨rfl, Or.inl (by omega)⟩) hs (by omega) (fun i hi => h1 i (by omega)) (t.at _) (fun i hi => hX i (by omega)) (fun H1 X w4 q1 q2 q3 => ih H1 X w4 q1 (by rw [show ((j + 1 : Nat) : Int) + 1 = ((j + 1 : Nat) : Int) + 1 from rfl]; exact q2) q3))
        · refine st_aload_n rfl rfl (by decide) ?_
          refine st_getI (kk := 3) rfl rfl (by decide) rfl ?_
          refine st_iret rfl (fun z => by first | exact absurd z (by decide) | exact bi_01 _ | decide | omega) ?_
          exact absurd hbl h36
    · refine st_iconst rfl ?_
      refine st_iret rfl (fun z => by first | exact absurd z (by decide) | exact bi_01 _ | decide | omega) ?_
      rw [if_pos (show (txF h n j).pos = n by omega)] at hs
      exact FQ_2 (j := j) (by omega) h1 t hX (by rw [hs])
theorem c_faultOf {d N : Nat} {P : am_P} {H : am_H} {h : Int → Int} {n : Int} (hP : PZ P) (hB : HB h H n) (h0 : 0 ≤ n) : am_C (d + 6) 232 [am_r 4, am_i n] (N, P, H) (FQ N P H h n) := by
  refine am_enC (d := d + 5) (ml := 5) (ls := [_, _, _, _, _]) cq_TextReader_faultOf rfl (Nat.le_of_ble_eq_true rfl) rfl ?_
  have h80 := hB.1
  have hS : TS H (am_up (am_up (am_up H 4 3 0) 4 4 n) 4 2 0) n 0 ((0 : Nat) : Int) (H 7) := ⟨fun o o1 o2 => by rw [am_up_ne o1, am_up_ne o1, am_up_ne o1], by rw [am_up_eq, am_uf_ne _ _ (by omega), am_up_eq, am_uf_eq], by rw [am_up_eq, am_uf_ne _ _ (by omega), am_up_eq, am_uf_ne _ _ (by omega), am_up_eq, am_uf_eq], by rw [am_up_eq, am_uf_eq]; rfl, by rw [am_up_ne (by decide), am_up_ne (by decide), am_up_ne (by decide)]⟩
  refine st_aload_n rfl rfl (by decide) ?_
  refine st_iconst rfl ?_
  refine st_putI (kk := 3) rfl rfl rfl rfl ?_
  refine st_aload_n rfl rfl (by decide) ?_
  refine st_iload_n rfl rfl ?_
  refine st_putI (kk := 4) rfl rfl rfl rfl ?_
  refine st_aload_n rfl rfl (by decide) ?_
  refine st_iconst rfl ?_
  refine st_putI (kk := 2) rfl rfl rfl rfl ?_
  refine st_iconst rfl ?_
  refine st_istore_n (ls' := [_, _, _, _, _]) rfl (Nat.le_of_ble_eq_true rfl) rfl ?_
  refine st_iconst rfl ?_
  refine st_istore_n (ls' := [_, _, _, _, _]) rfl (Nat.le_of_ble_eq_true rfl) rfl ?_
  refine st_iload_n rfl rfl ?_
  refine st_bipush rfl ?_
  refine st_icmp_ge rfl (fun h15 => (by exfalso; omega)) (fun h15 => ?_)
  refine st_iconst rfl ?_
  refine st_istore (ls' := [_, _, _, _, _]) rfl (Nat.le_of_ble_eq_true rfl) rfl ?_
  refine st_iload_n rfl rfl ?_
  refine st_if_le rfl (fun h19 => ?_) (fun h19 => (by exfalso; omega))
  exact l_fault40 hP hB h0 (k := 0) (bl := 0) (by omega) (Or.inl ⟨rfl, Or.inr rfl⟩) rfl (by omega) (fun i hi => by omega) hS (fun i hi => by omega) (fun H1 X w4 q1 q2 q3 => l_faultOf hP hB h0 0 (by omega) H1 X w4 q1 q2 q3)
