/-! ===== the class: readings kept ===== -/
theorem ofF_r {a : Int → Int} {s m : Int} : 0 ≤ ofF a s m := (ofL_r a s m _).1
theorem ofA_is {a : Int → Int} {s m : Int} (h : (0 ≤ s ∧ s < 16) ∧ a (9382 + 62 * s) ≠ 0) : ofA a s m = ofF a s m := if_pos h
theorem ofL_cg {a a' : Int → Int} {s m : Int} (hs : 0 ≤ s ∧ s < 16) (g : ∀ k, 9382 ≤ k → k < 10374 → a' k = a k) : ∀ j : Nat, j ≤ 60 → ofL a' s m j = ofL a s m j
  | 0, _ => rfl
  | j + 1, h => by
    simp only [ofL]
    rw [ofL_cg hs g j (by omega), g _ (by omega) (by omega)]
theorem ofF_cg {a a' : Int → Int} {s m : Int} (hs : 0 ≤ s ∧ s < 16) (hl : a (9382 + 62 * s + 1) ≤ 60) (g : ∀ k, 9382 ≤ k → k < 10374 → a' k = a k) : ofF a' s m = ofF a s m := by
  unfold ofF
  rw [g _ (by omega) (by omega)]
  exact ofL_cg hs g _ (by omega)
theorem am_up_self {H : am_H} {o : Nat} {k v : Int} (h : H o k = v) : am_up H o k v = H := by
  unfold am_up
  rw [show am_uf (H o) k v = H o from by funext x; unfold am_uf; split; · rename_i e; rw [e, h]
                                         · rfl, am_so_self]
theorem nn_eq {a : Int → Int} {s m : Int} (h : (a (8982 + m) = 0 ∧ a (9182 + m) = 0) ∨ (a (8982 + m) = 1 ∧ a (9182 + m) = 0) ∨ (a (8982 + m) = 1 ∧ a (9182 + m) = 1)) : nlF a s m + nfF a s m = if a (8782 + m) = s ∧ ofF a s m = 0 then 1 else if a (8982 + m) + a (9182 + m) = 1 ∧ 0 < ofF a s m then 2 else a (8982 + m) + a (9182 + m) := by
  have := ofF_r (a := a) (s := s) (m := m)
  unfold nlF nfF
  (repeat' split) <;> omega
theorem nn_ok {a : Int → Int} {s m : Int} (h : (a (8982 + m) = 0 ∧ a (9182 + m) = 0) ∨ (a (8982 + m) = 1 ∧ a (9182 + m) = 0) ∨ (a (8982 + m) = 1 ∧ a (9182 + m) = 1)) : (nlF a s m = 0 ∧ nfF a s m = 0) ∨ (nlF a s m = 1 ∧ nfF a s m = 0) ∨ (nlF a s m = 1 ∧ nfF a s m = 1) := by
  unfold nlF nfF
  (repeat' split) <;> omega

theorem r_Catalogue_traceMark {d N : Nat} {P : am_P} {H : am_H} {m s : Int} {a : Int → Int} (hP : PZ P) (hL : InvL a) (hC : RC H 10 a) (hm : 0 ≤ m ∧ m < 200) (hs : 0 ≤ s ∧ s < 16) (hr : a (9382 + 62 * s) ≠ 0) : am_R (d + 4) 147 [am_r 28, am_i (m), am_i (s)] (N, P, H) none (N, P, am_up H 30 m (nlF a s m + nfF a s m)) := by
  refine am_en1 (d := d + 3) (ml := 3) (ls := [_, _, _]) cq_Catalogue_traceMark rfl (Nat.le_of_ble_eq_true rfl) rfl ?_
  have c1 : ∀ m, 0 ≤ m → m < 200 → H 29 m = a (8782 + m) ∧ H 30 m = a (8982 + m) + a (9182 + m) := hC.2.1
  have hq := hL.1 m hm.1 hm.2
  have hnn := nn_eq (s := s) hq.2.2
  have hof := ofF_r (a := a) (s := s) (m := m)
  have hoa := ofA_is (m := m) ⟨hs, hr⟩
  have hls : lsA a m = a (8782 + m) := if_pos hm
  refine st_iload_n rfl rfl ?_
  refine st_cs1 (w := []) rfl (by decide) (by decide) (by decide) (Nat.le_of_ble_eq_true rfl) (Nat.le_of_ble_eq_true rfl) rfl rfl (r_Catalogue_isMark) ?_
  refine st_if_ne_b rfl (fun h2 => ?_) (fun h2 => (by exfalso; omega))
  refine st_aload_n rfl rfl (by decide) ?_
  refine st_iload_n rfl rfl ?_
  refine st_iload_n rfl rfl ?_
  refine st_cv1 (w := []) rfl rfl rfl (Nat.le_of_ble_eq_true rfl) (Nat.le_of_ble_eq_true rfl) rfl rfl (r_Catalogue_isGone hP hL hC) ?_
  rw [hls, hoa]
  refine st_if_eq_b rfl (fun h8 => ?_) (fun h8 => ?_)
  · refine st_aload_n rfl rfl (by decide) ?_
    refine st_getR (kk := 2) rfl rfl rfl (pz_28_2 hP) rfl ?_
    refine st_iload_n rfl rfl ?_
    refine st_iaload rfl rfl (by omega) (by omega) ?_
    rw [(c1 m hm.1 hm.2).2]
    refine st_iconst rfl ?_
    refine st_icmp_ne rfl (fun h20 => ?_) (fun h20 => ?_)
    · refine st_ret rfl ?_
      refine ⟨rfl, ?_⟩
      rw [hnn]
      first
      | rw [if_pos (by omega)]
      | rw [if_neg (by omega), if_pos (by omega)]
      | (rw [if_neg (by omega), if_neg (by omega), am_up_self (c1 m hm.1 hm.2).2])
    · refine st_aload_n rfl rfl (by decide) ?_
      refine st_iload_n rfl rfl ?_
      refine st_iload_n rfl rfl ?_
      refine st_cv1 (w := []) rfl rfl rfl (Nat.le_of_ble_eq_true rfl) (Nat.le_of_ble_eq_true rfl) rfl rfl (r_Catalogue_timesRead hP hL hC) ?_
      rw [hoa]
      refine st_if_le rfl (fun h25 => ?_) (fun h25 => ?_)
      · refine st_ret rfl ?_
        refine ⟨rfl, ?_⟩
        rw [hnn]
        first
        | rw [if_pos (by omega)]
        | rw [if_neg (by omega), if_pos (by omega)]
        | (rw [if_neg (by omega), if_neg (by omega), am_up_self (c1 m hm.1 hm.2).2])
      · refine st_aload_n rfl rfl (by decide) ?_
        refine st_getR (kk := 2) rfl rfl rfl (pz_28_2 hP) rfl ?_
        refine st_iload_n rfl rfl ?_
        refine st_iconst rfl ?_
        refine st_iastore rfl rfl (by omega) (by omega) ?_
        refine st_ret rfl ?_
        refine ⟨rfl, ?_⟩
        rw [hnn]
        first
        | rw [if_pos (by omega)]
        | rw [if_neg (by omega), if_pos (by omega)]
        | (rw [if_neg (by omega), if_neg (by omega), am_up_self (c1 m hm.1 hm.2).2])
  · refine st_aload_n rfl rfl (by decide) ?_
    refine st_getR (kk := 2) rfl rfl rfl (pz_28_2 hP) rfl ?_
    refine st_iload_n rfl rfl ?_
    refine st_iconst rfl ?_
    refine st_iastore rfl rfl (by omega) (by omega) ?_
    refine st_goto rfl ?_
    refine st_ret rfl ?_
    refine ⟨rfl, ?_⟩
    rw [hnn]
    first
    | rw [if_pos (by omega)]
    | rw [if_neg (by omega), if_pos (by omega)]
    | (rw [if_neg (by omega), if_neg (by omega), am_up_self (c1 m hm.1 hm.2).2])
theorem RC_tr {H : am_H} {a : Int → Int} {m x y : Int} (hm : 0 ≤ m ∧ m < 200) (h1 : a 1 ≤ 200) (hC : RC H 10 a) : RC (am_up H 30 m (x + y)) 10 (am_uf (am_uf a (8982 + m) x) (9182 + m) y) := by
  have e : ∀ k, k ≠ 8982 + m → k ≠ 9182 + m → am_uf (am_uf a (8982 + m) x) (9182 + m) y k = a k := fun k k1 k2 => by rw [am_uf_ne _ _ k2, am_uf_ne _ _ k1]
  have eh : ∀ o : Nat, o ≠ 30 → am_up H 30 m (x + y) o = H o := fun o ho => am_up_ne ho
  obtain ⟨q0, q1, q2⟩ := hC
  refine ⟨?_, fun k k0 k1 => ?_, fun s s0 s1 => ?_⟩
  · rw [eh _ (by decide), q0, e 1 (by omega) (by omega), cntL_cg (a := a) (fun k k0 k1 => e k (by omega) (by omega)) _ (by omega)]
  · rw [eh (10 + 19) (by decide), show am_up H 30 m (x + y) (10 + 20) = am_uf (H 30) m (x + y) from am_up_eq, e (8782 + k) (by omega) (by omega)]
    refine ⟨(q1 k k0 k1).1, ?_⟩
    by_cases hk : k = m
    · subst hk
      rw [am_uf_eq, am_uf_eq, am_uf_ne _ _ (by omega), am_uf_eq]
    · rw [am_uf_ne _ _ hk, e _ (by omega) (by omega), e _ (by omega) (by omega)]
      exact (q1 k k0 k1).2
  · have z := q2 s s0 s1
    rw [eh (10 + 21) (by decide), eh (10 + 22) (by decide), e _ (by omega) (by omega), e _ (by omega) (by omega)]
    refine ⟨z.1, fun w k k0 k1 => ?_⟩
    rw [e _ (by omega) (by omega)]
    exact z.2 w k k0 k1
theorem dnS_m {a : Int → Int} {s m : Int} (n : Int) (hs : 0 ≤ s ∧ s < 16) (hl : a (9382 + 62 * s + 1) ≤ 60) (hm : n ≤ m ∧ m < 200) (h0 : 0 ≤ n) : nlF (dnS a s n) s m = nlF a s m ∧ nfF (dnS a s n) s m = nfF a s m := by
  have e : ∀ k, k < 8982 ∨ (8982 + n ≤ k ∧ k < 9182) ∨ 9382 ≤ k → dnS a s n k = a k := fun k hk => dnS_k a s n hk (by omega)
  have e2 : dnS a s n (9182 + m) = a (9182 + m) := by
    unfold dnS
    rw [if_neg (by omega), if_neg (by omega)]
  unfold nlF nfF
  rw [ofF_cg hs hl (fun k k0 k1 => e k (by omega)), e (8982 + m) (by omega), e (8782 + m) (by omega), e2]
  exact ⟨rfl, rfl⟩
theorem InvL_dn {a : Int → Int} {s : Int} (hL : InvL a) (n : Nat) (hn : n ≤ 200) : InvL (dnS a s (n : Int)) := by
  have e : ∀ k, k < 8982 ∨ 9382 ≤ k → dnS a s (n : Int) k = a k := fun k hk => dnS_k a s n (by omega) (by omega)
  obtain ⟨q1, q2⟩ := hL
  refine ⟨fun m m0 m1 => ?_, fun t t0 t1 => ?_⟩
  · have z := q1 m m0 m1
    rw [e (8782 + m) (by omega), e 2 (by omega), e 1 (by omega)]
    refine ⟨z.1, z.2.1, ?_⟩
    by_cases hm : m < (n : Int)
    · rw [show dnS a s (n : Int) (8982 + m) = nlF a s m by unfold dnS; rw [if_pos (by omega), show 8982 + m - 8982 = m by omega], show dnS a s (n : Int) (9182 + m) = nfF a s m by unfold dnS; rw [if_neg (by omega), if_pos (by omega), show 9182 + m - 9182 = m by omega]]
      exact nn_ok z.2.2
    · rw [show dnS a s (n : Int) (8982 + m) = a (8982 + m) by unfold dnS; rw [if_neg (by omega), if_neg (by omega)], show dnS a s (n : Int) (9182 + m) = a (9182 + m) by unfold dnS; rw [if_neg (by omega), if_neg (by omega)]]
      exact z.2.2
  · have z := q2 t t0 t1
    rw [e _ (by omega), e _ (by omega), e 1 (by omega)]
    refine ⟨z.1, z.2.1, fun k k0 k1 => ?_⟩
    rw [e _ (by omega)]
    exact z.2.2 k k0 k1

theorem l2_keep {d N : Nat} {P : am_P} {a : Int → Int} {Q : Option am_V → am_S → Prop} {H0 : am_H} {s : Int} (hP : PZ P) (hL : InvL a) (h1 : a 1 ≤ 200) (hs : 0 ≤ s ∧ s < 16) (hr : a (9382 + 62 * s) ≠ 0) (hq : ∀ H' : am_H, (∀ o, o ≠ 30 → H' o = H0 o) → RC H' 10 (dnS a s 200) → Q none (N, P, H')) : ∀ j : Nat, j ≤ 200 → ∀ H : am_H, (∀ o, o ≠ 30 → H o = H0 o) → RC H 10 (dnS a s (j : Int)) → am_WP (am_R (d + 4)) cd_Catalogue_keepReading Q 39 [some (am_r 28), some (am_r 26), some (am_i s), some (am_i (j : Int))] [] (N, P, H) := by
  refine up_ind (n := 200) ?_ ?_
  · intro H hf hC
    refine st_iload_n rfl rfl ?_
    refine st_sipush rfl ?_
    refine st_icmp_ge rfl (fun h41 => ?_) (fun h41 => (by exfalso; omega))
    refine st_ret rfl ?_
    exact hq H hf hC
  · intro j hj ih H hf hC
    have hl := hL.2 s hs.1 hs.2
    have hm := dnS_m (a := a) (s := s) (m := (j : Int)) (j : Int) hs hl.2.1.2 (by omega) (by omega)
    have hr2 : dnS a s (j : Int) (9382 + 62 * s) ≠ 0 := by rw [dnS_k a s _ (by omega) (by omega)]; exact hr
    refine st_iload_n rfl rfl ?_
    refine st_sipush rfl ?_
    refine st_icmp_ge rfl (fun h41 => (by exfalso; omega)) (fun h41 => ?_)
    refine st_aload_n rfl rfl (by decide) ?_
    refine st_iload_n rfl rfl ?_
    refine st_iload_n rfl rfl ?_
    refine st_cv0 (w := []) rfl rfl rfl (Nat.le_of_ble_eq_true rfl) (Nat.le_of_ble_eq_true rfl) rfl rfl (r_Catalogue_traceMark hP (InvL_dn hL j (by omega)) hC (by omega) hs hr2) ?_
    refine st_iinc (ls' := [_, _, _, _]) rfl rfl (by omega) rfl ?_
    refine st_goto rfl ?_
    refine ih _ (fun o ho => by rw [am_up_ne ho]; exact hf o ho) ?_
    rw [dnS_s a s j (by omega), ← hm.1, ← hm.2]
    exact RC_tr (by omega) (by rw [dnS_k a s _ (by omega) (by omega)]; exact h1) hC
def dnB (a : Int → Int) (n : Int) : Int → Int := cpF (dn1 a) 7 (9382 + 62 * a 5 + 2) n
theorem RC_dn {H : am_H} {a : Int → Int} {Y : Int → Int} (hI : Inv a) (hC : RC H 10 a) (h5 : 0 ≤ a 5) (hY : ∀ k, Y k = if a 5 * 60 ≤ k ∧ k < a 5 * 60 + a 6 then a (7 + (k - a 5 * 60)) else H 32 k) : RC (am_so (am_up H 31 (a 5) (a 6)) 32 Y) 10 (dn2 a) := by
  have hn := hI.n
  have hh := hI.h.1
  have hh2 := hI.h.2.1
  have hl := hI.l.2
  have eh : ∀ o : Nat, o ≠ 31 → o ≠ 32 → am_so (am_up H 31 (a 5) (a 6)) 32 Y o = H o := fun o h1 h2 => by rw [am_so_ne _ _ h2, am_up_ne h1]
  have ed1 : ∀ k, k ≠ 9382 + 62 * a 5 → k ≠ 9382 + 62 * a 5 + 1 → dn1 a k = a k := fun k k1 k2 => by unfold dn1; rw [am_uf_ne _ _ k2, am_uf_ne _ _ k1]
  have e : ∀ k, k ≠ 5 → (k < 9382 + 62 * a 5 ∨ 9382 + 62 * a 5 + 62 ≤ k) → dn2 a k = a k := fun k k1 k2 => by
    unfold dn2 cpF
    rw [am_uf_ne _ _ k1, if_neg (by omega), ed1 _ (by omega) (by omega)]
  have e0 : dn2 a (9382 + 62 * a 5) = 1 := by
    unfold dn2 cpF
    rw [am_uf_ne _ _ (by omega), if_neg (by omega)]
    unfold dn1
    rw [am_uf_ne _ _ (by omega), am_uf_eq]
  have e1 : dn2 a (9382 + 62 * a 5 + 1) = a 6 := by
    unfold dn2 cpF
    rw [am_uf_ne _ _ (by omega), if_neg (by omega)]
    unfold dn1
    rw [am_uf_eq]
  have e2 : ∀ k, 0 ≤ k → k < a 6 → dn2 a (9382 + 62 * a 5 + 2 + k) = a (7 + k) := fun k k0 k1 => by
    unfold dn2 cpF
    rw [am_uf_ne _ _ (by omega), if_pos (by omega), ed1 _ (by omega) (by omega)]
    congr 1
    omega
  obtain ⟨q0, q1, q2⟩ := hC
  refine ⟨?_, fun k k0 k1 => ?_, fun s s0 s1 => ?_⟩
  · rw [eh _ (by decide) (by decide), q0, e 1 (by omega) (by omega), cntL_cg (a := a) (fun k k0 k1 => e k (by omega) (by omega)) _ (by omega)]
  · rw [eh (10 + 19) (by decide) (by decide), eh (10 + 20) (by decide) (by decide), e _ (by omega) (by omega), e _ (by omega) (by omega), e _ (by omega) (by omega)]
    exact q1 k k0 k1
  · rw [show am_so (am_up H 31 (a 5) (a 6)) 32 Y (10 + 21) = am_uf (H 31) (a 5) (a 6) by rw [am_so_ne _ _ (by decide)]; exact am_up_eq, show am_so (am_up H 31 (a 5) (a 6)) 32 Y (10 + 22) = Y from am_so_at _ _ _]
    have z := q2 s s0 s1
    by_cases hs : s = a 5
    · rw [hs, e0, e1, am_uf_eq, if_neg (by omega)]
      refine ⟨rfl, fun _ k k0 k1 => ?_⟩
      rw [e2 k k0 k1, hY, if_pos (by omega)]
      congr 1
      omega
    · have hls := hl s s0 s1
      rw [e _ (by omega) (by omega), e _ (by omega) (by omega), am_uf_ne _ _ hs]
      refine ⟨z.1, fun w k k0 k1 => ?_⟩
      rw [e _ (by omega) (by omega), hY, if_neg (by omega)]
      exact z.2 w k k0 k1
theorem InvL_dn2 {a : Int → Int} (hI : Inv a) (h5 : 0 ≤ a 5) : InvL (dn2 a) := by
  have hn := hI.n
  have hh := hI.h.1
  have hh2 := hI.h.2
  have ed1 : ∀ k, k ≠ 9382 + 62 * a 5 → k ≠ 9382 + 62 * a 5 + 1 → dn1 a k = a k := fun k k1 k2 => by unfold dn1; rw [am_uf_ne _ _ k2, am_uf_ne _ _ k1]
  have e : ∀ k, k ≠ 5 → (k < 9382 + 62 * a 5 ∨ 9382 + 62 * a 5 + 62 ≤ k) → dn2 a k = a k := fun k k1 k2 => by
    unfold dn2 cpF
    rw [am_uf_ne _ _ k1, if_neg (by omega), ed1 _ (by omega) (by omega)]
  have e0 : dn2 a (9382 + 62 * a 5) = 1 := by
    unfold dn2 cpF
    rw [am_uf_ne _ _ (by omega), if_neg (by omega)]
    unfold dn1
    rw [am_uf_ne _ _ (by omega), am_uf_eq]
  have e1 : dn2 a (9382 + 62 * a 5 + 1) = a 6 := by
    unfold dn2 cpF
    rw [am_uf_ne _ _ (by omega), if_neg (by omega)]
    unfold dn1
    rw [am_uf_eq]
  have e2 : ∀ k, 0 ≤ k → k < a 6 → dn2 a (9382 + 62 * a 5 + 2 + k) = a (7 + k) := fun k k0 k1 => by
    unfold dn2 cpF
    rw [am_uf_ne _ _ (by omega), if_pos (by omega), ed1 _ (by omega) (by omega)]
    congr 1
    omega
  obtain ⟨q1, q2⟩ := hI.l
  refine ⟨fun m m0 m1 => ?_, fun t t0 t1 => ?_⟩
  · rw [e (8782 + m) (by omega) (by omega), e 2 (by omega) (by omega), e 1 (by omega) (by omega), e (8982 + m) (by omega) (by omega), e (9182 + m) (by omega) (by omega)]
    exact q1 m m0 m1
  · have z := q2 t t0 t1
    rw [e 1 (by omega) (by omega)]
    by_cases hs : t = a 5
    · subst hs
      rw [e0, e1]
      refine ⟨Or.inr rfl, hh2.1, fun k k0 k1 => ?_⟩
      rw [e2 k k0 k1]
      exact hh2.2 k k0 k1
    · rw [e _ (by omega) (by omega), e _ (by omega) (by omega)]
      refine ⟨z.1, z.2.1, fun k k0 k1 => ?_⟩
      rw [e _ (by omega) (by omega)]
      exact z.2.2 k k0 k1

theorem c_keep {d N : Nat} {P : am_P} {H : am_H} {a : Int → Int} (hP : PZ P) (hI : Inv a) (hR : RR H 10 a) (hC : RC H 10 a) (h5 : 0 ≤ a 5) : am_C (d + 5) 146 [am_r 28, am_r 26] (N, P, H) (fun v σ => v = none ∧ ∃ H' : am_H, σ = (N, P, H') ∧ (∀ o, (o < 30 ∨ 32 < o) → H' o = H o) ∧ RC H' 10 (dnS (dn2 a) (a 5) 200)) := by
  refine am_enC (d := d + 4) (ml := 4) (ls := [_, _, _, _]) cq_Catalogue_keepReading rfl (Nat.le_of_ble_eq_true rfl) rfl ?_
  have hn := hI.n
  have hh := hI.h.1
  have hh2 := hI.h.2.1
  have r0 : H 26 0 = a 5 := hR.1
  have r1 : H 26 1 = a 6 := (hR.2 h5).1
  have hRj : ∀ j : Nat, RR (am_so (am_up H 31 (a 5) (a 6)) 32 (pfy (fun i => a (7 + (i : Int))) (H 32) (a 5 * 60) j)) 10 a := fun j => RR.so (RR.so hR (by decide)) (by decide)
  have e26 : ∀ j : Nat, (am_so (am_up H 31 (a 5) (a 6)) 32 (pfy (fun i => a (7 + (i : Int))) (H 32) (a 5 * 60) j)) 26 1 = a 6 := fun j => r1
  refine st_aload_n rfl rfl (by decide) ?_
  refine st_getI (kk := 0) rfl rfl (by decide) rfl ?_
  refine st_istore_n (ls' := [_, _, _, _]) rfl (Nat.le_of_ble_eq_true rfl) rfl ?_
  refine st_iload_n rfl rfl ?_
  refine st_if_lt rfl (fun h4 => (by exfalso; omega)) (fun h4 => ?_)
  refine st_iload_n rfl rfl ?_
  refine st_bipush rfl ?_
  refine st_icmp_lt rfl (fun h7 => ?_) (fun h7 => (by exfalso; omega))
  refine st_aload_n rfl rfl (by decide) ?_
  refine st_getR (kk := 3) rfl rfl rfl (pz_28_3 hP) rfl ?_
  refine st_iload_n rfl rfl ?_
  refine st_aload_n rfl rfl (by decide) ?_
  refine st_getI (kk := 1) rfl rfl (by decide) rfl ?_
  refine st_iastore rfl rfl (by omega) (by omega) ?_
  refine st_iconst rfl ?_
  refine st_istore_n (ls' := [_, _, _, _]) rfl (Nat.le_of_ble_eq_true rfl) rfl ?_
  rw [r0, r1, show am_up H 31 (a 5) (a 6) = am_so (am_up H 31 (a 5) (a 6)) 32 (pfy (fun i => a (7 + (i : Int))) (H 32) (a 5 * 60) 0) by rw [pfy_0]; exact (am_so_self (am_up H 31 (a 5) (a 6)) 32).symm]
  suffices hz : ∀ j, j ≤ (a 6).toNat → am_WP (am_R (d + 4)) cd_Catalogue_keepReading _ 17 [some (am_r 28), some (am_r 26), some (am_i (a 5)), some (am_i (j : Int))] [] (N, P, am_so (am_up H 31 (a 5) (a 6)) 32 (pfy (fun i => a (7 + (i : Int))) (H 32) (a 5 * 60) j)) from hz 0 (Nat.zero_le _)
  refine up_ind (n := (a 6).toNat) ?_ ?_
  · refine st_iload_n rfl rfl ?_
    refine st_aload_n rfl rfl (by decide) ?_
    refine st_getI (kk := 1) rfl rfl (by decide) rfl ?_
    rw [e26]
    refine st_icmp_ge rfl (fun h20 => ?_) (fun h20 => (by exfalso; omega))
    refine st_iconst rfl ?_
    refine st_istore_n (ls' := [_, _, _, _]) rfl (Nat.le_of_ble_eq_true rfl) rfl ?_
    refine l2_keep (H0 := am_so (am_up H 31 (a 5) (a 6)) 32 (pfy (fun i => a (7 + (i : Int))) (H 32) (a 5 * 60) (a 6).toNat)) hP (InvL_dn2 hI h5) (by rw [show dn2 a 1 = a 1 by unfold dn2 cpF dn1; rw [am_uf_ne _ _ (by omega), if_neg (by omega), am_uf_ne _ _ (by omega), am_uf_ne _ _ (by omega)]]; omega) (by omega) (by rw [show dn2 a (9382 + 62 * a 5) = 1 by unfold dn2 cpF dn1; rw [am_uf_ne _ _ (by omega), if_neg (by omega), am_uf_ne _ _ (by omega), am_uf_eq]]; omega) (fun H' hf hC' => ⟨rfl, H', rfl, fun o ho => ?_, hC'⟩) 0 (Nat.zero_le _) _ (fun _ _ => rfl) ?_
    · rw [show ((0 : Nat) : Int) = 0 from rfl, dnS_0]
      refine RC_dn hI hC h5 (fun k => ?_)
      unfold pfy
      by_cases hk : a 5 * 60 ≤ k ∧ k < a 5 * 60 + a 6
      · rw [if_pos (by omega), if_pos hk]
        show a (7 + (((k - a 5 * 60).toNat : Nat) : Int)) = a (7 + (k - a 5 * 60))
        rw [show (((k - a 5 * 60).toNat : Nat) : Int) = k - a 5 * 60 by omega]
      · rw [if_neg (by omega), if_neg hk]
    · rw [hf o (by omega), am_so_ne _ _ (by omega), am_up_ne (by omega)]
  · intro j hj ih
    refine st_iload_n rfl rfl ?_
    refine st_aload_n rfl rfl (by decide) ?_
    refine st_getI (kk := 1) rfl rfl (by decide) rfl ?_
    rw [e26]
    refine st_icmp_ge rfl (fun h20 => (by exfalso; omega)) (fun h20 => ?_)
    refine st_iload_n rfl rfl ?_
    refine st_bipush rfl ?_
    refine st_icmp_ge rfl (fun h23 => (by exfalso; omega)) (fun h23 => ?_)
    refine st_aload_n rfl rfl (by decide) ?_
    refine st_getR (kk := 4) rfl rfl rfl (pz_28_4 hP) rfl ?_
    refine st_iload_n rfl rfl ?_
    refine st_bipush rfl ?_
    refine st_imul rfl (by omega) ?_
    refine st_iload_n rfl rfl ?_
    refine st_iadd rfl (by omega) ?_
    refine st_aload_n rfl rfl (by decide) ?_
    refine st_iload_n rfl rfl ?_
    refine st_cv1 (w := [_, _]) rfl rfl rfl (Nat.le_of_ble_eq_true rfl) (Nat.le_of_ble_eq_true rfl) rfl rfl (r_Reading_markAt hP hI (hRj j) h5) ?_
    rw [show rdA a (j : Int) = a (7 + (j : Int)) from if_pos (by omega)]
    refine st_iastore rfl rfl (by omega) (by omega) ?_
    refine st_iinc (ls' := [_, _, _, _]) rfl rfl (by omega) rfl ?_
    refine st_goto rfl ?_
    rw [show am_up (am_so (am_up H 31 (a 5) (a 6)) 32 (pfy (fun i => a (7 + (i : Int))) (H 32) (a 5 * 60) j)) 32 (a 5 * 60 + (j : Int)) (a (7 + (j : Int))) = am_so (am_up H 31 (a 5) (a 6)) 32 (pfy (fun i => a (7 + (i : Int))) (H 32) (a 5 * 60) (j + 1)) by unfold am_up; rw [am_so_so, am_so_at, pfy_s]]
    exact ih
theorem r_Catalogue_countGone {d N : Nat} {P : am_P} {H : am_H} {s : Int} {a : Int → Int} (hP : PZ P) (hL : InvL a) (hC : RC H 10 a) (hs : 0 ≤ s ∧ s < 16) (hr : a (9382 + 62 * s) ≠ 0) : am_R (d + 4) 145 [am_r 28, am_i (s)] (N, P, H) (some (am_i (goL a s 200))) (N, P, H) := by
  refine am_en1 (d := d + 3) (ml := 4) (ls := [_, _, _, _]) cq_Catalogue_countGone rfl (Nat.le_of_ble_eq_true rfl) rfl ?_
  have c1 : ∀ m, 0 ≤ m → m < 200 → H 29 m = a (8782 + m) ∧ H 30 m = a (8982 + m) + a (9182 + m) := hC.2.1
  have hoa := fun m => ofA_is (m := m) ⟨hs, hr⟩
  refine st_iconst rfl ?_
  refine st_istore_n (ls' := [_, _, _, _]) rfl (Nat.le_of_ble_eq_true rfl) rfl ?_
  refine st_iconst rfl ?_
  refine st_istore_n (ls' := [_, _, _, _]) rfl (Nat.le_of_ble_eq_true rfl) rfl ?_
  suffices hz : ∀ j, j ≤ 200 → am_WP (am_R (d + 3)) cd_Catalogue_countGone (fun v' s' => v' = some (am_i (goL a s 200)) ∧ s' = (N, P, H)) 4 [some (am_r 28), some (am_i s), some (am_i (goL a s j)), some (am_i (j : Int))] [] (N, P, H) from hz 0 (Nat.zero_le _)
  refine up_ind (n := 200) ?_ ?_
  · refine st_iload_n rfl rfl ?_
    refine st_sipush rfl ?_
    refine st_icmp_ge rfl (fun h6 => ?_) (fun h6 => (by exfalso; omega))
    refine st_iload_n rfl rfl ?_
    refine st_iret rfl (fun z => by first | exact absurd z (by decide) | exact bi_01 _ | decide | omega) ?_
    exact ⟨rfl, rfl⟩
  · intro j hj ih
    have hg := goL_r a s j
    have hof := ofF_r (a := a) (s := s) (m := (j : Int))
    have hls : lsA a (j : Int) = a (8782 + (j : Int)) := if_pos (by omega)
    refine st_iload_n rfl rfl ?_
    refine st_sipush rfl ?_
    refine st_icmp_ge rfl (fun h6 => (by exfalso; omega)) (fun h6 => ?_)
    refine st_aload_n rfl rfl (by decide) ?_
    refine st_iload_n rfl rfl ?_
    refine st_iload_n rfl rfl ?_
    refine st_cv1 (w := []) rfl rfl rfl (Nat.le_of_ble_eq_true rfl) (Nat.le_of_ble_eq_true rfl) rfl rfl (r_Catalogue_isGone hP hL hC) ?_
    rw [hls, hoa]
    refine st_if_eq_b rfl (fun h11 => ?_) (fun h11 => ?_)
    · refine st_iinc (ls' := [_, _, _, _]) rfl rfl (by omega) rfl ?_
      refine st_goto rfl ?_
      first
      | (rw [show goL a s (j + 1) = goL a s j from if_neg (by omega)] at ih; exact ih)
      | (rw [show goL a s (j + 1) = goL a s j + 1 from if_pos (by omega)] at ih; exact ih)
    · refine st_iinc (ls' := [_, _, _, _]) rfl rfl (by omega) rfl ?_
      refine st_iinc (ls' := [_, _, _, _]) rfl rfl (by omega) rfl ?_
      refine st_goto rfl ?_
      first
      | (rw [show goL a s (j + 1) = goL a s j from if_neg (by omega)] at ih; exact ih)
      | (rw [show goL a s (j + 1) = goL a s j + 1 from if_pos (by omega)] at ih; exact ih)
theorem r_Catalogue_isSuch {d N : Nat} {P : am_P} {H : am_H} {s w m : Int} {a : Int → Int} (hP : PZ P) (hL : InvL a) (hC : RC H 10 a) (hs : 0 ≤ s ∧ s < 16) (hr : a (9382 + 62 * s) ≠ 0) (hm : 0 ≤ m ∧ m < 200) : am_R (d + 4) 148 [am_r 28, am_i (s), am_i (w), am_i (m)] (N, P, H) (some (am_i (bi (isS a s w m)))) (N, P, H) := by
  refine am_en1 (d := d + 3) (ml := 4) (ls := [_, _, _, _]) cq_Catalogue_isSuch rfl (Nat.le_of_ble_eq_true rfl) rfl ?_
  have c1 : ∀ m, 0 ≤ m → m < 200 → H 29 m = a (8782 + m) ∧ H 30 m = a (8982 + m) + a (9182 + m) := hC.2.1
  have hoa := ofA_is (m := m) ⟨hs, hr⟩
  have hls : lsA a m = a (8782 + m) := if_pos hm
  have hq := (hL.1 m hm.1 hm.2).2.2
  have hc := c1 m hm.1 hm.2
  have hof := ofF_r (a := a) (s := s) (m := m)
  refine st_iload_n rfl rfl ?_
  by_cases h1_0 : w = 0
  · refine st_swC (c := 0) rfl h1_0 (t := 2) (by decide +kernel) ?_
    refine st_aload_n rfl rfl (by decide) ?_
    refine st_iload_n rfl rfl ?_
    refine st_iload_n rfl rfl ?_
    refine st_cv1 (w := []) rfl rfl rfl (Nat.le_of_ble_eq_true rfl) (Nat.le_of_ble_eq_true rfl) rfl rfl (r_Catalogue_isGone hP hL hC) ?_
    rw [hls, hoa]
    refine st_iret rfl (fun z => by first | exact absurd z (by decide) | exact bi_01 _ | decide | omega) ?_
    exact ⟨am_ri (by first | exact bi_iff (by omega) | exact (bi_t (by omega)).symm | exact (bi_f (by omega)).symm), rfl⟩
  by_cases h1_1 : w = 1
  · refine st_swC (c := 1) rfl h1_1 (t := 7) (by decide +kernel) ?_
    refine st_aload_n rfl rfl (by decide) ?_
    refine st_iload_n rfl rfl ?_
    refine st_iload_n rfl rfl ?_
    refine st_cv1 (w := []) rfl rfl rfl (Nat.le_of_ble_eq_true rfl) (Nat.le_of_ble_eq_true rfl) rfl rfl (r_Catalogue_timesRead hP hL hC) ?_
    rw [hoa]
    refine st_iconst rfl ?_
    refine st_icmp_le rfl (fun h12 => ?_) (fun h12 => ?_)
    · refine st_iconst rfl ?_
      refine st_iret rfl (fun z => by first | exact absurd z (by decide) | exact bi_01 _ | decide | omega) ?_
      exact ⟨am_ri (by first | exact bi_iff (by omega) | exact (bi_t (by omega)).symm | exact (bi_f (by omega)).symm), rfl⟩
    · refine st_iconst rfl ?_
      refine st_goto rfl ?_
      refine st_iret rfl (fun z => by first | exact absurd z (by decide) | exact bi_01 _ | decide | omega) ?_
      exact ⟨am_ri (by first | exact bi_iff (by omega) | exact (bi_t (by omega)).symm | exact (bi_f (by omega)).symm), rfl⟩
  by_cases h1_2 : w = 2
  · refine st_swC (c := 2) rfl h1_2 (t := 17) (by decide +kernel) ?_
    refine st_iload_n rfl rfl ?_
    refine st_cs1 (w := []) rfl (by decide) (by decide) (by decide) (Nat.le_of_ble_eq_true rfl) (Nat.le_of_ble_eq_true rfl) rfl rfl (r_Catalogue_isMark) ?_
    refine st_if_eq_b rfl (fun h19 => (by exfalso; omega)) (fun h19 => ?_)
    refine st_aload_n rfl rfl (by decide) ?_
    refine st_getR (kk := 1) rfl rfl rfl (pz_28_1 hP) rfl ?_
    refine st_iload_n rfl rfl ?_
    refine st_iaload rfl rfl (by omega) (by omega) ?_
    rw [hc.1]
    refine st_iload_n rfl rfl ?_
    refine st_icmp_ne rfl (fun h25 => ?_) (fun h25 => ?_)
    · refine st_iconst rfl ?_
      refine st_iret rfl (fun z => by first | exact absurd z (by decide) | exact bi_01 _ | decide | omega) ?_
      exact ⟨am_ri (by first | exact bi_iff (by omega) | exact (bi_t (by omega)).symm | exact (bi_f (by omega)).symm), rfl⟩
    · refine st_aload_n rfl rfl (by decide) ?_
      refine st_getR (kk := 2) rfl rfl rfl (pz_28_2 hP) rfl ?_
      refine st_iload_n rfl rfl ?_
      refine st_iaload rfl rfl (by omega) (by omega) ?_
      rw [hc.2]
      refine st_iconst rfl ?_
      refine st_icmp_ne rfl (fun h31 => ?_) (fun h31 => ?_)
      · refine st_iconst rfl ?_
        refine st_iret rfl (fun z => by first | exact absurd z (by decide) | exact bi_01 _ | decide | omega) ?_
        exact ⟨am_ri (by first | exact bi_iff (by omega) | exact (bi_t (by omega)).symm | exact (bi_f (by omega)).symm), rfl⟩
      · refine st_iconst rfl ?_
        refine st_goto rfl ?_
        refine st_iret rfl (fun z => by first | exact absurd z (by decide) | exact bi_01 _ | decide | omega) ?_
        exact ⟨am_ri (by first | exact bi_iff (by omega) | exact (bi_t (by omega)).symm | exact (bi_f (by omega)).symm), rfl⟩
  refine st_swD rfl (by omega) (t := 36) (by decide +kernel) ?_
  refine st_iconst rfl ?_
  refine st_iret rfl (fun z => by first | exact absurd z (by decide) | exact bi_01 _ | decide | omega) ?_
  exact ⟨am_ri (by first | exact bi_iff (by omega) | exact (bi_t (by omega)).symm | exact (bi_f (by omega)).symm), rfl⟩
