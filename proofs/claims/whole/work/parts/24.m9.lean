/-! ===== the reference: moving, reading a shelf, ending a reading ===== -/
def mvG (a R : Int → Int) (n fr t : Int) : Int → Int := am_uf (srF (slF a (7 + fr) (n - 1 - fr)) (7 + (n - 1)) (n - 1 - t)) (7 + t) (seeF a fr)
def mvFr (a R : Int → Int) : Int := wrL R (manF a).toNat 0
def mvTo (a R : Int → Int) : Int := toL a R (seeF a (mvFr a R)) (mvFr a R) (manF a).toNat
theorem toL_r (a R : Int → Int) (m w : Int) : ∀ j : Nat, 0 ≤ toL a R m w j ∧ toL a R m w j ≤ (j : Int)
  | 0 => by simp only [toL]; omega
  | j + 1 => by
    have ih := toL_r a R m w j
    simp only [toL]
    split
    · split <;> omega
    · omega
/-- where a place that isn't right is left out, the new place is within -/
theorem toL_w {a R : Int → Int} {m w : Int} (hw : R w = 0) (h0 : 0 ≤ w) : ∀ j : Nat, w < (j : Int) → toL a R m w j < (j : Int)
  | 0, h => by simp only [toL]; omega
  | j + 1, h => by
    have ih := toL_r a R m w j
    simp only [toL]
    split
    · rename_i hc
      split
      · omega
      · have : w ≠ (j : Int) := fun q => hc.1 (by rw [← q]; exact hw)
        omega
    · omega

theorem r_Model_move {d N : Nat} {P : am_P} {H : am_H}  (hP : PZ P) (hI : Inv (H 54)) : am_R (d + 6) 111 [am_r 53] (N, P, H) (some (am_i (if bsF (H 54) (H 62) = manF (H 54) then -1 else 100 * mvFr (H 54) (rgF (H 54) (H 62) (H 63)) + mvTo (H 54) (rgF (H 54) (H 62) (H 63))))) (N, P, if bsF (H 54) (H 62) = manF (H 54) then rgH H else am_so (rgH H) 54 (mvG (H 54) (rgF (H 54) (H 62) (H 63)) (manF (H 54)) (mvFr (H 54) (rgF (H 54) (H 62) (H 63))) (mvTo (H 54) (rgF (H 54) (H 62) (H 63))))) := by
  refine am_en1 (d := d + 5) (ml := 6) (ls := [_, _, _, _, _, _]) cq_Model_move rfl (Nat.le_of_ble_eq_true rfl) rfl ?_
  have hm := man_r hI
  have hb := bsT_r (a := H 54) (T0 := H 62) (n := manF (H 54)) (manF (H 54)).toNat (by omega)
  have e54 : rgH H 54 = H 54 := rgH_o H (by decide) (by decide)
  have ek : ∀ k, rgH H 54 (5 + 2 + k) = seeF (H 54) k := fun k => by rw [e54]; rfl
  have eb : bsF (H 54) (H 62) = bsT (H 54) (H 62) (manF (H 54)) (manF (H 54)).toNat := rfl
  refine st_aload_n rfl rfl (by decide) ?_
  refine st_cv1 (w := []) rfl rfl rfl (Nat.le_of_ble_eq_true rfl) (Nat.le_of_ble_eq_true rfl) rfl rfl (r_Model_many hP) ?_
  rw [show (if H 54 5 < 0 then 0 else H 54 6) = manF (H 54) from rfl]
  refine st_istore_n (ls' := [_, _, _, _, _, _]) rfl (Nat.le_of_ble_eq_true rfl) rfl ?_
  refine st_iload_n rfl rfl ?_
  refine st_aload_n rfl rfl (by decide) ?_
  refine st_cv1 (w := [_]) rfl rfl rfl (Nat.le_of_ble_eq_true rfl) (Nat.le_of_ble_eq_true rfl) rfl rfl (r_Model_rights hP hI) ?_
  refine st_icmp_ne rfl (fun h6 => ?_) (fun h6 => ?_)
  · refine st_iconst rfl ?_
    refine st_istore_n (ls' := [_, _, _, _, _, _]) rfl (Nat.le_of_ble_eq_true rfl) rfl ?_
    obtain ⟨z0, hz0, hz1, hz2⟩ := wr_ex hI (H 62) (H 63) (by omega)
    have hz01 := fun (k : Int) (q0 : 0 ≤ k) (q1 : k < manF (H 54)) => rgF_01 hI (H 62) (H 63) q0 q1
    generalize hRR : rgF (H 54) (H 62) (H 63) = R at hz2 hz01 ⊢
    have e63 : rgH H 63 = R := by rw [rgH_63, hRR]
    have hwr := wrL_r (R := R) (manF (H 54)).toNat 0 z0 hz0 (by omega) hz2
    suffices hloop : ∀ (f : Nat) (i : Int), i + f = manF (H 54) → 0 ≤ i → i ≤ wrL R (manF (H 54)).toNat 0 → wrL R f i = wrL R (manF (H 54)).toNat 0 → am_WP (am_R (d + 5)) cd_Model_move (fun v' s' => v' = some (am_i (if bsF (H 54) (H 62) = manF (H 54) then -1 else 100 * mvFr (H 54) R + mvTo (H 54) R)) ∧ s' = (N, P, if bsF (H 54) (H 62) = manF (H 54) then rgH H else am_so (rgH H) 54 (mvG (H 54) R (manF (H 54)) (mvFr (H 54) R) (mvTo (H 54) R)))) 11 [some (am_r 53), some (am_i (manF (H 54))), some (am_i i), none, none, none] [] (N, P, rgH H) from hloop (manF (H 54)).toNat 0 (by omega) (by omega) (by omega) rfl
    have hgo : am_WP (am_R (d + 5)) cd_Model_move (fun v' s' => v' = some (am_i (if bsF (H 54) (H 62) = manF (H 54) then -1 else 100 * mvFr (H 54) R + mvTo (H 54) R)) ∧ s' = (N, P, if bsF (H 54) (H 62) = manF (H 54) then rgH H else am_so (rgH H) 54 (mvG (H 54) R (manF (H 54)) (mvFr (H 54) R) (mvTo (H 54) R)))) 18 [some (am_r 53), some (am_i (manF (H 54))), some (am_i (mvFr (H 54) R)), none, none, none] [] (N, P, rgH H) := by
      have hfr : 0 ≤ mvFr (H 54) R ∧ mvFr (H 54) R < manF (H 54) ∧ R (mvFr (H 54) R) = 0 := ⟨hwr.1, by unfold mvFr; omega, hwr.2.2⟩
      have hmf := hm.2.2 _ hfr.1 hfr.2.1
      have hmvf := hI.mv hmf.1 hmf.2
      have hto := toL_r (H 54) R (seeF (H 54) (mvFr (H 54) R)) (mvFr (H 54) R) (manF (H 54)).toNat
      have hto2 := toL_w (a := H 54) (m := seeF (H 54) (mvFr (H 54) R)) hfr.2.2 hfr.1 (manF (H 54)).toNat (by omega)
      have eto : mvTo (H 54) R = toL (H 54) R (seeF (H 54) (mvFr (H 54) R)) (mvFr (H 54) R) (manF (H 54)).toNat := rfl
      generalize hF : mvFr (H 54) R = F at *
      refine st_aload_n rfl rfl (by decide) ?_
      refine st_iload_n rfl rfl ?_
      refine st_cv1 (w := []) rfl rfl rfl (Nat.le_of_ble_eq_true rfl) (Nat.le_of_ble_eq_true rfl) rfl rfl (r_Model_seenAt (H := rgH H) hP (by omega) (by omega)) ?_
      rw [ek]
      refine st_istore_n (ls' := [_, _, _, _, _, _]) rfl (Nat.le_of_ble_eq_true rfl) rfl ?_
      refine st_iconst rfl ?_
      refine st_istore (ls' := [_, _, _, _, _, _]) rfl (Nat.le_of_ble_eq_true rfl) rfl ?_
      refine st_iconst rfl ?_
      refine st_istore (ls' := [_, _, _, _, _, _]) rfl (Nat.le_of_ble_eq_true rfl) rfl ?_
      refine up_ind (n := (manF (H 54)).toNat) (p := fun j => am_WP (am_R (d + 5)) cd_Model_move _ 26 [some (am_r 53), some (am_i (manF (H 54))), some (am_i F), some (am_i (seeF (H 54) F)), some (am_i (toL (H 54) R (seeF (H 54) F) F j)), some (am_i (j : Int))] [] (N, P, rgH H)) ?_ ?_ 0 (Nat.zero_le _)
      · show am_WP _ _ _ _ _ _ _
        refine st_iload rfl rfl ?_
        refine st_iload_n rfl rfl ?_
        refine st_icmp_ge rfl (fun h28 => ?_) (fun h28 => (by exfalso; omega))
        refine st_iload_n rfl rfl ?_
        refine st_istore (ls' := [_, _, _, _, _, _]) rfl (Nat.le_of_ble_eq_true rfl) rfl ?_
        rw [← eto]
        suffices hl3 : ∀ j, j ≤ (manF (H 54) - 1 - F).toNat → am_WP (am_R (d + 5)) cd_Model_move _ 56 [some (am_r 53), some (am_i (manF (H 54))), some (am_i F), some (am_i (seeF (H 54) F)), some (am_i (mvTo (H 54) R)), some (am_i (F + (j : Int)))] [] (N, P, am_so (rgH H) 54 (slF (H 54) (7 + F) (j : Int))) by
          have := hl3 0 (Nat.zero_le _)
          rw [show F + ((0 : Nat) : Int) = F by omega, show ((0 : Nat) : Int) = 0 from rfl, slF_0, show am_so (rgH H) 54 (H 54) = rgH H by rw [← e54]; exact am_so_self (rgH H) 54] at this
          exact this
        refine up_ind (n := (manF (H 54) - 1 - F).toNat) ?_ ?_
        · refine st_iload rfl rfl ?_
          refine st_iconst rfl ?_
          refine st_iadd rfl (by omega) ?_
          refine st_iload_n rfl rfl ?_
          refine st_icmp_ge rfl (fun h60 => ?_) (fun h60 => (by exfalso; omega))
          refine st_iload_n rfl rfl ?_
          refine st_iconst rfl ?_
          refine st_isub rfl (by omega) ?_
          refine st_istore (ls' := [_, _, _, _, _, _]) rfl (Nat.le_of_ble_eq_true rfl) rfl ?_
          rw [show (((manF (H 54) - 1 - F).toNat : Nat) : Int) = manF (H 54) - 1 - F by omega]
          suffices hl4 : ∀ j, j ≤ (manF (H 54) - 1 - mvTo (H 54) R).toNat → am_WP (am_R (d + 5)) cd_Model_move _ 79 [some (am_r 53), some (am_i (manF (H 54))), some (am_i F), some (am_i (seeF (H 54) F)), some (am_i (mvTo (H 54) R)), some (am_i (manF (H 54) - 1 - (j : Int)))] [] (N, P, am_so (rgH H) 54 (srF (slF (H 54) (7 + F) (manF (H 54) - 1 - F)) (7 + (manF (H 54) - 1)) (j : Int))) by
            have := hl4 0 (Nat.zero_le _)
            rw [show manF (H 54) - 1 - ((0 : Nat) : Int) = manF (H 54) - 1 by omega, show ((0 : Nat) : Int) = 0 from rfl, srF_0] at this
            exact this
          refine up_ind (n := (manF (H 54) - 1 - mvTo (H 54) R).toNat) ?_ ?_
          · rw [show (((manF (H 54) - 1 - mvTo (H 54) R).toNat : Nat) : Int) = manF (H 54) - 1 - mvTo (H 54) R by omega]
            refine st_iload rfl rfl ?_
            refine st_iload rfl rfl ?_
            refine st_icmp_le rfl (fun h81 => ?_) (fun h81 => (by exfalso; omega))
            refine st_aload_n rfl rfl (by decide) ?_
            refine st_getR (kk := 0) rfl rfl rfl (pz_53_0 hP) rfl ?_
            refine st_bipush rfl ?_
            refine st_iload rfl rfl ?_
            refine st_iadd rfl (by omega) ?_
            refine st_iload_n rfl rfl ?_
            refine st_iastore rfl rfl (by omega) (by omega) ?_
            refine st_bipush rfl ?_
            refine st_iload_n rfl rfl ?_
            refine st_imul rfl (by omega) ?_
            refine st_iload rfl rfl ?_
            refine st_iadd rfl (by omega) ?_
            refine st_iret rfl (fun z => by first | exact absurd z (by decide) | exact bi_01 _ | decide | omega) ?_
            refine ⟨am_ri (by rw [if_neg (by omega)]), ?_⟩
            rw [if_neg (by omega)]
            unfold mvG
            simp only [am_up, am_so_so, am_so_at]
          · intro j hj ih
            refine st_iload rfl rfl ?_
            refine st_iload rfl rfl ?_
            refine st_icmp_le rfl (fun h81 => (by exfalso; omega)) (fun h81 => ?_)
            refine st_aload_n rfl rfl (by decide) ?_
            refine st_getR (kk := 0) rfl rfl rfl (pz_53_0 hP) rfl ?_
            refine st_bipush rfl ?_
            refine st_iload rfl rfl ?_
            refine st_iadd rfl (by omega) ?_
            refine st_aload_n rfl rfl (by decide) ?_
            refine st_getR (kk := 0) rfl rfl rfl (pz_53_0 hP) rfl ?_
            refine st_bipush rfl ?_
            refine st_iload rfl rfl ?_
            refine st_iadd rfl (by omega) ?_
            refine st_iaload rfl rfl (by omega) (by omega) ?_
            rw [am_so_at]
            refine st_iastore rfl rfl (by omega) (by omega) ?_
            refine st_iinc (ls' := [_, _, _, _, _, _]) rfl rfl (by omega) rfl ?_
            refine st_goto rfl ?_
            rw [show am_up (am_so (rgH H) 54 (srF (slF (H 54) (7 + F) (manF (H 54) - 1 - F)) (7 + (manF (H 54) - 1)) (j : Int))) 54 (7 + (manF (H 54) - 1 - (j : Int))) (srF (slF (H 54) (7 + F) (manF (H 54) - 1 - F)) (7 + (manF (H 54) - 1)) (j : Int) (6 + (manF (H 54) - 1 - (j : Int)))) = am_so (rgH H) 54 (srF (slF (H 54) (7 + F) (manF (H 54) - 1 - F)) (7 + (manF (H 54) - 1)) ((j + 1 : Nat) : Int)) by rw [← srF_s, show 7 + (manF (H 54) - 1 - (j : Int)) = 7 + (manF (H 54) - 1) - (j : Int) by omega, show 6 + (manF (H 54) - 1 - (j : Int)) = 7 + (manF (H 54) - 1) - (j : Int) - 1 by omega]; simp only [am_up, am_so_so, am_so_at]]
            rw [show manF (H 54) - 1 - (j : Int) + -1 = manF (H 54) - 1 - ((j + 1 : Nat) : Int) by omega]
            exact ih
        · intro j hj ih
          refine st_iload rfl rfl ?_
          refine st_iconst rfl ?_
          refine st_iadd rfl (by omega) ?_
          refine st_iload_n rfl rfl ?_
          refine st_icmp_ge rfl (fun h60 => (by exfalso; omega)) (fun h60 => ?_)
          refine st_aload_n rfl rfl (by decide) ?_
          refine st_getR (kk := 0) rfl rfl rfl (pz_53_0 hP) rfl ?_
          refine st_bipush rfl ?_
          refine st_iload rfl rfl ?_
          refine st_iadd rfl (by omega) ?_
          refine st_aload_n rfl rfl (by decide) ?_
          refine st_getR (kk := 0) rfl rfl rfl (pz_53_0 hP) rfl ?_
          refine st_bipush rfl ?_
          refine st_iload rfl rfl ?_
          refine st_iadd rfl (by omega) ?_
          refine st_iaload rfl rfl (by omega) (by omega) ?_
          rw [am_so_at]
          refine st_iastore rfl rfl (by omega) (by omega) ?_
          refine st_iinc (ls' := [_, _, _, _, _, _]) rfl rfl (by omega) rfl ?_
          refine st_goto rfl ?_
          rw [show am_up (am_so (rgH H) 54 (slF (H 54) (7 + F) (j : Int))) 54 (7 + (F + (j : Int))) (slF (H 54) (7 + F) (j : Int) (8 + (F + (j : Int)))) = am_so (rgH H) 54 (slF (H 54) (7 + F) ((j + 1 : Nat) : Int)) by rw [← slF_s, show 7 + (F + (j : Int)) = 7 + F + (j : Int) by omega, show 8 + (F + (j : Int)) = 7 + F + (j : Int) + 1 by omega]; simp only [am_up, am_so_so, am_so_at]]
          rw [show F + (j : Int) + 1 = F + ((j + 1 : Nat) : Int) by omega]
          exact ih
      · intro j hj ih
        have ih : am_WP _ _ _ _ _ _ _ := ih
        show am_WP _ _ _ _ _ _ _
        have hkj := hm.2.2 (j : Int) (by omega) (by omega)
        have hmvk := hI.mv hkj.1 hkj.2
        have hr01 := hz01 (j : Int) (by omega) (by omega)
        have htj := toL_r (H 54) R (seeF (H 54) F) F j
        refine st_iload rfl rfl ?_
        refine st_iload_n rfl rfl ?_
        refine st_icmp_ge rfl (fun h28 => (by exfalso; omega)) (fun h28 => ?_)
        refine st_aload_n rfl rfl (by decide) ?_
        refine st_getR (kk := 15) rfl rfl rfl (pz_53_15 hP) rfl ?_
        refine st_iload rfl rfl ?_
        refine st_baload rfl rfl (Or.inr rfl) (by omega) (by omega) ?_
        rw [e63]
        refine st_if_eq rfl (fun h33 => ?_) (fun h33 => ?_)
        · refine st_iinc (ls' := [_, _, _, _, _, _]) rfl rfl (by omega) rfl ?_
          refine st_goto rfl ?_
          first
          | (rw [show toL (H 54) R (seeF (H 54) F) F (j + 1) = toL (H 54) R (seeF (H 54) F) F j by simp only [toL]; rw [if_neg (by omega)]] at ih; exact ih)
          | (rw [show toL (H 54) R (seeF (H 54) F) F (j + 1) = (j : Int) - 1 + 1 by simp only [toL]; rw [if_pos (by omega), if_pos (by omega)]; omega] at ih; exact ih)
          | (rw [show toL (H 54) R (seeF (H 54) F) F (j + 1) = (j : Int) + 1 by simp only [toL]; rw [if_pos (by omega), if_neg (by omega)]] at ih; exact ih)
        · refine st_aload_n rfl rfl (by decide) ?_
          refine st_iload_n rfl rfl ?_
          refine st_aload_n rfl rfl (by decide) ?_
          refine st_iload rfl rfl ?_
          refine st_cv1 (w := [_, _]) rfl rfl rfl (Nat.le_of_ble_eq_true rfl) (Nat.le_of_ble_eq_true rfl) rfl rfl (r_Model_seenAt (H := rgH H) hP (by omega) (by omega)) ?_
          rw [ek]
          refine st_cv1 (w := []) rfl rfl rfl (Nat.le_of_ble_eq_true rfl) (Nat.le_of_ble_eq_true rfl) rfl rfl (r_Model_compared (H := rgH H) hP (by rw [e54]; exact hmvf) (by rw [e54]; exact hmvk)) ?_
          rw [e54]
          refine st_if_lt rfl (fun h40 => ?_) (fun h40 => ?_)
          · refine st_iinc (ls' := [_, _, _, _, _, _]) rfl rfl (by omega) rfl ?_
            refine st_goto rfl ?_
            first
            | (rw [show toL (H 54) R (seeF (H 54) F) F (j + 1) = toL (H 54) R (seeF (H 54) F) F j by simp only [toL]; rw [if_neg (by omega)]] at ih; exact ih)
            | (rw [show toL (H 54) R (seeF (H 54) F) F (j + 1) = (j : Int) - 1 + 1 by simp only [toL]; rw [if_pos (by omega), if_pos (by omega)]; omega] at ih; exact ih)
            | (rw [show toL (H 54) R (seeF (H 54) F) F (j + 1) = (j : Int) + 1 by simp only [toL]; rw [if_pos (by omega), if_neg (by omega)]] at ih; exact ih)
          · refine st_iload rfl rfl ?_
            refine st_iload_n rfl rfl ?_
            refine st_icmp_le rfl (fun h43 => ?_) (fun h43 => ?_)
            · refine st_iload rfl rfl ?_
              refine st_iconst rfl ?_
              refine st_iadd rfl (by omega) ?_
              refine st_istore (ls' := [_, _, _, _, _, _]) rfl (Nat.le_of_ble_eq_true rfl) rfl ?_
              refine st_iinc (ls' := [_, _, _, _, _, _]) rfl rfl (by omega) rfl ?_
              refine st_goto rfl ?_
              first
              | (rw [show toL (H 54) R (seeF (H 54) F) F (j + 1) = toL (H 54) R (seeF (H 54) F) F j by simp only [toL]; rw [if_neg (by omega)]] at ih; exact ih)
              | (rw [show toL (H 54) R (seeF (H 54) F) F (j + 1) = (j : Int) - 1 + 1 by simp only [toL]; rw [if_pos (by omega), if_pos (by omega)]; omega] at ih; exact ih)
              | (rw [show toL (H 54) R (seeF (H 54) F) F (j + 1) = (j : Int) + 1 by simp only [toL]; rw [if_pos (by omega), if_neg (by omega)]] at ih; exact ih)
            · refine st_iload rfl rfl ?_
              refine st_iconst rfl ?_
              refine st_isub rfl (by omega) ?_
              refine st_goto rfl ?_
              refine st_iconst rfl ?_
              refine st_iadd rfl (by omega) ?_
              refine st_istore (ls' := [_, _, _, _, _, _]) rfl (Nat.le_of_ble_eq_true rfl) rfl ?_
              refine st_iinc (ls' := [_, _, _, _, _, _]) rfl rfl (by omega) rfl ?_
              refine st_goto rfl ?_
              first
              | (rw [show toL (H 54) R (seeF (H 54) F) F (j + 1) = toL (H 54) R (seeF (H 54) F) F j by simp only [toL]; rw [if_neg (by omega)]] at ih; exact ih)
              | (rw [show toL (H 54) R (seeF (H 54) F) F (j + 1) = (j : Int) - 1 + 1 by simp only [toL]; rw [if_pos (by omega), if_pos (by omega)]; omega] at ih; exact ih)
              | (rw [show toL (H 54) R (seeF (H 54) F) F (j + 1) = (j : Int) + 1 by simp only [toL]; rw [if_pos (by omega), if_neg (by omega)]] at ih; exact ih)
    intro f
    induction f with
    | zero =>
      intro i e hi hle hw
      exfalso
      have h3 : wrL R 0 i = i := rfl
      omega
    | succ f ih =>
      intro i e hi hle hw
      rw [show wrL R (f + 1) i = if R i = 0 then i else wrL R f (i + 1) from rfl] at hw
      have hi1 : i < manF (H 54) := by omega
      refine st_aload_n rfl rfl (by decide) ?_
      refine st_getR (kk := 15) rfl rfl rfl (pz_53_15 hP) rfl ?_
      refine st_iload_n rfl rfl ?_
      refine st_baload rfl rfl (Or.inr rfl) (by omega) (by omega) ?_
      rw [e63]
      refine st_if_eq rfl (fun h15 => ?_) (fun h15 => ?_)
      · rw [if_pos (by omega)] at hw
        rw [hw]
        exact hgo
      · refine st_iinc (ls' := [_, _, _, _, _, _]) rfl rfl (by omega) rfl ?_
        refine st_goto rfl ?_
        rw [if_neg (by omega)] at hw
        refine ih (i + 1) (by omega) (by omega) ?_ hw
        have := wrL_r (R := R) f (i + 1) z0 (by have h5 := hwr.2.1; have h6 : i ≠ z0 := fun q => h15 (by rw [q]; exact hz2); omega) (by omega) hz2
        omega
  · refine st_iconst rfl ?_
    refine st_iret rfl (fun z => by first | exact absurd z (by decide) | exact bi_01 _ | decide | omega) ?_
    refine ⟨am_ri (by rw [if_pos (by omega)]), ?_⟩
    rw [if_pos (by omega)]
