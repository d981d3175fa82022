/-! ===== the reference: lift ===== -/
def lfOK (H : am_H) : Prop := H 53 22 = 1 ∧ ∀ u : Nat, u < shT (H 53 23) (H 53 24) → gW (H 54) (H 53 23) u = H 70 (u : Int)
def LFQ (N : Nat) (P : am_P) (H : am_H) (v : Option am_V) (σ : am_S) : Prop := ∃ H' : am_H, σ = (N, P, H') ∧ (∀ o, (o < 53 ∨ (55 ≤ o ∧ o ≤ 63) ∨ (66 ≤ o ∧ o ≤ 69) ∨ 70 < o) → H' o = H o) ∧ (∀ k, k ≠ 19 → k ≠ 22 → H' 53 k = H 53 k) ∧ H' 53 22 = 0 ∧ (lfOK H → v = some (am_i 1) ∧ H' 54 = lfF (H 54) (H 53 23) (H 53 24) (H 69)) ∧ (¬ lfOK H → v = some (am_i 0) ∧ H' 54 = H 54)

theorem c_Model_lift {d N : Nat} {P : am_P} {H : am_H} (hP : PZ P) (hI : Inv (H 54)) (hpl0 : H 53 22 = 0 ∨ H 53 22 = 1) (hpl : H 53 22 = 1 → PlanOK (H 54) (H 53 23) (H 53 24) (H 69) (H 70)) : am_C (d + 4) 129 [am_r 53] (N, P, H) (LFQ N P H) := by
  refine am_enC (d := d + 3) (ml := 4) (ls := [_, _, _, _]) cq_Model_lift rfl (Nat.le_of_ble_eq_true rfl) rfl ?_
  have hn := hI.n
  refine st_aload_n rfl rfl (by decide) ?_
  refine st_getI (kk := 22) rfl rfl (by decide) rfl ?_
  refine st_if_ne rfl (fun h2 => ?_) (fun h2 => ?_)
  · have h1 : H 53 22 = 1 := by omega
    have hpl := hpl h1
    obtain ⟨f, hf⟩ : ∃ f, H 53 23 = f := ⟨_, rfl⟩
    obtain ⟨l, hl⟩ : ∃ l, H 53 24 = l := ⟨_, rfl⟩
    rw [hf, hl] at hpl
    have hpl1 := hpl.1
    refine st_aload_n rfl rfl (by decide) ?_
    refine st_iconst rfl ?_
    refine st_putZ (kk := 22) rfl rfl rfl (by first | exact bi_01 _ | decide | omega) rfl ?_
    refine st_aload_n rfl rfl (by decide) ?_
    refine st_aload_n rfl rfl (by decide) ?_
    refine st_getI (kk := 24) rfl rfl (by decide) rfl ?_
    rw [show am_up H 53 22 0 53 24 = l by rw [am_up_eq, am_uf_ne _ _ (by omega)]; exact hl]
    refine st_cv1 (w := []) rfl rfl rfl (Nat.le_of_ble_eq_true rfl) (Nat.le_of_ble_eq_true rfl) rfl rfl (r_Model_isShelf hP) ?_
    rw [am_up_ne (by decide), bi_t (show 0 ≤ l ∧ l < H 54 2 by omega)]
    refine st_if_ne rfl (fun h12 => ?_) (fun h12 => (by exfalso; omega))
    refine st_aload_n rfl rfl (by decide) ?_
    refine st_getI (kk := 23) rfl rfl (by decide) rfl ?_
    rw [show am_up H 53 22 0 53 23 = f by rw [am_up_eq, am_uf_ne _ _ (by omega)]; exact hf]
    refine st_istore_n (ls' := [_, _, _, _]) rfl (Nat.le_of_ble_eq_true rfl) rfl ?_
    suffices hlo : ∀ j, j ≤ (l + 1 - f).toNat → (∀ u : Nat, u < 30 * j → gW (H 54) f u = H 70 (u : Int)) → ∀ t, am_WP (am_R (d + 3)) cd_Model_lift (LFQ N P H) 18 [some (am_r 53), some (am_i (f + (j : Int))), t, none] [] (N, P, am_up H 53 22 0) from by
      have h0 := hlo 0 (Nat.zero_le _) (fun u q => by omega) none
      rw [show f + ((0 : Nat) : Int) = f by omega] at h0
      exact h0
    refine up_ind (n := (l + 1 - f).toNat) ?_ ?_
    · intro hall t
      have hall : ∀ u : Nat, u < shT f l → gW (H 54) f u = H 70 (u : Int) := hall
      refine st_iload_n rfl rfl ?_
      refine st_aload_n rfl rfl (by decide) ?_
      refine st_getI (kk := 24) rfl rfl (by decide) rfl ?_
      rw [show am_up H 53 22 0 53 24 = l by rw [am_up_eq, am_uf_ne _ _ (by omega)]; exact hl]
      refine st_icmp_gt rfl (fun h21 => ?_) (fun h21 => (by exfalso; omega))
      refine st_aload_n rfl rfl (by decide) ?_
      refine st_aload_n rfl rfl (by decide) ?_
      refine st_getI (kk := 23) rfl rfl (by decide) rfl ?_
      rw [show am_up H 53 22 0 53 23 = f by rw [am_up_eq, am_uf_ne _ _ (by omega)]; exact hf]
      refine st_aload_n rfl rfl (by decide) ?_
      refine st_getI (kk := 24) rfl rfl (by decide) rfl ?_
      rw [show am_up H 53 22 0 53 24 = l by rw [am_up_eq, am_uf_ne _ _ (by omega)]; exact hl]
      refine st_cv0 (w := []) rfl rfl rfl (Nat.le_of_ble_eq_true rfl) (Nat.le_of_ble_eq_true rfl) rfl rfl (r_Model_gathers (H := am_up H 53 22 0) (f := f) (l := l) hP (by omega) (by omega) (by omega)) ?_
      refine st_iconst rfl ?_
      refine st_istore_n (ls' := [_, _, _, _]) rfl (Nat.le_of_ble_eq_true rfl) rfl ?_
      have hsn := shN_r (a := H 54) (f := f) (l := l) hpl.1.1 (by omega)
      have hA : ∀ x, 0 ≤ x → x < (shN (H 54) f l : Int) → gA (H 54) f (gW (H 54) f) (H 64) (shT f l) x = shI (H 54) f l x := by
        intro x q0 q1
        obtain ⟨u, r1, r2, r3, r4⟩ := gA_at (H 54) f (shT f l) x q0 (by omega)
        exact (r4 _ _).trans (r4 (gW (H 54) f) (fun _ => 0)).symm
      have hS : H 69 (l - f) = (shN (H 54) f l : Int) := by
        rw [hpl.2.2.1, hsn.2]
        exact (cnS_gN _ hall).symm
      have e19 : (gtH (am_up H 53 22 0) f (shT f l)) 53 19 = (shN (H 54) f l : Int) := by
        rw [gtH_53, am_uf_eq, hsn.2]
        rfl
      show am_WP _ _ _ _ _ _ (N, P, gtH (am_up H 53 22 0) f (shT f l))
      rw [show gtH (am_up H 53 22 0) f (shT f l) = am_so (gtH (am_up H 53 22 0) f (shT f l)) 54 (lvA (H 54) (shI (H 54) f l) 0) from (am_so_self (gtH (am_up H 53 22 0) f (shT f l)) 54).symm]
      refine up_ind (n := shN (H 54) f l) (p := fun k => ∀ t, am_WP (am_R (d + 3)) cd_Model_lift _ 60 [some (am_r 53), some (am_i (k : Int)), t, none] [] (N, P, am_so (gtH (am_up H 53 22 0) f (shT f l)) 54 (lvA (H 54) (shI (H 54) f l) k))) ?_ ?_ 0 (Nat.zero_le _) _
      · intro t
        refine st_iload_n rfl rfl ?_
        refine st_aload_n rfl rfl (by decide) ?_
        refine st_getI (kk := 19) rfl rfl (by decide) rfl ?_
        rw [am_so_ne _ _ (by decide), e19]
        refine st_icmp_ge rfl (fun h63 => ?_) (fun h63 => (by exfalso; omega))
        refine st_iconst rfl ?_
        refine st_istore_n (ls' := [_, _, _, _]) rfl (Nat.le_of_ble_eq_true rfl) rfl ?_
        refine st_aload_n rfl rfl (by decide) ?_
        refine st_getI (kk := 23) rfl rfl (by decide) rfl ?_
        rw [am_so_ne _ _ (by decide), show (gtH (am_up H 53 22 0) f (shT f l)) 53 23 = f from hf]
        refine st_istore_n (ls' := [_, _, _, _]) rfl (Nat.le_of_ble_eq_true rfl) rfl ?_
        suffices hlo : ∀ k, k ≤ (l - f + 1).toNat → ∀ t, am_WP (am_R (d + 3)) cd_Model_lift (LFQ N P H) 88 [some (am_r 53), some (am_i (pbF (H 69) k)), some (am_i (f + (k : Int))), t] [] (N, P, am_so (gtH (am_up H 53 22 0) f (shT f l)) 54 (lfC (lvA (H 54) (shI (H 54) f l) (shN (H 54) f l)) (shI (H 54) f l) (H 69) f k)) from by
          have h0 := hlo 0 (Nat.zero_le _) none
          rw [show f + ((0 : Nat) : Int) = f by omega] at h0
          exact h0
        refine up_ind (n := (l - f + 1).toNat) ?_ ?_
        · intro t
          refine st_iload_n rfl rfl ?_
          refine st_aload_n rfl rfl (by decide) ?_
          refine st_getI (kk := 24) rfl rfl (by decide) rfl ?_
          rw [am_so_ne _ _ (by decide), show (gtH (am_up H 53 22 0) f (shT f l)) 53 24 = l from hl]
          refine st_icmp_gt rfl (fun h91 => ?_) (fun h91 => (by exfalso; omega))
          refine st_iconst rfl ?_
          refine st_iret rfl (fun z => by first | exact absurd z (by decide) | exact bi_01 _ | decide | omega) ?_
          refine ⟨_, rfl, fun o ho => ?_, fun k k1 k2 => ?_, ?_, fun _ => ⟨rfl, ?_⟩, fun q => absurd ⟨h1, by rw [hf, hl]; exact hall⟩ q⟩
          · rw [am_so_ne _ _ (by omega)]
            unfold gtH
            rw [if_neg (by omega), if_neg (by omega), if_neg (by omega), if_neg (by omega), am_up_ne (by omega)]
          · rw [am_so_ne _ _ (by decide), gtH_53, am_uf_ne _ _ k1, am_up_eq, am_uf_ne _ _ k2]
          · rw [am_so_ne _ _ (by decide), gtH_53, am_uf_ne _ _ (by omega), am_up_eq, am_uf_eq]
          · rw [am_so_at, hf, hl]
            rfl
        · intro k hk ihk t
          have hlf := lfC_ok hI hpl hS k (by omega)
          have hpb := plan_le hpl k (by omega)
          have hpk := hpl.2.1 k (by omega)
          have hinit : am_WP (am_R (d + 3)) cd_Model_lift (LFQ N P H) 94 [some (am_r 53), some (am_i (pbF (H 69) k + ((0 : Nat) : Int))), some (am_i (f + (k : Int))), some (am_i ((0 : Nat) : Int))] [] (N, P, am_so (gtH (am_up H 53 22 0) f (shT f l)) 54 (lfC (lvA (H 54) (shI (H 54) f l) (shN (H 54) f l)) (shI (H 54) f l) (H 69) f k)) := by
            refine up_ind (n := (H 69 (k : Int) - pbF (H 69) k).toNat) (p := fun c => am_WP (am_R (d + 3)) cd_Model_lift _ 94 [some (am_r 53), some (am_i (pbF (H 69) k + (c : Int))), some (am_i (f + (k : Int))), some (am_i (c : Int))] [] (N, P, am_so (gtH (am_up H 53 22 0) f (shT f l)) 54 (inC (lfC (lvA (H 54) (shI (H 54) f l) (shN (H 54) f l)) (shI (H 54) f l) (H 69) f k) (shI (H 54) f l) (f + (k : Int)) (pbF (H 69) k) c))) ?_ ?_ 0 (Nat.zero_le _)
            · show am_WP _ _ _ _ _ _ _
              refine st_iload_n rfl rfl ?_
              refine st_aload_n rfl rfl (by decide) ?_
              refine st_getR (kk := 25) rfl rfl rfl (pz_53_25 hP) rfl ?_
              refine st_iload_n rfl rfl ?_
              refine st_aload_n rfl rfl (by decide) ?_
              refine st_getI (kk := 23) rfl rfl (by decide) rfl ?_
              rw [am_so_ne _ _ (by decide), show (gtH (am_up H 53 22 0) f (shT f l)) 53 23 = f from hf]
              refine st_isub rfl (by omega) ?_
              refine st_iaload rfl rfl (by omega) (by omega) ?_
              rw [am_so_ne _ _ (by decide), show (gtH (am_up H 53 22 0) f (shT f l)) 69 = H 69 from rfl, show f + (k : Int) - f = (k : Int) by omega]
              refine st_icmp_ge rfl (fun h102 => ?_) (fun h102 => (by exfalso; omega))
              refine st_iinc (ls' := [_, _, _, _]) rfl rfl (by omega) rfl ?_
              refine st_goto rfl ?_
              have ihk := ihk (some (am_i ((((H 69) (k : Int) - pbF (H 69) k).toNat : Nat) : Int)))
              rw [show pbF (H 69) (k + 1) = pbF (H 69) k + ((((H 69) (k : Int) - pbF (H 69) k).toNat : Nat) : Int) by
                rw [show (((H 69 (k : Int) - pbF (H 69) k).toNat : Nat) : Int) = H 69 (k : Int) - pbF (H 69) k by omega]
                show (if k + 1 = 0 then 0 else H 69 (((k + 1 : Nat) : Int) - 1)) = _
                rw [if_neg (by omega), show ((k + 1 : Nat) : Int) - 1 = (k : Int) by omega]
                omega, show f + ((k + 1 : Nat) : Int) = f + (k : Int) + 1 by omega] at ihk
              exact ihk
            · intro c hc ihc
              have ihc : am_WP _ _ _ _ _ _ _ := ihc
              show am_WP _ _ _ _ _ _ _
              have hic := inC_ok hI hpl.1.1 hpl.1.2.2 hpl.2.2.2 hlf.1 (s := f + (k : Int)) (b := pbF (H 69) k) (by omega) hpb.1 (fun s' p q0 q1 q2 q3 => hlf.2 s' p q0 q1 q2 q3) c (by omega) (by omega)
              have hkp := hic.1
              obtain ⟨u0, p1, p2, p3, p4, p5, p6, p7, p8⟩ := sh_thing hI hpl.1.1 hpl.1.2.2 hpl.2.2.2 (x := pbF (H 69) k + (c : Int)) (by omega) (by omega)
              have hth : 0 ≤ shI (H 54) f l (pbF (H 69) k + (c : Int)) % 1000 ∧ shI (H 54) f l (pbF (H 69) k + (c : Int)) % 1000 < H 54 3 := by rw [p3]; exact p5
              have hth0 : 0 ≤ shI (H 54) f l (pbF (H 69) k + (c : Int)) := by rw [p3]; exact p4
              refine st_iload_n rfl rfl ?_
              refine st_aload_n rfl rfl (by decide) ?_
              refine st_getR (kk := 25) rfl rfl rfl (pz_53_25 hP) rfl ?_
              refine st_iload_n rfl rfl ?_
              refine st_aload_n rfl rfl (by decide) ?_
              refine st_getI (kk := 23) rfl rfl (by decide) rfl ?_
              rw [am_so_ne _ _ (by decide), show (gtH (am_up H 53 22 0) f (shT f l)) 53 23 = f from hf]
              refine st_isub rfl (by omega) ?_
              refine st_iaload rfl rfl (by omega) (by omega) ?_
              rw [am_so_ne _ _ (by decide), show (gtH (am_up H 53 22 0) f (shT f l)) 69 = H 69 from rfl, show f + (k : Int) - f = (k : Int) by omega]
              refine st_icmp_ge rfl (fun h102 => (by exfalso; omega)) (fun h102 => ?_)
              refine st_aload_n rfl rfl (by decide) ?_
              refine st_aload_n rfl rfl (by decide) ?_
              refine st_getR (kk := 16) rfl rfl rfl (pz_53_16 hP) rfl ?_
              refine st_iload_n rfl rfl ?_
              refine st_iaload rfl rfl (by omega) (by omega) ?_
              rw [am_so_ne _ _ (by decide), show gtH (am_up H 53 22 0) f (shT f l) 64 = gA (H 54) f (gW (H 54) f) (H 64) (shT f l) from rfl, hA _ (by omega) (by omega)]
              refine st_sipush rfl ?_
              refine st_irem rfl (by omega) (by omega) (by omega) ?_
              refine st_aload_n rfl rfl (by decide) ?_
              refine st_getR (kk := 16) rfl rfl rfl (pz_53_16 hP) rfl ?_
              refine st_iload_n rfl rfl ?_
              refine st_iaload rfl rfl (by omega) (by omega) ?_
              refine st_sipush rfl ?_
              rw [am_so_ne _ _ (by decide), show gtH (am_up H 53 22 0) f (shT f l) 64 = gA (H 54) f (gW (H 54) f) (H 64) (shT f l) from rfl, hA _ (by omega) (by omega)]
              refine st_icmp_lt rfl (fun h115 => ?_) (fun h115 => ?_)
              · have efo : foF (shI (H 54) f l (pbF (H 69) k + (c : Int))) = 4 := by unfold foF; rw [if_neg (by omega)]
                have hpos := hkp.1.pos hth.1 (by rw [hkp.2.1 3 (by omega)]; exact hth.2) (foF_r (shI (H 54) f l (pbF (H 69) k + (c : Int))))
                rw [efo] at hpos
                refine st_iconst rfl ?_
                refine st_iload_n rfl rfl ?_
                refine st_iload_n rfl rfl ?_
                refine st_cv0 (w := []) rfl rfl rfl (Nat.le_of_ble_eq_true rfl) (Nat.le_of_ble_eq_true rfl) rfl rfl (r_Model_comes (H := am_so (gtH (am_up H 53 22 0) f (shT f l)) 54 (inC (lfC (lvA (H 54) (shI (H 54) f l) (shN (H 54) f l)) (shI (H 54) f l) (H 69) f k) (shI (H 54) f l) (f + (k : Int)) (pbF (H 69) k) c)) hP (by omega) (by omega) (by omega) hpos (by omega) (by omega) (by omega) (by omega)) ?_
                refine st_iinc (ls' := [_, _, _, _]) rfl rfl (by omega) rfl ?_
                refine st_iinc (ls' := [_, _, _, _]) rfl rfl (by omega) rfl ?_
                refine st_goto rfl ?_
                have e : inC (lfC (lvA (H 54) (shI (H 54) f l) (shN (H 54) f l)) (shI (H 54) f l) (H 69) f k) (shI (H 54) f l) (f + (k : Int)) (pbF (H 69) k) (c + 1) = cmF (inC (lfC (lvA (H 54) (shI (H 54) f l) (shN (H 54) f l)) (shI (H 54) f l) (H 69) f k) (shI (H 54) f l) (f + (k : Int)) (pbF (H 69) k) c) (shI (H 54) f l (pbF (H 69) k + (c : Int)) % 1000) (foF (shI (H 54) f l (pbF (H 69) k + (c : Int)))) (f + (k : Int)) (c : Int) := rfl
                rw [e, efo, show pbF (H 69) k + ((c + 1 : Nat) : Int) = pbF (H 69) k + (c : Int) + 1 by omega] at ihc
                simp only [am_so_so, am_so_at]
                exact ihc
              · have efo : foF (shI (H 54) f l (pbF (H 69) k + (c : Int))) = 6 := by unfold foF; rw [if_pos (by omega)]
                have hpos := hkp.1.pos hth.1 (by rw [hkp.2.1 3 (by omega)]; exact hth.2) (foF_r (shI (H 54) f l (pbF (H 69) k + (c : Int))))
                rw [efo] at hpos
                refine st_bipush rfl ?_
                refine st_goto rfl ?_
                refine st_iload_n rfl rfl ?_
                refine st_iload_n rfl rfl ?_
                refine st_cv0 (w := []) rfl rfl rfl (Nat.le_of_ble_eq_true rfl) (Nat.le_of_ble_eq_true rfl) rfl rfl (r_Model_comes (H := am_so (gtH (am_up H 53 22 0) f (shT f l)) 54 (inC (lfC (lvA (H 54) (shI (H 54) f l) (shN (H 54) f l)) (shI (H 54) f l) (H 69) f k) (shI (H 54) f l) (f + (k : Int)) (pbF (H 69) k) c)) hP (by omega) (by omega) (by omega) hpos (by omega) (by omega) (by omega) (by omega)) ?_
                refine st_iinc (ls' := [_, _, _, _]) rfl rfl (by omega) rfl ?_
                refine st_iinc (ls' := [_, _, _, _]) rfl rfl (by omega) rfl ?_
                refine st_goto rfl ?_
                have e : inC (lfC (lvA (H 54) (shI (H 54) f l) (shN (H 54) f l)) (shI (H 54) f l) (H 69) f k) (shI (H 54) f l) (f + (k : Int)) (pbF (H 69) k) (c + 1) = cmF (inC (lfC (lvA (H 54) (shI (H 54) f l) (shN (H 54) f l)) (shI (H 54) f l) (H 69) f k) (shI (H 54) f l) (f + (k : Int)) (pbF (H 69) k) c) (shI (H 54) f l (pbF (H 69) k + (c : Int)) % 1000) (foF (shI (H 54) f l (pbF (H 69) k + (c : Int)))) (f + (k : Int)) (c : Int) := rfl
                rw [e, efo, show pbF (H 69) k + ((c + 1 : Nat) : Int) = pbF (H 69) k + (c : Int) + 1 by omega] at ihc
                simp only [am_so_so, am_so_at]
                exact ihc
          rw [show pbF (H 69) k + ((0 : Nat) : Int) = pbF (H 69) k by omega] at hinit
          refine st_iload_n rfl rfl ?_
          refine st_aload_n rfl rfl (by decide) ?_
          refine st_getI (kk := 24) rfl rfl (by decide) rfl ?_
          rw [am_so_ne _ _ (by decide), show (gtH (am_up H 53 22 0) f (shT f l)) 53 24 = l from hl]
          refine st_icmp_gt rfl (fun h91 => (by exfalso; omega)) (fun h91 => ?_)
          refine st_iconst rfl ?_
          refine st_istore_n (ls' := [_, _, _, _]) rfl (Nat.le_of_ble_eq_true rfl) rfl ?_
          exact hinit
      · intro k hk ihk
        intro t
        have hkp := (lvA_ok hI hpl.1.1 hpl.1.2.2 hpl.2.2.2 k (by omega)).1
        obtain ⟨u0, p1, p2, p3, p4, p5, p6, p7, p8⟩ := sh_thing hI hpl.1.1 hpl.1.2.2 hpl.2.2.2 (x := (k : Int)) (by omega) (by omega)
        have hth : 0 ≤ shI (H 54) f l (k : Int) % 1000 ∧ shI (H 54) f l (k : Int) % 1000 < H 54 3 := by rw [p3]; exact p5
        have hth0 : 0 ≤ shI (H 54) f l (k : Int) := by rw [p3]; exact p4
        refine st_iload_n rfl rfl ?_
        refine st_aload_n rfl rfl (by decide) ?_
        refine st_getI (kk := 19) rfl rfl (by decide) rfl ?_
        rw [am_so_ne _ _ (by decide), e19]
        refine st_icmp_ge rfl (fun h63 => (by exfalso; omega)) (fun h63 => ?_)
        refine st_aload_n rfl rfl (by decide) ?_
        refine st_aload_n rfl rfl (by decide) ?_
        refine st_getR (kk := 16) rfl rfl rfl (pz_53_16 hP) rfl ?_
        refine st_iload_n rfl rfl ?_
        refine st_iaload rfl rfl (by omega) (by omega) ?_
        rw [am_so_ne _ _ (by decide), show gtH (am_up H 53 22 0) f (shT f l) 64 = gA (H 54) f (gW (H 54) f) (H 64) (shT f l) from rfl, hA _ (by omega) (by omega)]
        refine st_sipush rfl ?_
        refine st_irem rfl (by omega) (by omega) (by omega) ?_
        refine st_aload_n rfl rfl (by decide) ?_
        refine st_getR (kk := 16) rfl rfl rfl (pz_53_16 hP) rfl ?_
        refine st_iload_n rfl rfl ?_
        refine st_iaload rfl rfl (by omega) (by omega) ?_
        rw [am_so_ne _ _ (by decide), show gtH (am_up H 53 22 0) f (shT f l) 64 = gA (H 54) f (gW (H 54) f) (H 64) (shT f l) from rfl, hA _ (by omega) (by omega)]
        refine st_sipush rfl ?_
        refine st_icmp_lt rfl (fun h76 => ?_) (fun h76 => ?_)
        · have efo : foF (shI (H 54) f l (k : Int)) = 4 := by unfold foF; rw [if_neg (by omega)]
          have hpos := hkp.1.pos hth.1 (by rw [hkp.2.1 3 (by omega)]; exact hth.2) (foF_r (shI (H 54) f l (k : Int)))
          rw [efo] at hpos
          refine st_iconst rfl ?_
          refine st_cv0 (w := []) rfl rfl rfl (Nat.le_of_ble_eq_true rfl) (Nat.le_of_ble_eq_true rfl) rfl rfl (r_Model_leaves (H := am_so (gtH (am_up H 53 22 0) f (shT f l)) 54 (lvA (H 54) (shI (H 54) f l) k)) hP (by omega) (by omega) (by omega) hpos) ?_
          refine st_iinc (ls' := [_, _, _, _]) rfl rfl (by omega) rfl ?_
          refine st_goto rfl ?_
          have e : lvA (H 54) (shI (H 54) f l) (k + 1) = lvF (lvA (H 54) (shI (H 54) f l) k) (shI (H 54) f l (k : Int) % 1000) (foF (shI (H 54) f l (k : Int))) := rfl
          have ihk := ihk t
          rw [e, efo] at ihk
          simp only [am_so_so, am_so_at]
          exact ihk
        · have efo : foF (shI (H 54) f l (k : Int)) = 6 := by unfold foF; rw [if_pos (by omega)]
          have hpos := hkp.1.pos hth.1 (by rw [hkp.2.1 3 (by omega)]; exact hth.2) (foF_r (shI (H 54) f l (k : Int)))
          rw [efo] at hpos
          refine st_bipush rfl ?_
          refine st_goto rfl ?_
          refine st_cv0 (w := []) rfl rfl rfl (Nat.le_of_ble_eq_true rfl) (Nat.le_of_ble_eq_true rfl) rfl rfl (r_Model_leaves (H := am_so (gtH (am_up H 53 22 0) f (shT f l)) 54 (lvA (H 54) (shI (H 54) f l) k)) hP (by omega) (by omega) (by omega) hpos) ?_
          refine st_iinc (ls' := [_, _, _, _]) rfl rfl (by omega) rfl ?_
          refine st_goto rfl ?_
          have e : lvA (H 54) (shI (H 54) f l) (k + 1) = lvF (lvA (H 54) (shI (H 54) f l) k) (shI (H 54) f l (k : Int) % 1000) (foF (shI (H 54) f l (k : Int))) := rfl
          have ihk := ihk t
          rw [e, efo] at ihk
          simp only [am_so_so, am_so_at]
          exact ihk
    · intro j hj ih hh t
      have ih : (∀ u : Nat, u < 30 * j + 30 → gW (H 54) f u = H 70 (u : Int)) → ∀ t, am_WP (am_R (d + 3)) cd_Model_lift (LFQ N P H) 18 [some (am_r 53), some (am_i (f + (j : Int) + 1)), t, none] [] (N, P, am_up H 53 22 0) := by
        intro q t
        have h := ih (fun u r => q u (by omega)) t
        rw [show f + ((j + 1 : Nat) : Int) = f + (j : Int) + 1 by omega] at h
        exact h
      refine st_iload_n rfl rfl ?_
      refine st_aload_n rfl rfl (by decide) ?_
      refine st_getI (kk := 24) rfl rfl (by decide) rfl ?_
      rw [show am_up H 53 22 0 53 24 = l by rw [am_up_eq, am_uf_ne _ _ (by omega)]; exact hl]
      refine st_icmp_gt rfl (fun h21 => (by exfalso; omega)) (fun h21 => ?_)
      refine st_iconst rfl ?_
      refine st_istore_n (ls' := [_, _, _, _]) rfl (Nat.le_of_ble_eq_true rfl) rfl ?_
      refine up_ind (n := 30) (p := fun p => (∀ u : Nat, u < 30 * j + p → gW (H 54) f u = H 70 (u : Int)) → am_WP (am_R (d + 3)) cd_Model_lift _ 24 [some (am_r 53), some (am_i (f + (j : Int))), some (am_i (p : Int)), none] [] (N, P, am_up H 53 22 0)) ?_ ?_ 0 (Nat.zero_le _) (fun u q => hh u q)
      · intro hhp
        refine st_iload_n rfl rfl ?_
        refine st_bipush rfl ?_
        refine st_icmp_ge rfl (fun h26 => ?_) (fun h26 => (by exfalso; omega))
        refine st_iinc (ls' := [_, _, _, _]) rfl rfl (by omega) rfl ?_
        refine st_goto rfl ?_
        refine ih (fun u q => ?_) _
        by_cases q2 : u < 30 * j
        · exact hh u q2
        · exact hhp u (by omega)
      · intro p hp ihp
        intro hhp
        have eg : gW (H 54) f (30 * j + p) = H 54 (6670 + 32 * (f + (j : Int)) + 2 + (p : Int)) := by
          unfold gW thgF
          rw [show (30 * j + p) / 30 = j by omega, show (30 * j + p) % 30 = p by omega]
        refine st_iload_n rfl rfl ?_
        refine st_bipush rfl ?_
        refine st_icmp_ge rfl (fun h26 => (by exfalso; omega)) (fun h26 => ?_)
        refine st_aload_n rfl rfl (by decide) ?_
        refine st_getR (kk := 0) rfl rfl rfl (pz_53_0 hP) rfl ?_
        refine st_aload_n rfl rfl (by decide) ?_
        refine st_iload_n rfl rfl ?_
        refine st_iload_n rfl rfl ?_
        refine st_cv1 (w := [_]) rfl rfl rfl (Nat.le_of_ble_eq_true rfl) (Nat.le_of_ble_eq_true rfl) rfl rfl (r_Model_placeOf (by omega) (by omega) (by omega) (by omega)) ?_
        refine st_iaload rfl rfl (by omega) (by omega) ?_
        rw [am_up_ne (by decide)]
        refine st_aload_n rfl rfl (by decide) ?_
        refine st_getR (kk := 26) rfl rfl rfl (pz_53_26 hP) rfl ?_
        refine st_bipush rfl ?_
        refine st_iload_n rfl rfl ?_
        refine st_aload_n rfl rfl (by decide) ?_
        refine st_getI (kk := 23) rfl rfl (by decide) rfl ?_
        rw [show am_up H 53 22 0 53 23 = f by rw [am_up_eq, am_uf_ne _ _ (by omega)]; exact hf]
        refine st_isub rfl (by omega) ?_
        refine st_imul rfl (by omega) ?_
        refine st_iload_n rfl rfl ?_
        refine st_iadd rfl (by omega) ?_
        refine st_iaload rfl rfl (by omega) (by omega) ?_
        rw [am_up_ne (by decide), show 30 * (f + (j : Int) - f) + (p : Int) = (((30 * j + p) : Nat) : Int) by omega]
        refine st_icmp_eq rfl (fun h45 => ?_) (fun h45 => ?_)
        · refine st_iinc (ls' := [_, _, _, _]) rfl rfl (by omega) rfl ?_
          refine st_goto rfl ?_
          refine ihp (fun u q => ?_)
          by_cases q2 : u < 30 * j + p
          · exact hhp u q2
          · rw [show u = 30 * j + p by omega, eg]
            exact h45
        · refine st_iconst rfl ?_
          refine st_iret rfl (fun z => by first | exact absurd z (by decide) | exact bi_01 _ | decide | omega) ?_
          refine ⟨_, rfl, fun o ho => by rw [am_up_ne (by omega)], fun k k1 k2 => by rw [am_up_eq, am_uf_ne _ _ k2], by rw [am_up_eq, am_uf_eq], fun q => ?_, fun _ => ⟨rfl, by rw [am_up_ne (by decide)]⟩⟩
          have q2 := q.2
          rw [hf, hl] at q2
          have q3 := q2 (30 * j + p) (by unfold shT; omega)
          rw [eg] at q3
          exact absurd q3 h45
  · refine st_iconst rfl ?_
    refine st_iret rfl (fun z => by first | exact absurd z (by decide) | exact bi_01 _ | decide | omega) ?_
    exact ⟨H, rfl, fun _ _ => rfl, fun _ _ _ => rfl, by omega, fun q => by have := q.1; omega, fun _ => ⟨rfl, rfl⟩⟩
