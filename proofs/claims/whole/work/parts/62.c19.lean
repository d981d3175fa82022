/-! ===== the class: a plan made ===== -/
/-- what making a plan leaves -/
def MPQ (N : Nat) (P : am_P) (H : am_H) (a : Int → Int) (f l le gr : Int) (v : Option am_V) (σ : am_S) : Prop := ∃ H' : am_H, σ = (N, P, H') ∧ (∀ o, o < 43 ∨ 52 < o → H' o = H o) ∧
  (100000 ≤ (shP a f l le gr (l - f + 1).toNat 0).1 → v = some (am_i (-1)) ∧ (H' 43 10 = H 43 10 ∧ H' 43 11 = H 43 11 ∧ H' 43 12 = H 43 12) ∧ H' 51 = H 51 ∧ H' 52 = H 52) ∧
  ((shP a f l le gr (l - f + 1).toNat 0).1 < 100000 → v = some (am_i (shP a f l le gr (l - f + 1).toNat 0).1) ∧ (H' 43 10 = 1 ∧ H' 43 11 = f ∧ H' 43 12 = l - f + 1) ∧ (∀ k : Nat, k < (l - f + 1).toNat → H' 51 (k : Int) = shE a f l le gr (k + 1)) ∧ ∀ u : Nat, u < shT f l → H' 52 (u : Int) = gW a f u)
theorem sh_it {a : Int → Int} (hI : Inv a) {f l : Int} (hf : 0 ≤ f ∧ f ≤ l ∧ l < a 2) : IT a (shI a f l) (shN a f l : Int) := by
  have := shIT hI hf.1 hf.2.2 hf.2.1 (fun _ => 0)
  rw [gN_shN]
  exact this
theorem it_mk {a I : Int → Int} {n : Int} (h : IT a I n) (hI : Inv a) {x : Int} (h0 : 0 ≤ x) (h1 : x < n) : 0 ≤ mkF a (I x) ∧ mkF a (I x) < a 1 := by
  have hn := hI.n
  have z := h x h0 h1
  have hb := bo_mod z.2 z.1 (by omega)
  have := (hI.b.2 _ hb.2.1 hb.2.2).2.1
  unfold mkF
  rw [← hb.1]
  exact this
theorem GI_gx {H H1 : am_H} {a : Int → Int} (hI : Inv a) {f l : Int} (hf : 0 ≤ f ∧ f ≤ l ∧ l < a 2) (hz : ∀ s, f ≤ s → s ≤ l → a (6670 + 32 * s + 1) ≠ 1) (g : GI H H1 a f (shT f l)) : GX H1 a (shN a f l) ∧ ∀ x, 0 ≤ x → x < (shN a f l : Int) → H1 44 x = shI a f l x ∧ H1 45 x = mkF a (shI a f l x) ∧ H1 46 x = f + shO a f l x ∧ H1 47 x = widF a (shI a f l x) := by
  have hit := sh_it hI hf
  have hr : ∀ x, 0 ≤ x → x < (shN a f l : Int) → H1 44 x = shI a f l x ∧ H1 45 x = mkF a (shI a f l x) ∧ H1 46 x = f + shO a f l x ∧ H1 47 x = widF a (shI a f l x) := fun x x0 x1 => g.2.2.2 x x0 (by rw [← gN_shN]; exact x1)
  refine ⟨⟨by rw [g.2.2.1, gN_shN], sh_200 hI hf.1 hf.2.2 hz, fun x x0 x1 => ?_⟩, hr⟩
  have z := hr x x0 x1
  rw [z.2.1, z.2.2.2]
  exact ⟨it_mk hit hI x0 x1, hit.w hI x x0 x1⟩

theorem c_makePlan {d N : Nat} {P : am_P} {H : am_H} {a : Int → Int} {f l le gr : Int} (hP : PZ P) (hI : Inv a) (hW : InvW a) (hM : RM H 10 a) (hT : RT H 10 a) (hf : 0 ≤ f ∧ f ≤ l ∧ l < a 2) (hz : ∀ s, f ≤ s → s ≤ l → a (6670 + 32 * s + 1) ≠ 1) (hg : 0 ≤ le ∧ le ≤ gr ∧ gr ≤ 100) : am_C (d + 6) 198 [am_r 43, am_r 10, am_i f, am_i l, am_i le, am_i gr] (N, P, H) (MPQ N P H a f l le gr) := by
  refine am_enC (d := d + 5) (ml := 10) (ls := [_, _, _, _, _, _, _, _, _, _]) cq_Shifter_makePlan rfl (Nat.le_of_ble_eq_true rfl) rfl ?_
  have hn := hI.n
  have h200 := sh_200 hI hf.1 hf.2.2 hz
  obtain ⟨m, hm⟩ : ∃ m : Nat, (l - f + 1).toNat = m := ⟨_, rfl⟩
  have hmi : l - f + 1 = (m : Int) := by omega
  refine st_iload_n rfl rfl ?_
  refine st_iload_n rfl rfl ?_
  refine st_isub rfl (by omega) ?_
  refine st_iconst rfl ?_
  refine st_iadd rfl (by omega) ?_
  refine st_istore (ls' := [_, _, _, _, _, _, _, _, _, _]) rfl (Nat.le_of_ble_eq_true rfl) rfl ?_
  refine st_iload_n rfl rfl ?_
  refine st_if_lt rfl (fun h7 => (by exfalso; omega)) (fun h7 => ?_)
  refine st_iload rfl rfl ?_
  refine st_iconst rfl ?_
  refine st_icmp_lt rfl (fun h10 => (by exfalso; omega)) (fun h10 => ?_)
  refine st_iload rfl rfl ?_
  refine st_bipush rfl ?_
  refine st_icmp_le rfl (fun h13 => ?_) (fun h13 => (by exfalso; omega))
  refine st_aload_n rfl rfl (by decide) ?_
  refine st_aload_n rfl rfl (by decide) ?_
  refine st_getR (kk := 1) rfl rfl rfl (pz_10_1 hP) rfl ?_
  refine st_iload_n rfl rfl ?_
  refine st_iload_n rfl rfl ?_
  refine st_cvC (w := []) rfl rfl rfl (Nat.le_of_ble_eq_true rfl) (Nat.le_of_ble_eq_true rfl) rfl rfl (c_gather hP hI hT hf (by rw [← gN_shN]; omega)) ?_
  rintro v σ ⟨rfl, H1, rfl, gi⟩
  show am_WP _ _ _ _ _ [] _
  obtain ⟨hgx, hg4⟩ := GI_gx hI hf hz gi
  have hM1 : RM H1 10 a := hM.cg hI (gi.1 _ (by decide)) (gi.1 _ (by decide)) (gi.1 _ (by decide)) rfl (fun _ _ _ => rfl)
  have hT1 : RT H1 10 a := hT.cgh (fun k k0 k1 => gi.1 k (by omega))
  refine st_aload_n rfl rfl (by decide) ?_
  refine st_aload_n rfl rfl (by decide) ?_
  refine st_iload_n rfl rfl ?_
  refine st_iload_n rfl rfl ?_
  refine st_iload rfl rfl ?_
  refine st_cvC (w := []) rfl rfl rfl (Nat.le_of_ble_eq_true rfl) (Nat.le_of_ble_eq_true rfl) rfl rfl (c_findEnds (gr := gr) hP hI hW hM1 hT1 hgx hf (by omega)) ?_
  rintro v σ ⟨rfl, H2, rfl, f1, f2, f3⟩
  show am_WP _ _ _ _ _ [] _
  have hT2 : RT H2 10 a := hT1.cgh (fun k k0 k1 => f1 k (by omega))
  have hB0 : H2 43 0 = (shN a f l : Int) := by rw [f1 _ (by decide)]; exact hgx.1
  have hw2 : ∀ x, 0 ≤ x → x < (shN a f l : Int) → 1 ≤ H2 47 x ∧ H2 47 x ≤ 210 := fun x x0 x1 => by rw [f1 _ (by decide)]; exact (hgx.2.2 x x0 x1).2
  have hDD : ∀ (r : Nat) (i : Int), (r : Int) ≤ (m : Int) → 0 ≤ i → (MD H2 a (shN a f l) f le gr (m : Int)) r i = dpR 1000000 (fun j => j) (itW a (shI a f l)) (shO a f l) (shD a f l gr) (shN a f l : Int) (fun k => k) (fun k => a (6670 + 32 * (f + k)) * le / 100) (fun k => a (6670 + 32 * (f + k)) * gr / 100) (m : Int) r i := fun r i r1 i0 => by
    refine dpR_cg (fun x x0 x1 => ?_) (fun k x k0 k1 x0 x1 => ?_) (fun x x0 x1 => ?_) r i r1 i0
    · rw [f1 _ (by decide)]; exact (hg4 x x0 x1).2.2.2
    · rw [f1 _ (by decide), (hg4 x x0 x1).2.2.1]; omega
    · unfold shD
      by_cases hx : x = (shN a f l : Int)
      · rw [if_pos hx, hx, f3]
      · rw [if_neg hx]
        have := f2 x.toNat (by omega)
        rw [show ((x.toNat : Nat) : Int) = x by omega] at this
        rw [this]
        rw [pdV_cg (w' := itW a (shI a f l)) (lk' := itK a (shI a f l)) (fun x x0 x1 => (hg4 x x0 x1).2.2.2) (fun k k1 => by unfold lkF; rw [(hg4 (k : Int) (by omega) (by omega)).2.1, (hg4 ((k : Int) + 1) (by omega) (by omega)).2.1]) (by omega)]
  have hSP : ∀ (r : Nat) (i : Int), shP a f l le gr r i = dpR 100000 (fun _ => -1) (itW a (shI a f l)) (shO a f l) (shD a f l gr) (shN a f l : Int) (fun k => k) (fun k => a (6670 + 32 * (f + k)) * le / 100) (fun k => a (6670 + 32 * (f + k)) * gr / 100) (m : Int) r i := fun r i => by
    unfold shP
    rw [hmi]
  have hLI : ∀ (r : Nat) (i : Int), r ≤ m → 0 ≤ i → ((shP a f l le gr r i).1 = ((MD H2 a (shN a f l) f le gr (m : Int)) r i).1 ∧ (0 ≤ (shP a f l le gr r i).1 ∧ (shP a f l le gr r i).1 ≤ 31 * (r : Int)) ∧ (1 ≤ r → (shP a f l le gr r i).2 = ((MD H2 a (shN a f l) f le gr (m : Int)) r i).2)) ∨ ((shP a f l le gr r i).1 = 100000 ∧ ((MD H2 a (shN a f l) f le gr (m : Int)) r i).1 = 1000000) := fun r i r1 i0 => by
    rw [hSP, hDD r i (by omega) i0]
    exact dp_lift r (by omega) i i0
  have hfr2 : ∀ o, o < 43 ∨ 52 < o → H2 o = H o := fun o ho => by rw [f1 o (by omega), gi.1 o (by omega)]
  have h43 : ∀ k, k ≠ 0 → H2 43 k = H 43 k := fun k hk => by rw [f1 _ (by decide), gi.2.1 k hk]
  refine st_iconst rfl ?_
  refine st_istore (ls' := [_, _, _, _, _, _, _, _, _, _]) rfl (Nat.le_of_ble_eq_true rfl) rfl ?_
  rw [hmi]
  refine l1_plan hP hI hT2 (by omega) (by omega) hB0 h200 hw2 hg (fun H3 w7 g3 => ?_) 0 (Nat.zero_le _) H2 (fun _ _ => rfl) (fun i i0 i1 => by omega)
  refine st_iload rfl rfl ?_
  refine st_iconst rfl ?_
  refine st_isub rfl (by omega) ?_
  refine st_istore (ls' := [_, _, _, _, _, _, _, _, _, _]) rfl (Nat.le_of_ble_eq_true rfl) rfl ?_
  rw [show (m : Int) - 1 = (m : Int) - 1 - ((0 : Nat) : Int) by omega]
  refine l2_plan hP hI hT2 (by omega) (by omega) hB0 h200 hw2 hg (fun H3 w8 w9 g3 => ?_) 0 (Nat.zero_le _) H3 none none g3
  have h30 : H3 49 0 = ((MD H2 a (shN a f l) f le gr (m : Int)) m 0).1 := by
    have := (g3.2.2 m (Nat.le_refl _) 0 (by omega) (by omega)).1
    rw [show ((m : Int) - (m : Int)) * 201 + 0 = 0 by omega] at this
    exact this
  have hfr3 : ∀ o, o < 43 ∨ 52 < o → H3 o = H o := fun o ho => by rw [g3.1 o (by omega), hfr2 o ho]
  have hl0 := hLI m 0 (Nat.le_refl _) (by omega)
  refine st_aload_n rfl rfl (by decide) ?_
  refine st_getR (kk := 6) rfl rfl rfl (pz_43_6 hP) rfl ?_
  refine st_iconst rfl ?_
  refine st_iaload rfl rfl (by omega) (by omega) ?_
  rw [h30]
  refine st_ldc rfl ?_
  refine st_icmp_lt rfl (fun h100 => ?_) (fun h100 => ?_)
  · have hs : (shP a f l le gr m 0).1 < 100000 := by rcases hl0 with z | z <;> omega
    have hs2 : (shP a f l le gr (l - f + 1).toNat 0).1 < 100000 := by rw [hm]; exact hs
    have hsr := shE_r (le := le) (gr := gr) hf.2.1 hs2
    rw [hm] at hsr
    have hT3 : RT H3 10 a := hT.cgh (fun k k0 k1 => hfr3 k (by omega))
    have hE3 : ∀ k : Nat, k < m → 0 ≤ shE a f l le gr k ∧ shE a f l le gr k ≤ 200 ∧ H3 50 ((k : Int) * 201 + shE a f l le gr k) = shE a f l le gr (k + 1) := fun k hk => by
      have z := hsr k (by omega)
      refine ⟨z.1, by omega, ?_⟩
      have t := (g3.2.2 (m - k) (by omega) (shE a f l le gr k) z.1 z.2.1).2 (by omega)
      rw [show ((m : Int) - ((m - k : Nat) : Int)) = (k : Int) by omega] at t
      rw [t]
      rcases hLI (m - k) (shE a f l le gr k) (by omega) z.1 with q | q
      · rw [← q.2.2 (by omega)]
        show _ = (shP a f l le gr ((l - f + 1).toNat - k) (enR (shP a f l le gr) (l - f + 1).toNat k)).2
        rw [hm]
        show _ = (shP a f l le gr (m - k) (enR (shP a f l le gr) m k)).2
        have : shE a f l le gr k = enR (shP a f l le gr) m k := by unfold shE; rw [hm]
        rw [this]
      · omega
    refine st_aload_n rfl rfl (by decide) ?_
    refine st_aload_n rfl rfl (by decide) ?_
    refine st_getR (kk := 1) rfl rfl rfl (pz_10_1 hP) rfl ?_
    refine st_iload_n rfl rfl ?_
    refine st_iload rfl rfl ?_
    refine st_cvC (w := []) rfl rfl rfl (Nat.le_of_ble_eq_true rfl) (Nat.le_of_ble_eq_true rfl) rfl rfl (c_keepPlan (E := shE a f l le gr) hP hI hT3 (by omega) hE3 (by omega) rfl) ?_
    rintro v σ ⟨rfl, H4, rfl, ki⟩
    show am_WP _ _ _ _ _ [] _
    refine st_aload_n rfl rfl (by decide) ?_
    refine st_getR (kk := 6) rfl rfl rfl (pz_43_6 hP) rfl ?_
    refine st_iconst rfl ?_
    refine st_iaload rfl rfl (by omega) (by omega) ?_
    rw [show H4 49 = H3 49 from ki.1 _ (by decide), h30]
    refine st_iret rfl (fun z => by first | exact absurd z (by decide) | exact bi_01 _ | decide | omega) ?_
    refine ⟨H4, rfl, fun o ho => by rw [ki.1 o (by omega)]; exact hfr3 o ho, fun z => ?_, fun _ => ⟨am_ri ?_, ⟨ki.2.2.1.1, ki.2.2.1.2.1, by rw [ki.2.2.1.2.2]; omega⟩, fun k hk => ki.2.2.2.1 k (by omega), fun u hu => ki.2.2.2.2 u (by unfold shT at hu; omega)⟩⟩
    · omega
    · rw [hm]
      rcases hl0 with q | q <;> omega
  · refine st_iconst rfl ?_
    refine st_iret rfl (fun z => by first | exact absurd z (by decide) | exact bi_01 _ | decide | omega) ?_
    refine ⟨H3, rfl, hfr3, fun _ => ⟨rfl, ⟨?_, ?_, ?_⟩, ?_, ?_⟩, fun z => ?_⟩
    · rw [g3.2.1 10 (by omega) (by omega), h43 10 (by omega)]
    · rw [g3.2.1 11 (by omega) (by omega), h43 11 (by omega)]
    · rw [g3.2.1 12 (by omega) (by omega), h43 12 (by omega)]
    · rw [g3.1 51 (by omega), f1 51 (by omega), gi.1 51 (by omega)]
    · rw [g3.1 52 (by omega), f1 52 (by omega), gi.1 52 (by omega)]
    · rw [hm] at z
      rcases hl0 with q | q <;> omega
def flOK (a : Int → Int) (f l : Int) : Prop := (0 ≤ f ∧ f < a 2) ∧ (0 ≤ l ∧ l < a 2) ∧ f ≤ l ∧ ∀ s, f ≤ s → s ≤ l → a (6670 + 32 * s + 1) ≠ 1

theorem c_isFloor {d N : Nat} {P : am_P} {H : am_H} {a : Int → Int} {f l : Int} (hP : PZ P) (hI : Inv a) (hT : RT H 10 a) : am_C (d + 3) 38 [am_r 3, am_i f, am_i l] (N, P, H) (fun v σ => ∃ x, v = some (am_i x) ∧ σ = (N, P, H) ∧ ((x = 1 ∧ flOK a f l) ∨ (x = 0 ∧ ¬ flOK a f l))) := by
  refine am_enC (d := d + 2) (ml := 4) (ls := [_, _, _, _]) cq_Cart_isFloor rfl (Nat.le_of_ble_eq_true rfl) rfl ?_
  have hn := hI.n
  have t0 : H 14 0 = a 2 := hT.1
  refine st_aload_n rfl rfl (by decide) ?_
  refine st_getR (kk := 3) rfl rfl rfl (pz_3_3 hP) rfl ?_
  refine st_getR (kk := 1) rfl rfl rfl (pz_10_1 hP) rfl ?_
  refine st_iload_n rfl rfl ?_
  refine st_cv1 (w := []) rfl rfl rfl (Nat.le_of_ble_eq_true rfl) (Nat.le_of_ble_eq_true rfl) rfl rfl (r_Stacks_hasShelf hP t0) ?_
  refine st_if_eq_b rfl (fun h5 => ?_) (fun h5 => ?_)
  · refine st_iconst rfl ?_
    refine st_iret rfl (fun z => by first | exact absurd z (by decide) | exact bi_01 _ | decide | omega) ?_
    exact ⟨0, rfl, rfl, Or.inr ⟨rfl, fun z => by have := z.1; have := z.2.1; have := z.2.2.1; omega⟩⟩
  · refine st_aload_n rfl rfl (by decide) ?_
    refine st_getR (kk := 3) rfl rfl rfl (pz_3_3 hP) rfl ?_
    refine st_getR (kk := 1) rfl rfl rfl (pz_10_1 hP) rfl ?_
    refine st_iload_n rfl rfl ?_
    refine st_cv1 (w := []) rfl rfl rfl (Nat.le_of_ble_eq_true rfl) (Nat.le_of_ble_eq_true rfl) rfl rfl (r_Stacks_hasShelf hP t0) ?_
    refine st_if_eq_b rfl (fun h11 => ?_) (fun h11 => ?_)
    · refine st_iconst rfl ?_
      refine st_iret rfl (fun z => by first | exact absurd z (by decide) | exact bi_01 _ | decide | omega) ?_
      exact ⟨0, rfl, rfl, Or.inr ⟨rfl, fun z => by have := z.1; have := z.2.1; have := z.2.2.1; omega⟩⟩
    · refine st_iload_n rfl rfl ?_
      refine st_iload_n rfl rfl ?_
      refine st_icmp_ge rfl (fun h14 => ?_) (fun h14 => ?_)
      · refine st_iload_n rfl rfl ?_
        refine st_istore_n (ls' := [_, _, _, _]) rfl (Nat.le_of_ble_eq_true rfl) rfl ?_
        suffices hz : ∀ j, j ≤ (l + 1 - f).toNat → (∀ s, f ≤ s → s < f + (j : Int) → a (6670 + 32 * s + 1) ≠ 1) → am_WP (am_R (d + 2)) cd_Cart_isFloor (fun v σ => ∃ x, v = some (am_i x) ∧ σ = (N, P, H) ∧ ((x = 1 ∧ flOK a f l) ∨ (x = 0 ∧ ¬ flOK a f l))) 19 [some (am_r 3), some (am_i f), some (am_i l), some (am_i (f + (j : Int)))] [] (N, P, H) by
          have := hz 0 (Nat.zero_le _) (fun s s0 s1 => by omega)
          rw [show f + ((0 : Nat) : Int) = f by omega] at this
          exact this
        refine up_ind (n := (l + 1 - f).toNat) ?_ ?_
        · intro hs
          refine st_iload_n rfl rfl ?_
          refine st_iload_n rfl rfl ?_
          refine st_icmp_gt rfl (fun h21 => ?_) (fun h21 => (by exfalso; omega))
          refine st_iconst rfl ?_
          refine st_iret rfl (fun z => by first | exact absurd z (by decide) | exact bi_01 _ | decide | omega) ?_
          exact ⟨1, rfl, rfl, Or.inl ⟨rfl, h5, h11, by omega, fun s s0 s1 => hs s s0 (by omega)⟩⟩
        · intro j hj ih hs
          refine st_iload_n rfl rfl ?_
          refine st_iload_n rfl rfl ?_
          refine st_icmp_gt rfl (fun h21 => (by exfalso; omega)) (fun h21 => ?_)
          refine st_aload_n rfl rfl (by decide) ?_
          refine st_getR (kk := 3) rfl rfl rfl (pz_3_3 hP) rfl ?_
          refine st_getR (kk := 1) rfl rfl rfl (pz_10_1 hP) rfl ?_
          refine st_iload_n rfl rfl ?_
          refine st_cv1 (w := []) rfl rfl rfl (Nat.le_of_ble_eq_true rfl) (Nat.le_of_ble_eq_true rfl) rfl rfl (r_Stacks_isHigh hP hI hT) ?_
          refine st_if_eq_b rfl (fun h27 => ?_) (fun h27 => ?_)
          · refine st_iinc (ls' := [_, _, _, _]) rfl rfl (by omega) rfl ?_
            refine st_goto rfl ?_
            rw [show f + (j : Int) + 1 = f + ((j + 1 : Nat) : Int) by omega]
            exact ih (fun s s0 s1 => by
              by_cases hsj : s = f + (j : Int)
              · rw [hsj]; exact fun z => h27 ⟨⟨by omega, by omega⟩, z⟩
              · exact hs s s0 (by omega))
          · refine st_iconst rfl ?_
            refine st_iret rfl (fun z => by first | exact absurd z (by decide) | exact bi_01 _ | decide | omega) ?_
            exact ⟨0, rfl, rfl, Or.inr ⟨rfl, fun z => z.2.2.2 (f + (j : Int)) (by omega) (by omega) h27.2⟩⟩
      · refine st_iconst rfl ?_
        refine st_iret rfl (fun z => by first | exact absurd z (by decide) | exact bi_01 _ | decide | omega) ?_
        exact ⟨0, rfl, rfl, Or.inr ⟨rfl, fun z => by have := z.1; have := z.2.1; have := z.2.2.1; omega⟩⟩
/-- what shift leaves in the class -/
def CSQ (N : Nat) (P : am_P) (H : am_H) (a : Int → Int) (f l le gr : Int) (v : Option am_V) (σ : am_S) : Prop := ∃ H' : am_H, σ = (N, P, H') ∧ (∀ o, o < 43 ∨ 52 < o → H' o = H o) ∧
  ((¬ shOK a f l le gr ∨ 100000 ≤ (shP a f l le gr (l - f + 1).toNat 0).1) → v = some (am_i (-1)) ∧ (H' 43 10 = H 43 10 ∧ H' 43 11 = H 43 11 ∧ H' 43 12 = H 43 12) ∧ H' 51 = H 51 ∧ H' 52 = H 52) ∧
  ((shOK a f l le gr ∧ (shP a f l le gr (l - f + 1).toNat 0).1 < 100000) → v = some (am_i (shP a f l le gr (l - f + 1).toNat 0).1) ∧ (H' 43 10 = 1 ∧ H' 43 11 = f ∧ H' 43 12 = l - f + 1) ∧ (∀ k : Nat, k < (l - f + 1).toNat → H' 51 (k : Int) = shE a f l le gr (k + 1)) ∧ ∀ u : Nat, u < shT f l → H' 52 (u : Int) = gW a f u)

theorem c_Cart_shift {d N : Nat} {P : am_P} {H : am_H} {f l le gr : Int} {a : Int → Int} (hP : PZ P) (hI : Inv a) (hW : InvW a) (hS : RS H 10 a)  : am_C (d + 7) 37 [am_r 3, am_i (f), am_i (l), am_i (le), am_i (gr)] (N, P, H) (CSQ N P H a f l le gr) := by
  refine am_enC (d := d + 6) (ml := 5) (ls := [_, _, _, _, _]) cq_Cart_shift rfl (Nat.le_of_ble_eq_true rfl) rfl ?_
  have hn := hI.n
  have hM := hS.m
  have hT := hS.t
  have hR := hS.r
  have hC := hS.c
  have hG := hS.g
  have t0 : H 14 0 = a 2 := hT.1
  have t4 : H 14 4 = a 3 := hT.2.1
  refine st_aload_n rfl rfl (by decide) ?_
  refine st_iload_n rfl rfl ?_
  refine st_iload_n rfl rfl ?_
  refine st_cvC (w := []) rfl rfl rfl (Nat.le_of_ble_eq_true rfl) (Nat.le_of_ble_eq_true rfl) rfl rfl (c_isFloor hP hI hT) ?_
  rintro v σ ⟨fl, rfl, rfl, hfl⟩
  show am_WP _ _ _ _ _ [am_i fl] _
  refine st_if_eq rfl (fun h4 => ?_) (fun h4 => ?_)
  · refine st_iconst rfl ?_
    refine st_iret rfl (fun z => by first | exact absurd z (by decide) | exact bi_01 _ | decide | omega) ?_
    refine ⟨H, rfl, fun _ _ => rfl, fun _ => ⟨rfl, ⟨rfl, rfl, rfl⟩, rfl, rfl⟩, fun z => absurd z.1 (fun q => ?_)⟩
    rcases hfl with y | y
    · have := q.1; omega
    · first
      | exact y.2 ⟨q.1.1, q.1.2.1, q.1.2.2.1, q.2⟩
      | (have := q.1; omega)
  · refine st_iload_n rfl rfl ?_
    refine st_if_lt rfl (fun h6 => ?_) (fun h6 => ?_)
    · refine st_iconst rfl ?_
      refine st_iret rfl (fun z => by first | exact absurd z (by decide) | exact bi_01 _ | decide | omega) ?_
      refine ⟨H, rfl, fun _ _ => rfl, fun _ => ⟨rfl, ⟨rfl, rfl, rfl⟩, rfl, rfl⟩, fun z => absurd z.1 (fun q => ?_)⟩
      rcases hfl with y | y
      · have := q.1; omega
      · first
        | exact y.2 ⟨q.1.1, q.1.2.1, q.1.2.2.1, q.2⟩
        | (have := q.1; omega)
    · refine st_iload rfl rfl ?_
      refine st_bipush rfl ?_
      refine st_icmp_gt rfl (fun h9 => ?_) (fun h9 => ?_)
      · refine st_iconst rfl ?_
        refine st_iret rfl (fun z => by first | exact absurd z (by decide) | exact bi_01 _ | decide | omega) ?_
        refine ⟨H, rfl, fun _ _ => rfl, fun _ => ⟨rfl, ⟨rfl, rfl, rfl⟩, rfl, rfl⟩, fun z => absurd z.1 (fun q => ?_)⟩
        rcases hfl with y | y
        · have := q.1; omega
        · first
          | exact y.2 ⟨q.1.1, q.1.2.1, q.1.2.2.1, q.2⟩
          | (have := q.1; omega)
      · refine st_iload_n rfl rfl ?_
        refine st_iload rfl rfl ?_
        refine st_icmp_le rfl (fun h12 => ?_) (fun h12 => ?_)
        · have hfa : 0 ≤ f ∧ f ≤ l ∧ l < a 2 := by
            rcases hfl with z | z
            · have := z.2.1; have := z.2.2.1; have := z.2.2.2.1; omega
            · omega
          have hfb : ∀ s, f ≤ s → s ≤ l → a (6670 + 32 * s + 1) ≠ 1 := by
            rcases hfl with z | z
            · exact z.2.2.2.2
            · omega
          refine st_aload_n rfl rfl (by decide) ?_
          refine st_getR (kk := 6) rfl rfl rfl (pz_3_6 hP) rfl ?_
          refine st_aload_n rfl rfl (by decide) ?_
          refine st_getR (kk := 3) rfl rfl rfl (pz_3_3 hP) rfl ?_
          refine st_iload_n rfl rfl ?_
          refine st_iload_n rfl rfl ?_
          refine st_iload_n rfl rfl ?_
          refine st_iload rfl rfl ?_
          refine st_cvC (w := []) rfl rfl rfl (Nat.le_of_ble_eq_true rfl) (Nat.le_of_ble_eq_true rfl) rfl rfl (c_makePlan (le := le) (gr := gr) hP hI hW hM hT hfa hfb (by omega)) ?_
          rintro v σ ⟨H', rfl, q1, q2, q3⟩
          by_cases hs : 100000 ≤ (shP a f l le gr (l - f + 1).toNat 0).1
          case pos =>
            obtain ⟨rfl, e2, e3, e4⟩ := q2 hs
            show am_WP _ _ _ _ _ [am_i (-1)] _
            refine st_iret rfl (fun z => by first | exact absurd z (by decide) | decide | omega) ?_
            exact ⟨H', rfl, q1, fun _ => ⟨rfl, e2, e3, e4⟩, fun z => absurd hs (by have := z.2; omega)⟩
          obtain ⟨rfl, e2, e3, e4⟩ := q3 (by omega)
          show am_WP _ _ _ _ _ [am_i (shP a f l le gr (l - f + 1).toNat 0).1] _
          refine st_iret rfl (fun z => by first | exact absurd z (by decide) | exact bi_01 _ | decide | omega) ?_
          have hok : shOK a f l le gr := ⟨⟨by omega, by omega, by omega, by omega, by omega, by omega⟩, hfb⟩
          refine ⟨H', rfl, q1, fun z => ?_, fun _ => ⟨rfl, e2, e3, e4⟩⟩
          rcases z with z | z
          · exact absurd hok z
          · omega
        · refine st_iconst rfl ?_
          refine st_iret rfl (fun z => by first | exact absurd z (by decide) | exact bi_01 _ | decide | omega) ?_
          refine ⟨H, rfl, fun _ _ => rfl, fun _ => ⟨rfl, ⟨rfl, rfl, rfl⟩, rfl, rfl⟩, fun z => absurd z.1 (fun q => ?_)⟩
          rcases hfl with y | y
          · have := q.1; omega
          · first
            | exact y.2 ⟨q.1.1, q.1.2.1, q.1.2.2.1, q.2⟩
            | (have := q.1; omega)
theorem r_Shifter_endOf {d N : Nat} {P : am_P} {H : am_H} {k q f : Int} (hP : PZ P) (h1 : H 43 10 = q) (hq : q = 0 ∨ q = 1) (h2 : q = 1 → 0 ≤ H 43 12 ∧ H 43 12 ≤ 16) : am_R (d + 1) 205 [am_r 43, am_i (k)] (N, P, H) (some (am_i (if q = 1 ∧ 0 ≤ k ∧ k < H 43 12 then H 51 k else -1))) (N, P, H) := by
  refine am_en1 (d := d + 0) (ml := 2) (ls := [_, _]) cq_Shifter_endOf rfl (Nat.le_of_ble_eq_true rfl) rfl ?_
  refine st_aload_n rfl rfl (by decide) ?_
  refine st_getI (kk := 10) rfl rfl (by decide) rfl ?_
  refine st_if_eq rfl (fun h2 => ?_) (fun h2 => ?_)
  · refine st_iconst rfl ?_
    refine st_iret rfl (fun z => by first | exact absurd z (by decide) | exact bi_01 _ | decide | omega) ?_
    exact ⟨am_ri (by first | rw [if_pos (by omega)] | rw [if_neg (by omega)]), rfl⟩
  · refine st_iload_n rfl rfl ?_
    refine st_if_lt rfl (fun h4 => ?_) (fun h4 => ?_)
    · refine st_iconst rfl ?_
      refine st_iret rfl (fun z => by first | exact absurd z (by decide) | exact bi_01 _ | decide | omega) ?_
      exact ⟨am_ri (by first | rw [if_pos (by omega)] | rw [if_neg (by omega)]), rfl⟩
    · refine st_iload_n rfl rfl ?_
      refine st_aload_n rfl rfl (by decide) ?_
      refine st_getI (kk := 12) rfl rfl (by decide) rfl ?_
      refine st_icmp_ge rfl (fun h8 => ?_) (fun h8 => ?_)
      · refine st_iconst rfl ?_
        refine st_iret rfl (fun z => by first | exact absurd z (by decide) | exact bi_01 _ | decide | omega) ?_
        exact ⟨am_ri (by first | rw [if_pos (by omega)] | rw [if_neg (by omega)]), rfl⟩
      · refine st_aload_n rfl rfl (by decide) ?_
        refine st_getR (kk := 13) rfl rfl rfl (pz_43_13 hP) rfl ?_
        refine st_iload_n rfl rfl ?_
        refine st_iaload rfl rfl (by omega) (by omega) ?_
        refine st_goto rfl ?_
        refine st_iret rfl (fun z => by first | exact absurd z (by decide) | exact bi_01 _ | decide | omega) ?_
        exact ⟨am_ri (by first | rw [if_pos (by omega)] | rw [if_neg (by omega)]), rfl⟩
