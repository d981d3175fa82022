/-! ===== the reference: shift, whole ===== -/
theorem gsF_le (lk : Nat → Int) : ∀ k, gsF lk k ≤ k
  | 0 => Nat.le_refl _
  | k + 1 => by
    have := gsF_le lk k
    simp only [gsF]
    split <;> omega
theorem geF_le (lk : Nat → Int) (n : Nat) : ∀ f k, k < n → k < geF lk n f k ∧ geF lk n f k ≤ n
  | 0, k, h => by simp only [geF]; omega
  | f + 1, k, h => by
    simp only [geF]
    split
    · have := geF_le lk n f (k + 1) (by omega)
      omega
    · omega
theorem gsF_cg {lk lk' : Nat → Int} {n : Nat} (h : ∀ k, k + 1 < n → lk k = lk' k) : ∀ k, k < n → gsF lk k = gsF lk' k
  | 0, _ => rfl
  | k + 1, hk => by
    simp only [gsF]
    rw [h k hk, gsF_cg h k (by omega)]
theorem geF_cg {lk lk' : Nat → Int} {n : Nat} (h : ∀ k, k + 1 < n → lk k = lk' k) : ∀ f k, geF lk n f k = geF lk' n f k
  | 0, _ => rfl
  | f + 1, k => by
    simp only [geF]
    by_cases q : k + 1 < n
    · rw [h k q, geF_cg h f (k + 1)]
    · rw [if_neg (fun z => q z.1), if_neg (fun z => q z.1)]
theorem pdV_cg {w w' : Int → Int} {lk lk' : Nat → Int} {n : Nat} {most : Int} (hw : ∀ x, 0 ≤ x → x < (n : Int) → w x = w' x) (h : ∀ k, k + 1 < n → lk k = lk' k) {k : Nat} (hk : k < n) : pdV w lk n most k = pdV w' lk' n most k := by
  unfold pdV
  have h1 := gsF_le lk' k
  have h2 := geF_le lk' n n k hk
  rw [gsF_cg h k hk, geF_cg h n k, smF_cg (n := (n : Int)) (by omega) hw _ (by omega)]
theorem pdV_01 (w : Int → Int) (lk : Nat → Int) (n : Nat) (most : Int) (k : Nat) : pdV w lk n most k = 0 ∨ pdV w lk n most k = 1 := by
  unfold pdV
  split
  · exact Or.inr rfl
  · exact Or.inl rfl
def shT (f l : Int) : Nat := 30 * (l + 1 - f).toNat
def shN (a : Int → Int) (f l : Int) : Nat := (gN a f (shT f l)).toNat
def shI (a : Int → Int) (f l : Int) : Int → Int := gA a f (gW a f) (fun _ => 0) (shT f l)
def shO (a : Int → Int) (f l : Int) : Int → Int := gA a f (fun t => ((t / 30 : Nat) : Int)) (fun _ => 0) (shT f l)
def nrL (a : Int → Int) (f : Int) : Nat → Int
  | 0 => 2000
  | s + 1 => if a (6670 + 32 * (f + (s : Int))) < nrL a f s then a (6670 + 32 * (f + (s : Int))) else nrL a f s
def shD (a : Int → Int) (f l gr : Int) : Int → Int := fun k => if k = (shN a f l : Int) then 1 else pdV (itW a (shI a f l)) (itK a (shI a f l)) (shN a f l) (nrL a f (l + 1 - f).toNat * gr / 100) k.toNat
def shP (a : Int → Int) (f l le gr : Int) : Nat → Int → Int × Int := dpR 100000 (fun _ => -1) (itW a (shI a f l)) (shO a f l) (shD a f l gr) (shN a f l : Int) (fun k => k) (fun k => a (6670 + 32 * (f + k)) * le / 100) (fun k => a (6670 + 32 * (f + k)) * gr / 100) (l - f + 1)
def enR (D : Nat → Int → Int × Int) (sh : Nat) : Nat → Int
  | 0 => 0
  | k + 1 => (D (sh - k) (enR D sh k)).2
def shE (a : Int → Int) (f l le gr : Int) : Nat → Int := enR (shP a f l le gr) (l - f + 1).toNat
def shOK (a : Int → Int) (f l le gr : Int) : Prop := ((0 ≤ f ∧ f < a 2) ∧ (0 ≤ l ∧ l < a 2) ∧ f ≤ l ∧ 0 ≤ le ∧ gr ≤ 100 ∧ le ≤ gr) ∧ ∀ s, f ≤ s → s ≤ l → a (6670 + 32 * s + 1) ≠ 1
def SHQ (N : Nat) (P : am_P) (H : am_H) (f l le gr : Int) (v : Option am_V) (σ : am_S) : Prop := ∃ H' : am_H, σ = (N, P, H') ∧ (∀ o, (o < 53 ∨ (54 ≤ o ∧ o ≤ 63) ∨ 71 < o) → H' o = H o) ∧ (∀ k, k ≠ 19 → k ≠ 22 → k ≠ 23 → k ≠ 24 → k ≠ 27 → H' 53 k = H 53 k) ∧
  ((¬ shOK (H 54) f l le gr ∨ 100000 ≤ (shP (H 54) f l le gr (l - f + 1).toNat 0).1) → v = some (am_i (-1)) ∧ (H' 53 22 = H 53 22 ∧ H' 53 23 = H 53 23 ∧ H' 53 24 = H 53 24) ∧ H' 69 = H 69 ∧ H' 70 = H 70) ∧
  ((shOK (H 54) f l le gr ∧ (shP (H 54) f l le gr (l - f + 1).toNat 0).1 < 100000) → v = some (am_i (shP (H 54) f l le gr (l - f + 1).toNat 0).1) ∧ (H' 53 22 = 1 ∧ H' 53 23 = f ∧ H' 53 24 = l) ∧ H' 69 = pfx (fun k => shE (H 54) f l le gr (k + 1)) (H 69) (l - f + 1).toNat ∧ H' 70 = pfx (gW (H 54) f) (H 70) (shT f l))
theorem shE_r {a : Int → Int} {f l le gr : Int} (h : f ≤ l) (hs : (shP a f l le gr (l - f + 1).toNat 0).1 < 100000) : ∀ k : Nat, k ≤ (l - f + 1).toNat → 0 ≤ shE a f l le gr k ∧ shE a f l le gr k ≤ (shN a f l : Int) ∧ (shP a f l le gr ((l - f + 1).toNat - k) (shE a f l le gr k)).1 < 100000 ∧ (1 ≤ k → shE a f l le gr (k - 1) ≤ shE a f l le gr k ∧ shE a f l le gr k ≤ shE a f l le gr (k - 1) + 30)
  | 0, _ => ⟨Int.le_refl _, Int.ofNat_nonneg _, hs, fun q => by omega⟩
  | k + 1, hk => by
    have ih := shE_r h hs k (by omega)
    have ih1 := ih.2.2.1
    rw [show (l - f + 1).toNat - k = ((l - f + 1).toNat - (k + 1)) + 1 by omega] at ih1
    obtain ⟨e, q1, q2, q3, q4, q5, q6⟩ := dpR_e (by decide) (fun _ => -1) _ ih.1 ih1
    have e1 : shE a f l le gr (k + 1) = e := by
      rw [← q1]
      show (shP a f l le gr ((l - f + 1).toNat - k) (shE a f l le gr k)).2 = _
      rw [show (l - f + 1).toNat - k = ((l - f + 1).toNat - (k + 1)) + 1 by omega]
      rfl
    rw [e1]
    exact ⟨by omega, q3, q5, fun _ => ⟨q2, q4⟩⟩
theorem shE_n {a : Int → Int} {f l le gr : Int} (h : f ≤ l) (hs : (shP a f l le gr (l - f + 1).toNat 0).1 < 100000) : shE a f l le gr (l - f + 1).toNat = (shN a f l : Int) := by
  have h1 := (shE_r h hs (l - f + 1).toNat (Nat.le_refl _)).2.2.1
  rw [Nat.sub_self] at h1
  simp only [shP, dpR] at h1
  split at h1
  · assumption
  · omega

theorem l3_shift {d N : Nat} {P : am_P} {B H : am_H} {X Y : Int → Int} {f l le gr nr : Int} (hP : PZ P) (hf0 : 0 ≤ f) (hfl : f ≤ l) (hl : l < 16) (hok : shOK (H 54) f l le gr) (hBn : shN (H 54) f l ≤ 480) (hB1 : ∀ o, (o < 53 ∨ (54 ≤ o ∧ o ≤ 63) ∨ 71 < o) → B o = H o) (hB53 : B 53 = am_uf (am_uf (H 53) 19 (shN (H 54) f l : Int)) 27 f) (hB69 : B 69 = H 69) (hB70 : B 70 = gS (H 54) f (H 70) (shT f l)) (hB71 : B 71 = pfx (fun k => H 70 (k : Int)) (H 71) 480) (hX : ∀ r : Nat, 1 ≤ r → r ≤ (l - f + 1).toNat → ∀ i, 0 ≤ i → i ≤ (shN (H 54) f l : Int) → X (481 * (l - f + 1 - (r : Int)) + i) = (shP (H 54) f l le gr r i).1 ∧ Y (481 * (l - f + 1 - (r : Int)) + i) = (shP (H 54) f l le gr r i).2) (w1 w2 : Option am_V) : am_WP (am_R (d + 3)) cd_Model_shift (SHQ N P H f l le gr) 112 [some (am_r 53), some (am_i f), some (am_i l), some (am_i le), some (am_i gr), some (am_i nr), some (am_i (l - f + 1)), w1, w2] [] (N, P, am_so (am_so B 67 X) 68 Y) := by
  have hX0 := hX (l - f + 1).toNat (by omega) (Nat.le_refl _) 0 (by omega) (by omega)
  rw [show (481 : Int) * (l - f + 1 - (((l - f + 1).toNat : Nat) : Int)) + 0 = 0 by omega] at hX0
  have hX00 := hX0.1
  refine st_aload_n rfl rfl (by decide) ?_
  refine st_getR (kk := 20) rfl rfl rfl (pz_53_20 hP) rfl ?_
  refine st_iconst rfl ?_
  refine st_iaload rfl rfl (by omega) (by omega) ?_
  rw [am_so_ne _ _ (by decide), am_so_at]
  refine st_ldc rfl ?_
  refine st_icmp_lt rfl (fun h117 => ?_) (fun h117 => ?_)
  · have hlt : (shP (H 54) f l le gr (l - f + 1).toNat 0).1 < 100000 := by omega
    refine st_aload_n rfl rfl (by decide) ?_
    refine st_iconst rfl ?_
    refine st_putZ (kk := 22) rfl rfl rfl (Or.inr rfl) rfl ?_
    refine st_aload_n rfl rfl (by decide) ?_
    refine st_iload_n rfl rfl ?_
    refine st_putI (kk := 23) rfl rfl rfl rfl ?_
    refine st_aload_n rfl rfl (by decide) ?_
    refine st_iload_n rfl rfl ?_
    refine st_putI (kk := 24) rfl rfl rfl rfl ?_
    refine st_iconst rfl ?_
    refine st_istore (ls' := [_, _, _, _, _, _, _, _, _]) rfl (Nat.le_of_ble_eq_true rfl) rfl ?_
    refine st_iconst rfl ?_
    refine st_istore (ls' := [_, _, _, _, _, _, _, _, _]) rfl (Nat.le_of_ble_eq_true rfl) rfl ?_
    have e0 : am_up (am_up (am_up (am_so (am_so B 67 X) 68 Y) 53 22 1) 53 23 f) 53 24 l = am_so (am_up (am_up (am_up (am_so (am_so B 67 X) 68 Y) 53 22 1) 53 23 f) 53 24 l) 69 (pfx (fun k => shE (H 54) f l le gr (k + 1)) (B 69) 0) := by
      rw [pfx_0]
      exact (am_so_self (am_up (am_up (am_up (am_so (am_so B 67 X) 68 Y) 53 22 1) 53 23 f) 53 24 l) 69).symm
    rw [e0]
    refine up_ind (n := (l - f + 1).toNat) (p := fun j => am_WP (am_R (d + 3)) cd_Model_shift _ 148 [some (am_r 53), some (am_i f), some (am_i l), some (am_i le), some (am_i gr), some (am_i nr), some (am_i (l - f + 1)), some (am_i (shE (H 54) f l le gr j)), some (am_i (j : Int))] [] (N, P, am_so (am_up (am_up (am_up (am_so (am_so B 67 X) 68 Y) 53 22 1) 53 23 f) 53 24 l) 69 (pfx (fun k => shE (H 54) f l le gr (k + 1)) (B 69) j))) ?_ ?_ 0 (Nat.zero_le _)
    · show am_WP _ _ _ _ _ _ _
      refine st_iload rfl rfl ?_
      refine st_iload rfl rfl ?_
      refine st_icmp_ge rfl (fun h150 => ?_) (fun h150 => (by exfalso; omega))
      refine st_aload_n rfl rfl (by decide) ?_
      refine st_getR (kk := 20) rfl rfl rfl (pz_53_20 hP) rfl ?_
      refine st_iconst rfl ?_
      refine st_iaload rfl rfl (by omega) (by omega) ?_
      rw [am_so_ne _ _ (by decide), am_up_ne (by decide), am_up_ne (by decide), am_up_ne (by decide), am_so_ne _ _ (by decide), am_so_at]
      refine st_iret rfl (fun z => by first | exact absurd z (by decide) | exact bi_01 _ | decide | omega) ?_
      refine ⟨_, rfl, fun o ho => ?_, fun k k1 k2 k3 k4 k5 => ?_, fun q => ?_, fun _ => ⟨am_ri hX00, ⟨?_, ?_, ?_⟩, ?_, ?_⟩⟩
      · rw [am_so_ne _ _ (by omega), am_up_ne (by omega), am_up_ne (by omega), am_up_ne (by omega), am_so_ne _ _ (by omega), am_so_ne _ _ (by omega)]; exact hB1 o ho
      · rw [am_so_ne _ _ (by decide), am_up_eq, am_uf_ne _ _ k4, am_up_eq, am_uf_ne _ _ k3, am_up_eq, am_uf_ne _ _ k2, am_so_ne _ _ (by decide), am_so_ne _ _ (by decide), hB53, am_uf_ne _ _ k5, am_uf_ne _ _ k1]
      · rcases q with q | q
        · exact absurd hok q
        · omega
      · rw [am_so_ne _ _ (by decide), am_up_eq, am_uf_ne _ _ (by omega), am_up_eq, am_uf_ne _ _ (by omega), am_up_eq, am_uf_eq]
      · rw [am_so_ne _ _ (by decide), am_up_eq, am_uf_ne _ _ (by omega), am_up_eq, am_uf_eq]
      · rw [am_so_ne _ _ (by decide), am_up_eq, am_uf_eq]
      · rw [am_so_at, hB69]
      · rw [am_so_ne _ _ (by decide), am_up_ne (by decide), am_up_ne (by decide), am_up_ne (by decide), am_so_ne _ _ (by decide), am_so_ne _ _ (by decide), hB70]
        rfl
    · intro j hj ih
      have ih : am_WP _ _ _ _ _ _ _ := ih
      show am_WP _ _ _ _ _ _ _
      have her := shE_r hfl hlt j (by omega)
      have eY : Y (481 * (j : Int) + shE (H 54) f l le gr j) = shE (H 54) f l le gr (j + 1) := by
        have hx := (hX ((l - f + 1).toNat - j) (by omega) (by omega) (shE (H 54) f l le gr j) her.1 her.2.1).2
        rw [show (481 : Int) * (l - f + 1 - (((l - f + 1).toNat - j : Nat) : Int)) + shE (H 54) f l le gr j = 481 * (j : Int) + shE (H 54) f l le gr j by omega] at hx
        exact hx
      refine st_iload rfl rfl ?_
      refine st_iload rfl rfl ?_
      refine st_icmp_ge rfl (fun h150 => (by exfalso; omega)) (fun h150 => ?_)
      refine st_aload_n rfl rfl (by decide) ?_
      refine st_getR (kk := 21) rfl rfl rfl (pz_53_21 hP) rfl ?_
      refine st_sipush rfl ?_
      refine st_iload rfl rfl ?_
      refine st_imul rfl (by omega) ?_
      refine st_iload rfl rfl ?_
      refine st_iadd rfl (by omega) ?_
      refine st_iaload rfl rfl (by omega) (by omega) ?_
      rw [am_so_ne _ _ (by decide), am_up_ne (by decide), am_up_ne (by decide), am_up_ne (by decide), am_so_at, eY]
      refine st_istore (ls' := [_, _, _, _, _, _, _, _, _]) rfl (Nat.le_of_ble_eq_true rfl) rfl ?_
      refine st_aload_n rfl rfl (by decide) ?_
      refine st_getR (kk := 25) rfl rfl rfl (pz_53_25 hP) rfl ?_
      refine st_iload rfl rfl ?_
      refine st_iload rfl rfl ?_
      refine st_iastore rfl rfl (by omega) (by omega) ?_
      refine st_iinc (ls' := [_, _, _, _, _, _, _, _, _]) rfl rfl (by omega) rfl ?_
      refine st_goto rfl ?_
      rw [pfx_s] at ih
      simp only [am_up, am_so_so, am_so_at] at ih ⊢
      exact ih
  · refine st_iconst rfl ?_
    refine st_istore (ls' := [_, _, _, _, _, _, _, _, _]) rfl (Nat.le_of_ble_eq_true rfl) rfl ?_
    have e0 : am_so (am_so B 67 X) 68 Y = am_so (am_so (am_so B 67 X) 68 Y) 70 (pfx (fun k => H 70 (k : Int)) (B 70) 0) := by
      rw [pfx_0]
      exact (am_so_self (am_so (am_so B 67 X) 68 Y) 70).symm
    rw [e0]
    refine up_ind (n := 480) (p := fun j => am_WP (am_R (d + 3)) cd_Model_shift _ 120 [some (am_r 53), some (am_i f), some (am_i l), some (am_i le), some (am_i gr), some (am_i nr), some (am_i (l - f + 1)), some (am_i (j : Int)), w2] [] (N, P, am_so (am_so (am_so B 67 X) 68 Y) 70 (pfx (fun k => H 70 (k : Int)) (B 70) j))) ?_ ?_ 0 (Nat.zero_le _)
    · show am_WP _ _ _ _ _ _ _
      refine st_iload rfl rfl ?_
      refine st_sipush rfl ?_
      refine st_icmp_ge rfl (fun h122 => ?_) (fun h122 => (by exfalso; omega))
      refine st_iconst rfl ?_
      refine st_iret rfl (fun z => by first | exact absurd z (by decide) | exact bi_01 _ | decide | omega) ?_
      refine ⟨_, rfl, fun o ho => ?_, fun k k1 k2 k3 k4 k5 => ?_, fun _ => ⟨rfl, ⟨?_, ?_, ?_⟩, ?_, ?_⟩, fun q => ?_⟩
      · rw [am_so_ne _ _ (by omega), am_so_ne _ _ (by omega), am_so_ne _ _ (by omega)]; exact hB1 o ho
      · rw [am_so_ne _ _ (by decide), am_so_ne _ _ (by decide), am_so_ne _ _ (by decide), hB53, am_uf_ne _ _ k5, am_uf_ne _ _ k1]
      · rw [am_so_ne _ _ (by decide), am_so_ne _ _ (by decide), am_so_ne _ _ (by decide), hB53, am_uf_ne _ _ (by omega), am_uf_ne _ _ (by omega)]
      · rw [am_so_ne _ _ (by decide), am_so_ne _ _ (by decide), am_so_ne _ _ (by decide), hB53, am_uf_ne _ _ (by omega), am_uf_ne _ _ (by omega)]
      · rw [am_so_ne _ _ (by decide), am_so_ne _ _ (by decide), am_so_ne _ _ (by decide), hB53, am_uf_ne _ _ (by omega), am_uf_ne _ _ (by omega)]
      · rw [am_so_ne _ _ (by decide), am_so_ne _ _ (by decide), am_so_ne _ _ (by decide), hB69]
      · rw [am_so_at, hB70]
        funext k
        unfold pfx gS
        by_cases q : 0 ≤ k ∧ k < ((480 : Nat) : Int)
        · rw [if_pos q]
          show H 70 ((k.toNat : Nat) : Int) = _
          rw [show ((k.toNat : Nat) : Int) = k by omega]
        · rw [if_neg q, if_neg (by unfold shT; omega)]
      · have := q.2; omega
    · intro j hj ih
      have ih : am_WP _ _ _ _ _ _ _ := ih
      show am_WP _ _ _ _ _ _ _
      refine st_iload rfl rfl ?_
      refine st_sipush rfl ?_
      refine st_icmp_ge rfl (fun h122 => (by exfalso; omega)) (fun h122 => ?_)
      refine st_aload_n rfl rfl (by decide) ?_
      refine st_getR (kk := 26) rfl rfl rfl (pz_53_26 hP) rfl ?_
      refine st_iload rfl rfl ?_
      refine st_aload_n rfl rfl (by decide) ?_
      refine st_getR (kk := 28) rfl rfl rfl (pz_53_28 hP) rfl ?_
      refine st_iload rfl rfl ?_
      refine st_iaload rfl rfl (by omega) (by omega) ?_
      rw [am_so_ne _ _ (by decide), am_so_ne _ _ (by decide), am_so_ne _ _ (by decide), hB71, show pfx (fun k => H 70 (k : Int)) (H 71) 480 (j : Int) = H 70 (j : Int) by unfold pfx; rw [if_pos (by omega), Int.toNat_natCast]]
      refine st_iastore rfl rfl (by omega) (by omega) ?_
      refine st_iinc (ls' := [_, _, _, _, _, _, _, _, _]) rfl rfl (by omega) rfl ?_
      refine st_goto rfl ?_
      rw [pfx_s] at ih
      simp only [am_up, am_so_so, am_so_at]
      exact ih
theorem nrL_r {a : Int → Int} (hI : Inv a) {f : Int} (h0 : 0 ≤ f) : ∀ j : Nat, f + (j : Int) ≤ a 2 → 100 ≤ nrL a f j ∧ nrL a f j ≤ 2000
  | 0, _ => by simp only [nrL]; omega
  | j + 1, h => by
    have ih := nrL_r hI h0 j (by omega)
    have hw := (hI.s.2.1 (f + (j : Int)) (by omega) (by omega)).1
    simp only [nrL]
    split <;> omega
theorem shN_r {a : Int → Int} {f l : Int} (h0 : 0 ≤ f) (hl : l < 16) : shN a f l ≤ 480 ∧ (shN a f l : Int) = gN a f (shT f l) := by
  have := gN_r a f (shT f l)
  have h2 : shT f l ≤ 480 := by unfold shT; omega
  unfold shN
  omega
theorem shIT {a : Int → Int} (hI : Inv a) {f l : Int} (h0 : 0 ≤ f) (hl : l < a 2) (hfl : f ≤ l) (I : Int → Int) : IT a (gA a f (gW a f) I (shT f l)) (gN a f (shT f l)) := by
  intro x q0 q1
  obtain ⟨u, r1, r2, r3, r4⟩ := gA_at a f (shT f l) x q0 q1
  have hn := hI.n
  rw [r4]
  have hu : u < 30 * (l + 1 - f).toNat := r1
  exact ⟨r2, hI.th (by omega) (by omega) (by omega) (by omega)⟩
theorem am_so_s2 {α : Type} (B : Nat → Int → α) (o p : Nat) (h : p ≠ o) : am_so (am_so B o (B o)) p (B p) = B := by
  rw [am_so_self, am_so_self]

theorem c_Model_shift {d N : Nat} {P : am_P} {H : am_H} {f l le gr : Int} (hP : PZ P) (hI : Inv (H 54)) : am_C (d + 4) 127 [am_r 53, am_i f, am_i l, am_i le, am_i gr] (N, P, H) (SHQ N P H f l le gr) := by
  refine am_enC (d := d + 3) (ml := 9) (ls := [_, _, _, _, _, _, _, _, _]) cq_Model_shift rfl (Nat.le_of_ble_eq_true rfl) rfl ?_
  have hn := hI.n
  refine st_aload_n rfl rfl (by decide) ?_
  refine st_iload_n rfl rfl ?_
  refine st_cv1 (w := []) rfl rfl rfl (Nat.le_of_ble_eq_true rfl) (Nat.le_of_ble_eq_true rfl) rfl rfl (r_Model_isShelf hP) ?_
  refine st_if_eq_b rfl (fun h3 => ?_) (fun h3 => ?_)
  · refine st_iconst rfl ?_
    refine st_iret rfl (fun z => by first | exact absurd z (by decide) | exact bi_01 _ | decide | omega) ?_
    exact ⟨H, rfl, fun _ _ => rfl, fun _ _ _ _ _ _ => rfl, fun _ => ⟨rfl, ⟨rfl, rfl, rfl⟩, rfl, rfl⟩, fun q => absurd q.1 (fun q => by have q0 := q.1; omega)⟩
  · refine st_aload_n rfl rfl (by decide) ?_
    refine st_iload_n rfl rfl ?_
    refine st_cv1 (w := []) rfl rfl rfl (Nat.le_of_ble_eq_true rfl) (Nat.le_of_ble_eq_true rfl) rfl rfl (r_Model_isShelf hP) ?_
    refine st_if_eq_b rfl (fun h7 => ?_) (fun h7 => ?_)
    · refine st_iconst rfl ?_
      refine st_iret rfl (fun z => by first | exact absurd z (by decide) | exact bi_01 _ | decide | omega) ?_
      exact ⟨H, rfl, fun _ _ => rfl, fun _ _ _ _ _ _ => rfl, fun _ => ⟨rfl, ⟨rfl, rfl, rfl⟩, rfl, rfl⟩, fun q => absurd q.1 (fun q => by have q0 := q.1; omega)⟩
    · refine st_iload_n rfl rfl ?_
      refine st_iload_n rfl rfl ?_
      refine st_icmp_lt rfl (fun h10 => ?_) (fun h10 => ?_)
      · refine st_iconst rfl ?_
        refine st_iret rfl (fun z => by first | exact absurd z (by decide) | exact bi_01 _ | decide | omega) ?_
        exact ⟨H, rfl, fun _ _ => rfl, fun _ _ _ _ _ _ => rfl, fun _ => ⟨rfl, ⟨rfl, rfl, rfl⟩, rfl, rfl⟩, fun q => absurd q.1 (fun q => by have q0 := q.1; omega)⟩
      · refine st_iload_n rfl rfl ?_
        refine st_if_lt rfl (fun h12 => ?_) (fun h12 => ?_)
        · refine st_iconst rfl ?_
          refine st_iret rfl (fun z => by first | exact absurd z (by decide) | exact bi_01 _ | decide | omega) ?_
          exact ⟨H, rfl, fun _ _ => rfl, fun _ _ _ _ _ _ => rfl, fun _ => ⟨rfl, ⟨rfl, rfl, rfl⟩, rfl, rfl⟩, fun q => absurd q.1 (fun q => by have q0 := q.1; omega)⟩
        · refine st_iload rfl rfl ?_
          refine st_bipush rfl ?_
          refine st_icmp_gt rfl (fun h15 => ?_) (fun h15 => ?_)
          · refine st_iconst rfl ?_
            refine st_iret rfl (fun z => by first | exact absurd z (by decide) | exact bi_01 _ | decide | omega) ?_
            exact ⟨H, rfl, fun _ _ => rfl, fun _ _ _ _ _ _ => rfl, fun _ => ⟨rfl, ⟨rfl, rfl, rfl⟩, rfl, rfl⟩, fun q => absurd q.1 (fun q => by have q0 := q.1; omega)⟩
          · refine st_iload_n rfl rfl ?_
            refine st_iload rfl rfl ?_
            refine st_icmp_le rfl (fun h18 => ?_) (fun h18 => ?_)
            · refine st_sipush rfl ?_
              refine st_istore (ls' := [_, _, _, _, _, _, _, _, _]) rfl (Nat.le_of_ble_eq_true rfl) rfl ?_
              refine st_iload_n rfl rfl ?_
              refine st_istore (ls' := [_, _, _, _, _, _, _, _, _]) rfl (Nat.le_of_ble_eq_true rfl) rfl ?_
              suffices hl : ∀ j, j ≤ (l + 1 - f).toNat → (∀ s, f ≤ s → s < f + (j : Int) → H 54 (6670 + 32 * s + 1) ≠ 1) → am_WP (am_R (d + 3)) cd_Model_shift (SHQ N P H f l le gr) 25 [some (am_r 53), some (am_i f), some (am_i l), some (am_i le), some (am_i gr), some (am_i (nrL (H 54) f j)), some (am_i (f + (j : Int))), none, none] [] (N, P, H) from by
                have h0 := hl 0 (Nat.zero_le _) (fun s q1 q2 => by omega)
                rw [show f + ((0 : Nat) : Int) = f by omega] at h0
                exact h0
              refine up_ind (n := (l + 1 - f).toNat) ?_ ?_
              · intro hh
                have hok : shOK (H 54) f l le gr := ⟨by omega, fun s q1 q2 => hh s q1 (by omega)⟩
                refine st_iload rfl rfl ?_
                refine st_iload_n rfl rfl ?_
                refine st_icmp_gt rfl (fun h27 => ?_) (fun h27 => (by exfalso; omega))
                refine st_iconst rfl ?_
                refine st_istore (ls' := [_, _, _, _, _, _, _, _, _]) rfl (Nat.le_of_ble_eq_true rfl) rfl ?_
                have hsn := shN_r (a := H 54) (f := f) (l := l) h3.1 (by omega)
                have hnr := nrL_r hI h3.1 (l + 1 - f).toNat (by omega)
                have hmg := mulb (show 0 ≤ gr by omega) (show gr ≤ 100 by omega) (show 0 ≤ nrL (H 54) f (l + 1 - f).toNat by omega) hnr.2
                rw [Int.mul_comm] at hmg
                rw [show (N, P, H) = (N, P, am_so H 71 (pfx (fun k => H 70 (k : Int)) (H 71) 0)) by rw [pfx_0, am_so_self]]
                refine up_ind (n := 480) (p := fun j => am_WP (am_R (d + 3)) cd_Model_shift _ 57 [some (am_r 53), some (am_i f), some (am_i l), some (am_i le), some (am_i gr), some (am_i (nrL (H 54) f (l + 1 - f).toNat)), some (am_i (j : Int)), none, none] [] (N, P, am_so H 71 (pfx (fun k => H 70 (k : Int)) (H 71) j))) ?_ ?_ 0 (Nat.zero_le _)
                · show am_WP _ _ _ _ _ _ _
                  refine st_iload rfl rfl ?_
                  refine st_sipush rfl ?_
                  refine st_icmp_ge rfl (fun h59 => ?_) (fun h59 => (by exfalso; omega))
                  refine st_aload_n rfl rfl (by decide) ?_
                  refine st_iload_n rfl rfl ?_
                  refine st_iload_n rfl rfl ?_
                  refine st_cv0 (w := []) rfl rfl rfl (Nat.le_of_ble_eq_true rfl) (Nat.le_of_ble_eq_true rfl) rfl rfl (r_Model_gathers (H := am_so H 71 (pfx (fun k => H 70 (k : Int)) (H 71) 480)) hP (by omega) (by omega) (by omega)) ?_
                  refine st_aload_n rfl rfl (by decide) ?_
                  refine st_iload rfl rfl ?_
                  refine st_iload rfl rfl ?_
                  refine st_imul rfl (by omega) ?_
                  refine st_bipush rfl ?_
                  refine st_idiv rfl (by omega) (by omega) (by omega) ?_
                  refine st_cv0 (w := []) rfl rfl rfl (Nat.le_of_ble_eq_true rfl) (Nat.le_of_ble_eq_true rfl) rfl rfl (r_Model_partings (H := gtH (am_so H 71 (pfx (fun k => H 70 (k : Int)) (H 71) 480)) f (shT f l)) (n := shN (H 54) f l) hP hI (by have hit := shIT hI h3.1 h7.2 (by omega : f ≤ l) (H 64); rw [← hsn.2] at hit; exact hit) (show am_uf (H 53) 19 (gN (H 54) f (shT f l)) 19 = _ by rw [am_uf_eq, hsn.2]) hsn.1) ?_
                  refine st_aload_n rfl rfl (by decide) ?_
                  refine st_iload_n rfl rfl ?_
                  refine st_putI (kk := 27) rfl rfl rfl rfl ?_
                  refine st_iload_n rfl rfl ?_
                  refine st_iload_n rfl rfl ?_
                  refine st_isub rfl (by omega) ?_
                  refine st_iconst rfl ?_
                  refine st_iadd rfl (by omega) ?_
                  refine st_istore (ls' := [_, _, _, _, _, _, _, _, _]) rfl (Nat.le_of_ble_eq_true rfl) rfl ?_
                  refine st_iload rfl rfl ?_
                  refine st_iconst rfl ?_
                  refine st_isub rfl (by omega) ?_
                  refine st_istore (ls' := [_, _, _, _, _, _, _, _, _]) rfl (Nat.le_of_ble_eq_true rfl) rfl ?_
                  have hit := shIT hI h3.1 h7.2 (by omega : f ≤ l) (H 64)
                  rw [← hsn.2] at hit
                  have e67 : am_up (am_so (gtH (am_so H 71 (pfx (fun k => H 70 (k : Int)) (H 71) 480)) f (shT f l)) 66 (am_uf (pfx (pdV (itW (H 54) (gA (H 54) f (gW (H 54) f) (H 64) (shT f l))) (itK (H 54) (gA (H 54) f (gW (H 54) f) (H 64) (shT f l))) (shN (H 54) f l) (nrL (H 54) f (l + 1 - f).toNat * gr / 100)) (H 66) (shN (H 54) f l)) (shN (H 54) f l : Int) 1)) 53 27 f = am_so (am_so (am_up (am_so (gtH (am_so H 71 (pfx (fun k => H 70 (k : Int)) (H 71) 480)) f (shT f l)) 66 (am_uf (pfx (pdV (itW (H 54) (gA (H 54) f (gW (H 54) f) (H 64) (shT f l))) (itK (H 54) (gA (H 54) f (gW (H 54) f) (H 64) (shT f l))) (shN (H 54) f l) (nrL (H 54) f (l + 1 - f).toNat * gr / 100)) (H 66) (shN (H 54) f l)) (shN (H 54) f l : Int) 1)) 53 27 f) 67 ((am_up (am_so (gtH (am_so H 71 (pfx (fun k => H 70 (k : Int)) (H 71) 480)) f (shT f l)) 66 (am_uf (pfx (pdV (itW (H 54) (gA (H 54) f (gW (H 54) f) (H 64) (shT f l))) (itK (H 54) (gA (H 54) f (gW (H 54) f) (H 64) (shT f l))) (shN (H 54) f l) (nrL (H 54) f (l + 1 - f).toNat * gr / 100)) (H 66) (shN (H 54) f l)) (shN (H 54) f l : Int) 1)) 53 27 f) 67)) 68 ((am_up (am_so (gtH (am_so H 71 (pfx (fun k => H 70 (k : Int)) (H 71) 480)) f (shT f l)) 66 (am_uf (pfx (pdV (itW (H 54) (gA (H 54) f (gW (H 54) f) (H 64) (shT f l))) (itK (H 54) (gA (H 54) f (gW (H 54) f) (H 64) (shT f l))) (shN (H 54) f l) (nrL (H 54) f (l + 1 - f).toNat * gr / 100)) (H 66) (shN (H 54) f l)) (shN (H 54) f l : Int) 1)) 53 27 f) 68) := (am_so_s2 _ 67 68 (by decide)).symm
                  show am_WP _ _ _ _ _ _ (N, P, am_up (am_so (gtH (am_so H 71 (pfx (fun k => H 70 (k : Int)) (H 71) 480)) f (shT f l)) 66 (am_uf (pfx (pdV (itW (H 54) (gA (H 54) f (gW (H 54) f) (H 64) (shT f l))) (itK (H 54) (gA (H 54) f (gW (H 54) f) (H 64) (shT f l))) (shN (H 54) f l) (nrL (H 54) f (l + 1 - f).toNat * gr / 100)) (H 66) (shN (H 54) f l)) (shN (H 54) f l : Int) 1)) 53 27 f)
                  rw [e67]
                  have hA : ∀ x, 0 ≤ x → x < (shN (H 54) f l : Int) → gA (H 54) f (gW (H 54) f) (H 64) (shT f l) x = shI (H 54) f l x ∧ gA (H 54) f (fun t => ((t / 30 : Nat) : Int)) (H 65) (shT f l) x = shO (H 54) f l x := by
                    intro x q0 q1
                    obtain ⟨u, r1, r2, r3, r4⟩ := gA_at (H 54) f (shT f l) x q0 (by omega)
                    exact ⟨(r4 _ _).trans (r4 (gW (H 54) f) (fun _ => 0)).symm, (r4 _ _).trans (r4 (fun t => ((t / 30 : Nat) : Int)) (fun _ => 0)).symm⟩
                  have hD : ∀ x, 0 ≤ x → x ≤ (shN (H 54) f l : Int) → am_uf (pfx (pdV (itW (H 54) (gA (H 54) f (gW (H 54) f) (H 64) (shT f l))) (itK (H 54) (gA (H 54) f (gW (H 54) f) (H 64) (shT f l))) (shN (H 54) f l) (nrL (H 54) f (l + 1 - f).toNat * gr / 100)) (H 66) (shN (H 54) f l)) (shN (H 54) f l : Int) 1 x = shD (H 54) f l gr x := by
                    intro x q0 q1
                    unfold shD
                    by_cases q : x = (shN (H 54) f l : Int)
                    · rw [q, am_uf_eq, if_pos rfl]
                    · rw [am_uf_ne _ _ q, if_neg q]
                      unfold pfx
                      rw [if_pos (by omega)]
                      refine pdV_cg (fun x r0 r1 => ?_) (fun k r => ?_) (by omega)
                      · show widF _ _ = widF _ _
                        rw [(hA x r0 r1).1]
                      · show oneF _ (mkF _ _) (mkF _ _) = oneF _ (mkF _ _) (mkF _ _)
                        rw [(hA (k : Int) (by omega) (by omega)).1, (hA ((k : Int) + 1) (by omega) (by omega)).1]
                  have hDP : ∀ (r : Nat) (i : Int), (r : Int) ≤ l - f + 1 → 0 ≤ i → RdpB (am_up (am_so (gtH (am_so H 71 (pfx (fun k => H 70 (k : Int)) (H 71) 480)) f (shT f l)) 66 (am_uf (pfx (pdV (itW (H 54) (gA (H 54) f (gW (H 54) f) (H 64) (shT f l))) (itK (H 54) (gA (H 54) f (gW (H 54) f) (H 64) (shT f l))) (shN (H 54) f l) (nrL (H 54) f (l + 1 - f).toNat * gr / 100)) (H 66) (shN (H 54) f l)) (shN (H 54) f l : Int) 1)) 53 27 f) (shN (H 54) f l) f le gr (l - f + 1) r i = shP (H 54) f l le gr r i := by
                    intro r i q1 q2
                    refine dpR_cg (fun x r0 r1 => ?_) (fun k x _ _ r0 r1 => ?_) (fun x r0 r1 => ?_) r i q1 q2
                    · show widF (H 54) (gA (H 54) f (gW (H 54) f) (H 64) (shT f l) x) = widF _ _
                      rw [(hA x r0 r1).1]
                    · show gA (H 54) f (fun t => ((t / 30 : Nat) : Int)) (H 65) (shT f l) x = k ↔ _
                      rw [(hA x r0 r1).2]
                    · show am_uf (pfx (pdV (itW (H 54) (gA (H 54) f (gW (H 54) f) (H 64) (shT f l))) (itK (H 54) (gA (H 54) f (gW (H 54) f) (H 64) (shT f l))) (shN (H 54) f l) (nrL (H 54) f (l + 1 - f).toNat * gr / 100)) (H 66) (shN (H 54) f l)) (shN (H 54) f l : Int) 1 x = 1 ↔ _
                      rw [hD x r0 r1]
                  have hbo : ∀ o, (o < 53 ∨ (54 ≤ o ∧ o ≤ 63) ∨ 71 < o) → (am_up (am_so (gtH (am_so H 71 (pfx (fun k => H 70 (k : Int)) (H 71) 480)) f (shT f l)) 66 (am_uf (pfx (pdV (itW (H 54) (gA (H 54) f (gW (H 54) f) (H 64) (shT f l))) (itK (H 54) (gA (H 54) f (gW (H 54) f) (H 64) (shT f l))) (shN (H 54) f l) (nrL (H 54) f (l + 1 - f).toNat * gr / 100)) (H 66) (shN (H 54) f l)) (shN (H 54) f l : Int) 1)) 53 27 f) o = H o := by
                    intro o ho
                    rw [am_up_ne (by omega), am_so_ne _ _ (by omega)]
                    unfold gtH
                    rw [if_neg (by omega), if_neg (by omega), if_neg (by omega), if_neg (by omega), am_so_ne _ _ (by omega)]
                  have hb53 : (am_up (am_so (gtH (am_so H 71 (pfx (fun k => H 70 (k : Int)) (H 71) 480)) f (shT f l)) 66 (am_uf (pfx (pdV (itW (H 54) (gA (H 54) f (gW (H 54) f) (H 64) (shT f l))) (itK (H 54) (gA (H 54) f (gW (H 54) f) (H 64) (shT f l))) (shN (H 54) f l) (nrL (H 54) f (l + 1 - f).toNat * gr / 100)) (H 66) (shN (H 54) f l)) (shN (H 54) f l : Int) 1)) 53 27 f) 53 = am_uf (am_uf (H 53) 19 (shN (H 54) f l : Int)) 27 f := by
                    rw [hsn.2]
                    rfl
                  have hgo := l1_shift (d := d) (N := N) (P := P) (B := am_up (am_so (gtH (am_so H 71 (pfx (fun k => H 70 (k : Int)) (H 71) 480)) f (shT f l)) 66 (am_uf (pfx (pdV (itW (H 54) (gA (H 54) f (gW (H 54) f) (H 64) (shT f l))) (itK (H 54) (gA (H 54) f (gW (H 54) f) (H 64) (shT f l))) (shN (H 54) f l) (nrL (H 54) f (l + 1 - f).toNat * gr / 100)) (H 66) (shN (H 54) f l)) (shN (H 54) f l : Int) 1)) 53 27 f) (n := shN (H 54) f l) (f := f) (l := l) (le := le) (gr := gr) (nr := nrL (H 54) f (l + 1 - f).toNat) (sh := l - f + 1) (Q := SHQ N P H f l le gr) hP hI hit (show am_uf (am_uf (H 53) 19 (gN (H 54) f (shT f l))) 27 f 19 = _ by rw [am_uf_ne _ _ (by omega), am_uf_eq, hsn.2]) hsn.1 (show am_uf (am_uf (H 53) 19 (gN (H 54) f (shT f l))) 27 f 27 = _ by rw [am_uf_eq]) (show 1 ≤ l - f + 1 ∧ l - f + 1 ≤ 16 ∧ 0 ≤ f ∧ f + (l - f + 1) ≤ H 54 2 by omega) (by omega) (fun j q0 q1 => by
                    show am_uf (pfx (pdV (itW (H 54) (gA (H 54) f (gW (H 54) f) (H 64) (shT f l))) (itK (H 54) (gA (H 54) f (gW (H 54) f) (H 64) (shT f l))) (shN (H 54) f l) (nrL (H 54) f (l + 1 - f).toNat * gr / 100)) (H 66) (shN (H 54) f l)) (shN (H 54) f l : Int) 1 j = 0 ∨ am_uf (pfx (pdV (itW (H 54) (gA (H 54) f (gW (H 54) f) (H 64) (shT f l))) (itK (H 54) (gA (H 54) f (gW (H 54) f) (H 64) (shT f l))) (shN (H 54) f l) (nrL (H 54) f (l + 1 - f).toNat * gr / 100)) (H 66) (shN (H 54) f l)) (shN (H 54) f l : Int) 1 j = 1
                    by_cases q : j = (shN (H 54) f l : Int)
                    · rw [q, am_uf_eq]; exact Or.inr rfl
                    · rw [am_uf_ne _ _ q]
                      unfold pfx
                      rw [if_pos (by omega)]
                      exact pdV_01 _ _ _ _ _) (fun X Y hX w => l3_shift (H := H) hP h3.1 (by omega) (by omega) hok hsn.1 hbo hb53 rfl rfl rfl (fun r q1 q2 i q3 q4 => by rw [← hDP r i (by omega) q3]; exact hX r q1 q2 i q3 q4) _ w) 0 (Nat.zero_le _) ((am_up (am_so (gtH (am_so H 71 (pfx (fun k => H 70 (k : Int)) (H 71) 480)) f (shT f l)) 66 (am_uf (pfx (pdV (itW (H 54) (gA (H 54) f (gW (H 54) f) (H 64) (shT f l))) (itK (H 54) (gA (H 54) f (gW (H 54) f) (H 64) (shT f l))) (shN (H 54) f l) (nrL (H 54) f (l + 1 - f).toNat * gr / 100)) (H 66) (shN (H 54) f l)) (shN (H 54) f l : Int) 1)) 53 27 f) 67) ((am_up (am_so (gtH (am_so H 71 (pfx (fun k => H 70 (k : Int)) (H 71) 480)) f (shT f l)) 66 (am_uf (pfx (pdV (itW (H 54) (gA (H 54) f (gW (H 54) f) (H 64) (shT f l))) (itK (H 54) (gA (H 54) f (gW (H 54) f) (H 64) (shT f l))) (shN (H 54) f l) (nrL (H 54) f (l + 1 - f).toNat * gr / 100)) (H 66) (shN (H 54) f l)) (shN (H 54) f l : Int) 1)) 53 27 f) 68) (fun r q1 q2 => by omega)
                  rw [show l - f + 1 - 1 - ((0 : Nat) : Int) = l - f + 1 - 1 by omega] at hgo
                  exact hgo _
                · intro j hj ih
                  have ih : am_WP _ _ _ _ _ _ _ := ih
                  show am_WP _ _ _ _ _ _ _
                  refine st_iload rfl rfl ?_
                  refine st_sipush rfl ?_
                  refine st_icmp_ge rfl (fun h59 => (by exfalso; omega)) (fun h59 => ?_)
                  refine st_aload_n rfl rfl (by decide) ?_
                  refine st_getR (kk := 28) rfl rfl rfl (pz_53_28 hP) rfl ?_
                  refine st_iload rfl rfl ?_
                  refine st_aload_n rfl rfl (by decide) ?_
                  refine st_getR (kk := 26) rfl rfl rfl (pz_53_26 hP) rfl ?_
                  refine st_iload rfl rfl ?_
                  refine st_iaload rfl rfl (by omega) (by omega) ?_
                  rw [am_so_ne _ _ (by decide)]
                  refine st_iastore rfl rfl (by omega) (by omega) ?_
                  refine st_iinc (ls' := [_, _, _, _, _, _, _, _, _]) rfl rfl (by omega) rfl ?_
                  refine st_goto rfl ?_
                  rw [pfx_s] at ih
                  simp only [am_up, am_so_so, am_so_at]
                  exact ih
              · intro j hj ih hh
                have hnr := nrL_r hI h3.1 j (by omega)
                have hst := hI.s.2.1 (f + (j : Int)) (by omega) (by omega)
                rw [show f + ((j + 1 : Nat) : Int) = f + (j : Int) + 1 by omega] at ih
                refine st_iload rfl rfl ?_
                refine st_iload_n rfl rfl ?_
                refine st_icmp_gt rfl (fun h27 => (by exfalso; omega)) (fun h27 => ?_)
                refine st_aload_n rfl rfl (by decide) ?_
                refine st_iload rfl rfl ?_
                refine st_cv1 (w := []) rfl rfl rfl (Nat.le_of_ble_eq_true rfl) (Nat.le_of_ble_eq_true rfl) rfl rfl (r_Model_isHigh hP (by omega) (by omega)) ?_
                refine st_if_eq_b rfl (fun h31 => ?_) (fun h31 => ?_)
                · refine st_aload_n rfl rfl (by decide) ?_
                  refine st_getR (kk := 0) rfl rfl rfl (pz_53_0 hP) rfl ?_
                  refine st_sipush rfl ?_
                  refine st_bipush rfl ?_
                  refine st_iload rfl rfl ?_
                  refine st_imul rfl (by omega) ?_
                  refine st_iadd rfl (by omega) ?_
                  refine st_iaload rfl rfl (by omega) (by omega) ?_
                  refine st_iload rfl rfl ?_
                  refine st_icmp_ge rfl (fun h43 => ?_) (fun h43 => ?_)
                  · refine st_iinc (ls' := [_, _, _, _, _, _, _, _, _]) rfl rfl (by omega) rfl ?_
                    refine st_goto rfl ?_
                    have ih := ih (fun s q1 q2 => by
                      by_cases q : s = f + (j : Int)
                      · rw [q]; exact h31
                      · exact hh s q1 (by omega))
                    simp only [nrL] at ih
                    first
                    | (rw [if_neg (by omega)] at ih; exact ih)
                    | (rw [if_pos (by omega)] at ih; exact ih)
                  · refine st_aload_n rfl rfl (by decide) ?_
                    refine st_getR (kk := 0) rfl rfl rfl (pz_53_0 hP) rfl ?_
                    refine st_sipush rfl ?_
                    refine st_bipush rfl ?_
                    refine st_iload rfl rfl ?_
                    refine st_imul rfl (by omega) ?_
                    refine st_iadd rfl (by omega) ?_
                    refine st_iaload rfl rfl (by omega) (by omega) ?_
                    refine st_istore (ls' := [_, _, _, _, _, _, _, _, _]) rfl (Nat.le_of_ble_eq_true rfl) rfl ?_
                    refine st_iinc (ls' := [_, _, _, _, _, _, _, _, _]) rfl rfl (by omega) rfl ?_
                    refine st_goto rfl ?_
                    have ih := ih (fun s q1 q2 => by
                      by_cases q : s = f + (j : Int)
                      · rw [q]; exact h31
                      · exact hh s q1 (by omega))
                    simp only [nrL] at ih
                    first
                    | (rw [if_neg (by omega)] at ih; exact ih)
                    | (rw [if_pos (by omega)] at ih; exact ih)
                · refine st_iconst rfl ?_
                  refine st_iret rfl (fun z => by first | exact absurd z (by decide) | exact bi_01 _ | decide | omega) ?_
                  exact ⟨H, rfl, fun _ _ => rfl, fun _ _ _ _ _ _ => rfl, fun _ => ⟨rfl, ⟨rfl, rfl, rfl⟩, rfl, rfl⟩, fun q => absurd q.1 (fun q => q.2 (f + (j : Int)) (by omega) (by omega) h31)⟩
            · refine st_iconst rfl ?_
              refine st_iret rfl (fun z => by first | exact absurd z (by decide) | exact bi_01 _ | decide | omega) ?_
              exact ⟨H, rfl, fun _ _ => rfl, fun _ _ _ _ _ _ => rfl, fun _ => ⟨rfl, ⟨rfl, rfl, rfl⟩, rfl, rfl⟩, fun q => absurd q.1 (fun q => by have q0 := q.1; omega)⟩
