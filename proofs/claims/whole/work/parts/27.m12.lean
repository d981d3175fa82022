/-! ===== the reference: where a shelf may end, the best ends ===== -/
def pfx (V : Nat → Int) (S : Int → Int) (t : Nat) : Int → Int := fun k => if 0 ≤ k ∧ k < (t : Int) then V k.toNat else S k
theorem pfx_0 (V : Nat → Int) (S : Int → Int) : pfx V S 0 = S := by
  funext k; exact if_neg (by omega)
theorem pfx_s (V : Nat → Int) (S : Int → Int) (t : Nat) : pfx V S (t + 1) = am_uf (pfx V S t) (t : Int) (V t) := by
  funext k
  unfold am_uf pfx
  by_cases h : k = (t : Int)
  · rw [if_pos (by omega), if_pos h, h]; rfl
  · rw [if_neg h]
    by_cases h2 : 0 ≤ k ∧ k < (t : Int)
    · rw [if_pos h2, if_pos (by omega)]
    · rw [if_neg h2, if_neg (by omega)]
/-- the begin of the work that holds k; lk k: k and k + 1 are of one work -/
def gsF (lk : Nat → Int) : Nat → Nat
  | 0 => 0
  | k + 1 => if lk k = 0 then k + 1 else gsF lk k
/-- the end of the work that holds k -/
def geF (lk : Nat → Int) (n : Nat) : Nat → Nat → Nat
  | 0, k => k + 1
  | f + 1, k => if k + 1 < n ∧ lk k ≠ 0 then geF lk n f (k + 1) else k + 1
def smF (w : Int → Int) (i : Int) : Nat → Int
  | 0 => 0
  | c + 1 => smF w i c + w (i + (c : Int))
theorem smF_r {w : Int → Int} {i n : Int} (h : ∀ x, 0 ≤ x → x < n → 1 ≤ w x ∧ w x ≤ 210) (hi : 0 ≤ i) : ∀ c : Nat, i + c ≤ n → (c : Int) ≤ smF w i c ∧ smF w i c ≤ 210 * (c : Int)
  | 0, _ => by simp only [smF]; omega
  | c + 1, hc => by
    have ih := smF_r h hi c (by omega)
    have hw := h (i + (c : Int)) (by omega) (by omega)
    simp only [smF]
    omega
def pdV (w : Int → Int) (lk : Nat → Int) (n : Nat) (most : Int) (k : Nat) : Int := if k = gsF lk k ∨ most < smF w (gsF lk k : Int) (geF lk n n k - gsF lk k) then 1 else 0
theorem geF_q {lk : Nat → Int} {n t : Nat} (ht : t = n ∨ lk (t - 1) = 0) (htn : t ≤ n) : ∀ (f k : Nat), k < t → t - k ≤ f → (∀ x, k ≤ x → x + 1 < t → lk x ≠ 0) → geF lk n f k = t
  | 0, k, h1, h2, _ => by omega
  | f + 1, k, h1, h2, h3 => by
    simp only [geF]
    by_cases h : k + 1 = t
    · rw [if_neg, h]
      rintro ⟨q1, q2⟩
      rcases ht with q | q
      · omega
      · rw [← h, Nat.add_sub_cancel] at q
        exact q2 q
    · rw [if_pos ⟨by omega, h3 k (Nat.le_refl _) (by omega)⟩]
      exact geF_q ht htn f (k + 1) (by omega) (by omega) (fun x q1 q2 => h3 x (by omega) q2)
theorem gsF_q {lk : Nat → Int} {b : Nat} (hb : gsF lk b = b) : ∀ c : Nat, (∀ x, b ≤ x → x + 1 < b + c + 1 → lk x ≠ 0) → gsF lk (b + c) = b
  | 0, _ => hb
  | c + 1, h => by
    show (if lk (b + c) = 0 then _ else gsF lk (b + c)) = b
    rw [if_neg (h (b + c) (by omega) (by omega))]
    exact gsF_q hb c (fun x q1 q2 => h x q1 (by omega))
abbrev itW (a I : Int → Int) (x : Int) : Int := widF a (I x)
abbrev itK (a I : Int → Int) (k : Nat) : Int := oneF a (mkF a (I (k : Int))) (mkF a (I ((k : Int) + 1)))
/-- what is held of gathered things -/
def IT (a I : Int → Int) (n : Int) : Prop := ∀ k, 0 ≤ k → k < n → 0 ≤ I k ∧ TH a (I k)
theorem IT.w {a I : Int → Int} {n : Int} (h : IT a I n) (hI : Inv a) : ∀ x, 0 ≤ x → x < n → 1 ≤ itW a I x ∧ itW a I x ≤ 210 := fun x h0 h1 => widF_r hI.bw (h x h0 h1).2 (h x h0 h1).1
theorem IT.k {a I : Int → Int} {n : Int} (h : IT a I n) (hI : Inv a) {x : Int} (h0 : 0 ≤ x) (h1 : x < n) : MV a (mkF a (I x)) := by
  have := hI.mk (h x h0 h1).2 (h x h0 h1).1
  exact hI.mv this.1 this.2
theorem IT.b {a I : Int → Int} {n : Int} (h : IT a I n) (hI : Inv a) {x : Int} (h0 : 0 ≤ x) (h1 : x < n) : I x < 1000 → 0 ≤ bkF a (I x) 2 ∧ bkF a (I x) 2 ≤ 200 := by
  intro h2
  have hb := hI.bw
  have ht := h x h0 h1
  rcases ht.2 with q | q | q
  · omega
  · have := hb.2 _ q.1 q.2; omega
  · omega
theorem IT.m {a I : Int → Int} {n : Int} (h : IT a I n) (hI : Inv a) {x : Int} (h0 : 0 ≤ x) (h1 : x < n) : 0 ≤ I x ∧ (I x < 1000 → I x < 200) ∧ I x % 1000 < 200 ∧ 0 ≤ I x % 1000 ∧ I x < 1200 := by
  have hb := hI.bw.1
  have ht := h x h0 h1
  have := ht.2.mod ht.1 hb.2
  rcases ht.2 with q | q | q <;> omega

theorem l3_partings {d N n : Nat} {P : am_P} {H : am_H} {most : Int} {Q : Option am_V → am_S → Prop} (hP : PZ P) (hI : Inv (H 54)) (hIT : IT (H 54) (H 64) n) (hn0 : H 53 19 = (n : Int)) (hn1 : n ≤ 480) {b t : Nat} {w : Int} (hbt : b < t) (htn : t ≤ n) (hV : ∀ k, b ≤ k → k < t → pdV (itW (H 54) (H 64)) (itK (H 54) (H 64)) n most k = if k = b ∨ most < w then 1 else 0) (hk : ∀ w1 w2 w3, am_WP (am_R (d + 2)) cd_Model_partings Q 2 [some (am_r 53), some (am_i most), some (am_i (t : Int)), w1, w2, w3] [] (N, P, am_so H 66 (pfx (pdV (itW (H 54) (H 64)) (itK (H 54) (H 64)) n most) (H 66) t))) : ∀ k, k ≤ t → b ≤ k → am_WP (am_R (d + 2)) cd_Model_partings Q 51 [some (am_r 53), some (am_i most), some (am_i (b : Int)), some (am_i (t : Int)), some (am_i w), some (am_i (k : Int))] [] (N, P, am_so H 66 (pfx (pdV (itW (H 54) (H 64)) (itK (H 54) (H 64)) n most) (H 66) k)) := by
  refine up_ind (n := t) ?_ ?_
  · intro _
    refine st_iload rfl rfl ?_
    refine st_iload_n rfl rfl ?_
    refine st_icmp_ge rfl (fun h53 => ?_) (fun h53 => (by exfalso; omega))
    refine st_iload_n rfl rfl ?_
    refine st_istore_n (ls' := [_, _, _, _, _, _]) rfl (Nat.le_of_ble_eq_true rfl) rfl ?_
    refine st_goto rfl ?_
    exact hk _ _ _
  · intro k hkt ih hbk
    have ih := ih (by omega)
    rw [pfx_s, hV k hbk hkt] at ih
    refine st_iload rfl rfl ?_
    refine st_iload_n rfl rfl ?_
    refine st_icmp_ge rfl (fun h53 => (by exfalso; omega)) (fun h53 => ?_)
    refine st_aload_n rfl rfl (by decide) ?_
    refine st_getR (kk := 18) rfl rfl rfl (pz_53_18 hP) rfl ?_
    refine st_iload rfl rfl ?_
    refine st_iload rfl rfl ?_
    refine st_iload_n rfl rfl ?_
    refine st_icmp_eq rfl (fun h59 => ?_) (fun h59 => ?_)
    · refine st_iconst rfl ?_
      refine st_goto rfl ?_
      refine st_bastoreZ rfl rfl (by first | exact bi_01 _ | decide | omega) (by omega) (by omega) ?_
      refine st_iinc (ls' := [_, _, _, _, _, _]) rfl rfl (by omega) rfl ?_
      refine st_goto rfl ?_
      first
      | (rw [if_pos (by omega)] at ih; simp only [am_up, am_so_so, am_so_at]; exact ih)
      | (rw [if_neg (by omega)] at ih; simp only [am_up, am_so_so, am_so_at]; exact ih)
    · refine st_iload rfl rfl ?_
      refine st_iload_n rfl rfl ?_
      refine st_icmp_le rfl (fun h62 => ?_) (fun h62 => ?_)
      · refine st_iconst rfl ?_
        refine st_bastoreZ rfl rfl (by first | exact bi_01 _ | decide | omega) (by omega) (by omega) ?_
        refine st_iinc (ls' := [_, _, _, _, _, _]) rfl rfl (by omega) rfl ?_
        refine st_goto rfl ?_
        first
        | (rw [if_pos (by omega)] at ih; simp only [am_up, am_so_so, am_so_at]; exact ih)
        | (rw [if_neg (by omega)] at ih; simp only [am_up, am_so_so, am_so_at]; exact ih)
      · refine st_iconst rfl ?_
        refine st_goto rfl ?_
        refine st_bastoreZ rfl rfl (by first | exact bi_01 _ | decide | omega) (by omega) (by omega) ?_
        refine st_iinc (ls' := [_, _, _, _, _, _]) rfl rfl (by omega) rfl ?_
        refine st_goto rfl ?_
        first
        | (rw [if_pos (by omega)] at ih; simp only [am_up, am_so_so, am_so_at]; exact ih)
        | (rw [if_neg (by omega)] at ih; simp only [am_up, am_so_so, am_so_at]; exact ih)
theorem l2_partings {d N n : Nat} {P : am_P} {H : am_H} {most : Int} {Q : Option am_V → am_S → Prop} (hP : PZ P) (hI : Inv (H 54)) (hIT : IT (H 54) (H 64) n) (hn0 : H 53 19 = (n : Int)) (hn1 : n ≤ 480) {b : Nat} (hb : b < n) (hgb : gsF (itK (H 54) (H 64)) b = b) (hk : ∀ t, b < t → t ≤ n → (t < n → gsF (itK (H 54) (H 64)) t = t) → ∀ w1 w2 w3, am_WP (am_R (d + 2)) cd_Model_partings Q 2 [some (am_r 53), some (am_i most), some (am_i (t : Int)), w1, w2, w3] [] (N, P, am_so H 66 (pfx (pdV (itW (H 54) (H 64)) (itK (H 54) (H 64)) n most) (H 66) t))) : ∀ (f t : Nat), n - t ≤ f → b < t → t ≤ n → (∀ x, b ≤ x → x + 1 < t → itK (H 54) (H 64) x ≠ 0) → ∀ w4, am_WP (am_R (d + 2)) cd_Model_partings Q 17 [some (am_r 53), some (am_i most), some (am_i (b : Int)), some (am_i (t : Int)), some (am_i (smF (itW (H 54) (H 64)) (b : Int) (t - b))), w4] [] (N, P, am_so H 66 (pfx (pdV (itW (H 54) (H 64)) (itK (H 54) (H 64)) n most) (H 66) b)) := by
  intro f
  induction f with
  | zero =>
    intro t h1 h2 h3 h4 w4
    refine st_iload_n rfl rfl ?_
    refine st_aload_n rfl rfl (by decide) ?_
    refine st_getI (kk := 19) rfl rfl (by decide) rfl ?_
    rw [am_so_ne _ _ (by decide), hn0]
    refine st_icmp_ge rfl (fun h20 => ?_) (fun h20 => (by exfalso; omega))
    refine st_iload_n rfl rfl ?_
    refine st_istore (ls' := [_, _, _, _, _, _]) rfl (Nat.le_of_ble_eq_true rfl) rfl ?_
    refine l3_partings hP hI hIT hn0 hn1 h2 h3 (fun k q1 q2 => ?_) (fun w1 w2 w3 => hk t h2 h3 (fun q => ?_) w1 w2 w3) b (by omega) (Nat.le_refl _)
    · have e1 : gsF (itK (H 54) (H 64)) k = b := by
        have := gsF_q hgb (k - b) (fun x r1 r2 => h4 x r1 (by omega))
        rw [show b + (k - b) = k by omega] at this
        exact this
      have e2 : geF (itK (H 54) (H 64)) n n k = t := geF_q (by exact Or.inl (by omega)) h3 n k q2 (by omega) (fun x r1 r2 => h4 x (by omega) r2)
      unfold pdV
      rw [e1, e2]
    · exfalso; omega
  | succ f ih =>
    intro t h1 h2 h3 h4 w4
    have hwt := hIT.w hI (t : Int) (by omega)
    have hsm := smF_r (hIT.w hI) (i := (b : Int)) (by omega) (t - b) (by omega)
    refine st_iload_n rfl rfl ?_
    refine st_aload_n rfl rfl (by decide) ?_
    refine st_getI (kk := 19) rfl rfl (by decide) rfl ?_
    rw [am_so_ne _ _ (by decide), hn0]
    refine st_icmp_ge rfl (fun h20 => ?_) (fun h20 => ?_)
    · refine st_iload_n rfl rfl ?_
      refine st_istore (ls' := [_, _, _, _, _, _]) rfl (Nat.le_of_ble_eq_true rfl) rfl ?_
      refine l3_partings hP hI hIT hn0 hn1 h2 h3 (fun k q1 q2 => ?_) (fun w1 w2 w3 => hk t h2 h3 (fun q => ?_) w1 w2 w3) b (by omega) (Nat.le_refl _)
      · have e1 : gsF (itK (H 54) (H 64)) k = b := by
          have := gsF_q hgb (k - b) (fun x r1 r2 => h4 x r1 (by omega))
          rw [show b + (k - b) = k by omega] at this
          exact this
        have e2 : geF (itK (H 54) (H 64)) n n k = t := geF_q (by exact Or.inl (by omega)) h3 n k q2 (by omega) (fun x r1 r2 => h4 x (by omega) r2)
        unfold pdV
        rw [e1, e2]
      · exfalso; omega
    · refine st_aload_n rfl rfl (by decide) ?_
      refine st_aload_n rfl rfl (by decide) ?_
      refine st_aload_n rfl rfl (by decide) ?_
      refine st_getR (kk := 16) rfl rfl rfl (pz_53_16 hP) rfl ?_
      refine st_iload_n rfl rfl ?_
      refine st_iconst rfl ?_
      refine st_isub rfl (by omega) ?_
      refine st_iaload rfl rfl (by omega) (by omega) ?_
      rw [am_so_ne _ _ (by decide)]
      have ht1 : (t : Int) - 1 = ((t - 1 : Nat) : Int) := by omega
      rw [ht1]
      refine st_cv1 (w := [_]) rfl rfl rfl (Nat.le_of_ble_eq_true rfl) (Nat.le_of_ble_eq_true rfl) rfl rfl (r_Model_markOf (H := am_so H 66 (pfx (pdV (itW (H 54) (H 64)) (itK (H 54) (H 64)) n most) (H 66) b)) hP (hIT.m hI (x := ((t - 1 : Nat) : Int)) (by omega) (by omega)).1 (hIT.m hI (x := ((t - 1 : Nat) : Int)) (by omega) (by omega)).2.2.1) ?_
      rw [am_so_ne _ _ (by decide)]
      refine st_aload_n rfl rfl (by decide) ?_
      refine st_aload_n rfl rfl (by decide) ?_
      refine st_getR (kk := 16) rfl rfl rfl (pz_53_16 hP) rfl ?_
      refine st_iload_n rfl rfl ?_
      refine st_iaload rfl rfl (by omega) (by omega) ?_
      rw [am_so_ne _ _ (by decide)]
      refine st_cv1 (w := [_, _]) rfl rfl rfl (Nat.le_of_ble_eq_true rfl) (Nat.le_of_ble_eq_true rfl) rfl rfl (r_Model_markOf (H := am_so H 66 (pfx (pdV (itW (H 54) (H 64)) (itK (H 54) (H 64)) n most) (H 66) b)) hP (hIT.m hI (x := (t : Int)) (by omega) (by omega)).1 (hIT.m hI (x := (t : Int)) (by omega) (by omega)).2.2.1) ?_
      rw [am_so_ne _ _ (by decide)]
      refine st_cv1 (w := []) rfl rfl rfl (Nat.le_of_ble_eq_true rfl) (Nat.le_of_ble_eq_true rfl) rfl rfl (r_Model_isOneWork (H := am_so H 66 (pfx (pdV (itW (H 54) (H 64)) (itK (H 54) (H 64)) n most) (H 66) b)) hP (hIT.k hI (by omega) (by omega)) (hIT.k hI (by omega) (by omega))) ?_
      rw [am_so_ne _ _ (by decide), show oneF (H 54) (mkF (H 54) (H 64 ((t - 1 : Nat) : Int))) (mkF (H 54) (H 64 (t : Int))) = itK (H 54) (H 64) (t - 1) by show _ = oneF _ _ (mkF (H 54) (H 64 (((t - 1 : Nat) : Int) + 1))); rw [show ((t - 1 : Nat) : Int) + 1 = (t : Int) by omega]]
      refine st_if_eq rfl (fun h37 => ?_) (fun h37 => ?_)
      · refine st_iload_n rfl rfl ?_
        refine st_istore (ls' := [_, _, _, _, _, _]) rfl (Nat.le_of_ble_eq_true rfl) rfl ?_
        refine l3_partings hP hI hIT hn0 hn1 h2 h3 (fun k q1 q2 => ?_) (fun w1 w2 w3 => hk t h2 h3 (fun q => ?_) w1 w2 w3) b (by omega) (Nat.le_refl _)
        · have e1 : gsF (itK (H 54) (H 64)) k = b := by
            have := gsF_q hgb (k - b) (fun x r1 r2 => h4 x r1 (by omega))
            rw [show b + (k - b) = k by omega] at this
            exact this
          have e2 : geF (itK (H 54) (H 64)) n n k = t := geF_q (by exact Or.inr h37) h3 n k q2 (by omega) (fun x r1 r2 => h4 x (by omega) r2)
          unfold pdV
          rw [e1, e2]
        · obtain ⟨t', rfl⟩ : ∃ t', t = t' + 1 := ⟨t - 1, by omega⟩
          show (if itK (H 54) (H 64) t' = 0 then t' + 1 else _) = _
          exact if_pos h37
      · refine st_iload rfl rfl ?_
        refine st_aload_n rfl rfl (by decide) ?_
        refine st_aload_n rfl rfl (by decide) ?_
        refine st_getR (kk := 16) rfl rfl rfl (pz_53_16 hP) rfl ?_
        refine st_iload_n rfl rfl ?_
        refine st_iaload rfl rfl (by omega) (by omega) ?_
        rw [am_so_ne _ _ (by decide)]
        refine st_cv1 (w := [_]) rfl rfl rfl (Nat.le_of_ble_eq_true rfl) (Nat.le_of_ble_eq_true rfl) rfl rfl (r_Model_wide (H := am_so H 66 (pfx (pdV (itW (H 54) (H 64)) (itK (H 54) (H 64)) n most) (H 66) b)) hP (hIT.m hI (x := (t : Int)) (by omega) (by omega)).1 (hIT.m hI (x := (t : Int)) (by omega) (by omega)).2.1 (hIT.b hI (by omega) (by omega))) ?_
        rw [am_so_ne _ _ (by decide)]
        have hwt := hwt (by omega)
        have hwt2 : itW (H 54) (H 64) (t : Int) = widF (H 54) (H 64 (t : Int)) := rfl
        refine st_iadd rfl (by omega) ?_
        refine st_istore (ls' := [_, _, _, _, _, _]) rfl (Nat.le_of_ble_eq_true rfl) rfl ?_
        refine st_iinc (ls' := [_, _, _, _, _, _]) rfl rfl (by omega) rfl ?_
        refine st_goto rfl ?_
        have hx : ∀ x, b ≤ x → x + 1 < t + 1 → itK (H 54) (H 64) x ≠ 0 := by
          intro x q1 q2
          by_cases q : x + 1 < t
          · exact h4 x q1 q
          · rw [show x = t - 1 by omega]
            exact h37
        have ih := ih (t + 1) (by omega) (by omega) (by omega) hx w4
        rw [show t + 1 - b = (t - b) + 1 by omega] at ih
        simp only [smF] at ih
        rw [show (b : Int) + ((t - b : Nat) : Int) = (t : Int) by omega] at ih
        exact ih
theorem l1_partings {d N n : Nat} {P : am_P} {H : am_H} {most : Int} {Q : Option am_V → am_S → Prop} (hP : PZ P) (hI : Inv (H 54)) (hIT : IT (H 54) (H 64) n) (hn0 : H 53 19 = (n : Int)) (hn1 : n ≤ 480) (hq : Q none (N, P, am_so H 66 (am_uf (pfx (pdV (itW (H 54) (H 64)) (itK (H 54) (H 64)) n most) (H 66) n) (n : Int) 1))) : ∀ (f b : Nat), n - b ≤ f → b ≤ n → (b < n → gsF (itK (H 54) (H 64)) b = b) → ∀ w1 w2 w3, am_WP (am_R (d + 2)) cd_Model_partings Q 2 [some (am_r 53), some (am_i most), some (am_i (b : Int)), w1, w2, w3] [] (N, P, am_so H 66 (pfx (pdV (itW (H 54) (H 64)) (itK (H 54) (H 64)) n most) (H 66) b)) := by
  intro f
  induction f with
  | zero =>
    intro b h1 h2 h3 w1 w2 w3
    have eb : b = n := by omega
    refine st_iload_n rfl rfl ?_
    refine st_aload_n rfl rfl (by decide) ?_
    refine st_getI (kk := 19) rfl rfl (by decide) rfl ?_
    rw [am_so_ne _ _ (by decide), hn0]
    refine st_icmp_ge rfl (fun h5 => ?_) (fun h5 => (by exfalso; omega))
    refine st_aload_n rfl rfl (by decide) ?_
    refine st_getR (kk := 18) rfl rfl rfl (pz_53_18 hP) rfl ?_
    refine st_aload_n rfl rfl (by decide) ?_
    refine st_getI (kk := 19) rfl rfl (by decide) rfl ?_
    rw [am_so_ne _ _ (by decide), hn0]
    refine st_iconst rfl ?_
    refine st_bastoreZ rfl rfl (by first | exact bi_01 _ | decide | omega) (by omega) (by omega) ?_
    refine st_ret rfl ?_
    rw [eb]
    simp only [am_up, am_so_so, am_so_at]
    exact hq
  | succ f ih =>
    intro b h1 h2 h3 w1 w2 w3
    refine st_iload_n rfl rfl ?_
    refine st_aload_n rfl rfl (by decide) ?_
    refine st_getI (kk := 19) rfl rfl (by decide) rfl ?_
    rw [am_so_ne _ _ (by decide), hn0]
    refine st_icmp_ge rfl (fun h5 => ?_) (fun h5 => ?_)
    · refine st_aload_n rfl rfl (by decide) ?_
      refine st_getR (kk := 18) rfl rfl rfl (pz_53_18 hP) rfl ?_
      refine st_aload_n rfl rfl (by decide) ?_
      refine st_getI (kk := 19) rfl rfl (by decide) rfl ?_
      rw [am_so_ne _ _ (by decide), hn0]
      refine st_iconst rfl ?_
      refine st_bastoreZ rfl rfl (by first | exact bi_01 _ | decide | omega) (by omega) (by omega) ?_
      refine st_ret rfl ?_
      rw [show b = n by omega]
      simp only [am_up, am_so_so, am_so_at]
      exact hq
    · refine st_iload_n rfl rfl ?_
      refine st_iconst rfl ?_
      refine st_iadd rfl (by omega) ?_
      refine st_istore_n (ls' := [_, _, _, _, _, _]) rfl (Nat.le_of_ble_eq_true rfl) rfl ?_
      refine st_aload_n rfl rfl (by decide) ?_
      refine st_aload_n rfl rfl (by decide) ?_
      refine st_getR (kk := 16) rfl rfl rfl (pz_53_16 hP) rfl ?_
      refine st_iload_n rfl rfl ?_
      refine st_iaload rfl rfl (by omega) (by omega) ?_
      rw [am_so_ne _ _ (by decide)]
      refine st_cv1 (w := []) rfl rfl rfl (Nat.le_of_ble_eq_true rfl) (Nat.le_of_ble_eq_true rfl) rfl rfl (r_Model_wide (H := am_so H 66 (pfx (pdV (itW (H 54) (H 64)) (itK (H 54) (H 64)) n most) (H 66) b)) hP (hIT.m hI (x := (b : Int)) (by omega) (by omega)).1 (hIT.m hI (x := (b : Int)) (by omega) (by omega)).2.1 (hIT.b hI (by omega) (by omega))) ?_
      rw [am_so_ne _ _ (by decide)]
      refine st_istore (ls' := [_, _, _, _, _, _]) rfl (Nat.le_of_ble_eq_true rfl) rfl ?_
      have h17 := l2_partings (d := d) (Q := Q) hP hI hIT hn0 hn1 (b := b) (most := most) (N := N) (by omega) (h3 (by omega)) (fun t q1 q2 q3 w1 w2 w3 => ih t (by omega) q2 q3 w1 w2 w3) n (b + 1) (by omega) (by omega) (by omega) (fun x q1 q2 => by omega)
      rw [show b + 1 - b = 0 + 1 by omega] at h17
      simp only [smF] at h17
      rw [show (b : Int) + ((0 : Nat) : Int) = (b : Int) by omega, show (0 : Int) + itW (H 54) (H 64) (b : Int) = widF (H 54) (H 64 (b : Int)) by show 0 + widF _ _ = _; omega] at h17
      exact h17 _
theorem r_Model_partings {d N : Nat} {P : am_P} {H : am_H} {n : Nat} {most : Int} (hP : PZ P) (hI : Inv (H 54)) (hIT : IT (H 54) (H 64) n) (hn0 : H 53 19 = (n : Int)) (hn1 : n ≤ 480) : am_R (d + 3) 125 [am_r 53, am_i (most)] (N, P, H) none (N, P, am_so H 66 (am_uf (pfx (pdV (itW (H 54) (H 64)) (itK (H 54) (H 64)) n most) (H 66) n) (n : Int) 1)) := by
  refine am_en1 (d := d + 2) (ml := 6) (ls := [_, _, _, _, _, _]) cq_Model_partings rfl (Nat.le_of_ble_eq_true rfl) rfl ?_
  refine st_iconst rfl ?_
  refine st_istore_n (ls' := [_, _, _, _, _, _]) rfl (Nat.le_of_ble_eq_true rfl) rfl ?_
  have h := l1_partings (d := d) (N := N) (most := most) hP hI hIT hn0 hn1 (Q := fun v' s' => v' = none ∧ s' = (N, P, am_so H 66 (am_uf (pfx (pdV (itW (H 54) (H 64)) (itK (H 54) (H 64)) n most) (H 66) n) (n : Int) 1))) ⟨rfl, rfl⟩ n 0 (by omega) (by omega) (fun _ => rfl) none none none
  rw [pfx_0, am_so_self] at h
  exact h
def chF (hm : Int → Int) (k i : Int) : Nat → Int
  | 0 => 0
  | c + 1 => chF hm k i c + (if hm (i + (c : Int)) = k then 0 else 1)
theorem chF_r (hm : Int → Int) (k i : Int) : ∀ c : Nat, 0 ≤ chF hm k i c ∧ chF hm k i c ≤ (c : Int)
  | 0 => by simp only [chF]; omega
  | c + 1 => by
    have ih := chF_r hm k i c
    simp only [chF]
    split <;> omega
abbrev trG (w pd : Int → Int) (n L G i : Int) (c : Nat) : Prop := smF w i c ≤ G ∧ ((c : Int) = 0 ∨ i + (c : Int) = n ∨ L ≤ smF w i c) ∧ pd (i + (c : Int)) = 1
/-- the fewest changed and the end, as the first c ends are tried -/
def trL (T e0 : Int) (w hm pd rest : Int → Int) (n k L G i : Int) : Nat → Int × Int
  | 0 => (T, e0)
  | c + 1 => if i + (c : Int) ≤ n ∧ trG w pd n L G i c ∧ chF hm k i c + rest (i + (c : Int)) < (trL T e0 w hm pd rest n k L G i c).1 then (chF hm k i c + rest (i + (c : Int)), i + (c : Int)) else trL T e0 w hm pd rest n k L G i c
theorem trL_n (T e0 : Int) (w hm pd rest : Int → Int) (n k L G i : Int) (c : Nat) (h : n < i + (c : Int)) : ∀ x : Nat, trL T e0 w hm pd rest n k L G i (c + x) = trL T e0 w hm pd rest n k L G i c
  | 0 => rfl
  | x + 1 => by
    rw [show c + (x + 1) = (c + x) + 1 from rfl]
    simp only [trL]
    rw [if_neg (by omega)]
    exact trL_n T e0 w hm pd rest n k L G i c h x
/-- what is told is the top or an end that was good -/
theorem trL_r (T e0 : Int) {w hm pd rest : Int → Int} {n k L G i : Int} (hr : ∀ j, 0 ≤ j → j ≤ n → 0 ≤ rest j) (hi : 0 ≤ i) : ∀ c : Nat, trL T e0 w hm pd rest n k L G i c = (T, e0) ∨ ∃ x : Nat, x < c ∧ i + (x : Int) ≤ n ∧ trG w pd n L G i x ∧ trL T e0 w hm pd rest n k L G i c = (chF hm k i x + rest (i + (x : Int)), i + (x : Int)) ∧ chF hm k i x + rest (i + (x : Int)) < T
  | 0 => Or.inl rfl
  | c + 1 => by
    have ih := trL_r T e0 hr hi (w := w) (hm := hm) (pd := pd) (k := k) (L := L) (G := G) c
    simp only [trL]
    split
    · rename_i h
      refine Or.inr ⟨c, by omega, h.1, h.2.1, rfl, ?_⟩
      rcases ih with q | ⟨x, q1, q2, q3, q4, q5⟩
      · rw [q] at h; exact h.2.2
      · rw [q4] at h
        have := h.2.2
        simp only [] at this
        omega
    · rcases ih with q | ⟨x, q1, q2, q3, q4, q5⟩
      · exact Or.inl q
      · exact Or.inr ⟨x, by omega, q2, q3, q4, q5⟩

theorem r_Model_tries {d N : Nat} {P : am_P} {H : am_H} {n : Nat} {k i sh le gr : Int} (hP : PZ P) (hI : Inv (H 54)) (hIT : IT (H 54) (H 64) n) (hn0 : H 53 19 = (n : Int)) (hn1 : n ≤ 480) (h1 : 0 ≤ k ∧ k < sh ∧ sh ≤ 16) (h2 : 0 ≤ i ∧ i ≤ (n : Int)) (h3 : 0 ≤ le ∧ le ≤ gr ∧ gr ≤ 100) (h4 : 0 ≤ H 54 (6670 + 32 * (H 53 27 + k)) ∧ H 54 (6670 + 32 * (H 53 27 + k)) ≤ 2000) (h5 : 0 ≤ H 53 27 ∧ H 53 27 + k < 16) (h6 : ∀ j, 0 ≤ j → j ≤ (n : Int) → H 66 j = 0 ∨ H 66 j = 1) (h7 : k + 1 < sh → ∀ j, 0 ≤ j → j ≤ (n : Int) → 0 ≤ H 67 (481 * (k + 1) + j) ∧ H 67 (481 * (k + 1) + j) ≤ 100000) : am_R (d + 3) 126 [am_r 53, am_i (k), am_i (i), am_i (sh), am_i (le), am_i (gr)] (N, P, H) none (N, P, am_up (am_up H 67 (481 * k + i) (trL 100000 (-1) (itW (H 54) (H 64)) (H 65) (H 66) (fun j => if k + 1 = sh then (if j = (n : Int) then 0 else 100000) else H 67 (481 * (k + 1) + j)) (n : Int) k (H 54 (6670 + 32 * (H 53 27 + k)) * le / 100) (H 54 (6670 + 32 * (H 53 27 + k)) * gr / 100) i 31).1) 68 (481 * k + i) (trL 100000 (-1) (itW (H 54) (H 64)) (H 65) (H 66) (fun j => if k + 1 = sh then (if j = (n : Int) then 0 else 100000) else H 67 (481 * (k + 1) + j)) (n : Int) k (H 54 (6670 + 32 * (H 53 27 + k)) * le / 100) (H 54 (6670 + 32 * (H 53 27 + k)) * gr / 100) i 31).2) := by
  refine am_en1 (d := d + 2) (ml := 14) (ls := [_, _, _, _, _, _, _, _, _, _, _, _, _, _]) cq_Model_tries rfl (Nat.le_of_ble_eq_true rfl) rfl ?_
  generalize hwd : H 54 (6670 + 32 * (H 53 27 + k)) = wd at *
  have hR : ∀ j, 0 ≤ j → j ≤ (n : Int) → 0 ≤ (fun j => if k + 1 = sh then (if j = (n : Int) then 0 else 100000) else H 67 (481 * (k + 1) + j)) j ∧ (fun j => if k + 1 = sh then (if j = (n : Int) then 0 else 100000) else H 67 (481 * (k + 1) + j)) j ≤ 100000 := by
    intro j q0 q1
    by_cases q : k + 1 = sh
    · simp only [q, if_true]
      split <;> omega
    · simp only [q, if_false]
      exact h7 (by omega) j q0 q1
  have hml := mulb h3.1 (show le ≤ 100 by omega) h4.1 h4.2
  have hmg := mulb (show 0 ≤ gr by omega) (show gr ≤ 100 by omega) h4.1 h4.2
  rw [Int.mul_comm] at hml hmg
  generalize hre : (fun j => if k + 1 = sh then (if j = (n : Int) then 0 else 100000) else H 67 (481 * (k + 1) + j)) = rest at *
  refine st_aload_n rfl rfl (by decide) ?_
  refine st_getR (kk := 0) rfl rfl rfl (pz_53_0 hP) rfl ?_
  refine st_sipush rfl ?_
  refine st_bipush rfl ?_
  refine st_aload_n rfl rfl (by decide) ?_
  refine st_getI (kk := 27) rfl rfl (by decide) rfl ?_
  refine st_iload_n rfl rfl ?_
  refine st_iadd rfl (by omega) ?_
  refine st_imul rfl (by omega) ?_
  refine st_iadd rfl (by omega) ?_
  refine st_iaload rfl rfl (by omega) (by omega) ?_
  rw [hwd]
  refine st_istore (ls' := [_, _, _, _, _, _, _, _, _, _, _, _, _, _]) rfl (Nat.le_of_ble_eq_true rfl) rfl ?_
  refine st_ldc rfl ?_
  refine st_istore (ls' := [_, _, _, _, _, _, _, _, _, _, _, _, _, _]) rfl (Nat.le_of_ble_eq_true rfl) rfl ?_
  refine st_iconst rfl ?_
  refine st_istore (ls' := [_, _, _, _, _, _, _, _, _, _, _, _, _, _]) rfl (Nat.le_of_ble_eq_true rfl) rfl ?_
  refine st_iconst rfl ?_
  refine st_istore (ls' := [_, _, _, _, _, _, _, _, _, _, _, _, _, _]) rfl (Nat.le_of_ble_eq_true rfl) rfl ?_
  refine st_iconst rfl ?_
  refine st_istore (ls' := [_, _, _, _, _, _, _, _, _, _, _, _, _, _]) rfl (Nat.le_of_ble_eq_true rfl) rfl ?_
  refine st_iload_n rfl rfl ?_
  refine st_istore (ls' := [_, _, _, _, _, _, _, _, _, _, _, _, _, _]) rfl (Nat.le_of_ble_eq_true rfl) rfl ?_
  have hrE : ∀ j, rest j = (if k + 1 = sh then (if j = (n : Int) then 0 else 100000) else H 67 (481 * (k + 1) + j)) := fun j => by rw [← hre]
  clear hre
  have hm : ∃ m : Nat, m ≤ 31 ∧ i + (m : Int) ≤ (n : Int) + 1 ∧ (i + (m : Int) = (n : Int) + 1 ∨ m = 31) := by
    by_cases q : (n : Int) - i < 30
    · exact ⟨((n : Int) - i + 1).toNat, by omega, by omega, by omega⟩
    · exact ⟨31, by omega, by omega, by omega⟩
  obtain ⟨m, hm1, hm2, hm3⟩ := hm
  have h31 : trL 100000 (-1) (itW (H 54) (H 64)) (H 65) (H 66) rest (n : Int) k (wd * le / 100) (wd * gr / 100) i 31 = trL 100000 (-1) (itW (H 54) (H 64)) (H 65) (H 66) rest (n : Int) k (wd * le / 100) (wd * gr / 100) i m := by
    rcases hm3 with q | q
    · have := trL_n 100000 (-1) (itW (H 54) (H 64)) (H 65) (H 66) rest (n : Int) k (wd * le / 100) (wd * gr / 100) i m (by omega) (31 - m)
      rw [show m + (31 - m) = 31 by omega] at this
      exact this
    · rw [q]
  rw [h31]
  suffices hl : ∀ c, c ≤ m → ∀ t1 t2, am_WP (am_R (d + 2)) cd_Model_tries (fun v' s' => v' = none ∧ s' = (N, P, am_up (am_up H 67 (481 * k + i) (trL 100000 (-1) (itW (H 54) (H 64)) (H 65) (H 66) rest (n : Int) k (wd * le / 100) (wd * gr / 100) i m).1) 68 (481 * k + i) (trL 100000 (-1) (itW (H 54) (H 64)) (H 65) (H 66) rest (n : Int) k (wd * le / 100) (wd * gr / 100) i m).2)) 22 [some (am_r 53), some (am_i (k)), some (am_i (i)), some (am_i (sh)), some (am_i (le)), some (am_i (gr)), some (am_i (wd)), some (am_i ((trL 100000 (-1) (itW (H 54) (H 64)) (H 65) (H 66) rest (n : Int) k (wd * le / 100) (wd * gr / 100) i c).1)), some (am_i ((trL 100000 (-1) (itW (H 54) (H 64)) (H 65) (H 66) rest (n : Int) k (wd * le / 100) (wd * gr / 100) i c).2)), some (am_i (smF (itW (H 54) (H 64)) i (c - 1))), some (am_i (chF (H 65) k i (c - 1))), some (am_i (i + (c : Int))), t1, t2] [] (N, P, H) from by
    have h0 := hl 0 (Nat.zero_le _) none none
    rw [show i + (((0 : Nat)) : Int) = i by omega] at h0
    exact h0
  have htr := fun c => trL_r 100000 (-1) (w := itW (H 54) (H 64)) (hm := H 65) (pd := H 66) (rest := rest) (n := (n : Int)) (k := k) (L := wd * le / 100) (G := wd * gr / 100) (i := i) (fun j q0 q1 => (hR j q0 q1).1) h2.1 c
  have htb : ∀ c, 0 ≤ (trL 100000 (-1) (itW (H 54) (H 64)) (H 65) (H 66) rest (n : Int) k (wd * le / 100) (wd * gr / 100) i c).1 ∧ (trL 100000 (-1) (itW (H 54) (H 64)) (H 65) (H 66) rest (n : Int) k (wd * le / 100) (wd * gr / 100) i c).1 ≤ 100000 := by
    intro c
    rcases htr c with q | ⟨x, q1, q2, q3, q4, q5⟩
    · rw [q]; simp only []; omega
    · rw [q4]; simp only []
      have := chF_r (H 65) k i x
      have := hR (i + (x : Int)) (by omega) q2
      omega
  refine up_ind (n := m) ?_ ?_
  · intro t1 t2
    by_cases hx : (n : Int) < i + (m : Int)
    · refine st_iload rfl rfl ?_
      refine st_aload_n rfl rfl (by decide) ?_
      refine st_getI (kk := 19) rfl rfl (by decide) rfl ?_
      rw [hn0]
      refine st_icmp_gt rfl (fun h25 => ?_) (fun h25 => (by exfalso; omega))
      refine st_aload_n rfl rfl (by decide) ?_
      refine st_getR (kk := 20) rfl rfl rfl (pz_53_20 hP) rfl ?_
      refine st_sipush rfl ?_
      refine st_iload_n rfl rfl ?_
      refine st_imul rfl (by omega) ?_
      refine st_iload_n rfl rfl ?_
      refine st_iadd rfl (by omega) ?_
      refine st_iload rfl rfl ?_
      refine st_iastore rfl rfl (by omega) (by omega) ?_
      refine st_aload_n rfl rfl (by decide) ?_
      refine st_getR (kk := 21) rfl rfl rfl (pz_53_21 hP) rfl ?_
      refine st_sipush rfl ?_
      refine st_iload_n rfl rfl ?_
      refine st_imul rfl (by omega) ?_
      refine st_iload_n rfl rfl ?_
      refine st_iadd rfl (by omega) ?_
      refine st_iload rfl rfl ?_
      refine st_iastore rfl rfl (by omega) (by omega) ?_
      refine st_ret rfl ?_
      exact ⟨rfl, rfl⟩
    · refine st_iload rfl rfl ?_
      refine st_aload_n rfl rfl (by decide) ?_
      refine st_getI (kk := 19) rfl rfl (by decide) rfl ?_
      rw [hn0]
      refine st_icmp_gt rfl (fun h25 => (by exfalso; omega)) (fun h25 => ?_)
      refine st_iload rfl rfl ?_
      refine st_iload_n rfl rfl ?_
      refine st_isub rfl (by omega) ?_
      refine st_bipush rfl ?_
      refine st_icmp_gt rfl (fun h30 => ?_) (fun h30 => (by exfalso; omega))
      refine st_aload_n rfl rfl (by decide) ?_
      refine st_getR (kk := 20) rfl rfl rfl (pz_53_20 hP) rfl ?_
      refine st_sipush rfl ?_
      refine st_iload_n rfl rfl ?_
      refine st_imul rfl (by omega) ?_
      refine st_iload_n rfl rfl ?_
      refine st_iadd rfl (by omega) ?_
      refine st_iload rfl rfl ?_
      refine st_iastore rfl rfl (by omega) (by omega) ?_
      refine st_aload_n rfl rfl (by decide) ?_
      refine st_getR (kk := 21) rfl rfl rfl (pz_53_21 hP) rfl ?_
      refine st_sipush rfl ?_
      refine st_iload_n rfl rfl ?_
      refine st_imul rfl (by omega) ?_
      refine st_iload_n rfl rfl ?_
      refine st_iadd rfl (by omega) ?_
      refine st_iload rfl rfl ?_
      refine st_iastore rfl rfl (by omega) (by omega) ?_
      refine st_ret rfl ?_
      exact ⟨rfl, rfl⟩
  · intro c hc ih t1 t2
    have hb1 := htb c
    rw [show i + ((c + 1 : Nat) : Int) = i + (c : Int) + 1 by omega, Nat.add_sub_cancel] at ih
    have e1 : trL 100000 (-1) (itW (H 54) (H 64)) (H 65) (H 66) rest (n : Int) k (wd * le / 100) (wd * gr / 100) i (c + 1) = if i + (c : Int) ≤ (n : Int) ∧ trG (itW (H 54) (H 64)) (H 66) (n : Int) (wd * le / 100) (wd * gr / 100) i c ∧ chF (H 65) k i c + rest (i + (c : Int)) < (trL 100000 (-1) (itW (H 54) (H 64)) (H 65) (H 66) rest (n : Int) k (wd * le / 100) (wd * gr / 100) i c).1 then (chF (H 65) k i c + rest (i + (c : Int)), i + (c : Int)) else trL 100000 (-1) (itW (H 54) (H 64)) (H 65) (H 66) rest (n : Int) k (wd * le / 100) (wd * gr / 100) i c := rfl
    rw [e1] at ih
    generalize trL 100000 (-1) (itW (H 54) (H 64)) (H 65) (H 66) rest (n : Int) k (wd * le / 100) (wd * gr / 100) i c = tc at *
    have hs1 := smF_r (hIT.w hI) (i := i) h2.1 (c - 1) (by omega)
    have hs2 := smF_r (hIT.w hI) (i := i) h2.1 c (by omega)
    have hc1 := chF_r (H 65) k i (c - 1)
    have hc2 := chF_r (H 65) k i c
    have hp := h6 (i + (c : Int)) (by omega) (by omega)
    have hrr := hR (i + (c : Int)) (by omega) (by omega)
    refine st_iload rfl rfl ?_
    refine st_aload_n rfl rfl (by decide) ?_
    refine st_getI (kk := 19) rfl rfl (by decide) rfl ?_
    rw [hn0]
    refine st_icmp_gt rfl (fun h25 => (by exfalso; omega)) (fun h25 => ?_)
    refine st_iload rfl rfl ?_
    refine st_iload_n rfl rfl ?_
    refine st_isub rfl (by omega) ?_
    refine st_bipush rfl ?_
    refine st_icmp_gt rfl (fun h30 => (by exfalso; omega)) (fun h30 => ?_)
    refine st_iload rfl rfl ?_
    refine st_iload_n rfl rfl ?_
    refine st_icmp_le rfl (fun h33 => ?_) (fun h33 => ?_)
    · first
      | (have hz : c - 1 = c := by omega
         rw [hz])
      | (have hz1 : smF (itW (H 54) (H 64)) i (c - 1) + widF (H 54) (H 64 (i + (c : Int) - 1)) = smF (itW (H 54) (H 64)) i c := by
           obtain ⟨c', rfl⟩ : ∃ c', c = c' + 1 := ⟨c - 1, by omega⟩
           simp only [smF, Nat.add_sub_cancel]
           rw [show i + ((c' + 1 : Nat) : Int) - 1 = i + (c' : Int) by omega]
         rw [hz1]
         have hz2 : chF (H 65) k i (c - 1) + 1 = chF (H 65) k i c := by
           obtain ⟨c', rfl⟩ : ∃ c', c = c' + 1 := ⟨c - 1, by omega⟩
           rw [show i + ((c' + 1 : Nat) : Int) - 1 = i + (c' : Int) by omega] at h53
           simp only [chF, Nat.add_sub_cancel]
           rw [if_neg h53]
         rw [hz2])
      | (have hz1 : smF (itW (H 54) (H 64)) i (c - 1) + widF (H 54) (H 64 (i + (c : Int) - 1)) = smF (itW (H 54) (H 64)) i c := by
           obtain ⟨c', rfl⟩ : ∃ c', c = c' + 1 := ⟨c - 1, by omega⟩
           simp only [smF, Nat.add_sub_cancel]
           rw [show i + ((c' + 1 : Nat) : Int) - 1 = i + (c' : Int) by omega]
         rw [hz1]
         have hz2 : chF (H 65) k i (c - 1) + 0 = chF (H 65) k i c := by
           obtain ⟨c', rfl⟩ : ∃ c', c = c' + 1 := ⟨c - 1, by omega⟩
           rw [show i + ((c' + 1 : Nat) : Int) - 1 = i + (c' : Int) by omega] at h53
           simp only [chF, Nat.add_sub_cancel]
           rw [if_pos h53]
         rw [hz2])
      refine st_iload rfl rfl ?_
      refine st_iload rfl rfl ?_
      refine st_iload rfl rfl ?_
      refine st_imul rfl (by omega) ?_
      refine st_bipush rfl ?_
      refine st_idiv rfl (by omega) (by omega) (by omega) ?_
      refine st_icmp_gt rfl (fun h65 => ?_) (fun h65 => ?_)
      · refine st_iconst rfl ?_
        refine st_istore (ls' := [_, _, _, _, _, _, _, _, _, _, _, _, _, _]) rfl (Nat.le_of_ble_eq_true rfl) rfl ?_
        refine st_iload rfl rfl ?_
        refine st_if_ne rfl (fun h90 => (by exfalso; omega)) (fun h90 => ?_)
        refine st_goto rfl ?_
        refine st_iinc (ls' := [_, _, _, _, _, _, _, _, _, _, _, _, _, _]) rfl rfl (by omega) rfl ?_
        refine st_goto rfl ?_
        first
        | (rw [if_pos ⟨by omega, ⟨by omega, by omega, by omega⟩, by omega⟩, er] at ih; exact ih _ _)
        | (rw [if_neg (fun q => by have q1 := q.2.1.1; have q2 := q.2.1.2.1; have q3 := q.2.1.2.2; have q4 := q.2.2; omega)] at ih; exact ih _ _)
        | (exfalso; omega)
      · refine st_iload rfl rfl ?_
        refine st_iload_n rfl rfl ?_
        refine st_icmp_eq rfl (fun h68 => ?_) (fun h68 => ?_)
        · refine st_aload_n rfl rfl (by decide) ?_
          refine st_getR (kk := 18) rfl rfl rfl (pz_53_18 hP) rfl ?_
          refine st_iload rfl rfl ?_
          refine st_baload rfl rfl (Or.inr rfl) (by omega) (by omega) ?_
          refine st_if_eq rfl (fun h84 => ?_) (fun h84 => ?_)
          · refine st_iconst rfl ?_
            refine st_istore (ls' := [_, _, _, _, _, _, _, _, _, _, _, _, _, _]) rfl (Nat.le_of_ble_eq_true rfl) rfl ?_
            refine st_iload rfl rfl ?_
            refine st_if_ne rfl (fun h90 => (by exfalso; omega)) (fun h90 => ?_)
            refine st_goto rfl ?_
            refine st_iinc (ls' := [_, _, _, _, _, _, _, _, _, _, _, _, _, _]) rfl rfl (by omega) rfl ?_
            refine st_goto rfl ?_
            first
            | (rw [if_pos ⟨by omega, ⟨by omega, by omega, by omega⟩, by omega⟩, er] at ih; exact ih _ _)
            | (rw [if_neg (fun q => by have q1 := q.2.1.1; have q2 := q.2.1.2.1; have q3 := q.2.1.2.2; have q4 := q.2.2; omega)] at ih; exact ih _ _)
            | (exfalso; omega)
          · refine st_iconst rfl ?_
            refine st_goto rfl ?_
            refine st_istore (ls' := [_, _, _, _, _, _, _, _, _, _, _, _, _, _]) rfl (Nat.le_of_ble_eq_true rfl) rfl ?_
            refine st_iload rfl rfl ?_
            refine st_if_ne rfl (fun h90 => ?_) (fun h90 => (by exfalso; omega))
            refine st_iload_n rfl rfl ?_
            refine st_iconst rfl ?_
            refine st_iadd rfl (by omega) ?_
            refine st_iload_n rfl rfl ?_
            refine st_icmp_ne rfl (fun h96 => ?_) (fun h96 => ?_)
            · refine st_aload_n rfl rfl (by decide) ?_
              refine st_getR (kk := 20) rfl rfl rfl (pz_53_20 hP) rfl ?_
              refine st_sipush rfl ?_
              refine st_iload_n rfl rfl ?_
              refine st_iconst rfl ?_
              refine st_iadd rfl (by omega) ?_
              refine st_imul rfl (by omega) ?_
              refine st_iload rfl rfl ?_
              refine st_iadd rfl (by omega) ?_
              refine st_iaload rfl rfl (by omega) (by omega) ?_
              first
              | (have er : rest (i + (c : Int)) = 0 := by rw [hrE, if_pos (by omega), if_pos (by omega)])
              | (have er : rest (i + (c : Int)) = 100000 := by rw [hrE, if_pos (by omega), if_neg (by omega)])
              | (have er : rest (i + (c : Int)) = H 67 (481 * (k + 1) + (i + (c : Int))) := by rw [hrE, if_neg (by omega)])
              refine st_istore (ls' := [_, _, _, _, _, _, _, _, _, _, _, _, _, _]) rfl (Nat.le_of_ble_eq_true rfl) rfl ?_
              refine st_iload rfl rfl ?_
              refine st_iload rfl rfl ?_
              refine st_iadd rfl (by omega) ?_
              refine st_iload rfl rfl ?_
              refine st_icmp_ge rfl (fun h120 => ?_) (fun h120 => ?_)
              · refine st_iinc (ls' := [_, _, _, _, _, _, _, _, _, _, _, _, _, _]) rfl rfl (by omega) rfl ?_
                refine st_goto rfl ?_
                first
                | (rw [if_pos ⟨by omega, ⟨by omega, by omega, by omega⟩, by omega⟩, er] at ih; exact ih _ _)
                | (rw [if_neg (fun q => by have q1 := q.2.1.1; have q2 := q.2.1.2.1; have q3 := q.2.1.2.2; have q4 := q.2.2; omega)] at ih; exact ih _ _)
                | (exfalso; omega)
              · refine st_iload rfl rfl ?_
                refine st_iload rfl rfl ?_
                refine st_iadd rfl (by omega) ?_
                refine st_istore (ls' := [_, _, _, _, _, _, _, _, _, _, _, _, _, _]) rfl (Nat.le_of_ble_eq_true rfl) rfl ?_
                refine st_iload rfl rfl ?_
                refine st_istore (ls' := [_, _, _, _, _, _, _, _, _, _, _, _, _, _]) rfl (Nat.le_of_ble_eq_true rfl) rfl ?_
                refine st_iinc (ls' := [_, _, _, _, _, _, _, _, _, _, _, _, _, _]) rfl rfl (by omega) rfl ?_
                refine st_goto rfl ?_
                first
                | (rw [if_pos ⟨by omega, ⟨by omega, by omega, by omega⟩, by omega⟩, er] at ih; exact ih _ _)
                | (rw [if_neg (fun q => by have q1 := q.2.1.1; have q2 := q.2.1.2.1; have q3 := q.2.1.2.2; have q4 := q.2.2; omega)] at ih; exact ih _ _)
                | (exfalso; omega)
            · refine st_iload rfl rfl ?_
              refine st_aload_n rfl rfl (by decide) ?_
              refine st_getI (kk := 19) rfl rfl (by decide) rfl ?_
              rw [hn0]
              refine st_icmp_ne rfl (fun h100 => ?_) (fun h100 => ?_)
              · refine st_ldc rfl ?_
                refine st_goto rfl ?_
                first
                | (have er : rest (i + (c : Int)) = 0 := by rw [hrE, if_pos (by omega), if_pos (by omega)])
                | (have er : rest (i + (c : Int)) = 100000 := by rw [hrE, if_pos (by omega), if_neg (by omega)])
                | (have er : rest (i + (c : Int)) = H 67 (481 * (k + 1) + (i + (c : Int))) := by rw [hrE, if_neg (by omega)])
                refine st_istore (ls' := [_, _, _, _, _, _, _, _, _, _, _, _, _, _]) rfl (Nat.le_of_ble_eq_true rfl) rfl ?_
                refine st_iload rfl rfl ?_
                refine st_iload rfl rfl ?_
                refine st_iadd rfl (by omega) ?_
                refine st_iload rfl rfl ?_
                refine st_icmp_ge rfl (fun h120 => ?_) (fun h120 => ?_)
                · refine st_iinc (ls' := [_, _, _, _, _, _, _, _, _, _, _, _, _, _]) rfl rfl (by omega) rfl ?_
                  refine st_goto rfl ?_
                  first
                  | (rw [if_pos ⟨by omega, ⟨by omega, by omega, by omega⟩, by omega⟩, er] at ih; exact ih _ _)
                  | (rw [if_neg (fun q => by have q1 := q.2.1.1; have q2 := q.2.1.2.1; have q3 := q.2.1.2.2; have q4 := q.2.2; omega)] at ih; exact ih _ _)
                  | (exfalso; omega)
                · refine st_iload rfl rfl ?_
                  refine st_iload rfl rfl ?_
                  refine st_iadd rfl (by omega) ?_
                  refine st_istore (ls' := [_, _, _, _, _, _, _, _, _, _, _, _, _, _]) rfl (Nat.le_of_ble_eq_true rfl) rfl ?_
                  refine st_iload rfl rfl ?_
                  refine st_istore (ls' := [_, _, _, _, _, _, _, _, _, _, _, _, _, _]) rfl (Nat.le_of_ble_eq_true rfl) rfl ?_
                  refine st_iinc (ls' := [_, _, _, _, _, _, _, _, _, _, _, _, _, _]) rfl rfl (by omega) rfl ?_
                  refine st_goto rfl ?_
                  first
                  | (rw [if_pos ⟨by omega, ⟨by omega, by omega, by omega⟩, by omega⟩, er] at ih; exact ih _ _)
                  | (rw [if_neg (fun q => by have q1 := q.2.1.1; have q2 := q.2.1.2.1; have q3 := q.2.1.2.2; have q4 := q.2.2; omega)] at ih; exact ih _ _)
                  | (exfalso; omega)
              · refine st_iconst rfl ?_
                refine st_goto rfl ?_
                first
                | (have er : rest (i + (c : Int)) = 0 := by rw [hrE, if_pos (by omega), if_pos (by omega)])
                | (have er : rest (i + (c : Int)) = 100000 := by rw [hrE, if_pos (by omega), if_neg (by omega)])
                | (have er : rest (i + (c : Int)) = H 67 (481 * (k + 1) + (i + (c : Int))) := by rw [hrE, if_neg (by omega)])
                refine st_istore (ls' := [_, _, _, _, _, _, _, _, _, _, _, _, _, _]) rfl (Nat.le_of_ble_eq_true rfl) rfl ?_
                refine st_iload rfl rfl ?_
                refine st_iload rfl rfl ?_
                refine st_iadd rfl (by omega) ?_
                refine st_iload rfl rfl ?_
                refine st_icmp_ge rfl (fun h120 => ?_) (fun h120 => ?_)
                · refine st_iinc (ls' := [_, _, _, _, _, _, _, _, _, _, _, _, _, _]) rfl rfl (by omega) rfl ?_
                  refine st_goto rfl ?_
                  first
                  | (rw [if_pos ⟨by omega, ⟨by omega, by omega, by omega⟩, by omega⟩, er] at ih; exact ih _ _)
                  | (rw [if_neg (fun q => by have q1 := q.2.1.1; have q2 := q.2.1.2.1; have q3 := q.2.1.2.2; have q4 := q.2.2; omega)] at ih; exact ih _ _)
                  | (exfalso; omega)
                · refine st_iload rfl rfl ?_
                  refine st_iload rfl rfl ?_
                  refine st_iadd rfl (by omega) ?_
                  refine st_istore (ls' := [_, _, _, _, _, _, _, _, _, _, _, _, _, _]) rfl (Nat.le_of_ble_eq_true rfl) rfl ?_
                  refine st_iload rfl rfl ?_
                  refine st_istore (ls' := [_, _, _, _, _, _, _, _, _, _, _, _, _, _]) rfl (Nat.le_of_ble_eq_true rfl) rfl ?_
                  refine st_iinc (ls' := [_, _, _, _, _, _, _, _, _, _, _, _, _, _]) rfl rfl (by omega) rfl ?_
                  refine st_goto rfl ?_
                  first
                  | (rw [if_pos ⟨by omega, ⟨by omega, by omega, by omega⟩, by omega⟩, er] at ih; exact ih _ _)
                  | (rw [if_neg (fun q => by have q1 := q.2.1.1; have q2 := q.2.1.2.1; have q3 := q.2.1.2.2; have q4 := q.2.2; omega)] at ih; exact ih _ _)
                  | (exfalso; omega)
        · refine st_iload rfl rfl ?_
          refine st_aload_n rfl rfl (by decide) ?_
          refine st_getI (kk := 19) rfl rfl (by decide) rfl ?_
          rw [hn0]
          refine st_icmp_eq rfl (fun h72 => ?_) (fun h72 => ?_)
          · refine st_aload_n rfl rfl (by decide) ?_
            refine st_getR (kk := 18) rfl rfl rfl (pz_53_18 hP) rfl ?_
            refine st_iload rfl rfl ?_
            refine st_baload rfl rfl (Or.inr rfl) (by omega) (by omega) ?_
            refine st_if_eq rfl (fun h84 => ?_) (fun h84 => ?_)
            · refine st_iconst rfl ?_
              refine st_istore (ls' := [_, _, _, _, _, _, _, _, _, _, _, _, _, _]) rfl (Nat.le_of_ble_eq_true rfl) rfl ?_
              refine st_iload rfl rfl ?_
              refine st_if_ne rfl (fun h90 => (by exfalso; omega)) (fun h90 => ?_)
              refine st_goto rfl ?_
              refine st_iinc (ls' := [_, _, _, _, _, _, _, _, _, _, _, _, _, _]) rfl rfl (by omega) rfl ?_
              refine st_goto rfl ?_
              first
              | (rw [if_pos ⟨by omega, ⟨by omega, by omega, by omega⟩, by omega⟩, er] at ih; exact ih _ _)
              | (rw [if_neg (fun q => by have q1 := q.2.1.1; have q2 := q.2.1.2.1; have q3 := q.2.1.2.2; have q4 := q.2.2; omega)] at ih; exact ih _ _)
              | (exfalso; omega)
            · refine st_iconst rfl ?_
              refine st_goto rfl ?_
              refine st_istore (ls' := [_, _, _, _, _, _, _, _, _, _, _, _, _, _]) rfl (Nat.le_of_ble_eq_true rfl) rfl ?_
              refine st_iload rfl rfl ?_
              refine st_if_ne rfl (fun h90 => ?_) (fun h90 => (by exfalso; omega))
              refine st_iload_n rfl rfl ?_
              refine st_iconst rfl ?_
              refine st_iadd rfl (by omega) ?_
              refine st_iload_n rfl rfl ?_
              refine st_icmp_ne rfl (fun h96 => ?_) (fun h96 => ?_)
              · refine st_aload_n rfl rfl (by decide) ?_
                refine st_getR (kk := 20) rfl rfl rfl (pz_53_20 hP) rfl ?_
                refine st_sipush rfl ?_
                refine st_iload_n rfl rfl ?_
                refine st_iconst rfl ?_
                refine st_iadd rfl (by omega) ?_
                refine st_imul rfl (by omega) ?_
                refine st_iload rfl rfl ?_
                refine st_iadd rfl (by omega) ?_
                refine st_iaload rfl rfl (by omega) (by omega) ?_
                first
                | (have er : rest (i + (c : Int)) = 0 := by rw [hrE, if_pos (by omega), if_pos (by omega)])
                | (have er : rest (i + (c : Int)) = 100000 := by rw [hrE, if_pos (by omega), if_neg (by omega)])
                | (have er : rest (i + (c : Int)) = H 67 (481 * (k + 1) + (i + (c : Int))) := by rw [hrE, if_neg (by omega)])
                refine st_istore (ls' := [_, _, _, _, _, _, _, _, _, _, _, _, _, _]) rfl (Nat.le_of_ble_eq_true rfl) rfl ?_
                refine st_iload rfl rfl ?_
                refine st_iload rfl rfl ?_
                refine st_iadd rfl (by omega) ?_
                refine st_iload rfl rfl ?_
                refine st_icmp_ge rfl (fun h120 => ?_) (fun h120 => ?_)
                · refine st_iinc (ls' := [_, _, _, _, _, _, _, _, _, _, _, _, _, _]) rfl rfl (by omega) rfl ?_
                  refine st_goto rfl ?_
                  first
                  | (rw [if_pos ⟨by omega, ⟨by omega, by omega, by omega⟩, by omega⟩, er] at ih; exact ih _ _)
                  | (rw [if_neg (fun q => by have q1 := q.2.1.1; have q2 := q.2.1.2.1; have q3 := q.2.1.2.2; have q4 := q.2.2; omega)] at ih; exact ih _ _)
                  | (exfalso; omega)
                · refine st_iload rfl rfl ?_
                  refine st_iload rfl rfl ?_
                  refine st_iadd rfl (by omega) ?_
                  refine st_istore (ls' := [_, _, _, _, _, _, _, _, _, _, _, _, _, _]) rfl (Nat.le_of_ble_eq_true rfl) rfl ?_
                  refine st_iload rfl rfl ?_
                  refine st_istore (ls' := [_, _, _, _, _, _, _, _, _, _, _, _, _, _]) rfl (Nat.le_of_ble_eq_true rfl) rfl ?_
                  refine st_iinc (ls' := [_, _, _, _, _, _, _, _, _, _, _, _, _, _]) rfl rfl (by omega) rfl ?_
                  refine st_goto rfl ?_
                  first
                  | (rw [if_pos ⟨by omega, ⟨by omega, by omega, by omega⟩, by omega⟩, er] at ih; exact ih _ _)
                  | (rw [if_neg (fun q => by have q1 := q.2.1.1; have q2 := q.2.1.2.1; have q3 := q.2.1.2.2; have q4 := q.2.2; omega)] at ih; exact ih _ _)
                  | (exfalso; omega)
              · refine st_iload rfl rfl ?_
                refine st_aload_n rfl rfl (by decide) ?_
                refine st_getI (kk := 19) rfl rfl (by decide) rfl ?_
                rw [hn0]
                refine st_icmp_ne rfl (fun h100 => ?_) (fun h100 => ?_)
                · refine st_ldc rfl ?_
                  refine st_goto rfl ?_
                  first
                  | (have er : rest (i + (c : Int)) = 0 := by rw [hrE, if_pos (by omega), if_pos (by omega)])
                  | (have er : rest (i + (c : Int)) = 100000 := by rw [hrE, if_pos (by omega), if_neg (by omega)])
                  | (have er : rest (i + (c : Int)) = H 67 (481 * (k + 1) + (i + (c : Int))) := by rw [hrE, if_neg (by omega)])
                  refine st_istore (ls' := [_, _, _, _, _, _, _, _, _, _, _, _, _, _]) rfl (Nat.le_of_ble_eq_true rfl) rfl ?_
                  refine st_iload rfl rfl ?_
                  refine st_iload rfl rfl ?_
                  refine st_iadd rfl (by omega) ?_
                  refine st_iload rfl rfl ?_
                  refine st_icmp_ge rfl (fun h120 => ?_) (fun h120 => ?_)
                  · refine st_iinc (ls' := [_, _, _, _, _, _, _, _, _, _, _, _, _, _]) rfl rfl (by omega) rfl ?_
                    refine st_goto rfl ?_
                    first
                    | (rw [if_pos ⟨by omega, ⟨by omega, by omega, by omega⟩, by omega⟩, er] at ih; exact ih _ _)
                    | (rw [if_neg (fun q => by have q1 := q.2.1.1; have q2 := q.2.1.2.1; have q3 := q.2.1.2.2; have q4 := q.2.2; omega)] at ih; exact ih _ _)
                    | (exfalso; omega)
                  · refine st_iload rfl rfl ?_
                    refine st_iload rfl rfl ?_
                    refine st_iadd rfl (by omega) ?_
                    refine st_istore (ls' := [_, _, _, _, _, _, _, _, _, _, _, _, _, _]) rfl (Nat.le_of_ble_eq_true rfl) rfl ?_
                    refine st_iload rfl rfl ?_
                    refine st_istore (ls' := [_, _, _, _, _, _, _, _, _, _, _, _, _, _]) rfl (Nat.le_of_ble_eq_true rfl) rfl ?_
                    refine st_iinc (ls' := [_, _, _, _, _, _, _, _, _, _, _, _, _, _]) rfl rfl (by omega) rfl ?_
                    refine st_goto rfl ?_
                    first
                    | (rw [if_pos ⟨by omega, ⟨by omega, by omega, by omega⟩, by omega⟩, er] at ih; exact ih _ _)
                    | (rw [if_neg (fun q => by have q1 := q.2.1.1; have q2 := q.2.1.2.1; have q3 := q.2.1.2.2; have q4 := q.2.2; omega)] at ih; exact ih _ _)
                    | (exfalso; omega)
                · refine st_iconst rfl ?_
                  refine st_goto rfl ?_
                  first
                  | (have er : rest (i + (c : Int)) = 0 := by rw [hrE, if_pos (by omega), if_pos (by omega)])
                  | (have er : rest (i + (c : Int)) = 100000 := by rw [hrE, if_pos (by omega), if_neg (by omega)])
                  | (have er : rest (i + (c : Int)) = H 67 (481 * (k + 1) + (i + (c : Int))) := by rw [hrE, if_neg (by omega)])
                  refine st_istore (ls' := [_, _, _, _, _, _, _, _, _, _, _, _, _, _]) rfl (Nat.le_of_ble_eq_true rfl) rfl ?_
                  refine st_iload rfl rfl ?_
                  refine st_iload rfl rfl ?_
                  refine st_iadd rfl (by omega) ?_
                  refine st_iload rfl rfl ?_
                  refine st_icmp_ge rfl (fun h120 => ?_) (fun h120 => ?_)
                  · refine st_iinc (ls' := [_, _, _, _, _, _, _, _, _, _, _, _, _, _]) rfl rfl (by omega) rfl ?_
                    refine st_goto rfl ?_
                    first
                    | (rw [if_pos ⟨by omega, ⟨by omega, by omega, by omega⟩, by omega⟩, er] at ih; exact ih _ _)
                    | (rw [if_neg (fun q => by have q1 := q.2.1.1; have q2 := q.2.1.2.1; have q3 := q.2.1.2.2; have q4 := q.2.2; omega)] at ih; exact ih _ _)
                    | (exfalso; omega)
                  · refine st_iload rfl rfl ?_
                    refine st_iload rfl rfl ?_
                    refine st_iadd rfl (by omega) ?_
                    refine st_istore (ls' := [_, _, _, _, _, _, _, _, _, _, _, _, _, _]) rfl (Nat.le_of_ble_eq_true rfl) rfl ?_
                    refine st_iload rfl rfl ?_
                    refine st_istore (ls' := [_, _, _, _, _, _, _, _, _, _, _, _, _, _]) rfl (Nat.le_of_ble_eq_true rfl) rfl ?_
                    refine st_iinc (ls' := [_, _, _, _, _, _, _, _, _, _, _, _, _, _]) rfl rfl (by omega) rfl ?_
                    refine st_goto rfl ?_
                    first
                    | (rw [if_pos ⟨by omega, ⟨by omega, by omega, by omega⟩, by omega⟩, er] at ih; exact ih _ _)
                    | (rw [if_neg (fun q => by have q1 := q.2.1.1; have q2 := q.2.1.2.1; have q3 := q.2.1.2.2; have q4 := q.2.2; omega)] at ih; exact ih _ _)
                    | (exfalso; omega)
          · refine st_iload rfl rfl ?_
            refine st_iload rfl rfl ?_
            refine st_iload rfl rfl ?_
            refine st_imul rfl (by omega) ?_
            refine st_bipush rfl ?_
            refine st_idiv rfl (by omega) (by omega) (by omega) ?_
            refine st_icmp_lt rfl (fun h79 => ?_) (fun h79 => ?_)
            · refine st_iconst rfl ?_
              refine st_istore (ls' := [_, _, _, _, _, _, _, _, _, _, _, _, _, _]) rfl (Nat.le_of_ble_eq_true rfl) rfl ?_
              refine st_iload rfl rfl ?_
              refine st_if_ne rfl (fun h90 => (by exfalso; omega)) (fun h90 => ?_)
              refine st_goto rfl ?_
              refine st_iinc (ls' := [_, _, _, _, _, _, _, _, _, _, _, _, _, _]) rfl rfl (by omega) rfl ?_
              refine st_goto rfl ?_
              first
              | (rw [if_pos ⟨by omega, ⟨by omega, by omega, by omega⟩, by omega⟩, er] at ih; exact ih _ _)
              | (rw [if_neg (fun q => by have q1 := q.2.1.1; have q2 := q.2.1.2.1; have q3 := q.2.1.2.2; have q4 := q.2.2; omega)] at ih; exact ih _ _)
              | (exfalso; omega)
            · refine st_aload_n rfl rfl (by decide) ?_
              refine st_getR (kk := 18) rfl rfl rfl (pz_53_18 hP) rfl ?_
              refine st_iload rfl rfl ?_
              refine st_baload rfl rfl (Or.inr rfl) (by omega) (by omega) ?_
              refine st_if_eq rfl (fun h84 => ?_) (fun h84 => ?_)
              · refine st_iconst rfl ?_
                refine st_istore (ls' := [_, _, _, _, _, _, _, _, _, _, _, _, _, _]) rfl (Nat.le_of_ble_eq_true rfl) rfl ?_
                refine st_iload rfl rfl ?_
                refine st_if_ne rfl (fun h90 => (by exfalso; omega)) (fun h90 => ?_)
                refine st_goto rfl ?_
                refine st_iinc (ls' := [_, _, _, _, _, _, _, _, _, _, _, _, _, _]) rfl rfl (by omega) rfl ?_
                refine st_goto rfl ?_
                first
                | (rw [if_pos ⟨by omega, ⟨by omega, by omega, by omega⟩, by omega⟩, er] at ih; exact ih _ _)
                | (rw [if_neg (fun q => by have q1 := q.2.1.1; have q2 := q.2.1.2.1; have q3 := q.2.1.2.2; have q4 := q.2.2; omega)] at ih; exact ih _ _)
                | (exfalso; omega)
              · refine st_iconst rfl ?_
                refine st_goto rfl ?_
                refine st_istore (ls' := [_, _, _, _, _, _, _, _, _, _, _, _, _, _]) rfl (Nat.le_of_ble_eq_true rfl) rfl ?_
                refine st_iload rfl rfl ?_
                refine st_if_ne rfl (fun h90 => ?_) (fun h90 => (by exfalso; omega))
                refine st_iload_n rfl rfl ?_
                refine st_iconst rfl ?_
                refine st_iadd rfl (by omega) ?_
                refine st_iload_n rfl rfl ?_
                refine st_icmp_ne rfl (fun h96 => ?_) (fun h96 => ?_)
                · refine st_aload_n rfl rfl (by decide) ?_
                  refine st_getR (kk := 20) rfl rfl rfl (pz_53_20 hP) rfl ?_
                  refine st_sipush rfl ?_
                  refine st_iload_n rfl rfl ?_
                  refine st_iconst rfl ?_
                  refine st_iadd rfl (by omega) ?_
                  refine st_imul rfl (by omega) ?_
                  refine st_iload rfl rfl ?_
                  refine st_iadd rfl (by omega) ?_
                  refine st_iaload rfl rfl (by omega) (by omega) ?_
                  first
                  | (have er : rest (i + (c : Int)) = 0 := by rw [hrE, if_pos (by omega), if_pos (by omega)])
                  | (have er : rest (i + (c : Int)) = 100000 := by rw [hrE, if_pos (by omega), if_neg (by omega)])
                  | (have er : rest (i + (c : Int)) = H 67 (481 * (k + 1) + (i + (c : Int))) := by rw [hrE, if_neg (by omega)])
                  refine st_istore (ls' := [_, _, _, _, _, _, _, _, _, _, _, _, _, _]) rfl (Nat.le_of_ble_eq_true rfl) rfl ?_
                  refine st_iload rfl rfl ?_
                  refine st_iload rfl rfl ?_
                  refine st_iadd rfl (by omega) ?_
                  refine st_iload rfl rfl ?_
                  refine st_icmp_ge rfl (fun h120 => ?_) (fun h120 => ?_)
                  · refine st_iinc (ls' := [_, _, _, _, _, _, _, _, _, _, _, _, _, _]) rfl rfl (by omega) rfl ?_
                    refine st_goto rfl ?_
                    first
                    | (rw [if_pos ⟨by omega, ⟨by omega, by omega, by omega⟩, by omega⟩, er] at ih; exact ih _ _)
                    | (rw [if_neg (fun q => by have q1 := q.2.1.1; have q2 := q.2.1.2.1; have q3 := q.2.1.2.2; have q4 := q.2.2; omega)] at ih; exact ih _ _)
                    | (exfalso; omega)
                  · refine st_iload rfl rfl ?_
                    refine st_iload rfl rfl ?_
                    refine st_iadd rfl (by omega) ?_
                    refine st_istore (ls' := [_, _, _, _, _, _, _, _, _, _, _, _, _, _]) rfl (Nat.le_of_ble_eq_true rfl) rfl ?_
                    refine st_iload rfl rfl ?_
                    refine st_istore (ls' := [_, _, _, _, _, _, _, _, _, _, _, _, _, _]) rfl (Nat.le_of_ble_eq_true rfl) rfl ?_
                    refine st_iinc (ls' := [_, _, _, _, _, _, _, _, _, _, _, _, _, _]) rfl rfl (by omega) rfl ?_
                    refine st_goto rfl ?_
                    first
                    | (rw [if_pos ⟨by omega, ⟨by omega, by omega, by omega⟩, by omega⟩, er] at ih; exact ih _ _)
                    | (rw [if_neg (fun q => by have q1 := q.2.1.1; have q2 := q.2.1.2.1; have q3 := q.2.1.2.2; have q4 := q.2.2; omega)] at ih; exact ih _ _)
                    | (exfalso; omega)
                · refine st_iload rfl rfl ?_
                  refine st_aload_n rfl rfl (by decide) ?_
                  refine st_getI (kk := 19) rfl rfl (by decide) rfl ?_
                  rw [hn0]
                  refine st_icmp_ne rfl (fun h100 => ?_) (fun h100 => ?_)
                  · refine st_ldc rfl ?_
                    refine st_goto rfl ?_
                    first
                    | (have er : rest (i + (c : Int)) = 0 := by rw [hrE, if_pos (by omega), if_pos (by omega)])
                    | (have er : rest (i + (c : Int)) = 100000 := by rw [hrE, if_pos (by omega), if_neg (by omega)])
                    | (have er : rest (i + (c : Int)) = H 67 (481 * (k + 1) + (i + (c : Int))) := by rw [hrE, if_neg (by omega)])
                    refine st_istore (ls' := [_, _, _, _, _, _, _, _, _, _, _, _, _, _]) rfl (Nat.le_of_ble_eq_true rfl) rfl ?_
                    refine st_iload rfl rfl ?_
                    refine st_iload rfl rfl ?_
                    refine st_iadd rfl (by omega) ?_
                    refine st_iload rfl rfl ?_
                    refine st_icmp_ge rfl (fun h120 => ?_) (fun h120 => ?_)
                    · refine st_iinc (ls' := [_, _, _, _, _, _, _, _, _, _, _, _, _, _]) rfl rfl (by omega) rfl ?_
                      refine st_goto rfl ?_
                      first
                      | (rw [if_pos ⟨by omega, ⟨by omega, by omega, by omega⟩, by omega⟩, er] at ih; exact ih _ _)
                      | (rw [if_neg (fun q => by have q1 := q.2.1.1; have q2 := q.2.1.2.1; have q3 := q.2.1.2.2; have q4 := q.2.2; omega)] at ih; exact ih _ _)
                      | (exfalso; omega)
                    · refine st_iload rfl rfl ?_
                      refine st_iload rfl rfl ?_
                      refine st_iadd rfl (by omega) ?_
                      refine st_istore (ls' := [_, _, _, _, _, _, _, _, _, _, _, _, _, _]) rfl (Nat.le_of_ble_eq_true rfl) rfl ?_
                      refine st_iload rfl rfl ?_
                      refine st_istore (ls' := [_, _, _, _, _, _, _, _, _, _, _, _, _, _]) rfl (Nat.le_of_ble_eq_true rfl) rfl ?_
                      refine st_iinc (ls' := [_, _, _, _, _, _, _, _, _, _, _, _, _, _]) rfl rfl (by omega) rfl ?_
                      refine st_goto rfl ?_
                      first
                      | (rw [if_pos ⟨by omega, ⟨by omega, by omega, by omega⟩, by omega⟩, er] at ih; exact ih _ _)
                      | (rw [if_neg (fun q => by have q1 := q.2.1.1; have q2 := q.2.1.2.1; have q3 := q.2.1.2.2; have q4 := q.2.2; omega)] at ih; exact ih _ _)
                      | (exfalso; omega)
                  · refine st_iconst rfl ?_
                    refine st_goto rfl ?_
                    first
                    | (have er : rest (i + (c : Int)) = 0 := by rw [hrE, if_pos (by omega), if_pos (by omega)])
                    | (have er : rest (i + (c : Int)) = 100000 := by rw [hrE, if_pos (by omega), if_neg (by omega)])
                    | (have er : rest (i + (c : Int)) = H 67 (481 * (k + 1) + (i + (c : Int))) := by rw [hrE, if_neg (by omega)])
                    refine st_istore (ls' := [_, _, _, _, _, _, _, _, _, _, _, _, _, _]) rfl (Nat.le_of_ble_eq_true rfl) rfl ?_
                    refine st_iload rfl rfl ?_
                    refine st_iload rfl rfl ?_
                    refine st_iadd rfl (by omega) ?_
                    refine st_iload rfl rfl ?_
                    refine st_icmp_ge rfl (fun h120 => ?_) (fun h120 => ?_)
                    · refine st_iinc (ls' := [_, _, _, _, _, _, _, _, _, _, _, _, _, _]) rfl rfl (by omega) rfl ?_
                      refine st_goto rfl ?_
                      first
                      | (rw [if_pos ⟨by omega, ⟨by omega, by omega, by omega⟩, by omega⟩, er] at ih; exact ih _ _)
                      | (rw [if_neg (fun q => by have q1 := q.2.1.1; have q2 := q.2.1.2.1; have q3 := q.2.1.2.2; have q4 := q.2.2; omega)] at ih; exact ih _ _)
                      | (exfalso; omega)
                    · refine st_iload rfl rfl ?_
                      refine st_iload rfl rfl ?_
                      refine st_iadd rfl (by omega) ?_
                      refine st_istore (ls' := [_, _, _, _, _, _, _, _, _, _, _, _, _, _]) rfl (Nat.le_of_ble_eq_true rfl) rfl ?_
                      refine st_iload rfl rfl ?_
                      refine st_istore (ls' := [_, _, _, _, _, _, _, _, _, _, _, _, _, _]) rfl (Nat.le_of_ble_eq_true rfl) rfl ?_
                      refine st_iinc (ls' := [_, _, _, _, _, _, _, _, _, _, _, _, _, _]) rfl rfl (by omega) rfl ?_
                      refine st_goto rfl ?_
                      first
                      | (rw [if_pos ⟨by omega, ⟨by omega, by omega, by omega⟩, by omega⟩, er] at ih; exact ih _ _)
                      | (rw [if_neg (fun q => by have q1 := q.2.1.1; have q2 := q.2.1.2.1; have q3 := q.2.1.2.2; have q4 := q.2.2; omega)] at ih; exact ih _ _)
                      | (exfalso; omega)
    · refine st_iload rfl rfl ?_
      refine st_aload_n rfl rfl (by decide) ?_
      refine st_aload_n rfl rfl (by decide) ?_
      refine st_getR (kk := 16) rfl rfl rfl (pz_53_16 hP) rfl ?_
      refine st_iload rfl rfl ?_
      refine st_iconst rfl ?_
      refine st_isub rfl (by omega) ?_
      refine st_iaload rfl rfl (by omega) (by omega) ?_
      refine st_cv1 (w := [_]) rfl rfl rfl (Nat.le_of_ble_eq_true rfl) (Nat.le_of_ble_eq_true rfl) rfl rfl (r_Model_wide hP (hIT.m hI (x := i + (c : Int) - 1) (by omega) (by omega)).1 (hIT.m hI (x := i + (c : Int) - 1) (by omega) (by omega)).2.1 (hIT.b hI (by omega) (by omega))) ?_
      have hwi := hIT.w hI (i + (c : Int) - 1) (by omega) (by omega)
      have hwi2 : itW (H 54) (H 64) (i + (c : Int) - 1) = widF (H 54) (H 64 (i + (c : Int) - 1)) := rfl
      refine st_iadd rfl (by omega) ?_
      refine st_istore (ls' := [_, _, _, _, _, _, _, _, _, _, _, _, _, _]) rfl (Nat.le_of_ble_eq_true rfl) rfl ?_
      refine st_iload rfl rfl ?_
      refine st_aload_n rfl rfl (by decide) ?_
      refine st_getR (kk := 17) rfl rfl rfl (pz_53_17 hP) rfl ?_
      refine st_iload rfl rfl ?_
      refine st_iconst rfl ?_
      refine st_isub rfl (by omega) ?_
      refine st_iaload rfl rfl (by omega) (by omega) ?_
      refine st_iload_n rfl rfl ?_
      refine st_icmp_eq rfl (fun h53 => ?_) (fun h53 => ?_)
      · refine st_iconst rfl ?_
        refine st_iadd rfl (by omega) ?_
        refine st_istore (ls' := [_, _, _, _, _, _, _, _, _, _, _, _, _, _]) rfl (Nat.le_of_ble_eq_true rfl) rfl ?_
        first
        | (have hz : c - 1 = c := by omega
           rw [hz])
        | (have hz1 : smF (itW (H 54) (H 64)) i (c - 1) + widF (H 54) (H 64 (i + (c : Int) - 1)) = smF (itW (H 54) (H 64)) i c := by
             obtain ⟨c', rfl⟩ : ∃ c', c = c' + 1 := ⟨c - 1, by omega⟩
             simp only [smF, Nat.add_sub_cancel]
             rw [show i + ((c' + 1 : Nat) : Int) - 1 = i + (c' : Int) by omega]
           rw [hz1]
           have hz2 : chF (H 65) k i (c - 1) + 1 = chF (H 65) k i c := by
             obtain ⟨c', rfl⟩ : ∃ c', c = c' + 1 := ⟨c - 1, by omega⟩
             rw [show i + ((c' + 1 : Nat) : Int) - 1 = i + (c' : Int) by omega] at h53
             simp only [chF, Nat.add_sub_cancel]
             rw [if_neg h53]
           rw [hz2])
        | (have hz1 : smF (itW (H 54) (H 64)) i (c - 1) + widF (H 54) (H 64 (i + (c : Int) - 1)) = smF (itW (H 54) (H 64)) i c := by
             obtain ⟨c', rfl⟩ : ∃ c', c = c' + 1 := ⟨c - 1, by omega⟩
             simp only [smF, Nat.add_sub_cancel]
             rw [show i + ((c' + 1 : Nat) : Int) - 1 = i + (c' : Int) by omega]
           rw [hz1]
           have hz2 : chF (H 65) k i (c - 1) + 0 = chF (H 65) k i c := by
             obtain ⟨c', rfl⟩ : ∃ c', c = c' + 1 := ⟨c - 1, by omega⟩
             rw [show i + ((c' + 1 : Nat) : Int) - 1 = i + (c' : Int) by omega] at h53
             simp only [chF, Nat.add_sub_cancel]
             rw [if_pos h53]
           rw [hz2])
        refine st_iload rfl rfl ?_
        refine st_iload rfl rfl ?_
        refine st_iload rfl rfl ?_
        refine st_imul rfl (by omega) ?_
        refine st_bipush rfl ?_
        refine st_idiv rfl (by omega) (by omega) (by omega) ?_
        refine st_icmp_gt rfl (fun h65 => ?_) (fun h65 => ?_)
        · refine st_iconst rfl ?_
          refine st_istore (ls' := [_, _, _, _, _, _, _, _, _, _, _, _, _, _]) rfl (Nat.le_of_ble_eq_true rfl) rfl ?_
          refine st_iload rfl rfl ?_
          refine st_if_ne rfl (fun h90 => (by exfalso; omega)) (fun h90 => ?_)
          refine st_goto rfl ?_
          refine st_iinc (ls' := [_, _, _, _, _, _, _, _, _, _, _, _, _, _]) rfl rfl (by omega) rfl ?_
          refine st_goto rfl ?_
          first
          | (rw [if_pos ⟨by omega, ⟨by omega, by omega, by omega⟩, by omega⟩, er] at ih; exact ih _ _)
          | (rw [if_neg (fun q => by have q1 := q.2.1.1; have q2 := q.2.1.2.1; have q3 := q.2.1.2.2; have q4 := q.2.2; omega)] at ih; exact ih _ _)
          | (exfalso; omega)
        · refine st_iload rfl rfl ?_
          refine st_iload_n rfl rfl ?_
          refine st_icmp_eq rfl (fun h68 => (by exfalso; omega)) (fun h68 => ?_)
          refine st_iload rfl rfl ?_
          refine st_aload_n rfl rfl (by decide) ?_
          refine st_getI (kk := 19) rfl rfl (by decide) rfl ?_
          rw [hn0]
          refine st_icmp_eq rfl (fun h72 => ?_) (fun h72 => ?_)
          · refine st_aload_n rfl rfl (by decide) ?_
            refine st_getR (kk := 18) rfl rfl rfl (pz_53_18 hP) rfl ?_
            refine st_iload rfl rfl ?_
            refine st_baload rfl rfl (Or.inr rfl) (by omega) (by omega) ?_
            refine st_if_eq rfl (fun h84 => ?_) (fun h84 => ?_)
            · refine st_iconst rfl ?_
              refine st_istore (ls' := [_, _, _, _, _, _, _, _, _, _, _, _, _, _]) rfl (Nat.le_of_ble_eq_true rfl) rfl ?_
              refine st_iload rfl rfl ?_
              refine st_if_ne rfl (fun h90 => (by exfalso; omega)) (fun h90 => ?_)
              refine st_goto rfl ?_
              refine st_iinc (ls' := [_, _, _, _, _, _, _, _, _, _, _, _, _, _]) rfl rfl (by omega) rfl ?_
              refine st_goto rfl ?_
              first
              | (rw [if_pos ⟨by omega, ⟨by omega, by omega, by omega⟩, by omega⟩, er] at ih; exact ih _ _)
              | (rw [if_neg (fun q => by have q1 := q.2.1.1; have q2 := q.2.1.2.1; have q3 := q.2.1.2.2; have q4 := q.2.2; omega)] at ih; exact ih _ _)
              | (exfalso; omega)
            · refine st_iconst rfl ?_
              refine st_goto rfl ?_
              refine st_istore (ls' := [_, _, _, _, _, _, _, _, _, _, _, _, _, _]) rfl (Nat.le_of_ble_eq_true rfl) rfl ?_
              refine st_iload rfl rfl ?_
              refine st_if_ne rfl (fun h90 => ?_) (fun h90 => (by exfalso; omega))
              refine st_iload_n rfl rfl ?_
              refine st_iconst rfl ?_
              refine st_iadd rfl (by omega) ?_
              refine st_iload_n rfl rfl ?_
              refine st_icmp_ne rfl (fun h96 => ?_) (fun h96 => ?_)
              · refine st_aload_n rfl rfl (by decide) ?_
                refine st_getR (kk := 20) rfl rfl rfl (pz_53_20 hP) rfl ?_
                refine st_sipush rfl ?_
                refine st_iload_n rfl rfl ?_
                refine st_iconst rfl ?_
                refine st_iadd rfl (by omega) ?_
                refine st_imul rfl (by omega) ?_
                refine st_iload rfl rfl ?_
                refine st_iadd rfl (by omega) ?_
                refine st_iaload rfl rfl (by omega) (by omega) ?_
                first
                | (have er : rest (i + (c : Int)) = 0 := by rw [hrE, if_pos (by omega), if_pos (by omega)])
                | (have er : rest (i + (c : Int)) = 100000 := by rw [hrE, if_pos (by omega), if_neg (by omega)])
                | (have er : rest (i + (c : Int)) = H 67 (481 * (k + 1) + (i + (c : Int))) := by rw [hrE, if_neg (by omega)])
                refine st_istore (ls' := [_, _, _, _, _, _, _, _, _, _, _, _, _, _]) rfl (Nat.le_of_ble_eq_true rfl) rfl ?_
                refine st_iload rfl rfl ?_
                refine st_iload rfl rfl ?_
                refine st_iadd rfl (by omega) ?_
                refine st_iload rfl rfl ?_
                refine st_icmp_ge rfl (fun h120 => ?_) (fun h120 => ?_)
                · refine st_iinc (ls' := [_, _, _, _, _, _, _, _, _, _, _, _, _, _]) rfl rfl (by omega) rfl ?_
                  refine st_goto rfl ?_
                  first
                  | (rw [if_pos ⟨by omega, ⟨by omega, by omega, by omega⟩, by omega⟩, er] at ih; exact ih _ _)
                  | (rw [if_neg (fun q => by have q1 := q.2.1.1; have q2 := q.2.1.2.1; have q3 := q.2.1.2.2; have q4 := q.2.2; omega)] at ih; exact ih _ _)
                  | (exfalso; omega)
                · refine st_iload rfl rfl ?_
                  refine st_iload rfl rfl ?_
                  refine st_iadd rfl (by omega) ?_
                  refine st_istore (ls' := [_, _, _, _, _, _, _, _, _, _, _, _, _, _]) rfl (Nat.le_of_ble_eq_true rfl) rfl ?_
                  refine st_iload rfl rfl ?_
                  refine st_istore (ls' := [_, _, _, _, _, _, _, _, _, _, _, _, _, _]) rfl (Nat.le_of_ble_eq_true rfl) rfl ?_
                  refine st_iinc (ls' := [_, _, _, _, _, _, _, _, _, _, _, _, _, _]) rfl rfl (by omega) rfl ?_
                  refine st_goto rfl ?_
                  first
                  | (rw [if_pos ⟨by omega, ⟨by omega, by omega, by omega⟩, by omega⟩, er] at ih; exact ih _ _)
                  | (rw [if_neg (fun q => by have q1 := q.2.1.1; have q2 := q.2.1.2.1; have q3 := q.2.1.2.2; have q4 := q.2.2; omega)] at ih; exact ih _ _)
                  | (exfalso; omega)
              · refine st_iload rfl rfl ?_
                refine st_aload_n rfl rfl (by decide) ?_
                refine st_getI (kk := 19) rfl rfl (by decide) rfl ?_
                rw [hn0]
                refine st_icmp_ne rfl (fun h100 => ?_) (fun h100 => ?_)
                · refine st_ldc rfl ?_
                  refine st_goto rfl ?_
                  first
                  | (have er : rest (i + (c : Int)) = 0 := by rw [hrE, if_pos (by omega), if_pos (by omega)])
                  | (have er : rest (i + (c : Int)) = 100000 := by rw [hrE, if_pos (by omega), if_neg (by omega)])
                  | (have er : rest (i + (c : Int)) = H 67 (481 * (k + 1) + (i + (c : Int))) := by rw [hrE, if_neg (by omega)])
                  refine st_istore (ls' := [_, _, _, _, _, _, _, _, _, _, _, _, _, _]) rfl (Nat.le_of_ble_eq_true rfl) rfl ?_
                  refine st_iload rfl rfl ?_
                  refine st_iload rfl rfl ?_
                  refine st_iadd rfl (by omega) ?_
                  refine st_iload rfl rfl ?_
                  refine st_icmp_ge rfl (fun h120 => ?_) (fun h120 => ?_)
                  · refine st_iinc (ls' := [_, _, _, _, _, _, _, _, _, _, _, _, _, _]) rfl rfl (by omega) rfl ?_
                    refine st_goto rfl ?_
                    first
                    | (rw [if_pos ⟨by omega, ⟨by omega, by omega, by omega⟩, by omega⟩, er] at ih; exact ih _ _)
                    | (rw [if_neg (fun q => by have q1 := q.2.1.1; have q2 := q.2.1.2.1; have q3 := q.2.1.2.2; have q4 := q.2.2; omega)] at ih; exact ih _ _)
                    | (exfalso; omega)
                  · refine st_iload rfl rfl ?_
                    refine st_iload rfl rfl ?_
                    refine st_iadd rfl (by omega) ?_
                    refine st_istore (ls' := [_, _, _, _, _, _, _, _, _, _, _, _, _, _]) rfl (Nat.le_of_ble_eq_true rfl) rfl ?_
                    refine st_iload rfl rfl ?_
                    refine st_istore (ls' := [_, _, _, _, _, _, _, _, _, _, _, _, _, _]) rfl (Nat.le_of_ble_eq_true rfl) rfl ?_
                    refine st_iinc (ls' := [_, _, _, _, _, _, _, _, _, _, _, _, _, _]) rfl rfl (by omega) rfl ?_
                    refine st_goto rfl ?_
                    first
                    | (rw [if_pos ⟨by omega, ⟨by omega, by omega, by omega⟩, by omega⟩, er] at ih; exact ih _ _)
                    | (rw [if_neg (fun q => by have q1 := q.2.1.1; have q2 := q.2.1.2.1; have q3 := q.2.1.2.2; have q4 := q.2.2; omega)] at ih; exact ih _ _)
                    | (exfalso; omega)
                · refine st_iconst rfl ?_
                  refine st_goto rfl ?_
                  first
                  | (have er : rest (i + (c : Int)) = 0 := by rw [hrE, if_pos (by omega), if_pos (by omega)])
                  | (have er : rest (i + (c : Int)) = 100000 := by rw [hrE, if_pos (by omega), if_neg (by omega)])
                  | (have er : rest (i + (c : Int)) = H 67 (481 * (k + 1) + (i + (c : Int))) := by rw [hrE, if_neg (by omega)])
                  refine st_istore (ls' := [_, _, _, _, _, _, _, _, _, _, _, _, _, _]) rfl (Nat.le_of_ble_eq_true rfl) rfl ?_
                  refine st_iload rfl rfl ?_
                  refine st_iload rfl rfl ?_
                  refine st_iadd rfl (by omega) ?_
                  refine st_iload rfl rfl ?_
                  refine st_icmp_ge rfl (fun h120 => ?_) (fun h120 => ?_)
                  · refine st_iinc (ls' := [_, _, _, _, _, _, _, _, _, _, _, _, _, _]) rfl rfl (by omega) rfl ?_
                    refine st_goto rfl ?_
                    first
                    | (rw [if_pos ⟨by omega, ⟨by omega, by omega, by omega⟩, by omega⟩, er] at ih; exact ih _ _)
                    | (rw [if_neg (fun q => by have q1 := q.2.1.1; have q2 := q.2.1.2.1; have q3 := q.2.1.2.2; have q4 := q.2.2; omega)] at ih; exact ih _ _)
                    | (exfalso; omega)
                  · refine st_iload rfl rfl ?_
                    refine st_iload rfl rfl ?_
                    refine st_iadd rfl (by omega) ?_
                    refine st_istore (ls' := [_, _, _, _, _, _, _, _, _, _, _, _, _, _]) rfl (Nat.le_of_ble_eq_true rfl) rfl ?_
                    refine st_iload rfl rfl ?_
                    refine st_istore (ls' := [_, _, _, _, _, _, _, _, _, _, _, _, _, _]) rfl (Nat.le_of_ble_eq_true rfl) rfl ?_
                    refine st_iinc (ls' := [_, _, _, _, _, _, _, _, _, _, _, _, _, _]) rfl rfl (by omega) rfl ?_
                    refine st_goto rfl ?_
                    first
                    | (rw [if_pos ⟨by omega, ⟨by omega, by omega, by omega⟩, by omega⟩, er] at ih; exact ih _ _)
                    | (rw [if_neg (fun q => by have q1 := q.2.1.1; have q2 := q.2.1.2.1; have q3 := q.2.1.2.2; have q4 := q.2.2; omega)] at ih; exact ih _ _)
                    | (exfalso; omega)
          · refine st_iload rfl rfl ?_
            refine st_iload rfl rfl ?_
            refine st_iload rfl rfl ?_
            refine st_imul rfl (by omega) ?_
            refine st_bipush rfl ?_
            refine st_idiv rfl (by omega) (by omega) (by omega) ?_
            refine st_icmp_lt rfl (fun h79 => ?_) (fun h79 => ?_)
            · refine st_iconst rfl ?_
              refine st_istore (ls' := [_, _, _, _, _, _, _, _, _, _, _, _, _, _]) rfl (Nat.le_of_ble_eq_true rfl) rfl ?_
              refine st_iload rfl rfl ?_
              refine st_if_ne rfl (fun h90 => (by exfalso; omega)) (fun h90 => ?_)
              refine st_goto rfl ?_
              refine st_iinc (ls' := [_, _, _, _, _, _, _, _, _, _, _, _, _, _]) rfl rfl (by omega) rfl ?_
              refine st_goto rfl ?_
              first
              | (rw [if_pos ⟨by omega, ⟨by omega, by omega, by omega⟩, by omega⟩, er] at ih; exact ih _ _)
              | (rw [if_neg (fun q => by have q1 := q.2.1.1; have q2 := q.2.1.2.1; have q3 := q.2.1.2.2; have q4 := q.2.2; omega)] at ih; exact ih _ _)
              | (exfalso; omega)
            · refine st_aload_n rfl rfl (by decide) ?_
              refine st_getR (kk := 18) rfl rfl rfl (pz_53_18 hP) rfl ?_
              refine st_iload rfl rfl ?_
              refine st_baload rfl rfl (Or.inr rfl) (by omega) (by omega) ?_
              refine st_if_eq rfl (fun h84 => ?_) (fun h84 => ?_)
              · refine st_iconst rfl ?_
                refine st_istore (ls' := [_, _, _, _, _, _, _, _, _, _, _, _, _, _]) rfl (Nat.le_of_ble_eq_true rfl) rfl ?_
                refine st_iload rfl rfl ?_
                refine st_if_ne rfl (fun h90 => (by exfalso; omega)) (fun h90 => ?_)
                refine st_goto rfl ?_
                refine st_iinc (ls' := [_, _, _, _, _, _, _, _, _, _, _, _, _, _]) rfl rfl (by omega) rfl ?_
                refine st_goto rfl ?_
                first
                | (rw [if_pos ⟨by omega, ⟨by omega, by omega, by omega⟩, by omega⟩, er] at ih; exact ih _ _)
                | (rw [if_neg (fun q => by have q1 := q.2.1.1; have q2 := q.2.1.2.1; have q3 := q.2.1.2.2; have q4 := q.2.2; omega)] at ih; exact ih _ _)
                | (exfalso; omega)
              · refine st_iconst rfl ?_
                refine st_goto rfl ?_
                refine st_istore (ls' := [_, _, _, _, _, _, _, _, _, _, _, _, _, _]) rfl (Nat.le_of_ble_eq_true rfl) rfl ?_
                refine st_iload rfl rfl ?_
                refine st_if_ne rfl (fun h90 => ?_) (fun h90 => (by exfalso; omega))
                refine st_iload_n rfl rfl ?_
                refine st_iconst rfl ?_
                refine st_iadd rfl (by omega) ?_
                refine st_iload_n rfl rfl ?_
                refine st_icmp_ne rfl (fun h96 => ?_) (fun h96 => ?_)
                · refine st_aload_n rfl rfl (by decide) ?_
                  refine st_getR (kk := 20) rfl rfl rfl (pz_53_20 hP) rfl ?_
                  refine st_sipush rfl ?_
                  refine st_iload_n rfl rfl ?_
                  refine st_iconst rfl ?_
                  refine st_iadd rfl (by omega) ?_
                  refine st_imul rfl (by omega) ?_
                  refine st_iload rfl rfl ?_
                  refine st_iadd rfl (by omega) ?_
                  refine st_iaload rfl rfl (by omega) (by omega) ?_
                  first
                  | (have er : rest (i + (c : Int)) = 0 := by rw [hrE, if_pos (by omega), if_pos (by omega)])
                  | (have er : rest (i + (c : Int)) = 100000 := by rw [hrE, if_pos (by omega), if_neg (by omega)])
                  | (have er : rest (i + (c : Int)) = H 67 (481 * (k + 1) + (i + (c : Int))) := by rw [hrE, if_neg (by omega)])
                  refine st_istore (ls' := [_, _, _, _, _, _, _, _, _, _, _, _, _, _]) rfl (Nat.le_of_ble_eq_true rfl) rfl ?_
                  refine st_iload rfl rfl ?_
                  refine st_iload rfl rfl ?_
                  refine st_iadd rfl (by omega) ?_
                  refine st_iload rfl rfl ?_
                  refine st_icmp_ge rfl (fun h120 => ?_) (fun h120 => ?_)
                  · refine st_iinc (ls' := [_, _, _, _, _, _, _, _, _, _, _, _, _, _]) rfl rfl (by omega) rfl ?_
                    refine st_goto rfl ?_
                    first
                    | (rw [if_pos ⟨by omega, ⟨by omega, by omega, by omega⟩, by omega⟩, er] at ih; exact ih _ _)
                    | (rw [if_neg (fun q => by have q1 := q.2.1.1; have q2 := q.2.1.2.1; have q3 := q.2.1.2.2; have q4 := q.2.2; omega)] at ih; exact ih _ _)
                    | (exfalso; omega)
                  · refine st_iload rfl rfl ?_
                    refine st_iload rfl rfl ?_
                    refine st_iadd rfl (by omega) ?_
                    refine st_istore (ls' := [_, _, _, _, _, _, _, _, _, _, _, _, _, _]) rfl (Nat.le_of_ble_eq_true rfl) rfl ?_
                    refine st_iload rfl rfl ?_
                    refine st_istore (ls' := [_, _, _, _, _, _, _, _, _, _, _, _, _, _]) rfl (Nat.le_of_ble_eq_true rfl) rfl ?_
                    refine st_iinc (ls' := [_, _, _, _, _, _, _, _, _, _, _, _, _, _]) rfl rfl (by omega) rfl ?_
                    refine st_goto rfl ?_
                    first
                    | (rw [if_pos ⟨by omega, ⟨by omega, by omega, by omega⟩, by omega⟩, er] at ih; exact ih _ _)
                    | (rw [if_neg (fun q => by have q1 := q.2.1.1; have q2 := q.2.1.2.1; have q3 := q.2.1.2.2; have q4 := q.2.2; omega)] at ih; exact ih _ _)
                    | (exfalso; omega)
                · refine st_iload rfl rfl ?_
                  refine st_aload_n rfl rfl (by decide) ?_
                  refine st_getI (kk := 19) rfl rfl (by decide) rfl ?_
                  rw [hn0]
                  refine st_icmp_ne rfl (fun h100 => ?_) (fun h100 => ?_)
                  · refine st_ldc rfl ?_
                    refine st_goto rfl ?_
                    first
                    | (have er : rest (i + (c : Int)) = 0 := by rw [hrE, if_pos (by omega), if_pos (by omega)])
                    | (have er : rest (i + (c : Int)) = 100000 := by rw [hrE, if_pos (by omega), if_neg (by omega)])
                    | (have er : rest (i + (c : Int)) = H 67 (481 * (k + 1) + (i + (c : Int))) := by rw [hrE, if_neg (by omega)])
                    refine st_istore (ls' := [_, _, _, _, _, _, _, _, _, _, _, _, _, _]) rfl (Nat.le_of_ble_eq_true rfl) rfl ?_
                    refine st_iload rfl rfl ?_
                    refine st_iload rfl rfl ?_
                    refine st_iadd rfl (by omega) ?_
                    refine st_iload rfl rfl ?_
                    refine st_icmp_ge rfl (fun h120 => ?_) (fun h120 => ?_)
                    · refine st_iinc (ls' := [_, _, _, _, _, _, _, _, _, _, _, _, _, _]) rfl rfl (by omega) rfl ?_
                      refine st_goto rfl ?_
                      first
                      | (rw [if_pos ⟨by omega, ⟨by omega, by omega, by omega⟩, by omega⟩, er] at ih; exact ih _ _)
                      | (rw [if_neg (fun q => by have q1 := q.2.1.1; have q2 := q.2.1.2.1; have q3 := q.2.1.2.2; have q4 := q.2.2; omega)] at ih; exact ih _ _)
                      | (exfalso; omega)
                    · refine st_iload rfl rfl ?_
                      refine st_iload rfl rfl ?_
                      refine st_iadd rfl (by omega) ?_
                      refine st_istore (ls' := [_, _, _, _, _, _, _, _, _, _, _, _, _, _]) rfl (Nat.le_of_ble_eq_true rfl) rfl ?_
                      refine st_iload rfl rfl ?_
                      refine st_istore (ls' := [_, _, _, _, _, _, _, _, _, _, _, _, _, _]) rfl (Nat.le_of_ble_eq_true rfl) rfl ?_
                      refine st_iinc (ls' := [_, _, _, _, _, _, _, _, _, _, _, _, _, _]) rfl rfl (by omega) rfl ?_
                      refine st_goto rfl ?_
                      first
                      | (rw [if_pos ⟨by omega, ⟨by omega, by omega, by omega⟩, by omega⟩, er] at ih; exact ih _ _)
                      | (rw [if_neg (fun q => by have q1 := q.2.1.1; have q2 := q.2.1.2.1; have q3 := q.2.1.2.2; have q4 := q.2.2; omega)] at ih; exact ih _ _)
                      | (exfalso; omega)
                  · refine st_iconst rfl ?_
                    refine st_goto rfl ?_
                    first
                    | (have er : rest (i + (c : Int)) = 0 := by rw [hrE, if_pos (by omega), if_pos (by omega)])
                    | (have er : rest (i + (c : Int)) = 100000 := by rw [hrE, if_pos (by omega), if_neg (by omega)])
                    | (have er : rest (i + (c : Int)) = H 67 (481 * (k + 1) + (i + (c : Int))) := by rw [hrE, if_neg (by omega)])
                    refine st_istore (ls' := [_, _, _, _, _, _, _, _, _, _, _, _, _, _]) rfl (Nat.le_of_ble_eq_true rfl) rfl ?_
                    refine st_iload rfl rfl ?_
                    refine st_iload rfl rfl ?_
                    refine st_iadd rfl (by omega) ?_
                    refine st_iload rfl rfl ?_
                    refine st_icmp_ge rfl (fun h120 => ?_) (fun h120 => ?_)
                    · refine st_iinc (ls' := [_, _, _, _, _, _, _, _, _, _, _, _, _, _]) rfl rfl (by omega) rfl ?_
                      refine st_goto rfl ?_
                      first
                      | (rw [if_pos ⟨by omega, ⟨by omega, by omega, by omega⟩, by omega⟩, er] at ih; exact ih _ _)
                      | (rw [if_neg (fun q => by have q1 := q.2.1.1; have q2 := q.2.1.2.1; have q3 := q.2.1.2.2; have q4 := q.2.2; omega)] at ih; exact ih _ _)
                      | (exfalso; omega)
                    · refine st_iload rfl rfl ?_
                      refine st_iload rfl rfl ?_
                      refine st_iadd rfl (by omega) ?_
                      refine st_istore (ls' := [_, _, _, _, _, _, _, _, _, _, _, _, _, _]) rfl (Nat.le_of_ble_eq_true rfl) rfl ?_
                      refine st_iload rfl rfl ?_
                      refine st_istore (ls' := [_, _, _, _, _, _, _, _, _, _, _, _, _, _]) rfl (Nat.le_of_ble_eq_true rfl) rfl ?_
                      refine st_iinc (ls' := [_, _, _, _, _, _, _, _, _, _, _, _, _, _]) rfl rfl (by omega) rfl ?_
                      refine st_goto rfl ?_
                      first
                      | (rw [if_pos ⟨by omega, ⟨by omega, by omega, by omega⟩, by omega⟩, er] at ih; exact ih _ _)
                      | (rw [if_neg (fun q => by have q1 := q.2.1.1; have q2 := q.2.1.2.1; have q3 := q.2.1.2.2; have q4 := q.2.2; omega)] at ih; exact ih _ _)
                      | (exfalso; omega)
      · refine st_iconst rfl ?_
        refine st_goto rfl ?_
        refine st_iadd rfl (by omega) ?_
        refine st_istore (ls' := [_, _, _, _, _, _, _, _, _, _, _, _, _, _]) rfl (Nat.le_of_ble_eq_true rfl) rfl ?_
        first
        | (have hz : c - 1 = c := by omega
           rw [hz])
        | (have hz1 : smF (itW (H 54) (H 64)) i (c - 1) + widF (H 54) (H 64 (i + (c : Int) - 1)) = smF (itW (H 54) (H 64)) i c := by
             obtain ⟨c', rfl⟩ : ∃ c', c = c' + 1 := ⟨c - 1, by omega⟩
             simp only [smF, Nat.add_sub_cancel]
             rw [show i + ((c' + 1 : Nat) : Int) - 1 = i + (c' : Int) by omega]
           rw [hz1]
           have hz2 : chF (H 65) k i (c - 1) + 1 = chF (H 65) k i c := by
             obtain ⟨c', rfl⟩ : ∃ c', c = c' + 1 := ⟨c - 1, by omega⟩
             rw [show i + ((c' + 1 : Nat) : Int) - 1 = i + (c' : Int) by omega] at h53
             simp only [chF, Nat.add_sub_cancel]
             rw [if_neg h53]
           rw [hz2])
        | (have hz1 : smF (itW (H 54) (H 64)) i (c - 1) + widF (H 54) (H 64 (i + (c : Int) - 1)) = smF (itW (H 54) (H 64)) i c := by
             obtain ⟨c', rfl⟩ : ∃ c', c = c' + 1 := ⟨c - 1, by omega⟩
             simp only [smF, Nat.add_sub_cancel]
             rw [show i + ((c' + 1 : Nat) : Int) - 1 = i + (c' : Int) by omega]
           rw [hz1]
           have hz2 : chF (H 65) k i (c - 1) + 0 = chF (H 65) k i c := by
             obtain ⟨c', rfl⟩ : ∃ c', c = c' + 1 := ⟨c - 1, by omega⟩
             rw [show i + ((c' + 1 : Nat) : Int) - 1 = i + (c' : Int) by omega] at h53
             simp only [chF, Nat.add_sub_cancel]
             rw [if_pos h53]
           rw [hz2])
        refine st_iload rfl rfl ?_
        refine st_iload rfl rfl ?_
        refine st_iload rfl rfl ?_
        refine st_imul rfl (by omega) ?_
        refine st_bipush rfl ?_
        refine st_idiv rfl (by omega) (by omega) (by omega) ?_
        refine st_icmp_gt rfl (fun h65 => ?_) (fun h65 => ?_)
        · refine st_iconst rfl ?_
          refine st_istore (ls' := [_, _, _, _, _, _, _, _, _, _, _, _, _, _]) rfl (Nat.le_of_ble_eq_true rfl) rfl ?_
          refine st_iload rfl rfl ?_
          refine st_if_ne rfl (fun h90 => (by exfalso; omega)) (fun h90 => ?_)
          refine st_goto rfl ?_
          refine st_iinc (ls' := [_, _, _, _, _, _, _, _, _, _, _, _, _, _]) rfl rfl (by omega) rfl ?_
          refine st_goto rfl ?_
          first
          | (rw [if_pos ⟨by omega, ⟨by omega, by omega, by omega⟩, by omega⟩, er] at ih; exact ih _ _)
          | (rw [if_neg (fun q => by have q1 := q.2.1.1; have q2 := q.2.1.2.1; have q3 := q.2.1.2.2; have q4 := q.2.2; omega)] at ih; exact ih _ _)
          | (exfalso; omega)
        · refine st_iload rfl rfl ?_
          refine st_iload_n rfl rfl ?_
          refine st_icmp_eq rfl (fun h68 => (by exfalso; omega)) (fun h68 => ?_)
          refine st_iload rfl rfl ?_
          refine st_aload_n rfl rfl (by decide) ?_
          refine st_getI (kk := 19) rfl rfl (by decide) rfl ?_
          rw [hn0]
          refine st_icmp_eq rfl (fun h72 => ?_) (fun h72 => ?_)
          · refine st_aload_n rfl rfl (by decide) ?_
            refine st_getR (kk := 18) rfl rfl rfl (pz_53_18 hP) rfl ?_
            refine st_iload rfl rfl ?_
            refine st_baload rfl rfl (Or.inr rfl) (by omega) (by omega) ?_
            refine st_if_eq rfl (fun h84 => ?_) (fun h84 => ?_)
            · refine st_iconst rfl ?_
              refine st_istore (ls' := [_, _, _, _, _, _, _, _, _, _, _, _, _, _]) rfl (Nat.le_of_ble_eq_true rfl) rfl ?_
              refine st_iload rfl rfl ?_
              refine st_if_ne rfl (fun h90 => (by exfalso; omega)) (fun h90 => ?_)
              refine st_goto rfl ?_
              refine st_iinc (ls' := [_, _, _, _, _, _, _, _, _, _, _, _, _, _]) rfl rfl (by omega) rfl ?_
              refine st_goto rfl ?_
              first
              | (rw [if_pos ⟨by omega, ⟨by omega, by omega, by omega⟩, by omega⟩, er] at ih; exact ih _ _)
              | (rw [if_neg (fun q => by have q1 := q.2.1.1; have q2 := q.2.1.2.1; have q3 := q.2.1.2.2; have q4 := q.2.2; omega)] at ih; exact ih _ _)
              | (exfalso; omega)
            · refine st_iconst rfl ?_
              refine st_goto rfl ?_
              refine st_istore (ls' := [_, _, _, _, _, _, _, _, _, _, _, _, _, _]) rfl (Nat.le_of_ble_eq_true rfl) rfl ?_
              refine st_iload rfl rfl ?_
              refine st_if_ne rfl (fun h90 => ?_) (fun h90 => (by exfalso; omega))
              refine st_iload_n rfl rfl ?_
              refine st_iconst rfl ?_
              refine st_iadd rfl (by omega) ?_
              refine st_iload_n rfl rfl ?_
              refine st_icmp_ne rfl (fun h96 => ?_) (fun h96 => ?_)
              · refine st_aload_n rfl rfl (by decide) ?_
                refine st_getR (kk := 20) rfl rfl rfl (pz_53_20 hP) rfl ?_
                refine st_sipush rfl ?_
                refine st_iload_n rfl rfl ?_
                refine st_iconst rfl ?_
                refine st_iadd rfl (by omega) ?_
                refine st_imul rfl (by omega) ?_
                refine st_iload rfl rfl ?_
                refine st_iadd rfl (by omega) ?_
                refine st_iaload rfl rfl (by omega) (by omega) ?_
                first
                | (have er : rest (i + (c : Int)) = 0 := by rw [hrE, if_pos (by omega), if_pos (by omega)])
                | (have er : rest (i + (c : Int)) = 100000 := by rw [hrE, if_pos (by omega), if_neg (by omega)])
                | (have er : rest (i + (c : Int)) = H 67 (481 * (k + 1) + (i + (c : Int))) := by rw [hrE, if_neg (by omega)])
                refine st_istore (ls' := [_, _, _, _, _, _, _, _, _, _, _, _, _, _]) rfl (Nat.le_of_ble_eq_true rfl) rfl ?_
                refine st_iload rfl rfl ?_
                refine st_iload rfl rfl ?_
                refine st_iadd rfl (by omega) ?_
                refine st_iload rfl rfl ?_
                refine st_icmp_ge rfl (fun h120 => ?_) (fun h120 => ?_)
                · refine st_iinc (ls' := [_, _, _, _, _, _, _, _, _, _, _, _, _, _]) rfl rfl (by omega) rfl ?_
                  refine st_goto rfl ?_
                  first
                  | (rw [if_pos ⟨by omega, ⟨by omega, by omega, by omega⟩, by omega⟩, er] at ih; exact ih _ _)
                  | (rw [if_neg (fun q => by have q1 := q.2.1.1; have q2 := q.2.1.2.1; have q3 := q.2.1.2.2; have q4 := q.2.2; omega)] at ih; exact ih _ _)
                  | (exfalso; omega)
                · refine st_iload rfl rfl ?_
                  refine st_iload rfl rfl ?_
                  refine st_iadd rfl (by omega) ?_
                  refine st_istore (ls' := [_, _, _, _, _, _, _, _, _, _, _, _, _, _]) rfl (Nat.le_of_ble_eq_true rfl) rfl ?_
                  refine st_iload rfl rfl ?_
                  refine st_istore (ls' := [_, _, _, _, _, _, _, _, _, _, _, _, _, _]) rfl (Nat.le_of_ble_eq_true rfl) rfl ?_
                  refine st_iinc (ls' := [_, _, _, _, _, _, _, _, _, _, _, _, _, _]) rfl rfl (by omega) rfl ?_
                  refine st_goto rfl ?_
                  first
                  | (rw [if_pos ⟨by omega, ⟨by omega, by omega, by omega⟩, by omega⟩, er] at ih; exact ih _ _)
                  | (rw [if_neg (fun q => by have q1 := q.2.1.1; have q2 := q.2.1.2.1; have q3 := q.2.1.2.2; have q4 := q.2.2; omega)] at ih; exact ih _ _)
                  | (exfalso; omega)
              · refine st_iload rfl rfl ?_
                refine st_aload_n rfl rfl (by decide) ?_
                refine st_getI (kk := 19) rfl rfl (by decide) rfl ?_
                rw [hn0]
                refine st_icmp_ne rfl (fun h100 => ?_) (fun h100 => ?_)
                · refine st_ldc rfl ?_
                  refine st_goto rfl ?_
                  first
                  | (have er : rest (i + (c : Int)) = 0 := by rw [hrE, if_pos (by omega), if_pos (by omega)])
                  | (have er : rest (i + (c : Int)) = 100000 := by rw [hrE, if_pos (by omega), if_neg (by omega)])
                  | (have er : rest (i + (c : Int)) = H 67 (481 * (k + 1) + (i + (c : Int))) := by rw [hrE, if_neg (by omega)])
                  refine st_istore (ls' := [_, _, _, _, _, _, _, _, _, _, _, _, _, _]) rfl (Nat.le_of_ble_eq_true rfl) rfl ?_
                  refine st_iload rfl rfl ?_
                  refine st_iload rfl rfl ?_
                  refine st_iadd rfl (by omega) ?_
                  refine st_iload rfl rfl ?_
                  refine st_icmp_ge rfl (fun h120 => ?_) (fun h120 => ?_)
                  · refine st_iinc (ls' := [_, _, _, _, _, _, _, _, _, _, _, _, _, _]) rfl rfl (by omega) rfl ?_
                    refine st_goto rfl ?_
                    first
                    | (rw [if_pos ⟨by omega, ⟨by omega, by omega, by omega⟩, by omega⟩, er] at ih; exact ih _ _)
                    | (rw [if_neg (fun q => by have q1 := q.2.1.1; have q2 := q.2.1.2.1; have q3 := q.2.1.2.2; have q4 := q.2.2; omega)] at ih; exact ih _ _)
                    | (exfalso; omega)
                  · refine st_iload rfl rfl ?_
                    refine st_iload rfl rfl ?_
                    refine st_iadd rfl (by omega) ?_
                    refine st_istore (ls' := [_, _, _, _, _, _, _, _, _, _, _, _, _, _]) rfl (Nat.le_of_ble_eq_true rfl) rfl ?_
                    refine st_iload rfl rfl ?_
                    refine st_istore (ls' := [_, _, _, _, _, _, _, _, _, _, _, _, _, _]) rfl (Nat.le_of_ble_eq_true rfl) rfl ?_
                    refine st_iinc (ls' := [_, _, _, _, _, _, _, _, _, _, _, _, _, _]) rfl rfl (by omega) rfl ?_
                    refine st_goto rfl ?_
                    first
                    | (rw [if_pos ⟨by omega, ⟨by omega, by omega, by omega⟩, by omega⟩, er] at ih; exact ih _ _)
                    | (rw [if_neg (fun q => by have q1 := q.2.1.1; have q2 := q.2.1.2.1; have q3 := q.2.1.2.2; have q4 := q.2.2; omega)] at ih; exact ih _ _)
                    | (exfalso; omega)
                · refine st_iconst rfl ?_
                  refine st_goto rfl ?_
                  first
                  | (have er : rest (i + (c : Int)) = 0 := by rw [hrE, if_pos (by omega), if_pos (by omega)])
                  | (have er : rest (i + (c : Int)) = 100000 := by rw [hrE, if_pos (by omega), if_neg (by omega)])
                  | (have er : rest (i + (c : Int)) = H 67 (481 * (k + 1) + (i + (c : Int))) := by rw [hrE, if_neg (by omega)])
                  refine st_istore (ls' := [_, _, _, _, _, _, _, _, _, _, _, _, _, _]) rfl (Nat.le_of_ble_eq_true rfl) rfl ?_
                  refine st_iload rfl rfl ?_
                  refine st_iload rfl rfl ?_
                  refine st_iadd rfl (by omega) ?_
                  refine st_iload rfl rfl ?_
                  refine st_icmp_ge rfl (fun h120 => ?_) (fun h120 => ?_)
                  · refine st_iinc (ls' := [_, _, _, _, _, _, _, _, _, _, _, _, _, _]) rfl rfl (by omega) rfl ?_
                    refine st_goto rfl ?_
                    first
                    | (rw [if_pos ⟨by omega, ⟨by omega, by omega, by omega⟩, by omega⟩, er] at ih; exact ih _ _)
                    | (rw [if_neg (fun q => by have q1 := q.2.1.1; have q2 := q.2.1.2.1; have q3 := q.2.1.2.2; have q4 := q.2.2; omega)] at ih; exact ih _ _)
                    | (exfalso; omega)
                  · refine st_iload rfl rfl ?_
                    refine st_iload rfl rfl ?_
                    refine st_iadd rfl (by omega) ?_
                    refine st_istore (ls' := [_, _, _, _, _, _, _, _, _, _, _, _, _, _]) rfl (Nat.le_of_ble_eq_true rfl) rfl ?_
                    refine st_iload rfl rfl ?_
                    refine st_istore (ls' := [_, _, _, _, _, _, _, _, _, _, _, _, _, _]) rfl (Nat.le_of_ble_eq_true rfl) rfl ?_
                    refine st_iinc (ls' := [_, _, _, _, _, _, _, _, _, _, _, _, _, _]) rfl rfl (by omega) rfl ?_
                    refine st_goto rfl ?_
                    first
                    | (rw [if_pos ⟨by omega, ⟨by omega, by omega, by omega⟩, by omega⟩, er] at ih; exact ih _ _)
                    | (rw [if_neg (fun q => by have q1 := q.2.1.1; have q2 := q.2.1.2.1; have q3 := q.2.1.2.2; have q4 := q.2.2; omega)] at ih; exact ih _ _)
                    | (exfalso; omega)
          · refine st_iload rfl rfl ?_
            refine st_iload rfl rfl ?_
            refine st_iload rfl rfl ?_
            refine st_imul rfl (by omega) ?_
            refine st_bipush rfl ?_
            refine st_idiv rfl (by omega) (by omega) (by omega) ?_
            refine st_icmp_lt rfl (fun h79 => ?_) (fun h79 => ?_)
            · refine st_iconst rfl ?_
              refine st_istore (ls' := [_, _, _, _, _, _, _, _, _, _, _, _, _, _]) rfl (Nat.le_of_ble_eq_true rfl) rfl ?_
              refine st_iload rfl rfl ?_
              refine st_if_ne rfl (fun h90 => (by exfalso; omega)) (fun h90 => ?_)
              refine st_goto rfl ?_
              refine st_iinc (ls' := [_, _, _, _, _, _, _, _, _, _, _, _, _, _]) rfl rfl (by omega) rfl ?_
              refine st_goto rfl ?_
              first
              | (rw [if_pos ⟨by omega, ⟨by omega, by omega, by omega⟩, by omega⟩, er] at ih; exact ih _ _)
              | (rw [if_neg (fun q => by have q1 := q.2.1.1; have q2 := q.2.1.2.1; have q3 := q.2.1.2.2; have q4 := q.2.2; omega)] at ih; exact ih _ _)
              | (exfalso; omega)
            · refine st_aload_n rfl rfl (by decide) ?_
              refine st_getR (kk := 18) rfl rfl rfl (pz_53_18 hP) rfl ?_
              refine st_iload rfl rfl ?_
              refine st_baload rfl rfl (Or.inr rfl) (by omega) (by omega) ?_
              refine st_if_eq rfl (fun h84 => ?_) (fun h84 => ?_)
              · refine st_iconst rfl ?_
                refine st_istore (ls' := [_, _, _, _, _, _, _, _, _, _, _, _, _, _]) rfl (Nat.le_of_ble_eq_true rfl) rfl ?_
                refine st_iload rfl rfl ?_
                refine st_if_ne rfl (fun h90 => (by exfalso; omega)) (fun h90 => ?_)
                refine st_goto rfl ?_
                refine st_iinc (ls' := [_, _, _, _, _, _, _, _, _, _, _, _, _, _]) rfl rfl (by omega) rfl ?_
                refine st_goto rfl ?_
                first
                | (rw [if_pos ⟨by omega, ⟨by omega, by omega, by omega⟩, by omega⟩, er] at ih; exact ih _ _)
                | (rw [if_neg (fun q => by have q1 := q.2.1.1; have q2 := q.2.1.2.1; have q3 := q.2.1.2.2; have q4 := q.2.2; omega)] at ih; exact ih _ _)
                | (exfalso; omega)
              · refine st_iconst rfl ?_
                refine st_goto rfl ?_
                refine st_istore (ls' := [_, _, _, _, _, _, _, _, _, _, _, _, _, _]) rfl (Nat.le_of_ble_eq_true rfl) rfl ?_
                refine st_iload rfl rfl ?_
                refine st_if_ne rfl (fun h90 => ?_) (fun h90 => (by exfalso; omega))
                refine st_iload_n rfl rfl ?_
                refine st_iconst rfl ?_
                refine st_iadd rfl (by omega) ?_
                refine st_iload_n rfl rfl ?_
                refine st_icmp_ne rfl (fun h96 => ?_) (fun h96 => ?_)
                · refine st_aload_n rfl rfl (by decide) ?_
                  refine st_getR (kk := 20) rfl rfl rfl (pz_53_20 hP) rfl ?_
                  refine st_sipush rfl ?_
                  refine st_iload_n rfl rfl ?_
                  refine st_iconst rfl ?_
                  refine st_iadd rfl (by omega) ?_
                  refine st_imul rfl (by omega) ?_
                  refine st_iload rfl rfl ?_
                  refine st_iadd rfl (by omega) ?_
                  refine st_iaload rfl rfl (by omega) (by omega) ?_
                  first
                  | (have er : rest (i + (c : Int)) = 0 := by rw [hrE, if_pos (by omega), if_pos (by omega)])
                  | (have er : rest (i + (c : Int)) = 100000 := by rw [hrE, if_pos (by omega), if_neg (by omega)])
                  | (have er : rest (i + (c : Int)) = H 67 (481 * (k + 1) + (i + (c : Int))) := by rw [hrE, if_neg (by omega)])
                  refine st_istore (ls' := [_, _, _, _, _, _, _, _, _, _, _, _, _, _]) rfl (Nat.le_of_ble_eq_true rfl) rfl ?_
                  refine st_iload rfl rfl ?_
                  refine st_iload rfl rfl ?_
                  refine st_iadd rfl (by omega) ?_
                  refine st_iload rfl rfl ?_
                  refine st_icmp_ge rfl (fun h120 => ?_) (fun h120 => ?_)
                  · refine st_iinc (ls' := [_, _, _, _, _, _, _, _, _, _, _, _, _, _]) rfl rfl (by omega) rfl ?_
                    refine st_goto rfl ?_
                    first
                    | (rw [if_pos ⟨by omega, ⟨by omega, by omega, by omega⟩, by omega⟩, er] at ih; exact ih _ _)
                    | (rw [if_neg (fun q => by have q1 := q.2.1.1; have q2 := q.2.1.2.1; have q3 := q.2.1.2.2; have q4 := q.2.2; omega)] at ih; exact ih _ _)
                    | (exfalso; omega)
                  · refine st_iload rfl rfl ?_
                    refine st_iload rfl rfl ?_
                    refine st_iadd rfl (by omega) ?_
                    refine st_istore (ls' := [_, _, _, _, _, _, _, _, _, _, _, _, _, _]) rfl (Nat.le_of_ble_eq_true rfl) rfl ?_
                    refine st_iload rfl rfl ?_
                    refine st_istore (ls' := [_, _, _, _, _, _, _, _, _, _, _, _, _, _]) rfl (Nat.le_of_ble_eq_true rfl) rfl ?_
                    refine st_iinc (ls' := [_, _, _, _, _, _, _, _, _, _, _, _, _, _]) rfl rfl (by omega) rfl ?_
                    refine st_goto rfl ?_
                    first
                    | (rw [if_pos ⟨by omega, ⟨by omega, by omega, by omega⟩, by omega⟩, er] at ih; exact ih _ _)
                    | (rw [if_neg (fun q => by have q1 := q.2.1.1; have q2 := q.2.1.2.1; have q3 := q.2.1.2.2; have q4 := q.2.2; omega)] at ih; exact ih _ _)
                    | (exfalso; omega)
                · refine st_iload rfl rfl ?_
                  refine st_aload_n rfl rfl (by decide) ?_
                  refine st_getI (kk := 19) rfl rfl (by decide) rfl ?_
                  rw [hn0]
                  refine st_icmp_ne rfl (fun h100 => ?_) (fun h100 => ?_)
                  · refine st_ldc rfl ?_
                    refine st_goto rfl ?_
                    first
                    | (have er : rest (i + (c : Int)) = 0 := by rw [hrE, if_pos (by omega), if_pos (by omega)])
                    | (have er : rest (i + (c : Int)) = 100000 := by rw [hrE, if_pos (by omega), if_neg (by omega)])
                    | (have er : rest (i + (c : Int)) = H 67 (481 * (k + 1) + (i + (c : Int))) := by rw [hrE, if_neg (by omega)])
                    refine st_istore (ls' := [_, _, _, _, _, _, _, _, _, _, _, _, _, _]) rfl (Nat.le_of_ble_eq_true rfl) rfl ?_
                    refine st_iload rfl rfl ?_
                    refine st_iload rfl rfl ?_
                    refine st_iadd rfl (by omega) ?_
                    refine st_iload rfl rfl ?_
                    refine st_icmp_ge rfl (fun h120 => ?_) (fun h120 => ?_)
                    · refine st_iinc (ls' := [_, _, _, _, _, _, _, _, _, _, _, _, _, _]) rfl rfl (by omega) rfl ?_
                      refine st_goto rfl ?_
                      first
                      | (rw [if_pos ⟨by omega, ⟨by omega, by omega, by omega⟩, by omega⟩, er] at ih; exact ih _ _)
                      | (rw [if_neg (fun q => by have q1 := q.2.1.1; have q2 := q.2.1.2.1; have q3 := q.2.1.2.2; have q4 := q.2.2; omega)] at ih; exact ih _ _)
                      | (exfalso; omega)
                    · refine st_iload rfl rfl ?_
                      refine st_iload rfl rfl ?_
                      refine st_iadd rfl (by omega) ?_
                      refine st_istore (ls' := [_, _, _, _, _, _, _, _, _, _, _, _, _, _]) rfl (Nat.le_of_ble_eq_true rfl) rfl ?_
                      refine st_iload rfl rfl ?_
                      refine st_istore (ls' := [_, _, _, _, _, _, _, _, _, _, _, _, _, _]) rfl (Nat.le_of_ble_eq_true rfl) rfl ?_
                      refine st_iinc (ls' := [_, _, _, _, _, _, _, _, _, _, _, _, _, _]) rfl rfl (by omega) rfl ?_
                      refine st_goto rfl ?_
                      first
                      | (rw [if_pos ⟨by omega, ⟨by omega, by omega, by omega⟩, by omega⟩, er] at ih; exact ih _ _)
                      | (rw [if_neg (fun q => by have q1 := q.2.1.1; have q2 := q.2.1.2.1; have q3 := q.2.1.2.2; have q4 := q.2.2; omega)] at ih; exact ih _ _)
                      | (exfalso; omega)
                  · refine st_iconst rfl ?_
                    refine st_goto rfl ?_
                    first
                    | (have er : rest (i + (c : Int)) = 0 := by rw [hrE, if_pos (by omega), if_pos (by omega)])
                    | (have er : rest (i + (c : Int)) = 100000 := by rw [hrE, if_pos (by omega), if_neg (by omega)])
                    | (have er : rest (i + (c : Int)) = H 67 (481 * (k + 1) + (i + (c : Int))) := by rw [hrE, if_neg (by omega)])
                    refine st_istore (ls' := [_, _, _, _, _, _, _, _, _, _, _, _, _, _]) rfl (Nat.le_of_ble_eq_true rfl) rfl ?_
                    refine st_iload rfl rfl ?_
                    refine st_iload rfl rfl ?_
                    refine st_iadd rfl (by omega) ?_
                    refine st_iload rfl rfl ?_
                    refine st_icmp_ge rfl (fun h120 => ?_) (fun h120 => ?_)
                    · refine st_iinc (ls' := [_, _, _, _, _, _, _, _, _, _, _, _, _, _]) rfl rfl (by omega) rfl ?_
                      refine st_goto rfl ?_
                      first
                      | (rw [if_pos ⟨by omega, ⟨by omega, by omega, by omega⟩, by omega⟩, er] at ih; exact ih _ _)
                      | (rw [if_neg (fun q => by have q1 := q.2.1.1; have q2 := q.2.1.2.1; have q3 := q.2.1.2.2; have q4 := q.2.2; omega)] at ih; exact ih _ _)
                      | (exfalso; omega)
                    · refine st_iload rfl rfl ?_
                      refine st_iload rfl rfl ?_
                      refine st_iadd rfl (by omega) ?_
                      refine st_istore (ls' := [_, _, _, _, _, _, _, _, _, _, _, _, _, _]) rfl (Nat.le_of_ble_eq_true rfl) rfl ?_
                      refine st_iload rfl rfl ?_
                      refine st_istore (ls' := [_, _, _, _, _, _, _, _, _, _, _, _, _, _]) rfl (Nat.le_of_ble_eq_true rfl) rfl ?_
                      refine st_iinc (ls' := [_, _, _, _, _, _, _, _, _, _, _, _, _, _]) rfl rfl (by omega) rfl ?_
                      refine st_goto rfl ?_
                      first
                      | (rw [if_pos ⟨by omega, ⟨by omega, by omega, by omega⟩, by omega⟩, er] at ih; exact ih _ _)
                      | (rw [if_neg (fun q => by have q1 := q.2.1.1; have q2 := q.2.1.2.1; have q3 := q.2.1.2.2; have q4 := q.2.2; omega)] at ih; exact ih _ _)
                      | (exfalso; omega)
