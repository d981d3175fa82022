/-! ===== the reference: which are right ===== -/
theorem am_up2a {α : Type} {H : Nat → Int → α} {o1 o2 : Nat} {T R : Int → α} {i : Int} {v : α} (h : o1 ≠ o2) : am_up (am_so (am_so H o1 T) o2 R) o1 i v = am_so (am_so H o1 (am_uf T i v)) o2 R := by
  unfold am_up
  rw [am_so_ne _ _ h, am_so_at]
  funext o
  by_cases ho : o = o1
  · subst ho
    rw [am_so_at, am_so_ne _ _ h, am_so_at]
  · rw [am_so_ne _ _ ho]
    by_cases ho2 : o = o2
    · subst ho2; rw [am_so_at, am_so_at]
    · rw [am_so_ne _ _ ho2, am_so_ne _ _ ho2, am_so_ne _ _ ho, am_so_ne _ _ ho]
theorem am_up2b {α : Type} {H : Nat → Int → α} {o1 o2 : Nat} {T R : Int → α} {i : Int} {v : α} : am_up (am_so (am_so H o1 T) o2 R) o2 i v = am_so (am_so H o1 T) o2 (am_uf R i v) := by
  unfold am_up
  rw [am_so_at, am_so_so]

def seeF (a : Int → Int) (k : Int) : Int := a (5 + 2 + k)
def manF (a : Int → Int) : Int := if a 5 < 0 then 0 else a 6
def folF (a : Int → Int) (i k : Int) : Int := cmpF a (seeF a i) (seeF a k) (a 0)
/-- the longest row from place i, with m places behind it looked at -/
def lgI (a : Int → Int) (T : Int → Int) (i : Int) : Nat → Int
  | 0 => 1
  | m + 1 => if folF a i (i + 1 + (m : Int)) ≤ 0 ∧ lgI a T i m ≤ T (i + 1 + (m : Int)) then T (i + 1 + (m : Int)) + 1 else lgI a T i m
/-- the table of the longest rows, the last r places done -/
def lgT (a : Int → Int) (T0 : Int → Int) (n : Int) : Nat → Int → Int
  | 0 => T0
  | r + 1 => am_uf (lgT a T0 n r) (n - 1 - (r : Int)) (lgI a (lgT a T0 n r) (n - 1 - (r : Int)) r)
def bsT (a : Int → Int) (T0 : Int → Int) (n : Int) : Nat → Int
  | 0 => 0
  | r + 1 => if bsT a T0 n r < lgT a T0 n (r + 1) (n - 1 - (r : Int)) then lgT a T0 n (r + 1) (n - 1 - (r : Int)) else bsT a T0 n r
def zrT (R0 : Int → Int) (n : Int) : Nat → Int → Int
  | 0 => R0
  | r + 1 => am_uf (zrT R0 n r) (n - 1 - (r : Int)) 0
/-- (wants, last, right) behind j places -/
def rgS (a : Int → Int) (T R : Int → Int) (b : Int) : Nat → Int × Int × (Int → Int)
  | 0 => (b, -1, R)
  | j + 1 => if (rgS a T R b j).1 = 0 ∨ T (j : Int) ≠ (rgS a T R b j).1 ∨ (0 ≤ (rgS a T R b j).2.1 ∧ 0 < folF a (rgS a T R b j).2.1 (j : Int)) then rgS a T R b j
    else ((rgS a T R b j).1 - 1, (j : Int), am_uf (rgS a T R b j).2.2 (j : Int) 1)
theorem lgI_r {a T : Int → Int} {i B : Int} (hB : 0 ≤ B) : ∀ m : Nat, (∀ k : Nat, k < m → 0 ≤ T (i + 1 + (k : Int)) ∧ T (i + 1 + (k : Int)) ≤ B) → 1 ≤ lgI a T i m ∧ lgI a T i m ≤ B + 1
  | 0, _ => by simp only [lgI]; omega
  | m + 1, h => by
    have ih := lgI_r (a := a) (T := T) (i := i) hB m (fun k hk => h k (by omega))
    have := h m (by omega)
    simp only [lgI]
    split <;> omega
theorem lgT_r {a T0 : Int → Int} {n : Int} : ∀ r : Nat, (r : Int) ≤ n → ∀ k : Int, n - r ≤ k → k < n → 1 ≤ lgT a T0 n r k ∧ lgT a T0 n r k ≤ n - k
  | 0, _, k, h1, h2 => by omega
  | r + 1, h, k, h1, h2 => by
    have ih := lgT_r (a := a) (T0 := T0) (n := n) r (by omega)
    simp only [lgT]
    by_cases hk : k = n - 1 - (r : Int)
    · subst hk
      rw [am_uf_eq]
      have := lgI_r (a := a) (T := lgT a T0 n r) (i := n - 1 - (r : Int)) (B := (r : Int)) (by omega) r (fun q hq => by
        have := ih (n - 1 - (r : Int) + 1 + (q : Int)) (by omega) (by omega)
        omega)
      omega
    · rw [am_uf_ne _ _ hk]
      exact ih k (by omega) h2
theorem bsT_r {a T0 : Int → Int} {n : Int} : ∀ r : Nat, (r : Int) ≤ n → 0 ≤ bsT a T0 n r ∧ bsT a T0 n r ≤ r
  | 0, _ => by simp only [bsT]; omega
  | r + 1, h => by
    have ih := bsT_r (a := a) (T0 := T0) (n := n) r (by omega)
    have := lgT_r (a := a) (T0 := T0) (r + 1) h (n - 1 - (r : Int)) (by omega) (by omega)
    simp only [bsT]
    split <;> omega
theorem rgS_r {a T R : Int → Int} {b : Int} (hb : 0 ≤ b) : ∀ j : Nat, (0 ≤ (rgS a T R b j).1 ∧ (rgS a T R b j).1 ≤ b) ∧ (-1 ≤ (rgS a T R b j).2.1 ∧ (rgS a T R b j).2.1 < j)
  | 0 => by simp only [rgS]; omega
  | j + 1 => by
    have ih := rgS_r (a := a) (T := T) (R := R) hb j
    simp only [rgS]
    split
    · omega
    · simp only []
      omega
theorem man_r {a : Int → Int} (hI : Inv a) : 0 ≤ manF a ∧ manF a ≤ 60 ∧ ∀ k, 0 ≤ k → k < manF a → 0 ≤ seeF a k ∧ seeF a k < a 1 := by
  have h := hI.h
  unfold manF
  split
  · exact ⟨by omega, by omega, fun k h1 h2 => by omega⟩
  · exact ⟨h.2.1.1, h.2.1.2, fun k h1 h2 => h.2.2 k h1 h2⟩
def bsF (a : Int → Int) (T0 : Int → Int) : Int := bsT a T0 (manF a) (manF a).toNat
def lgF (a T0 : Int → Int) : Int → Int := lgT a T0 (manF a) (manF a).toNat
def rgF (a T0 R0 : Int → Int) : Int → Int := (rgS a (lgF a T0) (zrT R0 (manF a) (manF a).toNat) (bsF a T0) (manF a).toNat).2.2

theorem l1_rights {d N : Nat} {P : am_P} {H : am_H} {Q : Option am_V → am_S → Prop} (hP : PZ P) (hI : Inv (H 54)) {n i b : Int} {T R : Int → Int} (en : n = manF (H 54)) (h1 : 0 ≤ i) (h2 : i < n) (hT : ∀ k, i < k → k < n → 1 ≤ T k ∧ T k ≤ 60)
    (hx : am_WP (am_R (d + 4)) cd_Model_rights Q 58 [some (am_r 53), some (am_i n), some (am_i b), some (am_i i), some (am_i n), none] [] (N, P, am_so (am_so H 62 (am_uf T i (lgI (H 54) T i (n - 1 - i).toNat))) 63 R)) :
    am_WP (am_R (d + 4)) cd_Model_rights Q 25 [some (am_r 53), some (am_i n), some (am_i b), some (am_i i), some (am_i (i + 1)), none] [] (N, P, am_so (am_so H 62 (am_uf T i 1)) 63 R) := by
  have hm := man_r hI
  have e54 : ∀ X : Int → Int, am_so (am_so H 62 X) 63 R 54 = H 54 := fun X => by rw [am_so_ne _ _ (by decide), am_so_ne _ _ (by decide)]
  have e62 : ∀ X : Int → Int, am_so (am_so H 62 X) 63 R 62 = X := fun X => by rw [am_so_ne _ _ (by decide), am_so_at]
  suffices hz : ∀ m, m ≤ (n - 1 - i).toNat → am_WP (am_R (d + 4)) cd_Model_rights Q 25 [some (am_r 53), some (am_i n), some (am_i b), some (am_i i), some (am_i (i + 1 + (m : Int))), none] [] (N, P, am_so (am_so H 62 (am_uf T i (lgI (H 54) T i m))) 63 R) by
    have := hz 0 (Nat.zero_le _)
    rw [show i + 1 + ((0 : Nat) : Int) = i + 1 by omega] at this
    exact this
  refine up_ind (n := (n - 1 - i).toNat) ?_ ?_
  · rw [show i + 1 + (((n - 1 - i).toNat : Nat) : Int) = n by omega]
    refine st_iload rfl rfl ?_
    refine st_iload_n rfl rfl ?_
    refine st_icmp_ge rfl (fun h27 => ?_) (fun h27 => (by exfalso; omega))
    exact hx
  · intro j hj ih
    have hi := hm.2.2 i h1 (by omega)
    have hk := hm.2.2 (i + 1 + (j : Int)) (by omega) (by omega)
    have mvi := hI.mv hi.1 hi.2
    have mvk := hI.mv hk.1 hk.2
    have hTk := hT (i + 1 + (j : Int)) (by omega) (by omega)
    have hl := lgI_r (a := H 54) (T := T) (i := i) (B := 60) (by omega) j (fun q hq => by have := hT (i + 1 + (q : Int)) (by omega) (by omega); omega)
    have esj : ∀ k, am_so (am_so H 62 (am_uf T i (lgI (H 54) T i j))) 63 R 54 (5 + 2 + k) = seeF (H 54) k := fun k => by rw [e54]; rfl
    refine st_iload rfl rfl ?_
    refine st_iload_n rfl rfl ?_
    refine st_icmp_ge rfl (fun h27 => (by exfalso; omega)) (fun h27 => ?_)
    refine st_aload_n rfl rfl (by decide) ?_
    refine st_aload_n rfl rfl (by decide) ?_
    refine st_iload_n rfl rfl ?_
    refine st_cv1 (w := [_]) rfl rfl rfl (Nat.le_of_ble_eq_true rfl) (Nat.le_of_ble_eq_true rfl) rfl rfl (r_Model_seenAt (H := am_so (am_so H 62 (am_uf T i (lgI (H 54) T i j))) 63 R) hP (by omega) (by omega)) ?_
    rw [esj]
    refine st_aload_n rfl rfl (by decide) ?_
    refine st_iload rfl rfl ?_
    refine st_cv1 (w := [_, _]) rfl rfl rfl (Nat.le_of_ble_eq_true rfl) (Nat.le_of_ble_eq_true rfl) rfl rfl (r_Model_seenAt (H := am_so (am_so H 62 (am_uf T i (lgI (H 54) T i j))) 63 R) hP (by omega) (by omega)) ?_
    rw [esj]
    refine st_cv1 (w := []) rfl rfl rfl (Nat.le_of_ble_eq_true rfl) (Nat.le_of_ble_eq_true rfl) rfl rfl (r_Model_compared (H := am_so (am_so H 62 (am_uf T i (lgI (H 54) T i j))) 63 R) hP (by rw [e54]; exact mvi) (by rw [e54]; exact mvk)) ?_
    rw [e54, show cmpF (H 54) (seeF (H 54) i) (seeF (H 54) (i + 1 + (j : Int))) (H 54 0) = folF (H 54) i (i + 1 + (j : Int)) from rfl]
    refine st_if_gt rfl (fun h36 => ?_) (fun h36 => ?_)
    · refine st_iinc (ls' := [_, _, _, _, _, _]) rfl rfl (by omega) rfl ?_
      refine st_goto rfl ?_
      rw [show i + 1 + (j : Int) + 1 = i + 1 + ((j + 1 : Nat) : Int) by omega]
      first
      | (rw [show lgI (H 54) T i (j + 1) = lgI (H 54) T i j by simp only [lgI]; rw [if_neg (by omega)]] at ih; exact ih)
      | (rw [show lgI (H 54) T i (j + 1) = T (i + 1 + (j : Int)) + 1 by simp only [lgI]; rw [if_pos (by omega)]] at ih
         rw [am_up2a (by decide), show am_uf (am_uf T i (lgI (H 54) T i j)) i (T (i + 1 + (j : Int)) + 1) = am_uf T i (T (i + 1 + (j : Int)) + 1) by funext k; unfold am_uf; split <;> rfl]
         exact ih)
    · refine st_aload_n rfl rfl (by decide) ?_
      refine st_getR (kk := 14) rfl rfl rfl (pz_53_14 hP) rfl ?_
      refine st_iload rfl rfl ?_
      refine st_iaload rfl rfl (by omega) (by omega) ?_
      rw [e62, am_uf_ne _ _ (by omega)]
      refine st_aload_n rfl rfl (by decide) ?_
      refine st_getR (kk := 14) rfl rfl rfl (pz_53_14 hP) rfl ?_
      refine st_iload_n rfl rfl ?_
      refine st_iaload rfl rfl (by omega) (by omega) ?_
      rw [e62, am_uf_eq]
      refine st_icmp_lt rfl (fun h45 => ?_) (fun h45 => ?_)
      · refine st_iinc (ls' := [_, _, _, _, _, _]) rfl rfl (by omega) rfl ?_
        refine st_goto rfl ?_
        rw [show i + 1 + (j : Int) + 1 = i + 1 + ((j + 1 : Nat) : Int) by omega]
        first
        | (rw [show lgI (H 54) T i (j + 1) = lgI (H 54) T i j by simp only [lgI]; rw [if_neg (by omega)]] at ih; exact ih)
        | (rw [show lgI (H 54) T i (j + 1) = T (i + 1 + (j : Int)) + 1 by simp only [lgI]; rw [if_pos (by omega)]] at ih
           rw [am_up2a (by decide), show am_uf (am_uf T i (lgI (H 54) T i j)) i (T (i + 1 + (j : Int)) + 1) = am_uf T i (T (i + 1 + (j : Int)) + 1) by funext k; unfold am_uf; split <;> rfl]
           exact ih)
      · refine st_aload_n rfl rfl (by decide) ?_
        refine st_getR (kk := 14) rfl rfl rfl (pz_53_14 hP) rfl ?_
        refine st_iload_n rfl rfl ?_
        refine st_aload_n rfl rfl (by decide) ?_
        refine st_getR (kk := 14) rfl rfl rfl (pz_53_14 hP) rfl ?_
        refine st_iload rfl rfl ?_
        refine st_iaload rfl rfl (by omega) (by omega) ?_
        rw [e62, am_uf_ne _ _ (by omega)]
        refine st_iconst rfl ?_
        refine st_iadd rfl (by omega) ?_
        refine st_iastore rfl rfl (by omega) (by omega) ?_
        refine st_iinc (ls' := [_, _, _, _, _, _]) rfl rfl (by omega) rfl ?_
        refine st_goto rfl ?_
        rw [show i + 1 + (j : Int) + 1 = i + 1 + ((j + 1 : Nat) : Int) by omega]
        first
        | (rw [show lgI (H 54) T i (j + 1) = lgI (H 54) T i j by simp only [lgI]; rw [if_neg (by omega)]] at ih; exact ih)
        | (rw [show lgI (H 54) T i (j + 1) = T (i + 1 + (j : Int)) + 1 by simp only [lgI]; rw [if_pos (by omega)]] at ih
           rw [am_up2a (by decide), show am_uf (am_uf T i (lgI (H 54) T i j)) i (T (i + 1 + (j : Int)) + 1) = am_uf T i (T (i + 1 + (j : Int)) + 1) by funext k; unfold am_uf; split <;> rfl]
           exact ih)
theorem l2_rights {d N : Nat} {P : am_P} {H : am_H} {Q : Option am_V → am_S → Prop} (hP : PZ P) (hI : Inv (H 54)) {n : Int} (en : n = manF (H 54)) (hx : ∀ w, am_WP (am_R (d + 4)) cd_Model_rights Q 71 [some (am_r 53), some (am_i n), some (am_i (bsT (H 54) (H 62) n n.toNat)), some (am_i (-1)), w, none] [] (N, P, am_so (am_so H 62 (lgT (H 54) (H 62) n n.toNat)) 63 (zrT (H 63) n n.toNat))) : ∀ r, r ≤ n.toNat → ∀ w, am_WP (am_R (d + 4)) cd_Model_rights Q 9 [some (am_r 53), some (am_i n), some (am_i (bsT (H 54) (H 62) n r)), some (am_i (n - 1 - (r : Int))), w, none] [] (N, P, am_so (am_so H 62 (lgT (H 54) (H 62) n r)) 63 (zrT (H 63) n r)) := by
  have hm := man_r hI
  refine up_ind (n := n.toNat) ?_ ?_
  · intro w
    rw [show n - 1 - ((n.toNat : Nat) : Int) = -1 by omega]
    refine st_iload_n rfl rfl ?_
    refine st_if_lt rfl (fun h10 => ?_) (fun h10 => (by exfalso; omega))
    exact hx _
  · intro r hr ih w
    have hl := lgT_r (a := H 54) (T0 := H 62) (n := n) r (by omega)
    have hl2 := lgT_r (a := H 54) (T0 := H 62) (n := n) (r + 1) (by omega) (n - 1 - (r : Int)) (by omega) (by omega)
    have e62 : ∀ X Y : Int → Int, am_so (am_so H 62 X) 63 Y 62 = X := fun X Y => by rw [am_so_ne _ _ (by decide), am_so_at]
    have elg : lgT (H 54) (H 62) n (r + 1) (n - 1 - (r : Int)) = lgI (H 54) (lgT (H 54) (H 62) n r) (n - 1 - (r : Int)) r := by simp only [lgT]; rw [am_uf_eq]
    refine st_iload_n rfl rfl ?_
    refine st_if_lt rfl (fun h10 => (by exfalso; omega)) (fun h10 => ?_)
    refine st_aload_n rfl rfl (by decide) ?_
    refine st_getR (kk := 14) rfl rfl rfl (pz_53_14 hP) rfl ?_
    refine st_iload_n rfl rfl ?_
    refine st_iconst rfl ?_
    refine st_iastore rfl rfl (by omega) (by omega) ?_
    refine st_aload_n rfl rfl (by decide) ?_
    refine st_getR (kk := 15) rfl rfl rfl (pz_53_15 hP) rfl ?_
    refine st_iload_n rfl rfl ?_
    refine st_iconst rfl ?_
    refine st_bastoreZ rfl rfl (by first | exact bi_01 _ | decide | omega) (by omega) (by omega) ?_
    refine st_iload_n rfl rfl ?_
    refine st_iconst rfl ?_
    refine st_iadd rfl (by omega) ?_
    refine st_istore (ls' := [_, _, _, _, _, _]) rfl (Nat.le_of_ble_eq_true rfl) rfl ?_
    rw [am_up2a (by decide), am_up2b]
    refine l1_rights hP hI en (i := n - 1 - (r : Int)) (by omega) (by omega) (fun k q1 q2 => by have := hl k (by omega) q2; omega) ?_
    rw [show (n - 1 - (n - 1 - (r : Int))).toNat = r by omega]
    refine st_aload_n rfl rfl (by decide) ?_
    refine st_getR (kk := 14) rfl rfl rfl (pz_53_14 hP) rfl ?_
    refine st_iload_n rfl rfl ?_
    refine st_iaload rfl rfl (by omega) (by omega) ?_
    rw [e62, am_uf_eq]
    refine st_iload_n rfl rfl ?_
    refine st_icmp_le rfl (fun h63 => ?_) (fun h63 => ?_)
    · refine st_iinc (ls' := [_, _, _, _, _, _]) rfl rfl (by omega) rfl ?_
      refine st_goto rfl ?_
      rw [show n - 1 - (r : Int) + -1 = n - 1 - ((r + 1 : Nat) : Int) by omega]
      have ih := ih (some (am_i n))
      first
      | (rw [show bsT (H 54) (H 62) n (r + 1) = bsT (H 54) (H 62) n r by simp only [bsT]; rw [elg, if_neg (by omega)]] at ih; exact ih)
      | (rw [show bsT (H 54) (H 62) n (r + 1) = lgI (H 54) (lgT (H 54) (H 62) n r) (n - 1 - (r : Int)) r by simp only [bsT]; rw [elg, if_pos (by omega)]] at ih; exact ih)
    · refine st_aload_n rfl rfl (by decide) ?_
      refine st_getR (kk := 14) rfl rfl rfl (pz_53_14 hP) rfl ?_
      refine st_iload_n rfl rfl ?_
      refine st_iaload rfl rfl (by omega) (by omega) ?_
      rw [e62, am_uf_eq]
      refine st_istore_n (ls' := [_, _, _, _, _, _]) rfl (Nat.le_of_ble_eq_true rfl) rfl ?_
      refine st_iinc (ls' := [_, _, _, _, _, _]) rfl rfl (by omega) rfl ?_
      refine st_goto rfl ?_
      rw [show n - 1 - (r : Int) + -1 = n - 1 - ((r + 1 : Nat) : Int) by omega]
      have ih := ih (some (am_i n))
      first
      | (rw [show bsT (H 54) (H 62) n (r + 1) = bsT (H 54) (H 62) n r by simp only [bsT]; rw [elg, if_neg (by omega)]] at ih; exact ih)
      | (rw [show bsT (H 54) (H 62) n (r + 1) = lgI (H 54) (lgT (H 54) (H 62) n r) (n - 1 - (r : Int)) r by simp only [bsT]; rw [elg, if_pos (by omega)]] at ih; exact ih)
theorem l3_rights {d N : Nat} {P : am_P} {H : am_H} {Q : Option am_V → am_S → Prop} (hP : PZ P) (hI : Inv (H 54)) {n b : Int} {T R : Int → Int} (en : n = manF (H 54)) (hb : 0 ≤ b) (hb2 : b ≤ 60) (hx : Q (some (am_i b)) (N, P, am_so (am_so H 62 T) 63 (rgS (H 54) T R b n.toNat).2.2)) : ∀ j, j ≤ n.toNat → am_WP (am_R (d + 4)) cd_Model_rights Q 77 [some (am_r 53), some (am_i n), some (am_i b), some (am_i (rgS (H 54) T R b j).1), some (am_i (rgS (H 54) T R b j).2.1), some (am_i (j : Int))] [] (N, P, am_so (am_so H 62 T) 63 (rgS (H 54) T R b j).2.2) := by
  have hm := man_r hI
  refine up_ind (n := n.toNat) ?_ ?_
  · refine st_iload rfl rfl ?_
    refine st_iload_n rfl rfl ?_
    refine st_icmp_ge rfl (fun h79 => ?_) (fun h79 => (by exfalso; omega))
    refine st_iload_n rfl rfl ?_
    refine st_iret rfl (fun z => by first | exact absurd z (by decide) | exact bi_01 _ | decide | omega) ?_
    exact hx
  · intro j hj ih
    have hr := rgS_r (a := H 54) (T := T) (R := R) hb j
    have e54 : ∀ X Y : Int → Int, am_so (am_so H 62 X) 63 Y 54 = H 54 := fun X Y => by rw [am_so_ne _ _ (by decide), am_so_ne _ _ (by decide)]
    have e62 : ∀ X Y : Int → Int, am_so (am_so H 62 X) 63 Y 62 = X := fun X Y => by rw [am_so_ne _ _ (by decide), am_so_at]
    have hk := hm.2.2 (j : Int) (by omega) (by omega)
    have mvk := hI.mv hk.1 hk.2
    generalize hS : rgS (H 54) T R b j = S at hr ⊢
    have esj : ∀ k, am_so (am_so H 62 T) 63 S.2.2 54 (5 + 2 + k) = seeF (H 54) k := fun k => by rw [e54]; rfl
    rw [show rgS (H 54) T R b (j + 1) = if S.1 = 0 ∨ T (j : Int) ≠ S.1 ∨ (0 ≤ S.2.1 ∧ 0 < folF (H 54) S.2.1 (j : Int)) then S else (S.1 - 1, (j : Int), am_uf S.2.2 (j : Int) 1) by rw [← hS]; rfl] at ih
    refine st_iload rfl rfl ?_
    refine st_iload_n rfl rfl ?_
    refine st_icmp_ge rfl (fun h79 => (by exfalso; omega)) (fun h79 => ?_)
    refine st_iload_n rfl rfl ?_
    refine st_if_eq rfl (fun h81 => ?_) (fun h81 => ?_)
    · refine st_iinc (ls' := [_, _, _, _, _, _]) rfl rfl (by omega) rfl ?_
      refine st_goto rfl ?_
      first
      | (rw [if_pos (by omega)] at ih; exact ih)
      | (rw [if_neg (by omega)] at ih
         rw [am_up2b]
         exact ih)
    · refine st_aload_n rfl rfl (by decide) ?_
      refine st_getR (kk := 14) rfl rfl rfl (pz_53_14 hP) rfl ?_
      refine st_iload rfl rfl ?_
      refine st_iaload rfl rfl (by omega) (by omega) ?_
      rw [e62]
      refine st_iload_n rfl rfl ?_
      refine st_icmp_ne rfl (fun h87 => ?_) (fun h87 => ?_)
      · refine st_iinc (ls' := [_, _, _, _, _, _]) rfl rfl (by omega) rfl ?_
        refine st_goto rfl ?_
        first
        | (rw [if_pos (by omega)] at ih; exact ih)
        | (rw [if_neg (by omega)] at ih
           rw [am_up2b]
           exact ih)
      · refine st_iload rfl rfl ?_
        refine st_if_lt rfl (fun h89 => ?_) (fun h89 => ?_)
        · refine st_aload_n rfl rfl (by decide) ?_
          refine st_getR (kk := 15) rfl rfl rfl (pz_53_15 hP) rfl ?_
          refine st_iload rfl rfl ?_
          refine st_iconst rfl ?_
          refine st_bastoreZ rfl rfl (by first | exact bi_01 _ | decide | omega) (by omega) (by omega) ?_
          refine st_iload rfl rfl ?_
          refine st_istore (ls' := [_, _, _, _, _, _]) rfl (Nat.le_of_ble_eq_true rfl) rfl ?_
          refine st_iinc (ls' := [_, _, _, _, _, _]) rfl rfl (by omega) rfl ?_
          refine st_iinc (ls' := [_, _, _, _, _, _]) rfl rfl (by omega) rfl ?_
          refine st_goto rfl ?_
          first
          | (rw [if_pos (by omega)] at ih; exact ih)
          | (rw [if_neg (by omega)] at ih
             rw [am_up2b]
             exact ih)
        · have hl := hm.2.2 S.2.1 (by omega) (by omega)
          have mvl := hI.mv hl.1 hl.2
          refine st_aload_n rfl rfl (by decide) ?_
          refine st_aload_n rfl rfl (by decide) ?_
          refine st_iload rfl rfl ?_
          refine st_cv1 (w := [_]) rfl rfl rfl (Nat.le_of_ble_eq_true rfl) (Nat.le_of_ble_eq_true rfl) rfl rfl (r_Model_seenAt (H := am_so (am_so H 62 T) 63 S.2.2) hP (by omega) (by omega)) ?_
          rw [esj]
          refine st_aload_n rfl rfl (by decide) ?_
          refine st_iload rfl rfl ?_
          refine st_cv1 (w := [_, _]) rfl rfl rfl (Nat.le_of_ble_eq_true rfl) (Nat.le_of_ble_eq_true rfl) rfl rfl (r_Model_seenAt (H := am_so (am_so H 62 T) 63 S.2.2) hP (by omega) (by omega)) ?_
          rw [esj]
          refine st_cv1 (w := []) rfl rfl rfl (Nat.le_of_ble_eq_true rfl) (Nat.le_of_ble_eq_true rfl) rfl rfl (r_Model_compared (H := am_so (am_so H 62 T) 63 S.2.2) hP (by rw [e54]; exact mvl) (by rw [e54]; exact mvk)) ?_
          rw [e54, show cmpF (H 54) (seeF (H 54) S.2.1) (seeF (H 54) (j : Int)) (H 54 0) = folF (H 54) S.2.1 (j : Int) from rfl]
          refine st_if_le rfl (fun h98 => ?_) (fun h98 => ?_)
          · refine st_aload_n rfl rfl (by decide) ?_
            refine st_getR (kk := 15) rfl rfl rfl (pz_53_15 hP) rfl ?_
            refine st_iload rfl rfl ?_
            refine st_iconst rfl ?_
            refine st_bastoreZ rfl rfl (by first | exact bi_01 _ | decide | omega) (by omega) (by omega) ?_
            refine st_iload rfl rfl ?_
            refine st_istore (ls' := [_, _, _, _, _, _]) rfl (Nat.le_of_ble_eq_true rfl) rfl ?_
            refine st_iinc (ls' := [_, _, _, _, _, _]) rfl rfl (by omega) rfl ?_
            refine st_iinc (ls' := [_, _, _, _, _, _]) rfl rfl (by omega) rfl ?_
            refine st_goto rfl ?_
            first
            | (rw [if_pos (by omega)] at ih; exact ih)
            | (rw [if_neg (by omega)] at ih
               rw [am_up2b]
               exact ih)
          · refine st_goto rfl ?_
            refine st_iinc (ls' := [_, _, _, _, _, _]) rfl rfl (by omega) rfl ?_
            refine st_goto rfl ?_
            first
            | (rw [if_pos (by omega)] at ih; exact ih)
            | (rw [if_neg (by omega)] at ih
               rw [am_up2b]
               exact ih)
def rgH (H : am_H) : am_H := am_so (am_so H 62 (lgF (H 54) (H 62))) 63 (rgF (H 54) (H 62) (H 63))
theorem r_Model_rights {d N : Nat} {P : am_P} {H : am_H}  (hP : PZ P) (hI : Inv (H 54)) : am_R (d + 5) 108 [am_r 53] (N, P, H) (some (am_i (bsF (H 54) (H 62)))) (N, P, rgH H) := by
  refine am_en1 (d := d + 4) (ml := 6) (ls := [_, _, _, _, _, _]) cq_Model_rights rfl (Nat.le_of_ble_eq_true rfl) rfl ?_
  have hn := hI.n
  have hm := man_r hI
  have hb := bsT_r (a := H 54) (T0 := H 62) (n := manF (H 54)) (manF (H 54)).toNat (by omega)
  refine st_aload_n rfl rfl (by decide) ?_
  refine st_cv1 (w := []) rfl rfl rfl (Nat.le_of_ble_eq_true rfl) (Nat.le_of_ble_eq_true rfl) rfl rfl (r_Model_many hP) ?_
  rw [show (if H 54 5 < 0 then 0 else H 54 6) = manF (H 54) from rfl]
  refine st_istore_n (ls' := [_, _, _, _, _, _]) rfl (Nat.le_of_ble_eq_true rfl) rfl ?_
  refine st_iconst rfl ?_
  refine st_istore_n (ls' := [_, _, _, _, _, _]) rfl (Nat.le_of_ble_eq_true rfl) rfl ?_
  refine st_iload_n rfl rfl ?_
  refine st_iconst rfl ?_
  refine st_isub rfl (by omega) ?_
  refine st_istore_n (ls' := [_, _, _, _, _, _]) rfl (Nat.le_of_ble_eq_true rfl) rfl ?_
  rw [show (N, P, H) = (N, P, am_so (am_so H 62 (lgT (H 54) (H 62) (manF (H 54)) 0)) 63 (zrT (H 63) (manF (H 54)) 0)) by simp only [lgT, zrT, am_so_self]]
  rw [show manF (H 54) - 1 = manF (H 54) - 1 - ((0 : Nat) : Int) by omega]
  refine l2_rights hP hI rfl ?_ 0 (Nat.zero_le _) none
  intro w
  refine st_iload_n rfl rfl ?_
  refine st_istore_n (ls' := [_, _, _, _, _, _]) rfl (Nat.le_of_ble_eq_true rfl) rfl ?_
  refine st_iconst rfl ?_
  refine st_istore (ls' := [_, _, _, _, _, _]) rfl (Nat.le_of_ble_eq_true rfl) rfl ?_
  refine st_iconst rfl ?_
  refine st_istore (ls' := [_, _, _, _, _, _]) rfl (Nat.le_of_ble_eq_true rfl) rfl ?_
  exact l3_rights hP hI rfl (by omega) (by omega) ⟨rfl, rfl⟩ 0 (Nat.zero_le _)
