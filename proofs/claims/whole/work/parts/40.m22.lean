/-! ===== the reference: mark ===== -/
def hbN (T : Int → Int) (n x : Int) : Int := if x < n then T x % 256 else -1
def tM (h : Int → Int) (sz : Int) : Nat → Nat
  | 0 => 0
  | j + 1 => if (txF h sz j).ok = 1 then j + 1 else tM h sz j
theorem tM_e {h : Int → Int} {sz : Int} {m : Nat} (h1 : ∀ i, i < m → (txF h sz i).ok = 1) (h2 : (txF h sz m).ok = 2) : ∀ x : Nat, tM h sz (m + x) = m
  | 0 => by
    cases m with
    | zero => rfl
    | succ m => show (if (txF h sz m).ok = 1 then m + 1 else _) = _; rw [if_pos (h1 m (by omega))]
  | x + 1 => by
    show (if (txF h sz (m + x)).ok = 1 then m + x + 1 else tM h sz (m + x)) = m
    rw [txF_s h sz (by omega) x, if_neg (by omega)]
    exact tM_e h1 h2 x
/-- the cells of a new mark *)
-/
def ceF (K V G C : Int → Int) (m i w : Int) : Int := if i < m then (if w = 0 then K i else if w = 1 then V i else if w = 2 then G i else C i) else 0
def mkL (a K V G C : Int → Int) (m : Int) (k : Nat) : Int → Int := fun x => if x = 70 + 33 * a 1 then m else if 70 + 33 * a 1 < x ∧ x ≤ 70 + 33 * a 1 + 4 * (k : Int) then ceF K V G C m ((x - 70 - 33 * a 1 - 1) / 4) ((x - 70 - 33 * a 1 - 1) % 4) else a x
theorem mkL_0 (a K V G C : Int → Int) (m : Int) : mkL a K V G C m 0 = am_uf a (70 + 33 * a 1) m := by
  funext x
  unfold mkL am_uf
  split
  · rfl
  · rw [if_neg (by omega)]
theorem mkL_s (a K V G C : Int → Int) (m : Int) (k : Nat) : am_uf (am_uf (am_uf (am_uf (mkL a K V G C m k) (70 + 33 * a 1 + 1 + 4 * (k : Int)) (ceF K V G C m (k : Int) 0)) (70 + 33 * a 1 + 1 + 4 * (k : Int) + 1) (ceF K V G C m (k : Int) 1)) (70 + 33 * a 1 + 1 + 4 * (k : Int) + 2) (ceF K V G C m (k : Int) 2)) (70 + 33 * a 1 + 1 + 4 * (k : Int) + 3) (ceF K V G C m (k : Int) 3) = mkL a K V G C m (k + 1) := by
  funext x
  unfold am_uf mkL
  by_cases h3 : x = 70 + 33 * a 1 + 1 + 4 * (k : Int) + 3
  · rw [if_pos h3, if_neg (by omega), if_pos (by omega), show (x - 70 - 33 * a 1 - 1) / 4 = (k : Int) by omega, show (x - 70 - 33 * a 1 - 1) % 4 = 3 by omega]
  rw [if_neg h3]
  by_cases h2 : x = 70 + 33 * a 1 + 1 + 4 * (k : Int) + 2
  · rw [if_pos h2, if_neg (by omega), if_pos (by omega), show (x - 70 - 33 * a 1 - 1) / 4 = (k : Int) by omega, show (x - 70 - 33 * a 1 - 1) % 4 = 2 by omega]
  rw [if_neg h2]
  by_cases h1 : x = 70 + 33 * a 1 + 1 + 4 * (k : Int) + 1
  · rw [if_pos h1, if_neg (by omega), if_pos (by omega), show (x - 70 - 33 * a 1 - 1) / 4 = (k : Int) by omega, show (x - 70 - 33 * a 1 - 1) % 4 = 1 by omega]
  rw [if_neg h1]
  by_cases h0 : x = 70 + 33 * a 1 + 1 + 4 * (k : Int)
  · rw [if_pos h0, if_neg (by omega), if_pos (by omega), show (x - 70 - 33 * a 1 - 1) / 4 = (k : Int) by omega, show (x - 70 - 33 * a 1 - 1) % 4 = 0 by omega]
  rw [if_neg h0]
  by_cases h4 : x = 70 + 33 * a 1
  · rw [if_pos h4, if_pos h4]
  rw [if_neg h4, if_neg h4]
  by_cases h5 : 70 + 33 * a 1 < x ∧ x ≤ 70 + 33 * a 1 + 4 * (k : Int)
  · rw [if_pos h5, if_pos (by omega)]
  · rw [if_neg h5, if_neg (by omega)]
def mkA (a K V G C : Int → Int) (m : Int) : Int → Int := am_uf (mkL a K V G C m 8) 1 (a 1 + 1)
theorem mkA_cg {a K V G C K' V' G' C' : Int → Int} {m : Int} (h : ∀ i, 0 ≤ i → i < m → K i = K' i ∧ V i = V' i ∧ G i = G' i ∧ C i = C' i) : mkA a K V G C m = mkA a K' V' G' C' m := by
  unfold mkA
  congr 1
  funext x
  unfold mkL
  split
  · rfl
  · split
    · rename_i q
      unfold ceF
      split
      · rename_i q2
        have e := h ((x - 70 - 33 * a 1 - 1) / 4) (by omega) q2
        rw [e.1, e.2.1, e.2.2.1, e.2.2.2]
      · rfl
    · rfl
theorem mdL_cg {a K V G C K' V' G' C' : Int → Int} {m n : Int} (h : ∀ i, 0 ≤ i → i < n → K i = K' i ∧ V i = V' i ∧ G i = G' i ∧ C i = C' i) : ∀ k : Nat, (k : Int) ≤ n → mdL a m K V G C n k = mdL a m K' V' G' C' n k
  | 0, _ => rfl
  | k + 1, hk => by
    have e := h (k : Int) (by omega) (by omega)
    simp only [mdL]
    rw [mdL_cg h k (by omega), e.1, e.2.1, e.2.2.1, e.2.2.2]
/-- the first mark that is these parts *)
-/
def fnL (a K V G C : Int → Int) (n : Int) : Nat → Int → Int
  | 0, _ => -1
  | f + 1, m => if mdL a m K V G C n n.toNat ≠ 0 then m else fnL a K V G C n f (m + 1)
theorem fnL_cg {a K V G C K' V' G' C' : Int → Int} {n : Int} (hn : 0 ≤ n) (h : ∀ i, 0 ≤ i → i < n → K i = K' i ∧ V i = V' i ∧ G i = G' i ∧ C i = C' i) : ∀ (f : Nat) (m : Int), fnL a K V G C n f m = fnL a K' V' G' C' n f m
  | 0, _ => rfl
  | f + 1, m => by
    simp only [fnL]
    rw [mdL_cg h n.toNat (by omega), fnL_cg hn h f (m + 1)]
theorem fnL_r (a K V G C : Int → Int) (n : Int) : ∀ (f : Nat) (m : Int), 0 ≤ m → fnL a K V G C n f m = -1 ∨ (m ≤ fnL a K V G C n f m ∧ fnL a K V G C n f m < m + (f : Int))
  | 0, _, _ => Or.inl rfl
  | f + 1, m, hm => by
    have ih := fnL_r a K V G C n f (m + 1) (by omega)
    simp only [fnL]
    split
    · exact Or.inr (by omega)
    · omega

abbrev tK (h : Int → Int) (sz x : Int) : Int := (txF h sz x.toNat).kd
abbrev tV (h : Int → Int) (sz x : Int) : Int := (txF h sz x.toNat).v
abbrev tG (h : Int → Int) (sz x : Int) : Int := (txF h sz x.toNat).g
abbrev tC (h : Int → Int) (sz x : Int) : Int := (txF h sz x.toNat).c
def fnT (a T : Int → Int) (n : Int) : Int := fnL a (tK (hbN T n) n) (tV (hbN T n) n) (tG (hbN T n) n) (tC (hbN T n) n) (tM (hbN T n) n 8 : Int) (a 1).toNat 0
def mkT (a T : Int → Int) (n : Int) : Int → Int := mkA a (tK (hbN T n) n) (tV (hbN T n) n) (tG (hbN T n) n) (tC (hbN T n) n) (tM (hbN T n) n 8 : Int)
def MKQ (N : Nat) (P : am_P) (H : am_H) (n : Int) (v : Option am_V) (σ : am_S) : Prop := ∃ H' : am_H, σ = (N, P, H') ∧ (∀ o, o ≠ 53 → o ≠ 54 → (o < 57 ∨ 60 < o) → H' o = H o) ∧ (∀ k, k < 3 ∨ 7 < k → H' 53 k = H 53 k) ∧
  ((n < 0 ∨ H 53 3 < n) → v = some (am_i (-3)) ∧ H' 53 3 = H 53 3 ∧ H' 53 4 = -1 ∧ H' 54 = H 54) ∧
  ((0 ≤ n ∧ n ≤ H 53 3) → H' 53 3 = 0 ∧
    (((txF (hbN (H 56) n) n 8).ok ≠ 2 ∨ 60 < n) → v = some (am_i (-1)) ∧ H' 53 4 = (if (txF (hbN (H 56) n) n 8).ok = 2 ∨ 60 < (txF (hbN (H 56) n) n 8).pos then 60 else (txF (hbN (H 56) n) n 8).pos) ∧ H' 54 = H 54) ∧
    (((txF (hbN (H 56) n) n 8).ok = 2 ∧ n ≤ 60) → H' 53 4 = -1 ∧ (0 ≤ fnT (H 54) (H 56) n → v = some (am_i (fnT (H 54) (H 56) n)) ∧ H' 54 = H 54) ∧
      ((fnT (H 54) (H 56) n < 0 ∧ H 54 1 = 200) → v = some (am_i (-2)) ∧ H' 54 = H 54) ∧
      ((fnT (H 54) (H 56) n < 0 ∧ H 54 1 ≠ 200) → v = some (am_i (H 54 1)) ∧ H' 54 = mkT (H 54) (H 56) n)))

theorem mk_h1 (H : am_H) (n : Int) : hbF (am_up (am_up (am_up H 53 4 (-1)) 53 3 0) 53 5 n) = hbN (H 56) n ∧ (am_up (am_up (am_up H 53 4 (-1)) 53 3 0) 53 5 n) 53 5 = n ∧ (am_up (am_up (am_up H 53 4 (-1)) 53 3 0) 53 5 n) 53 3 = 0 ∧ (am_up (am_up (am_up H 53 4 (-1)) 53 3 0) 53 5 n) 53 4 = -1 ∧ (∀ k, k < 3 ∨ 7 < k → (am_up (am_up (am_up H 53 4 (-1)) 53 3 0) 53 5 n) 53 k = H 53 k) ∧ ∀ o, o ≠ 53 → (am_up (am_up (am_up H 53 4 (-1)) 53 3 0) 53 5 n) o = H o := by
  have e5 : (am_up (am_up (am_up H 53 4 (-1)) 53 3 0) 53 5 n) 53 5 = n := by rw [am_up_eq, am_uf_eq]
  refine ⟨?_, e5, ?_, ?_, fun k hk => ?_, fun o ho => ?_⟩
  · funext x
    unfold hbF hbN
    rw [e5, am_up_ne (by decide), am_up_ne (by decide), am_up_ne (by decide)]
  · rw [am_up_eq, am_uf_ne _ _ (by omega), am_up_eq, am_uf_eq]
  · rw [am_up_eq, am_uf_ne _ _ (by omega), am_up_eq, am_uf_ne _ _ (by omega), am_up_eq, am_uf_eq]
  · rw [am_up_eq, am_uf_ne _ _ (by omega), am_up_eq, am_uf_ne _ _ (by omega), am_up_eq, am_uf_ne _ _ (by omega)]
  · rw [am_up_ne ho, am_up_ne ho, am_up_ne ho]
theorem ce_0 {K V G C : Int → Int} {m i : Int} (h : i < m) : K i = ceF K V G C m i 0 := by unfold ceF; rw [if_pos h]; rfl
theorem ce_1 {K V G C : Int → Int} {m i : Int} (h : i < m) : V i = ceF K V G C m i 1 := by unfold ceF; rw [if_pos h]; rfl
theorem ce_2 {K V G C : Int → Int} {m i : Int} (h : i < m) : G i = ceF K V G C m i 2 := by unfold ceF; rw [if_pos h]; rfl
theorem ce_3 {K V G C : Int → Int} {m i : Int} (h : i < m) : C i = ceF K V G C m i 3 := by unfold ceF; rw [if_pos h]; rfl
theorem ce_n {K V G C : Int → Int} {m i w : Int} (h : ¬ i < m) : ceF K V G C m i w = 0 := if_neg h
theorem wp_top {d : Nat} {cd : List am_I} {Q : Option am_V → am_S → Prop} {i : Nat} {ls : am_L} {x y : Int} {st : List am_V} {σ : am_S} (h : y = x) (k : am_WP (am_R d) cd Q i ls (am_i y :: st) σ) : am_WP (am_R d) cd Q i ls (am_i x :: st) σ := by rw [← h]; exact k
theorem c_Model_mark {d N : Nat} {P : am_P} {H : am_H} {n : Int} (hP : PZ P) (hI : Inv (H 54)) (ht : 0 ≤ H 53 3 ∧ H 53 3 ≤ 80) : am_C (d + 8) 64 [am_r 53, am_i n] (N, P, H) (MKQ N P H n) := by
  refine am_enC (d := d + 7) (ml := 6) (ls := [_, _, _, _, _, _]) cq_Model_mark rfl (Nat.le_of_ble_eq_true rfl) rfl ?_
  have hnn := hI.n
  obtain ⟨e0, e5, e3, e4, ek, eo⟩ := mk_h1 H n
  refine st_aload_n rfl rfl (by decide) ?_
  refine st_iconst rfl ?_
  refine st_putI (kk := 4) rfl rfl rfl rfl ?_
  refine st_iload_n rfl rfl ?_
  refine st_if_lt rfl (fun h4 => ?_) (fun h4 => ?_)
  · refine st_bipush rfl ?_
    refine st_iret rfl (fun z => by first | exact absurd z (by decide) | exact bi_01 _ | decide | omega) ?_
    refine ⟨_, rfl, fun o q1 q2 q3 => by rw [am_up_ne q1], fun k q => by rw [am_up_eq, am_uf_ne _ _ (by omega)], fun _ => ⟨rfl, by rw [am_up_eq, am_uf_ne _ _ (by omega)], by rw [am_up_eq, am_uf_eq], by rw [am_up_ne (by decide)]⟩, fun q => by exfalso; omega⟩
  · refine st_iload_n rfl rfl ?_
    refine st_aload_n rfl rfl (by decide) ?_
    refine st_getI (kk := 3) rfl rfl (by decide) rfl ?_
    rw [show am_up H 53 4 (-1) 53 3 = H 53 3 by rw [am_up_eq, am_uf_ne _ _ (by omega)]]
    refine st_icmp_le rfl (fun h8 => ?_) (fun h8 => ?_)
    · refine st_aload_n rfl rfl (by decide) ?_
      refine st_iconst rfl ?_
      refine st_putI (kk := 3) rfl rfl rfl rfl ?_
      refine st_aload_n rfl rfl (by decide) ?_
      refine st_iload_n rfl rfl ?_
      refine st_putI (kk := 5) rfl rfl rfl rfl ?_
      refine st_aload_n rfl rfl (by decide) ?_
      refine st_cvC (w := []) rfl rfl rfl (Nat.le_of_ble_eq_true rfl) (Nat.le_of_ble_eq_true rfl) rfl rfl (c_Model_isText hP (by rw [e5]; omega)) ?_
      rintro v σ' ⟨m, K', V', G', C', f1, f2, f3⟩
      rw [e0, e5] at f1 f2 f3
      subst f1
      subst f2
      have hX : (txF (hbN (H 56) n) n 8).ok = 2 → (tM (hbN (H 56) n) n 8 = m ∧ (1 ≤ m ∧ m ≤ 8)) ∧ ∀ i, 0 ≤ i → i < (m : Int) → K' i = tK (hbN (H 56) n) n i ∧ V' i = tV (hbN (H 56) n) n i ∧ G' i = tG (hbN (H 56) n) n i ∧ C' i = tC (hbN (H 56) n) n i := by
        intro q
        obtain ⟨g1, g2, g3⟩ := f3 q
        refine ⟨⟨?_, g1⟩, fun i q0 q1 => ?_⟩
        · have := tM_e (fun i q => (g3 i q).1) g2 (8 - m)
          rw [show m + (8 - m) = 8 by omega] at this
          exact this
        · have := (g3 i.toNat (by omega)).2
          rw [show ((i.toNat : Nat) : Int) = i by omega] at this
          exact this
      have b4 : (pH (am_up (am_up (am_up H 53 4 (-1)) 53 3 0) 53 5 n) (txF (hbN (H 56) n) n 8).pos (m : Int) K' V' G' C') 53 4 = -1 := by rw [pH_k _ _ _ _ _ _ _ (by omega) (by omega)]; exact e4
      have b3 : (pH (am_up (am_up (am_up H 53 4 (-1)) 53 3 0) 53 5 n) (txF (hbN (H 56) n) n 8).pos (m : Int) K' V' G' C') 53 3 = 0 := by rw [pH_k _ _ _ _ _ _ _ (by omega) (by omega)]; exact e3
      have bk : ∀ k, k < 3 ∨ 7 < k → (pH (am_up (am_up (am_up H 53 4 (-1)) 53 3 0) 53 5 n) (txF (hbN (H 56) n) n 8).pos (m : Int) K' V' G' C') 53 k = H 53 k := fun k q => by rw [pH_k _ _ _ _ _ _ _ (by omega) (by omega)]; exact ek k q
      have b54 : (pH (am_up (am_up (am_up H 53 4 (-1)) 53 3 0) 53 5 n) (txF (hbN (H 56) n) n 8).pos (m : Int) K' V' G' C') 54 = H 54 := eo 54 (by decide)
      have bo : ∀ o, o ≠ 53 → (o < 57 ∨ 60 < o) → (pH (am_up (am_up (am_up H 53 4 (-1)) 53 3 0) 53 5 n) (txF (hbN (H 56) n) n 8).pos (m : Int) K' V' G' C') o = H o := fun o q1 q2 => by
        unfold pH
        rw [if_neg q1, if_neg (by omega), if_neg (by omega), if_neg (by omega), if_neg (by omega)]
        exact eo o q1
      show am_WP _ _ _ _ _ [am_i (bi ((txF (hbN (H 56) n) n 8).ok = 2))] _
      refine st_istore_n (ls' := [_, _, _, _, _, _]) rfl (Nat.le_of_ble_eq_true rfl) rfl ?_
      refine st_iload_n rfl rfl ?_
      refine st_if_eq_b rfl (fun h21 => ?_) (fun h21 => ?_)
      · refine st_aload_n rfl rfl (by decide) ?_
        refine st_iload_n rfl rfl ?_
        refine st_if_ne_b rfl (fun h27 => ?_) (fun h27 => ?_)
        · refine st_bipush rfl ?_
          refine st_goto rfl ?_
          first
          | rw [pH_6]
          | skip
          refine st_putI (kk := 4) rfl rfl rfl rfl ?_
          refine st_iconst rfl ?_
          refine st_iret rfl (fun z => by first | exact absurd z (by decide) | exact bi_01 _ | decide | omega) ?_
          refine ⟨_, rfl, fun o q1 q2 q3 => by rw [am_up_ne q1]; exact bo o q1 q3, fun k q => by rw [am_up_eq, am_uf_ne _ _ (by omega)]; exact bk k q, fun q => by exfalso; omega, fun _ => ⟨by rw [am_up_eq, am_uf_ne _ _ (by omega)]; exact b3, fun _ => ⟨rfl, ?_, by rw [am_up_ne (by decide)]; exact b54⟩, fun q => by exfalso; omega⟩⟩
          rw [am_up_eq, am_uf_eq]
          first
          | (exfalso; omega)
          | rw [if_pos (by omega)]
          | rw [if_neg (by omega)]
        · refine st_aload_n rfl rfl (by decide) ?_
          refine st_getI (kk := 6) rfl rfl (by decide) rfl ?_
          rw [pH_6]
          refine st_bipush rfl ?_
          refine st_icmp_le rfl (fun h31 => ?_) (fun h31 => ?_)
          · refine st_aload_n rfl rfl (by decide) ?_
            refine st_getI (kk := 6) rfl rfl (by decide) rfl ?_
            first
            | rw [pH_6]
            | skip
            refine st_putI (kk := 4) rfl rfl rfl rfl ?_
            refine st_iconst rfl ?_
            refine st_iret rfl (fun z => by first | exact absurd z (by decide) | exact bi_01 _ | decide | omega) ?_
            refine ⟨_, rfl, fun o q1 q2 q3 => by rw [am_up_ne q1]; exact bo o q1 q3, fun k q => by rw [am_up_eq, am_uf_ne _ _ (by omega)]; exact bk k q, fun q => by exfalso; omega, fun _ => ⟨by rw [am_up_eq, am_uf_ne _ _ (by omega)]; exact b3, fun _ => ⟨rfl, ?_, by rw [am_up_ne (by decide)]; exact b54⟩, fun q => by exfalso; omega⟩⟩
            rw [am_up_eq, am_uf_eq]
            first
            | (exfalso; omega)
            | rw [if_pos (by omega)]
            | rw [if_neg (by omega)]
          · refine st_bipush rfl ?_
            refine st_goto rfl ?_
            first
            | rw [pH_6]
            | skip
            refine st_putI (kk := 4) rfl rfl rfl rfl ?_
            refine st_iconst rfl ?_
            refine st_iret rfl (fun z => by first | exact absurd z (by decide) | exact bi_01 _ | decide | omega) ?_
            refine ⟨_, rfl, fun o q1 q2 q3 => by rw [am_up_ne q1]; exact bo o q1 q3, fun k q => by rw [am_up_eq, am_uf_ne _ _ (by omega)]; exact bk k q, fun q => by exfalso; omega, fun _ => ⟨by rw [am_up_eq, am_uf_ne _ _ (by omega)]; exact b3, fun _ => ⟨rfl, ?_, by rw [am_up_ne (by decide)]; exact b54⟩, fun q => by exfalso; omega⟩⟩
            rw [am_up_eq, am_uf_eq]
            first
            | (exfalso; omega)
            | rw [if_pos (by omega)]
            | rw [if_neg (by omega)]
      · refine st_iload_n rfl rfl ?_
        refine st_bipush rfl ?_
        refine st_icmp_le rfl (fun h24 => ?_) (fun h24 => ?_)
        · refine st_iconst rfl ?_
          refine st_istore_n (ls' := [_, _, _, _, _, _]) rfl (Nat.le_of_ble_eq_true rfl) rfl ?_
          have hok : (txF (hbN (H 56) n) n 8).ok = 2 := h21
          obtain ⟨hm, hcg⟩ := hX hok
          have hfn : fnL (H 54) K' V' G' C' (m : Int) (H 54 1).toNat 0 = fnT (H 54) (H 56) n := by
            unfold fnT
            rw [hm.1]
            exact fnL_cg (by omega) hcg _ _
          have hfr := fnL_r (H 54) K' V' G' C' (m : Int) (H 54 1).toNat 0 (by omega)
          suffices hlo : ∀ (f : Nat) (x : Int), x + f = H 54 1 → 0 ≤ x → fnL (H 54) K' V' G' C' (m : Int) f x = fnT (H 54) (H 56) n → am_WP (am_R (d + 7)) cd_Model_mark (MKQ N P H n) 41 [some (am_r 53), some (am_i n), some (am_i (bi ((txF (hbN (H 56) n) n 8).ok = 2))), some (am_i x), none, none] [] (N, P, (pH (am_up (am_up (am_up H 53 4 (-1)) 53 3 0) 53 5 n) (txF (hbN (H 56) n) n 8).pos (m : Int) K' V' G' C')) from hlo (H 54 1).toNat 0 (by omega) (by omega) hfn
          intro f
          induction f with
          | zero =>
            intro x q1 q2 q3
            have q4 : fnT (H 54) (H 56) n = -1 := q3.symm
            refine st_iload_n rfl rfl ?_
            refine st_aload_n rfl rfl (by decide) ?_
            refine st_getR (kk := 0) rfl rfl rfl (pz_53_0 hP) rfl ?_
            refine st_iconst rfl ?_
            refine st_iaload rfl rfl (by omega) (by omega) ?_
            rw [b54]
            refine st_icmp_ge rfl (fun h46 => ?_) (fun h46 => (by exfalso; omega))
            refine st_aload_n rfl rfl (by decide) ?_
            refine st_getR (kk := 0) rfl rfl rfl (pz_53_0 hP) rfl ?_
            refine st_iconst rfl ?_
            refine st_iaload rfl rfl (by omega) (by omega) ?_
            rw [b54]
            refine st_sipush rfl ?_
            refine st_icmp_ne rfl (fun h60 => ?_) (fun h60 => ?_)
            · refine st_bipush rfl ?_
              refine st_bipush rfl ?_
              refine st_aload_n rfl rfl (by decide) ?_
              refine st_getR (kk := 0) rfl rfl rfl (pz_53_0 hP) rfl ?_
              refine st_iconst rfl ?_
              refine st_iaload rfl rfl (by omega) (by omega) ?_
              rw [b54]
              refine st_imul rfl (by omega) ?_
              refine st_iadd rfl (by omega) ?_
              refine st_istore_n (ls' := [_, _, _, _, _, _]) rfl (Nat.le_of_ble_eq_true rfl) rfl ?_
              refine st_aload_n rfl rfl (by decide) ?_
              refine st_getR (kk := 0) rfl rfl rfl (pz_53_0 hP) rfl ?_
              refine st_iload_n rfl rfl ?_
              refine st_aload_n rfl rfl (by decide) ?_
              refine st_getI (kk := 7) rfl rfl (by decide) rfl ?_
              rw [pH_7]
              refine st_iastore rfl rfl (by omega) (by omega) ?_
              refine st_iconst rfl ?_
              refine st_istore (ls' := [_, _, _, _, _, _]) rfl (Nat.le_of_ble_eq_true rfl) rfl ?_
              rw [show am_up (pH (am_up (am_up (am_up H 53 4 (-1)) 53 3 0) 53 5 n) (txF (hbN (H 56) n) n 8).pos (m : Int) K' V' G' C') 54 (70 + 33 * H 54 1) (m : Int) = am_so (pH (am_up (am_up (am_up H 53 4 (-1)) 53 3 0) 53 5 n) (txF (hbN (H 56) n) n 8).pos (m : Int) K' V' G' C') 54 (mkL (H 54) K' V' G' C' (m : Int) 0) by rw [mkL_0, ← b54]; rfl]
              refine up_ind (n := 8) (p := fun k => ∀ t, am_WP (am_R (d + 7)) cd_Model_mark _ 80 [some (am_r 53), some (am_i n), some (am_i (bi ((txF (hbN (H 56) n) n 8).ok = 2))), some (am_i (70 + 33 * H 54 1)), some (am_i (k : Int)), t] [] (N, P, am_so (pH (am_up (am_up (am_up H 53 4 (-1)) 53 3 0) 53 5 n) (txF (hbN (H 56) n) n 8).pos (m : Int) K' V' G' C') 54 (mkL (H 54) K' V' G' C' (m : Int) k))) ?_ ?_ 0 (Nat.zero_le _) _
              · intro t
                refine st_iload rfl rfl ?_
                refine st_bipush rfl ?_
                refine st_icmp_ge rfl (fun h82 => ?_) (fun h82 => (by exfalso; omega))
                refine st_aload_n rfl rfl (by decide) ?_
                refine st_getR (kk := 0) rfl rfl rfl (pz_53_0 hP) rfl ?_
                refine st_iconst rfl ?_
                refine st_dup2 rfl rfl rfl ?_
                refine st_iaload rfl rfl (by omega) (by omega) ?_
                rw [am_so_at, show mkL (H 54) K' V' G' C' (m : Int) 8 1 = H 54 1 by unfold mkL; rw [if_neg (by omega), if_neg (by omega)]]
                refine st_iconst rfl ?_
                refine st_iadd rfl (by omega) ?_
                refine st_iastore rfl rfl (by omega) (by omega) ?_
                refine st_aload_n rfl rfl (by decide) ?_
                refine st_getR (kk := 0) rfl rfl rfl (pz_53_0 hP) rfl ?_
                refine st_iconst rfl ?_
                refine st_iaload rfl rfl (by omega) (by omega) ?_
                rw [am_up_eq, am_uf_eq]
                refine st_iconst rfl ?_
                refine st_isub rfl (by omega) ?_
                refine st_iret rfl (fun z => by first | exact absurd z (by decide) | exact bi_01 _ | decide | omega) ?_
                refine ⟨_, rfl, fun o q1 q2 q3 => by rw [am_up_ne q2, am_so_ne _ _ q2]; exact bo o q1 q3, fun k q => by rw [am_up_ne (by decide), am_so_ne _ _ (by decide)]; exact bk k q, fun q => by exfalso; omega, fun _ => ⟨by rw [am_up_ne (by decide), am_so_ne _ _ (by decide)]; exact b3, fun q => by exfalso; omega, fun _ => ⟨by rw [am_up_ne (by decide), am_so_ne _ _ (by decide)]; exact b4, fun q => by exfalso; omega, fun q => by exfalso; omega, fun q => ⟨am_ri (by omega), ?_⟩⟩⟩⟩
                rw [am_up_eq, am_so_at]
                unfold mkT
                rw [hm.1, ← mkA_cg hcg]
                rfl
              · intro k hk ihk
                intro t
                refine st_iload rfl rfl ?_
                refine st_bipush rfl ?_
                refine st_icmp_ge rfl (fun h82 => (by exfalso; omega)) (fun h82 => ?_)
                refine st_iload_n rfl rfl ?_
                refine st_iconst rfl ?_
                refine st_iadd rfl (by omega) ?_
                refine st_iconst rfl ?_
                refine st_iload rfl rfl ?_
                refine st_imul rfl (by omega) ?_
                refine st_iadd rfl (by omega) ?_
                refine st_istore (ls' := [_, _, _, _, _, _]) rfl (Nat.le_of_ble_eq_true rfl) rfl ?_
                refine st_aload_n rfl rfl (by decide) ?_
                refine st_getR (kk := 0) rfl rfl rfl (pz_53_0 hP) rfl ?_
                refine st_iload rfl rfl ?_
                refine st_iload rfl rfl ?_
                refine st_aload_n rfl rfl (by decide) ?_
                refine st_getI (kk := 7) rfl rfl (by decide) rfl ?_
                rw [show (am_so (pH (am_up (am_up (am_up H 53 4 (-1)) 53 3 0) 53 5 n) (txF (hbN (H 56) n) n 8).pos (m : Int) K' V' G' C') 54 (mkL (H 54) K' V' G' C' (m : Int) k)) 53 7 = (m : Int) by rw [am_so_ne _ _ (by decide)]; exact pH_7 _ _ _ _ _ _ _]
                refine st_icmp_ge rfl (fun h97 => ?_) (fun h97 => ?_)
                · refine st_iconst rfl ?_
                  first
                  | rw [show (am_so (pH (am_up (am_up (am_up H 53 4 (-1)) 53 3 0) 53 5 n) (txF (hbN (H 56) n) n 8).pos (m : Int) K' V' G' C') 54 (mkL (H 54) K' V' G' C' (m : Int) k)) 57 (k : Int) = ceF K' V' G' C' (m : Int) (k : Int) 0 from ce_0 (K := K') (V := V') (G := G') (C := C') (by omega)]
                  | (refine wp_top (x := 0) (y := ceF K' V' G' C' (m : Int) (k : Int) 0) (ce_n (by omega)) ?_)
                  refine st_iastore rfl rfl (by omega) (by omega) ?_
                  refine st_aload_n rfl rfl (by decide) ?_
                  refine st_getR (kk := 0) rfl rfl rfl (pz_53_0 hP) rfl ?_
                  refine st_iload rfl rfl ?_
                  refine st_iconst rfl ?_
                  refine st_iadd rfl (by omega) ?_
                  refine st_iload rfl rfl ?_
                  refine st_aload_n rfl rfl (by decide) ?_
                  refine st_getI (kk := 7) rfl rfl (by decide) rfl ?_
                  rw [show (am_up (am_so (pH (am_up (am_up (am_up H 53 4 (-1)) 53 3 0) 53 5 n) (txF (hbN (H 56) n) n 8).pos (m : Int) K' V' G' C') 54 (mkL (H 54) K' V' G' C' (m : Int) k)) 54 ((70 + 33 * H 54 1) + 1 + 4 * (k : Int)) (ceF K' V' G' C' (m : Int) (k : Int) 0)) 53 7 = (m : Int) by rw [am_up_ne (by decide)]; rw [am_so_ne _ _ (by decide)]; exact pH_7 _ _ _ _ _ _ _]
                  refine st_icmp_ge rfl (fun h113 => ?_) (fun h113 => ?_)
                  · refine st_iconst rfl ?_
                    first
                    | rw [show (am_up (am_so (pH (am_up (am_up (am_up H 53 4 (-1)) 53 3 0) 53 5 n) (txF (hbN (H 56) n) n 8).pos (m : Int) K' V' G' C') 54 (mkL (H 54) K' V' G' C' (m : Int) k)) 54 ((70 + 33 * H 54 1) + 1 + 4 * (k : Int)) (ceF K' V' G' C' (m : Int) (k : Int) 0)) 58 (k : Int) = ceF K' V' G' C' (m : Int) (k : Int) 1 from ce_1 (K := K') (V := V') (G := G') (C := C') (by omega)]
                    | (refine wp_top (x := 0) (y := ceF K' V' G' C' (m : Int) (k : Int) 1) (ce_n (by omega)) ?_)
                    refine st_iastore rfl rfl (by omega) (by omega) ?_
                    refine st_aload_n rfl rfl (by decide) ?_
                    refine st_getR (kk := 0) rfl rfl rfl (pz_53_0 hP) rfl ?_
                    refine st_iload rfl rfl ?_
                    refine st_iconst rfl ?_
                    refine st_iadd rfl (by omega) ?_
                    refine st_iload rfl rfl ?_
                    refine st_aload_n rfl rfl (by decide) ?_
                    refine st_getI (kk := 7) rfl rfl (by decide) rfl ?_
                    rw [show (am_up (am_up (am_so (pH (am_up (am_up (am_up H 53 4 (-1)) 53 3 0) 53 5 n) (txF (hbN (H 56) n) n 8).pos (m : Int) K' V' G' C') 54 (mkL (H 54) K' V' G' C' (m : Int) k)) 54 ((70 + 33 * H 54 1) + 1 + 4 * (k : Int)) (ceF K' V' G' C' (m : Int) (k : Int) 0)) 54 ((70 + 33 * H 54 1) + 1 + 4 * (k : Int) + 1) (ceF K' V' G' C' (m : Int) (k : Int) 1)) 53 7 = (m : Int) by rw [am_up_ne (by decide), am_up_ne (by decide)]; rw [am_so_ne _ _ (by decide)]; exact pH_7 _ _ _ _ _ _ _]
                    refine st_icmp_ge rfl (fun h129 => ?_) (fun h129 => ?_)
                    · refine st_iconst rfl ?_
                      first
                      | rw [show (am_up (am_up (am_so (pH (am_up (am_up (am_up H 53 4 (-1)) 53 3 0) 53 5 n) (txF (hbN (H 56) n) n 8).pos (m : Int) K' V' G' C') 54 (mkL (H 54) K' V' G' C' (m : Int) k)) 54 ((70 + 33 * H 54 1) + 1 + 4 * (k : Int)) (ceF K' V' G' C' (m : Int) (k : Int) 0)) 54 ((70 + 33 * H 54 1) + 1 + 4 * (k : Int) + 1) (ceF K' V' G' C' (m : Int) (k : Int) 1)) 59 (k : Int) = ceF K' V' G' C' (m : Int) (k : Int) 2 from ce_2 (K := K') (V := V') (G := G') (C := C') (by omega)]
                      | (refine wp_top (x := 0) (y := ceF K' V' G' C' (m : Int) (k : Int) 2) (ce_n (by omega)) ?_)
                      refine st_iastore rfl rfl (by omega) (by omega) ?_
                      refine st_aload_n rfl rfl (by decide) ?_
                      refine st_getR (kk := 0) rfl rfl rfl (pz_53_0 hP) rfl ?_
                      refine st_iload rfl rfl ?_
                      refine st_iconst rfl ?_
                      refine st_iadd rfl (by omega) ?_
                      refine st_iload rfl rfl ?_
                      refine st_aload_n rfl rfl (by decide) ?_
                      refine st_getI (kk := 7) rfl rfl (by decide) rfl ?_
                      rw [show (am_up (am_up (am_up (am_so (pH (am_up (am_up (am_up H 53 4 (-1)) 53 3 0) 53 5 n) (txF (hbN (H 56) n) n 8).pos (m : Int) K' V' G' C') 54 (mkL (H 54) K' V' G' C' (m : Int) k)) 54 ((70 + 33 * H 54 1) + 1 + 4 * (k : Int)) (ceF K' V' G' C' (m : Int) (k : Int) 0)) 54 ((70 + 33 * H 54 1) + 1 + 4 * (k : Int) + 1) (ceF K' V' G' C' (m : Int) (k : Int) 1)) 54 ((70 + 33 * H 54 1) + 1 + 4 * (k : Int) + 2) (ceF K' V' G' C' (m : Int) (k : Int) 2)) 53 7 = (m : Int) by rw [am_up_ne (by decide), am_up_ne (by decide), am_up_ne (by decide)]; rw [am_so_ne _ _ (by decide)]; exact pH_7 _ _ _ _ _ _ _]
                      refine st_icmp_ge rfl (fun h145 => ?_) (fun h145 => ?_)
                      · refine st_iconst rfl ?_
                        first
                        | rw [show (am_up (am_up (am_up (am_so (pH (am_up (am_up (am_up H 53 4 (-1)) 53 3 0) 53 5 n) (txF (hbN (H 56) n) n 8).pos (m : Int) K' V' G' C') 54 (mkL (H 54) K' V' G' C' (m : Int) k)) 54 ((70 + 33 * H 54 1) + 1 + 4 * (k : Int)) (ceF K' V' G' C' (m : Int) (k : Int) 0)) 54 ((70 + 33 * H 54 1) + 1 + 4 * (k : Int) + 1) (ceF K' V' G' C' (m : Int) (k : Int) 1)) 54 ((70 + 33 * H 54 1) + 1 + 4 * (k : Int) + 2) (ceF K' V' G' C' (m : Int) (k : Int) 2)) 60 (k : Int) = ceF K' V' G' C' (m : Int) (k : Int) 3 from ce_3 (K := K') (V := V') (G := G') (C := C') (by omega)]
                        | (refine wp_top (x := 0) (y := ceF K' V' G' C' (m : Int) (k : Int) 3) (ce_n (by omega)) ?_)
                        refine st_iastore rfl rfl (by omega) (by omega) ?_
                        refine st_iinc (ls' := [_, _, _, _, _, _]) rfl rfl (by omega) rfl ?_
                        refine st_goto rfl ?_
                        have hs := mkL_s (H 54) K' V' G' C' (m : Int) k
                        have ihk := ihk (some (am_i ((70 + 33 * H 54 1) + 1 + 4 * (k : Int))))
                        rw [← hs] at ihk
                        simp only [am_up, am_so_so, am_so_at] at ihk ⊢
                        exact ihk
                      · refine st_aload_n rfl rfl (by decide) ?_
                        refine st_getR (kk := 11) rfl rfl rfl (pz_53_11 hP) rfl ?_
                        refine st_iload rfl rfl ?_
                        refine st_iaload rfl rfl (by omega) (by omega) ?_
                        refine st_goto rfl ?_
                        first
                        | rw [show (am_up (am_up (am_up (am_so (pH (am_up (am_up (am_up H 53 4 (-1)) 53 3 0) 53 5 n) (txF (hbN (H 56) n) n 8).pos (m : Int) K' V' G' C') 54 (mkL (H 54) K' V' G' C' (m : Int) k)) 54 ((70 + 33 * H 54 1) + 1 + 4 * (k : Int)) (ceF K' V' G' C' (m : Int) (k : Int) 0)) 54 ((70 + 33 * H 54 1) + 1 + 4 * (k : Int) + 1) (ceF K' V' G' C' (m : Int) (k : Int) 1)) 54 ((70 + 33 * H 54 1) + 1 + 4 * (k : Int) + 2) (ceF K' V' G' C' (m : Int) (k : Int) 2)) 60 (k : Int) = ceF K' V' G' C' (m : Int) (k : Int) 3 from ce_3 (K := K') (V := V') (G := G') (C := C') (by omega)]
                        | (refine wp_top (x := 0) (y := ceF K' V' G' C' (m : Int) (k : Int) 3) (ce_n (by omega)) ?_)
                        refine st_iastore rfl rfl (by omega) (by omega) ?_
                        refine st_iinc (ls' := [_, _, _, _, _, _]) rfl rfl (by omega) rfl ?_
                        refine st_goto rfl ?_
                        have hs := mkL_s (H 54) K' V' G' C' (m : Int) k
                        have ihk := ihk (some (am_i ((70 + 33 * H 54 1) + 1 + 4 * (k : Int))))
                        rw [← hs] at ihk
                        simp only [am_up, am_so_so, am_so_at] at ihk ⊢
                        exact ihk
                    · refine st_aload_n rfl rfl (by decide) ?_
                      refine st_getR (kk := 10) rfl rfl rfl (pz_53_10 hP) rfl ?_
                      refine st_iload rfl rfl ?_
                      refine st_iaload rfl rfl (by omega) (by omega) ?_
                      refine st_goto rfl ?_
                      first
                      | rw [show (am_up (am_up (am_so (pH (am_up (am_up (am_up H 53 4 (-1)) 53 3 0) 53 5 n) (txF (hbN (H 56) n) n 8).pos (m : Int) K' V' G' C') 54 (mkL (H 54) K' V' G' C' (m : Int) k)) 54 ((70 + 33 * H 54 1) + 1 + 4 * (k : Int)) (ceF K' V' G' C' (m : Int) (k : Int) 0)) 54 ((70 + 33 * H 54 1) + 1 + 4 * (k : Int) + 1) (ceF K' V' G' C' (m : Int) (k : Int) 1)) 59 (k : Int) = ceF K' V' G' C' (m : Int) (k : Int) 2 from ce_2 (K := K') (V := V') (G := G') (C := C') (by omega)]
                      | (refine wp_top (x := 0) (y := ceF K' V' G' C' (m : Int) (k : Int) 2) (ce_n (by omega)) ?_)
                      refine st_iastore rfl rfl (by omega) (by omega) ?_
                      refine st_aload_n rfl rfl (by decide) ?_
                      refine st_getR (kk := 0) rfl rfl rfl (pz_53_0 hP) rfl ?_
                      refine st_iload rfl rfl ?_
                      refine st_iconst rfl ?_
                      refine st_iadd rfl (by omega) ?_
                      refine st_iload rfl rfl ?_
                      refine st_aload_n rfl rfl (by decide) ?_
                      refine st_getI (kk := 7) rfl rfl (by decide) rfl ?_
                      rw [show (am_up (am_up (am_up (am_so (pH (am_up (am_up (am_up H 53 4 (-1)) 53 3 0) 53 5 n) (txF (hbN (H 56) n) n 8).pos (m : Int) K' V' G' C') 54 (mkL (H 54) K' V' G' C' (m : Int) k)) 54 ((70 + 33 * H 54 1) + 1 + 4 * (k : Int)) (ceF K' V' G' C' (m : Int) (k : Int) 0)) 54 ((70 + 33 * H 54 1) + 1 + 4 * (k : Int) + 1) (ceF K' V' G' C' (m : Int) (k : Int) 1)) 54 ((70 + 33 * H 54 1) + 1 + 4 * (k : Int) + 2) (ceF K' V' G' C' (m : Int) (k : Int) 2)) 53 7 = (m : Int) by rw [am_up_ne (by decide), am_up_ne (by decide), am_up_ne (by decide)]; rw [am_so_ne _ _ (by decide)]; exact pH_7 _ _ _ _ _ _ _]
                      refine st_icmp_ge rfl (fun h145 => ?_) (fun h145 => ?_)
                      · refine st_iconst rfl ?_
                        first
                        | rw [show (am_up (am_up (am_up (am_so (pH (am_up (am_up (am_up H 53 4 (-1)) 53 3 0) 53 5 n) (txF (hbN (H 56) n) n 8).pos (m : Int) K' V' G' C') 54 (mkL (H 54) K' V' G' C' (m : Int) k)) 54 ((70 + 33 * H 54 1) + 1 + 4 * (k : Int)) (ceF K' V' G' C' (m : Int) (k : Int) 0)) 54 ((70 + 33 * H 54 1) + 1 + 4 * (k : Int) + 1) (ceF K' V' G' C' (m : Int) (k : Int) 1)) 54 ((70 + 33 * H 54 1) + 1 + 4 * (k : Int) + 2) (ceF K' V' G' C' (m : Int) (k : Int) 2)) 60 (k : Int) = ceF K' V' G' C' (m : Int) (k : Int) 3 from ce_3 (K := K') (V := V') (G := G') (C := C') (by omega)]
                        | (refine wp_top (x := 0) (y := ceF K' V' G' C' (m : Int) (k : Int) 3) (ce_n (by omega)) ?_)
                        refine st_iastore rfl rfl (by omega) (by omega) ?_
                        refine st_iinc (ls' := [_, _, _, _, _, _]) rfl rfl (by omega) rfl ?_
                        refine st_goto rfl ?_
                        have hs := mkL_s (H 54) K' V' G' C' (m : Int) k
                        have ihk := ihk (some (am_i ((70 + 33 * H 54 1) + 1 + 4 * (k : Int))))
                        rw [← hs] at ihk
                        simp only [am_up, am_so_so, am_so_at] at ihk ⊢
                        exact ihk
                      · refine st_aload_n rfl rfl (by decide) ?_
                        refine st_getR (kk := 11) rfl rfl rfl (pz_53_11 hP) rfl ?_
                        refine st_iload rfl rfl ?_
                        refine st_iaload rfl rfl (by omega) (by omega) ?_
                        refine st_goto rfl ?_
                        first
                        | rw [show (am_up (am_up (am_up (am_so (pH (am_up (am_up (am_up H 53 4 (-1)) 53 3 0) 53 5 n) (txF (hbN (H 56) n) n 8).pos (m : Int) K' V' G' C') 54 (mkL (H 54) K' V' G' C' (m : Int) k)) 54 ((70 + 33 * H 54 1) + 1 + 4 * (k : Int)) (ceF K' V' G' C' (m : Int) (k : Int) 0)) 54 ((70 + 33 * H 54 1) + 1 + 4 * (k : Int) + 1) (ceF K' V' G' C' (m : Int) (k : Int) 1)) 54 ((70 + 33 * H 54 1) + 1 + 4 * (k : Int) + 2) (ceF K' V' G' C' (m : Int) (k : Int) 2)) 60 (k : Int) = ceF K' V' G' C' (m : Int) (k : Int) 3 from ce_3 (K := K') (V := V') (G := G') (C := C') (by omega)]
                        | (refine wp_top (x := 0) (y := ceF K' V' G' C' (m : Int) (k : Int) 3) (ce_n (by omega)) ?_)
                        refine st_iastore rfl rfl (by omega) (by omega) ?_
                        refine st_iinc (ls' := [_, _, _, _, _, _]) rfl rfl (by omega) rfl ?_
                        refine st_goto rfl ?_
                        have hs := mkL_s (H 54) K' V' G' C' (m : Int) k
                        have ihk := ihk (some (am_i ((70 + 33 * H 54 1) + 1 + 4 * (k : Int))))
                        rw [← hs] at ihk
                        simp only [am_up, am_so_so, am_so_at] at ihk ⊢
                        exact ihk
                  · refine st_aload_n rfl rfl (by decide) ?_
                    refine st_getR (kk := 9) rfl rfl rfl (pz_53_9 hP) rfl ?_
                    refine st_iload rfl rfl ?_
                    refine st_iaload rfl rfl (by omega) (by omega) ?_
                    refine st_goto rfl ?_
                    first
                    | rw [show (am_up (am_so (pH (am_up (am_up (am_up H 53 4 (-1)) 53 3 0) 53 5 n) (txF (hbN (H 56) n) n 8).pos (m : Int) K' V' G' C') 54 (mkL (H 54) K' V' G' C' (m : Int) k)) 54 ((70 + 33 * H 54 1) + 1 + 4 * (k : Int)) (ceF K' V' G' C' (m : Int) (k : Int) 0)) 58 (k : Int) = ceF K' V' G' C' (m : Int) (k : Int) 1 from ce_1 (K := K') (V := V') (G := G') (C := C') (by omega)]
                    | (refine wp_top (x := 0) (y := ceF K' V' G' C' (m : Int) (k : Int) 1) (ce_n (by omega)) ?_)
                    refine st_iastore rfl rfl (by omega) (by omega) ?_
                    refine st_aload_n rfl rfl (by decide) ?_
                    refine st_getR (kk := 0) rfl rfl rfl (pz_53_0 hP) rfl ?_
                    refine st_iload rfl rfl ?_
                    refine st_iconst rfl ?_
                    refine st_iadd rfl (by omega) ?_
                    refine st_iload rfl rfl ?_
                    refine st_aload_n rfl rfl (by decide) ?_
                    refine st_getI (kk := 7) rfl rfl (by decide) rfl ?_
                    rw [show (am_up (am_up (am_so (pH (am_up (am_up (am_up H 53 4 (-1)) 53 3 0) 53 5 n) (txF (hbN (H 56) n) n 8).pos (m : Int) K' V' G' C') 54 (mkL (H 54) K' V' G' C' (m : Int) k)) 54 ((70 + 33 * H 54 1) + 1 + 4 * (k : Int)) (ceF K' V' G' C' (m : Int) (k : Int) 0)) 54 ((70 + 33 * H 54 1) + 1 + 4 * (k : Int) + 1) (ceF K' V' G' C' (m : Int) (k : Int) 1)) 53 7 = (m : Int) by rw [am_up_ne (by decide), am_up_ne (by decide)]; rw [am_so_ne _ _ (by decide)]; exact pH_7 _ _ _ _ _ _ _]
                    refine st_icmp_ge rfl (fun h129 => ?_) (fun h129 => ?_)
                    · refine st_iconst rfl ?_
                      first
                      | rw [show (am_up (am_up (am_so (pH (am_up (am_up (am_up H 53 4 (-1)) 53 3 0) 53 5 n) (txF (hbN (H 56) n) n 8).pos (m : Int) K' V' G' C') 54 (mkL (H 54) K' V' G' C' (m : Int) k)) 54 ((70 + 33 * H 54 1) + 1 + 4 * (k : Int)) (ceF K' V' G' C' (m : Int) (k : Int) 0)) 54 ((70 + 33 * H 54 1) + 1 + 4 * (k : Int) + 1) (ceF K' V' G' C' (m : Int) (k : Int) 1)) 59 (k : Int) = ceF K' V' G' C' (m : Int) (k : Int) 2 from ce_2 (K := K') (V := V') (G := G') (C := C') (by omega)]
                      | (refine wp_top (x := 0) (y := ceF K' V' G' C' (m : Int) (k : Int) 2) (ce_n (by omega)) ?_)
                      refine st_iastore rfl rfl (by omega) (by omega) ?_
                      refine st_aload_n rfl rfl (by decide) ?_
                      refine st_getR (kk := 0) rfl rfl rfl (pz_53_0 hP) rfl ?_
                      refine st_iload rfl rfl ?_
                      refine st_iconst rfl ?_
                      refine st_iadd rfl (by omega) ?_
                      refine st_iload rfl rfl ?_
                      refine st_aload_n rfl rfl (by decide) ?_
                      refine st_getI (kk := 7) rfl rfl (by decide) rfl ?_
                      rw [show (am_up (am_up (am_up (am_so (pH (am_up (am_up (am_up H 53 4 (-1)) 53 3 0) 53 5 n) (txF (hbN (H 56) n) n 8).pos (m : Int) K' V' G' C') 54 (mkL (H 54) K' V' G' C' (m : Int) k)) 54 ((70 + 33 * H 54 1) + 1 + 4 * (k : Int)) (ceF K' V' G' C' (m : Int) (k : Int) 0)) 54 ((70 + 33 * H 54 1) + 1 + 4 * (k : Int) + 1) (ceF K' V' G' C' (m : Int) (k : Int) 1)) 54 ((70 + 33 * H 54 1) + 1 + 4 * (k : Int) + 2) (ceF K' V' G' C' (m : Int) (k : Int) 2)) 53 7 = (m : Int) by rw [am_up_ne (by decide), am_up_ne (by decide), am_up_ne (by decide)]; rw [am_so_ne _ _ (by decide)]; exact pH_7 _ _ _ _ _ _ _]
                      refine st_icmp_ge rfl (fun h145 => ?_) (fun h145 => ?_)
                      · refine st_iconst rfl ?_
                        first
                        | rw [show (am_up (am_up (am_up (am_so (pH (am_up (am_up (am_up H 53 4 (-1)) 53 3 0) 53 5 n) (txF (hbN (H 56) n) n 8).pos (m : Int) K' V' G' C') 54 (mkL (H 54) K' V' G' C' (m : Int) k)) 54 ((70 + 33 * H 54 1) + 1 + 4 * (k : Int)) (ceF K' V' G' C' (m : Int) (k : Int) 0)) 54 ((70 + 33 * H 54 1) + 1 + 4 * (k : Int) + 1) (ceF K' V' G' C' (m : Int) (k : Int) 1)) 54 ((70 + 33 * H 54 1) + 1 + 4 * (k : Int) + 2) (ceF K' V' G' C' (m : Int) (k : Int) 2)) 60 (k : Int) = ceF K' V' G' C' (m : Int) (k : Int) 3 from ce_3 (K := K') (V := V') (G := G') (C := C') (by omega)]
                        | (refine wp_top (x := 0) (y := ceF K' V' G' C' (m : Int) (k : Int) 3) (ce_n (by omega)) ?_)
                        refine st_iastore rfl rfl (by omega) (by omega) ?_
                        refine st_iinc (ls' := [_, _, _, _, _, _]) rfl rfl (by omega) rfl ?_
                        refine st_goto rfl ?_
                        have hs := mkL_s (H 54) K' V' G' C' (m : Int) k
                        have ihk := ihk (some (am_i ((70 + 33 * H 54 1) + 1 + 4 * (k : Int))))
                        rw [← hs] at ihk
                        simp only [am_up, am_so_so, am_so_at] at ihk ⊢
                        exact ihk
                      · refine st_aload_n rfl rfl (by decide) ?_
                        refine st_getR (kk := 11) rfl rfl rfl (pz_53_11 hP) rfl ?_
                        refine st_iload rfl rfl ?_
                        refine st_iaload rfl rfl (by omega) (by omega) ?_
                        refine st_goto rfl ?_
                        first
                        | rw [show (am_up (am_up (am_up (am_so (pH (am_up (am_up (am_up H 53 4 (-1)) 53 3 0) 53 5 n) (txF (hbN (H 56) n) n 8).pos (m : Int) K' V' G' C') 54 (mkL (H 54) K' V' G' C' (m : Int) k)) 54 ((70 + 33 * H 54 1) + 1 + 4 * (k : Int)) (ceF K' V' G' C' (m : Int) (k : Int) 0)) 54 ((70 + 33 * H 54 1) + 1 + 4 * (k : Int) + 1) (ceF K' V' G' C' (m : Int) (k : Int) 1)) 54 ((70 + 33 * H 54 1) + 1 + 4 * (k : Int) + 2) (ceF K' V' G' C' (m : Int) (k : Int) 2)) 60 (k : Int) = ceF K' V' G' C' (m : Int) (k : Int) 3 from ce_3 (K := K') (V := V') (G := G') (C := C') (by omega)]
                        | (refine wp_top (x := 0) (y := ceF K' V' G' C' (m : Int) (k : Int) 3) (ce_n (by omega)) ?_)
                        refine st_iastore rfl rfl (by omega) (by omega) ?_
                        refine st_iinc (ls' := [_, _, _, _, _, _]) rfl rfl (by omega) rfl ?_
                        refine st_goto rfl ?_
                        have hs := mkL_s (H 54) K' V' G' C' (m : Int) k
                        have ihk := ihk (some (am_i ((70 + 33 * H 54 1) + 1 + 4 * (k : Int))))
                        rw [← hs] at ihk
                        simp only [am_up, am_so_so, am_so_at] at ihk ⊢
                        exact ihk
                    · refine st_aload_n rfl rfl (by decide) ?_
                      refine st_getR (kk := 10) rfl rfl rfl (pz_53_10 hP) rfl ?_
                      refine st_iload rfl rfl ?_
                      refine st_iaload rfl rfl (by omega) (by omega) ?_
                      refine st_goto rfl ?_
                      first
                      | rw [show (am_up (am_up (am_so (pH (am_up (am_up (am_up H 53 4 (-1)) 53 3 0) 53 5 n) (txF (hbN (H 56) n) n 8).pos (m : Int) K' V' G' C') 54 (mkL (H 54) K' V' G' C' (m : Int) k)) 54 ((70 + 33 * H 54 1) + 1 + 4 * (k : Int)) (ceF K' V' G' C' (m : Int) (k : Int) 0)) 54 ((70 + 33 * H 54 1) + 1 + 4 * (k : Int) + 1) (ceF K' V' G' C' (m : Int) (k : Int) 1)) 59 (k : Int) = ceF K' V' G' C' (m : Int) (k : Int) 2 from ce_2 (K := K') (V := V') (G := G') (C := C') (by omega)]
                      | (refine wp_top (x := 0) (y := ceF K' V' G' C' (m : Int) (k : Int) 2) (ce_n (by omega)) ?_)
                      refine st_iastore rfl rfl (by omega) (by omega) ?_
                      refine st_aload_n rfl rfl (by decide) ?_
                      refine st_getR (kk := 0) rfl rfl rfl (pz_53_0 hP) rfl ?_
                      refine st_iload rfl rfl ?_
                      refine st_iconst rfl ?_
                      refine st_iadd rfl (by omega) ?_
                      refine st_iload rfl rfl ?_
                      refine st_aload_n rfl rfl (by decide) ?_
                      refine st_getI (kk := 7) rfl rfl (by decide) rfl ?_
                      rw [show (am_up (am_up (am_up (am_so (pH (am_up (am_up (am_up H 53 4 (-1)) 53 3 0) 53 5 n) (txF (hbN (H 56) n) n 8).pos (m : Int) K' V' G' C') 54 (mkL (H 54) K' V' G' C' (m : Int) k)) 54 ((70 + 33 * H 54 1) + 1 + 4 * (k : Int)) (ceF K' V' G' C' (m : Int) (k : Int) 0)) 54 ((70 + 33 * H 54 1) + 1 + 4 * (k : Int) + 1) (ceF K' V' G' C' (m : Int) (k : Int) 1)) 54 ((70 + 33 * H 54 1) + 1 + 4 * (k : Int) + 2) (ceF K' V' G' C' (m : Int) (k : Int) 2)) 53 7 = (m : Int) by rw [am_up_ne (by decide), am_up_ne (by decide), am_up_ne (by decide)]; rw [am_so_ne _ _ (by decide)]; exact pH_7 _ _ _ _ _ _ _]
                      refine st_icmp_ge rfl (fun h145 => ?_) (fun h145 => ?_)
                      · refine st_iconst rfl ?_
                        first
                        | rw [show (am_up (am_up (am_up (am_so (pH (am_up (am_up (am_up H 53 4 (-1)) 53 3 0) 53 5 n) (txF (hbN (H 56) n) n 8).pos (m : Int) K' V' G' C') 54 (mkL (H 54) K' V' G' C' (m : Int) k)) 54 ((70 + 33 * H 54 1) + 1 + 4 * (k : Int)) (ceF K' V' G' C' (m : Int) (k : Int) 0)) 54 ((70 + 33 * H 54 1) + 1 + 4 * (k : Int) + 1) (ceF K' V' G' C' (m : Int) (k : Int) 1)) 54 ((70 + 33 * H 54 1) + 1 + 4 * (k : Int) + 2) (ceF K' V' G' C' (m : Int) (k : Int) 2)) 60 (k : Int) = ceF K' V' G' C' (m : Int) (k : Int) 3 from ce_3 (K := K') (V := V') (G := G') (C := C') (by omega)]
                        | (refine wp_top (x := 0) (y := ceF K' V' G' C' (m : Int) (k : Int) 3) (ce_n (by omega)) ?_)
                        refine st_iastore rfl rfl (by omega) (by omega) ?_
                        refine st_iinc (ls' := [_, _, _, _, _, _]) rfl rfl (by omega) rfl ?_
                        refine st_goto rfl ?_
                        have hs := mkL_s (H 54) K' V' G' C' (m : Int) k
                        have ihk := ihk (some (am_i ((70 + 33 * H 54 1) + 1 + 4 * (k : Int))))
                        rw [← hs] at ihk
                        simp only [am_up, am_so_so, am_so_at] at ihk ⊢
                        exact ihk
                      · refine st_aload_n rfl rfl (by decide) ?_
                        refine st_getR (kk := 11) rfl rfl rfl (pz_53_11 hP) rfl ?_
                        refine st_iload rfl rfl ?_
                        refine st_iaload rfl rfl (by omega) (by omega) ?_
                        refine st_goto rfl ?_
                        first
                        | rw [show (am_up (am_up (am_up (am_so (pH (am_up (am_up (am_up H 53 4 (-1)) 53 3 0) 53 5 n) (txF (hbN (H 56) n) n 8).pos (m : Int) K' V' G' C') 54 (mkL (H 54) K' V' G' C' (m : Int) k)) 54 ((70 + 33 * H 54 1) + 1 + 4 * (k : Int)) (ceF K' V' G' C' (m : Int) (k : Int) 0)) 54 ((70 + 33 * H 54 1) + 1 + 4 * (k : Int) + 1) (ceF K' V' G' C' (m : Int) (k : Int) 1)) 54 ((70 + 33 * H 54 1) + 1 + 4 * (k : Int) + 2) (ceF K' V' G' C' (m : Int) (k : Int) 2)) 60 (k : Int) = ceF K' V' G' C' (m : Int) (k : Int) 3 from ce_3 (K := K') (V := V') (G := G') (C := C') (by omega)]
                        | (refine wp_top (x := 0) (y := ceF K' V' G' C' (m : Int) (k : Int) 3) (ce_n (by omega)) ?_)
                        refine st_iastore rfl rfl (by omega) (by omega) ?_
                        refine st_iinc (ls' := [_, _, _, _, _, _]) rfl rfl (by omega) rfl ?_
                        refine st_goto rfl ?_
                        have hs := mkL_s (H 54) K' V' G' C' (m : Int) k
                        have ihk := ihk (some (am_i ((70 + 33 * H 54 1) + 1 + 4 * (k : Int))))
                        rw [← hs] at ihk
                        simp only [am_up, am_so_so, am_so_at] at ihk ⊢
                        exact ihk
                · refine st_aload_n rfl rfl (by decide) ?_
                  refine st_getR (kk := 8) rfl rfl rfl (pz_53_8 hP) rfl ?_
                  refine st_iload rfl rfl ?_
                  refine st_iaload rfl rfl (by omega) (by omega) ?_
                  refine st_goto rfl ?_
                  first
                  | rw [show (am_so (pH (am_up (am_up (am_up H 53 4 (-1)) 53 3 0) 53 5 n) (txF (hbN (H 56) n) n 8).pos (m : Int) K' V' G' C') 54 (mkL (H 54) K' V' G' C' (m : Int) k)) 57 (k : Int) = ceF K' V' G' C' (m : Int) (k : Int) 0 from ce_0 (K := K') (V := V') (G := G') (C := C') (by omega)]
                  | (refine wp_top (x := 0) (y := ceF K' V' G' C' (m : Int) (k : Int) 0) (ce_n (by omega)) ?_)
                  refine st_iastore rfl rfl (by omega) (by omega) ?_
                  refine st_aload_n rfl rfl (by decide) ?_
                  refine st_getR (kk := 0) rfl rfl rfl (pz_53_0 hP) rfl ?_
                  refine st_iload rfl rfl ?_
                  refine st_iconst rfl ?_
                  refine st_iadd rfl (by omega) ?_
                  refine st_iload rfl rfl ?_
                  refine st_aload_n rfl rfl (by decide) ?_
                  refine st_getI (kk := 7) rfl rfl (by decide) rfl ?_
                  rw [show (am_up (am_so (pH (am_up (am_up (am_up H 53 4 (-1)) 53 3 0) 53 5 n) (txF (hbN (H 56) n) n 8).pos (m : Int) K' V' G' C') 54 (mkL (H 54) K' V' G' C' (m : Int) k)) 54 ((70 + 33 * H 54 1) + 1 + 4 * (k : Int)) (ceF K' V' G' C' (m : Int) (k : Int) 0)) 53 7 = (m : Int) by rw [am_up_ne (by decide)]; rw [am_so_ne _ _ (by decide)]; exact pH_7 _ _ _ _ _ _ _]
                  refine st_icmp_ge rfl (fun h113 => ?_) (fun h113 => ?_)
                  · refine st_iconst rfl ?_
                    first
                    | rw [show (am_up (am_so (pH (am_up (am_up (am_up H 53 4 (-1)) 53 3 0) 53 5 n) (txF (hbN (H 56) n) n 8).pos (m : Int) K' V' G' C') 54 (mkL (H 54) K' V' G' C' (m : Int) k)) 54 ((70 + 33 * H 54 1) + 1 + 4 * (k : Int)) (ceF K' V' G' C' (m : Int) (k : Int) 0)) 58 (k : Int) = ceF K' V' G' C' (m : Int) (k : Int) 1 from ce_1 (K := K') (V := V') (G := G') (C := C') (by omega)]
                    | (refine wp_top (x := 0) (y := ceF K' V' G' C' (m : Int) (k : Int) 1) (ce_n (by omega)) ?_)
                    refine st_iastore rfl rfl (by omega) (by omega) ?_
                    refine st_aload_n rfl rfl (by decide) ?_
                    refine st_getR (kk := 0) rfl rfl rfl (pz_53_0 hP) rfl ?_
                    refine st_iload rfl rfl ?_
                    refine st_iconst rfl ?_
                    refine st_iadd rfl (by omega) ?_
                    refine st_iload rfl rfl ?_
                    refine st_aload_n rfl rfl (by decide) ?_
                    refine st_getI (kk := 7) rfl rfl (by decide) rfl ?_
                    rw [show (am_up (am_up (am_so (pH (am_up (am_up (am_up H 53 4 (-1)) 53 3 0) 53 5 n) (txF (hbN (H 56) n) n 8).pos (m : Int) K' V' G' C') 54 (mkL (H 54) K' V' G' C' (m : Int) k)) 54 ((70 + 33 * H 54 1) + 1 + 4 * (k : Int)) (ceF K' V' G' C' (m : Int) (k : Int) 0)) 54 ((70 + 33 * H 54 1) + 1 + 4 * (k : Int) + 1) (ceF K' V' G' C' (m : Int) (k : Int) 1)) 53 7 = (m : Int) by rw [am_up_ne (by decide), am_up_ne (by decide)]; rw [am_so_ne _ _ (by decide)]; exact pH_7 _ _ _ _ _ _ _]
                    refine st_icmp_ge rfl (fun h129 => ?_) (fun h129 => ?_)
                    · refine st_iconst rfl ?_
                      first
                      | rw [show (am_up (am_up (am_so (pH (am_up (am_up (am_up H 53 4 (-1)) 53 3 0) 53 5 n) (txF (hbN (H 56) n) n 8).pos (m : Int) K' V' G' C') 54 (mkL (H 54) K' V' G' C' (m : Int) k)) 54 ((70 + 33 * H 54 1) + 1 + 4 * (k : Int)) (ceF K' V' G' C' (m : Int) (k : Int) 0)) 54 ((70 + 33 * H 54 1) + 1 + 4 * (k : Int) + 1) (ceF K' V' G' C' (m : Int) (k : Int) 1)) 59 (k : Int) = ceF K' V' G' C' (m : Int) (k : Int) 2 from ce_2 (K := K') (V := V') (G := G') (C := C') (by omega)]
                      | (refine wp_top (x := 0) (y := ceF K' V' G' C' (m : Int) (k : Int) 2) (ce_n (by omega)) ?_)
                      refine st_iastore rfl rfl (by omega) (by omega) ?_
                      refine st_aload_n rfl rfl (by decide) ?_
                      refine st_getR (kk := 0) rfl rfl rfl (pz_53_0 hP) rfl ?_
                      refine st_iload rfl rfl ?_
                      refine st_iconst rfl ?_
                      refine st_iadd rfl (by omega) ?_
                      refine st_iload rfl rfl ?_
                      refine st_aload_n rfl rfl (by decide) ?_
                      refine st_getI (kk := 7) rfl rfl (by decide) rfl ?_
                      rw [show (am_up (am_up (am_up (am_so (pH (am_up (am_up (am_up H 53 4 (-1)) 53 3 0) 53 5 n) (txF (hbN (H 56) n) n 8).pos (m : Int) K' V' G' C') 54 (mkL (H 54) K' V' G' C' (m : Int) k)) 54 ((70 + 33 * H 54 1) + 1 + 4 * (k : Int)) (ceF K' V' G' C' (m : Int) (k : Int) 0)) 54 ((70 + 33 * H 54 1) + 1 + 4 * (k : Int) + 1) (ceF K' V' G' C' (m : Int) (k : Int) 1)) 54 ((70 + 33 * H 54 1) + 1 + 4 * (k : Int) + 2) (ceF K' V' G' C' (m : Int) (k : Int) 2)) 53 7 = (m : Int) by rw [am_up_ne (by decide), am_up_ne (by decide), am_up_ne (by decide)]; rw [am_so_ne _ _ (by decide)]; exact pH_7 _ _ _ _ _ _ _]
                      refine st_icmp_ge rfl (fun h145 => ?_) (fun h145 => ?_)
                      · refine st_iconst rfl ?_
                        first
                        | rw [show (am_up (am_up (am_up (am_so (pH (am_up (am_up (am_up H 53 4 (-1)) 53 3 0) 53 5 n) (txF (hbN (H 56) n) n 8).pos (m : Int) K' V' G' C') 54 (mkL (H 54) K' V' G' C' (m : Int) k)) 54 ((70 + 33 * H 54 1) + 1 + 4 * (k : Int)) (ceF K' V' G' C' (m : Int) (k : Int) 0)) 54 ((70 + 33 * H 54 1) + 1 + 4 * (k : Int) + 1) (ceF K' V' G' C' (m : Int) (k : Int) 1)) 54 ((70 + 33 * H 54 1) + 1 + 4 * (k : Int) + 2) (ceF K' V' G' C' (m : Int) (k : Int) 2)) 60 (k : Int) = ceF K' V' G' C' (m : Int) (k : Int) 3 from ce_3 (K := K') (V := V') (G := G') (C := C') (by omega)]
                        | (refine wp_top (x := 0) (y := ceF K' V' G' C' (m : Int) (k : Int) 3) (ce_n (by omega)) ?_)
                        refine st_iastore rfl rfl (by omega) (by omega) ?_
                        refine st_iinc (ls' := [_, _, _, _, _, _]) rfl rfl (by omega) rfl ?_
                        refine st_goto rfl ?_
                        have hs := mkL_s (H 54) K' V' G' C' (m : Int) k
                        have ihk := ihk (some (am_i ((70 + 33 * H 54 1) + 1 + 4 * (k : Int))))
                        rw [← hs] at ihk
                        simp only [am_up, am_so_so, am_so_at] at ihk ⊢
                        exact ihk
                      · refine st_aload_n rfl rfl (by decide) ?_
                        refine st_getR (kk := 11) rfl rfl rfl (pz_53_11 hP) rfl ?_
                        refine st_iload rfl rfl ?_
                        refine st_iaload rfl rfl (by omega) (by omega) ?_
                        refine st_goto rfl ?_
                        first
                        | rw [show (am_up (am_up (am_up (am_so (pH (am_up (am_up (am_up H 53 4 (-1)) 53 3 0) 53 5 n) (txF (hbN (H 56) n) n 8).pos (m : Int) K' V' G' C') 54 (mkL (H 54) K' V' G' C' (m : Int) k)) 54 ((70 + 33 * H 54 1) + 1 + 4 * (k : Int)) (ceF K' V' G' C' (m : Int) (k : Int) 0)) 54 ((70 + 33 * H 54 1) + 1 + 4 * (k : Int) + 1) (ceF K' V' G' C' (m : Int) (k : Int) 1)) 54 ((70 + 33 * H 54 1) + 1 + 4 * (k : Int) + 2) (ceF K' V' G' C' (m : Int) (k : Int) 2)) 60 (k : Int) = ceF K' V' G' C' (m : Int) (k : Int) 3 from ce_3 (K := K') (V := V') (G := G') (C := C') (by omega)]
                        | (refine wp_top (x := 0) (y := ceF K' V' G' C' (m : Int) (k : Int) 3) (ce_n (by omega)) ?_)
                        refine st_iastore rfl rfl (by omega) (by omega) ?_
                        refine st_iinc (ls' := [_, _, _, _, _, _]) rfl rfl (by omega) rfl ?_
                        refine st_goto rfl ?_
                        have hs := mkL_s (H 54) K' V' G' C' (m : Int) k
                        have ihk := ihk (some (am_i ((70 + 33 * H 54 1) + 1 + 4 * (k : Int))))
                        rw [← hs] at ihk
                        simp only [am_up, am_so_so, am_so_at] at ihk ⊢
                        exact ihk
                    · refine st_aload_n rfl rfl (by decide) ?_
                      refine st_getR (kk := 10) rfl rfl rfl (pz_53_10 hP) rfl ?_
                      refine st_iload rfl rfl ?_
                      refine st_iaload rfl rfl (by omega) (by omega) ?_
                      refine st_goto rfl ?_
                      first
                      | rw [show (am_up (am_up (am_so (pH (am_up (am_up (am_up H 53 4 (-1)) 53 3 0) 53 5 n) (txF (hbN (H 56) n) n 8).pos (m : Int) K' V' G' C') 54 (mkL (H 54) K' V' G' C' (m : Int) k)) 54 ((70 + 33 * H 54 1) + 1 + 4 * (k : Int)) (ceF K' V' G' C' (m : Int) (k : Int) 0)) 54 ((70 + 33 * H 54 1) + 1 + 4 * (k : Int) + 1) (ceF K' V' G' C' (m : Int) (k : Int) 1)) 59 (k : Int) = ceF K' V' G' C' (m : Int) (k : Int) 2 from ce_2 (K := K') (V := V') (G := G') (C := C') (by omega)]
                      | (refine wp_top (x := 0) (y := ceF K' V' G' C' (m : Int) (k : Int) 2) (ce_n (by omega)) ?_)
                      refine st_iastore rfl rfl (by omega) (by omega) ?_
                      refine st_aload_n rfl rfl (by decide) ?_
                      refine st_getR (kk := 0) rfl rfl rfl (pz_53_0 hP) rfl ?_
                      refine st_iload rfl rfl ?_
                      refine st_iconst rfl ?_
                      refine st_iadd rfl (by omega) ?_
                      refine st_iload rfl rfl ?_
                      refine st_aload_n rfl rfl (by decide) ?_
                      refine st_getI (kk := 7) rfl rfl (by decide) rfl ?_
                      rw [show (am_up (am_up (am_up (am_so (pH (am_up (am_up (am_up H 53 4 (-1)) 53 3 0) 53 5 n) (txF (hbN (H 56) n) n 8).pos (m : Int) K' V' G' C') 54 (mkL (H 54) K' V' G' C' (m : Int) k)) 54 ((70 + 33 * H 54 1) + 1 + 4 * (k : Int)) (ceF K' V' G' C' (m : Int) (k : Int) 0)) 54 ((70 + 33 * H 54 1) + 1 + 4 * (k : Int) + 1) (ceF K' V' G' C' (m : Int) (k : Int) 1)) 54 ((70 + 33 * H 54 1) + 1 + 4 * (k : Int) + 2) (ceF K' V' G' C' (m : Int) (k : Int) 2)) 53 7 = (m : Int) by rw [am_up_ne (by decide), am_up_ne (by decide), am_up_ne (by decide)]; rw [am_so_ne _ _ (by decide)]; exact pH_7 _ _ _ _ _ _ _]
                      refine st_icmp_ge rfl (fun h145 => ?_) (fun h145 => ?_)
                      · refine st_iconst rfl ?_
                        first
                        | rw [show (am_up (am_up (am_up (am_so (pH (am_up (am_up (am_up H 53 4 (-1)) 53 3 0) 53 5 n) (txF (hbN (H 56) n) n 8).pos (m : Int) K' V' G' C') 54 (mkL (H 54) K' V' G' C' (m : Int) k)) 54 ((70 + 33 * H 54 1) + 1 + 4 * (k : Int)) (ceF K' V' G' C' (m : Int) (k : Int) 0)) 54 ((70 + 33 * H 54 1) + 1 + 4 * (k : Int) + 1) (ceF K' V' G' C' (m : Int) (k : Int) 1)) 54 ((70 + 33 * H 54 1) + 1 + 4 * (k : Int) + 2) (ceF K' V' G' C' (m : Int) (k : Int) 2)) 60 (k : Int) = ceF K' V' G' C' (m : Int) (k : Int) 3 from ce_3 (K := K') (V := V') (G := G') (C := C') (by omega)]
                        | (refine wp_top (x := 0) (y := ceF K' V' G' C' (m : Int) (k : Int) 3) (ce_n (by omega)) ?_)
                        refine st_iastore rfl rfl (by omega) (by omega) ?_
                        refine st_iinc (ls' := [_, _, _, _, _, _]) rfl rfl (by omega) rfl ?_
                        refine st_goto rfl ?_
                        have hs := mkL_s (H 54) K' V' G' C' (m : Int) k
                        have ihk := ihk (some (am_i ((70 + 33 * H 54 1) + 1 + 4 * (k : Int))))
                        rw [← hs] at ihk
                        simp only [am_up, am_so_so, am_so_at] at ihk ⊢
                        exact ihk
                      · refine st_aload_n rfl rfl (by decide) ?_
                        refine st_getR (kk := 11) rfl rfl rfl (pz_53_11 hP) rfl ?_
                        refine st_iload rfl rfl ?_
                        refine st_iaload rfl rfl (by omega) (by omega) ?_
                        refine st_goto rfl ?_
                        first
                        | rw [show (am_up (am_up (am_up (am_so (pH (am_up (am_up (am_up H 53 4 (-1)) 53 3 0) 53 5 n) (txF (hbN (H 56) n) n 8).pos (m : Int) K' V' G' C') 54 (mkL (H 54) K' V' G' C' (m : Int) k)) 54 ((70 + 33 * H 54 1) + 1 + 4 * (k : Int)) (ceF K' V' G' C' (m : Int) (k : Int) 0)) 54 ((70 + 33 * H 54 1) + 1 + 4 * (k : Int) + 1) (ceF K' V' G' C' (m : Int) (k : Int) 1)) 54 ((70 + 33 * H 54 1) + 1 + 4 * (k : Int) + 2) (ceF K' V' G' C' (m : Int) (k : Int) 2)) 60 (k : Int) = ceF K' V' G' C' (m : Int) (k : Int) 3 from ce_3 (K := K') (V := V') (G := G') (C := C') (by omega)]
                        | (refine wp_top (x := 0) (y := ceF K' V' G' C' (m : Int) (k : Int) 3) (ce_n (by omega)) ?_)
                        refine st_iastore rfl rfl (by omega) (by omega) ?_
                        refine st_iinc (ls' := [_, _, _, _, _, _]) rfl rfl (by omega) rfl ?_
                        refine st_goto rfl ?_
                        have hs := mkL_s (H 54) K' V' G' C' (m : Int) k
                        have ihk := ihk (some (am_i ((70 + 33 * H 54 1) + 1 + 4 * (k : Int))))
                        rw [← hs] at ihk
                        simp only [am_up, am_so_so, am_so_at] at ihk ⊢
                        exact ihk
                  · refine st_aload_n rfl rfl (by decide) ?_
                    refine st_getR (kk := 9) rfl rfl rfl (pz_53_9 hP) rfl ?_
                    refine st_iload rfl rfl ?_
                    refine st_iaload rfl rfl (by omega) (by omega) ?_
                    refine st_goto rfl ?_
                    first
                    | rw [show (am_up (am_so (pH (am_up (am_up (am_up H 53 4 (-1)) 53 3 0) 53 5 n) (txF (hbN (H 56) n) n 8).pos (m : Int) K' V' G' C') 54 (mkL (H 54) K' V' G' C' (m : Int) k)) 54 ((70 + 33 * H 54 1) + 1 + 4 * (k : Int)) (ceF K' V' G' C' (m : Int) (k : Int) 0)) 58 (k : Int) = ceF K' V' G' C' (m : Int) (k : Int) 1 from ce_1 (K := K') (V := V') (G := G') (C := C') (by omega)]
                    | (refine wp_top (x := 0) (y := ceF K' V' G' C' (m : Int) (k : Int) 1) (ce_n (by omega)) ?_)
                    refine st_iastore rfl rfl (by omega) (by omega) ?_
                    refine st_aload_n rfl rfl (by decide) ?_
                    refine st_getR (kk := 0) rfl rfl rfl (pz_53_0 hP) rfl ?_
                    refine st_iload rfl rfl ?_
                    refine st_iconst rfl ?_
                    refine st_iadd rfl (by omega) ?_
                    refine st_iload rfl rfl ?_
                    refine st_aload_n rfl rfl (by decide) ?_
                    refine st_getI (kk := 7) rfl rfl (by decide) rfl ?_
                    rw [show (am_up (am_up (am_so (pH (am_up (am_up (am_up H 53 4 (-1)) 53 3 0) 53 5 n) (txF (hbN (H 56) n) n 8).pos (m : Int) K' V' G' C') 54 (mkL (H 54) K' V' G' C' (m : Int) k)) 54 ((70 + 33 * H 54 1) + 1 + 4 * (k : Int)) (ceF K' V' G' C' (m : Int) (k : Int) 0)) 54 ((70 + 33 * H 54 1) + 1 + 4 * (k : Int) + 1) (ceF K' V' G' C' (m : Int) (k : Int) 1)) 53 7 = (m : Int) by rw [am_up_ne (by decide), am_up_ne (by decide)]; rw [am_so_ne _ _ (by decide)]; exact pH_7 _ _ _ _ _ _ _]
                    refine st_icmp_ge rfl (fun h129 => ?_) (fun h129 => ?_)
                    · refine st_iconst rfl ?_
                      first
                      | rw [show (am_up (am_up (am_so (pH (am_up (am_up (am_up H 53 4 (-1)) 53 3 0) 53 5 n) (txF (hbN (H 56) n) n 8).pos (m : Int) K' V' G' C') 54 (mkL (H 54) K' V' G' C' (m : Int) k)) 54 ((70 + 33 * H 54 1) + 1 + 4 * (k : Int)) (ceF K' V' G' C' (m : Int) (k : Int) 0)) 54 ((70 + 33 * H 54 1) + 1 + 4 * (k : Int) + 1) (ceF K' V' G' C' (m : Int) (k : Int) 1)) 59 (k : Int) = ceF K' V' G' C' (m : Int) (k : Int) 2 from ce_2 (K := K') (V := V') (G := G') (C := C') (by omega)]
                      | (refine wp_top (x := 0) (y := ceF K' V' G' C' (m : Int) (k : Int) 2) (ce_n (by omega)) ?_)
                      refine st_iastore rfl rfl (by omega) (by omega) ?_
                      refine st_aload_n rfl rfl (by decide) ?_
                      refine st_getR (kk := 0) rfl rfl rfl (pz_53_0 hP) rfl ?_
                      refine st_iload rfl rfl ?_
                      refine st_iconst rfl ?_
                      refine st_iadd rfl (by omega) ?_
                      refine st_iload rfl rfl ?_
                      refine st_aload_n rfl rfl (by decide) ?_
                      refine st_getI (kk := 7) rfl rfl (by decide) rfl ?_
                      rw [show (am_up (am_up (am_up (am_so (pH (am_up (am_up (am_up H 53 4 (-1)) 53 3 0) 53 5 n) (txF (hbN (H 56) n) n 8).pos (m : Int) K' V' G' C') 54 (mkL (H 54) K' V' G' C' (m : Int) k)) 54 ((70 + 33 * H 54 1) + 1 + 4 * (k : Int)) (ceF K' V' G' C' (m : Int) (k : Int) 0)) 54 ((70 + 33 * H 54 1) + 1 + 4 * (k : Int) + 1) (ceF K' V' G' C' (m : Int) (k : Int) 1)) 54 ((70 + 33 * H 54 1) + 1 + 4 * (k : Int) + 2) (ceF K' V' G' C' (m : Int) (k : Int) 2)) 53 7 = (m : Int) by rw [am_up_ne (by decide), am_up_ne (by decide), am_up_ne (by decide)]; rw [am_so_ne _ _ (by decide)]; exact pH_7 _ _ _ _ _ _ _]
                      refine st_icmp_ge rfl (fun h145 => ?_) (fun h145 => ?_)
                      · refine st_iconst rfl ?_
                        first
                        | rw [show (am_up (am_up (am_up (am_so (pH (am_up (am_up (am_up H 53 4 (-1)) 53 3 0) 53 5 n) (txF (hbN (H 56) n) n 8).pos (m : Int) K' V' G' C') 54 (mkL (H 54) K' V' G' C' (m : Int) k)) 54 ((70 + 33 * H 54 1) + 1 + 4 * (k : Int)) (ceF K' V' G' C' (m : Int) (k : Int) 0)) 54 ((70 + 33 * H 54 1) + 1 + 4 * (k : Int) + 1) (ceF K' V' G' C' (m : Int) (k : Int) 1)) 54 ((70 + 33 * H 54 1) + 1 + 4 * (k : Int) + 2) (ceF K' V' G' C' (m : Int) (k : Int) 2)) 60 (k : Int) = ceF K' V' G' C' (m : Int) (k : Int) 3 from ce_3 (K := K') (V := V') (G := G') (C := C') (by omega)]
                        | (refine wp_top (x := 0) (y := ceF K' V' G' C' (m : Int) (k : Int) 3) (ce_n (by omega)) ?_)
                        refine st_iastore rfl rfl (by omega) (by omega) ?_
                        refine st_iinc (ls' := [_, _, _, _, _, _]) rfl rfl (by omega) rfl ?_
                        refine st_goto rfl ?_
                        have hs := mkL_s (H 54) K' V' G' C' (m : Int) k
                        have ihk := ihk (some (am_i ((70 + 33 * H 54 1) + 1 + 4 * (k : Int))))
                        rw [← hs] at ihk
                        simp only [am_up, am_so_so, am_so_at] at ihk ⊢
                        exact ihk
                      · refine st_aload_n rfl rfl (by decide) ?_
                        refine st_getR (kk := 11) rfl rfl rfl (pz_53_11 hP) rfl ?_
                        refine st_iload rfl rfl ?_
                        refine st_iaload rfl rfl (by omega) (by omega) ?_
                        refine st_goto rfl ?_
                        first
                        | rw [show (am_up (am_up (am_up (am_so (pH (am_up (am_up (am_up H 53 4 (-1)) 53 3 0) 53 5 n) (txF (hbN (H 56) n) n 8).pos (m : Int) K' V' G' C') 54 (mkL (H 54) K' V' G' C' (m : Int) k)) 54 ((70 + 33 * H 54 1) + 1 + 4 * (k : Int)) (ceF K' V' G' C' (m : Int) (k : Int) 0)) 54 ((70 + 33 * H 54 1) + 1 + 4 * (k : Int) + 1) (ceF K' V' G' C' (m : Int) (k : Int) 1)) 54 ((70 + 33 * H 54 1) + 1 + 4 * (k : Int) + 2) (ceF K' V' G' C' (m : Int) (k : Int) 2)) 60 (k : Int) = ceF K' V' G' C' (m : Int) (k : Int) 3 from ce_3 (K := K') (V := V') (G := G') (C := C') (by omega)]
                        | (refine wp_top (x := 0) (y := ceF K' V' G' C' (m : Int) (k : Int) 3) (ce_n (by omega)) ?_)
                        refine st_iastore rfl rfl (by omega) (by omega) ?_
                        refine st_iinc (ls' := [_, _, _, _, _, _]) rfl rfl (by omega) rfl ?_
                        refine st_goto rfl ?_
                        have hs := mkL_s (H 54) K' V' G' C' (m : Int) k
                        have ihk := ihk (some (am_i ((70 + 33 * H 54 1) + 1 + 4 * (k : Int))))
                        rw [← hs] at ihk
                        simp only [am_up, am_so_so, am_so_at] at ihk ⊢
                        exact ihk
                    · refine st_aload_n rfl rfl (by decide) ?_
                      refine st_getR (kk := 10) rfl rfl rfl (pz_53_10 hP) rfl ?_
                      refine st_iload rfl rfl ?_
                      refine st_iaload rfl rfl (by omega) (by omega) ?_
                      refine st_goto rfl ?_
                      first
                      | rw [show (am_up (am_up (am_so (pH (am_up (am_up (am_up H 53 4 (-1)) 53 3 0) 53 5 n) (txF (hbN (H 56) n) n 8).pos (m : Int) K' V' G' C') 54 (mkL (H 54) K' V' G' C' (m : Int) k)) 54 ((70 + 33 * H 54 1) + 1 + 4 * (k : Int)) (ceF K' V' G' C' (m : Int) (k : Int) 0)) 54 ((70 + 33 * H 54 1) + 1 + 4 * (k : Int) + 1) (ceF K' V' G' C' (m : Int) (k : Int) 1)) 59 (k : Int) = ceF K' V' G' C' (m : Int) (k : Int) 2 from ce_2 (K := K') (V := V') (G := G') (C := C') (by omega)]
                      | (refine wp_top (x := 0) (y := ceF K' V' G' C' (m : Int) (k : Int) 2) (ce_n (by omega)) ?_)
                      refine st_iastore rfl rfl (by omega) (by omega) ?_
                      refine st_aload_n rfl rfl (by decide) ?_
                      refine st_getR (kk := 0) rfl rfl rfl (pz_53_0 hP) rfl ?_
                      refine st_iload rfl rfl ?_
                      refine st_iconst rfl ?_
                      refine st_iadd rfl (by omega) ?_
                      refine st_iload rfl rfl ?_
                      refine st_aload_n rfl rfl (by decide) ?_
                      refine st_getI (kk := 7) rfl rfl (by decide) rfl ?_
                      rw [show (am_up (am_up (am_up (am_so (pH (am_up (am_up (am_up H 53 4 (-1)) 53 3 0) 53 5 n) (txF (hbN (H 56) n) n 8).pos (m : Int) K' V' G' C') 54 (mkL (H 54) K' V' G' C' (m : Int) k)) 54 ((70 + 33 * H 54 1) + 1 + 4 * (k : Int)) (ceF K' V' G' C' (m : Int) (k : Int) 0)) 54 ((70 + 33 * H 54 1) + 1 + 4 * (k : Int) + 1) (ceF K' V' G' C' (m : Int) (k : Int) 1)) 54 ((70 + 33 * H 54 1) + 1 + 4 * (k : Int) + 2) (ceF K' V' G' C' (m : Int) (k : Int) 2)) 53 7 = (m : Int) by rw [am_up_ne (by decide), am_up_ne (by decide), am_up_ne (by decide)]; rw [am_so_ne _ _ (by decide)]; exact pH_7 _ _ _ _ _ _ _]
                      refine st_icmp_ge rfl (fun h145 => ?_) (fun h145 => ?_)
                      · refine st_iconst rfl ?_
                        first
                        | rw [show (am_up (am_up (am_up (am_so (pH (am_up (am_up (am_up H 53 4 (-1)) 53 3 0) 53 5 n) (txF (hbN (H 56) n) n 8).pos (m : Int) K' V' G' C') 54 (mkL (H 54) K' V' G' C' (m : Int) k)) 54 ((70 + 33 * H 54 1) + 1 + 4 * (k : Int)) (ceF K' V' G' C' (m : Int) (k : Int) 0)) 54 ((70 + 33 * H 54 1) + 1 + 4 * (k : Int) + 1) (ceF K' V' G' C' (m : Int) (k : Int) 1)) 54 ((70 + 33 * H 54 1) + 1 + 4 * (k : Int) + 2) (ceF K' V' G' C' (m : Int) (k : Int) 2)) 60 (k : Int) = ceF K' V' G' C' (m : Int) (k : Int) 3 from ce_3 (K := K') (V := V') (G := G') (C := C') (by omega)]
                        | (refine wp_top (x := 0) (y := ceF K' V' G' C' (m : Int) (k : Int) 3) (ce_n (by omega)) ?_)
                        refine st_iastore rfl rfl (by omega) (by omega) ?_
                        refine st_iinc (ls' := [_, _, _, _, _, _]) rfl rfl (by omega) rfl ?_
                        refine st_goto rfl ?_
                        have hs := mkL_s (H 54) K' V' G' C' (m : Int) k
                        have ihk := ihk (some (am_i ((70 + 33 * H 54 1) + 1 + 4 * (k : Int))))
                        rw [← hs] at ihk
                        simp only [am_up, am_so_so, am_so_at] at ihk ⊢
                        exact ihk
                      · refine st_aload_n rfl rfl (by decide) ?_
                        refine st_getR (kk := 11) rfl rfl rfl (pz_53_11 hP) rfl ?_
                        refine st_iload rfl rfl ?_
                        refine st_iaload rfl rfl (by omega) (by omega) ?_
                        refine st_goto rfl ?_
                        first
                        | rw [show (am_up (am_up (am_up (am_so (pH (am_up (am_up (am_up H 53 4 (-1)) 53 3 0) 53 5 n) (txF (hbN (H 56) n) n 8).pos (m : Int) K' V' G' C') 54 (mkL (H 54) K' V' G' C' (m : Int) k)) 54 ((70 + 33 * H 54 1) + 1 + 4 * (k : Int)) (ceF K' V' G' C' (m : Int) (k : Int) 0)) 54 ((70 + 33 * H 54 1) + 1 + 4 * (k : Int) + 1) (ceF K' V' G' C' (m : Int) (k : Int) 1)) 54 ((70 + 33 * H 54 1) + 1 + 4 * (k : Int) + 2) (ceF K' V' G' C' (m : Int) (k : Int) 2)) 60 (k : Int) = ceF K' V' G' C' (m : Int) (k : Int) 3 from ce_3 (K := K') (V := V') (G := G') (C := C') (by omega)]
                        | (refine wp_top (x := 0) (y := ceF K' V' G' C' (m : Int) (k : Int) 3) (ce_n (by omega)) ?_)
                        refine st_iastore rfl rfl (by omega) (by omega) ?_
                        refine st_iinc (ls' := [_, _, _, _, _, _]) rfl rfl (by omega) rfl ?_
                        refine st_goto rfl ?_
                        have hs := mkL_s (H 54) K' V' G' C' (m : Int) k
                        have ihk := ihk (some (am_i ((70 + 33 * H 54 1) + 1 + 4 * (k : Int))))
                        rw [← hs] at ihk
                        simp only [am_up, am_so_so, am_so_at] at ihk ⊢
                        exact ihk
            · refine st_bipush rfl ?_
              refine st_iret rfl (fun z => by first | exact absurd z (by decide) | exact bi_01 _ | decide | omega) ?_
              refine ⟨_, rfl, fun o q1 q2 q3 => bo o q1 q3, bk, fun q => by exfalso; omega, fun _ => ⟨b3, fun q => by exfalso; omega, fun _ => ⟨b4, fun q => by exfalso; omega, fun q => ⟨rfl, b54⟩, fun q => by exfalso; omega⟩⟩⟩
          | succ f ih =>
            intro x q1 q2 q3
            simp only [fnL] at q3
            have h01 := mdL_01 (H 54) x K' V' G' C' (m : Int) (m : Int).toNat
            have eMd : mdL ((pH (am_up (am_up (am_up H 53 4 (-1)) 53 3 0) 53 5 n) (txF (hbN (H 56) n) n 8).pos (m : Int) K' V' G' C') 54) x ((pH (am_up (am_up (am_up H 53 4 (-1)) 53 3 0) 53 5 n) (txF (hbN (H 56) n) n 8).pos (m : Int) K' V' G' C') 57) ((pH (am_up (am_up (am_up H 53 4 (-1)) 53 3 0) 53 5 n) (txF (hbN (H 56) n) n 8).pos (m : Int) K' V' G' C') 58) ((pH (am_up (am_up (am_up H 53 4 (-1)) 53 3 0) 53 5 n) (txF (hbN (H 56) n) n 8).pos (m : Int) K' V' G' C') 59) ((pH (am_up (am_up (am_up H 53 4 (-1)) 53 3 0) 53 5 n) (txF (hbN (H 56) n) n 8).pos (m : Int) K' V' G' C') 60) ((pH (am_up (am_up (am_up H 53 4 (-1)) 53 3 0) 53 5 n) (txF (hbN (H 56) n) n 8).pos (m : Int) K' V' G' C') 53 7) ((pH (am_up (am_up (am_up H 53 4 (-1)) 53 3 0) 53 5 n) (txF (hbN (H 56) n) n 8).pos (m : Int) K' V' G' C') 53 7).toNat = mdL (H 54) x K' V' G' C' (m : Int) (m : Int).toNat := by
              rw [b54, pH_7]
              rfl
            refine st_iload_n rfl rfl ?_
            refine st_aload_n rfl rfl (by decide) ?_
            refine st_getR (kk := 0) rfl rfl rfl (pz_53_0 hP) rfl ?_
            refine st_iconst rfl ?_
            refine st_iaload rfl rfl (by omega) (by omega) ?_
            rw [b54]
            refine st_icmp_ge rfl (fun h46 => (by exfalso; omega)) (fun h46 => ?_)
            refine st_aload_n rfl rfl (by decide) ?_
            refine st_iload_n rfl rfl ?_
            refine st_cv1 (w := []) rfl rfl rfl (Nat.le_of_ble_eq_true rfl) (Nat.le_of_ble_eq_true rfl) rfl rfl (r_Model_isMade (H := (pH (am_up (am_up (am_up H 53 4 (-1)) 53 3 0) 53 5 n) (txF (hbN (H 56) n) n 8).pos (m : Int) K' V' G' C')) hP (by omega) (by rw [pH_7]; omega)) ?_
            rw [eMd]
            refine st_if_eq rfl (fun h50 => ?_) (fun h50 => ?_)
            · refine st_iinc (ls' := [_, _, _, _, _, _]) rfl rfl (by omega) rfl ?_
              refine st_goto rfl ?_
              rw [if_neg (by omega)] at q3
              exact ih (x + 1) (by omega) (by omega) q3
            · refine st_iload_n rfl rfl ?_
              refine st_iret rfl (fun z => by first | exact absurd z (by decide) | exact bi_01 _ | decide | omega) ?_
              rw [if_pos (by omega)] at q3
              refine ⟨_, rfl, fun o q1 q2 q3 => bo o q1 q3, bk, fun q => by exfalso; omega, fun _ => ⟨b3, fun q => by exfalso; omega, fun _ => ⟨b4, fun q => ⟨am_ri (by omega), b54⟩, fun q => by exfalso; omega, fun q => by exfalso; omega⟩⟩⟩
        · refine st_aload_n rfl rfl (by decide) ?_
          refine st_iload_n rfl rfl ?_
          refine st_if_ne_b rfl (fun h27 => ?_) (fun h27 => ?_)
          · refine st_bipush rfl ?_
            refine st_goto rfl ?_
            first
            | rw [pH_6]
            | skip
            refine st_putI (kk := 4) rfl rfl rfl rfl ?_
            refine st_iconst rfl ?_
            refine st_iret rfl (fun z => by first | exact absurd z (by decide) | exact bi_01 _ | decide | omega) ?_
            refine ⟨_, rfl, fun o q1 q2 q3 => by rw [am_up_ne q1]; exact bo o q1 q3, fun k q => by rw [am_up_eq, am_uf_ne _ _ (by omega)]; exact bk k q, fun q => by exfalso; omega, fun _ => ⟨by rw [am_up_eq, am_uf_ne _ _ (by omega)]; exact b3, fun _ => ⟨rfl, ?_, by rw [am_up_ne (by decide)]; exact b54⟩, fun q => by exfalso; omega⟩⟩
            rw [am_up_eq, am_uf_eq]
            first
            | (exfalso; omega)
            | rw [if_pos (by omega)]
            | rw [if_neg (by omega)]
          · refine st_aload_n rfl rfl (by decide) ?_
            refine st_getI (kk := 6) rfl rfl (by decide) rfl ?_
            rw [pH_6]
            refine st_bipush rfl ?_
            refine st_icmp_le rfl (fun h31 => ?_) (fun h31 => ?_)
            · refine st_aload_n rfl rfl (by decide) ?_
              refine st_getI (kk := 6) rfl rfl (by decide) rfl ?_
              first
              | rw [pH_6]
              | skip
              refine st_putI (kk := 4) rfl rfl rfl rfl ?_
              refine st_iconst rfl ?_
              refine st_iret rfl (fun z => by first | exact absurd z (by decide) | exact bi_01 _ | decide | omega) ?_
              refine ⟨_, rfl, fun o q1 q2 q3 => by rw [am_up_ne q1]; exact bo o q1 q3, fun k q => by rw [am_up_eq, am_uf_ne _ _ (by omega)]; exact bk k q, fun q => by exfalso; omega, fun _ => ⟨by rw [am_up_eq, am_uf_ne _ _ (by omega)]; exact b3, fun _ => ⟨rfl, ?_, by rw [am_up_ne (by decide)]; exact b54⟩, fun q => by exfalso; omega⟩⟩
              rw [am_up_eq, am_uf_eq]
              first
              | (exfalso; omega)
              | rw [if_pos (by omega)]
              | rw [if_neg (by omega)]
            · refine st_bipush rfl ?_
              refine st_goto rfl ?_
              first
              | rw [pH_6]
              | skip
              refine st_putI (kk := 4) rfl rfl rfl rfl ?_
              refine st_iconst rfl ?_
              refine st_iret rfl (fun z => by first | exact absurd z (by decide) | exact bi_01 _ | decide | omega) ?_
              refine ⟨_, rfl, fun o q1 q2 q3 => by rw [am_up_ne q1]; exact bo o q1 q3, fun k q => by rw [am_up_eq, am_uf_ne _ _ (by omega)]; exact bk k q, fun q => by exfalso; omega, fun _ => ⟨by rw [am_up_eq, am_uf_ne _ _ (by omega)]; exact b3, fun _ => ⟨rfl, ?_, by rw [am_up_ne (by decide)]; exact b54⟩, fun q => by exfalso; omega⟩⟩
              rw [am_up_eq, am_uf_eq]
              first
              | (exfalso; omega)
              | rw [if_pos (by omega)]
              | rw [if_neg (by omega)]
    · refine st_bipush rfl ?_
      refine st_iret rfl (fun z => by first | exact absurd z (by decide) | exact bi_01 _ | decide | omega) ?_
      refine ⟨_, rfl, fun o q1 q2 q3 => by rw [am_up_ne q1], fun k q => by rw [am_up_eq, am_uf_ne _ _ (by omega)], fun _ => ⟨rfl, by rw [am_up_eq, am_uf_ne _ _ (by omega)], by rw [am_up_eq, am_uf_eq], by rw [am_up_ne (by decide)]⟩, fun q => by exfalso; omega⟩
