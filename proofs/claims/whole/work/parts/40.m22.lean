/-! ===== the reference: mark ===== -/
def hbN (T : Int → Int) (n x : Int) : Int := if x < n then T x % 256 else -1
def tM (h : Int → Int) (sz : Int) : Nat → Nat
  | 0 => 0
  | j + 1 => if (txF h sz j).ok = 1 then j + 1 else tM h sz j
theorem tM_e {h : Int → Int} {sz : Int} {m : Nat} (h1 : ∀ i, i < m → (txF h sz i).ok = 1) (h2 : (txF h sz m).ok = 2) : ∀ x : Nat, tM h sz (m + x) = m
  | 0 => by
    cases m with
    | zero => rfl
    | succ m => show (if (txF h sz m).ok = 1 then m + 1 else _) = _; rw [if_pos (h1 m (by omega))]
  | x + 1 => by
    show (if (txF h sz (m + x)).ok = 1 then m + x + 1 else tM h sz (m + x)) = m
    rw [txF_s h sz (by omega) x, if_neg (by omega)]
    exact tM_e h1 h2 x
/-- the cells of a new mark *)
-/
def ceF (K V G C : Int → Int) (m i w : Int) : Int := if i < m then (if w = 0 then K i else if w = 1 then V i else if w = 2 then G i else C i) else 0
def mkL (a K V G C : Int → Int) (m : Int) (k : Nat) : Int → Int := fun x => if x = 70 + 33 * a 1 then m else if 70 + 33 * a 1 < x ∧ x ≤ 70 + 33 * a 1 + 4 * (k : Int) then ceF K V G C m ((x - 70 - 33 * a 1 - 1) / 4) ((x - 70 - 33 * a 1 - 1) % 4) else a x
theorem mkL_0 (a K V G C : Int → Int) (m : Int) : mkL a K V G C m 0 = am_uf a (70 + 33 * a 1) m := by
  funext x
  unfold mkL am_uf
  split
  · rfl
  · rw [if_neg (by omega)]
theorem mkL_s (a K V G C : Int → Int) (m : Int) (k : Nat) : am_uf (am_uf (am_uf (am_uf (mkL a K V G C m k) (70 + 33 * a 1 + 1 + 4 * (k : Int)) (ceF K V G C m (k : Int) 0)) (70 + 33 * a 1 + 1 + 4 * (k : Int) + 1) (ceF K V G C m (k : Int) 1)) (70 + 33 * a 1 + 1 + 4 * (k : Int) + 2) (ceF K V G C m (k : Int) 2)) (70 + 33 * a 1 + 1 + 4 * (k : Int) + 3) (ceF K V G C m (k : Int) 3) = mkL a K V G C m (k + 1) := by
  funext x
  unfold am_uf mkL
  by_cases h3 : x = 70 + 33 * a 1 + 1 + 4 * (k : Int) + 3
  · rw [if_pos h3, if_neg (by omega), if_pos (by omega), show (x - 70 - 33 * a 1 - 1) / 4 = (k : Int) by omega, show (x - 70 - 33 * a 1 - 1) % 4 = 3 by omega]
  rw [if_neg h3]
  by_cases h2 : x = 70 + 33 * a 1 + 1 + 4 * (k : Int) + 2
  · rw [if_pos h2, if_neg (by omega), if_pos (by omega), show (x - 70 - 33 * a 1 - 1) / 4 = (k : Int) by omega, show (x - 70 - 33 * a 1 - 1) % 4 = 2 by omega]
  rw [if_neg h2]
  by_cases h1 : x = 70 + 33 * a 1 + 1 + 4 * (k : Int) + 1
  · rw [if_pos h1, if_neg (by omega), if_pos (by omega), show (x - 70 - 33 * a 1 - 1) / 4 = (k : Int) by omega, show (x - 70 - 33 * a 1 - 1) % 4 = 1 by omega]
  rw [if_neg h1]
  by_cases h0 : x = 70 + 33 * a 1 + 1 + 4 * (k : Int)
  · rw [if_pos h0, if_neg (by omega), if_pos (by omega), show (x - 70 - 33 * a 1 - 1) / 4 = (k : Int) by omega, show (x - 70 - 33 * a 1 - 1) % 4 = 0 by omega]
  rw [if_neg h0]
  by_cases h4 : x = 70 + 33 * a 1
  · rw [if_pos h4, if_pos h4]
  rw [if_neg h4, if_neg h4]
  by_cases h5 : 70 + 33 * a 1 < x ∧ x ≤ 70 + 33 * a 1 + 4 * (k : Int)
  · rw [if_pos h5, if_pos (by omega)]
  · rw [if_neg h5, if_neg (by omega)]
def mkA (a K V G C : Int → Int) (m : Int) : Int → Int := am_uf (mkL a K V G C m 8) 1 (a 1 + 1)
theorem mkA_cg {a K V G C K' V' G' C' : Int → Int} {m : Int} (h : ∀ i, 0 ≤ i → i < m → K i = K' i ∧ V i = V' i ∧ G i = G' i ∧ C i = C' i) : mkA a K V G C m = mkA a K' V' G' C' m := by
  unfold mkA
  congr 1
  funext x
  unfold mkL
  split
  · rfl
  · split
    · rename_i q
      unfold ceF
      split
      · rename_i q2
        have e := h ((x - 70 - 33 * a 1 - 1) / 4) (by omega) q2
        rw [e.1, e.2.1, e.2.2.1, e.2.2.2]
      · rfl
    · rfl
theorem mdL_cg {a K V G C K' V' G' C' : Int → Int} {m n : Int} (h : ∀ i, 0 ≤ i → i < n → K i = K' i ∧ V i = V' i ∧ G i = G' i ∧ C i = C' i) : ∀ k : Nat, (k : Int) ≤ n → mdL a m K V G C n k = mdL a m K' V' G' C' n k
  | 0, _ => rfl
  | k + 1, hk => by
    have e := h (k : Int) (by omega) (by omega)
    simp only [mdL]
    rw [mdL_cg h k (by omega), e.1, e.2.1, e.2.2.1, e.2.2.2]
/-- the first mark that is these parts *)
-/
def fnL (a K V G C : Int → Int) (n : Int) : Nat → Int → Int
  | 0, _ => -1
  | f + 1, m => if mdL a m K V G C n n.toNat ≠ 0 then m else fnL a K V G C n f (m + 1)
theorem fnL_cg {a K V G C K' V' G' C' : Int → Int} {n : Int} (hn : 0 ≤ n) (h : ∀ i, 0 ≤ i → i < n → K i = K' i ∧ V i = V' i ∧ G i = G' i ∧ C i = C' i) : ∀ (f : Nat) (m : Int), fnL a K V G C n f m = fnL a K' V' G' C' n f m
  | 0, _ => rfl
  | f + 1, m => by
    simp only [fnL]
    rw [mdL_cg h n.toNat (by omega), fnL_cg hn h f (m + 1)]
theorem fnL_r (a K V G C : Int → Int) (n : Int) : ∀ (f : Nat) (m : Int), 0 ≤ m → fnL a K V G C n f m = -1 ∨ (m ≤ fnL a K V G C n f m ∧ fnL a K V G C n f m < m + (f : Int))
  | 0, _, _ => Or.inl rfl
  | f + 1, m, hm => by
    have ih := fnL_r a K V G C n f (m + 1) (by omega)
    simp only [fnL]
    split
    · exact Or.inr (by omega)
    · omega

abbrev tK (h : Int → Int) (sz x : Int) : Int := (txF h sz x.toNat).kd
abbrev tV (h : Int → Int) (sz x : Int) : Int := (txF h sz x.toNat).v
abbrev tG (h : Int → Int) (sz x : Int) : Int := (txF h sz x.toNat).g
abbrev tC (h : Int → Int) (sz x : Int) : Int := (txF h sz x.toNat).c
def fnT (a T : Int → Int) (n : Int) : Int := fnL a (tK (hbN T n) n) (tV (hbN T n) n) (tG (hbN T n) n) (tC (hbN T n) n) (tM (hbN T n) n 8 : Int) (a 1).toNat 0
def mkT (a T : Int → Int) (n : Int) : Int → Int := mkA a (tK (hbN T n) n) (tV (hbN T n) n) (tG (hbN T n) n) (tC (hbN T n) n) (tM (hbN T n) n 8 : Int)
def MQ (N : Nat) (P : am_P) (H : am_H) (n : Int) (v : Option am_V) (σ : am_S) : Prop := ∃ H' : am_H, σ = (N, P, H') ∧ (∀ o, o ≠ 53 → o ≠ 54 → (o < 57 ∨ 60 < o) → H' o = H o) ∧ (∀ k, k < 3 ∨ 7 < k → H' 53 k = H 53 k) ∧
  ((n < 0 ∨ H 53 3 < n) → v = some (am_i (-3)) ∧ H' 53 3 = H 53 3 ∧ H' 53 4 = -1 ∧ H' 54 = H 54) ∧
  ((0 ≤ n ∧ n ≤ H 53 3) → H' 53 3 = 0 ∧
    (((txF (hbN (H 56) n) n 8).ok ≠ 2 ∨ 60 < n) → v = some (am_i (-1)) ∧ H' 53 4 = (if (txF (hbN (H 56) n) n 8).ok = 2 ∨ 60 < (txF (hbN (H 56) n) n 8).pos then 60 else (txF (hbN (H 56) n) n 8).pos) ∧ H' 54 = H 54) ∧
    (((txF (hbN (H 56) n) n 8).ok = 2 ∧ n ≤ 60) → H' 53 4 = -1 ∧ (0 ≤ fnT (H 54) (H 56) n → v = some (am_i (fnT (H 54) (H 56) n)) ∧ H' 54 = H 54) ∧
      ((fnT (H 54) (H 56) n < 0 ∧ H 54 1 = 200) → v = some (am_i (-2)) ∧ H' 54 = H 54) ∧
      ((fnT (H 54) (H 56) n < 0 ∧ H 54 1 ≠ 200) → v = some (am_i (H 54 1)) ∧ H' 54 = mkT (H 54) (H 56) n)))

theorem mk_h1 (H : am_H) (n : Int) : hbF (am_up (am_up (am_up H 53 4 (-1)) 53 3 0) 53 5 n) = hbN (H 56) n ∧ (am_up (am_up (am_up H 53 4 (-1)) 53 3 0) 53 5 n) 53 5 = n ∧ (am_up (am_up (am_up H 53 4 (-1)) 53 3 0) 53 5 n) 53 3 = 0 ∧ (am_up (am_up (am_up H 53 4 (-1)) 53 3 0) 53 5 n) 53 4 = -1 ∧ (∀ k, k < 3 ∨ 7 < k → (am_up (am_up (am_up H 53 4 (-1)) 53 3 0) 53 5 n) 53 k = H 53 k) ∧ ∀ o, o ≠ 53 → (am_up (am_up (am_up H 53 4 (-1)) 53 3 0) 53 5 n) o = H o := by
  have e5 : (am_up (am_up (am_up H 53 4 (-1)) 53 3 0) 53 5 n) 53 5 = n := by rw [am_up_eq, am_uf_eq]
  refine ⟨?_, e5, ?_, ?_, fun k hk => ?_, fun o ho => ?_⟩
  · funext x
    unfold hbF hbN
    rw [e5, am_up_ne (by decide), am_up_ne (by decide), am_up_ne (by decide)]
  · rw [am_up_eq, am_uf_ne _ _ (by omega), am_up_eq, am_uf_eq]
  · rw [am_up_eq, am_uf_ne _ _ (by omega), am_up_eq, am_uf_ne _ _ (by omega), am_up_eq, am_uf_eq]
  · rw [am_up_eq, am_uf_ne _ _ (by omega), am_up_eq, am_uf_ne _ _ (by omega), am_up_eq, am_uf_ne _ _ (by omega)]
  · rw [am_up_ne ho, am_up_ne ho, am_up_ne ho]
