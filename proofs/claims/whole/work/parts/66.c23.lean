/-! ===== the class: texts read ===== -/
/-- the bytes that are read, and -1 behind them -/
def HB (h : Int → Int) (H : am_H) (n : Int) : Prop := n ≤ 80 ∧ (∀ x, 0 ≤ x → h x = if x < n then H 6 x else -1) ∧ ∀ x, -1 ≤ h x ∧ h x ≤ 255
/-- the reader at p, q parts taken -/
def TS (H H1 : am_H) (n p q : Int) (X : Int → Int) : Prop := (∀ o, o ≠ 4 → o ≠ 7 → H1 o = H o) ∧ H1 4 4 = n ∧ H1 4 3 = p ∧ H1 4 2 = q ∧ H1 7 = X
def NR (N : Nat) (P : am_P) (H : am_H) (n q : Int) (X : Int → Int) (r : NP) (v : Option am_V) (σ : am_S) : Prop := v = some (am_i r.ok) ∧ ∃ (H2 : am_H) (X' : Int → Int), σ = (N, P, H2) ∧ TS H H2 n r.pos (q + r.ok) X' ∧ (∀ x, x ≠ q → X' x = X x) ∧ (r.ok = 1 → X' q = pkF r.kd r.v r.g r.c)
theorem NR_0 {N : Nat} {P : am_P} {H H2 : am_H} {n q : Int} {X : Int → Int} {r : NP} (h0 : r.ok = 0) (hS : TS H H2 n r.pos q X) : NR N P H n q X r (some (am_i 0)) (N, P, H2) :=
  ⟨by rw [h0], H2, X, rfl, by rw [h0, Int.add_zero]; exact hS, fun _ _ => rfl, fun z => by omega⟩
theorem NR_c {N : Nat} {P : am_P} {H : am_H} {n q : Int} {X : Int → Int} {r r' : NP} (h0 : r.ok = 0) (h1 : r'.ok = 0) (h2 : r.pos = r'.pos) {v : Option am_V} {σ : am_S} (h : NR N P H n q X r v σ) : NR N P H n q X r' v σ := by
  obtain ⟨e, H2, X', s, t, f, -⟩ := h
  exact ⟨by rw [e, h0, h1], H2, X', s, by rw [h0, h2] at t; rw [h1]; exact t, f, fun z => by omega⟩
theorem TS.at {H H1 : am_H} {n p q : Int} {X : Int → Int} (h : TS H H1 n p q X) (p' : Int) : TS H (am_up H1 4 3 p') n p' q X :=
  ⟨fun o o1 o2 => by rw [am_up_ne o1]; exact h.1 o o1 o2, by rw [am_up_eq, am_uf_ne _ _ (by omega)]; exact h.2.1, by rw [am_up_eq, am_uf_eq], by rw [am_up_eq, am_uf_ne _ _ (by omega)]; exact h.2.2.2.1, by rw [am_up_ne (by decide)]; exact h.2.2.2.2⟩
theorem TS.o {H H1 : am_H} {n p q : Int} {X : Int → Int} (h : TS H H1 n p q X) {k v : Int} (hk : k = 5 ∨ k = 6) : TS H (am_up H1 4 k v) n p q X :=
  ⟨fun o o1 o2 => by rw [am_up_ne o1]; exact h.1 o o1 o2, by rw [am_up_eq, am_uf_ne _ _ (by omega)]; exact h.2.1, by rw [am_up_eq, am_uf_ne _ _ (by omega)]; exact h.2.2.1, by rw [am_up_eq, am_uf_ne _ _ (by omega)]; exact h.2.2.2.1, by rw [am_up_ne (by decide)]; exact h.2.2.2.2⟩
theorem dg_1 {h : Int → Int} {p : Int} (hd : isD (h p)) : ∀ m : Nat, 0 < (dgF h p (m + 1)).2
  | 0 => by
    have e : dgF h p 1 = if (dgF h p 0).2 = ((0 : Nat) : Int) ∧ isD (h (p + ((0 : Nat) : Int))) then (10 * (dgF h p 0).1 + h (p + ((0 : Nat) : Int)) - 48, ((0 : Nat) : Int) + 1) else dgF h p 0 := rfl
    rw [e, if_pos ⟨rfl, by rw [show p + ((0 : Nat) : Int) = p by omega]; exact hd⟩]
    show (0 : Int) < ((0 : Nat) : Int) + 1
    omega
  | m + 1 => by
    have ih := dg_1 hd m
    have e : dgF h p (m + 1 + 1) = if (dgF h p (m + 1)).2 = ((m + 1 : Nat) : Int) ∧ isD (h (p + ((m + 1 : Nat) : Int))) then (10 * (dgF h p (m + 1)).1 + h (p + ((m + 1 : Nat) : Int)) - 48, ((m + 1 : Nat) : Int) + 1) else dgF h p (m + 1) := rfl
    rw [e]
    split
    · show (0 : Int) < ((m + 1 : Nat) : Int) + 1
      omega
    · exact ih
theorem dg_4 {h : Int → Int} {p : Int} {m : Nat} (hm : m ≤ 4) : (dgF h p m).1 < 10000 := by
  have h1 := dgF_r h p m
  have h2 := tnF_v
  have : (dgF h p m).2.toNat = 0 ∨ (dgF h p m).2.toNat = 1 ∨ (dgF h p m).2.toNat = 2 ∨ (dgF h p m).2.toNat = 3 ∨ (dgF h p m).2.toNat = 4 := by omega
  rcases this with e | e | e | e | e <;> rw [e] at h1 <;> omega
theorem dg_6 {h : Int → Int} {p : Int} {m : Nat} (hm : m ≤ 6) : (dgF h p m).1 < 1000000 := by
  have h1 := dgF_r h p m
  have h2 := tnF_r (j := (dgF h p m).2.toNat) (by omega)
  omega
theorem dg_0 {h : Int → Int} {p : Int} (hd : ¬ isD (h p)) (m : Nat) : dgF h p m = (0, 0) := by
  have := dgF_s (h := h) (p := p) (j := 0) (Or.inr (by rw [show p + ((0 : Nat) : Int) = p by omega]; exact hd)) m
  rw [Nat.zero_add] at this
  exact this

theorem r_TextReader_next {d N : Nat} {P : am_P} {H : am_H} {h : Int → Int} {H1 : am_H} {n p q : Int} {X : Int → Int} (hP : PZ P) (hB : HB h H n) (hS : TS H H1 n p q X) (hp : 0 ≤ p ∧ p ≤ 1000) : am_R (d + 1) 233 [am_r 4] (N, P, H1) (some (am_i (h p))) (N, P, H1) := by
  refine am_en1 (d := d + 0) (ml := 1) (ls := [_]) cq_TextReader_next rfl (Nat.le_of_ble_eq_true rfl) rfl ?_
  have hb := hB.2.2 p
  have hn80 := hB.1
  obtain ⟨hf, s4, s3, s2, s7⟩ := hS
  have hhp := hB.2.1 p hp.1
  have e6 : H1 6 = H 6 := hf _ (by decide) (by decide)
  refine st_aload_n rfl rfl (by decide) ?_
  refine st_getI (kk := 3) rfl rfl (by decide) rfl ?_
  refine st_if_lt rfl (fun h2 => (by exfalso; omega)) (fun h2 => ?_)
  refine st_aload_n rfl rfl (by decide) ?_
  refine st_getI (kk := 3) rfl rfl (by decide) rfl ?_
  refine st_aload_n rfl rfl (by decide) ?_
  refine st_getI (kk := 4) rfl rfl (by decide) rfl ?_
  refine st_icmp_ge rfl (fun h7 => ?_) (fun h7 => ?_)
  · refine st_iconst rfl ?_
    refine st_iret rfl (fun z => by first | exact absurd z (by decide) | exact bi_01 _ | decide | omega) ?_
    exact ⟨am_ri (by rw [hhp]; first | rw [if_pos (by omega)] | rw [if_neg (by omega)]), rfl⟩
  · refine st_aload_n rfl rfl (by decide) ?_
    refine st_getI (kk := 3) rfl rfl (by decide) rfl ?_
    refine st_aload_n rfl rfl (by decide) ?_
    refine st_getR (kk := 0) rfl rfl rfl (pz_4_0 hP) rfl ?_
    refine st_getR (kk := 0) rfl rfl rfl (pz_5_0 hP) rfl ?_
    refine st_alenI rfl rfl ?_
    refine st_icmp_ge rfl (fun h14 => (by exfalso; omega)) (fun h14 => ?_)
    refine st_aload_n rfl rfl (by decide) ?_
    refine st_getR (kk := 0) rfl rfl rfl (pz_4_0 hP) rfl ?_
    refine st_getR (kk := 0) rfl rfl rfl (pz_5_0 hP) rfl ?_
    refine st_aload_n rfl rfl (by decide) ?_
    refine st_getI (kk := 3) rfl rfl (by decide) rfl ?_
    rw [s3]
    refine st_iaload rfl rfl (by omega) (by omega) ?_
    rw [e6]
    refine st_goto rfl ?_
    refine st_iret rfl (fun z => by first | exact absurd z (by decide) | exact bi_01 _ | decide | omega) ?_
    exact ⟨am_ri (by rw [hhp]; first | rw [if_pos (by omega)] | rw [if_neg (by omega)]), rfl⟩
theorem r_TextReader_isLetter {d N : Nat} {P : am_P} {H : am_H} {b : Int}  : am_R (d + 1) 234 [am_i (b)] (N, P, H) (some (am_i (bi (isL b)))) (N, P, H) := by
  refine am_en1 (d := d + 0) (ml := 1) (ls := [_]) cq_TextReader_isLetter rfl (Nat.le_of_ble_eq_true rfl) rfl ?_
  refine st_iload_n rfl rfl ?_
  refine st_bipush rfl ?_
  refine st_icmp_lt rfl (fun h2 => ?_) (fun h2 => ?_)
  · refine st_iconst rfl ?_
    refine st_iret rfl (fun z => by first | exact absurd z (by decide) | exact bi_01 _ | decide | omega) ?_
    exact ⟨am_ri (by first | rfl | exact bi_iff (by omega) | exact (bi_t (by omega)).symm | exact (bi_f (by omega)).symm), rfl⟩
  · refine st_iload_n rfl rfl ?_
    refine st_bipush rfl ?_
    refine st_icmp_gt rfl (fun h5 => ?_) (fun h5 => ?_)
    · refine st_iconst rfl ?_
      refine st_iret rfl (fun z => by first | exact absurd z (by decide) | exact bi_01 _ | decide | omega) ?_
      exact ⟨am_ri (by first | rfl | exact bi_iff (by omega) | exact (bi_t (by omega)).symm | exact (bi_f (by omega)).symm), rfl⟩
    · refine st_iconst rfl ?_
      refine st_goto rfl ?_
      refine st_iret rfl (fun z => by first | exact absurd z (by decide) | exact bi_01 _ | decide | omega) ?_
      exact ⟨am_ri (by first | rfl | exact bi_iff (by omega) | exact (bi_t (by omega)).symm | exact (bi_f (by omega)).symm), rfl⟩
theorem r_TextReader_isDigit {d N : Nat} {P : am_P} {H : am_H} {b : Int}  : am_R (d + 1) 235 [am_i (b)] (N, P, H) (some (am_i (bi (isD b)))) (N, P, H) := by
  refine am_en1 (d := d + 0) (ml := 1) (ls := [_]) cq_TextReader_isDigit rfl (Nat.le_of_ble_eq_true rfl) rfl ?_
  refine st_iload_n rfl rfl ?_
  refine st_bipush rfl ?_
  refine st_icmp_lt rfl (fun h2 => ?_) (fun h2 => ?_)
  · refine st_iconst rfl ?_
    refine st_iret rfl (fun z => by first | exact absurd z (by decide) | exact bi_01 _ | decide | omega) ?_
    exact ⟨am_ri (by first | rfl | exact bi_iff (by omega) | exact (bi_t (by omega)).symm | exact (bi_f (by omega)).symm), rfl⟩
  · refine st_iload_n rfl rfl ?_
    refine st_bipush rfl ?_
    refine st_icmp_gt rfl (fun h5 => ?_) (fun h5 => ?_)
    · refine st_iconst rfl ?_
      refine st_iret rfl (fun z => by first | exact absurd z (by decide) | exact bi_01 _ | decide | omega) ?_
      exact ⟨am_ri (by first | rfl | exact bi_iff (by omega) | exact (bi_t (by omega)).symm | exact (bi_f (by omega)).symm), rfl⟩
    · refine st_iconst rfl ?_
      refine st_goto rfl ?_
      refine st_iret rfl (fun z => by first | exact absurd z (by decide) | exact bi_01 _ | decide | omega) ?_
      exact ⟨am_ri (by first | rfl | exact bi_iff (by omega) | exact (bi_t (by omega)).symm | exact (bi_f (by omega)).symm), rfl⟩
theorem r_TextReader_isJoined {d N : Nat} {P : am_P} {H : am_H} {h : Int → Int} {H1 : am_H} {n p q : Int} {X : Int → Int} {b : Int} (hP : PZ P) (hB : HB h H n) (hS : TS H H1 n p q X) (hp : 0 ≤ p ∧ p ≤ 900) : am_R (d + 2) 236 [am_r 4, am_i (b)] (N, P, H1) (some (am_i (bi ((b = 0 ∧ isD (h p)) ∨ (b = 1 ∧ h p = 46))))) (N, P, H1) := by
  refine am_en1 (d := d + 1) (ml := 2) (ls := [_, _]) cq_TextReader_isJoined rfl (Nat.le_of_ble_eq_true rfl) rfl ?_
  refine st_iload_n rfl rfl ?_
  refine st_if_ne rfl (fun h1 => ?_) (fun h1 => ?_)
  · refine st_iload_n rfl rfl ?_
    refine st_iconst rfl ?_
    refine st_icmp_ne rfl (fun h8 => ?_) (fun h8 => ?_)
    · refine st_iconst rfl ?_
      refine st_iret rfl (fun z => by first | exact absurd z (by decide) | exact bi_01 _ | decide | omega) ?_
      exact ⟨am_ri (by first | exact (bi_t (by omega)).symm | exact (bi_f (by omega)).symm), rfl⟩
    · refine st_aload_n rfl rfl (by decide) ?_
      refine st_cv1 (w := []) rfl rfl rfl (Nat.le_of_ble_eq_true rfl) (Nat.le_of_ble_eq_true rfl) rfl rfl (r_TextReader_next hP hB hS (by omega)) ?_
      refine st_bipush rfl ?_
      refine st_icmp_ne rfl (fun h12 => ?_) (fun h12 => ?_)
      · refine st_iconst rfl ?_
        refine st_iret rfl (fun z => by first | exact absurd z (by decide) | exact bi_01 _ | decide | omega) ?_
        exact ⟨am_ri (by first | exact (bi_t (by omega)).symm | exact (bi_f (by omega)).symm), rfl⟩
      · refine st_iconst rfl ?_
        refine st_goto rfl ?_
        refine st_iret rfl (fun z => by first | exact absurd z (by decide) | exact bi_01 _ | decide | omega) ?_
        exact ⟨am_ri (by first | exact (bi_t (by omega)).symm | exact (bi_f (by omega)).symm), rfl⟩
  · refine st_aload_n rfl rfl (by decide) ?_
    refine st_cv1 (w := []) rfl rfl rfl (Nat.le_of_ble_eq_true rfl) (Nat.le_of_ble_eq_true rfl) rfl rfl (r_TextReader_next hP hB hS (by omega)) ?_
    refine st_cs1 (w := []) rfl (by decide) (by decide) (by decide) (Nat.le_of_ble_eq_true rfl) (Nat.le_of_ble_eq_true rfl) rfl rfl (r_TextReader_isDigit) ?_
    refine st_if_ne_b rfl (fun h5 => ?_) (fun h5 => ?_)
    · refine st_iconst rfl ?_
      refine st_goto rfl ?_
      refine st_iret rfl (fun z => by first | exact absurd z (by decide) | exact bi_01 _ | decide | omega) ?_
      exact ⟨am_ri (by first | exact (bi_t (by omega)).symm | exact (bi_f (by omega)).symm), rfl⟩
    · refine st_iload_n rfl rfl ?_
      refine st_iconst rfl ?_
      refine st_icmp_ne rfl (fun h8 => ?_) (fun h8 => (by exfalso; omega))
      refine st_iconst rfl ?_
      refine st_iret rfl (fun z => by first | exact absurd z (by decide) | exact bi_01 _ | decide | omega) ?_
      exact ⟨am_ri (by first | exact (bi_t (by omega)).symm | exact (bi_f (by omega)).symm), rfl⟩
theorem r_TextReader_takeBlank {d N : Nat} {P : am_P} {H : am_H} {h : Int → Int} {H1 : am_H} {n p q : Int} {X : Int → Int} {b : Int} (hP : PZ P) (hB : HB h H n) (hS : TS H H1 n p q X) (hp : 0 ≤ p ∧ p ≤ 900) : am_R (d + 2) 237 [am_r 4, am_i (b)] (N, P, H1) (some (am_i (bi (h p = 32 ∧ b ≠ 6)))) (N, P, if h p = 32 ∧ b ≠ 6 then am_up H1 4 3 (p + 1) else H1) := by
  refine am_en1 (d := d + 1) (ml := 2) (ls := [_, _]) cq_TextReader_takeBlank rfl (Nat.le_of_ble_eq_true rfl) rfl ?_
  refine st_aload_n rfl rfl (by decide) ?_
  refine st_cv1 (w := []) rfl rfl rfl (Nat.le_of_ble_eq_true rfl) (Nat.le_of_ble_eq_true rfl) rfl rfl (r_TextReader_next hP hB hS (by omega)) ?_
  refine st_bipush rfl ?_
  refine st_icmp_ne rfl (fun h3 => ?_) (fun h3 => ?_)
  · refine st_iconst rfl ?_
    refine st_iret rfl (fun z => by first | exact absurd z (by decide) | exact bi_01 _ | decide | omega) ?_
    exact ⟨am_ri (by first | exact (bi_t (by omega)).symm | exact (bi_f (by omega)).symm), by first | rw [if_pos (by omega)] | rw [if_neg (by omega)]⟩
  · refine st_iload_n rfl rfl ?_
    refine st_bipush rfl ?_
    refine st_icmp_ne rfl (fun h6 => ?_) (fun h6 => ?_)
    · refine st_aload_n rfl rfl (by decide) ?_
      refine st_dup rfl rfl ?_
      refine st_getI (kk := 3) rfl rfl (by decide) rfl ?_
      rw [hS.2.2.1]
      refine st_iconst rfl ?_
      refine st_iadd rfl (by omega) ?_
      refine st_putI (kk := 3) rfl rfl rfl rfl ?_
      refine st_iconst rfl ?_
      refine st_iret rfl (fun z => by first | exact absurd z (by decide) | exact bi_01 _ | decide | omega) ?_
      exact ⟨am_ri (by first | exact (bi_t (by omega)).symm | exact (bi_f (by omega)).symm), by first | rw [if_pos (by omega)] | rw [if_neg (by omega)]⟩
    · refine st_iconst rfl ?_
      refine st_iret rfl (fun z => by first | exact absurd z (by decide) | exact bi_01 _ | decide | omega) ?_
      exact ⟨am_ri (by first | exact (bi_t (by omega)).symm | exact (bi_f (by omega)).symm), by first | rw [if_pos (by omega)] | rw [if_neg (by omega)]⟩
theorem r_TextReader_keep {d N : Nat} {P : am_P} {H : am_H} {H1 : am_H} {q kd v g c : Int} (hP : PZ P) (s2 : H1 4 2 = q) (hq : 0 ≤ q ∧ q < 8) (hk : (0 ≤ kd ∧ kd ≤ 6) ∧ (0 ≤ v ∧ v < 65536) ∧ (0 ≤ g ∧ g < 1048576) ∧ (0 ≤ c ∧ c < 16)) : am_R (d + 2) 239 [am_r 4, am_i (kd), am_i (v), am_i (g), am_i (c)] (N, P, H1) none (N, P, am_up (am_up H1 7 q (pkF kd v g c)) 4 2 (q + 1)) := by
  refine am_en1 (d := d + 1) (ml := 5) (ls := [_, _, _, _, _]) cq_TextReader_keep rfl (Nat.le_of_ble_eq_true rfl) rfl ?_
  refine st_aload_n rfl rfl (by decide) ?_
  refine st_getI (kk := 2) rfl rfl (by decide) rfl ?_
  refine st_bipush rfl ?_
  refine st_icmp_ge rfl (fun h3 => (by exfalso; omega)) (fun h3 => ?_)
  refine st_aload_n rfl rfl (by decide) ?_
  refine st_getR (kk := 1) rfl rfl rfl (pz_4_1 hP) rfl ?_
  refine st_aload_n rfl rfl (by decide) ?_
  refine st_getI (kk := 2) rfl rfl (by decide) rfl ?_
  rw [s2]
  refine st_iload_n rfl rfl ?_
  refine st_iload_n rfl rfl ?_
  refine st_iload_n rfl rfl ?_
  refine st_iload rfl rfl ?_
  refine st_cs1 (w := [_, _]) rfl (by decide) (by decide) (by decide) (Nat.le_of_ble_eq_true rfl) (Nat.le_of_ble_eq_true rfl) rfl rfl (r_Part_of hk) ?_
  refine st_lastore rfl rfl (by omega) (by omega) ?_
  refine st_aload_n rfl rfl (by decide) ?_
  refine st_dup rfl rfl ?_
  refine st_getI (kk := 2) rfl rfl (by decide) rfl ?_
  rw [show am_up H1 7 q (pkF kd v g c) 4 2 = q by rw [am_up_ne (by decide)]; exact s2]
  refine st_iconst rfl ?_
  refine st_iadd rfl (by omega) ?_
  refine st_putI (kk := 2) rfl rfl rfl rfl ?_
  refine st_ret rfl ?_
  exact ⟨rfl, rfl⟩
theorem TS.kp {H H1 : am_H} {n p q x : Int} {X : Int → Int} (h : TS H H1 n p q X) : TS H (am_up (am_up H1 7 q x) 4 2 (q + 1)) n p (q + 1) (am_uf X q x) := by
  obtain ⟨hf, s4, s3, s2, s7⟩ := h
  refine ⟨fun o o1 o2 => by rw [am_up_ne o1, am_up_ne o2]; exact hf o o1 o2, by rw [am_up_eq, am_uf_ne _ _ (by omega), am_up_ne (by decide)]; exact s4, by rw [am_up_eq, am_uf_ne _ _ (by omega), am_up_ne (by decide)]; exact s3, by rw [am_up_eq, am_uf_eq], by rw [am_up_ne (by decide), am_up_eq, s7]⟩
theorem NR_1 {N : Nat} {P : am_P} {H H1 : am_H} {n q : Int} {X : Int → Int} {r : NP} (h1 : r.ok = 1) (hS : TS H H1 n r.pos q X) : NR N P H n q X r (some (am_i 1)) (N, P, am_up (am_up H1 7 q (pkF r.kd r.v r.g r.c)) 4 2 (q + 1)) :=
  ⟨by rw [h1], _, _, rfl, by rw [h1]; exact hS.kp, fun x hx => am_uf_ne _ _ hx, fun _ => am_uf_eq _ _ _⟩

theorem c_takeDigits {d N : Nat} {P : am_P} {H : am_H} {h : Int → Int} {H1 : am_H} {n p q : Int} {X : Int → Int} {m : Nat} (hP : PZ P) (hB : HB h H n) (hS : TS H H1 n p q X) (hp : 0 ≤ p ∧ p ≤ 900) (hm : m ≤ 6) : am_C (d + 2) 246 [am_r 4, am_i (m : Int)] (N, P, H1) (fun v σ => v = none ∧ ∃ H2 : am_H, σ = (N, P, H2) ∧ TS H H2 n (p + (dgF h p m).2) q X ∧ H2 4 5 = (dgF h p m).1 ∧ H2 4 6 = (dgF h p m).2) := by
  refine am_enC (d := d + 1) (ml := 2) (ls := [_, _]) cq_TextReader_takeDigits rfl (Nat.le_of_ble_eq_true rfl) rfl ?_
  refine st_aload_n rfl rfl (by decide) ?_
  refine st_iconst rfl ?_
  refine st_putI (kk := 5) rfl rfl rfl rfl ?_
  refine st_aload_n rfl rfl (by decide) ?_
  refine st_iconst rfl ?_
  refine st_putI (kk := 6) rfl rfl rfl rfl ?_
  suffices hz : ∀ j, j ≤ m → ∀ H2 : am_H, TS H H2 n (p + (j : Int)) q X → H2 4 5 = (dgF h p j).1 → H2 4 6 = (j : Int) → (dgF h p j).2 = (j : Int) → am_WP (am_R (d + 1)) cd_TextReader_takeDigits (fun v σ => v = none ∧ ∃ H2 : am_H, σ = (N, P, H2) ∧ TS H H2 n (p + (dgF h p m).2) q X ∧ H2 4 5 = (dgF h p m).1 ∧ H2 4 6 = (dgF h p m).2) 6 [some (am_r 4), some (am_i (m : Int))] [] (N, P, H2) by
    refine hz 0 (Nat.zero_le _) _ ?_ ?_ ?_ rfl
    · rw [show p + ((0 : Nat) : Int) = p by omega]
      exact (hS.o (Or.inl rfl)).o (Or.inr rfl)
    · rw [am_up_eq, am_uf_ne _ _ (by omega), am_up_eq, am_uf_eq]; rfl
    · rw [am_up_eq, am_uf_eq]; rfl
  refine up_ind (n := m) ?_ ?_
  · intro H2 t q5 q6 qj
    refine st_aload_n rfl rfl (by decide) ?_
    refine st_getI (kk := 6) rfl rfl (by decide) rfl ?_
    refine st_iload_n rfl rfl ?_
    rw [q6]
    refine st_icmp_ge rfl (fun h9 => ?_) (fun h9 => (by exfalso; omega))
    refine st_ret rfl ?_
    exact ⟨rfl, H2, rfl, by rw [qj]; exact t, q5, by rw [q6, qj]⟩
  · intro j hj ih H2 t q5 q6 qj
    have hb := hB.2.2 (p + (j : Int))
    have hdr := dgF_r h p j
    have htn := tnF_r (j := (dgF h p j).2.toNat) (by omega)
    have hds : dgF h p (j + 1) = if (dgF h p j).2 = (j : Int) ∧ isD (h (p + (j : Int))) then (10 * (dgF h p j).1 + h (p + (j : Int)) - 48, (j : Int) + 1) else dgF h p j := rfl
    refine st_aload_n rfl rfl (by decide) ?_
    refine st_getI (kk := 6) rfl rfl (by decide) rfl ?_
    refine st_iload_n rfl rfl ?_
    rw [q6]
    refine st_icmp_ge rfl (fun h9 => (by exfalso; omega)) (fun h9 => ?_)
    refine st_aload_n rfl rfl (by decide) ?_
    refine st_cv1 (w := []) rfl rfl rfl (Nat.le_of_ble_eq_true rfl) (Nat.le_of_ble_eq_true rfl) rfl rfl (r_TextReader_next hP hB t (by omega)) ?_
    refine st_cs1 (w := []) rfl (by decide) (by decide) (by decide) (Nat.le_of_ble_eq_true rfl) (Nat.le_of_ble_eq_true rfl) rfl rfl (r_TextReader_isDigit) ?_
    refine st_if_eq_b rfl (fun h13 => ?_) (fun h13 => ?_)
    · refine st_ret rfl ?_
      have hs := dgF_s (h := h) (p := p) (j := j) (Or.inr h13) (m - j)
      rw [show j + (m - j) = m by omega] at hs
      exact ⟨rfl, H2, rfl, by rw [hs, qj]; exact t, by rw [hs]; exact q5, by rw [hs, q6, qj]⟩
    · refine st_aload_n rfl rfl (by decide) ?_
      refine st_aload_n rfl rfl (by decide) ?_
      refine st_getI (kk := 5) rfl rfl (by decide) rfl ?_
      rw [q5]
      refine st_bipush rfl ?_
      refine st_imul rfl (by omega) ?_
      refine st_aload_n rfl rfl (by decide) ?_
      refine st_cv1 (w := [_, _]) rfl rfl rfl (Nat.le_of_ble_eq_true rfl) (Nat.le_of_ble_eq_true rfl) rfl rfl (r_TextReader_next hP hB t (by omega)) ?_
      refine st_iadd rfl (by omega) ?_
      refine st_bipush rfl ?_
      refine st_isub rfl (by omega) ?_
      refine st_putI (kk := 5) rfl rfl rfl rfl ?_
      refine st_aload_n rfl rfl (by decide) ?_
      refine st_dup rfl rfl ?_
      refine st_getI (kk := 6) rfl rfl (by decide) rfl ?_
      rw [show am_up H2 4 5 ((dgF h p j).1 * 10 + h (p + (j : Int)) - 48) 4 6 = (j : Int) by rw [am_up_eq, am_uf_ne _ _ (by omega)]; exact q6]
      refine st_iconst rfl ?_
      refine st_iadd rfl (by omega) ?_
      refine st_putI (kk := 6) rfl rfl rfl rfl ?_
      refine st_aload_n rfl rfl (by decide) ?_
      refine st_dup rfl rfl ?_
      refine st_getI (kk := 3) rfl rfl (by decide) rfl ?_
      rw [show am_up (am_up H2 4 5 ((dgF h p j).1 * 10 + h (p + (j : Int)) - 48)) 4 6 ((j : Int) + 1) 4 3 = p + (j : Int) by rw [am_up_eq, am_uf_ne _ _ (by omega), am_up_eq, am_uf_ne _ _ (by omega)]; exact t.2.2.1]
      refine st_iconst rfl ?_
      refine st_iadd rfl (by omega) ?_
      refine st_putI (kk := 3) rfl rfl rfl rfl ?_
      refine st_goto rfl ?_
      rw [if_pos ⟨qj, h13⟩] at hds
      refine ih _ ?_ ?_ ?_ (by rw [hds]; show (j : Int) + 1 = _; omega)
      · rw [show p + ((j + 1 : Nat) : Int) = p + (j : Int) + 1 by omega]
        exact ((t.o (Or.inl rfl)).o (Or.inr rfl)).at _
      · rw [hds, am_up_eq, am_uf_ne _ _ (by omega), am_up_eq, am_uf_ne _ _ (by omega), am_up_eq, am_uf_eq]
        show _ = 10 * (dgF h p j).1 + h (p + (j : Int)) - 48
        omega
      · rw [am_up_eq, am_uf_ne _ _ (by omega), am_up_eq, am_uf_eq]; omega
theorem c_TextReader_takeFraction {d N : Nat} {P : am_P} {H : am_H} {h : Int → Int} {H1 : am_H} {n p q : Int} {X : Int → Int} {kd v : Int} {m : Nat} (hP : PZ P) (hB : HB h H n) (hS : TS H H1 n p q X) (hp : 0 ≤ p ∧ p ≤ 900) (hq : 0 ≤ q ∧ q < 8) (hm : m ≤ 6) (hk : (0 ≤ kd ∧ kd ≤ 6) ∧ (0 ≤ v ∧ v < 65536)) : am_C (d + 3) 243 [am_r 4, am_i (kd), am_i (v), am_i ((m : Int))] (N, P, H1) (NR N P H n q X (frF h p kd v m)) := by
  refine am_enC (d := d + 2) (ml := 4) (ls := [_, _, _, _]) cq_TextReader_takeFraction rfl (Nat.le_of_ble_eq_true rfl) rfl ?_
  refine st_aload_n rfl rfl (by decide) ?_
  refine st_iload_n rfl rfl ?_
  refine st_cvC (w := []) rfl rfl rfl (Nat.le_of_ble_eq_true rfl) (Nat.le_of_ble_eq_true rfl) rfl rfl (c_takeDigits (m := m) (p := p) hP hB hS (by omega) (by omega)) ?_
  rintro v' σ ⟨rfl, H2, rfl, t2, d5, d6⟩
  show am_WP _ _ _ _ _ [] _
  have hdr := dgF_r h (p) m
  have htn := tnF_r (j := (dgF h (p) m).2.toNat) (by omega)
  have hd4 := fun z => dg_4 (h := h) (p := p) (m := m) z
  have hd6 := dg_6 (h := h) (p := p) (m := m) (by omega)
  first
  | have hd4 := hd4 (by omega)
  | skip
  refine st_aload_n rfl rfl (by decide) ?_
  refine st_getI (kk := 6) rfl rfl (by decide) rfl ?_
  rw [d6]
  refine st_if_eq rfl (fun h5 => ?_) (fun h5 => ?_)
  · refine st_iconst rfl ?_
    refine st_iret rfl (fun z => by first | exact absurd z (by decide) | exact bi_01 _ | decide | omega) ?_
    refine NR_0 (r := frF h p kd v m) ?_ t2
    show bi _ = 0
    exact bi_f (by omega)
  · refine st_aload_n rfl rfl (by decide) ?_
    refine st_getI (kk := 5) rfl rfl (by decide) rfl ?_
    rw [d5]
    refine st_bipush rfl ?_
    refine st_irem rfl (by omega) (by omega) (by omega) ?_
    refine st_if_ne rfl (fun h10 => ?_) (fun h10 => ?_)
    · refine st_aload_n rfl rfl (by decide) ?_
      refine st_iload_n rfl rfl ?_
      refine st_iload_n rfl rfl ?_
      refine st_aload_n rfl rfl (by decide) ?_
      refine st_getI (kk := 5) rfl rfl (by decide) rfl ?_
      rw [d5]
      refine st_aload_n rfl rfl (by decide) ?_
      refine st_getI (kk := 6) rfl rfl (by decide) rfl ?_
      rw [d6]
      refine st_cv0 (w := []) rfl rfl rfl (Nat.le_of_ble_eq_true rfl) (Nat.le_of_ble_eq_true rfl) rfl rfl (r_TextReader_keep (H := H) hP t2.2.2.2.1 hq (by omega)) ?_
      refine st_iconst rfl ?_
      refine st_iret rfl (fun z => by first | exact absurd z (by decide) | exact bi_01 _ | decide | omega) ?_
      refine NR_1 (r := frF h p kd v m) ?_ t2
      show bi _ = 1
      exact bi_t (by omega)
    · refine st_iconst rfl ?_
      refine st_iret rfl (fun z => by first | exact absurd z (by decide) | exact bi_01 _ | decide | omega) ?_
      refine NR_0 (r := frF h p kd v m) ?_ t2
      show bi _ = 0
      exact bi_f (by omega)
theorem c_TextReader_takeWhole {d N : Nat} {P : am_P} {H : am_H} {h : Int → Int} {H1 : am_H} {n p q : Int} {X : Int → Int}  (hP : PZ P) (hB : HB h H n) (hS : TS H H1 n p q X) (hp : 0 ≤ p ∧ p ≤ 900) (hq : 0 ≤ q ∧ q < 8) (hd : isD (h p)) : am_C (d + 3) 241 [am_r 4] (N, P, H1) (NR N P H n q X (whF h p)) := by
  refine am_enC (d := d + 2) (ml := 1) (ls := [_]) cq_TextReader_takeWhole rfl (Nat.le_of_ble_eq_true rfl) rfl ?_
  have hb := hB.2.2 p
  refine st_aload_n rfl rfl (by decide) ?_
  refine st_aload_n rfl rfl (by decide) ?_
  refine st_cv1 (w := [_]) rfl rfl rfl (Nat.le_of_ble_eq_true rfl) (Nat.le_of_ble_eq_true rfl) rfl rfl (r_TextReader_next hP hB hS (by omega)) ?_
  refine st_bipush rfl ?_
  refine st_icmp_ne rfl (fun h4 => ?_) (fun h4 => ?_)
  · refine st_iconst rfl ?_
    refine st_cvC (w := []) rfl rfl rfl (Nat.le_of_ble_eq_true rfl) (Nat.le_of_ble_eq_true rfl) rfl rfl (c_takeDigits (m := 4) (p := p) hP hB hS (by omega) (by omega)) ?_
    rintro v' σ ⟨rfl, H2, rfl, t2, d5, d6⟩
    show am_WP _ _ _ _ _ [] _
    have hdr := dgF_r h (p) 4
    have htn := tnF_r (j := (dgF h (p) 4).2.toNat) (by omega)
    have hd4 := fun z => dg_4 (h := h) (p := p) (m := 4) z
    have hd6 := dg_6 (h := h) (p := p) (m := 4) (by omega)
    first
    | have hd4 := hd4 (by omega)
    | skip
    refine st_aload_n rfl rfl (by decide) ?_
    refine st_iconst rfl ?_
    refine st_aload_n rfl rfl (by decide) ?_
    refine st_getI (kk := 5) rfl rfl (by decide) rfl ?_
    rw [d5]
    refine st_iconst rfl ?_
    refine st_iconst rfl ?_
    refine st_cv0 (w := []) rfl rfl rfl (Nat.le_of_ble_eq_true rfl) (Nat.le_of_ble_eq_true rfl) rfl rfl (r_TextReader_keep (H := H) hP t2.2.2.2.1 hq (by omega)) ?_
    refine st_iconst rfl ?_
    refine st_iret rfl (fun z => by first | exact absurd z (by decide) | exact bi_01 _ | decide | omega) ?_
    first
    | (have hw : whF h p = ⟨bi (0 < (dgF h p 4).2), p + (dgF h p 4).2, 1, (dgF h p 4).1, 0, 0⟩ := by unfold whF; rw [if_neg (by omega)]
       rw [hw]
       refine NR_1 (r := (bi (0 < (dgF h p 4).2), p + (dgF h p 4).2, 1, (dgF h p 4).1, 0, 0)) ?_ t2
       exact bi_t (dg_1 hd 3))
    | (have hw : whF h p = ⟨bi (0 < (dgF h p 1).2), p + (dgF h p 1).2, 1, (dgF h p 1).1, 0, 0⟩ := by unfold whF; rw [if_pos (by omega)]
       rw [hw]
       refine NR_1 (r := (bi (0 < (dgF h p 1).2), p + (dgF h p 1).2, 1, (dgF h p 1).1, 0, 0)) ?_ t2
       exact bi_t (dg_1 hd 0))
  · refine st_iconst rfl ?_
    refine st_goto rfl ?_
    refine st_cvC (w := []) rfl rfl rfl (Nat.le_of_ble_eq_true rfl) (Nat.le_of_ble_eq_true rfl) rfl rfl (c_takeDigits (m := 1) (p := p) hP hB hS (by omega) (by omega)) ?_
    rintro v' σ ⟨rfl, H2, rfl, t2, d5, d6⟩
    show am_WP _ _ _ _ _ [] _
    have hdr := dgF_r h (p) 1
    have htn := tnF_r (j := (dgF h (p) 1).2.toNat) (by omega)
    have hd4 := fun z => dg_4 (h := h) (p := p) (m := 1) z
    have hd6 := dg_6 (h := h) (p := p) (m := 1) (by omega)
    first
    | have hd4 := hd4 (by omega)
    | skip
    refine st_aload_n rfl rfl (by decide) ?_
    refine st_iconst rfl ?_
    refine st_aload_n rfl rfl (by decide) ?_
    refine st_getI (kk := 5) rfl rfl (by decide) rfl ?_
    rw [d5]
    refine st_iconst rfl ?_
    refine st_iconst rfl ?_
    refine st_cv0 (w := []) rfl rfl rfl (Nat.le_of_ble_eq_true rfl) (Nat.le_of_ble_eq_true rfl) rfl rfl (r_TextReader_keep (H := H) hP t2.2.2.2.1 hq (by omega)) ?_
    refine st_iconst rfl ?_
    refine st_iret rfl (fun z => by first | exact absurd z (by decide) | exact bi_01 _ | decide | omega) ?_
    first
    | (have hw : whF h p = ⟨bi (0 < (dgF h p 4).2), p + (dgF h p 4).2, 1, (dgF h p 4).1, 0, 0⟩ := by unfold whF; rw [if_neg (by omega)]
       rw [hw]
       refine NR_1 (r := (bi (0 < (dgF h p 4).2), p + (dgF h p 4).2, 1, (dgF h p 4).1, 0, 0)) ?_ t2
       exact bi_t (dg_1 hd 3))
    | (have hw : whF h p = ⟨bi (0 < (dgF h p 1).2), p + (dgF h p 1).2, 1, (dgF h p 1).1, 0, 0⟩ := by unfold whF; rw [if_pos (by omega)]
       rw [hw]
       refine NR_1 (r := (bi (0 < (dgF h p 1).2), p + (dgF h p 1).2, 1, (dgF h p 1).1, 0, 0)) ?_ t2
       exact bi_t (dg_1 hd 0))
theorem c_TextReader_takeYear {d N : Nat} {P : am_P} {H : am_H} {h : Int → Int} {H1 : am_H} {n p q : Int} {X : Int → Int}  (hP : PZ P) (hB : HB h H n) (hS : TS H H1 n p q X) (hp : 0 ≤ p ∧ p ≤ 900) (hq : 0 ≤ q ∧ q < 8) (hp8 : p ≤ 80) : am_C (d + 3) 244 [am_r 4] (N, P, H1) (NR N P H n q X (yrF h p)) := by
  refine am_enC (d := d + 2) (ml := 1) (ls := [_]) cq_TextReader_takeYear rfl (Nat.le_of_ble_eq_true rfl) rfl ?_
  have hb := hB.2.2 (p + 1)
  have s3 := hS.2.2.1
  have hS1 := hS.at (p + 1)
  refine st_aload_n rfl rfl (by decide) ?_
  refine st_dup rfl rfl ?_
  refine st_getI (kk := 3) rfl rfl (by decide) rfl ?_
  rw [s3]
  refine st_iconst rfl ?_
  refine st_iadd rfl (by omega) ?_
  refine st_putI (kk := 3) rfl rfl rfl rfl ?_
  refine st_aload_n rfl rfl (by decide) ?_
  refine st_cv1 (w := []) rfl rfl rfl (Nat.le_of_ble_eq_true rfl) (Nat.le_of_ble_eq_true rfl) rfl rfl (r_TextReader_next hP hB hS1 (by omega)) ?_
  refine st_bipush rfl ?_
  refine st_icmp_eq rfl (fun h9 => ?_) (fun h9 => ?_)
  · refine st_aload_n rfl rfl (by decide) ?_
    refine st_iconst rfl ?_
    refine st_cvC (w := []) rfl rfl rfl (Nat.le_of_ble_eq_true rfl) (Nat.le_of_ble_eq_true rfl) rfl rfl (c_takeDigits (m := 4) (p := p + 1) hP hB hS1 (by omega) (by omega)) ?_
    rintro v' σ ⟨rfl, H2, rfl, t2, d5, d6⟩
    show am_WP _ _ _ _ _ [] _
    have hdr := dgF_r h (p + 1) 4
    have htn := tnF_r (j := (dgF h (p + 1) 4).2.toNat) (by omega)
    have hd4 := fun z => dg_4 (h := h) (p := p + 1) (m := 4) z
    have hd6 := dg_6 (h := h) (p := p + 1) (m := 4) (by omega)
    first
    | have hd4 := hd4 (by omega)
    | skip
    refine st_aload_n rfl rfl (by decide) ?_
    refine st_getI (kk := 6) rfl rfl (by decide) rfl ?_
    rw [d6]
    refine st_iconst rfl ?_
    refine st_icmp_ge rfl (fun h22 => ?_) (fun h22 => ?_)
    · refine st_aload_n rfl rfl (by decide) ?_
      refine st_iconst rfl ?_
      refine st_aload_n rfl rfl (by decide) ?_
      refine st_getI (kk := 5) rfl rfl (by decide) rfl ?_
      rw [d5]
      refine st_iconst rfl ?_
      refine st_iconst rfl ?_
      refine st_cv0 (w := []) rfl rfl rfl (Nat.le_of_ble_eq_true rfl) (Nat.le_of_ble_eq_true rfl) rfl rfl (r_TextReader_keep (H := H) hP t2.2.2.2.1 hq (by omega)) ?_
      refine st_iconst rfl ?_
      refine st_iret rfl (fun z => by first | exact absurd z (by decide) | exact bi_01 _ | decide | omega) ?_
      have hw : yrF h p = ⟨bi ((dgF h (p + 1) 4).2 = 4), p + 1 + (dgF h (p + 1) 4).2, 3, (dgF h (p + 1) 4).1, 0, 0⟩ := if_pos (by omega)
      rw [hw]
      exact NR_1 (r := (bi ((dgF h (p + 1) 4).2 = 4), p + 1 + (dgF h (p + 1) 4).2, 3, (dgF h (p + 1) 4).1, 0, 0)) (bi_t (by omega)) t2
    · refine st_iconst rfl ?_
      refine st_iret rfl (fun z => by first | exact absurd z (by decide) | exact bi_01 _ | decide | omega) ?_
      have hw : yrF h p = ⟨bi ((dgF h (p + 1) 4).2 = 4), p + 1 + (dgF h (p + 1) 4).2, 3, (dgF h (p + 1) 4).1, 0, 0⟩ := if_pos (by omega)
      rw [hw]
      exact NR_0 (r := (bi ((dgF h (p + 1) 4).2 = 4), p + 1 + (dgF h (p + 1) 4).2, 3, (dgF h (p + 1) 4).1, 0, 0)) (bi_f (by omega)) t2
  · refine st_aload_n rfl rfl (by decide) ?_
    refine st_cv1 (w := []) rfl rfl rfl (Nat.le_of_ble_eq_true rfl) (Nat.le_of_ble_eq_true rfl) rfl rfl (r_TextReader_next hP hB hS1 (by omega)) ?_
    refine st_bipush rfl ?_
    refine st_icmp_eq rfl (fun h13 => ?_) (fun h13 => ?_)
    · refine st_aload_n rfl rfl (by decide) ?_
      refine st_iconst rfl ?_
      refine st_cvC (w := []) rfl rfl rfl (Nat.le_of_ble_eq_true rfl) (Nat.le_of_ble_eq_true rfl) rfl rfl (c_takeDigits (m := 4) (p := p + 1) hP hB hS1 (by omega) (by omega)) ?_
      rintro v' σ ⟨rfl, H2, rfl, t2, d5, d6⟩
      show am_WP _ _ _ _ _ [] _
      have hdr := dgF_r h (p + 1) 4
      have htn := tnF_r (j := (dgF h (p + 1) 4).2.toNat) (by omega)
      have hd4 := fun z => dg_4 (h := h) (p := p + 1) (m := 4) z
      have hd6 := dg_6 (h := h) (p := p + 1) (m := 4) (by omega)
      first
      | have hd4 := hd4 (by omega)
      | skip
      refine st_aload_n rfl rfl (by decide) ?_
      refine st_getI (kk := 6) rfl rfl (by decide) rfl ?_
      rw [d6]
      refine st_iconst rfl ?_
      refine st_icmp_ge rfl (fun h22 => ?_) (fun h22 => ?_)
      · refine st_aload_n rfl rfl (by decide) ?_
        refine st_iconst rfl ?_
        refine st_aload_n rfl rfl (by decide) ?_
        refine st_getI (kk := 5) rfl rfl (by decide) rfl ?_
        rw [d5]
        refine st_iconst rfl ?_
        refine st_iconst rfl ?_
        refine st_cv0 (w := []) rfl rfl rfl (Nat.le_of_ble_eq_true rfl) (Nat.le_of_ble_eq_true rfl) rfl rfl (r_TextReader_keep (H := H) hP t2.2.2.2.1 hq (by omega)) ?_
        refine st_iconst rfl ?_
        refine st_iret rfl (fun z => by first | exact absurd z (by decide) | exact bi_01 _ | decide | omega) ?_
        have hw : yrF h p = ⟨bi ((dgF h (p + 1) 4).2 = 4), p + 1 + (dgF h (p + 1) 4).2, 3, (dgF h (p + 1) 4).1, 0, 0⟩ := if_pos (by omega)
        rw [hw]
        exact NR_1 (r := (bi ((dgF h (p + 1) 4).2 = 4), p + 1 + (dgF h (p + 1) 4).2, 3, (dgF h (p + 1) 4).1, 0, 0)) (bi_t (by omega)) t2
      · refine st_iconst rfl ?_
        refine st_iret rfl (fun z => by first | exact absurd z (by decide) | exact bi_01 _ | decide | omega) ?_
        have hw : yrF h p = ⟨bi ((dgF h (p + 1) 4).2 = 4), p + 1 + (dgF h (p + 1) 4).2, 3, (dgF h (p + 1) 4).1, 0, 0⟩ := if_pos (by omega)
        rw [hw]
        exact NR_0 (r := (bi ((dgF h (p + 1) 4).2 = 4), p + 1 + (dgF h (p + 1) 4).2, 3, (dgF h (p + 1) 4).1, 0, 0)) (bi_f (by omega)) t2
    · refine st_iconst rfl ?_
      refine st_iret rfl (fun z => by first | exact absurd z (by decide) | exact bi_01 _ | decide | omega) ?_
      have hw : yrF h p = ⟨0, p + 1, 3, 0, 0, 0⟩ := if_neg (by omega)
      rw [hw]
      exact NR_0 (r := (0, p + 1, 3, 0, 0, 0)) rfl hS1
theorem c_TextReader_takeNumber {d N : Nat} {P : am_P} {H : am_H} {h : Int → Int} {H1 : am_H} {n p q : Int} {X : Int → Int} {kd : Int} (hP : PZ P) (hB : HB h H n) (hS : TS H H1 n p q X) (hp : 0 ≤ p ∧ p ≤ 900) (hq : 0 ≤ q ∧ q < 8) (hp8 : p ≤ 80) (hk : 0 ≤ kd ∧ kd ≤ 6) : am_C (d + 3) 245 [am_r 4, am_i (kd)] (N, P, H1) (NR N P H n q X (cdF h p kd)) := by
  refine am_enC (d := d + 2) (ml := 2) (ls := [_, _]) cq_TextReader_takeNumber rfl (Nat.le_of_ble_eq_true rfl) rfl ?_
  have hb := hB.2.2 (p + 1)
  have s3 := hS.2.2.1
  have hS1 := hS.at (p + 1)
  refine st_aload_n rfl rfl (by decide) ?_
  refine st_dup rfl rfl ?_
  refine st_getI (kk := 3) rfl rfl (by decide) rfl ?_
  rw [s3]
  refine st_iconst rfl ?_
  refine st_iadd rfl (by omega) ?_
  refine st_putI (kk := 3) rfl rfl rfl rfl ?_
  refine st_aload_n rfl rfl (by decide) ?_
  refine st_cv1 (w := []) rfl rfl rfl (Nat.le_of_ble_eq_true rfl) (Nat.le_of_ble_eq_true rfl) rfl rfl (r_TextReader_next hP hB hS1 (by omega)) ?_
  refine st_cs1 (w := []) rfl (by decide) (by decide) (by decide) (Nat.le_of_ble_eq_true rfl) (Nat.le_of_ble_eq_true rfl) rfl rfl (r_TextReader_isDigit) ?_
  refine st_if_eq_b rfl (fun h9 => ?_) (fun h9 => ?_)
  · refine st_iconst rfl ?_
    refine st_iret rfl (fun z => by first | exact absurd z (by decide) | exact bi_01 _ | decide | omega) ?_
    have hw : cdF h p kd = ⟨0, p + 1, kd, 0, 0, 0⟩ := if_neg (by omega)
    rw [hw]
    exact NR_0 (r := (0, p + 1, kd, 0, 0, 0)) rfl hS1
  · refine st_aload_n rfl rfl (by decide) ?_
    refine st_cv1 (w := []) rfl rfl rfl (Nat.le_of_ble_eq_true rfl) (Nat.le_of_ble_eq_true rfl) rfl rfl (r_TextReader_next hP hB hS1 (by omega)) ?_
    refine st_bipush rfl ?_
    refine st_icmp_ne rfl (fun h13 => ?_) (fun h13 => ?_)
    · refine st_aload_n rfl rfl (by decide) ?_
      refine st_iconst rfl ?_
      refine st_cvC (w := []) rfl rfl rfl (Nat.le_of_ble_eq_true rfl) (Nat.le_of_ble_eq_true rfl) rfl rfl (c_takeDigits (m := 3) (p := p + 1) hP hB hS1 (by omega) (by omega)) ?_
      rintro v' σ ⟨rfl, H2, rfl, t2, d5, d6⟩
      show am_WP _ _ _ _ _ [] _
      have hdr := dgF_r h (p + 1) 3
      have htn := tnF_r (j := (dgF h (p + 1) 3).2.toNat) (by omega)
      have hd4 := fun z => dg_4 (h := h) (p := p + 1) (m := 3) z
      have hd6 := dg_6 (h := h) (p := p + 1) (m := 3) (by omega)
      first
      | have hd4 := hd4 (by omega)
      | skip
      refine st_aload_n rfl rfl (by decide) ?_
      refine st_iload_n rfl rfl ?_
      refine st_aload_n rfl rfl (by decide) ?_
      refine st_getI (kk := 5) rfl rfl (by decide) rfl ?_
      rw [d5]
      refine st_iconst rfl ?_
      refine st_iconst rfl ?_
      refine st_cv0 (w := []) rfl rfl rfl (Nat.le_of_ble_eq_true rfl) (Nat.le_of_ble_eq_true rfl) rfl rfl (r_TextReader_keep (H := H) hP t2.2.2.2.1 hq (by omega)) ?_
      refine st_iconst rfl ?_
      refine st_iret rfl (fun z => by first | exact absurd z (by decide) | exact bi_01 _ | decide | omega) ?_
      have hw : cdF h p kd = ⟨bi (0 < (dgF h (p + 1) 3).2), p + 1 + (dgF h (p + 1) 3).2, kd, (dgF h (p + 1) 3).1, 0, 0⟩ := if_pos (by omega)
      rw [hw]
      exact NR_1 (r := (bi (0 < (dgF h (p + 1) 3).2), p + 1 + (dgF h (p + 1) 3).2, kd, (dgF h (p + 1) 3).1, 0, 0)) (bi_t (dg_1 (by omega) 2)) t2
    · refine st_iconst rfl ?_
      refine st_iret rfl (fun z => by first | exact absurd z (by decide) | exact bi_01 _ | decide | omega) ?_
      have hw : cdF h p kd = ⟨0, p + 1, kd, 0, 0, 0⟩ := if_neg (by omega)
      rw [hw]
      exact NR_0 (r := (0, p + 1, kd, 0, 0, 0)) rfl hS1
theorem c_TextReader_takeLetters {d N : Nat} {P : am_P} {H : am_H} {h : Int → Int} {H1 : am_H} {n p q : Int} {X : Int → Int}  (hP : PZ P) (hB : HB h H n) (hS : TS H H1 n p q X) (hp : 0 ≤ p ∧ p ≤ 900) (hq : 0 ≤ q ∧ q < 8)  : am_C (d + 3) 240 [am_r 4] (N, P, H1) (NR N P H n q X (ltR h p)) := by
  refine am_enC (d := d + 2) (ml := 3) (ls := [_, _, _]) cq_TextReader_takeLetters rfl (Nat.le_of_ble_eq_true rfl) rfl ?_
  refine st_iconst rfl ?_
  refine st_istore_n (ls' := [_, _, _]) rfl (Nat.le_of_ble_eq_true rfl) rfl ?_
  refine st_iconst rfl ?_
  refine st_istore_n (ls' := [_, _, _]) rfl (Nat.le_of_ble_eq_true rfl) rfl ?_
  suffices hz : ∀ j : Nat, j ≤ 3 → ∀ H2 : am_H, TS H H2 n (p + (j : Int)) q X → (ltF h p j).2 = (j : Int) → am_WP (am_R (d + 2)) cd_TextReader_takeLetters (NR N P H n q X (ltR h p)) 4 [some (am_r 4), some (am_i (ltF h p j).1), some (am_i (j : Int))] [] (N, P, H2) from hz 0 (Nat.zero_le _) H1 (by rw [show p + ((0 : Nat) : Int) = p by omega]; exact hS) rfl
  have fin : ∀ (j : Nat) (H2 : am_H) (w2 : Option am_V), j ≤ 3 → ltF h p 3 = ltF h p j → TS H H2 n (p + (j : Int)) q X → (ltF h p j).2 = (j : Int) → am_WP (am_R (d + 2)) cd_TextReader_takeLetters (NR N P H n q X (ltR h p)) 30 [some (am_r 4), some (am_i (ltF h p j).1), w2] [] (N, P, H2) := by
    intro j H2 w2 hj he t2 qj
    have hlr := ltF_r h p j hj
    refine st_aload_n rfl rfl (by decide) ?_
    refine st_iconst rfl ?_
    refine st_iload_n rfl rfl ?_
    refine st_iconst rfl ?_
    refine st_iconst rfl ?_
    refine st_cv0 (w := []) rfl rfl rfl (Nat.le_of_ble_eq_true rfl) (Nat.le_of_ble_eq_true rfl) rfl rfl (r_TextReader_keep (H := H) hP t2.2.2.2.1 hq (by omega)) ?_
    refine st_iconst rfl ?_
    refine st_iret rfl (fun z => by first | exact absurd z (by decide) | exact bi_01 _ | decide | omega) ?_
    have hw : ltR h p = (1, p + (j : Int), 0, (ltF h p j).1, 0, 0) := by unfold ltR; rw [he, qj]
    rw [hw]
    exact NR_1 (r := (1, p + (j : Int), 0, (ltF h p j).1, 0, 0)) rfl t2
  refine up_ind (n := 3) ?_ ?_
  · intro H2 t qj
    refine st_iload_n rfl rfl ?_
    refine st_iconst rfl ?_
    refine st_icmp_ge rfl (fun h6 => ?_) (fun h6 => (by exfalso; omega))
    exact fin 3 H2 _ (Nat.le_refl _) rfl t qj
  · intro j hj ih H2 t qj
    have hb := hB.2.2 (p + (j : Int))
    have hlr := ltF_r h p j (by omega)
    have hls : ltF h p (j + 1) = if (ltF h p j).2 = (j : Int) ∧ isL (h (p + (j : Int))) then (27 * (ltF h p j).1 + h (p + (j : Int)) - 65 + 1, (j : Int) + 1) else ltF h p j := rfl
    refine st_iload_n rfl rfl ?_
    refine st_iconst rfl ?_
    refine st_icmp_ge rfl (fun h6 => (by exfalso; omega)) (fun h6 => ?_)
    refine st_aload_n rfl rfl (by decide) ?_
    refine st_cv1 (w := []) rfl rfl rfl (Nat.le_of_ble_eq_true rfl) (Nat.le_of_ble_eq_true rfl) rfl rfl (r_TextReader_next hP hB t (by omega)) ?_
    refine st_cs1 (w := []) rfl (by decide) (by decide) (by decide) (Nat.le_of_ble_eq_true rfl) (Nat.le_of_ble_eq_true rfl) rfl rfl (r_TextReader_isLetter) ?_
    refine st_if_eq_b rfl (fun h10 => ?_) (fun h10 => ?_)
    · have hs := ltF_s (h := h) (p := p) (j := j) (by omega) h10 (3 - j)
      rw [show j + (3 - j) = 3 by omega] at hs
      exact fin j H2 _ (by omega) hs t qj
    · refine st_iload_n rfl rfl ?_
      refine st_bipush rfl ?_
      refine st_imul rfl (by omega) ?_
      refine st_aload_n rfl rfl (by decide) ?_
      refine st_cv1 (w := [_]) rfl rfl rfl (Nat.le_of_ble_eq_true rfl) (Nat.le_of_ble_eq_true rfl) rfl rfl (r_TextReader_next hP hB t (by omega)) ?_
      refine st_iadd rfl (by omega) ?_
      refine st_bipush rfl ?_
      refine st_isub rfl (by omega) ?_
      refine st_iconst rfl ?_
      refine st_iadd rfl (by omega) ?_
      refine st_istore_n (ls' := [_, _, _]) rfl (Nat.le_of_ble_eq_true rfl) rfl ?_
      refine st_aload_n rfl rfl (by decide) ?_
      refine st_dup rfl rfl ?_
      refine st_getI (kk := 3) rfl rfl (by decide) rfl ?_
      rw [t.2.2.1]
      refine st_iconst rfl ?_
      refine st_iadd rfl (by omega) ?_
      refine st_putI (kk := 3) rfl rfl rfl rfl ?_
      refine st_iinc (ls' := [_, _, _]) rfl rfl (by omega) rfl ?_
      refine st_goto rfl ?_
      rw [if_pos ⟨qj, h10⟩] at hls
      have ih := ih (am_up H2 4 3 (p + (j : Int) + 1)) (by rw [show p + ((j + 1 : Nat) : Int) = p + (j : Int) + 1 by omega]; exact t.at _) (by rw [hls]; show (j : Int) + 1 = _; omega)
      rw [hls] at ih
      rw [show (ltF h p j).1 * 27 + h (p + (j : Int)) - 65 + 1 = 27 * (ltF h p j).1 + h (p + (j : Int)) - 65 + 1 by omega]
      exact ih
