/-! ===== the reference: the next part of a text ===== -/
abbrev NP := Int × Int × Int × Int × Int × Int
abbrev NP.ok (r : NP) : Int := r.1
abbrev NP.pos (r : NP) : Int := r.2.1
abbrev NP.kd (r : NP) : Int := r.2.2.1
abbrev NP.v (r : NP) : Int := r.2.2.2.1
abbrev NP.g (r : NP) : Int := r.2.2.2.2.1
abbrev NP.c (r : NP) : Int := r.2.2.2.2.2
def pN (H : am_H) (q : Int) (K V G C : Int → Int) (r : NP) : am_H := pH H r.pos q (am_uf K q r.kd) (am_uf V q r.v) (am_uf G q r.g) (am_uf C q r.c)
def whF (h : Int → Int) (p : Int) : NP := ⟨bi (0 < (dgF h p (if h p = 48 then 1 else 4)).2), p + (dgF h p (if h p = 48 then 1 else 4)).2, 1, (dgF h p (if h p = 48 then 1 else 4)).1, 0, 0⟩
def yrF (h : Int → Int) (p : Int) : NP := if h (p + 1) = 49 ∨ h (p + 1) = 50 then ⟨bi ((dgF h (p + 1) 4).2 = 4), p + 1 + (dgF h (p + 1) 4).2, 3, (dgF h (p + 1) 4).1, 0, 0⟩ else ⟨0, p + 1, 3, 0, 0, 0⟩
def cdF (h : Int → Int) (p kd : Int) : NP := if isD (h (p + 1)) ∧ h (p + 1) ≠ 48 then ⟨bi (0 < (dgF h (p + 1) 3).2), p + 1 + (dgF h (p + 1) 3).2, kd, (dgF h (p + 1) 3).1, 0, 0⟩ else ⟨0, p + 1, kd, 0, 0, 0⟩
def frF (h : Int → Int) (p kd v : Int) (m : Nat) : NP := ⟨bi (0 < (dgF h p m).2 ∧ (dgF h p m).1 % 10 ≠ 0), p + (dgF h p m).2, kd, v, (dgF h p m).1, (dgF h p m).2⟩
def poF (h : Int → Int) (p : Int) (dec work : Int) : NP := if isD (h (p + 1)) ∧ dec ≠ 0 then frF h (p + 1) 2 0 6 else if isL (h (p + 1)) ∧ work ≠ 0 then frF h (p + 2) 4 (h (p + 1) - 64) 5 else ⟨0, p + 1, 0, 0, 0, 0⟩
def ltR (h : Int → Int) (p : Int) : NP := ⟨1, p + (ltF h p 3).2, 0, (ltF h p 3).1, 0, 0⟩
def npF (h : Int → Int) (p b bl : Int) : NP :=
  if b = 5 then (if h p = 99 then cdF h p 6 else ⟨0, p, 0, 0, 0, 0⟩) else if isL (h p) then ltR h p else if isD (h p) then (if bl ≠ 0 ∧ b = 0 then ⟨0, p, 0, 0, 0, 0⟩ else whF h p)
  else if h p = 46 then poF h p (if bl ≠ 0 ∧ b = 1 then 0 else 1) (if bl ≠ 0 ∨ b = -1 then 1 else 0) else if h p = 121 then yrF h p else if h p = 118 then cdF h p 5 else if h p = 99 then cdF h p 6 else ⟨0, p, 0, 0, 0, 0⟩
/-- what reading a part leaves: the answer, the place, and the part where it was read -/
def NQ (N : Nat) (P : am_P) (H : am_H) (q : Int) (K V G C : Int → Int) (r : NP) (v : Option am_V) (σ : am_S) : Prop := ∃ K' V' G' C' : Int → Int, σ = (N, P, pH H r.pos q K' V' G' C') ∧ v = some (am_i r.ok) ∧ (∀ x, x ≠ q → K' x = K x ∧ V' x = V x ∧ G' x = G x ∧ C' x = C x) ∧ (r.ok = 1 → K' q = r.kd ∧ V' q = r.v ∧ G' q = r.g ∧ C' q = r.c)
theorem NQ_N (N : Nat) (P : am_P) (H : am_H) (q : Int) (K V G C : Int → Int) (r : NP) : NQ N P H q K V G C r (some (am_i r.ok)) (N, P, pN H q K V G C r) :=
  ⟨_, _, _, _, rfl, rfl, fun x hx => ⟨am_uf_ne _ _ hx, am_uf_ne _ _ hx, am_uf_ne _ _ hx, am_uf_ne _ _ hx⟩, fun _ => ⟨am_uf_eq _ _ _, am_uf_eq _ _ _, am_uf_eq _ _ _, am_uf_eq _ _ _⟩⟩
theorem NQ_0 (N : Nat) (P : am_P) (H : am_H) (p q : Int) (K V G C : Int → Int) (a b c d : Int) : NQ N P H q K V G C ⟨0, p, a, b, c, d⟩ (some (am_i 0)) (N, P, pH H p q K V G C) :=
  ⟨_, _, _, _, rfl, rfl, fun x hx => ⟨rfl, rfl, rfl, rfl⟩, fun z => absurd (show (0 : Int) = 1 from z) (by decide)⟩

theorem r_Model_whole {d N : Nat} {P : am_P} {H : am_H} {p q : Int} {K V G C : Int → Int} (hP : PZ P) (hq : 0 ≤ q ∧ q < 8) (hz : H 53 5 ≤ 80) (hp : 0 ≤ p ∧ p ≤ 90) : am_R (d + 4) 57 [am_r 53] (N, P, pH H p q K V G C) (some (am_i ((whF (hbF H) p).ok))) (N, P, pN H q K V G C (whF (hbF H) p)) := by
  refine am_en1 (d := d + 3) (ml := 2) (ls := [_, _]) cq_Model_whole rfl (Nat.le_of_ble_eq_true rfl) rfl ?_
  refine st_aload_n rfl rfl (by decide) ?_
  refine st_iconst rfl ?_
  refine st_cv0 (w := []) rfl rfl rfl (Nat.le_of_ble_eq_true rfl) (Nat.le_of_ble_eq_true rfl) rfl rfl (r_Model_begins hP hq) ?_
  refine st_aload_n rfl rfl (by decide) ?_
  refine st_aload_n rfl rfl (by decide) ?_
  refine st_cv1 (w := [_]) rfl rfl rfl (Nat.le_of_ble_eq_true rfl) (Nat.le_of_ble_eq_true rfl) rfl rfl (r_Model_here hP (by rw [pH_6]; omega) (by rw [pH_k _ _ _ _ _ _ _ (by omega) (by omega)]; exact hz)) ?_
  rw [pH_h]
  refine st_bipush rfl ?_
  refine st_icmp_ne rfl (fun h7 => ?_) (fun h7 => ?_)
  · refine st_iconst rfl ?_
    refine st_cv1 (w := []) rfl rfl rfl (Nat.le_of_ble_eq_true rfl) (Nat.le_of_ble_eq_true rfl) rfl rfl (r_Model_number (most := 4) hP hq hz (by omega) (by omega)) ?_
    rw [uf_uf, uf_uf]
    refine st_istore_n (ls' := [_, _]) rfl (Nat.le_of_ble_eq_true rfl) rfl ?_
    refine st_aload_n rfl rfl (by decide) ?_
    refine st_cv0 (w := []) rfl rfl rfl (Nat.le_of_ble_eq_true rfl) (Nat.le_of_ble_eq_true rfl) rfl rfl (r_Model_isValue hP hq) ?_
    refine st_iload_n rfl rfl ?_
    refine st_if_le rfl (fun h16 => ?_) (fun h16 => ?_)
    · refine st_iconst rfl ?_
      refine st_iret rfl (fun z => by first | exact absurd z (by decide) | exact bi_01 _ | decide | omega) ?_
      refine ⟨am_ri ?_, ?_⟩
      · unfold whF
        first
        | (rw [if_pos (by omega)]; first | exact (bi_t (by omega)).symm | exact (bi_f (by omega)).symm)
        | (rw [if_neg (by omega)]; first | exact (bi_t (by omega)).symm | exact (bi_f (by omega)).symm)
      · unfold whF pN
        first
        | rw [if_pos (by omega)]
        | rw [if_neg (by omega)]
    · refine st_iconst rfl ?_
      refine st_goto rfl ?_
      refine st_iret rfl (fun z => by first | exact absurd z (by decide) | exact bi_01 _ | decide | omega) ?_
      refine ⟨am_ri ?_, ?_⟩
      · unfold whF
        first
        | (rw [if_pos (by omega)]; first | exact (bi_t (by omega)).symm | exact (bi_f (by omega)).symm)
        | (rw [if_neg (by omega)]; first | exact (bi_t (by omega)).symm | exact (bi_f (by omega)).symm)
      · unfold whF pN
        first
        | rw [if_pos (by omega)]
        | rw [if_neg (by omega)]
  · refine st_iconst rfl ?_
    refine st_goto rfl ?_
    refine st_cv1 (w := []) rfl rfl rfl (Nat.le_of_ble_eq_true rfl) (Nat.le_of_ble_eq_true rfl) rfl rfl (r_Model_number (most := 1) hP hq hz (by omega) (by omega)) ?_
    rw [uf_uf, uf_uf]
    refine st_istore_n (ls' := [_, _]) rfl (Nat.le_of_ble_eq_true rfl) rfl ?_
    refine st_aload_n rfl rfl (by decide) ?_
    refine st_cv0 (w := []) rfl rfl rfl (Nat.le_of_ble_eq_true rfl) (Nat.le_of_ble_eq_true rfl) rfl rfl (r_Model_isValue hP hq) ?_
    refine st_iload_n rfl rfl ?_
    refine st_if_le rfl (fun h16 => ?_) (fun h16 => ?_)
    · refine st_iconst rfl ?_
      refine st_iret rfl (fun z => by first | exact absurd z (by decide) | exact bi_01 _ | decide | omega) ?_
      refine ⟨am_ri ?_, ?_⟩
      · unfold whF
        first
        | (rw [if_pos (by omega)]; first | exact (bi_t (by omega)).symm | exact (bi_f (by omega)).symm)
        | (rw [if_neg (by omega)]; first | exact (bi_t (by omega)).symm | exact (bi_f (by omega)).symm)
      · unfold whF pN
        first
        | rw [if_pos (by omega)]
        | rw [if_neg (by omega)]
    · refine st_iconst rfl ?_
      refine st_goto rfl ?_
      refine st_iret rfl (fun z => by first | exact absurd z (by decide) | exact bi_01 _ | decide | omega) ?_
      refine ⟨am_ri ?_, ?_⟩
      · unfold whF
        first
        | (rw [if_pos (by omega)]; first | exact (bi_t (by omega)).symm | exact (bi_f (by omega)).symm)
        | (rw [if_neg (by omega)]; first | exact (bi_t (by omega)).symm | exact (bi_f (by omega)).symm)
      · unfold whF pN
        first
        | rw [if_pos (by omega)]
        | rw [if_neg (by omega)]
theorem r_Model_year {d N : Nat} {P : am_P} {H : am_H} {p q : Int} {K V G C : Int → Int} (hP : PZ P) (hq : 0 ≤ q ∧ q < 8) (hz : H 53 5 ≤ 80) (hp : 0 ≤ p ∧ p ≤ 90) : am_R (d + 4) 58 [am_r 53] (N, P, pH H p q K V G C) (some (am_i ((yrF (hbF H) p).ok))) (N, P, pN H q K V G C (yrF (hbF H) p)) := by
  refine am_en1 (d := d + 3) (ml := 2) (ls := [_, _]) cq_Model_year rfl (Nat.le_of_ble_eq_true rfl) rfl ?_
  refine st_aload_n rfl rfl (by decide) ?_
  refine st_iconst rfl ?_
  refine st_cv0 (w := []) rfl rfl rfl (Nat.le_of_ble_eq_true rfl) (Nat.le_of_ble_eq_true rfl) rfl rfl (r_Model_begins hP hq) ?_
  refine st_aload_n rfl rfl (by decide) ?_
  refine st_dup rfl rfl ?_
  refine st_getI (kk := 6) rfl rfl (by decide) rfl ?_
  rw [pH_6]
  refine st_iconst rfl ?_
  refine st_iadd rfl (by omega) ?_
  refine st_putI (kk := 6) rfl rfl rfl rfl ?_
  rw [pH_u6]
  refine st_aload_n rfl rfl (by decide) ?_
  refine st_cv1 (w := []) rfl rfl rfl (Nat.le_of_ble_eq_true rfl) (Nat.le_of_ble_eq_true rfl) rfl rfl (r_Model_here hP (by rw [pH_6]; omega) (by rw [pH_k _ _ _ _ _ _ _ (by omega) (by omega)]; exact hz)) ?_
  rw [pH_h]
  refine st_bipush rfl ?_
  refine st_icmp_eq rfl (fun h12 => ?_) (fun h12 => ?_)
  · refine st_aload_n rfl rfl (by decide) ?_
    refine st_iconst rfl ?_
    refine st_cv1 (w := []) rfl rfl rfl (Nat.le_of_ble_eq_true rfl) (Nat.le_of_ble_eq_true rfl) rfl rfl (r_Model_number (most := 4) hP hq hz (by omega) (by omega)) ?_
    rw [uf_uf, uf_uf]
    refine st_istore_n (ls' := [_, _]) rfl (Nat.le_of_ble_eq_true rfl) rfl ?_
    refine st_aload_n rfl rfl (by decide) ?_
    refine st_cv0 (w := []) rfl rfl rfl (Nat.le_of_ble_eq_true rfl) (Nat.le_of_ble_eq_true rfl) rfl rfl (r_Model_isValue hP hq) ?_
    refine st_iload_n rfl rfl ?_
    refine st_iconst rfl ?_
    refine st_icmp_ne rfl (fun h27 => ?_) (fun h27 => ?_)
    · refine st_iconst rfl ?_
      refine st_iret rfl (fun z => by first | exact absurd z (by decide) | exact bi_01 _ | decide | omega) ?_
      refine ⟨am_ri ?_, ?_⟩
      · unfold yrF
        first
        | rw [if_neg (by omega)]
        | (rw [if_pos (by omega)]; first | exact (bi_t (by omega)).symm | exact (bi_f (by omega)).symm)
      · unfold yrF pN
        first
        | rw [if_neg (by omega)]
        | rw [if_pos (by omega)]
    · refine st_iconst rfl ?_
      refine st_goto rfl ?_
      refine st_iret rfl (fun z => by first | exact absurd z (by decide) | exact bi_01 _ | decide | omega) ?_
      refine ⟨am_ri ?_, ?_⟩
      · unfold yrF
        first
        | rw [if_neg (by omega)]
        | (rw [if_pos (by omega)]; first | exact (bi_t (by omega)).symm | exact (bi_f (by omega)).symm)
      · unfold yrF pN
        first
        | rw [if_neg (by omega)]
        | rw [if_pos (by omega)]
  · refine st_aload_n rfl rfl (by decide) ?_
    refine st_cv1 (w := []) rfl rfl rfl (Nat.le_of_ble_eq_true rfl) (Nat.le_of_ble_eq_true rfl) rfl rfl (r_Model_here hP (by rw [pH_6]; omega) (by rw [pH_k _ _ _ _ _ _ _ (by omega) (by omega)]; exact hz)) ?_
    rw [pH_h]
    refine st_bipush rfl ?_
    refine st_icmp_eq rfl (fun h16 => ?_) (fun h16 => ?_)
    · refine st_aload_n rfl rfl (by decide) ?_
      refine st_iconst rfl ?_
      refine st_cv1 (w := []) rfl rfl rfl (Nat.le_of_ble_eq_true rfl) (Nat.le_of_ble_eq_true rfl) rfl rfl (r_Model_number (most := 4) hP hq hz (by omega) (by omega)) ?_
      rw [uf_uf, uf_uf]
      refine st_istore_n (ls' := [_, _]) rfl (Nat.le_of_ble_eq_true rfl) rfl ?_
      refine st_aload_n rfl rfl (by decide) ?_
      refine st_cv0 (w := []) rfl rfl rfl (Nat.le_of_ble_eq_true rfl) (Nat.le_of_ble_eq_true rfl) rfl rfl (r_Model_isValue hP hq) ?_
      refine st_iload_n rfl rfl ?_
      refine st_iconst rfl ?_
      refine st_icmp_ne rfl (fun h27 => ?_) (fun h27 => ?_)
      · refine st_iconst rfl ?_
        refine st_iret rfl (fun z => by first | exact absurd z (by decide) | exact bi_01 _ | decide | omega) ?_
        refine ⟨am_ri ?_, ?_⟩
        · unfold yrF
          first
          | rw [if_neg (by omega)]
          | (rw [if_pos (by omega)]; first | exact (bi_t (by omega)).symm | exact (bi_f (by omega)).symm)
        · unfold yrF pN
          first
          | rw [if_neg (by omega)]
          | rw [if_pos (by omega)]
      · refine st_iconst rfl ?_
        refine st_goto rfl ?_
        refine st_iret rfl (fun z => by first | exact absurd z (by decide) | exact bi_01 _ | decide | omega) ?_
        refine ⟨am_ri ?_, ?_⟩
        · unfold yrF
          first
          | rw [if_neg (by omega)]
          | (rw [if_pos (by omega)]; first | exact (bi_t (by omega)).symm | exact (bi_f (by omega)).symm)
        · unfold yrF pN
          first
          | rw [if_neg (by omega)]
          | rw [if_pos (by omega)]
    · refine st_iconst rfl ?_
      refine st_iret rfl (fun z => by first | exact absurd z (by decide) | exact bi_01 _ | decide | omega) ?_
      refine ⟨am_ri ?_, ?_⟩
      · unfold yrF
        first
        | rw [if_neg (by omega)]
        | (rw [if_pos (by omega)]; first | exact (bi_t (by omega)).symm | exact (bi_f (by omega)).symm)
      · unfold yrF pN
        first
        | rw [if_neg (by omega)]
        | rw [if_pos (by omega)]
theorem r_Model_counted {d N : Nat} {P : am_P} {H : am_H} {p q : Int} {K V G C : Int → Int} {kd : Int} (hP : PZ P) (hq : 0 ≤ q ∧ q < 8) (hz : H 53 5 ≤ 80) (hp : 0 ≤ p ∧ p ≤ 90) : am_R (d + 4) 59 [am_r 53, am_i (kd)] (N, P, pH H p q K V G C) (some (am_i ((cdF (hbF H) p kd).ok))) (N, P, pN H q K V G C (cdF (hbF H) p kd)) := by
  refine am_en1 (d := d + 3) (ml := 3) (ls := [_, _, _]) cq_Model_counted rfl (Nat.le_of_ble_eq_true rfl) rfl ?_
  refine st_aload_n rfl rfl (by decide) ?_
  refine st_iload_n rfl rfl ?_
  refine st_cv0 (w := []) rfl rfl rfl (Nat.le_of_ble_eq_true rfl) (Nat.le_of_ble_eq_true rfl) rfl rfl (r_Model_begins hP hq) ?_
  refine st_aload_n rfl rfl (by decide) ?_
  refine st_dup rfl rfl ?_
  refine st_getI (kk := 6) rfl rfl (by decide) rfl ?_
  rw [pH_6]
  refine st_iconst rfl ?_
  refine st_iadd rfl (by omega) ?_
  refine st_putI (kk := 6) rfl rfl rfl rfl ?_
  rw [pH_u6]
  refine st_aload_n rfl rfl (by decide) ?_
  refine st_cv1 (w := []) rfl rfl rfl (Nat.le_of_ble_eq_true rfl) (Nat.le_of_ble_eq_true rfl) rfl rfl (r_Model_isDigit hP (by rw [pH_6]; omega) (by rw [pH_k _ _ _ _ _ _ _ (by omega) (by omega)]; exact hz)) ?_
  rw [pH_h]
  refine st_if_eq_b rfl (fun h11 => ?_) (fun h11 => ?_)
  · refine st_iconst rfl ?_
    refine st_iret rfl (fun z => by first | exact absurd z (by decide) | exact bi_01 _ | decide | omega) ?_
    refine ⟨am_ri ?_, ?_⟩
    · unfold cdF
      first
      | rw [if_neg (by omega)]
      | (rw [if_pos (by omega)]; first | exact (bi_t (by omega)).symm | exact (bi_f (by omega)).symm)
    · unfold cdF pN
      first
      | rw [if_neg (by omega)]
      | rw [if_pos (by omega)]
  · refine st_aload_n rfl rfl (by decide) ?_
    refine st_cv1 (w := []) rfl rfl rfl (Nat.le_of_ble_eq_true rfl) (Nat.le_of_ble_eq_true rfl) rfl rfl (r_Model_here hP (by rw [pH_6]; omega) (by rw [pH_k _ _ _ _ _ _ _ (by omega) (by omega)]; exact hz)) ?_
    rw [pH_h]
    refine st_bipush rfl ?_
    refine st_icmp_ne rfl (fun h15 => ?_) (fun h15 => ?_)
    · refine st_aload_n rfl rfl (by decide) ?_
      refine st_iconst rfl ?_
      refine st_cv1 (w := []) rfl rfl rfl (Nat.le_of_ble_eq_true rfl) (Nat.le_of_ble_eq_true rfl) rfl rfl (r_Model_number (most := 3) hP hq hz (by omega) (by omega)) ?_
      rw [uf_uf, uf_uf]
      refine st_istore_n (ls' := [_, _, _]) rfl (Nat.le_of_ble_eq_true rfl) rfl ?_
      refine st_aload_n rfl rfl (by decide) ?_
      refine st_cv0 (w := []) rfl rfl rfl (Nat.le_of_ble_eq_true rfl) (Nat.le_of_ble_eq_true rfl) rfl rfl (r_Model_isValue hP hq) ?_
      refine st_iload_n rfl rfl ?_
      refine st_if_le rfl (fun h25 => ?_) (fun h25 => ?_)
      · refine st_iconst rfl ?_
        refine st_iret rfl (fun z => by first | exact absurd z (by decide) | exact bi_01 _ | decide | omega) ?_
        refine ⟨am_ri ?_, ?_⟩
        · unfold cdF
          first
          | rw [if_neg (by omega)]
          | (rw [if_pos (by omega)]; first | exact (bi_t (by omega)).symm | exact (bi_f (by omega)).symm)
        · unfold cdF pN
          first
          | rw [if_neg (by omega)]
          | rw [if_pos (by omega)]
      · refine st_iconst rfl ?_
        refine st_goto rfl ?_
        refine st_iret rfl (fun z => by first | exact absurd z (by decide) | exact bi_01 _ | decide | omega) ?_
        refine ⟨am_ri ?_, ?_⟩
        · unfold cdF
          first
          | rw [if_neg (by omega)]
          | (rw [if_pos (by omega)]; first | exact (bi_t (by omega)).symm | exact (bi_f (by omega)).symm)
        · unfold cdF pN
          first
          | rw [if_neg (by omega)]
          | rw [if_pos (by omega)]
    · refine st_iconst rfl ?_
      refine st_iret rfl (fun z => by first | exact absurd z (by decide) | exact bi_01 _ | decide | omega) ?_
      refine ⟨am_ri ?_, ?_⟩
      · unfold cdF
        first
        | rw [if_neg (by omega)]
        | (rw [if_pos (by omega)]; first | exact (bi_t (by omega)).symm | exact (bi_f (by omega)).symm)
      · unfold cdF pN
        first
        | rw [if_neg (by omega)]
        | rw [if_pos (by omega)]
theorem c_Model_pointed {d N : Nat} {P : am_P} {H : am_H} {p q : Int} {K V G C : Int → Int} {dec work : Int} (hP : PZ P) (hq : 0 ≤ q ∧ q < 8) (hz : H 53 5 ≤ 80) (hp : 0 ≤ p ∧ p ≤ 90) : am_C (d + 5) 60 [am_r 53, am_i dec, am_i work] (N, P, pH H p q K V G C) (NQ N P H q K V G C (poF (hbF H) p dec work)) := by
  refine am_enC (d := d + 4) (ml := 3) (ls := [_, _, _]) cq_Model_pointed rfl (Nat.le_of_ble_eq_true rfl) rfl ?_
  refine st_aload_n rfl rfl (by decide) ?_
  refine st_dup rfl rfl ?_
  refine st_getI (kk := 6) rfl rfl (by decide) rfl ?_
  rw [pH_6]
  refine st_iconst rfl ?_
  refine st_iadd rfl (by omega) ?_
  refine st_putI (kk := 6) rfl rfl rfl rfl ?_
  rw [pH_u6]
  refine st_aload_n rfl rfl (by decide) ?_
  refine st_cv1 (w := []) rfl rfl rfl (Nat.le_of_ble_eq_true rfl) (Nat.le_of_ble_eq_true rfl) rfl rfl (r_Model_isDigit hP (by rw [pH_6]; omega) (by rw [pH_k _ _ _ _ _ _ _ (by omega) (by omega)]; exact hz)) ?_
  rw [pH_h]
  refine st_if_eq_b rfl (fun h8 => ?_) (fun h8 => ?_)
  · refine st_aload_n rfl rfl (by decide) ?_
    refine st_cv1 (w := []) rfl rfl rfl (Nat.le_of_ble_eq_true rfl) (Nat.le_of_ble_eq_true rfl) rfl rfl (r_Model_isLetter hP (by rw [pH_6]; omega) (by rw [pH_k _ _ _ _ _ _ _ (by omega) (by omega)]; exact hz)) ?_
    rw [pH_h]
    refine st_if_eq_b rfl (fun h20 => ?_) (fun h20 => ?_)
    · refine st_iconst rfl ?_
      refine st_iret rfl (fun z => by first | exact absurd z (by decide) | exact bi_01 _ | decide | omega) ?_
      rw [show poF (hbF H) p dec work = ⟨0, p + 1, 0, 0, 0, 0⟩ by unfold poF; rw [if_neg (by omega), if_neg (by omega)]]
      exact NQ_0 _ _ _ _ _ _ _ _ _ _ _ _ _
    · refine st_iload_n rfl rfl ?_
      refine st_if_ne rfl (fun h22 => ?_) (fun h22 => ?_)
      · refine st_aload_n rfl rfl (by decide) ?_
        refine st_iconst rfl ?_
        refine st_cv0 (w := []) rfl rfl rfl (Nat.le_of_ble_eq_true rfl) (Nat.le_of_ble_eq_true rfl) rfl rfl (r_Model_begins hP hq) ?_
        refine st_aload_n rfl rfl (by decide) ?_
        refine st_getR (kk := 9) rfl rfl rfl (pz_53_9 hP) rfl ?_
        refine st_aload_n rfl rfl (by decide) ?_
        refine st_getI (kk := 7) rfl rfl (by decide) rfl ?_
        rw [pH_7]
        refine st_aload_n rfl rfl (by decide) ?_
        refine st_cv1 (w := [_, _]) rfl rfl rfl (Nat.le_of_ble_eq_true rfl) (Nat.le_of_ble_eq_true rfl) rfl rfl (r_Model_here hP (by rw [pH_6]; omega) (by rw [pH_k _ _ _ _ _ _ _ (by omega) (by omega)]; exact hz)) ?_
        rw [pH_h]
        refine st_bipush rfl ?_
        refine st_isub rfl (by omega) ?_
        refine st_iconst rfl ?_
        refine st_iadd rfl (by omega) ?_
        refine st_iastore rfl rfl (by omega) (by omega) ?_
        rw [pH_uV, uf_uf]
        refine st_aload_n rfl rfl (by decide) ?_
        refine st_dup rfl rfl ?_
        refine st_getI (kk := 6) rfl rfl (by decide) rfl ?_
        rw [pH_6]
        refine st_iconst rfl ?_
        refine st_iadd rfl (by omega) ?_
        refine st_putI (kk := 6) rfl rfl rfl rfl ?_
        rw [pH_u6]
        refine st_aload_n rfl rfl (by decide) ?_
        refine st_iconst rfl ?_
        refine st_cv1 (w := []) rfl rfl rfl (Nat.le_of_ble_eq_true rfl) (Nat.le_of_ble_eq_true rfl) rfl rfl (r_Model_fraction (most := 5) hP hq hz (by omega) (by omega)) ?_
        rw [uf_uf, uf_uf]
        refine st_iret rfl (fun z => by first | exact absurd z (by decide) | exact bi_01 _ | decide | omega) ?_
        rw [show poF (hbF H) p dec work = frF (hbF H) (p + 2) 4 ((hbF H) (p + 1) - 64) 5 by unfold poF; rw [if_neg (by omega), if_pos ⟨h20, by omega⟩]]
        have := NQ_N N P H q K V G C (frF (hbF H) (p + 2) 4 ((hbF H) (p + 1) - 64) 5)
        unfold frF pN at this
        rw [show p + 1 + 1 = p + 2 by omega, show (hbF H) (p + 1) - 65 + 1 = (hbF H) (p + 1) - 64 by omega]
        exact this
      · refine st_iconst rfl ?_
        refine st_iret rfl (fun z => by first | exact absurd z (by decide) | exact bi_01 _ | decide | omega) ?_
        rw [show poF (hbF H) p dec work = ⟨0, p + 1, 0, 0, 0, 0⟩ by unfold poF; rw [if_neg (by omega), if_neg (by omega)]]
        exact NQ_0 _ _ _ _ _ _ _ _ _ _ _ _ _
  · refine st_iload_n rfl rfl ?_
    refine st_if_eq rfl (fun h10 => ?_) (fun h10 => ?_)
    · refine st_aload_n rfl rfl (by decide) ?_
      refine st_cv1 (w := []) rfl rfl rfl (Nat.le_of_ble_eq_true rfl) (Nat.le_of_ble_eq_true rfl) rfl rfl (r_Model_isLetter hP (by rw [pH_6]; omega) (by rw [pH_k _ _ _ _ _ _ _ (by omega) (by omega)]; exact hz)) ?_
      rw [pH_h]
      refine st_if_eq_b rfl (fun h20 => ?_) (fun h20 => ?_)
      · refine st_iconst rfl ?_
        refine st_iret rfl (fun z => by first | exact absurd z (by decide) | exact bi_01 _ | decide | omega) ?_
        rw [show poF (hbF H) p dec work = ⟨0, p + 1, 0, 0, 0, 0⟩ by unfold poF; rw [if_neg (by omega), if_neg (by omega)]]
        exact NQ_0 _ _ _ _ _ _ _ _ _ _ _ _ _
      · refine st_iload_n rfl rfl ?_
        refine st_if_ne rfl (fun h22 => ?_) (fun h22 => ?_)
        · refine st_aload_n rfl rfl (by decide) ?_
          refine st_iconst rfl ?_
          refine st_cv0 (w := []) rfl rfl rfl (Nat.le_of_ble_eq_true rfl) (Nat.le_of_ble_eq_true rfl) rfl rfl (r_Model_begins hP hq) ?_
          refine st_aload_n rfl rfl (by decide) ?_
          refine st_getR (kk := 9) rfl rfl rfl (pz_53_9 hP) rfl ?_
          refine st_aload_n rfl rfl (by decide) ?_
          refine st_getI (kk := 7) rfl rfl (by decide) rfl ?_
          rw [pH_7]
          refine st_aload_n rfl rfl (by decide) ?_
          refine st_cv1 (w := [_, _]) rfl rfl rfl (Nat.le_of_ble_eq_true rfl) (Nat.le_of_ble_eq_true rfl) rfl rfl (r_Model_here hP (by rw [pH_6]; omega) (by rw [pH_k _ _ _ _ _ _ _ (by omega) (by omega)]; exact hz)) ?_
          rw [pH_h]
          refine st_bipush rfl ?_
          refine st_isub rfl (by omega) ?_
          refine st_iconst rfl ?_
          refine st_iadd rfl (by omega) ?_
          refine st_iastore rfl rfl (by omega) (by omega) ?_
          rw [pH_uV, uf_uf]
          refine st_aload_n rfl rfl (by decide) ?_
          refine st_dup rfl rfl ?_
          refine st_getI (kk := 6) rfl rfl (by decide) rfl ?_
          rw [pH_6]
          refine st_iconst rfl ?_
          refine st_iadd rfl (by omega) ?_
          refine st_putI (kk := 6) rfl rfl rfl rfl ?_
          rw [pH_u6]
          refine st_aload_n rfl rfl (by decide) ?_
          refine st_iconst rfl ?_
          refine st_cv1 (w := []) rfl rfl rfl (Nat.le_of_ble_eq_true rfl) (Nat.le_of_ble_eq_true rfl) rfl rfl (r_Model_fraction (most := 5) hP hq hz (by omega) (by omega)) ?_
          rw [uf_uf, uf_uf]
          refine st_iret rfl (fun z => by first | exact absurd z (by decide) | exact bi_01 _ | decide | omega) ?_
          rw [show poF (hbF H) p dec work = frF (hbF H) (p + 2) 4 ((hbF H) (p + 1) - 64) 5 by unfold poF; rw [if_neg (by omega), if_pos ⟨h20, by omega⟩]]
          have := NQ_N N P H q K V G C (frF (hbF H) (p + 2) 4 ((hbF H) (p + 1) - 64) 5)
          unfold frF pN at this
          rw [show p + 1 + 1 = p + 2 by omega, show (hbF H) (p + 1) - 65 + 1 = (hbF H) (p + 1) - 64 by omega]
          exact this
        · refine st_iconst rfl ?_
          refine st_iret rfl (fun z => by first | exact absurd z (by decide) | exact bi_01 _ | decide | omega) ?_
          rw [show poF (hbF H) p dec work = ⟨0, p + 1, 0, 0, 0, 0⟩ by unfold poF; rw [if_neg (by omega), if_neg (by omega)]]
          exact NQ_0 _ _ _ _ _ _ _ _ _ _ _ _ _
    · refine st_aload_n rfl rfl (by decide) ?_
      refine st_iconst rfl ?_
      refine st_cv0 (w := []) rfl rfl rfl (Nat.le_of_ble_eq_true rfl) (Nat.le_of_ble_eq_true rfl) rfl rfl (r_Model_begins hP hq) ?_
      refine st_aload_n rfl rfl (by decide) ?_
      refine st_bipush rfl ?_
      refine st_cv1 (w := []) rfl rfl rfl (Nat.le_of_ble_eq_true rfl) (Nat.le_of_ble_eq_true rfl) rfl rfl (r_Model_fraction (most := 6) hP hq hz (by omega) (by omega)) ?_
      rw [uf_uf, uf_uf]
      refine st_iret rfl (fun z => by first | exact absurd z (by decide) | exact bi_01 _ | decide | omega) ?_
      rw [show poF (hbF H) p dec work = frF (hbF H) (p + 1) 2 0 6 from if_pos ⟨h8, by omega⟩]
      exact NQ_N _ _ _ _ _ _ _ _ _
theorem yrF_01 (h : Int → Int) (p : Int) : (yrF h p).ok = 0 ∨ (yrF h p).ok = 1 := by
  unfold yrF
  split
  · exact bi_01 _
  · exact Or.inl rfl
theorem cdF_01 (h : Int → Int) (p kd : Int) : (cdF h p kd).ok = 0 ∨ (cdF h p kd).ok = 1 := by
  unfold cdF
  split
  · exact bi_01 _
  · exact Or.inl rfl
theorem whF_01 (h : Int → Int) (p : Int) : (whF h p).ok = 0 ∨ (whF h p).ok = 1 := bi_01 _
theorem poF_01 (h : Int → Int) (p a b : Int) : (poF h p a b).ok = 0 ∨ (poF h p a b).ok = 1 := by
  unfold poF
  split
  · exact bi_01 _
  · split
    · exact bi_01 _
    · exact Or.inl rfl

theorem c_Model_nextPart {d N : Nat} {P : am_P} {H : am_H} {p q : Int} {K V G C : Int → Int} {b bl : Int} (hP : PZ P) (hq : 0 ≤ q ∧ q < 8) (hz : H 53 5 ≤ 80) (hp : 0 ≤ p ∧ p ≤ 90) : am_C (d + 6) 61 [am_r 53, am_i b, am_i bl] (N, P, pH H p q K V G C) (NQ N P H q K V G C (npF (hbF H) p b bl)) := by
  refine am_enC (d := d + 5) (ml := 4) (ls := [_, _, _, _]) cq_Model_nextPart rfl (Nat.le_of_ble_eq_true rfl) rfl ?_
  have c6 := cdF_01 (hbF H) p 6
  have c5 := cdF_01 (hbF H) p 5
  have cy := yrF_01 (hbF H) p
  have cw := whF_01 (hbF H) p
  refine st_aload_n rfl rfl (by decide) ?_
  refine st_cv1 (w := []) rfl rfl rfl (Nat.le_of_ble_eq_true rfl) (Nat.le_of_ble_eq_true rfl) rfl rfl (r_Model_here hP (by rw [pH_6]; omega) (by rw [pH_k _ _ _ _ _ _ _ (by omega) (by omega)]; exact hz)) ?_
  rw [pH_h]
  refine st_istore_n (ls' := [_, _, _, _]) rfl (Nat.le_of_ble_eq_true rfl) rfl ?_
  refine st_iload_n rfl rfl ?_
  refine st_iconst rfl ?_
  refine st_icmp_ne rfl (fun h5 => ?_) (fun h5 => ?_)
  · refine st_aload_n rfl rfl (by decide) ?_
    refine st_cv1 (w := []) rfl rfl rfl (Nat.le_of_ble_eq_true rfl) (Nat.le_of_ble_eq_true rfl) rfl rfl (r_Model_isLetter hP (by rw [pH_6]; omega) (by rw [pH_k _ _ _ _ _ _ _ (by omega) (by omega)]; exact hz)) ?_
    rw [pH_h]
    refine st_if_eq_b rfl (fun h19 => ?_) (fun h19 => ?_)
    · refine st_aload_n rfl rfl (by decide) ?_
      refine st_cv1 (w := []) rfl rfl rfl (Nat.le_of_ble_eq_true rfl) (Nat.le_of_ble_eq_true rfl) rfl rfl (r_Model_isDigit hP (by rw [pH_6]; omega) (by rw [pH_k _ _ _ _ _ _ _ (by omega) (by omega)]; exact hz)) ?_
      rw [pH_h]
      refine st_if_eq_b rfl (fun h25 => ?_) (fun h25 => ?_)
      · refine st_iload_n rfl rfl ?_
        by_cases h38_0 : (hbF H) p = 46
        · refine st_lsC (c := 46) rfl h38_0 (t := 39) (by decide +kernel) ?_
          refine st_aload_n rfl rfl (by decide) ?_
          refine st_iload_n rfl rfl ?_
          refine st_if_eq rfl (fun h41 => ?_) (fun h41 => ?_)
          · refine st_iconst rfl ?_
            refine st_goto rfl ?_
            refine st_iload_n rfl rfl ?_
            refine st_if_ne rfl (fun h49 => (by exfalso; omega)) (fun h49 => ?_)
            refine st_iload_n rfl rfl ?_
            refine st_iconst rfl ?_
            refine st_icmp_ne rfl (fun h52 => ?_) (fun h52 => ?_)
            · refine st_iconst rfl ?_
              refine st_cvC (w := []) rfl rfl rfl (Nat.le_of_ble_eq_true rfl) (Nat.le_of_ble_eq_true rfl) rfl rfl (c_Model_pointed (dec := 1) (work := 0) hP hq hz hp) ?_
              rintro v σ' ⟨K', V', G', C', e1, e2, e3, e4⟩
              subst e1
              subst e2
              have cp := poF_01 (hbF H) p 1 0
              have hN : NQ N P H q K V G C (poF (hbF H) p 1 0) (some (am_i (poF (hbF H) p 1 0).ok)) (N, P, pH H (poF (hbF H) p 1 0).pos q K' V' G' C') := ⟨K', V', G', C', rfl, rfl, e3, e4⟩
              have eR : npF (hbF H) p b bl = poF (hbF H) p 1 0 := by
                unfold npF
                rw [if_neg (by omega), if_neg (by omega), if_neg (by omega), if_pos (by omega)]
                rw [if_neg (by omega), if_neg (by omega)]
              rw [eR]
              show am_WP _ _ _ _ _ [am_i (poF (hbF H) p 1 0).ok] _
              refine st_iret rfl (fun z => by first | exact absurd z (by decide) | exact bi_01 _ | decide | omega) ?_
              exact hN
            · refine st_iconst rfl ?_
              refine st_goto rfl ?_
              refine st_cvC (w := []) rfl rfl rfl (Nat.le_of_ble_eq_true rfl) (Nat.le_of_ble_eq_true rfl) rfl rfl (c_Model_pointed (dec := 1) (work := 1) hP hq hz hp) ?_
              rintro v σ' ⟨K', V', G', C', e1, e2, e3, e4⟩
              subst e1
              subst e2
              have cp := poF_01 (hbF H) p 1 1
              have hN : NQ N P H q K V G C (poF (hbF H) p 1 1) (some (am_i (poF (hbF H) p 1 1).ok)) (N, P, pH H (poF (hbF H) p 1 1).pos q K' V' G' C') := ⟨K', V', G', C', rfl, rfl, e3, e4⟩
              have eR : npF (hbF H) p b bl = poF (hbF H) p 1 1 := by
                unfold npF
                rw [if_neg (by omega), if_neg (by omega), if_neg (by omega), if_pos (by omega)]
                rw [if_neg (by omega), if_pos (by omega)]
              rw [eR]
              show am_WP _ _ _ _ _ [am_i (poF (hbF H) p 1 1).ok] _
              refine st_iret rfl (fun z => by first | exact absurd z (by decide) | exact bi_01 _ | decide | omega) ?_
              exact hN
          · refine st_iload_n rfl rfl ?_
            refine st_iconst rfl ?_
            refine st_icmp_eq rfl (fun h44 => ?_) (fun h44 => ?_)
            · refine st_iconst rfl ?_
              refine st_iload_n rfl rfl ?_
              refine st_if_ne rfl (fun h49 => ?_) (fun h49 => (by exfalso; omega))
              refine st_iconst rfl ?_
              refine st_goto rfl ?_
              refine st_cvC (w := []) rfl rfl rfl (Nat.le_of_ble_eq_true rfl) (Nat.le_of_ble_eq_true rfl) rfl rfl (c_Model_pointed (dec := 0) (work := 1) hP hq hz hp) ?_
              rintro v σ' ⟨K', V', G', C', e1, e2, e3, e4⟩
              subst e1
              subst e2
              have cp := poF_01 (hbF H) p 0 1
              have hN : NQ N P H q K V G C (poF (hbF H) p 0 1) (some (am_i (poF (hbF H) p 0 1).ok)) (N, P, pH H (poF (hbF H) p 0 1).pos q K' V' G' C') := ⟨K', V', G', C', rfl, rfl, e3, e4⟩
              have eR : npF (hbF H) p b bl = poF (hbF H) p 0 1 := by
                unfold npF
                rw [if_neg (by omega), if_neg (by omega), if_neg (by omega), if_pos (by omega)]
                rw [if_pos (by omega), if_pos (by omega)]
              rw [eR]
              show am_WP _ _ _ _ _ [am_i (poF (hbF H) p 0 1).ok] _
              refine st_iret rfl (fun z => by first | exact absurd z (by decide) | exact bi_01 _ | decide | omega) ?_
              exact hN
            · refine st_iconst rfl ?_
              refine st_goto rfl ?_
              refine st_iload_n rfl rfl ?_
              refine st_if_ne rfl (fun h49 => ?_) (fun h49 => (by exfalso; omega))
              refine st_iconst rfl ?_
              refine st_goto rfl ?_
              refine st_cvC (w := []) rfl rfl rfl (Nat.le_of_ble_eq_true rfl) (Nat.le_of_ble_eq_true rfl) rfl rfl (c_Model_pointed (dec := 1) (work := 1) hP hq hz hp) ?_
              rintro v σ' ⟨K', V', G', C', e1, e2, e3, e4⟩
              subst e1
              subst e2
              have cp := poF_01 (hbF H) p 1 1
              have hN : NQ N P H q K V G C (poF (hbF H) p 1 1) (some (am_i (poF (hbF H) p 1 1).ok)) (N, P, pH H (poF (hbF H) p 1 1).pos q K' V' G' C') := ⟨K', V', G', C', rfl, rfl, e3, e4⟩
              have eR : npF (hbF H) p b bl = poF (hbF H) p 1 1 := by
                unfold npF
                rw [if_neg (by omega), if_neg (by omega), if_neg (by omega), if_pos (by omega)]
                rw [if_neg (by omega), if_pos (by omega)]
              rw [eR]
              show am_WP _ _ _ _ _ [am_i (poF (hbF H) p 1 1).ok] _
              refine st_iret rfl (fun z => by first | exact absurd z (by decide) | exact bi_01 _ | decide | omega) ?_
              exact hN
        by_cases h38_1 : (hbF H) p = 99
        · refine st_lsC (c := 99) rfl h38_1 (t := 65) (by decide +kernel) ?_
          refine st_aload_n rfl rfl (by decide) ?_
          refine st_bipush rfl ?_
          refine st_cv1 (w := []) rfl rfl rfl (Nat.le_of_ble_eq_true rfl) (Nat.le_of_ble_eq_true rfl) rfl rfl (r_Model_counted hP hq hz hp) ?_
          refine st_iret rfl (fun z => by first | exact absurd z (by decide) | exact bi_01 _ | decide | omega) ?_
          have eR : npF (hbF H) p b bl = cdF (hbF H) p 6 := by
            unfold npF
            rw [if_neg (by omega), if_neg (by omega), if_neg (by omega), if_neg (by omega), if_neg (by omega), if_neg (by omega), if_pos (by omega)]
          rw [eR]
          exact NQ_N _ _ _ _ _ _ _ _ _
        by_cases h38_2 : (hbF H) p = 118
        · refine st_lsC (c := 118) rfl h38_2 (t := 61) (by decide +kernel) ?_
          refine st_aload_n rfl rfl (by decide) ?_
          refine st_iconst rfl ?_
          refine st_cv1 (w := []) rfl rfl rfl (Nat.le_of_ble_eq_true rfl) (Nat.le_of_ble_eq_true rfl) rfl rfl (r_Model_counted hP hq hz hp) ?_
          refine st_iret rfl (fun z => by first | exact absurd z (by decide) | exact bi_01 _ | decide | omega) ?_
          have eR : npF (hbF H) p b bl = cdF (hbF H) p 5 := by
            unfold npF
            rw [if_neg (by omega), if_neg (by omega), if_neg (by omega), if_neg (by omega), if_neg (by omega), if_pos (by omega)]
          rw [eR]
          exact NQ_N _ _ _ _ _ _ _ _ _
        by_cases h38_3 : (hbF H) p = 121
        · refine st_lsC (c := 121) rfl h38_3 (t := 58) (by decide +kernel) ?_
          refine st_aload_n rfl rfl (by decide) ?_
          refine st_cv1 (w := []) rfl rfl rfl (Nat.le_of_ble_eq_true rfl) (Nat.le_of_ble_eq_true rfl) rfl rfl (r_Model_year hP hq hz hp) ?_
          refine st_iret rfl (fun z => by first | exact absurd z (by decide) | exact bi_01 _ | decide | omega) ?_
          have eR : npF (hbF H) p b bl = yrF (hbF H) p := by
            unfold npF
            rw [if_neg (by omega), if_neg (by omega), if_neg (by omega), if_neg (by omega), if_pos (by omega)]
          rw [eR]
          exact NQ_N _ _ _ _ _ _ _ _ _
        refine st_lsD (l := [46, 99, 118, 121]) rfl rfl (by simp only [List.mem_cons, List.not_mem_nil, or_false, forall_eq_or_imp, forall_eq]; omega) (t := 69) (by decide +kernel) ?_
        refine st_iconst rfl ?_
        refine st_iret rfl (fun z => by first | exact absurd z (by decide) | exact bi_01 _ | decide | omega) ?_
        have eR : npF (hbF H) p b bl = ⟨0, p, 0, 0, 0, 0⟩ := by
          unfold npF
          rw [if_neg (by omega), if_neg (by omega), if_neg (by omega), if_neg (by omega), if_neg (by omega), if_neg (by omega), if_neg (by omega)]
        rw [eR]
        exact NQ_0 _ _ _ _ _ _ _ _ _ _ _ _ _
      · refine st_iload_n rfl rfl ?_
        refine st_if_eq rfl (fun h27 => ?_) (fun h27 => ?_)
        · refine st_aload_n rfl rfl (by decide) ?_
          refine st_cv1 (w := []) rfl rfl rfl (Nat.le_of_ble_eq_true rfl) (Nat.le_of_ble_eq_true rfl) rfl rfl (r_Model_whole hP hq hz hp) ?_
          refine st_if_eq rfl (fun h32 => ?_) (fun h32 => ?_)
          · refine st_iconst rfl ?_
            refine st_iret rfl (fun z => by first | exact absurd z (by decide) | exact bi_01 _ | decide | omega) ?_
            first
            | (have eR : npF (hbF H) p b bl = ⟨0, p, 0, 0, 0, 0⟩ := by
                 unfold npF
                 rw [if_neg (by omega), if_neg (by omega), if_pos (by omega), if_pos (by omega)]
               rw [eR]
               exact NQ_0 _ _ _ _ _ _ _ _ _ _ _ _ _)
            | (have eR : npF (hbF H) p b bl = whF (hbF H) p := by
                 unfold npF
                 rw [if_neg (by omega), if_neg (by omega), if_pos (by omega), if_neg (by omega)]
               rw [eR]
               have hN := NQ_N N P H q K V G C (whF (hbF H) p)
               first
               | (rw [show (whF (hbF H) p).ok = 0 by omega] at hN; exact hN)
               | (rw [show (whF (hbF H) p).ok = 1 by omega] at hN; exact hN))
          · refine st_iconst rfl ?_
            refine st_goto rfl ?_
            refine st_iret rfl (fun z => by first | exact absurd z (by decide) | exact bi_01 _ | decide | omega) ?_
            first
            | (have eR : npF (hbF H) p b bl = ⟨0, p, 0, 0, 0, 0⟩ := by
                 unfold npF
                 rw [if_neg (by omega), if_neg (by omega), if_pos (by omega), if_pos (by omega)]
               rw [eR]
               exact NQ_0 _ _ _ _ _ _ _ _ _ _ _ _ _)
            | (have eR : npF (hbF H) p b bl = whF (hbF H) p := by
                 unfold npF
                 rw [if_neg (by omega), if_neg (by omega), if_pos (by omega), if_neg (by omega)]
               rw [eR]
               have hN := NQ_N N P H q K V G C (whF (hbF H) p)
               first
               | (rw [show (whF (hbF H) p).ok = 0 by omega] at hN; exact hN)
               | (rw [show (whF (hbF H) p).ok = 1 by omega] at hN; exact hN))
        · refine st_iload_n rfl rfl ?_
          refine st_if_eq rfl (fun h29 => ?_) (fun h29 => ?_)
          · refine st_iconst rfl ?_
            refine st_iret rfl (fun z => by first | exact absurd z (by decide) | exact bi_01 _ | decide | omega) ?_
            first
            | (have eR : npF (hbF H) p b bl = ⟨0, p, 0, 0, 0, 0⟩ := by
                 unfold npF
                 rw [if_neg (by omega), if_neg (by omega), if_pos (by omega), if_pos (by omega)]
               rw [eR]
               exact NQ_0 _ _ _ _ _ _ _ _ _ _ _ _ _)
            | (have eR : npF (hbF H) p b bl = whF (hbF H) p := by
                 unfold npF
                 rw [if_neg (by omega), if_neg (by omega), if_pos (by omega), if_neg (by omega)]
               rw [eR]
               have hN := NQ_N N P H q K V G C (whF (hbF H) p)
               first
               | (rw [show (whF (hbF H) p).ok = 0 by omega] at hN; exact hN)
               | (rw [show (whF (hbF H) p).ok = 1 by omega] at hN; exact hN))
          · refine st_aload_n rfl rfl (by decide) ?_
            refine st_cv1 (w := []) rfl rfl rfl (Nat.le_of_ble_eq_true rfl) (Nat.le_of_ble_eq_true rfl) rfl rfl (r_Model_whole hP hq hz hp) ?_
            refine st_if_eq rfl (fun h32 => ?_) (fun h32 => ?_)
            · refine st_iconst rfl ?_
              refine st_iret rfl (fun z => by first | exact absurd z (by decide) | exact bi_01 _ | decide | omega) ?_
              first
              | (have eR : npF (hbF H) p b bl = ⟨0, p, 0, 0, 0, 0⟩ := by
                   unfold npF
                   rw [if_neg (by omega), if_neg (by omega), if_pos (by omega), if_pos (by omega)]
                 rw [eR]
                 exact NQ_0 _ _ _ _ _ _ _ _ _ _ _ _ _)
              | (have eR : npF (hbF H) p b bl = whF (hbF H) p := by
                   unfold npF
                   rw [if_neg (by omega), if_neg (by omega), if_pos (by omega), if_neg (by omega)]
                 rw [eR]
                 have hN := NQ_N N P H q K V G C (whF (hbF H) p)
                 first
                 | (rw [show (whF (hbF H) p).ok = 0 by omega] at hN; exact hN)
                 | (rw [show (whF (hbF H) p).ok = 1 by omega] at hN; exact hN))
            · refine st_iconst rfl ?_
              refine st_goto rfl ?_
              refine st_iret rfl (fun z => by first | exact absurd z (by decide) | exact bi_01 _ | decide | omega) ?_
              first
              | (have eR : npF (hbF H) p b bl = ⟨0, p, 0, 0, 0, 0⟩ := by
                   unfold npF
                   rw [if_neg (by omega), if_neg (by omega), if_pos (by omega), if_pos (by omega)]
                 rw [eR]
                 exact NQ_0 _ _ _ _ _ _ _ _ _ _ _ _ _)
              | (have eR : npF (hbF H) p b bl = whF (hbF H) p := by
                   unfold npF
                   rw [if_neg (by omega), if_neg (by omega), if_pos (by omega), if_neg (by omega)]
                 rw [eR]
                 have hN := NQ_N N P H q K V G C (whF (hbF H) p)
                 first
                 | (rw [show (whF (hbF H) p).ok = 0 by omega] at hN; exact hN)
                 | (rw [show (whF (hbF H) p).ok = 1 by omega] at hN; exact hN))
    · refine st_aload_n rfl rfl (by decide) ?_
      refine st_cv1 (w := []) rfl rfl rfl (Nat.le_of_ble_eq_true rfl) (Nat.le_of_ble_eq_true rfl) rfl rfl (r_Model_letters hP hq hz (by omega)) ?_
      refine st_iret rfl (fun z => by first | exact absurd z (by decide) | exact bi_01 _ | decide | omega) ?_
      have eR : npF (hbF H) p b bl = ltR (hbF H) p := by
        unfold npF
        rw [if_neg (by omega), if_pos (by omega)]
      rw [eR]
      exact NQ_N N P H q K V G C (ltR (hbF H) p)
  · refine st_iload_n rfl rfl ?_
    refine st_bipush rfl ?_
    refine st_icmp_ne rfl (fun h8 => ?_) (fun h8 => ?_)
    · refine st_iconst rfl ?_
      refine st_iret rfl (fun z => by first | exact absurd z (by decide) | exact bi_01 _ | decide | omega) ?_
      first
      | (have eR : npF (hbF H) p b bl = ⟨0, p, 0, 0, 0, 0⟩ := by
           unfold npF
           rw [if_pos (by omega), if_neg (by omega)]
         rw [eR]
         exact NQ_0 _ _ _ _ _ _ _ _ _ _ _ _ _)
      | (have eR : npF (hbF H) p b bl = cdF (hbF H) p 6 := by
           unfold npF
           rw [if_pos (by omega), if_pos (by omega)]
         rw [eR]
         have hN := NQ_N N P H q K V G C (cdF (hbF H) p 6)
         first
         | (rw [show (cdF (hbF H) p 6).ok = 0 by omega] at hN; exact hN)
         | (rw [show (cdF (hbF H) p 6).ok = 1 by omega] at hN; exact hN))
    · refine st_aload_n rfl rfl (by decide) ?_
      refine st_bipush rfl ?_
      refine st_cv1 (w := []) rfl rfl rfl (Nat.le_of_ble_eq_true rfl) (Nat.le_of_ble_eq_true rfl) rfl rfl (r_Model_counted hP hq hz hp) ?_
      refine st_if_eq rfl (fun h12 => ?_) (fun h12 => ?_)
      · refine st_iconst rfl ?_
        refine st_iret rfl (fun z => by first | exact absurd z (by decide) | exact bi_01 _ | decide | omega) ?_
        first
        | (have eR : npF (hbF H) p b bl = ⟨0, p, 0, 0, 0, 0⟩ := by
             unfold npF
             rw [if_pos (by omega), if_neg (by omega)]
           rw [eR]
           exact NQ_0 _ _ _ _ _ _ _ _ _ _ _ _ _)
        | (have eR : npF (hbF H) p b bl = cdF (hbF H) p 6 := by
             unfold npF
             rw [if_pos (by omega), if_pos (by omega)]
           rw [eR]
           have hN := NQ_N N P H q K V G C (cdF (hbF H) p 6)
           first
           | (rw [show (cdF (hbF H) p 6).ok = 0 by omega] at hN; exact hN)
           | (rw [show (cdF (hbF H) p 6).ok = 1 by omega] at hN; exact hN))
      · refine st_iconst rfl ?_
        refine st_goto rfl ?_
        refine st_iret rfl (fun z => by first | exact absurd z (by decide) | exact bi_01 _ | decide | omega) ?_
        first
        | (have eR : npF (hbF H) p b bl = ⟨0, p, 0, 0, 0, 0⟩ := by
             unfold npF
             rw [if_pos (by omega), if_neg (by omega)]
           rw [eR]
           exact NQ_0 _ _ _ _ _ _ _ _ _ _ _ _ _)
        | (have eR : npF (hbF H) p b bl = cdF (hbF H) p 6 := by
             unfold npF
             rw [if_pos (by omega), if_pos (by omega)]
           rw [eR]
           have hN := NQ_N N P H q K V G C (cdF (hbF H) p 6)
           first
           | (rw [show (cdF (hbF H) p 6).ok = 0 by omega] at hN; exact hN)
           | (rw [show (cdF (hbF H) p 6).ok = 1 by omega] at hN; exact hN))
