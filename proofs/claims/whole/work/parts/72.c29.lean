/-! ===== the class: small calls, states copied ===== -/
theorem r_Cart_fault {d N : Nat} {P : am_P} {H : am_H}  (hP : PZ P) : am_R (d + 1) 4 [am_r 3] (N, P, H) (some (am_i (H 3 2))) (N, P, H) := by
  refine am_en1 (d := d + 0) (ml := 1) (ls := [_]) cq_Cart_fault rfl (Nat.le_of_ble_eq_true rfl) rfl ?_
  refine st_aload_n rfl rfl (by decide) ?_
  refine st_getI (kk := 2) rfl rfl (by decide) rfl ?_
  refine st_iret rfl (fun z => by first | exact absurd z (by decide) | exact bi_01 _ | decide | omega) ?_
  exact ⟨rfl, rfl⟩
theorem r_Cart_plan {d N : Nat} {P : am_P} {H : am_H} {k q : Int} (hP : PZ P) (h1 : H 43 10 = q) (hq : q = 0 ∨ q = 1) (h2 : q = 1 → 0 ≤ H 43 12 ∧ H 43 12 ≤ 16) : am_R (d + 2) 39 [am_r 3, am_i (k)] (N, P, H) (some (am_i (if q = 1 ∧ 0 ≤ k ∧ k < H 43 12 then H 51 k else -1))) (N, P, H) := by
  refine am_en1 (d := d + 1) (ml := 2) (ls := [_, _]) cq_Cart_plan rfl (Nat.le_of_ble_eq_true rfl) rfl ?_
  refine st_aload_n rfl rfl (by decide) ?_
  refine st_getR (kk := 6) rfl rfl rfl (pz_3_6 hP) rfl ?_
  refine st_iload_n rfl rfl ?_
  refine st_cv1 (w := []) rfl rfl rfl (Nat.le_of_ble_eq_true rfl) (Nat.le_of_ble_eq_true rfl) rfl rfl (r_Shifter_endOf (f := 0) hP h1 hq h2) ?_
  refine st_iret rfl (fun z => by first | exact absurd z (by decide) | exact bi_01 _ | decide | omega) ?_
  exact ⟨rfl, rfl⟩
theorem c_Cart_lift {d N : Nat} {P : am_P} {H : am_H} {a : Int → Int} {f l : Int} {pl S : Int → Int} (hP : PZ P) (hI : Inv a) (hT : RT H 10 a) (hq : H 43 10 = 0 ∨ H 43 10 = 1) (h1 : H 43 10 = 1 → PlanOK a f l pl S ∧ H 43 11 = f ∧ H 43 12 = l - f + 1 ∧ (∀ k : Nat, (k : Int) ≤ l - f → H 51 (k : Int) = pl (k : Int)) ∧ ∀ u : Nat, u < shT f l → H 52 (u : Int) = S (u : Int)) : am_C (d + 7) 40 [am_r 3] (N, P, H) (COQ N P H a f l pl S) := by
  refine am_enC (d := d + 6) (ml := 1) (ls := [_]) cq_Cart_lift rfl (Nat.le_of_ble_eq_true rfl) rfl ?_
  refine st_aload_n rfl rfl (by decide) ?_
  refine st_getR (kk := 6) rfl rfl rfl (pz_3_6 hP) rfl ?_
  refine st_aload_n rfl rfl (by decide) ?_
  refine st_getR (kk := 3) rfl rfl rfl (pz_3_3 hP) rfl ?_
  refine st_getR (kk := 1) rfl rfl rfl (pz_10_1 hP) rfl ?_
  refine st_cvC (w := []) rfl rfl rfl (Nat.le_of_ble_eq_true rfl) (Nat.le_of_ble_eq_true rfl) rfl rfl (c_carry hP hI hT hq h1) ?_
  rintro v σ ⟨H', rfl, q1, q2, q3, q4, q5⟩
  by_cases hc : H 43 10 = 1 ∧ ∀ u : Nat, u < shT f l → gW a f u = S (u : Int)
  case pos =>
    obtain ⟨rfl, e⟩ := q4 hc
    show am_WP _ _ _ _ _ [am_i 1] _
    refine st_iret rfl (fun _ => Or.inr rfl) ?_
    exact ⟨H', rfl, q1, q2, q3, fun _ => ⟨rfl, e⟩, fun z => absurd hc z⟩
  obtain ⟨rfl, e⟩ := q5 hc
  show am_WP _ _ _ _ _ [am_i 0] _
  refine st_iret rfl (fun z => by first | exact absurd z (by decide) | exact bi_01 _ | decide | omega) ?_
  exact ⟨H', rfl, q1, q2, q3, fun z => absurd z hc, fun _ => ⟨rfl, e⟩⟩
theorem r_Shifter_dropPlan {d N : Nat} {P : am_P} {H : am_H}  (hP : PZ P) : am_R (d + 1) 204 [am_r 43] (N, P, H) none (N, P, am_up H 43 10 0) := by
  refine am_en1 (d := d + 0) (ml := 1) (ls := [_]) cq_Shifter_dropPlan rfl (Nat.le_of_ble_eq_true rfl) rfl ?_
  refine st_aload_n rfl rfl (by decide) ?_
  refine st_iconst rfl ?_
  refine st_putZ (kk := 10) rfl rfl rfl (by first | exact bi_01 _ | decide | omega) rfl ?_
  refine st_ret rfl ?_
  exact ⟨rfl, rfl⟩
theorem cpy0 {f g : Int → Int} {n k : Int} (h0 : 0 ≤ k) (h1 : k < n) : am_cpy f g 0 0 n k = f k := by
  unfold am_cpy
  rw [if_pos (by omega)]
  congr 1
  omega

def bcMarks (H : am_H) (x y : Nat) : am_H := am_so (am_so (am_up (H) x 0 (H y 0)) (x + 1) (am_cpy (H (y + 1)) (H (x + 1)) 0 0 200)) (x + 2) (am_cpy (H (y + 2)) (H (x + 2)) 0 0 1600)
theorem bcMarks_o (H : am_H) (x y : Nat) {o : Nat} (h : o < x ∨ x + 2 < o) : bcMarks H x y o = H o := by
  unfold bcMarks
  rw [am_so_ne _ _ (by omega), am_so_ne _ _ (by omega), am_up_ne (by omega)]
theorem bcMarks_i0 (H : am_H) (x y : Nat) : bcMarks H x y x 0 = H y 0 := by
  unfold bcMarks
  rw [am_so_ne _ _ (by omega), am_so_ne _ _ (by omega), am_up_eq, am_uf_eq]
theorem bcMarks_a1 (H : am_H) (x y : Nat) {k : Int} (h0 : 0 ≤ k) (h1 : k < 200) : bcMarks H x y (x + 1) k = H (y + 1) k := by
  unfold bcMarks
  rw [am_so_ne _ _ (by omega), am_so_at, cpy0 h0 h1]
theorem bcMarks_a2 (H : am_H) (x y : Nat) {k : Int} (h0 : 0 ≤ k) (h1 : k < 1600) : bcMarks H x y (x + 2) k = H (y + 2) k := by
  unfold bcMarks
  rw [am_so_at, cpy0 h0 h1]
def bcStacks (H : am_H) (x y : Nat) : am_H := am_so (am_so (am_so (am_so (am_so (am_so (am_so (am_so (am_up (am_so (am_so (am_so (am_up (H) x 0 (H y 0)) (x + 1) (am_cpy (H (y + 1)) (H (x + 1)) 0 0 16)) (x + 2) (am_cpy (H (y + 2)) (H (x + 2)) 0 0 16)) (x + 3) (am_cpy (H (y + 3)) (H (x + 3)) 0 0 480)) x 4 (H y 4)) (x + 4) (am_cpy (H (y + 4)) (H (x + 4)) 0 0 200)) (x + 5) (am_cpy (H (y + 5)) (H (x + 5)) 0 0 200)) (x + 6) (am_cpy (H (y + 6)) (H (x + 6)) 0 0 200)) (x + 7) (am_cpy (H (y + 7)) (H (x + 7)) 0 0 200)) (x + 8) (am_cpy (H (y + 8)) (H (x + 8)) 0 0 200)) (x + 9) (am_cpy (H (y + 9)) (H (x + 9)) 0 0 200)) (x + 10) (am_cpy (H (y + 10)) (H (x + 10)) 0 0 200)) (x + 11) (am_cpy (H (y + 11)) (H (x + 11)) 0 0 200)
theorem bcStacks_o (H : am_H) (x y : Nat) {o : Nat} (h : o < x ∨ x + 11 < o) : bcStacks H x y o = H o := by
  unfold bcStacks
  rw [am_so_ne _ _ (by omega), am_so_ne _ _ (by omega), am_so_ne _ _ (by omega), am_so_ne _ _ (by omega), am_so_ne _ _ (by omega), am_so_ne _ _ (by omega), am_so_ne _ _ (by omega), am_so_ne _ _ (by omega), am_up_ne (by omega), am_so_ne _ _ (by omega), am_so_ne _ _ (by omega), am_so_ne _ _ (by omega), am_up_ne (by omega)]
theorem bcStacks_i0 (H : am_H) (x y : Nat) : bcStacks H x y x 0 = H y 0 := by
  unfold bcStacks
  rw [am_so_ne _ _ (by omega), am_so_ne _ _ (by omega), am_so_ne _ _ (by omega), am_so_ne _ _ (by omega), am_so_ne _ _ (by omega), am_so_ne _ _ (by omega), am_so_ne _ _ (by omega), am_so_ne _ _ (by omega), am_up_eq, am_uf_ne _ _ (by omega), am_so_ne _ _ (by omega), am_so_ne _ _ (by omega), am_so_ne _ _ (by omega), am_up_eq, am_uf_eq]
theorem bcStacks_a1 (H : am_H) (x y : Nat) {k : Int} (h0 : 0 ≤ k) (h1 : k < 16) : bcStacks H x y (x + 1) k = H (y + 1) k := by
  unfold bcStacks
  rw [am_so_ne _ _ (by omega), am_so_ne _ _ (by omega), am_so_ne _ _ (by omega), am_so_ne _ _ (by omega), am_so_ne _ _ (by omega), am_so_ne _ _ (by omega), am_so_ne _ _ (by omega), am_so_ne _ _ (by omega), am_up_ne (by omega), am_so_ne _ _ (by omega), am_so_ne _ _ (by omega), am_so_at, cpy0 h0 h1]
theorem bcStacks_a2 (H : am_H) (x y : Nat) {k : Int} (h0 : 0 ≤ k) (h1 : k < 16) : bcStacks H x y (x + 2) k = H (y + 2) k := by
  unfold bcStacks
  rw [am_so_ne _ _ (by omega), am_so_ne _ _ (by omega), am_so_ne _ _ (by omega), am_so_ne _ _ (by omega), am_so_ne _ _ (by omega), am_so_ne _ _ (by omega), am_so_ne _ _ (by omega), am_so_ne _ _ (by omega), am_up_ne (by omega), am_so_ne _ _ (by omega), am_so_at, cpy0 h0 h1]
theorem bcStacks_a3 (H : am_H) (x y : Nat) {k : Int} (h0 : 0 ≤ k) (h1 : k < 480) : bcStacks H x y (x + 3) k = H (y + 3) k := by
  unfold bcStacks
  rw [am_so_ne _ _ (by omega), am_so_ne _ _ (by omega), am_so_ne _ _ (by omega), am_so_ne _ _ (by omega), am_so_ne _ _ (by omega), am_so_ne _ _ (by omega), am_so_ne _ _ (by omega), am_so_ne _ _ (by omega), am_up_ne (by omega), am_so_at, cpy0 h0 h1]
theorem bcStacks_i4 (H : am_H) (x y : Nat) : bcStacks H x y x 4 = H y 4 := by
  unfold bcStacks
  rw [am_so_ne _ _ (by omega), am_so_ne _ _ (by omega), am_so_ne _ _ (by omega), am_so_ne _ _ (by omega), am_so_ne _ _ (by omega), am_so_ne _ _ (by omega), am_so_ne _ _ (by omega), am_so_ne _ _ (by omega), am_up_eq, am_uf_eq]
theorem bcStacks_a4 (H : am_H) (x y : Nat) {k : Int} (h0 : 0 ≤ k) (h1 : k < 200) : bcStacks H x y (x + 4) k = H (y + 4) k := by
  unfold bcStacks
  rw [am_so_ne _ _ (by omega), am_so_ne _ _ (by omega), am_so_ne _ _ (by omega), am_so_ne _ _ (by omega), am_so_ne _ _ (by omega), am_so_ne _ _ (by omega), am_so_ne _ _ (by omega), am_so_at, cpy0 h0 h1]
theorem bcStacks_a5 (H : am_H) (x y : Nat) {k : Int} (h0 : 0 ≤ k) (h1 : k < 200) : bcStacks H x y (x + 5) k = H (y + 5) k := by
  unfold bcStacks
  rw [am_so_ne _ _ (by omega), am_so_ne _ _ (by omega), am_so_ne _ _ (by omega), am_so_ne _ _ (by omega), am_so_ne _ _ (by omega), am_so_ne _ _ (by omega), am_so_at, cpy0 h0 h1]
theorem bcStacks_a6 (H : am_H) (x y : Nat) {k : Int} (h0 : 0 ≤ k) (h1 : k < 200) : bcStacks H x y (x + 6) k = H (y + 6) k := by
  unfold bcStacks
  rw [am_so_ne _ _ (by omega), am_so_ne _ _ (by omega), am_so_ne _ _ (by omega), am_so_ne _ _ (by omega), am_so_ne _ _ (by omega), am_so_at, cpy0 h0 h1]
theorem bcStacks_a7 (H : am_H) (x y : Nat) {k : Int} (h0 : 0 ≤ k) (h1 : k < 200) : bcStacks H x y (x + 7) k = H (y + 7) k := by
  unfold bcStacks
  rw [am_so_ne _ _ (by omega), am_so_ne _ _ (by omega), am_so_ne _ _ (by omega), am_so_ne _ _ (by omega), am_so_at, cpy0 h0 h1]
theorem bcStacks_a8 (H : am_H) (x y : Nat) {k : Int} (h0 : 0 ≤ k) (h1 : k < 200) : bcStacks H x y (x + 8) k = H (y + 8) k := by
  unfold bcStacks
  rw [am_so_ne _ _ (by omega), am_so_ne _ _ (by omega), am_so_ne _ _ (by omega), am_so_at, cpy0 h0 h1]
theorem bcStacks_a9 (H : am_H) (x y : Nat) {k : Int} (h0 : 0 ≤ k) (h1 : k < 200) : bcStacks H x y (x + 9) k = H (y + 9) k := by
  unfold bcStacks
  rw [am_so_ne _ _ (by omega), am_so_ne _ _ (by omega), am_so_at, cpy0 h0 h1]
theorem bcStacks_a10 (H : am_H) (x y : Nat) {k : Int} (h0 : 0 ≤ k) (h1 : k < 200) : bcStacks H x y (x + 10) k = H (y + 10) k := by
  unfold bcStacks
  rw [am_so_ne _ _ (by omega), am_so_at, cpy0 h0 h1]
theorem bcStacks_a11 (H : am_H) (x y : Nat) {k : Int} (h0 : 0 ≤ k) (h1 : k < 200) : bcStacks H x y (x + 11) k = H (y + 11) k := by
  unfold bcStacks
  rw [am_so_at, cpy0 h0 h1]
def bcReading (H : am_H) (x y : Nat) : am_H := am_so (am_up (am_up (H) x 0 (H y 0)) x 1 (H y 1)) (x + 1) (am_cpy (H (y + 1)) (H (x + 1)) 0 0 60)
theorem bcReading_o (H : am_H) (x y : Nat) {o : Nat} (h : o < x ∨ x + 1 < o) : bcReading H x y o = H o := by
  unfold bcReading
  rw [am_so_ne _ _ (by omega), am_up_ne (by omega), am_up_ne (by omega)]
theorem bcReading_i0 (H : am_H) (x y : Nat) : bcReading H x y x 0 = H y 0 := by
  unfold bcReading
  rw [am_so_ne _ _ (by omega), am_up_eq, am_uf_ne _ _ (by omega), am_up_eq, am_uf_eq]
theorem bcReading_i1 (H : am_H) (x y : Nat) : bcReading H x y x 1 = H y 1 := by
  unfold bcReading
  rw [am_so_ne _ _ (by omega), am_up_eq, am_uf_eq]
theorem bcReading_a1 (H : am_H) (x y : Nat) {k : Int} (h0 : 0 ≤ k) (h1 : k < 60) : bcReading H x y (x + 1) k = H (y + 1) k := by
  unfold bcReading
  rw [am_so_at, cpy0 h0 h1]
def bcCatalogue (H : am_H) (x y : Nat) : am_H := am_so (am_so (am_so (am_so (am_up (H) x 0 (H y 0)) (x + 1) (am_cpy (H (y + 1)) (H (x + 1)) 0 0 200)) (x + 2) (am_cpy (H (y + 2)) (H (x + 2)) 0 0 200)) (x + 3) (am_cpy (H (y + 3)) (H (x + 3)) 0 0 16)) (x + 4) (am_cpy (H (y + 4)) (H (x + 4)) 0 0 960)
theorem bcCatalogue_o (H : am_H) (x y : Nat) {o : Nat} (h : o < x ∨ x + 4 < o) : bcCatalogue H x y o = H o := by
  unfold bcCatalogue
  rw [am_so_ne _ _ (by omega), am_so_ne _ _ (by omega), am_so_ne _ _ (by omega), am_so_ne _ _ (by omega), am_up_ne (by omega)]
theorem bcCatalogue_i0 (H : am_H) (x y : Nat) : bcCatalogue H x y x 0 = H y 0 := by
  unfold bcCatalogue
  rw [am_so_ne _ _ (by omega), am_so_ne _ _ (by omega), am_so_ne _ _ (by omega), am_so_ne _ _ (by omega), am_up_eq, am_uf_eq]
theorem bcCatalogue_a1 (H : am_H) (x y : Nat) {k : Int} (h0 : 0 ≤ k) (h1 : k < 200) : bcCatalogue H x y (x + 1) k = H (y + 1) k := by
  unfold bcCatalogue
  rw [am_so_ne _ _ (by omega), am_so_ne _ _ (by omega), am_so_ne _ _ (by omega), am_so_at, cpy0 h0 h1]
theorem bcCatalogue_a2 (H : am_H) (x y : Nat) {k : Int} (h0 : 0 ≤ k) (h1 : k < 200) : bcCatalogue H x y (x + 2) k = H (y + 2) k := by
  unfold bcCatalogue
  rw [am_so_ne _ _ (by omega), am_so_ne _ _ (by omega), am_so_at, cpy0 h0 h1]
theorem bcCatalogue_a3 (H : am_H) (x y : Nat) {k : Int} (h0 : 0 ≤ k) (h1 : k < 16) : bcCatalogue H x y (x + 3) k = H (y + 3) k := by
  unfold bcCatalogue
  rw [am_so_ne _ _ (by omega), am_so_at, cpy0 h0 h1]
theorem bcCatalogue_a4 (H : am_H) (x y : Nat) {k : Int} (h0 : 0 ≤ k) (h1 : k < 960) : bcCatalogue H x y (x + 4) k = H (y + 4) k := by
  unfold bcCatalogue
  rw [am_so_at, cpy0 h0 h1]
def bcGrowths (H : am_H) (x y : Nat) : am_H := am_so (am_so (am_so (am_up (H) x 0 (H y 0)) (x + 1) (am_cpy (H (y + 1)) (H (x + 1)) 0 0 12)) (x + 2) (am_cpy (H (y + 2)) (H (x + 2)) 0 0 12)) (x + 3) (am_cpy (H (y + 3)) (H (x + 3)) 0 0 12)
theorem bcGrowths_o (H : am_H) (x y : Nat) {o : Nat} (h : o < x ∨ x + 3 < o) : bcGrowths H x y o = H o := by
  unfold bcGrowths
  rw [am_so_ne _ _ (by omega), am_so_ne _ _ (by omega), am_so_ne _ _ (by omega), am_up_ne (by omega)]
theorem bcGrowths_i0 (H : am_H) (x y : Nat) : bcGrowths H x y x 0 = H y 0 := by
  unfold bcGrowths
  rw [am_so_ne _ _ (by omega), am_so_ne _ _ (by omega), am_so_ne _ _ (by omega), am_up_eq, am_uf_eq]
theorem bcGrowths_a1 (H : am_H) (x y : Nat) {k : Int} (h0 : 0 ≤ k) (h1 : k < 12) : bcGrowths H x y (x + 1) k = H (y + 1) k := by
  unfold bcGrowths
  rw [am_so_ne _ _ (by omega), am_so_ne _ _ (by omega), am_so_at, cpy0 h0 h1]
theorem bcGrowths_a2 (H : am_H) (x y : Nat) {k : Int} (h0 : 0 ≤ k) (h1 : k < 12) : bcGrowths H x y (x + 2) k = H (y + 2) k := by
  unfold bcGrowths
  rw [am_so_ne _ _ (by omega), am_so_at, cpy0 h0 h1]
theorem bcGrowths_a3 (H : am_H) (x y : Nat) {k : Int} (h0 : 0 ≤ k) (h1 : k < 12) : bcGrowths H x y (x + 3) k = H (y + 3) k := by
  unfold bcGrowths
  rw [am_so_at, cpy0 h0 h1]
def RSt : List (Nat × Int × Int) := [(0, 5, 6), (1, 0, 1), (2, 0, 200), (3, 0, 1600), (4, 0, 1), (5, 0, 16), (6, 0, 16), (7, 0, 480), (4, 4, 5), (8, 0, 200), (9, 0, 200), (10, 0, 200), (11, 0, 200), (12, 0, 200), (13, 0, 200), (14, 0, 200), (15, 0, 200), (16, 0, 1), (16, 1, 2), (17, 0, 60), (18, 0, 1), (19, 0, 200), (20, 0, 200), (21, 0, 16), (22, 0, 960), (23, 0, 1), (24, 0, 12), (25, 0, 12), (26, 0, 12)]
theorem RS_pt {H H' : am_H} {b b' : Nat} {a : Int → Int} (hI : Inv a) (h : RS H b a) (hp : ∀ q ∈ RSt, ∀ k, q.2.1 ≤ k → k < q.2.2 → H' (b' + q.1) k = H (b + q.1) k) : RS H' b' a := by
  have hn := hI.n
  have hh := hI.h.2.1
  have hl := hI.l.2
  have e0 : H' b' 5 = H b 5 := hp (0, 5, 6) (by decide +kernel) 5 (by decide) (by decide)
  have i1 : H' (b' + 1) 0 = H (b + 1) 0 := hp (1, 0, 1) (by decide +kernel) 0 (by decide) (by decide)
  have i4 : H' (b' + 4) 0 = H (b + 4) 0 := hp (4, 0, 1) (by decide +kernel) 0 (by decide) (by decide)
  have i44 : H' (b' + 4) 4 = H (b + 4) 4 := hp (4, 4, 5) (by decide +kernel) 4 (by decide) (by decide)
  have i16 : H' (b' + 16) 0 = H (b + 16) 0 := hp (16, 0, 1) (by decide +kernel) 0 (by decide) (by decide)
  have i161 : H' (b' + 16) 1 = H (b + 16) 1 := hp (16, 1, 2) (by decide +kernel) 1 (by decide) (by decide)
  have i18 : H' (b' + 18) 0 = H (b + 18) 0 := hp (18, 0, 1) (by decide +kernel) 0 (by decide) (by decide)
  have i23 : H' (b' + 23) 0 = H (b + 23) 0 := hp (23, 0, 1) (by decide +kernel) 0 (by decide) (by decide)
  have a2 : ∀ k, 0 ≤ k → k < 200 → H' (b' + 2) k = H (b + 2) k := hp (2, 0, 200) (by decide +kernel)
  have a3 : ∀ k, 0 ≤ k → k < 1600 → H' (b' + 3) k = H (b + 3) k := hp (3, 0, 1600) (by decide +kernel)
  have a5 : ∀ k, 0 ≤ k → k < 16 → H' (b' + 5) k = H (b + 5) k := hp (5, 0, 16) (by decide +kernel)
  have a6 : ∀ k, 0 ≤ k → k < 16 → H' (b' + 6) k = H (b + 6) k := hp (6, 0, 16) (by decide +kernel)
  have a7 : ∀ k, 0 ≤ k → k < 480 → H' (b' + 7) k = H (b + 7) k := hp (7, 0, 480) (by decide +kernel)
  have a8 : ∀ k, 0 ≤ k → k < 200 → H' (b' + 8) k = H (b + 8) k := hp (8, 0, 200) (by decide +kernel)
  have a9 : ∀ k, 0 ≤ k → k < 200 → H' (b' + 9) k = H (b + 9) k := hp (9, 0, 200) (by decide +kernel)
  have a10 : ∀ k, 0 ≤ k → k < 200 → H' (b' + 10) k = H (b + 10) k := hp (10, 0, 200) (by decide +kernel)
  have a11 : ∀ k, 0 ≤ k → k < 200 → H' (b' + 11) k = H (b + 11) k := hp (11, 0, 200) (by decide +kernel)
  have a12 : ∀ k, 0 ≤ k → k < 200 → H' (b' + 12) k = H (b + 12) k := hp (12, 0, 200) (by decide +kernel)
  have a13 : ∀ k, 0 ≤ k → k < 200 → H' (b' + 13) k = H (b + 13) k := hp (13, 0, 200) (by decide +kernel)
  have a14 : ∀ k, 0 ≤ k → k < 200 → H' (b' + 14) k = H (b + 14) k := hp (14, 0, 200) (by decide +kernel)
  have a15 : ∀ k, 0 ≤ k → k < 200 → H' (b' + 15) k = H (b + 15) k := hp (15, 0, 200) (by decide +kernel)
  have a17 : ∀ k, 0 ≤ k → k < 60 → H' (b' + 17) k = H (b + 17) k := hp (17, 0, 60) (by decide +kernel)
  have a19 : ∀ k, 0 ≤ k → k < 200 → H' (b' + 19) k = H (b + 19) k := hp (19, 0, 200) (by decide +kernel)
  have a20 : ∀ k, 0 ≤ k → k < 200 → H' (b' + 20) k = H (b + 20) k := hp (20, 0, 200) (by decide +kernel)
  have a21 : ∀ k, 0 ≤ k → k < 16 → H' (b' + 21) k = H (b + 21) k := hp (21, 0, 16) (by decide +kernel)
  have a22 : ∀ k, 0 ≤ k → k < 960 → H' (b' + 22) k = H (b + 22) k := hp (22, 0, 960) (by decide +kernel)
  have a24 : ∀ k, 0 ≤ k → k < 12 → H' (b' + 24) k = H (b + 24) k := hp (24, 0, 12) (by decide +kernel)
  have a25 : ∀ k, 0 ≤ k → k < 12 → H' (b' + 25) k = H (b + 25) k := hp (25, 0, 12) (by decide +kernel)
  have a26 : ∀ k, 0 ≤ k → k < 12 → H' (b' + 26) k = H (b + 26) k := hp (26, 0, 12) (by decide +kernel)
  obtain ⟨q0, ⟨m1, m2, m3⟩, ⟨t0, t1, t2, t3, t4⟩, ⟨r0, r1⟩, ⟨c0, c1, c2⟩, g0, g1⟩ := h
  refine ⟨by rw [e0]; exact q0, ⟨by rw [i1]; exact m1, fun m m0 mm => ?_, fun m k m0 mm k0 k1 => ?_⟩, ⟨by rw [i4]; exact t0, by rw [i44]; exact t1, fun s s0 s1 => ?_, fun s p s0 s1 p0 p1 => ?_, fun x x0 x1 => ?_⟩, ⟨by rw [i16]; exact r0, fun z => ⟨by rw [i161]; exact (r1 z).1, fun k k0 k1 => ?_⟩⟩, ⟨by rw [i18]; exact c0, fun m m0 mm => ?_, fun s s0 s1 => ?_⟩, by rw [i23]; exact g0, fun g gg0 gg1 => ?_⟩
  · rw [a2 m m0 (by omega)]; exact m2 m m0 mm
  · have := (hI.mv m0 mm).2.1
    rw [a3 _ (by omega) (by omega)]; exact m3 m k m0 mm k0 k1
  · rw [a5 s s0 (by omega), a6 s s0 (by omega)]; exact t2 s s0 s1
  · rw [a7 _ (by omega) (by omega)]; exact t3 s p s0 s1 p0 p1
  · rw [a8 x x0 (by omega), a9 x x0 (by omega), a10 x x0 (by omega), a11 x x0 (by omega), a12 x x0 (by omega), a13 x x0 (by omega), a14 x x0 (by omega), a15 x x0 (by omega)]; exact t4 x x0 x1
  · rw [a17 k k0 (by omega)]; exact (r1 z).2 k k0 k1
  · rw [a19 m m0 mm, a20 m m0 mm]; exact c1 m m0 mm
  · have hls := hl s s0 s1
    rw [a21 s s0 s1]
    refine ⟨(c2 s s0 s1).1, fun w k k0 k1 => ?_⟩
    rw [a22 _ (by omega) (by omega)]
    exact (c2 s s0 s1).2 w k k0 k1
  · rw [a24 g gg0 (by omega), a25 g gg0 (by omega), a26 g gg0 (by omega)]; exact g1 g gg0 gg1

def bcA (H : am_H) (x y : Nat) : am_H := bcGrowths (bcCatalogue (bcReading (bcStacks (bcMarks (H) (x + 1) (y + 1)) (x + 4) (y + 4)) (x + 16) (y + 16)) (x + 18) (y + 18)) (x + 23) (y + 23)
def bcS (H : am_H) (x y : Nat) : am_H := am_up (bcA H x y) x 5 (bcA H x y y 5)
theorem bcS_o (H : am_H) (x y : Nat) {o : Nat} (h : o < x ∨ x + 28 < o) : bcS H x y o = H o := by
  unfold bcS bcA
  rw [am_up_ne (by omega), bcGrowths_o _ _ _ (by omega), bcCatalogue_o _ _ _ (by omega), bcReading_o _ _ _ (by omega), bcStacks_o _ _ _ (by omega), bcMarks_o _ _ _ (by omega)]
theorem bcA_o (H : am_H) (x y : Nat) {o : Nat} (h : o ≤ x ∨ x + 28 < o) : bcA H x y o = H o := by
  unfold bcA
  rw [bcGrowths_o _ _ _ (by omega), bcCatalogue_o _ _ _ (by omega), bcReading_o _ _ _ (by omega), bcStacks_o _ _ _ (by omega), bcMarks_o _ _ _ (by omega)]

theorem bcS_p (H : am_H) {x y : Nat} (hd : x + 29 ≤ y ∨ y + 29 ≤ x) : ∀ q ∈ RSt, ∀ k, q.2.1 ≤ k → k < q.2.2 → bcS H x y (x + q.1) k = H (y + q.1) k := by
  have p0 : ∀ k : Int, 5 ≤ k → k < 6 → bcS H x y (x + 0) k = H (y + 0) k := fun k k0 k1 => by
    have hk : k = 5 := by have k0 : (5 : Int) ≤ k := k0; have k1 : k < (6 : Int) := k1; omega
    subst hk
    show bcS H x y x 5 = H y 5
    unfold bcS
    rw [am_up_eq, am_uf_eq, bcA_o _ _ _ (by omega)]
  have p1 : ∀ k : Int, 0 ≤ k → k < 1 → bcS H x y (x + 1) k = H (y + 1) k := fun k k0 k1 => by
    have hk : k = 0 := by have k0 : (0 : Int) ≤ k := k0; have k1 : k < (1 : Int) := k1; omega
    subst hk
    show bcS H x y (x + 1) 0 = H (y + 1) 0
    unfold bcS bcA
    rw [am_up_ne (by omega), bcGrowths_o _ _ _ (by omega), bcCatalogue_o _ _ _ (by omega), bcReading_o _ _ _ (by omega), bcStacks_o _ _ _ (by omega), bcMarks_i0]
  have p2 : ∀ k : Int, 0 ≤ k → k < 200 → bcS H x y (x + 2) k = H (y + 2) k := fun k k0 k1 => by
    show bcS H x y (x + 2) k = H (y + 2) k
    unfold bcS bcA
    rw [am_up_ne (by omega), bcGrowths_o _ _ _ (by omega), bcCatalogue_o _ _ _ (by omega), bcReading_o _ _ _ (by omega), bcStacks_o _ _ _ (by omega), show x + 2 = x + 1 + 1 by omega, bcMarks_a1 _ _ _ k0 k1, show y + 1 + 1 = y + 2 by omega]
  have p3 : ∀ k : Int, 0 ≤ k → k < 1600 → bcS H x y (x + 3) k = H (y + 3) k := fun k k0 k1 => by
    show bcS H x y (x + 3) k = H (y + 3) k
    unfold bcS bcA
    rw [am_up_ne (by omega), bcGrowths_o _ _ _ (by omega), bcCatalogue_o _ _ _ (by omega), bcReading_o _ _ _ (by omega), bcStacks_o _ _ _ (by omega), show x + 3 = x + 1 + 2 by omega, bcMarks_a2 _ _ _ k0 k1, show y + 1 + 2 = y + 3 by omega]
  have p4 : ∀ k : Int, 0 ≤ k → k < 1 → bcS H x y (x + 4) k = H (y + 4) k := fun k k0 k1 => by
    have hk : k = 0 := by have k0 : (0 : Int) ≤ k := k0; have k1 : k < (1 : Int) := k1; omega
    subst hk
    show bcS H x y (x + 4) 0 = H (y + 4) 0
    unfold bcS bcA
    rw [am_up_ne (by omega), bcGrowths_o _ _ _ (by omega), bcCatalogue_o _ _ _ (by omega), bcReading_o _ _ _ (by omega), bcStacks_i0, bcMarks_o _ _ _ (by omega)]
  have p5 : ∀ k : Int, 0 ≤ k → k < 16 → bcS H x y (x + 5) k = H (y + 5) k := fun k k0 k1 => by
    show bcS H x y (x + 5) k = H (y + 5) k
    unfold bcS bcA
    rw [am_up_ne (by omega), bcGrowths_o _ _ _ (by omega), bcCatalogue_o _ _ _ (by omega), bcReading_o _ _ _ (by omega), show x + 5 = x + 4 + 1 by omega, bcStacks_a1 _ _ _ k0 k1, show y + 4 + 1 = y + 5 by omega, bcMarks_o _ _ _ (by omega)]
  have p6 : ∀ k : Int, 0 ≤ k → k < 16 → bcS H x y (x + 6) k = H (y + 6) k := fun k k0 k1 => by
    show bcS H x y (x + 6) k = H (y + 6) k
    unfold bcS bcA
    rw [am_up_ne (by omega), bcGrowths_o _ _ _ (by omega), bcCatalogue_o _ _ _ (by omega), bcReading_o _ _ _ (by omega), show x + 6 = x + 4 + 2 by omega, bcStacks_a2 _ _ _ k0 k1, show y + 4 + 2 = y + 6 by omega, bcMarks_o _ _ _ (by omega)]
  have p7 : ∀ k : Int, 0 ≤ k → k < 480 → bcS H x y (x + 7) k = H (y + 7) k := fun k k0 k1 => by
    show bcS H x y (x + 7) k = H (y + 7) k
    unfold bcS bcA
    rw [am_up_ne (by omega), bcGrowths_o _ _ _ (by omega), bcCatalogue_o _ _ _ (by omega), bcReading_o _ _ _ (by omega), show x + 7 = x + 4 + 3 by omega, bcStacks_a3 _ _ _ k0 k1, show y + 4 + 3 = y + 7 by omega, bcMarks_o _ _ _ (by omega)]
  have p8 : ∀ k : Int, 4 ≤ k → k < 5 → bcS H x y (x + 4) k = H (y + 4) k := fun k k0 k1 => by
    have hk : k = 4 := by have k0 : (4 : Int) ≤ k := k0; have k1 : k < (5 : Int) := k1; omega
    subst hk
    show bcS H x y (x + 4) 4 = H (y + 4) 4
    unfold bcS bcA
    rw [am_up_ne (by omega), bcGrowths_o _ _ _ (by omega), bcCatalogue_o _ _ _ (by omega), bcReading_o _ _ _ (by omega), bcStacks_i4, bcMarks_o _ _ _ (by omega)]
  have p9 : ∀ k : Int, 0 ≤ k → k < 200 → bcS H x y (x + 8) k = H (y + 8) k := fun k k0 k1 => by
    show bcS H x y (x + 8) k = H (y + 8) k
    unfold bcS bcA
    rw [am_up_ne (by omega), bcGrowths_o _ _ _ (by omega), bcCatalogue_o _ _ _ (by omega), bcReading_o _ _ _ (by omega), show x + 8 = x + 4 + 4 by omega, bcStacks_a4 _ _ _ k0 k1, show y + 4 + 4 = y + 8 by omega, bcMarks_o _ _ _ (by omega)]
  have p10 : ∀ k : Int, 0 ≤ k → k < 200 → bcS H x y (x + 9) k = H (y + 9) k := fun k k0 k1 => by
    show bcS H x y (x + 9) k = H (y + 9) k
    unfold bcS bcA
    rw [am_up_ne (by omega), bcGrowths_o _ _ _ (by omega), bcCatalogue_o _ _ _ (by omega), bcReading_o _ _ _ (by omega), show x + 9 = x + 4 + 5 by omega, bcStacks_a5 _ _ _ k0 k1, show y + 4 + 5 = y + 9 by omega, bcMarks_o _ _ _ (by omega)]
  have p11 : ∀ k : Int, 0 ≤ k → k < 200 → bcS H x y (x + 10) k = H (y + 10) k := fun k k0 k1 => by
    show bcS H x y (x + 10) k = H (y + 10) k
    unfold bcS bcA
    rw [am_up_ne (by omega), bcGrowths_o _ _ _ (by omega), bcCatalogue_o _ _ _ (by omega), bcReading_o _ _ _ (by omega), show x + 10 = x + 4 + 6 by omega, bcStacks_a6 _ _ _ k0 k1, show y + 4 + 6 = y + 10 by omega, bcMarks_o _ _ _ (by omega)]
  have p12 : ∀ k : Int, 0 ≤ k → k < 200 → bcS H x y (x + 11) k = H (y + 11) k := fun k k0 k1 => by
    show bcS H x y (x + 11) k = H (y + 11) k
    unfold bcS bcA
    rw [am_up_ne (by omega), bcGrowths_o _ _ _ (by omega), bcCatalogue_o _ _ _ (by omega), bcReading_o _ _ _ (by omega), show x + 11 = x + 4 + 7 by omega, bcStacks_a7 _ _ _ k0 k1, show y + 4 + 7 = y + 11 by omega, bcMarks_o _ _ _ (by omega)]
  have p13 : ∀ k : Int, 0 ≤ k → k < 200 → bcS H x y (x + 12) k = H (y + 12) k := fun k k0 k1 => by
    show bcS H x y (x + 12) k = H (y + 12) k
    unfold bcS bcA
    rw [am_up_ne (by omega), bcGrowths_o _ _ _ (by omega), bcCatalogue_o _ _ _ (by omega), bcReading_o _ _ _ (by omega), show x + 12 = x + 4 + 8 by omega, bcStacks_a8 _ _ _ k0 k1, show y + 4 + 8 = y + 12 by omega, bcMarks_o _ _ _ (by omega)]
  have p14 : ∀ k : Int, 0 ≤ k → k < 200 → bcS H x y (x + 13) k = H (y + 13) k := fun k k0 k1 => by
    show bcS H x y (x + 13) k = H (y + 13) k
    unfold bcS bcA
    rw [am_up_ne (by omega), bcGrowths_o _ _ _ (by omega), bcCatalogue_o _ _ _ (by omega), bcReading_o _ _ _ (by omega), show x + 13 = x + 4 + 9 by omega, bcStacks_a9 _ _ _ k0 k1, show y + 4 + 9 = y + 13 by omega, bcMarks_o _ _ _ (by omega)]
  have p15 : ∀ k : Int, 0 ≤ k → k < 200 → bcS H x y (x + 14) k = H (y + 14) k := fun k k0 k1 => by
    show bcS H x y (x + 14) k = H (y + 14) k
    unfold bcS bcA
    rw [am_up_ne (by omega), bcGrowths_o _ _ _ (by omega), bcCatalogue_o _ _ _ (by omega), bcReading_o _ _ _ (by omega), show x + 14 = x + 4 + 10 by omega, bcStacks_a10 _ _ _ k0 k1, show y + 4 + 10 = y + 14 by omega, bcMarks_o _ _ _ (by omega)]
  have p16 : ∀ k : Int, 0 ≤ k → k < 200 → bcS H x y (x + 15) k = H (y + 15) k := fun k k0 k1 => by
    show bcS H x y (x + 15) k = H (y + 15) k
    unfold bcS bcA
    rw [am_up_ne (by omega), bcGrowths_o _ _ _ (by omega), bcCatalogue_o _ _ _ (by omega), bcReading_o _ _ _ (by omega), show x + 15 = x + 4 + 11 by omega, bcStacks_a11 _ _ _ k0 k1, show y + 4 + 11 = y + 15 by omega, bcMarks_o _ _ _ (by omega)]
  have p17 : ∀ k : Int, 0 ≤ k → k < 1 → bcS H x y (x + 16) k = H (y + 16) k := fun k k0 k1 => by
    have hk : k = 0 := by have k0 : (0 : Int) ≤ k := k0; have k1 : k < (1 : Int) := k1; omega
    subst hk
    show bcS H x y (x + 16) 0 = H (y + 16) 0
    unfold bcS bcA
    rw [am_up_ne (by omega), bcGrowths_o _ _ _ (by omega), bcCatalogue_o _ _ _ (by omega), bcReading_i0, bcStacks_o _ _ _ (by omega), bcMarks_o _ _ _ (by omega)]
  have p18 : ∀ k : Int, 1 ≤ k → k < 2 → bcS H x y (x + 16) k = H (y + 16) k := fun k k0 k1 => by
    have hk : k = 1 := by have k0 : (1 : Int) ≤ k := k0; have k1 : k < (2 : Int) := k1; omega
    subst hk
    show bcS H x y (x + 16) 1 = H (y + 16) 1
    unfold bcS bcA
    rw [am_up_ne (by omega), bcGrowths_o _ _ _ (by omega), bcCatalogue_o _ _ _ (by omega), bcReading_i1, bcStacks_o _ _ _ (by omega), bcMarks_o _ _ _ (by omega)]
  have p19 : ∀ k : Int, 0 ≤ k → k < 60 → bcS H x y (x + 17) k = H (y + 17) k := fun k k0 k1 => by
    show bcS H x y (x + 17) k = H (y + 17) k
    unfold bcS bcA
    rw [am_up_ne (by omega), bcGrowths_o _ _ _ (by omega), bcCatalogue_o _ _ _ (by omega), show x + 17 = x + 16 + 1 by omega, bcReading_a1 _ _ _ k0 k1, show y + 16 + 1 = y + 17 by omega, bcStacks_o _ _ _ (by omega), bcMarks_o _ _ _ (by omega)]
  have p20 : ∀ k : Int, 0 ≤ k → k < 1 → bcS H x y (x + 18) k = H (y + 18) k := fun k k0 k1 => by
    have hk : k = 0 := by have k0 : (0 : Int) ≤ k := k0; have k1 : k < (1 : Int) := k1; omega
    subst hk
    show bcS H x y (x + 18) 0 = H (y + 18) 0
    unfold bcS bcA
    rw [am_up_ne (by omega), bcGrowths_o _ _ _ (by omega), bcCatalogue_i0, bcReading_o _ _ _ (by omega), bcStacks_o _ _ _ (by omega), bcMarks_o _ _ _ (by omega)]
  have p21 : ∀ k : Int, 0 ≤ k → k < 200 → bcS H x y (x + 19) k = H (y + 19) k := fun k k0 k1 => by
    show bcS H x y (x + 19) k = H (y + 19) k
    unfold bcS bcA
    rw [am_up_ne (by omega), bcGrowths_o _ _ _ (by omega), show x + 19 = x + 18 + 1 by omega, bcCatalogue_a1 _ _ _ k0 k1, show y + 18 + 1 = y + 19 by omega, bcReading_o _ _ _ (by omega), bcStacks_o _ _ _ (by omega), bcMarks_o _ _ _ (by omega)]
  have p22 : ∀ k : Int, 0 ≤ k → k < 200 → bcS H x y (x + 20) k = H (y + 20) k := fun k k0 k1 => by
    show bcS H x y (x + 20) k = H (y + 20) k
    unfold bcS bcA
    rw [am_up_ne (by omega), bcGrowths_o _ _ _ (by omega), show x + 20 = x + 18 + 2 by omega, bcCatalogue_a2 _ _ _ k0 k1, show y + 18 + 2 = y + 20 by omega, bcReading_o _ _ _ (by omega), bcStacks_o _ _ _ (by omega), bcMarks_o _ _ _ (by omega)]
  have p23 : ∀ k : Int, 0 ≤ k → k < 16 → bcS H x y (x + 21) k = H (y + 21) k := fun k k0 k1 => by
    show bcS H x y (x + 21) k = H (y + 21) k
    unfold bcS bcA
    rw [am_up_ne (by omega), bcGrowths_o _ _ _ (by omega), show x + 21 = x + 18 + 3 by omega, bcCatalogue_a3 _ _ _ k0 k1, show y + 18 + 3 = y + 21 by omega, bcReading_o _ _ _ (by omega), bcStacks_o _ _ _ (by omega), bcMarks_o _ _ _ (by omega)]
  have p24 : ∀ k : Int, 0 ≤ k → k < 960 → bcS H x y (x + 22) k = H (y + 22) k := fun k k0 k1 => by
    show bcS H x y (x + 22) k = H (y + 22) k
    unfold bcS bcA
    rw [am_up_ne (by omega), bcGrowths_o _ _ _ (by omega), show x + 22 = x + 18 + 4 by omega, bcCatalogue_a4 _ _ _ k0 k1, show y + 18 + 4 = y + 22 by omega, bcReading_o _ _ _ (by omega), bcStacks_o _ _ _ (by omega), bcMarks_o _ _ _ (by omega)]
  have p25 : ∀ k : Int, 0 ≤ k → k < 1 → bcS H x y (x + 23) k = H (y + 23) k := fun k k0 k1 => by
    have hk : k = 0 := by have k0 : (0 : Int) ≤ k := k0; have k1 : k < (1 : Int) := k1; omega
    subst hk
    show bcS H x y (x + 23) 0 = H (y + 23) 0
    unfold bcS bcA
    rw [am_up_ne (by omega), bcGrowths_i0, bcCatalogue_o _ _ _ (by omega), bcReading_o _ _ _ (by omega), bcStacks_o _ _ _ (by omega), bcMarks_o _ _ _ (by omega)]
  have p26 : ∀ k : Int, 0 ≤ k → k < 12 → bcS H x y (x + 24) k = H (y + 24) k := fun k k0 k1 => by
    show bcS H x y (x + 24) k = H (y + 24) k
    unfold bcS bcA
    rw [am_up_ne (by omega), show x + 24 = x + 23 + 1 by omega, bcGrowths_a1 _ _ _ k0 k1, show y + 23 + 1 = y + 24 by omega, bcCatalogue_o _ _ _ (by omega), bcReading_o _ _ _ (by omega), bcStacks_o _ _ _ (by omega), bcMarks_o _ _ _ (by omega)]
  have p27 : ∀ k : Int, 0 ≤ k → k < 12 → bcS H x y (x + 25) k = H (y + 25) k := fun k k0 k1 => by
    show bcS H x y (x + 25) k = H (y + 25) k
    unfold bcS bcA
    rw [am_up_ne (by omega), show x + 25 = x + 23 + 2 by omega, bcGrowths_a2 _ _ _ k0 k1, show y + 23 + 2 = y + 25 by omega, bcCatalogue_o _ _ _ (by omega), bcReading_o _ _ _ (by omega), bcStacks_o _ _ _ (by omega), bcMarks_o _ _ _ (by omega)]
  have p28 : ∀ k : Int, 0 ≤ k → k < 12 → bcS H x y (x + 26) k = H (y + 26) k := fun k k0 k1 => by
    show bcS H x y (x + 26) k = H (y + 26) k
    unfold bcS bcA
    rw [am_up_ne (by omega), show x + 26 = x + 23 + 3 by omega, bcGrowths_a3 _ _ _ k0 k1, show y + 23 + 3 = y + 26 by omega, bcCatalogue_o _ _ _ (by omega), bcReading_o _ _ _ (by omega), bcStacks_o _ _ _ (by omega), bcMarks_o _ _ _ (by omega)]
  intro q hq
  simp only [RSt, List.mem_cons, List.not_mem_nil, or_false] at hq
  rcases hq with rfl | rfl | rfl | rfl | rfl | rfl | rfl | rfl | rfl | rfl | rfl | rfl | rfl | rfl | rfl | rfl | rfl | rfl | rfl | rfl | rfl | rfl | rfl | rfl | rfl | rfl | rfl | rfl | rfl
  · exact p0
  · exact p1
  · exact p2
  · exact p3
  · exact p4
  · exact p5
  · exact p6
  · exact p7
  · exact p8
  · exact p9
  · exact p10
  · exact p11
  · exact p12
  · exact p13
  · exact p14
  · exact p15
  · exact p16
  · exact p17
  · exact p18
  · exact p19
  · exact p20
  · exact p21
  · exact p22
  · exact p23
  · exact p24
  · exact p25
  · exact p26
  · exact p27
  · exact p28
theorem RS_bc {H : am_H} {x y : Nat} {a : Int → Int} (hI : Inv a) (hd : x + 29 ≤ y ∨ y + 29 ≤ x) (h : RS H y a) : RS (bcS H x y) x a := RS_pt hI h (bcS_p H hd)

