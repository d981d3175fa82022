/-! ===== the reference: shift ===== -/
theorem gA_at (a : Int → Int) (f : Int) : ∀ (t : Nat) (x : Int), 0 ≤ x → x < gN a f t → ∃ u, u < t ∧ 0 ≤ gW a f u ∧ gN a f u = x ∧ ∀ V I, gA a f V I t x = V u
  | 0, x, h0, h1 => by simp only [gN] at h1; omega
  | t + 1, x, h0, h1 => by
    have hr := gN_r a f t
    by_cases hw : gW a f t < 0
    · simp only [gN] at h1
      rw [if_pos hw] at h1
      obtain ⟨u, q1, q2, q3, q4⟩ := gA_at a f t x h0 h1
      refine ⟨u, by omega, q2, q3, fun V I => ?_⟩
      simp only [gA]
      rw [if_pos hw]
      exact q4 V I
    · simp only [gN] at h1
      rw [if_neg hw] at h1
      by_cases hx : x = gN a f t
      · refine ⟨t, by omega, by omega, hx.symm, fun V I => ?_⟩
        simp only [gA]
        rw [if_neg hw, hx, am_uf_eq]
      · obtain ⟨u, q1, q2, q3, q4⟩ := gA_at a f t x h0 (by omega)
        refine ⟨u, by omega, q2, q3, fun V I => ?_⟩
        simp only [gA]
        rw [if_neg hw, am_uf_ne _ _ hx]
        exact q4 V I
theorem smF_cg {w w' : Int → Int} {n i : Int} (h0 : 0 ≤ i) (hw : ∀ x, 0 ≤ x → x < n → w x = w' x) : ∀ c : Nat, i + (c : Int) ≤ n → smF w i c = smF w' i c
  | 0, _ => rfl
  | c + 1, h => by
    simp only [smF]
    rw [smF_cg h0 hw c (by omega), hw _ (by omega) (by omega)]
theorem chF_cg {hm hm' : Int → Int} {n i k k' : Int} (h0 : 0 ≤ i) (hh : ∀ x, 0 ≤ x → x < n → (hm x = k ↔ hm' x = k')) : ∀ c : Nat, i + (c : Int) ≤ n → chF hm k i c = chF hm' k' i c
  | 0, _ => rfl
  | c + 1, h => by
    simp only [chF]
    rw [chF_cg h0 hh c (by omega)]
    have := hh (i + (c : Int)) (by omega) (by omega)
    by_cases q : hm (i + (c : Int)) = k
    · rw [if_pos q, if_pos (this.1 q)]
    · rw [if_neg q, if_neg (fun z => q (this.2 z))]
theorem trL_cg {T e0 : Int} {w w' hm hm' pd pd' rest rest' : Int → Int} {n k k' L G i : Int} (h0 : 0 ≤ i) (hw : ∀ x, 0 ≤ x → x < n → w x = w' x) (hh : ∀ x, 0 ≤ x → x < n → (hm x = k ↔ hm' x = k')) (hp : ∀ x, 0 ≤ x → x ≤ n → (pd x = 1 ↔ pd' x = 1)) (hr : ∀ x, 0 ≤ x → x ≤ n → rest x = rest' x) : ∀ c : Nat, trL T e0 w hm pd rest n k L G i c = trL T e0 w' hm' pd' rest' n k' L G i c
  | 0 => rfl
  | c + 1 => by
    have ih := trL_cg (T := T) (e0 := e0) (L := L) (G := G) h0 hw hh hp hr c
    by_cases q : i + (c : Int) ≤ n
    · have e1 := smF_cg h0 hw c q
      have e2 := chF_cg h0 hh c q
      have e3 := hr (i + (c : Int)) (by omega) q
      have e4 := hp (i + (c : Int)) (by omega) q
      simp only [trL, trG, ih, e1, e2, e3, e4]
    · simp only [trL]
      rw [if_neg (fun z => q z.1), if_neg (fun z => q z.1)]
      exact ih
/-- fewest changed and best end, r shelves from the last -/
def dpR (T : Int) (e0 : Int → Int) (w hm pd : Int → Int) (n : Int) (ks Ls Gs : Int → Int) (sh : Int) : Nat → Int → Int × Int
  | 0, j => (if j = n then 0 else T, e0 j)
  | r + 1, i => trL T (e0 i) w hm pd (fun j => (dpR T e0 w hm pd n ks Ls Gs sh r j).1) n (ks (sh - 1 - (r : Int))) (Ls (sh - 1 - (r : Int))) (Gs (sh - 1 - (r : Int))) i 31
theorem dpR_r {T : Int} (hT : 0 ≤ T) (e0 : Int → Int) {w hm pd : Int → Int} {n : Int} {ks Ls Gs : Int → Int} {sh : Int} : ∀ (r : Nat) (i : Int), 0 ≤ i → 0 ≤ (dpR T e0 w hm pd n ks Ls Gs sh r i).1 ∧ (dpR T e0 w hm pd n ks Ls Gs sh r i).1 ≤ T
  | 0, i, _ => by
    simp only [dpR]
    split <;> omega
  | r + 1, i, hi => by
    have ih := dpR_r hT e0 (w := w) (hm := hm) (pd := pd) (n := n) (ks := ks) (Ls := Ls) (Gs := Gs) (sh := sh) r
    simp only [dpR]
    rcases trL_r T (e0 i) (w := w) (hm := hm) (pd := pd) (rest := fun j => (dpR T e0 w hm pd n ks Ls Gs sh r j).1) (n := n) (k := ks (sh - 1 - (r : Int))) (L := Ls (sh - 1 - (r : Int))) (G := Gs (sh - 1 - (r : Int))) (fun j q0 q1 => (ih j q0).1) hi 31 with q | ⟨x, q1, q2, q3, q4, q5⟩
    · rw [q]; simp only []; omega
    · rw [q4]; simp only []
      have := chF_r hm (ks (sh - 1 - (r : Int))) i x
      have := ih (i + (x : Int)) (by omega)
      have q5 : chF hm (ks (sh - 1 - (r : Int))) i x + (dpR T e0 w hm pd n ks Ls Gs sh r (i + (x : Int))).1 < T := q5
      omega
theorem dpR_cg {T : Int} {e0 : Int → Int} {w w' hm hm' pd pd' : Int → Int} {n : Int} {ks ks' Ls Gs : Int → Int} {sh : Int} (hw : ∀ x, 0 ≤ x → x < n → w x = w' x) (hh : ∀ k x, 0 ≤ k → k < sh → 0 ≤ x → x < n → (hm x = ks k ↔ hm' x = ks' k)) (hp : ∀ x, 0 ≤ x → x ≤ n → (pd x = 1 ↔ pd' x = 1)) : ∀ (r : Nat) (i : Int), (r : Int) ≤ sh → 0 ≤ i → dpR T e0 w hm pd n ks Ls Gs sh r i = dpR T e0 w' hm' pd' n ks' Ls Gs sh r i
  | 0, i, _, _ => rfl
  | r + 1, i, h, hi => by
    have ih := dpR_cg (T := T) (e0 := e0) (Ls := Ls) (Gs := Gs) hw hh hp r
    simp only [dpR]
    exact trL_cg hi hw (fun x q0 q1 => hh _ x (by omega) (by omega) q0 q1) hp (fun x q0 q1 => by rw [ih x (by omega) q0]) 31
/-- a best end that is told is within, and leaves a way on -/
theorem dpR_e {T : Int} (hT : 0 ≤ T) (e0 : Int → Int) {w hm pd : Int → Int} {n : Int} {ks Ls Gs : Int → Int} {sh : Int} (r : Nat) {i : Int} (hi : 0 ≤ i) (h : (dpR T e0 w hm pd n ks Ls Gs sh (r + 1) i).1 < T) : ∃ e, (dpR T e0 w hm pd n ks Ls Gs sh (r + 1) i).2 = e ∧ i ≤ e ∧ e ≤ n ∧ e ≤ i + 30 ∧ (dpR T e0 w hm pd n ks Ls Gs sh r e).1 < T ∧ (dpR T e0 w hm pd n ks Ls Gs sh r e).1 + (e - i) ≥ (dpR T e0 w hm pd n ks Ls Gs sh (r + 1) i).1 := by
  have ih := dpR_r hT e0 (w := w) (hm := hm) (pd := pd) (n := n) (ks := ks) (Ls := Ls) (Gs := Gs) (sh := sh) r
  simp only [dpR] at h ⊢
  rcases trL_r T (e0 i) (w := w) (hm := hm) (pd := pd) (rest := fun j => (dpR T e0 w hm pd n ks Ls Gs sh r j).1) (n := n) (k := ks (sh - 1 - (r : Int))) (L := Ls (sh - 1 - (r : Int))) (G := Gs (sh - 1 - (r : Int))) (fun j q0 q1 => (ih j q0).1) hi 31 with q | ⟨x, q1, q2, q3, q4, q5⟩
  · rw [q] at h; simp only [] at h; omega
  · have hc := chF_r hm (ks (sh - 1 - (r : Int))) i x
    refine ⟨i + (x : Int), ?_, by omega, q2, by omega, ?_, ?_⟩
    · rw [q4]
    · have q5 : chF hm (ks (sh - 1 - (r : Int))) i x + (dpR T e0 w hm pd n ks Ls Gs sh r (i + (x : Int))).1 < T := q5; omega
    · rw [q4]; simp only []; omega

abbrev RdpB (B : am_H) (n : Nat) (f le gr sh : Int) : Nat → Int → Int × Int := dpR 100000 (fun _ => -1) (itW (B 54) (B 64)) (B 65) (B 66) (n : Int) (fun k => k) (fun k => B 54 (6670 + 32 * (f + k)) * le / 100) (fun k => B 54 (6670 + 32 * (f + k)) * gr / 100) sh
def PRr (B : am_H) (n : Nat) (f le gr sh : Int) (X Y : Int → Int) (r : Nat) : Prop := ∀ r' : Nat, 1 ≤ r' → r' ≤ r → ∀ i, 0 ≤ i → i ≤ (n : Int) → X (481 * (sh - (r' : Int)) + i) = (RdpB B n f le gr sh r' i).1 ∧ Y (481 * (sh - (r' : Int)) + i) = (RdpB B n f le gr sh r' i).2
theorem l2_shift {d N n : Nat} {P : am_P} {B : am_H} {f l le gr nr sh : Int} {Q : Option am_V → am_S → Prop} (hP : PZ P) (hI : Inv (B 54)) (hIT : IT (B 54) (B 64) n) (hn0 : B 53 19 = (n : Int)) (hn1 : n ≤ 480) (hf : B 53 27 = f) (hsh : 1 ≤ sh ∧ sh ≤ 16 ∧ 0 ≤ f ∧ f + sh ≤ B 54 2) (h3 : 0 ≤ le ∧ le ≤ gr ∧ gr ≤ 100) (h6 : ∀ j, 0 ≤ j → j ≤ (n : Int) → B 66 j = 0 ∨ B 66 j = 1) {r : Nat} (hr : (r : Int) < sh) (hk : ∀ X Y, PRr B n f le gr sh X Y (r + 1) → ∀ w, am_WP (am_R (d + 3)) cd_Model_shift Q 94 [some (am_r 53), some (am_i f), some (am_i l), some (am_i le), some (am_i gr), some (am_i nr), some (am_i sh), some (am_i (sh - 1 - (r : Int) - 1)), w] [] (N, P, am_so (am_so B 67 X) 68 Y)) : ∀ c : Nat, c ≤ n + 1 → ∀ X Y, PRr B n f le gr sh X Y r → (∀ i, (c : Int) ≤ i → i ≤ (n : Int) → X (481 * (sh - 1 - (r : Int)) + i) = (RdpB B n f le gr sh (r + 1) i).1 ∧ Y (481 * (sh - 1 - (r : Int)) + i) = (RdpB B n f le gr sh (r + 1) i).2) → am_WP (am_R (d + 3)) cd_Model_shift Q 99 [some (am_r 53), some (am_i f), some (am_i l), some (am_i le), some (am_i gr), some (am_i nr), some (am_i sh), some (am_i (sh - 1 - (r : Int))), some (am_i ((c : Int) - 1))] [] (N, P, am_so (am_so B 67 X) 68 Y) := by
  have hn := hI.n
  intro c
  induction c with
  | zero =>
    intro _ X Y hX hZ
    refine st_iload rfl rfl ?_
    refine st_if_lt rfl (fun h100 => ?_) (fun h100 => (by exfalso; omega))
    refine st_iinc (ls' := [_, _, _, _, _, _, _, _, _]) rfl rfl (by omega) rfl ?_
    refine st_goto rfl ?_
    refine hk X Y (fun r' q1 q2 i q3 q4 => ?_) _
    by_cases q : r' ≤ r
    · exact hX r' q1 q i q3 q4
    · rw [show r' = r + 1 by omega, show sh - ((r + 1 : Nat) : Int) = sh - 1 - (r : Int) by omega]
      exact hZ i (by omega) q4
  | succ c ih =>
    intro hc X Y hX hZ
    have ec : ((c + 1 : Nat) : Int) - 1 = (c : Int) := by omega
    rw [ec]
    have hws := (hI.s.2.1 (f + (sh - 1 - (r : Int))) (by omega) (by omega)).1
    refine st_iload rfl rfl ?_
    refine st_if_lt rfl (fun h100 => (by exfalso; omega)) (fun h100 => ?_)
    refine st_aload_n rfl rfl (by decide) ?_
    refine st_iload rfl rfl ?_
    refine st_iload rfl rfl ?_
    refine st_iload rfl rfl ?_
    refine st_iload_n rfl rfl ?_
    refine st_iload rfl rfl ?_
    have hre : ∀ j, 0 ≤ j → j ≤ (n : Int) → (fun j => if (sh - 1 - (r : Int)) + 1 = sh then (if j = (n : Int) then 0 else 100000) else X (481 * ((sh - 1 - (r : Int)) + 1) + j)) j = (RdpB B n f le gr sh r j).1 := by
      intro j q0 q1
      by_cases q : r = 0
      · subst q
        simp only []
        rw [if_pos (by omega)]
        rfl
      · simp only []
        rw [if_neg (by omega), show sh - 1 - (r : Int) + 1 = sh - (r : Int) by omega]
        exact (hX r (by omega) (by omega) j q0 q1).1
    have hrr : ∀ j, 0 ≤ j → j ≤ (n : Int) → 0 ≤ (RdpB B n f le gr sh r j).1 ∧ (RdpB B n f le gr sh r j).1 ≤ 100000 := fun j q0 q1 => dpR_r (by omega) _ r j q0
    refine st_cv0 (w := []) rfl rfl rfl (Nat.le_of_ble_eq_true rfl) (Nat.le_of_ble_eq_true rfl) rfl rfl (r_Model_tries (H := am_so (am_so B 67 X) 68 Y) (n := n) hP hI hIT hn0 hn1 (by omega) (by omega) h3 (by rw [show am_so (am_so B 67 X) 68 Y 53 27 = f from hf]; show 0 ≤ B 54 (6670 + 32 * (f + (sh - 1 - (r : Int)))) ∧ B 54 (6670 + 32 * (f + (sh - 1 - (r : Int)))) ≤ 2000; omega) (by rw [show am_so (am_so B 67 X) 68 Y 53 27 = f from hf]; omega) h6 (fun q j q0 q1 => by have e := hre j q0 q1; simp only [] at e; rw [if_neg (by omega)] at e; show 0 ≤ X _ ∧ X _ ≤ 100000; rw [e]; exact hrr j q0 q1)) ?_
    refine st_iinc (ls' := [_, _, _, _, _, _, _, _, _]) rfl rfl (by omega) rfl ?_
    refine st_goto rfl ?_
    rw [show am_so (am_so B 67 X) 68 Y 53 27 = f from hf]
    have etr : trL 100000 (-1) (itW (B 54) (B 64)) (B 65) (B 66) (fun j => if (sh - 1 - (r : Int)) + 1 = sh then (if j = (n : Int) then 0 else 100000) else X (481 * ((sh - 1 - (r : Int)) + 1) + j)) (n : Int) (sh - 1 - (r : Int)) (B 54 (6670 + 32 * (f + (sh - 1 - (r : Int)))) * le / 100) (B 54 (6670 + 32 * (f + (sh - 1 - (r : Int)))) * gr / 100) (c : Int) 31 = RdpB B n f le gr sh (r + 1) (c : Int) :=
      trL_cg (by omega) (fun _ _ _ => rfl) (fun _ _ _ => Iff.rfl) (fun _ _ _ => Iff.rfl) hre 31
    have e2 : ∀ z : Int × Int, am_up (am_up (am_so (am_so B 67 X) 68 Y) 67 (481 * (sh - 1 - (r : Int)) + (c : Int)) z.1) 68 (481 * (sh - 1 - (r : Int)) + (c : Int)) z.2 = am_so (am_so B 67 (am_uf X (481 * (sh - 1 - (r : Int)) + (c : Int)) z.1)) 68 (am_uf Y (481 * (sh - 1 - (r : Int)) + (c : Int)) z.2) := fun z => by rw [am_up2a (by decide), am_up2b]
    have ih := ih (by omega) (am_uf X (481 * (sh - 1 - (r : Int)) + (c : Int)) (RdpB B n f le gr sh (r + 1) (c : Int)).1) (am_uf Y (481 * (sh - 1 - (r : Int)) + (c : Int)) (RdpB B n f le gr sh (r + 1) (c : Int)).2) (fun r' q1 q2 i q3 q4 => by
      rw [am_uf_ne _ _ (by omega), am_uf_ne _ _ (by omega)]
      exact hX r' q1 q2 i q3 q4) (fun i q3 q4 => by
      by_cases q : i = (c : Int)
      · rw [q, am_uf_eq, am_uf_eq]; exact ⟨rfl, rfl⟩
      · rw [am_uf_ne _ _ (by omega), am_uf_ne _ _ (by omega)]
        exact hZ i (by omega) q4)
    rw [← e2, ← etr] at ih
    exact ih
theorem l1_shift {d N n : Nat} {P : am_P} {B : am_H} {f l le gr nr sh : Int} {Q : Option am_V → am_S → Prop} (hP : PZ P) (hI : Inv (B 54)) (hIT : IT (B 54) (B 64) n) (hn0 : B 53 19 = (n : Int)) (hn1 : n ≤ 480) (hf : B 53 27 = f) (hsh : 1 ≤ sh ∧ sh ≤ 16 ∧ 0 ≤ f ∧ f + sh ≤ B 54 2) (h3 : 0 ≤ le ∧ le ≤ gr ∧ gr ≤ 100) (h6 : ∀ j, 0 ≤ j → j ≤ (n : Int) → B 66 j = 0 ∨ B 66 j = 1) (hk : ∀ X Y, PRr B n f le gr sh X Y sh.toNat → ∀ w, am_WP (am_R (d + 3)) cd_Model_shift Q 112 [some (am_r 53), some (am_i f), some (am_i l), some (am_i le), some (am_i gr), some (am_i nr), some (am_i sh), some (am_i (-1)), w] [] (N, P, am_so (am_so B 67 X) 68 Y)) : ∀ r, r ≤ sh.toNat → ∀ X Y, PRr B n f le gr sh X Y r → ∀ w, am_WP (am_R (d + 3)) cd_Model_shift Q 94 [some (am_r 53), some (am_i f), some (am_i l), some (am_i le), some (am_i gr), some (am_i nr), some (am_i sh), some (am_i (sh - 1 - (r : Int))), w] [] (N, P, am_so (am_so B 67 X) 68 Y) := by
  refine up_ind (n := sh.toNat) ?_ ?_
  · intro X Y hX w
    refine st_iload rfl rfl ?_
    refine st_if_lt rfl (fun h95 => ?_) (fun h95 => (by exfalso; omega))
    have h := hk X Y hX w
    rw [show sh - 1 - ((sh.toNat : Nat) : Int) = -1 by omega]
    exact h
  · intro r hr ih X Y hX w
    refine st_iload rfl rfl ?_
    refine st_if_lt rfl (fun h95 => (by exfalso; omega)) (fun h95 => ?_)
    refine st_aload_n rfl rfl (by decide) ?_
    refine st_getI (kk := 19) rfl rfl (by decide) rfl ?_
    rw [show am_so (am_so B 67 X) 68 Y 53 19 = (n : Int) from hn0]
    refine st_istore (ls' := [_, _, _, _, _, _, _, _, _]) rfl (Nat.le_of_ble_eq_true rfl) rfl ?_
    have h := l2_shift (d := d) (Q := Q) (N := N) (l := l) (nr := nr) hP hI hIT hn0 hn1 hf hsh h3 h6 (r := r) (by omega) (fun X Y hX w => by have h1 := ih X Y hX w; rw [show sh - 1 - ((r + 1 : Nat) : Int) = sh - 1 - (r : Int) - 1 by omega] at h1; exact h1) (n + 1) (Nat.le_refl _) X Y hX (fun i q1 q2 => by omega)
    rw [show ((n + 1 : Nat) : Int) - 1 = (n : Int) by omega] at h
    exact h
