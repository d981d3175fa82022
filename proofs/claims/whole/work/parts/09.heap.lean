/-! ===== the simulation: fields, arrays, new cells ===== -/
def am_rty (t : FieldType) : Bool := match t with
  | .object _ => true
  | .array _ => true
  | _ => false
theorem am_fk_ty : ∀ c, c < 12 → ∀ k, k < am_nf c → (am_fk c k = 0 ∧ am_tyc c k = .int) ∨ (am_fk c k = 1 ∧ am_tyc c k = .boolean) ∨ (am_fk c k = 2 ∧ am_rty (am_tyc c k) = true) := by decide +kernel
theorem am_l0_all : ∀ q ∈ am_l0, q.1 ≤ 5 := by decide +kernel
theorem am_lb_all : ∀ q ∈ am_lb, q.1 ≤ 5 := by decide +kernel
theorem am_ly_big (o : Nat) : (am_ly (o + 3)).1 ≤ 9 := by
  unfold am_ly
  simp only []
  split
  · rename_i q hq
    exact Nat.le_trans (am_l0_all q (List.mem_of_getElem? hq)) (by omega)
  · rw [List.getD_eq_getElem?_getD]
    cases hq : am_lb[(o - 69) % 29]? with
    | none => exact Nat.le_refl _
    | some q => exact Nat.le_trans (am_lb_all q (List.mem_of_getElem? hq)) (by omega)
theorem am_ly3 {o : Nat} (h : (am_ly o).1 < 9) : 3 ≤ o := by
  match o, h with
  | 0, h => exact absurd h (by decide)
  | 1, h => exact absurd h (by decide)
  | 2, h => exact absurd h (by decide)
  | n + 3, _ => omega
theorem am_ly11 {o : Nat} (h : (am_ly o).1 = 11) : o = 1 := by
  match o, h with
  | 0, h => exact absurd h (by decide)
  | 1, _ => rfl
  | 2, h => exact absurd h (by decide)
  | n + 3, h => have := am_ly_big n; omega
theorem am_ly12 {o : Nat} (h : (am_ly o).1 = 12) : o = 2 := by
  match o, h with
  | 0, h => exact absurd h (by decide)
  | 1, h => exact absurd h (by decide)
  | 2, _ => rfl
  | n + 3, h => have := am_ly_big n; omega
theorem am_vc_at {c : Nat} (h : c < 12) : vwCl[c]? = some ((am_vc c).1, (am_vc c).2.1, (am_vc c).2.2) := by
  match c, h with
  | 0, _ => rfl
  | 1, _ => rfl
  | 2, _ => rfl
  | 3, _ => rfl
  | 4, _ => rfl
  | 5, _ => rfl
  | 6, _ => rfl
  | 7, _ => rfl
  | 8, _ => rfl
  | 9, _ => rfl
  | 10, _ => rfl
  | 11, _ => rfl
  | n + 12, h => omega
theorem am_ce0 {G : Nat → ClassId} {ρ : Nat → Nat} {σ : am_S} {o c : Nat} (h : am_ly o = (0, c)) : am_ce G ρ σ o = .inr (c, am_fs ρ σ o c) := by
  unfold am_ce
  rw [h]
  rfl
theorem am_ceA {G : Nat → ClassId} {ρ : Nat → Nat} {σ : am_S} {o j : Nat} (h : (am_ly o).1 = j) (h1 : j ≠ 0) (h2 : j ≠ 2) (h5 : j ≠ 5) : am_ce G ρ σ o = .inl (G j, (am_ly o).2, .inl (fun k => Int32.ofInt (σ.2.2 o k))) := by
  unfold am_ce am_ae
  rw [h, if_neg h1, if_neg h2, if_neg h5]
theorem am_ceL {G : Nat → ClassId} {ρ : Nat → Nat} {σ : am_S} {o : Nat} (h : (am_ly o).1 = 2) : am_ce G ρ σ o = .inl (G 2, (am_ly o).2, .inr (.inl (fun k => Int64.ofInt (σ.2.2 o k)))) := by
  unfold am_ce am_ae
  rw [h, if_neg (by decide), if_pos rfl]
theorem am_ceR {G : Nat → ClassId} {ρ : Nat → Nat} {σ : am_S} {o : Nat} (h : (am_ly o).1 = 5) : am_ce G ρ σ o = .inl (G 5, (am_ly o).2, .inr (.inr (.inr (.inr (fun k => am_rv ρ (σ.2.1 o k)))))) := by
  unfold am_ce am_ae
  rw [h, if_neg (by decide), if_neg (by decide), if_pos rfl]
theorem am_Iv.hp {X : am_X} {Y : am_Y} {ρ : Nat → Nat} {H H1 : Heap} {locs locs1 : List Loc} {Ls : Array Slot} {ls : am_L} {st st' : List am_V} {σ σ' : am_S} (I : am_Iv X Y ρ H locs Ls ls st σ) (hn : σ'.1 = σ.1)
    (hP : va_P Y.1.1 vwCl (am_ws Y.1.2.1 ρ σ') H1) (hD : va_D Y.1.2.2 (am_ws Y.1.2.1 ρ σ')) (hS : va_S Y.1.2.2 X.1.2.2.2.2.heap H1 locs1) (hg : am_rg σ') (h2 : σ'.2.2 2 = σ.2.2 2 ∧ σ'.2.2 0 = σ.2.2 0) (hst : ∀ v ∈ st', am_ok σ.1 v) : am_Iv X Y ρ H1 locs1 Ls ls st' σ' :=
  ⟨hP, hD, hS, I.2.2.2.1, by rw [hn]; exact I.2.2.2.2.1, hg, ⟨h2.1.trans I.2.2.2.2.2.2.1.1, h2.2.trans I.2.2.2.2.2.2.1.2⟩, I.lr, by rw [hn]; exact hst, by rw [hn]; exact I.lok⟩
theorem am_up_ne {α : Type} {H : Nat → Int → α} {o o' : Nat} {k : Int} {v : α} (h : o' ≠ o) : am_up H o k v o' = H o' := if_neg h
theorem am_up_eq {α : Type} {H : Nat → Int → α} {o : Nat} {k : Int} {v : α} : am_up H o k v o = am_uf (H o) k v := if_pos rfl
theorem am_rgH {σ : am_S} (hg : am_rg σ) {o : Nat} {k n : Int} (h : (am_bd o k).1 ≤ n ∧ n < (am_bd o k).2) : am_rg (σ.1, σ.2.1, am_up σ.2.2 o k n) := by
  refine ⟨fun o' k' => ?_, hg.2.1, hg.2.2⟩
  by_cases ho : o' = o
  · subst ho
    show (am_bd o' k').1 ≤ am_up σ.2.2 o' k n o' k' ∧ am_up σ.2.2 o' k n o' k' < _
    rw [am_up_eq]
    unfold am_uf
    by_cases hk : k' = k
    · subst hk; rw [if_pos rfl]; exact h
    · rw [if_neg hk]; exact hg.1 _ _
  · show (am_bd o' k').1 ≤ am_up σ.2.2 o k n o' k' ∧ am_up σ.2.2 o k n o' k' < _
    rw [am_up_ne ho]; exact hg.1 _ _
theorem am_rgP {σ : am_S} (hg : am_rg σ) {o p : Nat} {k : Int} (h : p < σ.1) : am_rg (σ.1, am_up σ.2.1 o k p, σ.2.2) := by
  refine ⟨hg.1, fun o' k' => ?_, hg.2.2⟩
  show am_up σ.2.1 o k p o' k' < σ.1
  by_cases ho : o' = o
  · subst ho
    rw [am_up_eq]
    unfold am_uf
    by_cases hk : k' = k
    · rw [if_pos hk]; exact h
    · rw [if_neg hk]; exact hg.2.1 _ _
  · rw [am_up_ne ho]; exact hg.2.1 _ _
theorem am_rgN {σ : am_S} (hg : am_rg σ) : am_rg (am_new σ) := by
  refine ⟨fun o k => ?_, fun o k => ?_, Nat.le_succ_of_le hg.2.2⟩
  · show (am_bd o k).1 ≤ am_so σ.2.2 σ.1 (fun _ => 0) o k ∧ am_so σ.2.2 σ.1 (fun _ => 0) o k < _
    unfold am_so
    by_cases ho : o = σ.1
    · rw [if_pos ho]
      unfold am_bd
      split
      · split <;> exact ⟨by decide, by decide⟩
      · split
        · exact ⟨by decide, by decide⟩
        · split
          · exact ⟨by decide, by decide⟩
          · split <;> exact ⟨by decide, by decide⟩
    · rw [if_neg ho]; exact hg.1 _ _
  · show am_so σ.2.1 σ.1 (fun _ => 0) o k < σ.1 + 1
    unfold am_so
    by_cases ho : o = σ.1
    · rw [if_pos ho]; omega
    · rw [if_neg ho]; exact Nat.lt_succ_of_lt (hg.2.1 _ _)
theorem am_rf_tov {ρ : Nat → Nat} {r : Nat} : va_rf (am_rv ρ r) = am_tov ρ (am_r r) := by
  show va_rf (if r = 0 then none else some (ρ r)) = if r = 0 then .null else .ref (ρ r)
  split <;> rfl
section SM2
variable {X : am_X} {Y : am_Y} {cc : ByteArray} {ow pc : Nat} {ls : am_L} {st : List am_V} {σ : am_S}
theorem sm_getfield {idx c k : Nat} (C : am_Cx X Y cc ow) (hd : decode cc pc = .ok (.getfield idx, 3)) (hf : (ow, idx, c, k) ∈ am_fl) (hc : c < 12) (hk : k < am_nf c) (h : am_pr st (fun o st => am_ly o = (0, c) ∧ am_Kp X Y (pc + 3) ls (am_fv σ c k o :: st) σ)) : am_Kp X Y pc ls st σ := by
  unfold am_pr at h
  split at h
  · rename_i o r
    obtain ⟨hly, h⟩ := h
    refine ⟨h.1, fun ρ H locs Ls I => ?_⟩
    have h3 : 3 ≤ o := am_ly3 (by rw [hly]; exact Nat.zero_lt_succ _)
    have ho : o < σ.1 := am_hd I.sok
    have hg : am_rg σ := I.2.2.2.2.2.1
    have e0 : am_tov ρ (am_r o) = .ref (ρ o) := if_neg (by omega)
    show am_W X H locs _ _ (F0 _ pc Ls (am_tov ρ (am_r o) :: _))
    rw [e0]
    have hN : k < (am_vc c).2.2 := by rw [← (am_vo_ok c hc).2.1]; exact hk
    have hv : am_fe ρ σ o c k = am_tov ρ (am_fv σ c k o) := by
      unfold am_fe am_fv
      split
      · show va_rf (am_rv ρ _) = if _ then _ else _
        unfold am_rv
        split <;> rfl
      · rfl
    have hok : am_ok σ.1 (am_fv σ c k o) := by
      unfold am_fv
      split
      · exact hg.2.1 _ _
      · have := hg.1 o k
        have hb : -2147483648 ≤ (am_bd o (k : Int)).1 ∧ (am_bd o (k : Int)).2 ≤ 2147483648 := by
          unfold am_bd
          rw [hly, if_pos rfl]
          split <;> exact ⟨by decide, by decide⟩
        exact ⟨by omega, by omega⟩
    refine va_get C.1 C.2.1 C.2.2.2.2.1 (am_co_all c hc).1 C.2.2.2.1 C.2.2.2.2.2.1.1 I.1 (o - 3) (by rw [am_ws_at h3 ho, am_ce0 hly]) (am_vc_at hc) k hN (C.2.2.2.2.1 _ (am_fl_ok _ hf)) (fun _ z => z) (am_fs_at hk) hd ?_
    rw [hv]
    exact h.2 ρ H locs Ls (I.stk (am_all1 hok (am_tl I.sok)))
  · exact h.elim
theorem sm_putfield {idx c k : Nat} {ii : Bool} (C : am_Cx X Y cc ow) (hd : decode cc pc = .ok (.putfield idx, 3)) (hf : (ow, idx, c, k) ∈ am_fl) (hc : c < 12) (hk : k < am_nf c) (hfin : (am_T c k).2.2.2 = false ∨ (ii = true ∧ am_vo c = ow)) (hii : ii = true → X.2.1.2.2.2.1.name = "<init>")
    {v : am_V} {o : Nat} {r : List am_V} {σ' : am_S} (hly : am_ly o = (0, c)) (hn : σ'.1 = σ.1) (hvv : (am_fk c k = 2 ∧ ∃ p, v = am_r p ∧ p ≠ 0 ∧ σ' = (σ.1, am_up σ.2.1 o (k : Int) p, σ.2.2)) ∨ (am_fk c k ≠ 2 ∧ ∃ n, v = am_i n ∧ (am_fk c k = 1 → n = 0 ∨ n = 1) ∧ σ' = (σ.1, σ.2.1, am_up σ.2.2 o (k : Int) n)))
    (h : am_Kp X Y (pc + 3) ls r σ') : am_Kp X Y pc ls (v :: am_r o :: r) σ := by
  refine ⟨by rw [← hn]; exact h.1, fun ρ H locs Ls I => ?_⟩
  have h3 : 3 ≤ o := am_ly3 (by rw [hly]; exact Nat.zero_lt_succ _)
  have ho : o < σ.1 := am_hd (am_tl I.sok)
  have hg : am_rg σ := I.2.2.2.2.2.1
  have e0 : am_tov ρ (am_r o) = .ref (ρ o) := if_neg (by omega)
  show am_W X H locs _ _ (F0 _ pc Ls (am_tov ρ v :: am_tov ρ (am_r o) :: _))
  rw [e0]
  have hN : k < (am_vc c).2.2 := by rw [← (am_vo_ok c hc).2.1]; exact hk
  have hvo : am_ok σ.1 v := am_hd I.sok
  have hvf : am_fe ρ σ' o c k = am_tov ρ v := by
    rcases hvv with ⟨h1, p, rfl, hp, rfl⟩ | ⟨h1, n, rfl, -, rfl⟩
    · unfold am_fe
      rw [if_pos h1]
      show va_rf (am_rv ρ (am_up σ.2.1 o k p o k)) = _
      rw [am_up_eq, show am_uf (σ.2.1 o) (k : Int) p (k : Int) = p from if_pos rfl]
      show va_rf (if p = 0 then none else some (ρ p)) = if p = 0 then .null else .ref (ρ p)
      rw [if_neg hp, if_neg hp]; rfl
    · unfold am_fe
      rw [if_neg h1]
      show Value.int (Int32.ofInt (am_up σ.2.2 o k n o k)) = _
      rw [am_up_eq, show am_uf (σ.2.2 o) (k : Int) n (k : Int) = n from if_pos rfl]
      rfl
  have hoth : ∀ j, j ≠ k → am_fe ρ σ' o c j = am_fe ρ σ o c j := by
    intro j hj
    rcases hvv with ⟨h1, p, -, -, rfl⟩ | ⟨h1, n, -, -, rfl⟩
    · unfold am_fe
      show (if am_fk c j = 2 then va_rf (am_rv ρ (am_up σ.2.1 o k p o j)) else _) = _
      rw [am_up_eq, show am_uf (σ.2.1 o) (k : Int) p (j : Int) = σ.2.1 o j from if_neg (by omega)]
    · unfold am_fe
      show (if am_fk c j = 2 then _ else Value.int (Int32.ofInt (am_up σ.2.2 o k n o j))) = _
      rw [am_up_eq, show am_uf (σ.2.2 o) (k : Int) n (j : Int) = σ.2.2 o j from if_neg (by omega)]
  have hfit : narrow (am_tyc c k) (am_tov ρ v) = am_tov ρ v ∧ fits (am_tyc c k) (am_tov ρ v) = true := by
    rcases hvv with ⟨h1, p, rfl, hp, -⟩ | ⟨h1, n, rfl, hb, -⟩
    · rcases am_fk_ty c hc k hk with ⟨q, -⟩ | ⟨q, -⟩ | ⟨-, q⟩
      · omega
      · omega
      · rw [show am_tov ρ (am_r p) = .ref (ρ p) from if_neg hp]
        generalize am_tyc c k = ty at q
        cases ty <;> first | exact ⟨rfl, rfl⟩ | exact absurd q (by simp [am_rty])
    · rcases am_fk_ty c hc k hk with ⟨q, q2⟩ | ⟨q, q2⟩ | ⟨q, -⟩
      · rw [q2]; exact ⟨rfl, rfl⟩
      · rw [q2]
        refine ⟨?_, ?_⟩
        · show Value.int (Int32.ofInt n &&& 1) = _
          rw [am_bool (hb q)]; rfl
        · rcases hb q with rfl | rfl <;> rfl
      · exact absurd q h1
  have hrg : am_rg σ' := by
    rcases hvv with ⟨h1, p, rfl, hp, rfl⟩ | ⟨h1, n, rfl, hb, rfl⟩
    · exact am_rgP hg hvo
    · refine am_rgH hg ?_
      unfold am_bd
      rw [hly, if_pos rfl]
      split
      · rename_i q
        rcases hb q with rfl | rfl <;> exact ⟨by decide, by decide⟩
      · exact hvo
  have hPo : ∀ o', o' ≠ o → σ'.2.1 o' = σ.2.1 o' := by
    intro o' h'
    rcases hvv with ⟨-, p, -, -, rfl⟩ | ⟨-, n, -, -, rfl⟩
    · exact am_up_ne h'
    · rfl
  have hHo : ∀ o', o' ≠ o → σ'.2.2 o' = σ.2.2 o' := by
    intro o' h'
    rcases hvv with ⟨-, p, -, -, rfl⟩ | ⟨-, n, -, -, rfl⟩
    · rfl
    · exact am_up_ne h'
  have hws : (am_ws Y.1.2.1 ρ σ).set (o - 3) (ρ o, .inr (c, (am_fs ρ σ o c).set k (am_tov ρ v))) = am_ws Y.1.2.1 ρ σ' := by
    rw [am_fs_set hk hvf hoth, ← am_ce0 (G := Y.1.2.1) hly]
    exact am_ws_set h3 ho hn hPo hHo
  have go : ∀ (H1 : Heap) (locs1 : List Loc), va_P Y.1.1 vwCl ((am_ws Y.1.2.1 ρ σ).set (o - 3) (ρ o, .inr (c, (am_fs ρ σ o c).set k (am_tov ρ v)))) H1 → va_D Y.1.2.2 ((am_ws Y.1.2.1 ρ σ).set (o - 3) (ρ o, .inr (c, (am_fs ρ σ o c).set k (am_tov ρ v)))) → va_S Y.1.2.2 X.1.2.2.2.2.heap H1 locs1 → am_W X H1 locs1 (σ.1 - Y.2.1.2.1.1) (am_ss σ.1 - am_ss Y.2.1.2.1.1) (F0 X.2.1.1 (pc + 3) Ls (r.map (am_tov ρ))) := by
    intro H1 locs1 hP hD hS
    rw [hws] at hP hD
    have k1 := h.2 ρ H1 locs1 Ls (I.hp hn hP hD hS hrg ⟨hHo 2 (by omega), hHo 0 (by omega)⟩ (am_tl (am_tl I.sok)))
    rw [hn] at k1
    exact k1
  rcases hfin with q | ⟨q1, q2⟩
  · exact va_put C.1 C.2.1 C.2.2.2.2.1 (am_co_all c hc).1 (am_tyc c) (am_ty_all c hc) (am_co_all c hc).2.2.2 C.2.2.2.1 C.2.2.2.2.2.1.1 I.1 I.2.1 I.2.2.1 (o - 3) (by rw [am_ws_at h3 ho, am_ce0 hly]) (am_vc_at hc) k hN (C.2.2.2.2.1 _ (am_fl_ok _ hf)) (fun _ z => z) q (am_ty_all c hc k hN) hfit.1 hfit.2 (by rw [am_fs_len]; exact hk) hd go
  · cases hq : (am_T c k).2.2.2 with
    | false => exact va_put C.1 C.2.1 C.2.2.2.2.1 (am_co_all c hc).1 (am_tyc c) (am_ty_all c hc) (am_co_all c hc).2.2.2 C.2.2.2.1 C.2.2.2.2.2.1.1 I.1 I.2.1 I.2.2.1 (o - 3) (by rw [am_ws_at h3 ho, am_ce0 hly]) (am_vc_at hc) k hN (C.2.2.2.2.1 _ (am_fl_ok _ hf)) (fun _ z => z) hq (am_ty_all c hc k hN) hfit.1 hfit.2 (by rw [am_fs_len]; exact hk) hd go
    | true => exact va_putF C.1 C.2.1 C.2.2.2.2.1 (am_co_all c hc).1 (am_tyc c) (am_ty_all c hc) (am_co_all c hc).2.2.2 C.2.2.2.1 C.2.2.2.2.2.1.1 I.1 I.2.1 I.2.2.1 (o - 3) (by rw [am_ws_at h3 ho, am_ce0 hly]) (am_vc_at hc) k hN (C.2.2.2.2.1 _ (am_fl_ok _ hf)) (fun _ z => z) hq (hii q1) (by rw [← q2]; exact (am_vo_ok c hc).2.2 k hN) (am_ty_all c hc k hN) hfit.1 hfit.2 (by rw [am_fs_len]; exact hk) hd go
theorem sm_getstatic {idx : Nat} (C : am_Cx X Y cc ow) (hd : decode cc pc = .ok (.getstatic idx, 3)) (hf : (ow, idx) ∈ am_gs) (h : am_Kp X Y (pc + 3) ls (am_r 1 :: st) σ) : am_Kp X Y pc ls st σ := by
  refine ⟨h.1, fun ρ H locs Ls I => ?_⟩
  have hw : va_Nw (Cond.fieldLinkNest (am_own ow) idx RX11 "TENS" "[I" RX11) X.1.2.2.2.2 := C.2.2.2.2.2.1.2.1 _ (List.mem_append_right _ (List.mem_map.mpr ⟨(ow, idx), hf, rfl⟩))
  have hρ : ρ 1 = Y.2.2.1 := by rw [I.2.2.2.1 1 (Nat.lt_of_lt_of_le (by decide) C.2.2.2.2.2.2.2.2.1.2.2)]; exact C.2.2.2.2.2.2.2.2.1.1
  have hg : am_rg σ := I.2.2.2.2.2.1
  refine va_getsN C.1 C.2.1 C.2.2.2.2.2.2.1.1 I.2.2.1 C.2.2.2.1 (va_Nw.use rfl hw) (fun _ z => z) hd ?_
  have k := h.2 ρ H locs Ls (I.stk (am_all1 (show 1 < σ.1 from Nat.lt_of_lt_of_le (by decide) hg.2.2) I.sok))
  rw [List.map_cons, show am_tov ρ (am_r 1) = .ref (ρ 1) from rfl, hρ] at k
  exact k
theorem am_bdI {o : Nat} {k : Int} {j : Nat} (h : (am_ly o).1 = j) (h0 : j ≠ 0) (h2 : j ≠ 2) : -2147483648 ≤ (am_bd o k).1 ∧ (am_bd o k).2 ≤ 2147483648 := by
  unfold am_bd
  rw [h, if_neg h0, if_neg h2]
  split
  · exact ⟨by decide, by decide⟩
  · split <;> exact ⟨by decide, by decide⟩
theorem am_bd2 {o : Nat} {k : Int} (h : (am_ly o).1 = 2) : am_bd o k = (-9223372036854775808, 9223372036854775808) := by
  unfold am_bd
  rw [h, if_neg (by decide), if_pos rfl]
theorem am_elI {σ : am_S} (hg : am_rg σ) {o j : Nat} {k : Int} (h : (am_ly o).1 = j) (h0 : j ≠ 0) (h2 : j ≠ 2) : -2147483648 ≤ σ.2.2 o k ∧ σ.2.2 o k < 2147483648 := by
  have h1 := hg.1 o k
  have h3 := am_bdI (k := k) h h0 h2
  exact ⟨by omega, by omega⟩
theorem am_tn_r (k : Nat) : -2147483648 ≤ am_tn k ∧ am_tn k < 2147483648 := by
  unfold am_tn
  split <;> exact ⟨by decide, by decide⟩
theorem sm_iaload (C : am_Cx X Y cc ow) (hd : decode cc pc = .ok (.iaload, 1)) (h : am_pa st (fun o j st => (((am_ly o).1 = 1 ∨ (am_ly o).1 = 11 ∨ (am_ly o).1 = 12) ∧ 0 ≤ j ∧ j < am_len σ o) ∧ am_Kp X Y (pc + 1) ls (am_i (am_rd σ o j) :: st) σ)) : am_Kp X Y pc ls st σ := by
  unfold am_pa at h
  split at h
  · rename_i j o r
    obtain ⟨⟨hk, h0, h1⟩, h⟩ := h
    refine ⟨h.1, fun ρ H locs Ls I => ?_⟩
    have hj : -2147483648 ≤ j ∧ j < 2147483648 := am_hd I.sok
    have ho : o < σ.1 := am_hd (am_tl I.sok)
    have hg : am_rg σ := I.2.2.2.2.2.1
    have hρ := I.2.2.2.1
    have h3 := C.2.2.2.2.2.2.2.2.1.2.2
    rcases hk with hk | hk | hk
    · have h3 : 3 ≤ o := am_ly3 (by rw [hk]; decide)
      have hjj : ((j.toNat : Nat) : Int) = j := Int.toNat_of_nonneg h0
      have hr : am_rd σ o j = σ.2.2 o j := if_neg (by omega)
      have hl : am_len σ o = ((am_ly o).2 : Int) := if_neg (by omega)
      rw [hl] at h1
      have k := h.2 ρ H locs Ls (I.stk (am_all1 (show _ ∧ _ by rw [hr]; exact am_elI hg hk (by decide) (by decide)) (am_tl (am_tl I.sok))))
      show am_W X H locs _ _ (F0 _ pc Ls (Value.int (Int32.ofInt j) :: am_tov ρ (am_r o) :: _))
      rw [show am_tov ρ (am_r o) = .ref (ρ o) from if_neg (by omega)]
      refine va_iald C.1 C.2.1 C.2.2.2.2.2.1.1 I.1 (o - 3) 0 (by rw [am_ws_at h3 ho, am_ceA hk (by decide) (by decide) (by decide)]) rfl (am_vpin hj h0 h1) hd ?_
      rw [am_clamp hj]
      simp only [List.map_cons, am_tov, hr] at k
      simp only [hjj]
      exact k
    · have ho1 := am_ly11 hk
      subst ho1
      have hr : am_rd σ 1 j = am_tn j.toNat := rfl
      have k := h.2 ρ H locs Ls (I.stk (am_all1 (show _ ∧ _ by rw [hr]; exact am_tn_r _) (am_tl (am_tl I.sok))))
      show am_W X H locs _ _ (F0 _ pc Ls (Value.int (Int32.ofInt j) :: Value.ref (ρ 1) :: _))
      rw [hρ 1 (Nat.lt_of_lt_of_le (by decide) h3), C.2.2.2.2.2.2.2.2.1.1]
      refine va_ti C.1 C.2.1 C.2.2.2.2.2.2.1.2.1 I.2.2.1 (am_vpin hj h0 h1) (by rw [am_clamp hj]) hd ?_
      simp only [List.map_cons, am_tov, hr] at k
      exact k
    · have ho1 := am_ly12 hk
      subst ho1
      have hjj : ((j.toNat : Nat) : Int) = j := Int.toNat_of_nonneg h0
      have hr : am_rd σ 2 j = σ.2.2 2 j := rfl
      have hl : am_len σ 2 = σ.2.2 0 0 := rfl
      obtain ⟨g1, g2, g3⟩ := C.2.2.2.2.2.2.2.2.2.1
      obtain ⟨e2, e3⟩ := I.2.2.2.2.2.2.1
      rw [hl, e3, g1] at h1
      have hx := g3 j.toNat (by omega)
      rw [← e2, hjj] at hx
      have k := h.2 ρ H locs Ls (I.stk (am_all1 (show _ ∧ _ by rw [hr]; exact am_elI hg hk (by decide) (by decide)) (am_tl (am_tl I.sok))))
      show am_W X H locs _ _ (F0 _ pc Ls (Value.int (Int32.ofInt j) :: Value.ref (ρ 2) :: _))
      rw [hρ 2 (Nat.lt_of_lt_of_le (by decide) h3), C.2.2.2.2.2.2.2.2.1.2.1]
      refine va_sld C.1 C.2.1 C.2.2.2.2.2.2.1.2.2.1 C.2.2.2.2.2.2.1.2.2.2.1 C.2.2.2.2.2.2.1.2.2.2.2 I.2.2.1 (am_vpin hj h0 h1) hd ?_
      rw [am_clamp hj]
      simp only [List.map_cons, am_tov, hr, hx, am_of32] at k
      exact k
  · exact h.elim
theorem sm_laload (C : am_Cx X Y cc ow) (hd : decode cc pc = .ok (.laload, 1)) (h : am_pa st (fun o j st => am_in 2 o j ∧ am_Kp X Y (pc + 1) ls (am_l (σ.2.2 o j) :: st) σ)) : am_Kp X Y pc ls st σ := by
  unfold am_pa at h
  split at h
  · rename_i j o r
    obtain ⟨⟨hk, h0, h1⟩, h⟩ := h
    refine ⟨h.1, fun ρ H locs Ls I => ?_⟩
    have hj : -2147483648 ≤ j ∧ j < 2147483648 := am_hd I.sok
    have ho : o < σ.1 := am_hd (am_tl I.sok)
    have hg : am_rg σ := I.2.2.2.2.2.1
    have h3 : 3 ≤ o := am_ly3 (by rw [hk]; decide)
    have k := h.2 ρ H locs Ls (I.stk (am_all1 (show _ ∧ _ by have := hg.1 o j; rw [am_bd2 hk] at this; exact this) (am_tl (am_tl I.sok))))
    show am_W X H locs _ _ (F0 _ pc Ls (Value.int (Int32.ofInt j) :: am_tov ρ (am_r o) :: _))
    rw [show am_tov ρ (am_r o) = .ref (ρ o) from if_neg (by omega)]
    refine va_lald C.1 C.2.1 C.2.2.2.2.2.1.1 I.1 (o - 3) 1 (by rw [am_ws_at h3 ho, am_ceL hk]) rfl (am_vpin hj h0 h1) hd ?_
    rw [am_clamp hj]
    simp only [Int.toNat_of_nonneg h0]
    exact k
  · exact h.elim
theorem sm_baload (C : am_Cx X Y cc ow) (hd : decode cc pc = .ok (.baload, 1)) (h : am_pa st (fun o j st => (am_in 3 o j ∨ am_in 4 o j) ∧ am_Kp X Y (pc + 1) ls (am_i (σ.2.2 o j) :: st) σ)) : am_Kp X Y pc ls st σ := by
  unfold am_pa at h
  split at h
  · rename_i j o r
    obtain ⟨hq, h⟩ := h
    refine ⟨h.1, fun ρ H locs Ls I => ?_⟩
    have hj : -2147483648 ≤ j ∧ j < 2147483648 := am_hd I.sok
    have ho : o < σ.1 := am_hd (am_tl I.sok)
    have hg : am_rg σ := I.2.2.2.2.2.1
    rcases hq with ⟨hk, h0, h1⟩ | ⟨hk, h0, h1⟩
    · have h3 : 3 ≤ o := am_ly3 (by rw [hk]; decide)
      have k := h.2 ρ H locs Ls (I.stk (am_all1 (show _ ∧ _ from am_elI hg hk (by decide) (by decide)) (am_tl (am_tl I.sok))))
      show am_W X H locs _ _ (F0 _ pc Ls (Value.int (Int32.ofInt j) :: am_tov ρ (am_r o) :: _))
      rw [show am_tov ρ (am_r o) = .ref (ρ o) from if_neg (by omega)]
      refine va_bald C.1 C.2.1 C.2.2.2.2.2.1.1 I.1 (o - 3) 2 (by rw [am_ws_at h3 ho, am_ceA hk (by decide) (by decide) (by decide)]) rfl (am_vpin hj h0 h1) hd ?_
      rw [am_clamp hj]
      simp only [Int.toNat_of_nonneg h0]
      exact k
    · have h3 : 3 ≤ o := am_ly3 (by rw [hk]; decide)
      have k := h.2 ρ H locs Ls (I.stk (am_all1 (show _ ∧ _ from am_elI hg hk (by decide) (by decide)) (am_tl (am_tl I.sok))))
      show am_W X H locs _ _ (F0 _ pc Ls (Value.int (Int32.ofInt j) :: am_tov ρ (am_r o) :: _))
      rw [show am_tov ρ (am_r o) = .ref (ρ o) from if_neg (by omega)]
      refine va_zald C.1 C.2.1 C.2.2.2.2.2.1.1 I.1 (o - 3) 3 (by rw [am_ws_at h3 ho, am_ceA hk (by decide) (by decide) (by decide)]) rfl (am_vpin hj h0 h1) hd ?_
      rw [am_clamp hj]
      simp only [Int.toNat_of_nonneg h0]
      exact k
  · exact h.elim
theorem sm_aaload (C : am_Cx X Y cc ow) (hd : decode cc pc = .ok (.aaload, 1)) (h : am_pa st (fun o j st => am_in 5 o j ∧ am_Kp X Y (pc + 1) ls (am_r (σ.2.1 o j) :: st) σ)) : am_Kp X Y pc ls st σ := by
  unfold am_pa at h
  split at h
  · rename_i j o r
    obtain ⟨⟨hk, h0, h1⟩, h⟩ := h
    refine ⟨h.1, fun ρ H locs Ls I => ?_⟩
    have hj : -2147483648 ≤ j ∧ j < 2147483648 := am_hd I.sok
    have ho : o < σ.1 := am_hd (am_tl I.sok)
    have hg : am_rg σ := I.2.2.2.2.2.1
    have h3 : 3 ≤ o := am_ly3 (by rw [hk]; decide)
    have k := h.2 ρ H locs Ls (I.stk (am_all1 (show σ.2.1 o j < σ.1 from hg.2.1 _ _) (am_tl (am_tl I.sok))))
    show am_W X H locs _ _ (F0 _ pc Ls (Value.int (Int32.ofInt j) :: am_tov ρ (am_r o) :: _))
    rw [show am_tov ρ (am_r o) = .ref (ρ o) from if_neg (by omega)]
    refine va_aldq C.1 C.2.1 C.2.2.2.2.2.1.1 I.1 (o - 3) 4 (by rw [am_ws_at h3 ho, am_ceR hk]) rfl (am_vpin hj h0 h1) hd ?_
    rw [am_clamp hj]
    simp only [Int.toNat_of_nonneg h0]
    rw [show va_rf (am_rv ρ (σ.2.1 o j)) = am_tov ρ (am_r (σ.2.1 o j)) from am_rf_tov]
    exact k
  · exact h.elim
theorem am_updI {g : Int → Int} {j n : Int} (h0 : 0 ≤ j) : upd (fun k : Nat => Int32.ofInt (g k)) j.toNat (Int32.ofInt n) = fun k : Nat => Int32.ofInt (am_uf g j n k) := by
  funext k
  unfold upd am_uf
  by_cases h : k = j.toNat
  · rw [if_pos h, if_pos (by omega)]
  · rw [if_neg h, if_neg (by omega)]
theorem am_stI {j : Nat} (hj1 : j ≠ 0) (hj2 : j ≠ 2) (hj5 : j ≠ 5) {G : Nat → ClassId} {ρ : Nat → Nat} {o : Nat} {k n : Int} (h0 : 0 ≤ k) (hk : (am_ly o).1 = j) (h3 : 3 ≤ o) (ho : o < σ.1) :
    (am_ws G ρ σ).set (o - 3) (ρ o, .inl (G j, (am_ly o).2, .inl (upd (fun k : Nat => Int32.ofInt (σ.2.2 o k)) k.toNat (Int32.ofInt n)))) = am_ws G ρ (σ.1, σ.2.1, am_up σ.2.2 o k n) := by
  rw [← am_ws_set (σ' := (σ.1, σ.2.1, am_up σ.2.2 o k n)) h3 ho rfl (fun _ _ => rfl) (fun _ h => am_up_ne h), am_ceA (σ := (σ.1, σ.2.1, am_up σ.2.2 o k n)) hk hj1 hj2 hj5, am_updI h0]
  simp only [am_up_eq]
theorem sm_iastore (C : am_Cx X Y cc ow) (hd : decode cc pc = .ok (.iastore, 1)) (h : am_pva st (fun o j v r => am_vi v (fun n => am_in 1 o j ∧ am_Kp X Y (pc + 1) ls r (σ.1, σ.2.1, am_up σ.2.2 o j n)))) : am_Kp X Y pc ls st σ := by
  unfold am_pva at h
  split at h
  · rename_i v j o r
    rcases v with n | n | n
    · obtain ⟨⟨hk, h0, h1⟩, h⟩ := h
      refine ⟨h.1, fun ρ H locs Ls I => ?_⟩
      have hn : -2147483648 ≤ n ∧ n < 2147483648 := am_hd I.sok
      have hj : -2147483648 ≤ j ∧ j < 2147483648 := am_hd (am_tl I.sok)
      have ho : o < σ.1 := am_hd (am_tl (am_tl I.sok))
      have hg : am_rg σ := I.2.2.2.2.2.1
      have h3 : 3 ≤ o := am_ly3 (by rw [hk]; decide)
      show am_W X H locs _ _ (F0 _ pc Ls (Value.int (Int32.ofInt n) :: Value.int (Int32.ofInt j) :: am_tov ρ (am_r o) :: _))
      rw [show am_tov ρ (am_r o) = .ref (ρ o) from if_neg (by omega)]
      refine va_iast C.1 C.2.1 C.2.2.2.2.2.1.1 I.1 I.2.1 I.2.2.1 (o - 3) 0 (by rw [am_ws_at h3 ho, am_ceA hk (by decide) (by decide) (by decide)]) rfl (am_vpin hj h0 h1) hd (fun H1 locs1 hP hD hS => ?_)
      rw [am_clamp hj, am_stI (by decide) (by decide) (by decide) h0 hk h3 ho] at hP hD
      exact h.2 ρ H1 locs1 Ls (I.hp rfl hP hD hS (am_rgH hg (by have := hn; unfold am_bd; rw [hk]; exact this)) ⟨am_up_ne (by omega), am_up_ne (by omega)⟩ (am_tl (am_tl (am_tl I.sok))))
    · exact h.elim
    · exact h.elim
  · exact h.elim
theorem sm_bastore (C : am_Cx X Y cc ow) (hd : decode cc pc = .ok (.bastore, 1)) (h : am_pva st (fun o j v r => am_vi v (fun n => (am_in 3 o j ∨ (am_in 4 o j ∧ (n = 0 ∨ n = 1))) ∧ am_Kp X Y (pc + 1) ls r (σ.1, σ.2.1, am_up σ.2.2 o j (w8 n))))) : am_Kp X Y pc ls st σ := by
  unfold am_pva at h
  split at h
  · rename_i v j o r
    rcases v with n | n | n
    · obtain ⟨hq, h⟩ := h
      refine ⟨h.1, fun ρ H locs Ls I => ?_⟩
      have hn : -2147483648 ≤ n ∧ n < 2147483648 := am_hd I.sok
      have hj : -2147483648 ≤ j ∧ j < 2147483648 := am_hd (am_tl I.sok)
      have ho : o < σ.1 := am_hd (am_tl (am_tl I.sok))
      have hg : am_rg σ := I.2.2.2.2.2.1
      have hw := am_w8r n
      rcases hq with ⟨hk, h0, h1⟩ | ⟨⟨hk, h0, h1⟩, hb⟩
      · have h3 : 3 ≤ o := am_ly3 (by rw [hk]; decide)
        show am_W X H locs _ _ (F0 _ pc Ls (Value.int (Int32.ofInt n) :: Value.int (Int32.ofInt j) :: am_tov ρ (am_r o) :: _))
        rw [show am_tov ρ (am_r o) = .ref (ρ o) from if_neg (by omega)]
        refine va_bast C.1 C.2.1 C.2.2.2.2.2.1.1 I.1 I.2.1 I.2.2.1 (o - 3) 2 (by rw [am_ws_at h3 ho, am_ceA hk (by decide) (by decide) (by decide)]) rfl (am_vpin hj h0 h1) hd (fun H1 locs1 hP hD hS => ?_)
        rw [am_clamp hj, vp_nar_byte, am_i2b, am_stI (by decide) (by decide) (by decide) h0 hk h3 ho] at hP hD
        exact h.2 ρ H1 locs1 Ls (I.hp rfl hP hD hS (am_rgH hg (by unfold am_bd; rw [hk]; exact hw)) ⟨am_up_ne (by omega), am_up_ne (by omega)⟩ (am_tl (am_tl (am_tl I.sok))))
      · have h3 : 3 ≤ o := am_ly3 (by rw [hk]; decide)
        have e8 : w8 n = n := by rcases hb with rfl | rfl <;> rfl
        rw [e8] at h
        show am_W X H locs _ _ (F0 _ pc Ls (Value.int (Int32.ofInt n) :: Value.int (Int32.ofInt j) :: am_tov ρ (am_r o) :: _))
        rw [show am_tov ρ (am_r o) = .ref (ρ o) from if_neg (by omega)]
        refine va_zast C.1 C.2.1 C.2.2.2.2.2.1.1 I.1 I.2.1 I.2.2.1 (o - 3) 3 (by rw [am_ws_at h3 ho, am_ceA hk (by decide) (by decide) (by decide)]) rfl (am_vpin hj h0 h1) hd (fun H1 locs1 hP hD hS => ?_)
        have ez : vp_nar .boolean (Int32.ofInt n) = Int32.ofInt n := am_bool hb
        rw [am_clamp hj, ez, am_stI (by decide) (by decide) (by decide) h0 hk h3 ho] at hP hD
        exact h.2 ρ H1 locs1 Ls (I.hp rfl hP hD hS (am_rgH hg (by rw [show am_bd o j = (0, 2) by unfold am_bd; rw [hk]; rfl]; rcases hb with rfl | rfl <;> exact ⟨by decide, by decide⟩)) ⟨am_up_ne (by omega), am_up_ne (by omega)⟩ (am_tl (am_tl (am_tl I.sok))))
    · exact h.elim
    · exact h.elim
  · exact h.elim
theorem sm_lastore (C : am_Cx X Y cc ow) (hd : decode cc pc = .ok (.lastore, 1)) (h : am_pva st (fun o j v r => am_vl v (fun n => am_in 2 o j ∧ am_Kp X Y (pc + 1) ls r (σ.1, σ.2.1, am_up σ.2.2 o j n)))) : am_Kp X Y pc ls st σ := by
  unfold am_pva at h
  split at h
  · rename_i v j o r
    rcases v with n | n | n
    · exact h.elim
    · obtain ⟨⟨hk, h0, h1⟩, h⟩ := h
      refine ⟨h.1, fun ρ H locs Ls I => ?_⟩
      have hn : -9223372036854775808 ≤ n ∧ n < 9223372036854775808 := am_hd I.sok
      have hj : -2147483648 ≤ j ∧ j < 2147483648 := am_hd (am_tl I.sok)
      have ho : o < σ.1 := am_hd (am_tl (am_tl I.sok))
      have hg : am_rg σ := I.2.2.2.2.2.1
      have h3 : 3 ≤ o := am_ly3 (by rw [hk]; decide)
      show am_W X H locs _ _ (F0 _ pc Ls (Value.long (Int64.ofInt n) :: Value.int (Int32.ofInt j) :: am_tov ρ (am_r o) :: _))
      rw [show am_tov ρ (am_r o) = .ref (ρ o) from if_neg (by omega)]
      refine va_last C.1 C.2.1 C.2.2.2.2.2.1.1 I.1 I.2.1 I.2.2.1 (o - 3) 1 (by rw [am_ws_at h3 ho, am_ceL hk]) rfl (am_vpin hj h0 h1) hd (fun H1 locs1 hP hD hS => ?_)
      have hws : (am_ws Y.1.2.1 ρ σ).set (o - 3) (ρ o, .inl (Y.1.2.1 2, (am_ly o).2, .inr (.inl (vp_updL (fun k : Nat => Int64.ofInt (σ.2.2 o k)) j.toNat (Int64.ofInt n))))) = am_ws Y.1.2.1 ρ (σ.1, σ.2.1, am_up σ.2.2 o j n) := by
        rw [← am_ws_set (σ' := (σ.1, σ.2.1, am_up σ.2.2 o j n)) h3 ho rfl (fun _ _ => rfl) (fun _ h => am_up_ne h), am_ceL (σ := (σ.1, σ.2.1, am_up σ.2.2 o j n)) hk]
        have : vp_updL (fun k : Nat => Int64.ofInt (σ.2.2 o k)) j.toNat (Int64.ofInt n) = fun k : Nat => Int64.ofInt (am_up σ.2.2 o j n o k) := by
          funext k
          rw [am_up_eq]
          unfold vp_updL am_uf
          by_cases h : k = j.toNat
          · rw [if_pos h, if_pos (by omega)]
          · rw [if_neg h, if_neg (by omega)]
        rw [this]
      rw [am_clamp hj, hws] at hP hD
      exact h.2 ρ H1 locs1 Ls (I.hp rfl hP hD hS (am_rgH hg (by rw [am_bd2 hk]; exact hn)) ⟨am_up_ne (by omega), am_up_ne (by omega)⟩ (am_tl (am_tl (am_tl I.sok))))
    · exact h.elim
  · exact h.elim
theorem sm_aastore (C : am_Cx X Y cc ow) (hd : decode cc pc = .ok (.aastore, 1)) (h : am_pva st (fun o j v r => am_vr v (fun p => (am_in 5 o j ∧ am_ly p = (0, 8)) ∧ am_Kp X Y (pc + 1) ls r (σ.1, am_up σ.2.1 o j p, σ.2.2)))) : am_Kp X Y pc ls st σ := by
  unfold am_pva at h
  split at h
  · rename_i v j o r
    rcases v with n | n | p
    · exact h.elim
    · exact h.elim
    · obtain ⟨⟨⟨hk, h0, h1⟩, hp⟩, h⟩ := h
      refine ⟨h.1, fun ρ H locs Ls I => ?_⟩
      have hpo : p < σ.1 := am_hd I.sok
      have hj : -2147483648 ≤ j ∧ j < 2147483648 := am_hd (am_tl I.sok)
      have ho : o < σ.1 := am_hd (am_tl (am_tl I.sok))
      have hg : am_rg σ := I.2.2.2.2.2.1
      have h3 : 3 ≤ o := am_ly3 (by rw [hk]; decide)
      have hp3 : 3 ≤ p := am_ly3 (by rw [hp]; exact Nat.zero_lt_succ _)
      show am_W X H locs _ _ (F0 _ pc Ls (am_tov ρ (am_r p) :: Value.int (Int32.ofInt j) :: am_tov ρ (am_r o) :: _))
      rw [show am_tov ρ (am_r o) = .ref (ρ o) from if_neg (by omega), show am_tov ρ (am_r p) = .ref (ρ p) from if_neg (by omega)]
      refine va_astq (r := ((am_vc 8).1, (am_vc 8).2.1, (am_vc 8).2.2)) C.1 C.2.1 C.2.2.2.2.2.1.1 I.1 I.2.1 I.2.2.1 (o - 3) 4 (p - 3) 8 (by rw [am_ws_at h3 ho, am_ceR hk]) rfl (by rw [am_ws_at hp3 hpo, am_ce0 hp]) (am_vc_at (by decide)) (am_vpin hj h0 h1) hd (fun H1 locs1 hP hD hS => ?_)
      have hws : (am_ws Y.1.2.1 ρ σ).set (o - 3) (ρ o, .inl (Y.1.2.1 5, (am_ly o).2, .inr (.inr (.inr (.inr (va_up (fun k : Nat => am_rv ρ (σ.2.1 o k)) j.toNat (some (ρ p)))))))) = am_ws Y.1.2.1 ρ (σ.1, am_up σ.2.1 o j p, σ.2.2) := by
        rw [← am_ws_set (σ' := (σ.1, am_up σ.2.1 o j p, σ.2.2)) h3 ho rfl (fun _ h => am_up_ne h) (fun _ _ => rfl), am_ceR (σ := (σ.1, am_up σ.2.1 o j p, σ.2.2)) hk]
        have : va_up (fun k : Nat => am_rv ρ (σ.2.1 o k)) j.toNat (some (ρ p)) = fun k : Nat => am_rv ρ (am_up σ.2.1 o j p o k) := by
          funext k
          rw [am_up_eq]
          unfold va_up am_uf
          by_cases h : k = j.toNat
          · rw [if_pos h, if_pos (by omega)]
            unfold am_rv; rw [if_neg (by omega)]
          · rw [if_neg h, if_neg (by omega)]
        rw [this]
      rw [am_clamp hj, hws] at hP hD
      exact h.2 ρ H1 locs1 Ls (I.hp rfl hP hD hS (am_rgP hg hpo) ⟨rfl, rfl⟩ (am_tl (am_tl (am_tl I.sok))))
  · exact h.elim
theorem sm_alen (C : am_Cx X Y cc ow) (hd : decode cc pc = .ok (.arraylength, 1)) (h : am_pr st (fun o st => ((am_ly o).1 = 1 ∨ (am_ly o).1 = 2 ∨ (am_ly o).1 = 11 ∨ (am_ly o).1 = 12) ∧ am_Kp X Y (pc + 1) ls (am_i (am_len σ o) :: st) σ)) (hsm : ∀ o, (am_ly o).2 < 1000000) : am_Kp X Y pc ls st σ := by
  unfold am_pr at h
  split at h
  · rename_i o r
    obtain ⟨hq, h⟩ := h
    refine ⟨h.1, fun ρ H locs Ls I => ?_⟩
    have ho : o < σ.1 := am_hd I.sok
    have hg : am_rg σ := I.2.2.2.2.2.1
    have hρ := I.2.2.2.1
    have h3 := C.2.2.2.2.2.2.2.2.1.2.2
    have hso := hsm o
    have fin : ∀ {L : Int}, am_len σ o = L → (-2147483648 ≤ L ∧ L < 2147483648) → am_W X H locs (σ.1 - Y.2.1.2.1.1) (am_ss σ.1 - am_ss Y.2.1.2.1.1) (F0 X.2.1.1 (pc + 1) Ls (Value.int (Int32.ofInt L) :: r.map (am_tov ρ))) := by
      intro L hL hr
      have k := h.2 ρ H locs Ls (I.stk (am_all1 (show _ ∧ _ by rw [hL]; exact hr) (am_tl I.sok)))
      simp only [List.map_cons, am_tov, hL] at k
      exact k
    rcases hq with hk | hk | hk | hk
    · have h3 : 3 ≤ o := am_ly3 (by rw [hk]; decide)
      show am_W X H locs _ _ (F0 _ pc Ls (am_tov ρ (am_r o) :: _))
      rw [show am_tov ρ (am_r o) = .ref (ρ o) from if_neg (by omega)]
      exact va_alen C.1 C.2.1 C.2.2.2.2.2.1.1 I.1 (o - 3) 0 (by rw [am_ws_at h3 ho, am_ceA hk (by decide) (by decide) (by decide)]) rfl (by rw [← Int32.ofInt_eq_ofNat]) hd (fin (if_neg (by omega)) (by omega))
    · have h3 : 3 ≤ o := am_ly3 (by rw [hk]; decide)
      show am_W X H locs _ _ (F0 _ pc Ls (am_tov ρ (am_r o) :: _))
      rw [show am_tov ρ (am_r o) = .ref (ρ o) from if_neg (by omega)]
      exact va_alen C.1 C.2.1 C.2.2.2.2.2.1.1 I.1 (o - 3) 1 (by rw [am_ws_at h3 ho, am_ceL hk]) rfl (by rw [← Int32.ofInt_eq_ofNat]) hd (fin (if_neg (by omega)) (by omega))
    · have ho1 := am_ly11 hk
      subst ho1
      show am_W X H locs _ _ (F0 _ pc Ls (Value.ref (ρ 1) :: _))
      rw [hρ 1 (Nat.lt_of_lt_of_le (by decide) h3), C.2.2.2.2.2.2.2.2.1.1]
      exact va_tlen C.1 C.2.1 C.2.2.2.2.2.2.1.2.1 I.2.2.1 (by rw [← Int32.ofInt_eq_ofNat]) hd (fin (L := ((7 : Nat) : Int)) rfl (by decide))
    · have ho1 := am_ly12 hk
      subst ho1
      obtain ⟨g1, g2, g3⟩ := C.2.2.2.2.2.2.2.2.2.1
      obtain ⟨e2, e3⟩ := I.2.2.2.2.2.2.1
      show am_W X H locs _ _ (F0 _ pc Ls (Value.ref (ρ 2) :: _))
      rw [hρ 2 (Nat.lt_of_lt_of_le (by decide) h3), C.2.2.2.2.2.2.2.2.1.2.1]
      refine va_slen C.1 C.2.1 C.2.2.2.2.2.2.1.2.2.1 C.2.2.2.2.2.2.1.2.2.2.1 C.2.2.2.2.2.2.1.2.2.2.2 I.2.2.1 hd ?_
      have k := fin (L := (Y.2.2.2.2.1 : Int)) (by show σ.2.2 0 0 = _; rw [e3, g1]) (by omega)
      rw [Int32.ofInt_eq_ofNat] at k
      exact k
  · exact h.elim
end SM2
