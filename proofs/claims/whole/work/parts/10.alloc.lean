/-! ===== the simulation: new cells, arraycopy, Math, Object ===== -/
theorem am_Iv.nw {X : am_X} {Y : am_Y} {ρ : Nat → Nat} {H H1 : Heap} {locs locs1 : List Loc} {Ls : Array Slot} {ls : am_L} {st st' : List am_V} {σ : am_S} (I : am_Iv X Y ρ H locs Ls ls st σ) {q : Nat}
    (hP : va_P Y.1.1 vwCl (am_ws Y.1.2.1 (am_un ρ σ.1 q) (am_new σ)) H1) (hD : va_D Y.1.2.2 (am_ws Y.1.2.1 (am_un ρ σ.1 q) (am_new σ))) (hS : va_S Y.1.2.2 X.1.2.2.2.2.heap H1 locs1) (hst : ∀ v ∈ st', am_ok σ.1 v) : am_Iv X Y (am_un ρ σ.1 q) H1 locs1 Ls ls (am_r σ.1 :: st') (am_new σ) := by
  have hg : am_rg σ := I.2.2.2.2.2.1
  have h3 := hg.2.2
  have hle := I.2.2.2.2.1
  have hu : ∀ x, x < σ.1 → am_un ρ σ.1 q x = ρ x := fun x hx => if_neg (by omega)
  refine ⟨hP, hD, hS, fun o ho => ?_, Nat.le_succ_of_le hle, am_rgN hg, ⟨?_, ?_⟩, I.lr.rho hu I.lok, am_all1 (Nat.lt_succ_self _) (fun v hv => am_ok_mono (Nat.le_succ _) (hst v hv)), fun i v hi => am_ok_mono (Nat.le_succ _) (I.lok i v hi)⟩
  · rw [hu o (by omega)]; exact I.2.2.2.1 o ho
  · show am_so σ.2.2 σ.1 _ 2 = _
    unfold am_so
    rw [if_neg (by omega)]; exact I.2.2.2.2.2.2.1.1
  · show am_so σ.2.2 σ.1 _ 0 = _
    unfold am_so
    rw [if_neg (by omega)]; exact I.2.2.2.2.2.2.1.2
theorem am_nw_map {ρ : Nat → Nat} {n q : Nat} {st : List am_V} (h0 : n ≠ 0) (hst : ∀ v ∈ st, am_ok n v) : (am_r n :: st).map (am_tov (am_un ρ n q)) = .ref q :: st.map (am_tov ρ) := by
  rw [List.map_cons, am_tov_map (ρ' := am_un ρ n q) (ρ := ρ) (n := n) (fun o ho => if_neg (by omega)) hst]
  congr 1
  show (if n = 0 then Value.null else .ref (am_un ρ n q n)) = _
  rw [if_neg h0, show am_un ρ n q n = q from if_pos rfl]
theorem am_ce_new {G : Nat → ClassId} {ρ : Nat → Nat} {σ : am_S} {q : Nat} (h : 3 ≤ σ.1) : am_ce G (am_un ρ σ.1 q) (am_new σ) σ.1 = am_ce G ρ (am_new σ) σ.1 := by
  refine am_ce_eq rfl rfl (fun k => ?_)
  rw [show (am_new σ).2.1 σ.1 k = 0 by show am_so σ.2.1 σ.1 (fun _ => 0) σ.1 k = 0; unfold am_so; rw [if_pos rfl]]
  exact if_neg (by omega)
theorem am_newP (σ : am_S) (k : Int) : (am_new σ).2.1 σ.1 k = 0 := by
  show am_so σ.2.1 σ.1 (fun _ => 0) σ.1 k = 0
  unfold am_so
  rw [if_pos rfl]
theorem am_newH (σ : am_S) (k : Int) : (am_new σ).2.2 σ.1 k = 0 := by
  show am_so σ.2.2 σ.1 (fun _ => 0) σ.1 k = 0
  unfold am_so
  rw [if_pos rfl]
theorem am_room {X : am_X} {Y : am_Y} {cc : ByteArray} {ow n z : Nat} (C : am_Cx X Y cc ow) (h1 : Y.2.1.2.1.1 ≤ n) (h2 : n + 1 ≤ Y.2.1.2.2.1.1) (hz : am_so1 n = z) :
    (n - Y.2.1.2.1.1 + 1 ≤ X.1.2.2.2.1.cells ∧ am_ss n - am_ss Y.2.1.2.1.1 + z ≤ X.1.2.2.2.1.slots) ∧ (n + 1 - Y.2.1.2.1.1 = n - Y.2.1.2.1.1 + 1 ∧ am_ss (n + 1) - am_ss Y.2.1.2.1.1 = am_ss n - am_ss Y.2.1.2.1.1 + z) := by
  have a1 := C.2.2.2.2.2.2.2.2.2.2.1
  have a2 := C.2.2.2.2.2.2.2.2.2.2.2.1
  have b1 := am_ss_mono h1
  have b2 := am_ss_mono h2
  have b3 : am_ss (n + 1) = am_ss n + z := by rw [← hz]; rfl
  refine ⟨⟨?_, ?_⟩, ?_, ?_⟩ <;> omega
theorem am_roomle {X : am_X} {Y : am_Y} {cc : ByteArray} {ow n : Nat} (C : am_Cx X Y cc ow) (h2 : n ≤ Y.2.1.2.2.1.1) : n - Y.2.1.2.1.1 ≤ X.1.2.2.2.1.cells ∧ am_ss n - am_ss Y.2.1.2.1.1 ≤ X.1.2.2.2.1.slots := by
  have a1 := C.2.2.2.2.2.2.2.2.2.2.1
  have a2 := C.2.2.2.2.2.2.2.2.2.2.2.1
  have b2 := am_ss_mono h2
  exact ⟨by omega, by omega⟩
section SM3
variable {X : am_X} {Y : am_Y} {cc : ByteArray} {ow pc : Nat} {ls : am_L} {st : List am_V} {σ : am_S}
theorem sm_new {idx c : Nat} (C : am_Cx X Y cc ow) (hd : decode cc pc = .ok (.new idx, 3)) (hf : (ow, idx, c) ∈ am_cl) (hc : c < 12) (h : am_ly σ.1 = (0, c) ∧ am_Kp X Y (pc + 3) ls (am_r σ.1 :: st) (am_new σ)) : am_Kp X Y pc ls st σ := by
  obtain ⟨hly, h⟩ := h
  refine ⟨Nat.le_of_succ_le h.1, fun ρ H locs Ls I => ?_⟩
  have hg : am_rg σ := I.2.2.2.2.2.1
  have h3 := hg.2.2
  have hN := (am_vo_ok c hc).2.1
  have hz : am_so1 σ.1 = (am_vc c).2.2 := by unfold am_so1; rw [hly, if_pos rfl]; exact hN
  obtain ⟨hr, he⟩ := am_room C I.2.2.2.2.1 h.1 hz
  have hfs : ∀ j, j < (am_vc c).2.2 → defaultValue (am_tyc c j) = vp_V (am_fs ρ (am_new σ) σ.1 c) j := by
    intro j hj
    have hj' : j < am_nf c := by rw [hN]; exact hj
    unfold vp_V
    rw [List.getD_eq_getElem?_getD, am_fs_at hj']
    show _ = am_fe ρ (am_new σ) σ.1 c j
    unfold am_fe
    rw [am_newP, am_newH]
    rcases am_fk_ty c hc j hj' with ⟨q1, q2⟩ | ⟨q1, q2⟩ | ⟨q1, q2⟩
    · rw [q1, q2]; rfl
    · rw [q1, q2]; rfl
    · rw [q1, if_pos rfl]
      generalize am_tyc c j = ty at q2
      cases ty <;> first | rfl | exact absurd q2 (by simp [am_rty])
  refine va_new C.1 C.2.1 C.2.2.2.2.1 (am_co_all c hc).1 (am_tyc c) (am_ty_all c hc) C.2.2.2.1 (C.2.2.2.2.1 _ (am_cl_ok _ hf)) (C.2.2.2.2.1 _ (am_co_all c hc).2.1) (C.2.2.2.2.1 _ (am_co_all c hc).2.2.1) C.2.2.2.2.2.1.1 I.1 I.2.1 I.2.2.1 C.2.2.2.2.2.2.2.1 (am_vc_at hc) hfs hr.1 hr.2 hd (fun q H1 hP hD hS => ?_)
  rw [am_ws_push q hg ((am_ce_new h3).trans (am_ce0 hly))] at hP hD
  have k := h.2 _ H1 locs Ls (I.nw hP hD hS I.sok)
  rw [am_nw_map (by omega) I.sok] at k
  rw [← he.1, ← he.2]
  exact k
theorem am_Guniq {ty : FieldType} {cA cB : ClassId} {U : State} (h1 : va_RA U cA ty) (h2 : va_RA U cB ty) : cA = cB := by
  cases ty with
  | object C =>
    obtain ⟨_, _, _, _, _, a⟩ := h1
    obtain ⟨_, _, _, _, _, b⟩ := h2
    exact Option.some.inj (a.symm.trans b)
  | _ => exact Option.some.inj (h1.symm.trans h2)
theorem sm_newarray {t : ArrayType} (C : am_Cx X Y cc ow) (hd : decode cc pc = .ok (.newarray t, 2)) (hsm : ∀ o, (am_ly o).2 < 1000000) (h : am_p1 st (fun n st => (0 ≤ n ∧ am_at t ≠ 9 ∧ am_ly σ.1 = (am_at t, n.toNat)) ∧ am_Kp X Y (pc + 2) ls (am_r σ.1 :: st) (am_new σ))) : am_Kp X Y pc ls st σ := by
  unfold am_p1 at h
  split at h
  · rename_i n r
    obtain ⟨⟨h0, ht, hly⟩, h⟩ := h
    refine ⟨Nat.le_of_succ_le h.1, fun ρ H locs Ls I => ?_⟩
    have hg : am_rg σ := I.2.2.2.2.2.1
    have h3 := hg.2.2
    have hn : -2147483648 ≤ n ∧ n < 2147483648 := am_hd I.sok
    have hsz := hsm σ.1
    rw [hly] at hsz
    have hat : 1 ≤ am_at t ∧ am_at t ≤ 4 := by
      cases t <;> first | exact ⟨by decide, by decide⟩ | exact absurd rfl ht
    have hz : am_so1 σ.1 = n.toNat := by unfold am_so1; rw [hly, if_neg (by show am_at t ≠ 0; omega)]
    obtain ⟨hr, he⟩ := am_room C I.2.2.2.2.1 h.1 hz
    have key : ∀ (ty : FieldType) (j : Nat), newarray.typeOf t = ty → am_at t = j → (am_tys Y.1.2.1)[j - 1]? = some (Y.1.2.1 j, ty) → (Cond.arrayClass ty) ∈ am_good → componentBytes ty ≤ 8 → (∀ cA : ClassId, vp_cell cA (n.toNat, am_ae ρ (am_new σ) σ.1) = arrV cA n.toNat (fun _ => defaultValue ty)) → am_W X H locs (σ.1 - Y.2.1.2.1.1) (am_ss σ.1 - am_ss Y.2.1.2.1.1) (F0 X.2.1.1 pc Ls (Value.int (Int32.ofInt n) :: r.map (am_tov ρ))) := by
      intro ty j e1 e2 e3 e4 e5 e6
      refine va_newa C.1 C.2.1 (by rw [e1]; exact C.2.2.2.2.1 _ e4) e1 C.2.2.2.2.2.1.1 I.1 I.2.1 I.2.2.1 C.2.2.2.2.2.2.2.1 e6 (by rw [am_lt0 hn]; omega) (am_clamp hn) (Nat.le_trans (Nat.mul_le_mul (Nat.le_of_lt hsz) e5) (by decide)) hr.1 hr.2 hd (fun q cA H1 hK hP hD hS => ?_)
      have hu : cA = Y.1.2.1 j := by
        have a := (hK.2 5 (cA, ty) rfl).2
        have b := (C.2.2.2.2.2.1.1.2 (j - 1) _ e3).2
        exact am_Guniq a b
      have hce : am_ce Y.1.2.1 (am_un ρ σ.1 q) (am_new σ) σ.1 = .inl (cA, n.toNat, am_ae ρ (am_new σ) σ.1) := by
        rw [am_ce_new h3]
        unfold am_ce
        rw [hly, if_neg (by show am_at t ≠ 0; omega), hu, e2]
      rw [am_ws_push q hg hce] at hP hD
      have k := h.2 _ H1 locs Ls (I.nw hP hD hS (am_tl I.sok))
      rw [am_nw_map (by omega) (am_tl I.sok)] at k
      rw [← he.1, ← he.2]
      exact k
    have hi : am_at t ≠ 2 → am_ae ρ (am_new σ) σ.1 = .inl (fun _ => Int32.ofInt 0) := by
      intro h2
      unfold am_ae
      rw [hly, if_neg h2, if_neg (by show am_at t ≠ 5; omega)]
      simp only [am_newH]
    cases t
    · exact key .boolean 4 rfl rfl rfl am_arw.2.2.2 (by decide) (fun cA => by rw [hi (by decide), vp_cell_i]; rfl)
    · exact absurd rfl ht
    · exact absurd rfl ht
    · exact absurd rfl ht
    · exact key .byte 3 rfl rfl rfl am_arw.2.2.1 (by decide) (fun cA => by rw [hi (by decide), vp_cell_i]; rfl)
    · exact absurd rfl ht
    · exact key .int 1 rfl rfl rfl am_arw.1 (by decide) (fun cA => by rw [hi (by decide), vp_cell_i]; rfl)
    · refine key .long 2 rfl rfl rfl am_arw.2.1 (by decide) (fun cA => ?_)
      have : am_ae ρ (am_new σ) σ.1 = .inr (.inl (fun _ => Int64.ofInt 0)) := by
        unfold am_ae
        rw [hly, if_pos (show am_at ArrayType.long = 2 from rfl)]
        simp only [am_newH]
      rw [this, vp_cell_l]; rfl
  · exact h.elim
theorem sm_anewarray {idx : Nat} (C : am_Cx X Y cc ow) (hd : decode cc pc = .ok (.anewarray idx, 3)) (hf : (ow, idx) ∈ am_an) (hsm : ∀ o, (am_ly o).2 < 1000000) (h : am_p1 st (fun n st => (0 ≤ n ∧ am_ly σ.1 = (5, n.toNat)) ∧ am_Kp X Y (pc + 3) ls (am_r σ.1 :: st) (am_new σ))) : am_Kp X Y pc ls st σ := by
  unfold am_p1 at h
  split at h
  · rename_i n r
    obtain ⟨⟨h0, hly⟩, h⟩ := h
    refine ⟨Nat.le_of_succ_le h.1, fun ρ H locs Ls I => ?_⟩
    have hg : am_rg σ := I.2.2.2.2.2.1
    have h3 := hg.2.2
    have hn : -2147483648 ≤ n ∧ n < 2147483648 := am_hd I.sok
    have hsz := hsm σ.1
    rw [hly] at hsz
    have hz : am_so1 σ.1 = n.toNat := by unfold am_so1; rw [hly]; rfl
    obtain ⟨hr, he⟩ := am_room C I.2.2.2.2.1 h.1 hz
    refine va_newq C.1 C.2.1 C.2.2.2.1 (C.2.2.2.2.1 _ (am_an_ok _ hf)) C.2.2.2.2.2.1.2.2 C.2.2.2.2.2.1.1 I.1 I.2.1 I.2.2.1 C.2.2.2.2.2.2.2.1 (by rw [am_lt0 hn]; omega) (am_clamp hn) (Nat.le_trans (Nat.mul_le_mul (Nat.le_of_lt hsz) (Nat.le_refl 4)) (by decide)) hr.1 hr.2 hd (fun q cA H1 hK hP hD hS => ?_)
    have hu : cA = Y.1.2.1 5 := am_Guniq (hK.2 5 (cA, _) rfl).2 (C.2.2.2.2.2.1.1.2 4 _ rfl).2
    have hce : am_ce Y.1.2.1 (am_un ρ σ.1 q) (am_new σ) σ.1 = .inl (cA, n.toNat, .inr (.inr (.inr (.inr (fun _ => none))))) := by
      rw [am_ce_new h3, am_ceR (by rw [hly]), hly, hu]
      have : (fun k : Nat => am_rv ρ ((am_new σ).2.1 σ.1 k)) = fun _ => none := by
        funext k
        rw [am_newP]; rfl
      rw [this]
    rw [am_ws_push q hg hce] at hP hD
    have k := h.2 _ H1 locs Ls (I.nw hP hD hS (am_tl I.sok))
    rw [am_nw_map (by omega) (am_tl I.sok)] at k
    rw [← he.1, ← he.2]
    exact k
  · exact h.elim
theorem am_rgC {d s : Nat} {sp dp n : Int} (hg : am_rg σ) (hk : (am_ly s).1 = (am_ly d).1) (h12 : (am_ly s).1 = 1 ∨ (am_ly s).1 = 2) : am_rg (σ.1, σ.2.1, am_so σ.2.2 d (am_cpy (σ.2.2 s) (σ.2.2 d) sp dp n)) := by
  have hb : ∀ k k', am_bd s k = am_bd d k' := by
    intro k k'
    unfold am_bd
    rw [← hk]
    rcases h12 with q | q <;> rw [q] <;> rfl
  refine ⟨fun o k => ?_, hg.2.1, hg.2.2⟩
  show (am_bd o k).1 ≤ am_so σ.2.2 d (am_cpy (σ.2.2 s) (σ.2.2 d) sp dp n) o k ∧ am_so σ.2.2 d (am_cpy (σ.2.2 s) (σ.2.2 d) sp dp n) o k < _
  unfold am_so
  by_cases ho : o = d
  · subst ho
    rw [if_pos rfl]
    unfold am_cpy
    split
    · rw [← hb (sp + (k - dp)) k]; exact hg.1 _ _
    · exact hg.1 _ _
  · rw [if_neg ho]; exact hg.1 _ _
theorem am_cpyI {f g : Int → Int} {sp dp n : Int} (h1 : 0 ≤ sp) (h2 : 0 ≤ dp) (h3 : 0 ≤ n) : va_cpy (fun k : Nat => Int32.ofInt (f k)) (fun k : Nat => Int32.ofInt (g k)) sp.toNat dp.toNat n.toNat = fun k : Nat => Int32.ofInt (am_cpy f g sp dp n k) := by
  funext k
  unfold va_cpy am_cpy
  by_cases h : dp.toNat ≤ k ∧ k < dp.toNat + n.toNat
  · rw [if_pos h, if_pos (by omega)]
    show Int32.ofInt (f ((sp.toNat + (k - dp.toNat) : Nat) : Int)) = _
    rw [show ((sp.toNat + (k - dp.toNat) : Nat) : Int) = sp + ((k : Int) - dp) by omega]
  · rw [if_neg h, if_neg (by omega)]
theorem am_cpyL {f g : Int → Int} {sp dp n : Int} (h1 : 0 ≤ sp) (h2 : 0 ≤ dp) (h3 : 0 ≤ n) : va_cpy (fun k : Nat => Int64.ofInt (f k)) (fun k : Nat => Int64.ofInt (g k)) sp.toNat dp.toNat n.toNat = fun k : Nat => Int64.ofInt (am_cpy f g sp dp n k) := by
  funext k
  unfold va_cpy am_cpy
  by_cases h : dp.toNat ≤ k ∧ k < dp.toNat + n.toNat
  · rw [if_pos h, if_pos (by omega)]
    show Int64.ofInt (f ((sp.toNat + (k - dp.toNat) : Nat) : Int)) = _
    rw [show ((sp.toNat + (k - dp.toNat) : Nat) : Int) = sp + ((k : Int) - dp) by omega]
  · rw [if_neg h, if_neg (by omega)]
theorem sm_arraycopy {idx : Nat} (C : am_Cx X Y cc ow) (hd : decode cc pc = .ok (.invokestatic idx, 3)) (hf : (ow, idx) ∈ am_ac) (h : am_pc st (fun s sp d dp n st => (((am_ly s).1 = (am_ly d).1 ∧ ((am_ly s).1 = 1 ∨ (am_ly s).1 = 2)) ∧ 0 ≤ sp ∧ 0 ≤ dp ∧ 0 ≤ n ∧ sp + n ≤ ((am_ly s).2 : Int) ∧ dp + n ≤ ((am_ly d).2 : Int) ∧ (st.map (fun v => if am_c1 v then 1 else 2)).sum ≤ 8) ∧ am_Kp X Y (pc + 3) ls st (σ.1, σ.2.1, am_so σ.2.2 d (am_cpy (σ.2.2 s) (σ.2.2 d) sp dp n)))) : am_Kp X Y pc ls st σ := by
  unfold am_pc at h
  split at h
  · rename_i n dp d sp s r
    obtain ⟨⟨⟨hk, h12⟩, hsp, hdp, hn0, hs1, hs2, hsum⟩, h⟩ := h
    refine ⟨h.1, fun ρ H locs Ls I => ?_⟩
    have hg : am_rg σ := I.2.2.2.2.2.1
    have hn : -2147483648 ≤ n ∧ n < 2147483648 := am_hd I.sok
    have hdp' : -2147483648 ≤ dp ∧ dp < 2147483648 := am_hd (am_tl I.sok)
    have hdo : d < σ.1 := am_hd (am_tl (am_tl I.sok))
    have hsp' : -2147483648 ≤ sp ∧ sp < 2147483648 := am_hd (am_tl (am_tl (am_tl I.sok)))
    have hso : s < σ.1 := am_hd (am_tl (am_tl (am_tl (am_tl I.sok))))
    have hs3 : 3 ≤ s := am_ly3 (by rcases h12 with q | q <;> rw [q] <;> decide)
    have hd3 : 3 ≤ d := am_ly3 (by rw [← hk]; rcases h12 with q | q <;> rw [q] <;> decide)
    have hml : X.2.1.2.2.2.2.maxLocals = Ls.size := by rw [C.2.2.1, I.lr.1]
    have hloc : ((r.map (am_tov ρ)).map fun v => v.category).sum + (nativeFrameWords "java/lang/System" "arraycopy" 5 + 11) ≤ X.1.2.2.2.1.locals := by
      rw [am_cats, show nativeFrameWords "java/lang/System" "arraycopy" 5 = 7 from by decide]
      have := C.2.2.2.2.2.2.2.2.2.2.2.2.2
      omega
    have hst := am_tl (am_tl (am_tl (am_tl (am_tl I.sok))))
    show am_W X H locs _ _ (F0 _ pc Ls (Value.int (Int32.ofInt n) :: Value.int (Int32.ofInt dp) :: am_tov ρ (am_r d) :: Value.int (Int32.ofInt sp) :: am_tov ρ (am_r s) :: _))
    rw [show am_tov ρ (am_r d) = .ref (ρ d) from if_neg (by omega), show am_tov ρ (am_r s) = .ref (ρ s) from if_neg (by omega)]
    have c1 : (Int32.ofInt sp).toNatClampNeg + (Int32.ofInt n).toNatClampNeg ≤ (am_ly s).2 := by rw [am_clamp hsp', am_clamp hn]; omega
    have c2 : (Int32.ofInt dp).toNatClampNeg + (Int32.ofInt n).toNatClampNeg ≤ (am_ly d).2 := by rw [am_clamp hdp', am_clamp hn]; omega
    rcases h12 with q | q
    · refine va_copyi (ty := .int) C.1 C.2.1 hml C.2.2.2.1 (C.2.2.2.2.1 _ (am_ac_ok _ hf)) (C.2.2.2.2.1 _ am_acw.1) (C.2.2.2.2.1 _ am_acw.2.1) (C.2.2.2.2.1 _ am_acw.2.2) C.2.2.2.2.2.1.1 I.1 I.2.1 I.2.2.1 (s - 3) (d - 3) 0 0 (by rw [am_ws_at hs3 hso, am_ceA q (by decide) (by decide) (by decide)]) (by rw [am_ws_at hd3 hdo, am_ceA (hk.symm.trans q) (by decide) (by decide) (by decide)]) rfl rfl rfl
        (by rw [am_lt0 hsp']; omega) (by rw [am_lt0 hdp']; omega) (by rw [am_lt0 hn]; omega) c1 c2 (fun _ _ => rfl) C.2.2.2.2.2.2.2.2.2.2.2.2.1 hloc hd (fun H1 locs1 hP hD hS => ?_)
      rw [am_clamp hsp', am_clamp hdp', am_clamp hn, am_cpyI hsp hdp hn0] at hP hD
      have hws : (am_ws Y.1.2.1 ρ σ).set (d - 3) (ρ d, .inl (Y.1.2.1 1, (am_ly d).2, .inl (fun k : Nat => Int32.ofInt (am_cpy (σ.2.2 s) (σ.2.2 d) sp dp n k)))) = am_ws Y.1.2.1 ρ (σ.1, σ.2.1, am_so σ.2.2 d (am_cpy (σ.2.2 s) (σ.2.2 d) sp dp n)) := by
        rw [← am_ws_set (σ' := (σ.1, σ.2.1, am_so σ.2.2 d (am_cpy (σ.2.2 s) (σ.2.2 d) sp dp n))) hd3 hdo rfl (fun _ _ => rfl) (fun _ h => if_neg h), am_ceA (σ := (σ.1, σ.2.1, am_so σ.2.2 d (am_cpy (σ.2.2 s) (σ.2.2 d) sp dp n))) (hk.symm.trans q) (by decide) (by decide) (by decide)]
        simp only [show am_so σ.2.2 d (am_cpy (σ.2.2 s) (σ.2.2 d) sp dp n) d = am_cpy (σ.2.2 s) (σ.2.2 d) sp dp n from if_pos rfl]
      rw [hws] at hP hD
      exact h.2 ρ H1 locs1 Ls (I.hp rfl hP hD hS (am_rgC hg hk (Or.inl q)) ⟨if_neg (by omega), if_neg (by omega)⟩ hst)
    · refine va_copyl (ty := .long) C.1 C.2.1 hml C.2.2.2.1 (C.2.2.2.2.1 _ (am_ac_ok _ hf)) (C.2.2.2.2.1 _ am_acw.1) (C.2.2.2.2.1 _ am_acw.2.1) (C.2.2.2.2.1 _ am_acw.2.2) C.2.2.2.2.2.1.1 I.1 I.2.1 I.2.2.1 (s - 3) (d - 3) 1 1 (by rw [am_ws_at hs3 hso, am_ceL q]) (by rw [am_ws_at hd3 hdo, am_ceL (hk.symm.trans q)]) rfl rfl rfl
        (by rw [am_lt0 hsp']; omega) (by rw [am_lt0 hdp']; omega) (by rw [am_lt0 hn]; omega) c1 c2 (fun _ _ => rfl) C.2.2.2.2.2.2.2.2.2.2.2.2.1 hloc hd (fun H1 locs1 hP hD hS => ?_)
      rw [am_clamp hsp', am_clamp hdp', am_clamp hn, am_cpyL hsp hdp hn0] at hP hD
      have hws : (am_ws Y.1.2.1 ρ σ).set (d - 3) (ρ d, .inl (Y.1.2.1 2, (am_ly d).2, .inr (.inl (fun k : Nat => Int64.ofInt (am_cpy (σ.2.2 s) (σ.2.2 d) sp dp n k))))) = am_ws Y.1.2.1 ρ (σ.1, σ.2.1, am_so σ.2.2 d (am_cpy (σ.2.2 s) (σ.2.2 d) sp dp n)) := by
        rw [← am_ws_set (σ' := (σ.1, σ.2.1, am_so σ.2.2 d (am_cpy (σ.2.2 s) (σ.2.2 d) sp dp n))) hd3 hdo rfl (fun _ _ => rfl) (fun _ h => if_neg h), am_ceL (σ := (σ.1, σ.2.1, am_so σ.2.2 d (am_cpy (σ.2.2 s) (σ.2.2 d) sp dp n))) (hk.symm.trans q)]
        simp only [show am_so σ.2.2 d (am_cpy (σ.2.2 s) (σ.2.2 d) sp dp n) d = am_cpy (σ.2.2 s) (σ.2.2 d) sp dp n from if_pos rfl]
      rw [hws] at hP hD
      exact h.2 ρ H1 locs1 Ls (I.hp rfl hP hD hS (am_rgC hg hk (Or.inr q)) ⟨if_neg (by omega), if_neg (by omega)⟩ hst)
  · exact h.elim
theorem sm_max {idx : Nat} (C : am_Cx X Y cc ow) (hd : decode cc pc = .ok (.invokestatic idx, 3)) (hf : (ow, idx) ∈ am_mx) (h : am_p2 st (fun a b st => (st.map (fun v => if am_c1 v then 1 else 2)).sum ≤ 8 ∧ am_Kp X Y (pc + 3) ls (am_i (if a < b then b else a) :: st) σ)) : am_Kp X Y pc ls st σ := by
  unfold am_p2 at h
  split at h
  · rename_i b a r
    obtain ⟨hsum, h⟩ := h
    refine ⟨h.1, fun ρ H locs Ls I => ?_⟩
    have hb : -2147483648 ≤ b ∧ b < 2147483648 := am_hd I.sok
    have ha : -2147483648 ≤ a ∧ a < 2147483648 := am_hd (am_tl I.sok)
    have hml : X.2.1.2.2.2.2.maxLocals = Ls.size := by rw [C.2.2.1, I.lr.1]
    have hloc : ((r.map (am_tov ρ)).map fun v => v.category).sum + 13 ≤ X.1.2.2.2.1.locals := by
      rw [am_cats]
      have := C.2.2.2.2.2.2.2.2.2.2.2.2.2
      omega
    have hrm := am_roomle C h.1
    have k := h.2 ρ H locs Ls (I.stk (am_all1 (show _ ∧ _ by split <;> omega) (am_tl (am_tl I.sok))))
    show am_W X H locs _ _ (F0 _ pc Ls (Value.int (Int32.ofInt b) :: Value.int (Int32.ofInt a) :: _))
    refine va_mmax C.1 C.2.1 hml C.2.2.2.1 (C.2.2.2.2.1 _ (am_mx_ok _ hf)) (C.2.2.2.2.1 _ am_maxw.1) (C.2.2.2.2.1 _ am_mathw) (C.2.2.2.2.1 _ am_maxw.2) C.2.2.2.2.2.2.2.2.2.2.2.2.1 hloc hrm.1 hrm.2 hd ?_
    simp only [List.map_cons, am_tov] at k
    rw [show (if Int32.ofInt a < Int32.ofInt b then Int32.ofInt b else Int32.ofInt a) = Int32.ofInt (if a < b then b else a) by simp only [am_lt ha hb]; split <;> rfl]
    exact k
  · exact h.elim
theorem sm_min {idx : Nat} (C : am_Cx X Y cc ow) (hd : decode cc pc = .ok (.invokestatic idx, 3)) (hf : (ow, idx) ∈ am_mi3) (h : am_p2 st (fun a b st => (st.map (fun v => if am_c1 v then 1 else 2)).sum ≤ 8 ∧ am_Kp X Y (pc + 3) ls (am_i (if b < a then b else a) :: st) σ)) : am_Kp X Y pc ls st σ := by
  unfold am_p2 at h
  split at h
  · rename_i b a r
    obtain ⟨hsum, h⟩ := h
    refine ⟨h.1, fun ρ H locs Ls I => ?_⟩
    have hb : -2147483648 ≤ b ∧ b < 2147483648 := am_hd I.sok
    have ha : -2147483648 ≤ a ∧ a < 2147483648 := am_hd (am_tl I.sok)
    have hml : X.2.1.2.2.2.2.maxLocals = Ls.size := by rw [C.2.2.1, I.lr.1]
    have hloc : ((r.map (am_tov ρ)).map fun v => v.category).sum + 13 ≤ X.1.2.2.2.1.locals := by
      rw [am_cats]
      have := C.2.2.2.2.2.2.2.2.2.2.2.2.2
      omega
    have hrm := am_roomle C h.1
    have k := h.2 ρ H locs Ls (I.stk (am_all1 (show _ ∧ _ by split <;> omega) (am_tl (am_tl I.sok))))
    show am_W X H locs _ _ (F0 _ pc Ls (Value.int (Int32.ofInt b) :: Value.int (Int32.ofInt a) :: _))
    refine va_mmin C.1 C.2.1 hml C.2.2.2.1 (C.2.2.2.2.1 _ (am_mi3_ok _ hf)) (C.2.2.2.2.1 _ am_minw.1) (C.2.2.2.2.1 _ am_mathw) (C.2.2.2.2.1 _ am_minw.2) C.2.2.2.2.2.2.2.2.2.2.2.2.1 hloc hrm.1 hrm.2 hd ?_
    simp only [List.map_cons, am_tov] at k
    rw [show (if Int32.ofInt b < Int32.ofInt a then Int32.ofInt b else Int32.ofInt a) = Int32.ofInt (if b < a then b else a) by simp only [am_lt hb ha]; split <;> rfl]
    exact k
  · exact h.elim
theorem sm_obj {idx : Nat} (C : am_Cx X Y cc ow) (hd : decode cc pc = .ok (.invokespecial idx, 3)) (hf : (ow, idx) ∈ am_oi) (h : am_pr st (fun o st => (o ≠ 0 ∧ (st.map (fun v => if am_c1 v then 1 else 2)).sum ≤ 8) ∧ am_Kp X Y (pc + 3) ls st σ)) : am_Kp X Y pc ls st σ := by
  unfold am_pr at h
  split at h
  · rename_i o r
    obtain ⟨⟨h0, hsum⟩, h⟩ := h
    refine ⟨h.1, fun ρ H locs Ls I => ?_⟩
    have hloc : 2 * (F0 X.2.1.1 pc Ls (Value.ref (ρ o) :: r.map (am_tov ρ))).monitorRoom + ((r.map (am_tov ρ)).map fun v => v.category).sum + 12 ≤ X.1.2.2.2.1.locals := by
      have := C.2.2.2.2.2.2.2.2.2.2.2.2.2
      have h2 := lv_room (m := X.2.1.1) (pc := pc) (ls := Ls) (rest := Value.ref (ρ o) :: r.map (am_tov ρ)) (st := r.map (am_tov ρ)) (by rw [am_cats]; exact hsum)
      omega
    show am_W X H locs _ _ (F0 _ pc Ls (am_tov ρ (am_r o) :: _))
    rw [show am_tov ρ (am_r o) = .ref (ρ o) from if_neg h0]
    refine W.objInit C.1 C.2.1 C.2.2.2.1 (C.2.2.2.2.1 _ (am_oi_ok _ hf)) (C.2.2.2.2.1 _ am_objw.1) (C.2.2.2.2.1 _ am_objw.2) rfl (by rw [C.2.2.1]; exact I.lr.1) rfl hd C.2.2.2.2.2.2.2.2.2.2.2.2.1 hloc ?_
    exact h.2 ρ H locs Ls (I.stk (am_tl I.sok))
  · exact h.elim
end SM3
theorem am_sm0 : ∀ q ∈ am_l0, q.2 < 1000000 := by decide +kernel
theorem am_smb : ∀ q ∈ am_lb, q.2 < 1000000 := by decide +kernel
theorem am_small (o : Nat) : (am_ly o).2 < 1000000 := by
  match o with
  | 0 => decide
  | 1 => decide
  | 2 => decide
  | n + 3 =>
    unfold am_ly
    simp only []
    split
    · rename_i q hq
      exact am_sm0 q (List.mem_of_getElem? hq)
    · rw [List.getD_eq_getElem?_getD]
      cases hq : am_lb[(n - 69) % 29]? with
      | none => decide
      | some q => exact am_smb q (List.mem_of_getElem? hq)
