/-! ===== the contracts ===== -/
theorem am_args_mem {ρ : Nat → Nat} : ∀ (as : List am_V) (pre : am_L) (i : Nat) (v : am_V), (pre ++ am_sl as)[i]? = some (some v) → pre.length ≤ i → (i, am_tov ρ v) ∈ lv_args pre.length (as.map (am_tov ρ))
  | [], pre, i, v, h, hi => by
    rw [show am_sl [] = [] from rfl, List.append_nil, List.getElem?_eq_none hi] at h
    cases h
  | a :: as, pre, i, v, h, hi => by
    have hc := am_cat ρ a
    rw [List.map_cons]
    show (i, am_tov ρ v) ∈ (pre.length, am_tov ρ a) :: lv_args _ _
    by_cases h1 : am_c1 a = true
    · rw [h1] at hc
      have e : am_sl (a :: as) = [some a] ++ am_sl as := by
        show (if am_c1 a then [some a] else [some a, none]) ++ _ = _
        rw [h1]; rfl
      rw [e, ← List.append_assoc] at h
      by_cases hi2 : i = pre.length
      · subst hi2
        rw [List.getElem?_append_left (by simp), List.getElem?_append_right (Nat.le_refl _), Nat.sub_self] at h
        cases h
        exact List.mem_cons_self
      · refine List.mem_cons_of_mem _ ?_
        have := am_args_mem (ρ := ρ) as (pre ++ [some a]) i v h (by simp; omega)
        rw [List.length_append] at this
        rw [if_neg (by rw [hc]; decide)]
        exact this
    · have h1 : am_c1 a = false := by simpa using h1
      rw [h1] at hc
      have e : am_sl (a :: as) = [some a, none] ++ am_sl as := by
        show (if am_c1 a then [some a] else [some a, none]) ++ _ = _
        rw [h1]; rfl
      rw [e, ← List.append_assoc] at h
      by_cases hi2 : i = pre.length
      · subst hi2
        rw [List.getElem?_append_left (by simp), List.getElem?_append_right (Nat.le_refl _), Nat.sub_self] at h
        cases h
        exact List.mem_cons_self
      · by_cases hi3 : i = pre.length + 1
        · subst hi3
          rw [List.getElem?_append_left (by simp), List.getElem?_append_right (by omega), show pre.length + 1 - pre.length = 1 by omega] at h
          cases h
        · refine List.mem_cons_of_mem _ ?_
          have := am_args_mem (ρ := ρ) as (pre ++ [some a, none]) i v h (by simp; omega)
          rw [List.length_append] at this
          rw [if_pos (by rw [hc]; rfl)]
          exact this
theorem am_sl_len (ρ : Nat → Nat) (as : List am_V) : (lg_sl (as.map (am_tov ρ))).length = (am_sl as).length := by
  unfold lg_sl am_sl
  induction as with
  | nil => rfl
  | cons a as ih =>
    rw [List.map_cons, List.flatMap_cons, List.flatMap_cons, List.length_append, List.length_append, ih, am_cat]
    cases am_c1 a <;> rfl
theorem am_sl_mem {as : List am_V} {v : am_V} (h : some v ∈ am_sl as) : v ∈ as := by
  unfold am_sl at h
  obtain ⟨a, h1, h2⟩ := List.mem_flatMap.mp h
  cases h3 : am_c1 a <;> rw [h3] at h2
  · simp at h2; rw [h2]; exact h1
  · simp at h2; rw [h2]; exact h1
theorem am_en_at {n : Nat} {as : List am_V} {i : Nat} {v : am_V} (h : (am_en n as)[i]? = some (some v)) : (am_sl as)[i]? = some (some v) := by
  unfold am_en at h
  by_cases hi : i < (am_sl as).length
  · rw [List.getElem?_append_left hi] at h; exact h
  · rw [List.getElem?_append_right (by omega), List.getElem?_replicate] at h
    split at h <;> cases h
theorem am_entry {ρ : Nat → Nat} {as : List am_V} {n : Nat} (h : (am_sl as).length ≤ n) : am_LR ρ n ((lg_sl (as.map (am_tov ρ)) ++ List.replicate (n - (lg_sl (as.map (am_tov ρ))).length) Slot.unset).toArray) (am_en n as) := by
  have h1 := lv_entry (as.map (am_tov ρ)) (n := n) (by rw [am_sl_len]; exact h)
  refine ⟨h1.1, h1.2.1, by unfold am_en; simp; omega, fun i v hv => ?_⟩
  exact h1.2.2 (i, am_tov ρ v) (am_args_mem as [] i v (am_en_at hv) (Nat.zero_le _))
theorem am_en_ok {n m : Nat} {as : List am_V} (h : ∀ w ∈ as, am_ok m w) : ∀ (i : Nat) (v : am_V), (am_en n as)[i]? = some (some v) → am_ok m v := fun i v hv => h v (am_sl_mem (List.mem_of_getElem? (am_en_at hv)))
theorem am_pc0 : ∀ y, y < 249 → am_pcz (am_cd y) 0 = 0 := by decide +kernel
set_option maxHeartbeats 4000000 in
theorem am_con_all (l : Launch) (d : Nat) : ∀ y, y < 249 → (am_m y).2.2.2.2.1 ≠ 13 → am_Con l d y := by
  induction d with
  | zero => intro y _ _ D G t b L xs ρ as σ v σ' sz _ h; exact h.elim
  | succ d ih =>
    intro y hy h13 D G t b L xs ρ as σ v σ' sz hsd hR
    have hmo := (am_mo_all y hy).resolve_right h13
    have hnm := am_cn_all y hy h13
    have hck := am_ck_all y hy
    have hle := am_R_le (d + 1) _ _ _ _ _ hR
    obtain ⟨hlen, hwp⟩ := hR
    refine Met.ofW (cc := (am_m y).2.1) (maxL := (am_m y).2.2.1) (ret := (am_m y).2.2.2.1) hnm.2.2.2.1 rfl ?_
    intro p e s m args below meth c s₁ B hml hv
    obtain ⟨rfl, hsz, hP, hD0, hKx, hOx⟩ := hv
    subst hsz
    have hts := atoms_spec (ws := am_Wy y) B.pre
    have hgood : ∀ w ∈ am_good, w.before (as.map (am_tov ρ)).toArray s = true := fun w hw => hts w (List.mem_cons_of_mem _ hw)
    have hname : meth.name = (am_m y).1.name := (name_of_methodNamed B.named B.method).1
    have hown : s.vm.findClass (am_m y).1.cls = some m.cls := findClass_of_methodNamed B.named
    have hlocks := B.notSynchronized
    have hr := B.returns
    let A := va_A (am_ws G ρ σ) s.heap.size
    let X : am_X := ((p, l, e, (headSpec (am_Wy y) (am_rm (d + 1) (σ'.1 - σ.1) (am_ss σ'.1 - am_ss σ.1))).room, s), (m, (as.map (am_tov ρ)).toArray, below, meth, c), MQ below (am_Post D G ρ σ v σ' s.heap.size) (as.map (am_tov ρ)).toArray s (σ'.1 - σ.1) (am_ss σ'.1 - am_ss σ.1) (va_A (am_ws G ρ σ) s.heap.size))
    let Y : am_Y := ((D, G, A), (ρ, σ, σ', (am_m y).2.2.1), (t, b, L, xs))
    have hcls : (am_m y).1.cls = am_own (am_m y).2.2.2.2.1 := hnm.2.1
    have C : am_Cx X Y (am_m y).2.1 (am_m y).2.2.2.2.1 := ⟨B.exec, B.bytes, hml, by rw [← hcls]; exact hown, hgood, hKx, hOx, fun q hq => Or.inr hq, ⟨hsd.2.1.1, hsd.2.1.2, hsd.1.2.2⟩, hsd.2.2.1, Nat.le_refl _, Nat.le_refl _, Nat.le_add_left 1 d, by show 33 ≤ 33 * (d + 1); omega⟩
    have hfin : am_Fin X Y (am_m y).2.1 (am_m y).2.2.2.1 (fun v' s' => v' = v ∧ s' = σ') := by
      rintro v' s' ρ' H locs Ls ls pc ⟨rfl, rfl⟩ I hk
      have hpost : ∀ t : State, t.heap = H → am_Post D G ρ σ v' s' s.heap.size (as.map (am_tov ρ)).toArray s (.returned (v'.map (am_tov ρ'))) t := by
        intro t ht
        refine ⟨⟨ρ', I.2.2.2.1, rfl, by rw [ht]; exact I.1, I.2.1, I.2.2.2.2.2.1, I.2.2.2.2.2.2.1, fun w hw => I.sok w (by rw [hw]; exact List.mem_singleton.mpr rfl), I.2.2.2.2.1⟩, ?_⟩
        exact va_S.F (locs := locs) I.2.2.1 ht
      have hf : ∀ q ∈ locs, va_A (am_ws G ρ σ) s.heap.size q.base := I.2.2.1.2.2
      rcases hk with ⟨rfl, hrt, hd⟩ | ⟨a, rfl, hrt, hd⟩ | ⟨a, rfl, hrt, hd⟩
      · exact W.vret B.exec B.bytes (hr.trans hrt) (fun t ht _ => hpost t ht) hf hd hlocks
      · exact W.lret B.exec B.bytes (hr.trans hrt) (fun t ht _ => hpost t ht) hf hd hlocks
      · rcases hrt with ⟨hrt, hb⟩ | hrt
        · exact W.zret B.exec B.bytes (hr.trans hrt) (by show Value.int (Int32.ofInt a &&& 1) = _; rw [am_bool hb]) (fun t ht _ => hpost t ht) hf hd hlocks
        · exact W.iret B.exec B.bytes (hr.trans hrt) (fun t ht _ => hpost t ht) hf hd hlocks
    have K : am_Kp X Y (am_pcz (am_cd y) 0) (am_en (am_m y).2.2.1 as) [] σ := by
      refine am_ind hwp (fun i ls st σ => am_Kp X Y (am_pcz (am_cd y) i) ls st σ) ?_
      intro i row ls st s1 hrow hs
      refine am_simstep (X := X) (Y := Y) (q := am_m y) (ii := am_ii.getD y false) (d := d) C ?_ ih (Nat.le_refl _) (Nat.le_refl _) hfin ?_ hrow (am_rk_at hck hrow) hs
      · intro hi
        have := hnm.2.2.1
        rw [hi] at this
        show meth.name = _
        rw [hname]
        exact eq_of_beq this
      · rintro v' s' ⟨-, rfl⟩
        exact Nat.le_refl _
    rw [am_pc0 y hy] at K
    have h0 := K.2 ρ s.heap [] _ ⟨hP, hD0.self, va_S.rf, fun _ _ => rfl, Nat.le_refl _, hsd.1, ⟨rfl, rfl⟩, am_entry hlen, fun v hv => absurd hv List.not_mem_nil, am_en_ok hsd.2.2.2⟩
    rw [Nat.sub_self, Nat.sub_self] at h0
    rw [lg_entry_eq]
    exact h0
