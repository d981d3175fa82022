/-! ===== every run of the abstract machine is a run of the machine ===== -/
theorem am_and3 {a b c : Bool} (h : (a && b && c) = true) : a = true ∧ b = true ∧ c = true := by
  rw [Bool.and_eq_true, Bool.and_eq_true] at h
  exact ⟨h.1.1, h.1.2, h.2⟩
theorem am_or1 {a : Bool} (h : (!true || a) = true) : a = true := h
def am_Fin (X : am_X) (Y : am_Y) (cc : ByteArray) (rt : Option FieldType) (Q : Option am_V → am_S → Prop) : Prop := ∀ (v : Option am_V) (σ : am_S) (ρ : Nat → Nat) (H : Heap) (locs : List Loc) (Ls : Array Slot) (ls : am_L) (pc : Nat), Q v σ → am_Iv X Y ρ H locs Ls ls v.toList σ →
  ((v = none ∧ rt = none ∧ decode cc pc = .ok (.return_, 1)) ∨ (∃ a, v = some (am_l a) ∧ rt = some .long ∧ decode cc pc = .ok (.lreturn, 1)) ∨ (∃ a, v = some (am_i a) ∧ ((rt = some .boolean ∧ (a = 0 ∨ a = 1)) ∨ rt = some .int) ∧ decode cc pc = .ok (.ireturn, 1))) →
  am_W X H locs (σ.1 - Y.2.1.2.1.1) (am_ss σ.1 - am_ss Y.2.1.2.1.1) (F0 X.2.1.1 pc Ls (v.toList.map (am_tov ρ)))
theorem am_p0_at {st : List am_V} {k : Prop} (h : am_p0 st k) : st = [] ∧ k := by
  unfold am_p0 at h
  split at h
  · exact ⟨rfl, h⟩
  · exact h.elim
theorem am_vo14 : ∀ c, c < 12 → am_vo c ≠ 14 := by decide +kernel
theorem am_iret : ∀ y, y < 249 → am_ii.getD y false = true → (am_m y).2.2.2.1 = none := by decide +kernel
set_option maxHeartbeats 8000000 in
set_option maxRecDepth 100000 in
theorem am_simstep {X : am_X} {Y : am_Y} {q : am_MI} {ii : Bool} {cd : List am_I} {d i : Nat} {row : am_I} {ls : am_L} {st : List am_V} {σ : am_S} {Q : Option am_V → am_S → Prop} (C : am_Cx X Y q.2.1 q.2.2.2.2.1) (hii : ii = true → X.2.1.2.2.2.1.name = "<init>")
    (hcon : ∀ y, y < 249 → (am_m y).2.2.2.2.1 ≠ 13 → am_Con X.1.2.1 d y) (hfr : d + 1 ≤ X.1.2.2.2.1.frames) (hlo : 33 * d + 33 ≤ X.1.2.2.2.1.locals) (hfin : am_Fin X Y q.2.1 q.2.2.2.1 Q) (hle : ∀ v σ, Q v σ → σ.1 ≤ Y.2.1.2.2.1.1) (hrow : cd[i]? = some row) (hrk : am_rk q ii cd i row = true)
    (hs : am_sp (am_R d) cd (fun i ls st σ => am_Kp X Y (am_pcz cd i) ls st σ) Q i row ls st σ) : am_Kp X Y (am_pcz cd i) ls st σ := by
  have hpc : am_pcz cd i = row.1.1 := by unfold am_pcz; rw [hrow]
  rw [hpc]
  obtain ⟨hdec, hfall, hm⟩ := am_and3 hrk
  have hdec := of_decide_eq_true hdec
  obtain ⟨⟨pc, ins⟩, a, b, n⟩ := row
  cases ins
  all_goals try (exact False.elim hs)
  case iconst k =>
    have hfall : am_pcz cd (i + 1) = pc + 1 := of_decide_eq_true hfall
    simp only [am_sp] at hs
    rw [hfall] at hs
    have hm := of_decide_eq_true hm
    obtain ⟨rfl, hn⟩ := hm
    exact sm_iconst C hdec hn hs
  case bipush k =>
    have hfall : am_pcz cd (i + 1) = pc + 2 := of_decide_eq_true hfall
    simp only [am_sp] at hs
    rw [hfall] at hs
    have hm := of_decide_eq_true hm
    obtain ⟨rfl, hn⟩ := hm
    exact sm_bipush C hdec hn hs
  case sipush k =>
    have hfall : am_pcz cd (i + 1) = pc + 3 := of_decide_eq_true hfall
    simp only [am_sp] at hs
    rw [hfall] at hs
    have hm := of_decide_eq_true hm
    obtain ⟨rfl, hn⟩ := hm
    exact sm_sipush C hdec hn hs
  case ldc k =>
    have hfall : am_pcz cd (i + 1) = pc + 2 := of_decide_eq_true hfall
    simp only [am_sp] at hs
    have hm := of_decide_eq_true hm
    rw [hfall] at hs
    exact sm_ldc C hdec hm.1 hm.2 hs
  case lconst k =>
    have hfall : am_pcz cd (i + 1) = pc + 1 := of_decide_eq_true hfall
    simp only [am_sp] at hs
    have hm := of_decide_eq_true hm
    rw [hfall] at hs
    exact sm_lconst C hdec hm hs
  case iload k =>
    have hfall : am_pcz cd (i + 1) = pc + 2 := of_decide_eq_true hfall
    simp only [am_sp] at hs
    have hm := of_decide_eq_true hm
    rw [hfall] at hs
    exact sm_iload C hdec hm hs
  case lload k =>
    have hfall : am_pcz cd (i + 1) = pc + 2 := of_decide_eq_true hfall
    simp only [am_sp] at hs
    have hm := of_decide_eq_true hm
    rw [hfall] at hs
    exact sm_lload C hdec hm hs
  case aload k =>
    have hfall : am_pcz cd (i + 1) = pc + 2 := of_decide_eq_true hfall
    simp only [am_sp] at hs
    have hm := of_decide_eq_true hm
    rw [hfall] at hs
    exact sm_aload C hdec hm hs
  case istore k =>
    have hfall : am_pcz cd (i + 1) = pc + 2 := of_decide_eq_true hfall
    simp only [am_sp] at hs
    have hm := of_decide_eq_true hm
    rw [hfall] at hs
    exact sm_istore C hdec hm hs
  case lstore k =>
    have hfall : am_pcz cd (i + 1) = pc + 2 := of_decide_eq_true hfall
    simp only [am_sp] at hs
    have hm := of_decide_eq_true hm
    rw [hfall] at hs
    exact sm_lstore C hdec hm hs
  case astore k =>
    have hfall : am_pcz cd (i + 1) = pc + 2 := of_decide_eq_true hfall
    simp only [am_sp] at hs
    have hm := of_decide_eq_true hm
    rw [hfall] at hs
    exact sm_astore C hdec hm hs
  case iload_n k =>
    have hfall : am_pcz cd (i + 1) = pc + 1 := of_decide_eq_true hfall
    simp only [am_sp] at hs
    have hm := of_decide_eq_true hm
    rw [hfall] at hs
    exact sm_iload_n C hdec hm hs
  case lload_n k =>
    have hfall : am_pcz cd (i + 1) = pc + 1 := of_decide_eq_true hfall
    simp only [am_sp] at hs
    have hm := of_decide_eq_true hm
    rw [hfall] at hs
    exact sm_lload_n C hdec hm hs
  case aload_n k =>
    have hfall : am_pcz cd (i + 1) = pc + 1 := of_decide_eq_true hfall
    simp only [am_sp] at hs
    have hm := of_decide_eq_true hm
    rw [hfall] at hs
    exact sm_aload_n C hdec hm hs
  case istore_n k =>
    have hfall : am_pcz cd (i + 1) = pc + 1 := of_decide_eq_true hfall
    simp only [am_sp] at hs
    have hm := of_decide_eq_true hm
    rw [hfall] at hs
    exact sm_istore_n C hdec hm hs
  case astore_n k =>
    have hfall : am_pcz cd (i + 1) = pc + 1 := of_decide_eq_true hfall
    simp only [am_sp] at hs
    have hm := of_decide_eq_true hm
    rw [hfall] at hs
    exact sm_astore_n C hdec hm hs
  case iinc k z =>
    have hfall : am_pcz cd (i + 1) = pc + 3 := of_decide_eq_true hfall
    simp only [am_sp] at hs
    rw [hfall] at hs
    have hm := of_decide_eq_true hm
    obtain ⟨hk, rfl⟩ := hm
    exact sm_iinc C hdec hk hs
  case iadd =>
    have hfall : am_pcz cd (i + 1) = pc + 1 := of_decide_eq_true hfall
    simp only [am_sp] at hs
    rw [hfall] at hs
    exact sm_iadd C hdec hs
  case isub =>
    have hfall : am_pcz cd (i + 1) = pc + 1 := of_decide_eq_true hfall
    simp only [am_sp] at hs
    rw [hfall] at hs
    exact sm_isub C hdec hs
  case imul =>
    have hfall : am_pcz cd (i + 1) = pc + 1 := of_decide_eq_true hfall
    simp only [am_sp] at hs
    rw [hfall] at hs
    exact sm_imul C hdec hs
  case idiv =>
    have hfall : am_pcz cd (i + 1) = pc + 1 := of_decide_eq_true hfall
    simp only [am_sp] at hs
    rw [hfall] at hs
    exact sm_idiv C hdec hs
  case irem =>
    have hfall : am_pcz cd (i + 1) = pc + 1 := of_decide_eq_true hfall
    simp only [am_sp] at hs
    rw [hfall] at hs
    exact sm_irem C hdec hs
  case iand =>
    have hfall : am_pcz cd (i + 1) = pc + 1 := of_decide_eq_true hfall
    simp only [am_sp] at hs
    rw [hfall] at hs
    exact sm_iand C hdec hs
  case ishr =>
    have hfall : am_pcz cd (i + 1) = pc + 1 := of_decide_eq_true hfall
    simp only [am_sp] at hs
    rw [hfall] at hs
    exact sm_ishr C hdec hs
  case iushr =>
    have hfall : am_pcz cd (i + 1) = pc + 1 := of_decide_eq_true hfall
    simp only [am_sp] at hs
    rw [hfall] at hs
    exact sm_iushr C hdec hs
  case lor =>
    have hfall : am_pcz cd (i + 1) = pc + 1 := of_decide_eq_true hfall
    simp only [am_sp] at hs
    rw [hfall] at hs
    exact sm_lor C hdec hs
  case lshl =>
    have hfall : am_pcz cd (i + 1) = pc + 1 := of_decide_eq_true hfall
    simp only [am_sp] at hs
    rw [hfall] at hs
    exact sm_lshl C hdec hs
  case lshr =>
    have hfall : am_pcz cd (i + 1) = pc + 1 := of_decide_eq_true hfall
    simp only [am_sp] at hs
    rw [hfall] at hs
    exact sm_lshr C hdec hs
  case lcmp =>
    have hfall : am_pcz cd (i + 1) = pc + 1 := of_decide_eq_true hfall
    simp only [am_sp] at hs
    rw [hfall] at hs
    exact sm_lcmp C hdec hs
  case i2l =>
    have hfall : am_pcz cd (i + 1) = pc + 1 := of_decide_eq_true hfall
    simp only [am_sp] at hs
    rw [hfall] at hs
    exact sm_i2l C hdec hs
  case l2i =>
    have hfall : am_pcz cd (i + 1) = pc + 1 := of_decide_eq_true hfall
    simp only [am_sp] at hs
    rw [hfall] at hs
    exact sm_l2i C hdec hs
  case i2b =>
    have hfall : am_pcz cd (i + 1) = pc + 1 := of_decide_eq_true hfall
    simp only [am_sp] at hs
    rw [hfall] at hs
    exact sm_i2b C hdec hs
  case dup =>
    have hfall : am_pcz cd (i + 1) = pc + 1 := of_decide_eq_true hfall
    simp only [am_sp] at hs
    rw [hfall] at hs
    exact sm_dup C hdec hs
  case dup2 =>
    have hfall : am_pcz cd (i + 1) = pc + 1 := of_decide_eq_true hfall
    simp only [am_sp] at hs
    rw [hfall] at hs
    exact sm_dup2 C hdec hs
  case pop =>
    have hfall : am_pcz cd (i + 1) = pc + 1 := of_decide_eq_true hfall
    simp only [am_sp] at hs
    rw [hfall] at hs
    exact sm_pop C hdec hs
  case laload =>
    have hfall : am_pcz cd (i + 1) = pc + 1 := of_decide_eq_true hfall
    simp only [am_sp] at hs
    rw [hfall] at hs
    exact sm_laload C hdec hs
  case baload =>
    have hfall : am_pcz cd (i + 1) = pc + 1 := of_decide_eq_true hfall
    simp only [am_sp] at hs
    rw [hfall] at hs
    exact sm_baload C hdec hs
  case aaload =>
    have hfall : am_pcz cd (i + 1) = pc + 1 := of_decide_eq_true hfall
    simp only [am_sp] at hs
    rw [hfall] at hs
    exact sm_aaload C hdec hs
  case iastore =>
    have hfall : am_pcz cd (i + 1) = pc + 1 := of_decide_eq_true hfall
    simp only [am_sp] at hs
    rw [hfall] at hs
    exact sm_iastore C hdec hs
  case lastore =>
    have hfall : am_pcz cd (i + 1) = pc + 1 := of_decide_eq_true hfall
    simp only [am_sp] at hs
    rw [hfall] at hs
    exact sm_lastore C hdec hs
  case bastore =>
    have hfall : am_pcz cd (i + 1) = pc + 1 := of_decide_eq_true hfall
    simp only [am_sp] at hs
    rw [hfall] at hs
    exact sm_bastore C hdec hs
  case aastore =>
    have hfall : am_pcz cd (i + 1) = pc + 1 := of_decide_eq_true hfall
    simp only [am_sp] at hs
    rw [hfall] at hs
    exact sm_aastore C hdec hs
  case iaload =>
    have hfall : am_pcz cd (i + 1) = pc + 1 := of_decide_eq_true hfall
    simp only [am_sp] at hs
    rw [hfall] at hs
    exact sm_iaload C hdec hs
  case arraylength =>
    have hfall : am_pcz cd (i + 1) = pc + 1 := of_decide_eq_true hfall
    simp only [am_sp] at hs
    rw [hfall] at hs
    exact sm_alen C hdec hs am_small
  case ifCond c off =>
    have hfall : am_pcz cd (i + 1) = pc + 3 := of_decide_eq_true hfall
    simp only [am_sp] at hs
    have hm := of_decide_eq_true hm
    rw [hfall] at hs
    exact sm_if C hdec hm hs
  case if_icmp c off =>
    have hfall : am_pcz cd (i + 1) = pc + 3 := of_decide_eq_true hfall
    simp only [am_sp] at hs
    have hm := of_decide_eq_true hm
    rw [hfall] at hs
    exact sm_icmp C hdec hm hs
  case ifnonnull off =>
    have hfall : am_pcz cd (i + 1) = pc + 3 := of_decide_eq_true hfall
    simp only [am_sp] at hs
    have hm := of_decide_eq_true hm
    rw [hfall] at hs
    exact sm_ifnonnull C hdec hm hs
  case goto off =>
    simp only [am_sp] at hs
    have hm := of_decide_eq_true hm
    exact sm_goto C hdec hm hs
  case tableswitch df lo hi offs =>
    simp only [am_sp] at hs
    obtain ⟨h1, h2, h3⟩ := am_and3 hm
    refine sm_tsw (tg := fun t => am_pcz cd (am_fd cd ((pc : Int) + t))) C hdec (of_decide_eq_true h3) (of_decide_eq_true h1) (fun t ht => of_decide_eq_true (List.all_eq_true.mp h2 t ht)) hs
  case lookupswitch df ps =>
    simp only [am_sp] at hs
    obtain ⟨h12, h3, h4⟩ := am_and3 hm
    rw [Bool.and_eq_true] at h12
    refine sm_lsw (tg := fun t => am_pcz cd (am_fd cd ((pc : Int) + t))) C hdec h3 (of_decide_eq_true h12.1) (fun t ht => of_decide_eq_true (List.all_eq_true.mp h12.2 t ht)) hs
  case getfield k =>
    have hfall : am_pcz cd (i + 1) = pc + 3 := of_decide_eq_true hfall
    simp only [am_sp] at hs
    have hm := of_decide_eq_true hm
    rw [hfall] at hs
    exact sm_getfield C hdec hm.1 hm.2.1 hm.2.2 hs
  case putfield k =>
    have hfall : am_pcz cd (i + 1) = pc + 3 := of_decide_eq_true hfall
    simp only [am_sp] at hs
    simp only [Bool.and_eq_true, Bool.or_eq_true, decide_eq_true_eq, beq_iff_eq] at hm
    obtain ⟨⟨h1, h2, h3⟩, h4⟩ := hm
    rw [hfall] at hs
    split at hs
    · rename_i hf
      unfold am_pvo at hs
      split at hs
      · rename_i v o r
        rcases v with x | x | x
        · exact hs.elim
        · exact hs.elim
        · obtain ⟨⟨hx, hly⟩, hs⟩ := hs
          exact sm_putfield (σ' := (σ.1, am_up σ.2.1 o (b : Int) x, σ.2.2)) C hdec h1 h2 h3 h4 hii hly rfl (Or.inl ⟨hf, x, rfl, hx, rfl⟩) hs
      · exact hs.elim
    · rename_i hf
      unfold am_pvo at hs
      split at hs
      · rename_i v o r
        rcases v with x | x | x
        · obtain ⟨⟨hx, hly⟩, hs⟩ := hs
          exact sm_putfield (σ' := (σ.1, σ.2.1, am_up σ.2.2 o (b : Int) x)) C hdec h1 h2 h3 h4 hii hly rfl (Or.inr ⟨hf, x, rfl, hx, rfl⟩) hs
        · exact hs.elim
        · exact hs.elim
      · exact hs.elim
  case getstatic k =>
    have hfall : am_pcz cd (i + 1) = pc + 3 := of_decide_eq_true hfall
    simp only [am_sp] at hs
    have hm := of_decide_eq_true hm
    rw [hfall] at hs
    exact sm_getstatic C hdec hm hs
  case newarray t =>
    have hfall : am_pcz cd (i + 1) = pc + 2 := of_decide_eq_true hfall
    simp only [am_sp] at hs
    rw [hfall] at hs
    exact sm_newarray C hdec am_small hs
  case anewarray k =>
    have hfall : am_pcz cd (i + 1) = pc + 3 := of_decide_eq_true hfall
    simp only [am_sp] at hs
    have hm := of_decide_eq_true hm
    rw [hfall] at hs
    exact sm_anewarray C hdec hm am_small hs
  case new k =>
    have hfall : am_pcz cd (i + 1) = pc + 3 := of_decide_eq_true hfall
    simp only [am_sp] at hs
    have hm := of_decide_eq_true hm
    rw [hfall] at hs
    exact sm_new C hdec hm.1 hm.2 hs
  case invokestatic k =>
    have hfall : am_pcz cd (i + 1) = pc + 3 := of_decide_eq_true hfall
    simp only [am_sp] at hs
    rw [hfall] at hs
    split at hs
    · rename_i e
      subst e
      exact sm_arraycopy C hdec (of_decide_eq_true hm) hs
    · rename_i e1
      split at hs
      · rename_i e
        subst e
        exact sm_max C hdec (of_decide_eq_true hm) hs
      · rename_i e2
        split at hs
        · rename_i e
          subst e
          exact sm_min C hdec (of_decide_eq_true hm) hs
        · rename_i e3
          simp only [if_neg e1, if_neg e2, if_neg e3] at hm
          obtain ⟨m1, m2, m3, m4, m5, m6⟩ := of_decide_eq_true hm
          have hnm := am_cn_all a m2 m5
          exact sm_callS (hcon a m2 m5) ((am_mo_all a m2).resolve_right m5) hnm m3 m6 hfr hlo C hdec m1 m4 hs
  case invokespecial k =>
    have hfall : am_pcz cd (i + 1) = pc + 3 := of_decide_eq_true hfall
    simp only [am_sp] at hs
    rw [hfall] at hs
    split at hs
    · rename_i e
      subst e
      exact sm_obj C hdec (of_decide_eq_true hm) hs
    · rename_i e1
      simp only [if_neg e1] at hm
      obtain ⟨m1, m2, m3, m4, m5, m6, m7⟩ := of_decide_eq_true hm
      have hnm := am_cn_all a m2 m6
      have hi : (am_m a).1.name = "<init>" := by have := hnm.2.2.1; rw [m4] at this; exact eq_of_beq this
      exact sm_callI (hcon a m2 m6) ((am_mo_all a m2).resolve_right m6) hnm m3 (am_iret a m2 m4) m7 hfr hlo C hdec m1 m5 hi hs
  case invokevirtual k =>
    have hfall : am_pcz cd (i + 1) = pc + 3 := of_decide_eq_true hfall
    simp only [am_sp] at hs
    rw [hfall] at hs
    obtain ⟨m1, m2, m3, m4, m5, m6, m7, m8, m9⟩ := of_decide_eq_true hm
    have hnm := am_cn_all a m2 m8
    have hi : (am_m a).1.name ≠ "<init>" := by
      intro z
      have := hnm.2.2.1
      rw [m4, z] at this
      exact absurd this (by decide)
    have hcl : (am_vc n.toNat).1 = (am_m a).1.cls := by
      rw [(am_vo_ok _ m6).1, m7]
      exact hnm.2.1.symm
    exact sm_callV (hcon a m2 m8) ((am_mo_all a m2).resolve_right m8) hnm m3 m9 hfr hlo C hdec m1 m5 m6 hcl hi hs
  case ireturn =>
    simp only [am_sp] at hs
    unfold am_p1 at hs
    split at hs
    · rename_i x r
      obtain ⟨hx, hs⟩ := hs
      obtain ⟨rfl, hq⟩ := am_p0_at hs
      refine ⟨hle _ _ hq, fun ρ H locs Ls I => hfin (some (am_i x)) σ ρ H locs Ls ls pc hq I (Or.inr (Or.inr ⟨x, rfl, ?_, hdec⟩))⟩
      simp only [Bool.or_eq_true, decide_eq_true_eq] at hm
      rcases hm with ⟨h1, h2⟩ | h1
      · exact Or.inl ⟨h1, hx h2⟩
      · exact Or.inr h1
    · exact hs.elim
  case lreturn =>
    simp only [am_sp] at hs
    unfold am_pl at hs
    split at hs
    · rename_i x r
      obtain ⟨rfl, hq⟩ := am_p0_at hs
      exact ⟨hle _ _ hq, fun ρ H locs Ls I => hfin (some (am_l x)) σ ρ H locs Ls ls pc hq I (Or.inr (Or.inl ⟨x, rfl, of_decide_eq_true hm, hdec⟩))⟩
    · exact hs.elim
  case return_ =>
    simp only [am_sp] at hs
    obtain ⟨rfl, hq⟩ := am_p0_at hs
    exact ⟨hle _ _ hq, fun ρ H locs Ls I => hfin none σ ρ H locs Ls ls pc hq I (Or.inl ⟨rfl, of_decide_eq_true hm, hdec⟩)⟩
