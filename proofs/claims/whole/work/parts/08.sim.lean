/-! ===== the simulation: a run of the abstract machine is a run of the machine ===== -/
abbrev am_X : Type := (Program × Launch × Env × Room × State) × (MethodId × Array Value × List Frame × Method × Code) × (State → Prop)
abbrev am_Y : Type := (va_G × (Nat → ClassId) × (Nat → Prop)) × ((Nat → Nat) × am_S × am_S × Nat) × (Nat × Nat × Nat × (Nat → Int32))
def am_W (X : am_X) (H : Heap) (locs : List Loc) (cells slots : Nat) (g : JFrame) : Prop :=
  W X.1.1 X.1.2.1 X.1.2.2.1 X.1.2.2.2.1 X.1.2.2.2.2 X.2.1.1 X.2.1.2.1 X.2.1.2.2.1 X.2.1.2.2.2.1 X.2.1.2.2.2.2 H locs cells slots X.2.2 g
def am_tys (G : Nat → ClassId) : List (ClassId × FieldType) := [(G 1, .int), (G 2, .long), (G 3, .byte), (G 4, .boolean), (G 5, .object RX9)]
def am_Kx (D : va_G) (G : Nat → ClassId) (U : State) : Prop := va_K D vwCl (am_tys G) U ∧ (∀ w ∈ am_nest, va_Nw w U) ∧ va_AO RX9 U
def am_Ox (t b L : Nat) (xs : Nat → Int32) (A : Nat → Prop) (U : State) (H : Heap) : Prop :=
  va_Z RX11 "TENS" "[I" (.ref t) A U H ∧ va_T .int t 7 (fun j => .int (Int32.ofInt (am_tn j))) A U H ∧ va_X b L xs U H ∧ b < H.size ∧ ¬ A b
/-- what holds of the machine and its heap beside the abstract state -/
def am_Iv (X : am_X) (Y : am_Y) (ρ : Nat → Nat) (H : Heap) (locs : List Loc) (Ls : Array Slot) (ls : am_L) (st : List am_V) (σ : am_S) : Prop :=
  va_P Y.1.1 vwCl (am_ws Y.1.2.1 ρ σ) H ∧ va_D Y.1.2.2 (am_ws Y.1.2.1 ρ σ) ∧ va_S Y.1.2.2 X.1.2.2.2.2.heap H locs ∧ (∀ o, o < Y.2.1.2.1.1 → ρ o = Y.2.1.1 o) ∧ Y.2.1.2.1.1 ≤ σ.1 ∧ am_rg σ ∧ (σ.2.2 2 = Y.2.1.2.1.2.2 2 ∧ σ.2.2 0 = Y.2.1.2.1.2.2 0) ∧ am_LR ρ Y.2.1.2.2.2 Ls ls ∧ (∀ v ∈ st, am_ok σ.1 v) ∧ ∀ (i : Nat) (v : am_V), ls[i]? = some (some v) → am_ok σ.1 v
def am_Kp (X : am_X) (Y : am_Y) (pc : Nat) (ls : am_L) (st : List am_V) (σ : am_S) : Prop :=
  σ.1 ≤ Y.2.1.2.2.1.1 ∧ ∀ (ρ : Nat → Nat) (H : Heap) (locs : List Loc) (Ls : Array Slot), am_Iv X Y ρ H locs Ls ls st σ → am_W X H locs (σ.1 - Y.2.1.2.1.1) (am_ss σ.1 - am_ss Y.2.1.2.1.1) (F0 X.2.1.1 pc Ls (st.map (am_tov ρ)))
/-- the fixed things: the machine, the code, the words, the tables, the cells outside -/
def am_Cx (X : am_X) (Y : am_Y) (cc : ByteArray) (ow : Nat) : Prop :=
  X.1.1.tables.exec = Jvm.exec ∧ X.2.1.2.2.2.2.code = cc ∧ X.2.1.2.2.2.2.maxLocals = Y.2.1.2.2.2 ∧ X.1.2.2.2.2.vm.findClass (am_own ow) = some X.2.1.1.cls ∧ (∀ w ∈ am_good, w.before X.2.1.2.1 X.1.2.2.2.2 = true) ∧
  am_Kx Y.1.1 Y.1.2.1 X.1.2.2.2.2 ∧ am_Ox Y.2.2.1 Y.2.2.2.1 Y.2.2.2.2.1 Y.2.2.2.2.2 Y.1.2.2 X.1.2.2.2.2 X.1.2.2.2.2.heap ∧ (∀ q, X.1.2.2.2.2.heap.size ≤ q → Y.1.2.2 q) ∧
  (Y.2.1.1 1 = Y.2.2.1 ∧ Y.2.1.1 2 = Y.2.2.2.1 ∧ 3 ≤ Y.2.1.2.1.1) ∧ (Y.2.1.2.1.2.2 0 0 = (Y.2.2.2.2.1 : Int) ∧ Y.2.2.2.2.1 < 2147483648 ∧ ∀ j : Nat, j < Y.2.2.2.2.1 → Y.2.1.2.1.2.2 2 j = (Y.2.2.2.2.2 j).toInt) ∧
  (Y.2.1.2.2.1.1 - Y.2.1.2.1.1 ≤ X.1.2.2.2.1.cells ∧ am_ss Y.2.1.2.2.1.1 - am_ss Y.2.1.2.1.1 ≤ X.1.2.2.2.1.slots ∧ 1 ≤ X.1.2.2.2.1.frames ∧ 33 ≤ X.1.2.2.2.1.locals)
theorem am_Iv.stk {X : am_X} {Y : am_Y} {ρ : Nat → Nat} {H : Heap} {locs : List Loc} {Ls : Array Slot} {ls : am_L} {st st' : List am_V} {σ : am_S} (I : am_Iv X Y ρ H locs Ls ls st σ) (h : ∀ v ∈ st', am_ok σ.1 v) : am_Iv X Y ρ H locs Ls ls st' σ :=
  ⟨I.1, I.2.1, I.2.2.1, I.2.2.2.1, I.2.2.2.2.1, I.2.2.2.2.2.1, I.2.2.2.2.2.2.1, I.2.2.2.2.2.2.2.1, h, I.2.2.2.2.2.2.2.2.2⟩
theorem am_Iv.sok {X : am_X} {Y : am_Y} {ρ : Nat → Nat} {H : Heap} {locs : List Loc} {Ls : Array Slot} {ls : am_L} {st : List am_V} {σ : am_S} (I : am_Iv X Y ρ H locs Ls ls st σ) : ∀ v ∈ st, am_ok σ.1 v := I.2.2.2.2.2.2.2.2.1
theorem am_Iv.lok {X : am_X} {Y : am_Y} {ρ : Nat → Nat} {H : Heap} {locs : List Loc} {Ls : Array Slot} {ls : am_L} {st : List am_V} {σ : am_S} (I : am_Iv X Y ρ H locs Ls ls st σ) : ∀ (i : Nat) (v : am_V), ls[i]? = some (some v) → am_ok σ.1 v := I.2.2.2.2.2.2.2.2.2
theorem am_Iv.lr {X : am_X} {Y : am_Y} {ρ : Nat → Nat} {H : Heap} {locs : List Loc} {Ls : Array Slot} {ls : am_L} {st : List am_V} {σ : am_S} (I : am_Iv X Y ρ H locs Ls ls st σ) : am_LR ρ Y.2.1.2.2.2 Ls ls := I.2.2.2.2.2.2.2.1
theorem am_Iv.loc {X : am_X} {Y : am_Y} {ρ : Nat → Nat} {H : Heap} {locs : List Loc} {Ls Ls' : Array Slot} {ls ls' : am_L} {st st' : List am_V} {σ : am_S} (I : am_Iv X Y ρ H locs Ls ls st σ) (hl : am_LR ρ Y.2.1.2.2.2 Ls' ls') (h : ∀ v ∈ st', am_ok σ.1 v) (h2 : ∀ (i : Nat) (v : am_V), ls'[i]? = some (some v) → am_ok σ.1 v) : am_Iv X Y ρ H locs Ls' ls' st' σ :=
  ⟨I.1, I.2.1, I.2.2.1, I.2.2.2.1, I.2.2.2.2.1, I.2.2.2.2.2.1, I.2.2.2.2.2.2.1, hl, h, h2⟩
theorem am_all1 {n : Nat} {v : am_V} {r : List am_V} (h : am_ok n v) (hr : ∀ v ∈ r, am_ok n v) : ∀ w ∈ v :: r, am_ok n w := fun w hw => by
  rcases List.mem_cons.mp hw with rfl | q
  · exact h
  · exact hr w q
theorem am_hd {n : Nat} {v : am_V} {r : List am_V} (h : ∀ w ∈ v :: r, am_ok n w) : am_ok n v := h v List.mem_cons_self
theorem am_tl {n : Nat} {v : am_V} {r : List am_V} (h : ∀ w ∈ v :: r, am_ok n w) : ∀ w ∈ r, am_ok n w := fun w hw => h w (List.mem_cons_of_mem _ hw)
section SM
variable {X : am_X} {Y : am_Y} {cc : ByteArray} {ow pc : Nat} {ls : am_L} {st : List am_V} {σ : am_S}
theorem am_bip {n : Int} (h : -128 ≤ n ∧ n ≤ 127) : (Int8.ofInt n).toInt32 = Int32.ofInt n := Int8.toInt32_ofInt (by show -128 ≤ n; omega) (by show n ≤ 127; omega)
theorem am_sip {n : Int} (h : -32768 ≤ n ∧ n ≤ 32767) : (Int16.ofInt n).toInt32 = Int32.ofInt n := Int16.toInt32_ofInt (by show -32768 ≤ n; omega) (by show n ≤ 32767; omega)
theorem sm_iconst {n : Int} (C : am_Cx X Y cc ow) (hd : decode cc pc = .ok (.iconst n, 1)) (hn : -10 ≤ n ∧ n ≤ 10) (h : am_Kp X Y (pc + 1) ls (am_i n :: st) σ) : am_Kp X Y pc ls st σ :=
  ⟨h.1, fun ρ H locs Ls I => lv_iconst C.1 C.2.1 hd rfl (h.2 ρ H locs Ls (I.stk (am_all1 (show _ ∧ _ by omega) I.sok)))⟩
theorem sm_bipush {n : Int} (C : am_Cx X Y cc ow) (hd : decode cc pc = .ok (.bipush n, 2)) (hn : -128 ≤ n ∧ n ≤ 127) (h : am_Kp X Y (pc + 2) ls (am_i n :: st) σ) : am_Kp X Y pc ls st σ :=
  ⟨h.1, fun ρ H locs Ls I => lv_bipush C.1 C.2.1 hd (am_bip hn) (h.2 ρ H locs Ls (I.stk (am_all1 (show _ ∧ _ by omega) I.sok)))⟩
theorem sm_sipush {n : Int} (C : am_Cx X Y cc ow) (hd : decode cc pc = .ok (.sipush n, 3)) (hn : -32768 ≤ n ∧ n ≤ 32767) (h : am_Kp X Y (pc + 3) ls (am_i n :: st) σ) : am_Kp X Y pc ls st σ :=
  ⟨h.1, fun ρ H locs Ls I => lv_sipush C.1 C.2.1 hd (am_sip hn) (h.2 ρ H locs Ls (I.stk (am_all1 (show _ ∧ _ by omega) I.sok)))⟩
theorem sm_ldc {n : Int} {idx : Nat} (C : am_Cx X Y cc ow) (hd : decode cc pc = .ok (.ldc idx, 2)) (hm : (ow, idx, n) ∈ am_ct) (hn : -2147483648 ≤ n ∧ n < 2147483648) (h : am_Kp X Y (pc + 2) ls (am_i n :: st) σ) : am_Kp X Y pc ls st σ :=
  ⟨h.1, fun ρ H locs Ls I => lv_ldc C.1 C.2.1 C.2.2.2.1 (C.2.2.2.2.1 _ (am_ct_ok _ hm)) hd (h.2 ρ H locs Ls (I.stk (am_all1 hn I.sok)))⟩
theorem sm_lconst {n : Int} {k : Fin 2} (C : am_Cx X Y cc ow) (hd : decode cc pc = .ok (.lconst k, 1)) (hn : ((k : Nat) : Int) = n) (h : am_Kp X Y (pc + 1) ls (am_l n :: st) σ) : am_Kp X Y pc ls st σ := by
  refine ⟨h.1, fun ρ H locs Ls I => lv_lconst (v := Int64.ofInt n) C.1 C.2.1 hd (by rw [← hn, Int64.ofInt_eq_ofNat]) (h.2 ρ H locs Ls (I.stk (am_all1 ?_ I.sok)))⟩
  have := k.isLt
  show _ ∧ _
  omega
theorem sm_iload {k : Nat} {a : Nat} (C : am_Cx X Y cc ow) (hd : decode cc pc = .ok (.iload k, 2)) (hk : k = a) (h : am_ld ls a (fun v => am_vi v (fun n => am_Kp X Y (pc + 2) ls (am_i n :: st) σ))) : am_Kp X Y pc ls st σ := by
  unfold am_ld at h
  split at h
  · rename_i v hv
    rcases v with n | n | n
    · skip
      refine ⟨h.1, fun ρ H locs Ls I => ?_⟩
      have q := I.lr.2.2.2 _ _ hv
      subst hk
      refine lv_iload C.1 C.2.1 hd q ?_
      exact h.2 ρ H locs Ls (I.stk (am_all1 (I.lok _ _ hv) I.sok))
    · exact h.elim
    · exact h.elim
  · exact h.elim
theorem sm_iload_n {k : Fin 4} {a : Nat} (C : am_Cx X Y cc ow) (hd : decode cc pc = .ok (.iload_n k, 1)) (hk : (k : Nat) = a) (h : am_ld ls a (fun v => am_vi v (fun n => am_Kp X Y (pc + 1) ls (am_i n :: st) σ))) : am_Kp X Y pc ls st σ := by
  unfold am_ld at h
  split at h
  · rename_i v hv
    rcases v with n | n | n
    · skip
      refine ⟨h.1, fun ρ H locs Ls I => ?_⟩
      have q := I.lr.2.2.2 _ _ hv
      refine lv_iload_n C.1 C.2.1 hd hk q ?_
      exact h.2 ρ H locs Ls (I.stk (am_all1 (I.lok _ _ hv) I.sok))
    · exact h.elim
    · exact h.elim
  · exact h.elim
theorem sm_lload {k : Nat} {a : Nat} (C : am_Cx X Y cc ow) (hd : decode cc pc = .ok (.lload k, 2)) (hk : k = a) (h : am_ld ls a (fun v => am_vl v (fun n => am_Kp X Y (pc + 2) ls (am_l n :: st) σ))) : am_Kp X Y pc ls st σ := by
  unfold am_ld at h
  split at h
  · rename_i v hv
    rcases v with n | n | n
    · exact h.elim
    · skip
      refine ⟨h.1, fun ρ H locs Ls I => ?_⟩
      have q := I.lr.2.2.2 _ _ hv
      subst hk
      refine lv_lload C.1 C.2.1 hd q ?_
      exact h.2 ρ H locs Ls (I.stk (am_all1 (I.lok _ _ hv) I.sok))
    · exact h.elim
  · exact h.elim
theorem sm_lload_n {k : Fin 4} {a : Nat} (C : am_Cx X Y cc ow) (hd : decode cc pc = .ok (.lload_n k, 1)) (hk : (k : Nat) = a) (h : am_ld ls a (fun v => am_vl v (fun n => am_Kp X Y (pc + 1) ls (am_l n :: st) σ))) : am_Kp X Y pc ls st σ := by
  unfold am_ld at h
  split at h
  · rename_i v hv
    rcases v with n | n | n
    · exact h.elim
    · skip
      refine ⟨h.1, fun ρ H locs Ls I => ?_⟩
      have q := I.lr.2.2.2 _ _ hv
      refine lv_lload_n C.1 C.2.1 hd hk q ?_
      exact h.2 ρ H locs Ls (I.stk (am_all1 (I.lok _ _ hv) I.sok))
    · exact h.elim
  · exact h.elim
theorem sm_aload {k : Nat} {a : Nat} (C : am_Cx X Y cc ow) (hd : decode cc pc = .ok (.aload k, 2)) (hk : k = a) (h : am_ld ls a (fun v => am_vr v (fun n => n ≠ 0 ∧ am_Kp X Y (pc + 2) ls (am_r n :: st) σ))) : am_Kp X Y pc ls st σ := by
  unfold am_ld at h
  split at h
  · rename_i v hv
    rcases v with n | n | n
    · exact h.elim
    · exact h.elim
    · skip
      obtain ⟨h0, h⟩ := h
      refine ⟨h.1, fun ρ H locs Ls I => ?_⟩
      have q := I.lr.2.2.2 _ _ hv
      subst hk
      have hq := h.2 ρ H locs Ls (I.stk (am_all1 (I.lok _ _ hv) I.sok))
      simp only [am_tov, if_neg h0, List.map_cons] at q hq
      exact lv_aload C.1 C.2.1 hd q hq
  · exact h.elim
theorem sm_aload_n {k : Fin 4} {a : Nat} (C : am_Cx X Y cc ow) (hd : decode cc pc = .ok (.aload_n k, 1)) (hk : (k : Nat) = a) (h : am_ld ls a (fun v => am_vr v (fun n => n ≠ 0 ∧ am_Kp X Y (pc + 1) ls (am_r n :: st) σ))) : am_Kp X Y pc ls st σ := by
  unfold am_ld at h
  split at h
  · rename_i v hv
    rcases v with n | n | n
    · exact h.elim
    · exact h.elim
    · skip
      obtain ⟨h0, h⟩ := h
      refine ⟨h.1, fun ρ H locs Ls I => ?_⟩
      have q := I.lr.2.2.2 _ _ hv
      have hq := h.2 ρ H locs Ls (I.stk (am_all1 (I.lok _ _ hv) I.sok))
      simp only [am_tov, if_neg h0, List.map_cons] at q hq
      exact lv_aload_n C.1 C.2.1 hd hk q hq
  · exact h.elim
theorem sm_istore {k : Nat} {a : Nat} (C : am_Cx X Y cc ow) (hd : decode cc pc = .ok (.istore k, 2)) (hk : k = a) (h : am_p1 st (fun n st => a < ls.length ∧ am_Kp X Y (pc + 2) (am_st1 ls a (am_i n)) st σ)) : am_Kp X Y pc ls st σ := by
  unfold am_p1 at h
  split at h
  · rename_i n r
    refine ⟨h.2.1, fun ρ H locs Ls I => ?_⟩
    have hn : a < Y.2.1.2.2.2 := by rw [← I.lr.2.2.1]; exact h.1
    subst hk
    show am_W X H locs _ _ (F0 _ pc Ls (Value.int (Int32.ofInt n) :: _))
    refine lv_istore C.1 C.2.1 hd I.lr.has hn rfl (fun Ls' hl => ?_)
    exact h.2.2 ρ H locs Ls' (I.loc (I.lr.store1 (v := am_i n) h.1 hl) (am_tl I.sok) (am_st1_ok h.1 I.lok (am_hd I.sok)))
  · exact h.elim
theorem sm_istore_n {k : Fin 4} {a : Nat} (C : am_Cx X Y cc ow) (hd : decode cc pc = .ok (.istore_n k, 1)) (hk : (k : Nat) = a) (h : am_p1 st (fun n st => a < ls.length ∧ am_Kp X Y (pc + 1) (am_st1 ls a (am_i n)) st σ)) : am_Kp X Y pc ls st σ := by
  unfold am_p1 at h
  split at h
  · rename_i n r
    refine ⟨h.2.1, fun ρ H locs Ls I => ?_⟩
    have hn : a < Y.2.1.2.2.2 := by rw [← I.lr.2.2.1]; exact h.1
    show am_W X H locs _ _ (F0 _ pc Ls (Value.int (Int32.ofInt n) :: _))
    refine lv_istore_n C.1 C.2.1 hd hk I.lr.has hn rfl (fun Ls' hl => ?_)
    exact h.2.2 ρ H locs Ls' (I.loc (I.lr.store1 (v := am_i n) h.1 hl) (am_tl I.sok) (am_st1_ok h.1 I.lok (am_hd I.sok)))
  · exact h.elim
theorem sm_astore {k : Nat} {a : Nat} (C : am_Cx X Y cc ow) (hd : decode cc pc = .ok (.astore k, 2)) (hk : k = a) (h : am_pr st (fun n st => (n ≠ 0 ∧ a < ls.length) ∧ am_Kp X Y (pc + 2) (am_st1 ls a (am_r n)) st σ)) : am_Kp X Y pc ls st σ := by
  unfold am_pr at h
  split at h
  · rename_i n r
    refine ⟨h.2.1, fun ρ H locs Ls I => ?_⟩
    have h0 := h.1.1
    have e0 : am_tov ρ (am_r n) = .ref (ρ n) := if_neg h0
    have hn : a < Y.2.1.2.2.2 := by rw [← I.lr.2.2.1]; exact h.1.2
    subst hk
    show am_W X H locs _ _ (F0 _ pc Ls (am_tov ρ (am_r n) :: _))
    rw [e0]
    refine lv_astore C.1 C.2.1 hd I.lr.has hn rfl (fun Ls' hl => ?_)
    exact h.2.2 ρ H locs Ls' (I.loc (I.lr.store1 (v := am_r n) h.1.2 (by rw [e0]; exact hl)) (am_tl I.sok) (am_st1_ok h.1.2 I.lok (am_hd I.sok)))
  · exact h.elim
theorem sm_astore_n {k : Fin 4} {a : Nat} (C : am_Cx X Y cc ow) (hd : decode cc pc = .ok (.astore_n k, 1)) (hk : (k : Nat) = a) (h : am_pr st (fun n st => (n ≠ 0 ∧ a < ls.length) ∧ am_Kp X Y (pc + 1) (am_st1 ls a (am_r n)) st σ)) : am_Kp X Y pc ls st σ := by
  unfold am_pr at h
  split at h
  · rename_i n r
    refine ⟨h.2.1, fun ρ H locs Ls I => ?_⟩
    have h0 := h.1.1
    have e0 : am_tov ρ (am_r n) = .ref (ρ n) := if_neg h0
    have hn : a < Y.2.1.2.2.2 := by rw [← I.lr.2.2.1]; exact h.1.2
    show am_W X H locs _ _ (F0 _ pc Ls (am_tov ρ (am_r n) :: _))
    rw [e0]
    refine lv_astore_n C.1 C.2.1 hd hk I.lr.has hn rfl (fun Ls' hl => ?_)
    exact h.2.2 ρ H locs Ls' (I.loc (I.lr.store1 (v := am_r n) h.1.2 (by rw [e0]; exact hl)) (am_tl I.sok) (am_st1_ok h.1.2 I.lok (am_hd I.sok)))
  · exact h.elim
theorem sm_lstore {k : Nat} {a : Nat} (C : am_Cx X Y cc ow) (hd : decode cc pc = .ok (.lstore k, 2)) (hk : k = a) (h : am_pl st (fun n st => a + 1 < ls.length ∧ am_Kp X Y (pc + 2) (am_st2 ls a (am_l n)) st σ)) : am_Kp X Y pc ls st σ := by
  unfold am_pl at h
  split at h
  · rename_i n r
    refine ⟨h.2.1, fun ρ H locs Ls I => ?_⟩
    have hn : a + 1 < Y.2.1.2.2.2 := by rw [← I.lr.2.2.1]; exact h.1
    subst hk
    show am_W X H locs _ _ (F0 _ pc Ls (Value.long (Int64.ofInt n) :: _))
    refine lv_lstore C.1 C.2.1 hd I.lr.has hn rfl (fun Ls' hl => ?_)
    exact h.2.2 ρ H locs Ls' (I.loc (I.lr.store2 (v := am_l n) h.1 hl) (am_tl I.sok) (am_st2_ok h.1 I.lok (am_hd I.sok)))
  · exact h.elim
theorem sm_iinc {k a : Nat} {n : Int} (C : am_Cx X Y cc ow) (hd : decode cc pc = .ok (.iinc k n, 3)) (hk : k = a) (h : am_ld ls a (fun v => am_vi v (fun x => am_Kp X Y (pc + 3) (am_st1 ls a (am_i (w32 (x + n)))) st σ))) : am_Kp X Y pc ls st σ := by
  subst hk
  unfold am_ld at h
  split at h
  · rename_i v hv
    rcases v with x | x | x
    · refine ⟨h.1, fun ρ H locs Ls I => ?_⟩
      have hlen : k < ls.length := (List.getElem?_eq_some_iff.mp hv).1
      have hn : k < Y.2.1.2.2.2 := by rw [← I.lr.2.2.1]; exact hlen
      obtain ⟨j, hj⟩ := List.getElem?_of_mem (am_lv_mem.mpr ⟨_, hv, rfl⟩ : ((k, am_tov ρ (am_i x)) : Nat × Value) ∈ am_lv ρ ls)
      refine lv_iinc (k := j) (v := Int32.ofInt (w32 (x + n))) C.1 C.2.1 hd I.lr.has hj (by rw [am_ofw, Int32.ofInt_add]) hn rfl (fun Ls' hl => ?_)
      exact h.2 ρ H locs Ls' (I.loc (I.lr.store1 (v := am_i (w32 (x + n))) hlen hl) I.sok (am_st1_ok hlen I.lok (am_w32r _)))
    · exact h.elim
    · exact h.elim
  · exact h.elim
theorem sm_iadd (C : am_Cx X Y cc ow) (hd : decode cc pc = .ok (.iadd, 1)) (h : am_p2 st (fun a b st => am_Kp X Y (pc + 1) ls (am_i (w32 (a + b)) :: st) σ)) : am_Kp X Y pc ls st σ := by
  unfold am_p2 at h
  split at h
  · rename_i b a r
    refine ⟨h.1, fun ρ H locs Ls I => ?_⟩
    have hb : -2147483648 ≤ b ∧ b < 2147483648 := am_hd I.sok
    have ha : -2147483648 ≤ a ∧ a < 2147483648 := am_hd (am_tl I.sok)
    show am_W X H locs _ _ (F0 _ pc Ls (Value.int (Int32.ofInt b) :: Value.int (Int32.ofInt a) :: _))
    refine lv_iadd C.1 C.2.1 hd ?_
    have k := h.2 ρ H locs Ls (I.stk (am_all1 (am_w32r _) (am_tl (am_tl I.sok))))
    simp only [am_tov, List.map_cons] at k
    rw [show Int32.ofInt (w32 (a + b)) = _ from by rw [am_ofw, Int32.ofInt_add]] at k
    exact k
  · exact h.elim
theorem sm_isub (C : am_Cx X Y cc ow) (hd : decode cc pc = .ok (.isub, 1)) (h : am_p2 st (fun a b st => am_Kp X Y (pc + 1) ls (am_i (w32 (a - b)) :: st) σ)) : am_Kp X Y pc ls st σ := by
  unfold am_p2 at h
  split at h
  · rename_i b a r
    refine ⟨h.1, fun ρ H locs Ls I => ?_⟩
    have hb : -2147483648 ≤ b ∧ b < 2147483648 := am_hd I.sok
    have ha : -2147483648 ≤ a ∧ a < 2147483648 := am_hd (am_tl I.sok)
    show am_W X H locs _ _ (F0 _ pc Ls (Value.int (Int32.ofInt b) :: Value.int (Int32.ofInt a) :: _))
    refine lv_isub C.1 C.2.1 hd ?_
    have k := h.2 ρ H locs Ls (I.stk (am_all1 (am_w32r _) (am_tl (am_tl I.sok))))
    simp only [am_tov, List.map_cons] at k
    rw [show Int32.ofInt (w32 (a - b)) = _ from by rw [am_ofw, Int32.ofInt_sub]] at k
    exact k
  · exact h.elim
theorem sm_imul (C : am_Cx X Y cc ow) (hd : decode cc pc = .ok (.imul, 1)) (h : am_p2 st (fun a b st => am_Kp X Y (pc + 1) ls (am_i (w32 (a * b)) :: st) σ)) : am_Kp X Y pc ls st σ := by
  unfold am_p2 at h
  split at h
  · rename_i b a r
    refine ⟨h.1, fun ρ H locs Ls I => ?_⟩
    have hb : -2147483648 ≤ b ∧ b < 2147483648 := am_hd I.sok
    have ha : -2147483648 ≤ a ∧ a < 2147483648 := am_hd (am_tl I.sok)
    show am_W X H locs _ _ (F0 _ pc Ls (Value.int (Int32.ofInt b) :: Value.int (Int32.ofInt a) :: _))
    refine lv_imul C.1 C.2.1 hd ?_
    have k := h.2 ρ H locs Ls (I.stk (am_all1 (am_w32r _) (am_tl (am_tl I.sok))))
    simp only [am_tov, List.map_cons] at k
    rw [show Int32.ofInt (w32 (a * b)) = _ from by rw [am_ofw, Int32.ofInt_mul]] at k
    exact k
  · exact h.elim
theorem sm_iand (C : am_Cx X Y cc ow) (hd : decode cc pc = .ok (.iand, 1)) (h : am_p2 st (fun a b st => am_Kp X Y (pc + 1) ls (am_i (am_and a b) :: st) σ)) : am_Kp X Y pc ls st σ := by
  unfold am_p2 at h
  split at h
  · rename_i b a r
    refine ⟨h.1, fun ρ H locs Ls I => ?_⟩
    have hb : -2147483648 ≤ b ∧ b < 2147483648 := am_hd I.sok
    have ha : -2147483648 ≤ a ∧ a < 2147483648 := am_hd (am_tl I.sok)
    show am_W X H locs _ _ (F0 _ pc Ls (Value.int (Int32.ofInt b) :: Value.int (Int32.ofInt a) :: _))
    refine lv_iand C.1 C.2.1 hd ?_
    have k := h.2 ρ H locs Ls (I.stk (am_all1 (am_to32 _) (am_tl (am_tl I.sok))))
    simp only [am_tov, List.map_cons] at k
    rw [show Int32.ofInt (am_and a b) = _ from by unfold am_and; rw [am_of32]] at k
    exact k
  · exact h.elim
theorem sm_ishr (C : am_Cx X Y cc ow) (hd : decode cc pc = .ok (.ishr, 1)) (h : am_p2 st (fun a b st => am_Kp X Y (pc + 1) ls (am_i (am_shr a b) :: st) σ)) : am_Kp X Y pc ls st σ := by
  unfold am_p2 at h
  split at h
  · rename_i b a r
    refine ⟨h.1, fun ρ H locs Ls I => ?_⟩
    have hb : -2147483648 ≤ b ∧ b < 2147483648 := am_hd I.sok
    have ha : -2147483648 ≤ a ∧ a < 2147483648 := am_hd (am_tl I.sok)
    show am_W X H locs _ _ (F0 _ pc Ls (Value.int (Int32.ofInt b) :: Value.int (Int32.ofInt a) :: _))
    refine lv_ishr C.1 C.2.1 hd ?_
    have k := h.2 ρ H locs Ls (I.stk (am_all1 (am_to32 _) (am_tl (am_tl I.sok))))
    simp only [am_tov, List.map_cons] at k
    rw [show Int32.ofInt (am_shr a b) = _ from by unfold am_shr; rw [am_of32]] at k
    exact k
  · exact h.elim
theorem sm_iushr (C : am_Cx X Y cc ow) (hd : decode cc pc = .ok (.iushr, 1)) (h : am_p2 st (fun a b st => am_Kp X Y (pc + 1) ls (am_i (am_ushr a b) :: st) σ)) : am_Kp X Y pc ls st σ := by
  unfold am_p2 at h
  split at h
  · rename_i b a r
    refine ⟨h.1, fun ρ H locs Ls I => ?_⟩
    have hb : -2147483648 ≤ b ∧ b < 2147483648 := am_hd I.sok
    have ha : -2147483648 ≤ a ∧ a < 2147483648 := am_hd (am_tl I.sok)
    show am_W X H locs _ _ (F0 _ pc Ls (Value.int (Int32.ofInt b) :: Value.int (Int32.ofInt a) :: _))
    refine lv_iushr (v := Int32.ofInt (am_ushr a b)) C.1 C.2.1 hd (Eq.symm (by unfold am_ushr; rw [am_of32])) ?_
    exact h.2 ρ H locs Ls (I.stk (am_all1 (am_to32 _) (am_tl (am_tl I.sok))))
  · exact h.elim
theorem sm_idiv (C : am_Cx X Y cc ow) (hd : decode cc pc = .ok (.idiv, 1)) (h : am_p2 st (fun a b st => b ≠ 0 ∧ am_Kp X Y (pc + 1) ls (am_i (w32 (a.tdiv b)) :: st) σ)) : am_Kp X Y pc ls st σ := by
  unfold am_p2 at h
  split at h
  · rename_i b a r
    refine ⟨h.2.1, fun ρ H locs Ls I => ?_⟩
    have hb : -2147483648 ≤ b ∧ b < 2147483648 := am_hd I.sok
    have ha : -2147483648 ≤ a ∧ a < 2147483648 := am_hd (am_tl I.sok)
    show am_W X H locs _ _ (F0 _ pc Ls (Value.int (Int32.ofInt b) :: Value.int (Int32.ofInt a) :: _))
    refine lv_idiv C.1 C.2.1 hd (fun z => h.1 ((am_eq0 hb).mp z)) ?_
    have k := h.2.2 ρ H locs Ls (I.stk (am_all1 (am_w32r _) (am_tl (am_tl I.sok))))
    simp only [am_tov, List.map_cons] at k
    rw [show Int32.ofInt (w32 (a.tdiv b)) = _ from (am_div ha hb).symm] at k
    exact k
  · exact h.elim
theorem sm_irem (C : am_Cx X Y cc ow) (hd : decode cc pc = .ok (.irem, 1)) (h : am_p2 st (fun a b st => b ≠ 0 ∧ am_Kp X Y (pc + 1) ls (am_i (w32 (a.tmod b)) :: st) σ)) : am_Kp X Y pc ls st σ := by
  unfold am_p2 at h
  split at h
  · rename_i b a r
    refine ⟨h.2.1, fun ρ H locs Ls I => ?_⟩
    have hb : -2147483648 ≤ b ∧ b < 2147483648 := am_hd I.sok
    have ha : -2147483648 ≤ a ∧ a < 2147483648 := am_hd (am_tl I.sok)
    show am_W X H locs _ _ (F0 _ pc Ls (Value.int (Int32.ofInt b) :: Value.int (Int32.ofInt a) :: _))
    refine lv_irem C.1 C.2.1 hd (fun z => h.1 ((am_eq0 hb).mp z)) ?_
    have k := h.2.2 ρ H locs Ls (I.stk (am_all1 (am_w32r _) (am_tl (am_tl I.sok))))
    simp only [am_tov, List.map_cons] at k
    rw [show Int32.ofInt (w32 (a.tmod b)) = _ from (am_rem ha hb).symm] at k
    exact k
  · exact h.elim
theorem sm_lor (C : am_Cx X Y cc ow) (hd : decode cc pc = .ok (.lor, 1)) (h : am_pll st (fun a b st => am_Kp X Y (pc + 1) ls (am_l (am_lor a b) :: st) σ)) : am_Kp X Y pc ls st σ := by
  unfold am_pll at h
  split at h
  · rename_i b a r
    refine ⟨h.1, fun ρ H locs Ls I => ?_⟩
    show am_W X H locs _ _ (F0 _ pc Ls (Value.long (Int64.ofInt b) :: Value.long (Int64.ofInt a) :: _))
    refine lv_lor C.1 C.2.1 hd ?_
    have k := h.2 ρ H locs Ls (I.stk (am_all1 (am_to64 _) (am_tl (am_tl I.sok))))
    simp only [am_tov, List.map_cons] at k
    rw [show Int64.ofInt (am_lor a b) = _ from by unfold am_lor; rw [am_of64]] at k
    exact k
  · exact h.elim
theorem sm_lshl (C : am_Cx X Y cc ow) (hd : decode cc pc = .ok (.lshl, 1)) (h : am_pli st (fun a b st => am_Kp X Y (pc + 1) ls (am_l (am_lshl a b) :: st) σ)) : am_Kp X Y pc ls st σ := by
  unfold am_pli at h
  split at h
  · rename_i b a r
    refine ⟨h.1, fun ρ H locs Ls I => ?_⟩
    show am_W X H locs _ _ (F0 _ pc Ls (Value.int (Int32.ofInt b) :: Value.long (Int64.ofInt a) :: _))
    refine lv_lshl (v := Int64.ofInt (am_lshl a b)) C.1 C.2.1 hd (Eq.symm (by unfold am_lshl; rw [am_of64])) ?_
    exact h.2 ρ H locs Ls (I.stk (am_all1 (am_to64 _) (am_tl (am_tl I.sok))))
  · exact h.elim
theorem sm_lshr (C : am_Cx X Y cc ow) (hd : decode cc pc = .ok (.lshr, 1)) (h : am_pli st (fun a b st => am_Kp X Y (pc + 1) ls (am_l (am_lshr a b) :: st) σ)) : am_Kp X Y pc ls st σ := by
  unfold am_pli at h
  split at h
  · rename_i b a r
    refine ⟨h.1, fun ρ H locs Ls I => ?_⟩
    show am_W X H locs _ _ (F0 _ pc Ls (Value.int (Int32.ofInt b) :: Value.long (Int64.ofInt a) :: _))
    refine lv_lshr (v := Int64.ofInt (am_lshr a b)) C.1 C.2.1 hd (Eq.symm (by unfold am_lshr; rw [am_of64])) ?_
    exact h.2 ρ H locs Ls (I.stk (am_all1 (am_to64 _) (am_tl (am_tl I.sok))))
  · exact h.elim
theorem sm_lcmp (C : am_Cx X Y cc ow) (hd : decode cc pc = .ok (.lcmp, 1)) (h : am_pll st (fun a b st => am_Kp X Y (pc + 1) ls (am_i (am_lcmp a b) :: st) σ)) : am_Kp X Y pc ls st σ := by
  unfold am_pll at h
  split at h
  · rename_i b a r
    refine ⟨h.1, fun ρ H locs Ls I => ?_⟩
    show am_W X H locs _ _ (F0 _ pc Ls (Value.long (Int64.ofInt b) :: Value.long (Int64.ofInt a) :: _))
    refine W.lcmp C.1 C.2.1 hd ?_
    rw [am_cmp (am_hd (am_tl I.sok)) (am_hd I.sok)]
    refine h.2 ρ H locs Ls (I.stk (am_all1 ?_ (am_tl (am_tl I.sok))))
    show _ ∧ _
    unfold am_lcmp
    split
    · omega
    · split <;> omega
  · exact h.elim
theorem sm_i2l (C : am_Cx X Y cc ow) (hd : decode cc pc = .ok (.i2l, 1)) (h : am_p1 st (fun a st => am_Kp X Y (pc + 1) ls (am_l a :: st) σ)) : am_Kp X Y pc ls st σ := by
  unfold am_p1 at h
  split at h
  · rename_i a r
    refine ⟨h.1, fun ρ H locs Ls I => ?_⟩
    have ha : -2147483648 ≤ a ∧ a < 2147483648 := am_hd I.sok
    exact lv_i2l C.1 C.2.1 hd (am_i2l ha) (h.2 ρ H locs Ls (I.stk (am_all1 (show _ ∧ _ by omega) (am_tl I.sok))))
  · exact h.elim
theorem sm_l2i (C : am_Cx X Y cc ow) (hd : decode cc pc = .ok (.l2i, 1)) (h : am_pl st (fun a st => am_Kp X Y (pc + 1) ls (am_i (w32 a) :: st) σ)) : am_Kp X Y pc ls st σ := by
  unfold am_pl at h
  split at h
  · rename_i a r
    exact ⟨h.1, fun ρ H locs Ls I => lv_l2i C.1 C.2.1 hd (am_l2i a) (h.2 ρ H locs Ls (I.stk (am_all1 (am_w32r _) (am_tl I.sok))))⟩
  · exact h.elim
theorem sm_i2b (C : am_Cx X Y cc ow) (hd : decode cc pc = .ok (.i2b, 1)) (h : am_p1 st (fun a st => am_Kp X Y (pc + 1) ls (am_i (w8 a) :: st) σ)) : am_Kp X Y pc ls st σ := by
  unfold am_p1 at h
  split at h
  · rename_i a r
    have hw := am_w8r a
    exact ⟨h.1, fun ρ H locs Ls I => lv_i2b C.1 C.2.1 hd (am_i2b a) (h.2 ρ H locs Ls (I.stk (am_all1 (show _ ∧ _ by omega) (am_tl I.sok))))⟩
  · exact h.elim
theorem sm_dup (C : am_Cx X Y cc ow) (hd : decode cc pc = .ok (.dup, 1)) (h : am_pv1 st (fun v r => am_c1 v = true ∧ am_Kp X Y (pc + 1) ls (v :: v :: r) σ)) : am_Kp X Y pc ls st σ := by
  unfold am_pv1 at h
  split at h
  · rename_i v r
    exact ⟨h.2.1, fun ρ H locs Ls I => lv_dup C.1 C.2.1 hd (by rw [am_cat, h.1]; rfl) (h.2.2 ρ H locs Ls (I.stk (am_all1 (am_hd I.sok) I.sok)))⟩
  · exact h.elim
theorem sm_pop (C : am_Cx X Y cc ow) (hd : decode cc pc = .ok (.pop, 1)) (h : am_pv1 st (fun v r => am_c1 v = true ∧ am_Kp X Y (pc + 1) ls r σ)) : am_Kp X Y pc ls st σ := by
  unfold am_pv1 at h
  split at h
  · rename_i v r
    exact ⟨h.2.1, fun ρ H locs Ls I => lv_pop C.1 C.2.1 hd (by rw [am_cat, h.1]; rfl) (h.2.2 ρ H locs Ls (I.stk (am_tl I.sok)))⟩
  · exact h.elim
theorem sm_dup2 (C : am_Cx X Y cc ow) (hd : decode cc pc = .ok (.dup2, 1)) (h : am_pv2 st (fun v w r => (am_c1 v = true ∧ am_c1 w = true) ∧ am_Kp X Y (pc + 1) ls (v :: w :: v :: w :: r) σ)) : am_Kp X Y pc ls st σ := by
  unfold am_pv2 at h
  split at h
  · rename_i v w r
    exact ⟨h.2.1, fun ρ H locs Ls I => lv_dup2_11 C.1 C.2.1 hd (by rw [am_cat, h.1.1]; rfl) (by rw [am_cat, h.1.2]; rfl) (h.2.2 ρ H locs Ls (I.stk (am_all1 (am_hd I.sok) (am_all1 (am_hd (am_tl I.sok)) I.sok))))⟩
  · exact h.elim
theorem sm_goto {off : Int} {tg : Nat} (C : am_Cx X Y cc ow) (hd : decode cc pc = .ok (.goto off, 3)) (ht : (tg : Int) = (pc : Int) + off) (h : am_Kp X Y tg ls st σ) : am_Kp X Y pc ls st σ :=
  ⟨h.1, fun ρ H locs Ls I => lv_goto C.1 C.2.1 hd ht.symm (h.2 ρ H locs Ls I)⟩
theorem sm_if {cd : ClassFile.Cond} {off : Int} {tg : Nat} (C : am_Cx X Y cc ow) (hd : decode cc pc = .ok (.ifCond cd off, 3)) (ht : (tg : Int) = (pc : Int) + off) (h : am_p1 st (fun a st => (am_cp cd a 0 → am_Kp X Y tg ls st σ) ∧ (¬ am_cp cd a 0 → am_Kp X Y (pc + 3) ls st σ))) : am_Kp X Y pc ls st σ := by
  unfold am_p1 at h
  split at h
  · rename_i a r
    refine ⟨am_br_c (fun z => z.1) (fun z => z.1) h, fun ρ H locs Ls I => ?_⟩
    have ha : -2147483648 ≤ a ∧ a < 2147483648 := am_hd I.sok
    have I' := I.stk (am_tl I.sok)
    have h : (am_cp cd a 0 → am_W X H locs (σ.1 - Y.2.1.2.1.1) (am_ss σ.1 - am_ss Y.2.1.2.1.1) (F0 X.2.1.1 tg Ls (r.map (am_tov ρ)))) ∧ (¬ am_cp cd a 0 → am_W X H locs (σ.1 - Y.2.1.2.1.1) (am_ss σ.1 - am_ss Y.2.1.2.1.1) (F0 X.2.1.1 (pc + 3) Ls (r.map (am_tov ρ)))) := ⟨fun z => (h.1 z).2 ρ H locs Ls I', fun z => (h.2 z).2 ρ H locs Ls I'⟩
    show am_W X H locs _ _ (F0 _ pc Ls (Value.int (Int32.ofInt a) :: _))
    cases cd
    · exact lv_if_eq C.1 C.2.1 hd ht.symm (fun z => h.1 ((am_eq (b := 0) ha (show _ ∧ _ by omega)).mp z)) (fun z => h.2 (fun y => z ((am_eq (b := 0) ha (show _ ∧ _ by omega)).mpr y)))
    · exact lv_if_ne C.1 C.2.1 hd ht.symm (fun z => h.1 ((not_congr (am_eq (b := 0) ha (show _ ∧ _ by omega))).mp z)) (fun z => h.2 (fun y => y ((am_eq (b := 0) ha (show _ ∧ _ by omega)).mp z)))
    · exact lv_if_lt C.1 C.2.1 hd ht.symm (fun z => h.1 ((am_lt (b := 0) ha (show _ ∧ _ by omega)).mp z)) (fun z => h.2 (fun y => z ((am_lt (b := 0) ha (show _ ∧ _ by omega)).mpr y)))
    · exact lv_if_ge C.1 C.2.1 hd ht.symm (fun z => h.1 ((am_le (a := 0) (b := a) (show _ ∧ _ by omega) ha).mp z)) (fun z => h.2 (fun y => z ((am_le (a := 0) (b := a) (show _ ∧ _ by omega) ha).mpr y)))
    · exact lv_if_gt C.1 C.2.1 hd ht.symm (fun z => h.1 ((am_lt (a := 0) (b := a) (show _ ∧ _ by omega) ha).mp z)) (fun z => h.2 (fun y => z ((am_lt (a := 0) (b := a) (show _ ∧ _ by omega) ha).mpr y)))
    · exact lv_if_le C.1 C.2.1 hd ht.symm (fun z => h.1 ((am_le (b := 0) ha (show _ ∧ _ by omega)).mp z)) (fun z => h.2 (fun y => z ((am_le (b := 0) ha (show _ ∧ _ by omega)).mpr y)))
  · exact h.elim
theorem sm_icmp {cd : ClassFile.Cond} {off : Int} {tg : Nat} (C : am_Cx X Y cc ow) (hd : decode cc pc = .ok (.if_icmp cd off, 3)) (ht : (tg : Int) = (pc : Int) + off) (h : am_p2 st (fun a b st => (am_cp cd a b → am_Kp X Y tg ls st σ) ∧ (¬ am_cp cd a b → am_Kp X Y (pc + 3) ls st σ))) : am_Kp X Y pc ls st σ := by
  unfold am_p2 at h
  split at h
  · rename_i b a r
    refine ⟨am_br_c (fun z => z.1) (fun z => z.1) h, fun ρ H locs Ls I => ?_⟩
    have ha : -2147483648 ≤ a ∧ a < 2147483648 := am_hd (am_tl I.sok)
    have hb : -2147483648 ≤ b ∧ b < 2147483648 := am_hd I.sok
    have I' := I.stk (am_tl (am_tl I.sok))
    have h : (am_cp cd a b → am_W X H locs (σ.1 - Y.2.1.2.1.1) (am_ss σ.1 - am_ss Y.2.1.2.1.1) (F0 X.2.1.1 tg Ls (r.map (am_tov ρ)))) ∧ (¬ am_cp cd a b → am_W X H locs (σ.1 - Y.2.1.2.1.1) (am_ss σ.1 - am_ss Y.2.1.2.1.1) (F0 X.2.1.1 (pc + 3) Ls (r.map (am_tov ρ)))) := ⟨fun z => (h.1 z).2 ρ H locs Ls I', fun z => (h.2 z).2 ρ H locs Ls I'⟩
    show am_W X H locs _ _ (F0 _ pc Ls (Value.int (Int32.ofInt b) :: Value.int (Int32.ofInt a) :: _))
    cases cd
    · exact lv_icmp_eq C.1 C.2.1 hd ht.symm (fun z => h.1 ((am_eq (b := b) ha hb).mp z)) (fun z => h.2 (fun y => z ((am_eq (b := b) ha hb).mpr y)))
    · exact lv_icmp_ne C.1 C.2.1 hd ht.symm (fun z => h.1 ((not_congr (am_eq (b := b) ha hb)).mp z)) (fun z => h.2 (fun y => y ((am_eq (b := b) ha hb).mp z)))
    · exact lv_icmp_lt C.1 C.2.1 hd ht.symm (fun z => h.1 ((am_lt (b := b) ha hb).mp z)) (fun z => h.2 (fun y => z ((am_lt (b := b) ha hb).mpr y)))
    · exact lv_icmp_ge C.1 C.2.1 hd ht.symm (fun z => h.1 ((am_le (a := b) (b := a) hb ha).mp z)) (fun z => h.2 (fun y => z ((am_le (a := b) (b := a) hb ha).mpr y)))
    · exact lv_icmp_gt C.1 C.2.1 hd ht.symm (fun z => h.1 ((am_lt (a := b) (b := a) hb ha).mp z)) (fun z => h.2 (fun y => z ((am_lt (a := b) (b := a) hb ha).mpr y)))
    · exact lv_icmp_le C.1 C.2.1 hd ht.symm (fun z => h.1 ((am_le (b := b) ha hb).mp z)) (fun z => h.2 (fun y => z ((am_le (b := b) ha hb).mpr y)))
  · exact h.elim
theorem sm_ifnonnull {off : Int} {tg : Nat} (C : am_Cx X Y cc ow) (hd : decode cc pc = .ok (.ifnonnull off, 3)) (ht : (tg : Int) = (pc : Int) + off) (h : am_pr st (fun a st => (a ≠ 0 → am_Kp X Y tg ls st σ) ∧ (¬ a ≠ 0 → am_Kp X Y (pc + 3) ls st σ))) : am_Kp X Y pc ls st σ := by
  unfold am_pr at h
  split at h
  · rename_i a r
    refine ⟨am_br_c (fun z => z.1) (fun z => z.1) h, fun ρ H locs Ls I => ?_⟩
    have I' := I.stk (am_tl I.sok)
    show am_W X H locs _ _ (F0 _ pc Ls (am_tov ρ (am_r a) :: _))
    by_cases h0 : a = 0
    · rw [show am_tov ρ (am_r a) = .null from if_pos h0]
      exact lv_ifnonnullN C.1 C.2.1 hd ((h.2 (fun z => z h0)).2 ρ H locs Ls I')
    · rw [show am_tov ρ (am_r a) = .ref (ρ a) from if_neg h0]
      exact lv_ifnonnull C.1 C.2.1 hd ht.symm ((h.1 h0).2 ρ H locs Ls I')
  · exact h.elim
theorem sm_tsw {d lo hi : Int} {offs : Array Int} {len : Nat} {tg : Int → Nat} (C : am_Cx X Y cc ow) (hd : decode cc pc = .ok (.tableswitch d lo hi offs, len)) (hsz : (offs.size : Int) = hi - lo + 1) (hdf : (tg d : Int) = (pc : Int) + d) (hof : ∀ t ∈ offs.toList, (tg t : Int) = (pc : Int) + t) (h : am_p1 st (fun a st => am_Kp X Y (tg (am_tsw d lo hi offs a)) ls st σ)) : am_Kp X Y pc ls st σ := by
  unfold am_p1 at h
  split at h
  · rename_i a r
    refine ⟨h.1, fun ρ H locs Ls I => ?_⟩
    have ha : -2147483648 ≤ a ∧ a < 2147483648 := am_hd I.sok
    have k := h.2 ρ H locs Ls (I.stk (am_tl I.sok))
    show am_W X H locs _ _ (F0 _ pc Ls (Value.int (Int32.ofInt a) :: _))
    by_cases hq : a < lo ∨ hi < a
    · rw [show am_tsw d lo hi offs a = d from if_pos hq] at k
      exact lv_tableOut C.1 C.2.1 hd (by rw [am_toInt ha]; exact hq) hdf.symm k
    · have hl : (a - lo).toNat < offs.size := by omega
      rw [show am_tsw d lo hi offs a = offs.getD (a - lo).toNat d from if_neg hq, show offs.getD (a - lo).toNat d = offs[(a - lo).toNat] by simp [Array.getD, hl]] at k
      refine lv_tableIn (off := offs[(a - lo).toNat]) C.1 C.2.1 hd (by rw [am_toInt ha]; omega) (by rw [am_toInt ha]; omega) (by rw [am_toInt ha]; exact Array.getElem?_eq_getElem hl) (hof _ (by simp)).symm k
  · exact h.elim
theorem am_lsw_eq (d : Int) (x : Int) : ∀ ps : List (Int × Int), Op.lookupswitch.offset ps d x = am_lsw d ps x
  | [] => rfl
  | (k, o) :: r => by
    unfold Op.lookupswitch.offset am_lsw
    rw [am_lsw_eq d x r]
    by_cases h : x = k
    · simp [h]
    · simp [h, Ne.symm h]
theorem am_inc_zip : ∀ ps : List (Int × Int), am_inc ps = true → (ps.zip (ps.drop 1)).all (fun (a, next) => decide (a.1 < next.1)) = true
  | [], _ => rfl
  | [_], _ => rfl
  | a :: b :: r, h => by
    simp only [am_inc, Bool.and_eq_true] at h
    have := am_inc_zip (b :: r) h.2
    simp only [List.drop_succ_cons, List.drop_zero, List.zip_cons_cons, List.all_cons, Bool.and_eq_true] at this ⊢
    exact ⟨h.1, this⟩
theorem am_lsw_in (d : Int) (x : Int) : ∀ ps : List (Int × Int), am_lsw d ps x = d ∨ ∃ t ∈ ps, am_lsw d ps x = t.2
  | [] => Or.inl rfl
  | (k, o) :: r => by
    unfold am_lsw
    split
    · exact Or.inr ⟨_, List.mem_cons_self, rfl⟩
    · rcases am_lsw_in d x r with h | ⟨t, h1, h2⟩
      · exact Or.inl h
      · exact Or.inr ⟨t, List.mem_cons_of_mem _ h1, h2⟩
theorem sm_lsw {d : Int} {ps : Array (Int × Int)} {len : Nat} {tg : Int → Nat} (C : am_Cx X Y cc ow) (hd : decode cc pc = .ok (.lookupswitch d ps, len)) (hi : am_inc ps.toList = true) (hdf : (tg d : Int) = (pc : Int) + d) (hof : ∀ t ∈ ps.toList, (tg t.2 : Int) = (pc : Int) + t.2) (h : am_p1 st (fun a st => am_Kp X Y (tg (am_lsw d ps.toList a)) ls st σ)) : am_Kp X Y pc ls st σ := by
  unfold am_p1 at h
  split at h
  · rename_i a r
    refine ⟨h.1, fun ρ H locs Ls I => ?_⟩
    have ha : -2147483648 ≤ a ∧ a < 2147483648 := am_hd I.sok
    have k := h.2 ρ H locs Ls (I.stk (am_tl I.sok))
    show am_W X H locs _ _ (F0 _ pc Ls (Value.int (Int32.ofInt a) :: _))
    refine lv_lookup (off := am_lsw d ps.toList a) (tgt := tg (am_lsw d ps.toList a)) C.1 C.2.1 hd (am_inc_zip _ hi) (by rw [am_toInt ha]; exact am_lsw_eq d a _) ?_ k
    rcases am_lsw_in d a ps.toList with q | ⟨t, q1, q2⟩
    · rw [q]; exact hdf.symm
    · rw [q2]; exact (hof t q1).symm
  · exact h.elim
end SM
