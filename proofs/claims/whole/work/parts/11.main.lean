/-! ===== calls; every run of the abstract machine is a contract of the machine ===== -/
def am_sl (as : List am_V) : am_L := as.flatMap (fun v => if am_c1 v then [some v] else [some v, none])
def am_en (n : Nat) (as : List am_V) : am_L := am_sl as ++ List.replicate (n - (am_sl as).length) none
noncomputable def am_R (d : Nat) : am_RT := match d with
  | 0 => fun _ _ _ _ _ => False
  | d + 1 => fun y as σ v σ' => (am_sl as).length ≤ (am_m y).2.2.1 ∧ am_WP (am_R d) (am_cd y) (fun v' s' => v' = v ∧ s' = σ') 0 (am_en (am_m y).2.2.1 as) [] σ
theorem am_R_le (d : Nat) : ∀ y as σ v σ', am_R d y as σ v σ' → σ.1 ≤ σ'.1 := by
  induction d with
  | zero => intro y as σ v σ' h; exact h.elim
  | succ d ih =>
    intro y as σ v σ' h
    exact am_ind h.2 (fun _ _ _ s => s.1 ≤ σ'.1) (fun i row ls st s _ hs => am_sp_c ih (fun _ _ _ _ q => q) (fun v' s' q => by rw [q.2]; exact Nat.le_refl _) hs)
def am_rm (d mc ms : Nat) : Room := { frames := d, cells := mc, slots := ms, locals := 33 * d }
def am_Wy (y : Nat) : List Cond := Cond.code (am_m y).1 (am_m y).2.1 (am_m y).2.2.1 (am_m y).2.2.2.1 :: am_good
def am_Pre (D : va_G) (G : Nat → ClassId) (t b L : Nat) (xs : Nat → Int32) (ρ : Nat → Nat) (σ : am_S) (sz : Nat) (U : State) : Prop :=
  U.heap.size = sz ∧ va_P D vwCl (am_ws G ρ σ) U.heap ∧ va_D (fun _ => True) (am_ws G ρ σ) ∧ am_Kx D G U ∧ am_Ox t b L xs (va_A (am_ws G ρ σ) sz) U U.heap
def am_Post (D : va_G) (G : Nat → ClassId) (ρ : Nat → Nat) (σ : am_S) (v : Option am_V) (σ' : am_S) (sz : Nat) : Array Value → State → Outcome → State → Prop := fun _ st oc t =>
  (∃ ρ' : Nat → Nat, (∀ o, o < σ.1 → ρ' o = ρ o) ∧ oc = .returned (v.map (am_tov ρ')) ∧ va_P D vwCl (am_ws G ρ' σ') t.heap ∧ va_D (va_A (am_ws G ρ σ) sz) (am_ws G ρ' σ') ∧ am_rg σ' ∧ (σ'.2.2 2 = σ.2.2 2 ∧ σ'.2.2 0 = σ.2.2 0) ∧ (∀ w, v = some w → am_ok σ'.1 w) ∧ σ.1 ≤ σ'.1) ∧ va_F (va_A (am_ws G ρ σ) sz) st t
def am_Sd (t b L : Nat) (xs : Nat → Int32) (ρ : Nat → Nat) (as : List am_V) (σ : am_S) : Prop :=
  am_rg σ ∧ (ρ 1 = t ∧ ρ 2 = b) ∧ (σ.2.2 0 0 = (L : Int) ∧ L < 2147483648 ∧ ∀ j : Nat, j < L → σ.2.2 2 j = (xs j).toInt) ∧ ∀ w ∈ as, am_ok σ.1 w
def am_Con (l : Launch) (d y : Nat) : Prop := ∀ (D : va_G) (G : Nat → ClassId) (t b L : Nat) (xs : Nat → Int32) (ρ : Nat → Nat) (as : List am_V) (σ : am_S) (v : Option am_V) (σ' : am_S) (sz : Nat),
  am_Sd t b L xs ρ as σ → am_R d y as σ v σ' → Met l (am_m y).1 (am_Wy y) (am_rm d (σ'.1 - σ.1) (am_ss σ'.1 - am_ss σ.1)) (va_Pc (as.map (am_tov ρ)) (am_Pre D G t b L xs ρ σ sz)) (am_Post D G ρ σ v σ' sz) (σ'.1 - σ.1) (am_ss σ'.1 - am_ss σ.1) (va_A (am_ws G ρ σ) sz)
theorem am_Kx.moved {D : va_G} {G : Nat → ClassId} {s U : State} (hW : s.WarmedH U.vm) (h : am_Kx D G s) : am_Kx D G U := by
  refine ⟨va_K.moved hW.alike h.1, fun w hw => ?_, va_AO.moved hW.alike h.2.2⟩
  have h1 := h.2.1 w hw
  rcases List.mem_append.mp hw with q | q
  · obtain ⟨x, -, rfl⟩ := List.mem_map.mp q
    exact va_Nw.warmM hW h1
  · obtain ⟨x, -, rfl⟩ := List.mem_map.mp q
    exact va_Nw.warmF hW h1
theorem am_Kx.same {D : va_G} {G : Nat → ClassId} {s U : State} (hv : s.vm = U.vm) (h : am_Kx D G s) : am_Kx D G U := by
  have ha : s.vm.Alike U.vm := by rw [hv]; exact Vm.Alike.refl U.vm
  refine ⟨va_K.moved ha h.1, fun w hw => ?_, va_AO.moved ha h.2.2⟩
  have h1 := h.2.1 w hw
  rcases List.mem_append.mp hw with q | q
  · obtain ⟨x, -, rfl⟩ := List.mem_map.mp q
    exact va_Nw.same rfl hv h1
  · obtain ⟨x, -, rfl⟩ := List.mem_map.mp q
    exact va_Nw.same rfl hv h1
theorem am_Ox.moved {t b L : Nat} {xs : Nat → Int32} {A : Nat → Prop} {s U : State} {H : Heap} (hv : s.vm.Alike U.vm) (h : am_Ox t b L xs A s H) : am_Ox t b L xs A U H :=
  ⟨va_Z.moved hv h.1, va_T.moved hv h.2.1, va_X.moved hv h.2.2.1, h.2.2.2⟩
theorem am_Ox.kept {t b L : Nat} {xs : Nat → Int32} {A : Nat → Prop} {s : State} {H H1 : Heap} (h : am_Ox t b L xs A s H) (hz : H.size ≤ H1.size) (hq : ∀ a : Nat, a < H.size → ¬ A a → H1[a]? = H[a]?) : am_Ox t b L xs A s H1 :=
  ⟨h.1.kept hq, h.2.1.kept hq, h.2.2.1.kept (hq b h.2.2.2.1 h.2.2.2.2), Nat.lt_of_lt_of_le h.2.2.2.1 hz, h.2.2.2.2⟩
theorem am_Ox.narrow {t b L : Nat} {xs : Nat → Int32} {A B : Nat → Prop} {s : State} {H : Heap} (h : am_Ox t b L xs A s H) (hAB : ∀ q, B q → A q) : am_Ox t b L xs B s H :=
  ⟨h.1.narrow hAB, h.2.1.narrow hAB, h.2.2.1, h.2.2.2.1, fun z => h.2.2.2.2 (hAB b z)⟩
theorem am_blind {as : List Value} {D : va_G} {G : Nat → ClassId} {t b L : Nat} {xs : Nat → Int32} {ρ : Nat → Nat} {σ : am_S} {sz : Nat} : FrameBlind (va_Pc as (am_Pre D G t b L xs ρ σ sz)) := by
  intro a U g mk q
  obtain ⟨q0, q1, q2, q3, q4, q5⟩ := q
  exact ⟨q0, q1, q2, q3, am_Kx.same (s := U) (U := U.calling g mk a) rfl q4, am_Ox.moved (s := U) (U := U.calling g mk a) (Vm.Alike.refl U.vm) q5⟩
theorem am_cont {p : Program} {l : Launch} {e : Env} {R : Room} {s : State} {m : MethodId} {args : Array Value} {below : List Frame} {meth : Method} {c : Code} {H : Heap} {locs : List Loc} {cells slots : Nat} {Q : State → Prop} {pc : Nat} {Ls : Array Slot} {rest st0 : List Value} {a : Array Value} {A0 : Nat → Prop} {H0 : Heap} {mc ms : Nat} {free : Addr → Prop} {D : va_G} {G : Nat → ClassId} {ρ : Nat → Nat} {σ σ' : am_S} {v : Option am_V}
    (hr : va_Run p l e R s m args below meth c H locs cells slots mc ms (F0 m pc Ls st0) rest (am_Post D G ρ σ v σ' H.size a) free) (hS : va_S A0 H0 H locs) (hA : ∀ q, va_A (am_ws G ρ σ) H.size q → A0 q) (hf : ∀ q, free q → A0 q)
    (kk : ∀ (ρ' : Nat → Nat) (H1 : Heap) (locs1 : List Loc), (∀ o, o < σ.1 → ρ' o = ρ o) → va_P D vwCl (am_ws G ρ' σ') H1 → va_D (va_A (am_ws G ρ σ) H.size) (am_ws G ρ' σ') → am_rg σ' → (σ'.2.2 2 = σ.2.2 2 ∧ σ'.2.2 0 = σ.2.2 0) → (∀ w, v = some w → am_ok σ'.1 w) → σ.1 ≤ σ'.1 → va_S A0 H0 H1 locs1 → W p l e R s m args below meth c H1 locs1 (cells + mc) (slots + ms) Q (F0 m (pc + 3) Ls ((v.map (am_tov ρ')).toList ++ rest))) : W p l e R s m args below meth c H locs cells slots Q (F0 m pc Ls st0) := by
  intro T hT X
  obtain ⟨vv, st₀, t, T', L, h0, X', hL, e1, e2, ⟨⟨ρ', g1, hv, g2, g3, g4, g5, g6, g7⟩, hz, hk⟩, st⟩ := hr T hT X
  cases hv
  rw [h0] at hz hk
  obtain ⟨t2, a1, b1⟩ := kk ρ' T'.heap (locs ++ L) g1 (by rw [e1]; exact g2) g3 g4 g5 g6 g7
    ⟨Nat.le_trans hS.1 (by rw [e1]; exact hz), fun q h1 h2 => by rw [e1, hk q (Nat.lt_of_lt_of_le h1 hS.1) (fun z => h2 (hA q z))]; exact hS.2.1 q h1 h2, fun q hq => by
      rcases List.mem_append.mp hq with h | h
      · exact hS.2.2 q h
      · exact hf _ (hL q h)⟩ T' rfl X'
  exact ⟨t2, st t2 a1, b1⟩
theorem am_goodIn {y : Nat} (h : am_mok (am_m y)) : GoodIn am_good (am_Wy y) := by
  intro w hw
  have hg : w ∈ am_good := by
    rcases List.mem_cons.mp hw with rfl | q
    · exact h.1
    · exact q
  exact ⟨hg, good_of_word (List.mem_filter.mp hg).2⟩
theorem am_gw {w : Cond} (h : w ∈ am_good) : w ∈ am_good ∧ ((w.onTables && w.keeps) = true ∨ ∃ ty, w = .arrayClass ty) := ⟨h, good_of_word (List.mem_filter.mp h).2⟩
theorem am_cut {st : List am_V} {n : Nat} (h : n ≤ st.length) : ∃ u w, st = u ++ w ∧ u.length = n ∧ st.take n = u ∧ st.drop n = w :=
  ⟨st.take n, st.drop n, (List.take_append_drop n st).symm, by simp; omega, rfl, rfl⟩
/-- behind a call -/
theorem am_back {X : am_X} {Y : am_Y} {cc : ByteArray} {ow pc : Nat} {ls : am_L} {σ σ1 : am_S} {v : Option am_V} {w u : List am_V} {ρ : Nat → Nat} {H : Heap} {locs : List Loc} {Ls : Array Slot} {free : Addr → Prop} {a : Array Value} (C : am_Cx X Y cc ow) (I : am_Iv X Y ρ H locs Ls ls (u ++ w) σ)
    (hr : va_Run X.1.1 X.1.2.1 X.1.2.2.1 X.1.2.2.2.1 X.1.2.2.2.2 X.2.1.1 X.2.1.2.1 X.2.1.2.2.1 X.2.1.2.2.2.1 X.2.1.2.2.2.2 H locs (σ.1 - Y.2.1.2.1.1) (am_ss σ.1 - am_ss Y.2.1.2.1.1) (σ1.1 - σ.1) (am_ss σ1.1 - am_ss σ.1) (F0 X.2.1.1 pc Ls ((u ++ w).map (am_tov ρ))) (w.map (am_tov ρ)) (am_Post Y.1.1 Y.1.2.1 ρ σ v σ1 H.size a) free) (hfree : free = va_A (am_ws Y.1.2.1 ρ σ) H.size)
    (h : am_Kp X Y (pc + 3) ls (v.toList ++ w) σ1) : am_W X H locs (σ.1 - Y.2.1.2.1.1) (am_ss σ.1 - am_ss Y.2.1.2.1.1) (F0 X.2.1.1 pc Ls ((u ++ w).map (am_tov ρ))) := by
  have hAB : ∀ q, va_A (am_ws Y.1.2.1 ρ σ) H.size q → Y.1.2.2 q := by
    intro q hq
    rcases hq with ⟨k, e, hq⟩ | hq
    · exact I.2.1.2 k _ hq
    · exact C.2.2.2.2.2.2.2.1 q (Nat.le_trans I.2.2.1.1 hq)
  refine am_cont hr I.2.2.1 hAB (fun q hq => hAB q (by rw [hfree] at hq; exact hq)) (fun ρ' H1 locs1 g1 g2 g3 g4 g5 g6 g7 g8 => ?_)
  have hw : ∀ x ∈ w, am_ok σ.1 x := fun x hx => I.sok x (List.mem_append_right _ hx)
  have hle := I.2.2.2.2.1
  have I' : am_Iv X Y ρ' H1 locs1 Ls ls (v.toList ++ w) σ1 := by
    refine ⟨g2, ⟨g3.1, fun k q hk => hAB q.1 (g3.2 k q hk)⟩, g8, fun o ho => ?_, Nat.le_trans hle g7, g4, ⟨g5.1.trans I.2.2.2.2.2.2.1.1, g5.2.trans I.2.2.2.2.2.2.1.2⟩, I.lr.rho g1 I.lok, fun x hx => ?_, fun i x hi => am_ok_mono g7 (I.lok i x hi)⟩
    · rw [g1 o (Nat.lt_of_lt_of_le ho hle)]; exact I.2.2.2.1 o ho
    · rcases List.mem_append.mp hx with q | q
      · cases v with
        | none => cases q
        | some z =>
          rw [Option.toList_some, List.mem_singleton] at q
          exact g6 x (by rw [q])
      · exact am_ok_mono g7 (hw x q)
  have k := h.2 ρ' H1 locs1 Ls I'
  have hss := am_ss_mono g7
  have hss2 := am_ss_mono hle
  rw [show σ.1 - Y.2.1.2.1.1 + (σ1.1 - σ.1) = σ1.1 - Y.2.1.2.1.1 by omega, show am_ss σ.1 - am_ss Y.2.1.2.1.1 + (am_ss σ1.1 - am_ss σ.1) = am_ss σ1.1 - am_ss Y.2.1.2.1.1 by omega]
  rw [List.map_append, am_tov_map g1 hw] at k
  rw [show (v.map (am_tov ρ')).toList = v.toList.map (am_tov ρ') by cases v <;> rfl]
  exact k
theorem am_PreOf {X : am_X} {Y : am_Y} {cc : ByteArray} {ow : Nat} {ls : am_L} {st : List am_V} {σ : am_S} {ρ : Nat → Nat} {H : Heap} {locs : List Loc} {Ls : Array Slot} (C : am_Cx X Y cc ow) (I : am_Iv X Y ρ H locs Ls ls st σ) (as : List Value) :
    ∀ U : State, U.heap = H → X.1.2.2.2.2.WarmedH U.vm → va_Pc as (am_Pre Y.1.1 Y.1.2.1 Y.2.2.1 Y.2.2.2.1 Y.2.2.2.2.1 Y.2.2.2.2.2 ρ σ H.size) as.toArray U := by
  intro U hU hW
  have hAB : ∀ q, va_A (am_ws Y.1.2.1 ρ σ) H.size q → Y.1.2.2 q := by
    intro q hq
    rcases hq with ⟨k, e, hq⟩ | hq
    · exact I.2.1.2 k _ hq
    · exact C.2.2.2.2.2.2.2.1 q (Nat.le_trans I.2.2.1.1 hq)
  refine ⟨rfl, by rw [hU], by rw [hU]; exact I.1, ⟨I.2.1.1, fun _ _ _ => trivial⟩, am_Kx.moved hW C.2.2.2.2.2.1, ?_⟩
  rw [hU]
  exact am_Ox.moved hW.alike (((C.2.2.2.2.2.2.1).kept I.2.2.1.1 I.2.2.1.2.1).narrow hAB)
theorem am_SdOf {X : am_X} {Y : am_Y} {cc : ByteArray} {ow : Nat} {ls : am_L} {st as : List am_V} {σ : am_S} {ρ : Nat → Nat} {H : Heap} {locs : List Loc} {Ls : Array Slot} (C : am_Cx X Y cc ow) (I : am_Iv X Y ρ H locs Ls ls st σ) (ha : ∀ w ∈ as, am_ok σ.1 w) : am_Sd Y.2.2.1 Y.2.2.2.1 Y.2.2.2.2.1 Y.2.2.2.2.2 ρ as σ := by
  have h3 := C.2.2.2.2.2.2.2.2.1.2.2
  obtain ⟨g1, g2, g3⟩ := C.2.2.2.2.2.2.2.2.2.1
  obtain ⟨e2, e3⟩ := I.2.2.2.2.2.2.1
  exact ⟨I.2.2.2.2.2.1, ⟨by rw [I.2.2.2.1 1 (by omega)]; exact C.2.2.2.2.2.2.2.2.1.1, by rw [I.2.2.2.1 2 (by omega)]; exact C.2.2.2.2.2.2.2.2.1.2.1⟩, ⟨by rw [e3]; exact g1, g2, fun j hj => by rw [e2]; exact g3 j hj⟩, ha⟩
section SM4
variable {X : am_X} {Y : am_Y} {cc : ByteArray} {ow pc : Nat} {ls : am_L} {st : List am_V} {σ : am_S} {d : Nat}
theorem am_rooms (hfr : d + 1 ≤ X.1.2.2.2.1.frames) (hlo : 33 * d + 33 ≤ X.1.2.2.2.1.locals) {ml mc ms : Nat} (h : ml ≤ 14) : (am_rm d mc ms).frames + 1 ≤ X.1.2.2.2.1.frames ∧ 8 + (ml + 11) + (am_rm d mc ms).locals ≤ X.1.2.2.2.1.locals := by
  refine ⟨hfr, ?_⟩
  show 8 + (ml + 11) + 33 * d ≤ _
  omega
theorem am_fitc (C : am_Cx X Y cc ow) {σ1 : am_S} (h0 : Y.2.1.2.1.1 ≤ σ.1) (h1 : σ.1 ≤ σ1.1) (h2 : σ1.1 ≤ Y.2.1.2.2.1.1) : σ.1 - Y.2.1.2.1.1 + (σ1.1 - σ.1) ≤ X.1.2.2.2.1.cells ∧ am_ss σ.1 - am_ss Y.2.1.2.1.1 + (am_ss σ1.1 - am_ss σ.1) ≤ X.1.2.2.2.1.slots := by
  have a := am_roomle C h2
  have b1 := am_ss_mono h0
  have b2 := am_ss_mono h1
  exact ⟨by omega, by omega⟩
theorem sm_callS {idx y n : Nat} (hcon : am_Con X.1.2.1 d y) (hok : am_mok (am_m y)) (hnm : am_nmok y) (hst : (am_m y).2.2.2.2.2 = true) (hml : (am_m y).2.2.1 ≤ 14) (hfr : d + 1 ≤ X.1.2.2.2.1.frames) (hlo : 33 * d + 33 ≤ X.1.2.2.2.1.locals) (C : am_Cx X Y cc ow) (hd : decode cc pc = .ok (.invokestatic idx, 3)) (hf : (ow, idx, y) ∈ am_ml) (hn : n = am_np.getD y 0)
    (h : am_call (am_R d) (fun st σ => am_Kp X Y (pc + 3) ls st σ) y n st σ) : am_Kp X Y pc ls st σ := by
  obtain ⟨h1, h2, v, σ1, hR, h⟩ := h
  have hle := am_R_le d _ _ _ _ _ hR
  refine ⟨Nat.le_trans hle h.1, fun ρ H locs Ls I => ?_⟩
  obtain ⟨u, w, hs, hu, ht, hw⟩ := am_cut h1
  rw [ht] at hR
  rw [hw] at h h2
  subst hs
  have hM := hcon Y.1.1 Y.1.2.1 _ _ _ _ ρ u.reverse σ v σ1 H.size (am_SdOf C I (fun x hx => I.sok x (List.mem_append_left _ (List.mem_reverse.mp hx)))) hR
  refine am_back C I (va_runS (As := u.reverse.map (am_tov ρ)) (n := am_np.getD y 0) (Ts := am_good) ⟨C.1, C.2.1, C.2.2.1, C.2.2.2.1, C.2.2.2.2.1⟩ hM ⟨callB_of (Ts := am_good) _ C.2.2.2.2.1 (am_goodIn hok) rfl rfl rfl (C.2.2.2.2.1 _ hok.2.1) (C.2.2.2.2.1 _ (am_ml_ok _ hf)) ⟨hnm.2.2.2.2.1, hnm.2.2.2.2.2, hnm.1⟩ (am_rooms hfr hlo hml), C.2.2.2.2.1 _ (hok.2.2.1 hst)⟩ ⟨am_blind, am_PreOf C I _⟩ rfl (by rw [List.length_map, List.length_reverse, hu, hn]) (by exact I.lr.1) ?_ (lv_room (by rw [am_cats]; exact h2)) hd (am_fitc C I.2.2.2.2.1 hle h.1)) rfl h
  show (u ++ w).map (am_tov ρ) = _
  rw [List.map_append, List.map_reverse, List.reverse_reverse]
theorem am_cutv {st : List am_V} {n o : Nat} (h1 : n ≤ st.length) (hn : 1 ≤ n) (h : st[n - 1]? = some (am_r o)) : ∃ u w, st = (u ++ [am_r o]) ++ w ∧ u.length + 1 = n ∧ (st.take n).reverse = am_r o :: u.reverse ∧ st.drop n = w := by
  obtain ⟨u, w, hs, hu, ht, hw⟩ := am_cut h1
  have h2 : u[n - 1]? = some (am_r o) := by
    rw [hs, List.getElem?_append_left (by omega)] at h
    exact h
  obtain ⟨u', hu'⟩ : ∃ u', u = u' ++ [am_r o] := by
    have hl : n - 1 < u.length := by omega
    rw [List.getElem?_eq_getElem hl] at h2
    have h4 := List.take_append_drop (n - 1) u
    rw [List.drop_eq_getElem_cons hl, Option.some.inj h2, List.drop_eq_nil_of_le (by omega)] at h4
    exact ⟨_, h4.symm⟩
  subst hu'
  refine ⟨u', w, hs, by rw [List.length_append] at hu; exact hu, ?_, hw⟩
  rw [ht, List.reverse_append]
  rfl
theorem sm_callV {idx y n c : Nat} (hcon : am_Con X.1.2.1 d y) (hok : am_mok (am_m y)) (hnm : am_nmok y) (hst : (am_m y).2.2.2.2.2 = false) (hml : (am_m y).2.2.1 ≤ 14) (hfr : d + 1 ≤ X.1.2.2.2.1.frames) (hlo : 33 * d + 33 ≤ X.1.2.2.2.1.locals) (C : am_Cx X Y cc ow) (hd : decode cc pc = .ok (.invokevirtual idx, 3)) (hf : (ow, idx, y) ∈ am_ml) (hn : n = am_np.getD y 0 + 1) (hc : c < 12) (hcy : (am_vc c).1 = (am_m y).1.cls) (hni : (am_m y).1.name ≠ "<init>")
    (h : (∃ (o : Nat), st[n - 1]? = some (am_r o) ∧ am_ly o = (0, c)) ∧ am_call (am_R d) (fun st σ => am_Kp X Y (pc + 3) ls st σ) y n st σ) : am_Kp X Y pc ls st σ := by
  obtain ⟨⟨o, ho, hly⟩, h1, h2, v, σ1, hR, h⟩ := h
  have hle := am_R_le d _ _ _ _ _ hR
  refine ⟨Nat.le_trans hle h.1, fun ρ H locs Ls I => ?_⟩
  obtain ⟨u, w, hs, hu, ht, hw⟩ := am_cutv h1 (by omega) ho
  rw [ht] at hR
  rw [hw] at h h2
  subst hs
  have h3 : 3 ≤ o := am_ly3 (by rw [hly]; exact Nat.zero_lt_succ _)
  have hoo : o < σ.1 := I.sok (am_r o) (List.mem_append_left _ (List.mem_append_right _ (List.mem_singleton.mpr rfl)))
  have e0 : am_tov ρ (am_r o) = .ref (ρ o) := if_neg (by omega)
  have hM := hcon Y.1.1 Y.1.2.1 _ _ _ _ ρ (am_r o :: u.reverse) σ v σ1 H.size (am_SdOf C I (am_all1 hoo (fun x hx => I.sok x (List.mem_append_left _ (List.mem_append_left _ (List.mem_reverse.mp hx)))))) hR
  rw [List.map_cons, e0] at hM
  refine am_back C I (va_runV (As := u.reverse.map (am_tov ρ)) (n := am_np.getD y 0) (Ts := am_good) (C := (am_vc c).1) ⟨C.1, C.2.1, C.2.2.1, C.2.2.2.1, C.2.2.2.2.1⟩ hM ⟨callB_of (Ts := am_good) _ C.2.2.2.2.1 (am_goodIn hok) rfl rfl rfl (C.2.2.2.2.1 _ hok.2.1) (C.2.2.2.2.1 _ (am_ml_ok _ hf)) ⟨hnm.2.2.2.2.1, hnm.2.2.2.2.2, hnm.1⟩ (am_rooms hfr hlo hml), C.2.2.2.2.1 _ (hok.2.2.2.1 hst), by rw [hcy]; exact C.2.2.2.2.1 _ (hok.2.2.2.2 hst hni)⟩ ⟨am_blind, va_recv (q := ((am_vc c).1, (am_vc c).2.1, (am_vc c).2.2)) C.2.2.2.2.2.1.1 I.1 (am_vc_at hc) (q0 := o - 3) (by rw [am_ws_at h3 hoo, am_ce0 hly]), am_PreOf C I _⟩ rfl (by rw [List.length_map, List.length_reverse]; omega) (by exact I.lr.1) ?_ (lv_room (by rw [am_cats]; exact h2)) hd (am_fitc C I.2.2.2.2.1 hle h.1)) rfl h
  show (u ++ [am_r o] ++ w).map (am_tov ρ) = _
  rw [List.map_append, List.map_append, List.map_reverse, List.reverse_reverse, List.append_assoc, List.map_singleton, e0]
  rfl
theorem sm_callI {idx y n : Nat} (hcon : am_Con X.1.2.1 d y) (hok : am_mok (am_m y)) (hnm : am_nmok y) (hst : (am_m y).2.2.2.2.2 = false) (hret : (am_m y).2.2.2.1 = none) (hml : (am_m y).2.2.1 ≤ 14) (hfr : d + 1 ≤ X.1.2.2.2.1.frames) (hlo : 33 * d + 33 ≤ X.1.2.2.2.1.locals) (C : am_Cx X Y cc ow) (hd : decode cc pc = .ok (.invokespecial idx, 3)) (hf : (ow, idx, y) ∈ am_ml ∨ (ow, idx, y) ∈ am_mn) (hn : n = am_np.getD y 0 + 1) (hni : (am_m y).1.name = "<init>")
    (h : (∃ (o : Nat), o ≠ 0 ∧ st[n - 1]? = some (am_r o)) ∧ am_call (am_R d) (fun st σ => am_Kp X Y (pc + 3) ls st σ) y n st σ) : am_Kp X Y pc ls st σ := by
  obtain ⟨⟨o, ho0, ho⟩, h1, h2, v, σ1, hR, h⟩ := h
  have hle := am_R_le d _ _ _ _ _ hR
  refine ⟨Nat.le_trans hle h.1, fun ρ H locs Ls I => ?_⟩
  obtain ⟨u, w, hs, hu, ht, hw⟩ := am_cutv h1 (by omega) ho
  rw [ht] at hR
  rw [hw] at h h2
  subst hs
  have hoo : o < σ.1 := I.sok (am_r o) (List.mem_append_left _ (List.mem_append_right _ (List.mem_singleton.mpr rfl)))
  have e0 : am_tov ρ (am_r o) = .ref (ρ o) := if_neg ho0
  have hM := hcon Y.1.1 Y.1.2.1 _ _ _ _ ρ (am_r o :: u.reverse) σ v σ1 H.size (am_SdOf C I (am_all1 hoo (fun x hx => I.sok x (List.mem_append_left _ (List.mem_append_left _ (List.mem_reverse.mp hx)))))) hR
  rw [List.map_cons, e0] at hM
  have hcode : am_Wy y = Cond.code (am_m y).1 (am_m y).2.1 (am_m y).2.2.1 none :: am_good := by unfold am_Wy; rw [hret]
  have hstk : (F0 X.2.1.1 pc Ls ((u ++ [am_r o] ++ w).map (am_tov ρ))).stack = (u.reverse.map (am_tov ρ)).reverse ++ .ref (ρ o) :: w.map (am_tov ρ) := by
    show (u ++ [am_r o] ++ w).map (am_tov ρ) = _
    rw [List.map_append, List.map_append, List.map_reverse, List.reverse_reverse, List.append_assoc, List.map_singleton, e0]
    rfl
  rcases hf with hf | hf
  · exact am_back C I (va_runI (As := u.reverse.map (am_tov ρ)) (n := am_np.getD y 0) (Ts := am_good) ⟨C.1, C.2.1, C.2.2.1, C.2.2.2.1, C.2.2.2.2.1⟩ hM ⟨callB_of (Ts := am_good) _ C.2.2.2.2.1 (am_goodIn hok) hcode rfl rfl (C.2.2.2.2.1 _ hok.2.1) (C.2.2.2.2.1 _ (am_ml_ok _ hf)) ⟨hnm.2.2.2.2.1, hnm.2.2.2.2.2, hnm.1⟩ (am_rooms hfr hlo hml), hni, C.2.2.2.2.1 _ (hok.2.2.2.1 hst)⟩ ⟨am_blind, am_PreOf C I _⟩ rfl (by rw [List.length_map, List.length_reverse]; omega) (by exact I.lr.1) hstk (lv_room (by rw [am_cats]; exact h2)) hd (am_fitc C I.2.2.2.2.1 hle h.1)) rfl h
  · have hw9 : va_Nw (Cond.methodLinkNest (am_own ow) idx (am_m y).1 RX11) X.1.2.2.2.2 := C.2.2.2.2.2.1.2.1 _ (List.mem_append_left _ (List.mem_map.mpr ⟨(ow, idx, y), hf, rfl⟩))
    exact am_back C I (va_runIN (As := u.reverse.map (am_tov ρ)) (n := am_np.getD y 0) (Ts := am_good) (host := RX11) ⟨C.1, C.2.1, C.2.2.1, C.2.2.2.1, C.2.2.2.2.1⟩ hM ⟨va_cnB (Ts := am_good) _ C.2.2.2.2.1 (am_goodIn hok) hcode rfl rfl hw9 (C.2.2.2.2.1 _ hok.2.1) ⟨hnm.2.2.2.2.1, hnm.2.2.2.2.2, hnm.1⟩ (am_rooms hfr hlo hml), hni, C.2.2.2.2.1 _ (hok.2.2.2.1 hst)⟩ ⟨am_blind, am_PreOf C I _⟩ rfl (by rw [List.length_map, List.length_reverse]; omega) (by exact I.lr.1) hstk (lv_room (by rw [am_cats]; exact h2)) hd (am_fitc C I.2.2.2.2.1 hle h.1)) rfl h
end SM4
