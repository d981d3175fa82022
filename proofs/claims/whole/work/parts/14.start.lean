def R_law : String := "ShelfCartLaw"
def lw_P (b : Addr) (xs : List Int32) (args : Array Value) (s : State) : Prop := args = #[.ref b] ∧ s.IntsAt b xs ∧ xs.length ≤ 3072 ∧ (Jvm.Cond.and given_1 narrow_1).before args s = true
def lw_Q (_ : Array Value) (s : State) (o : Outcome) (t : State) : Prop := o = .returned (some (.int 1)) ∧ Framed s o t [] 349809 8052822
def lw_Z (below : List Frame) (a : Array Value) (s : State) : State → Prop := fun t => ∃ o, t.status = .running ∧ Ended t below o ∧ lw_Q a s o t
/-- the law's own end, with 1 on the stack, nothing written that was there before, its room as the claim has it -/
theorem lw_ret {p : Program} {l : Launch} {e : Env} {s : State} {m : MethodId} {below : List Frame} {meth : Method} {c : Code} {b : Nat} (hx : p.tables.exec = Jvm.exec) (hb : c.code = code) (hr : meth.sig.returnType = ret) (hlocks : meth.locks = false) {pc : Nat} {H : Heap} {ls : Array Slot} (hdg : decode code pc = .ok (.ireturn, 1)) : W p l e room_1 s m #[Value.ref b] below meth c H [] 349809 8052822 (lw_Z below #[Value.ref b] s) (F0 m pc ls [.int 1]) := by
  intro T hT X
  obtain ⟨fs, hret, hrun, hended, hW, hframe⟩ := X.leave (v := some (.int 1)) (hlocks := hlocks) (fun h => by rw [hr] at h; cases h)
  have hmeth' : T.vm.method? m = some meth := X.method'
  refine ⟨T.setFrames fs, ?_, .returned (some (.int 1)), hrun, hended, rfl, ⟨_, rfl⟩, hW, hframe⟩
  jvm_step X.here [X.here.top, hx, hb, hdg, hmeth', hr, ret, narrow_b1]
  (try refine ⟨rfl, ?_⟩); (try refine ⟨rfl, ?_⟩)
  first | (intro acts; rw [hret _ acts rfl rfl rfl]) | rw [hret _ _ rfl rfl rfl]
  exact Steps.refl _
/-- what holds at the law's entry: the machine, the code, the tables' words (any of lw_tbl by 'hts w (by decide +kernel)'), the script of L ints xs at the cell b, what the Statement gives of the start (any of its parts by flat_of_before) -/
def lw_At (p : Program) (s : State) (m : MethodId) (meth : Method) (c : Code) (b L : Nat) (xs : Nat → Int32) : Prop :=
  p.tables.exec = Jvm.exec ∧ c.code = code ∧ meth.sig.returnType = ret ∧ c.maxLocals = 4 ∧ s.vm.findClass R_law = some m.cls ∧ (∀ w ∈ lw_tbl, w.before #[Value.ref b] s = true) ∧ va_X b L xs s s.heap ∧ b < s.heap.size ∧ meth.locks = false ∧ (Jvm.Cond.and given_1 narrow_1).before #[Value.ref b] s = true
/-- what is left to prove of the abstract machine: the law's run -/
def am_H0 (L : Nat) (xs : Int → Int) : am_H := fun o k => if o = 2 then xs k else if o = 0 ∧ k = 0 then (L : Int) else 0
def am_s0 (L : Nat) (xs : Int → Int) : am_S := (3, fun _ _ => 0, am_H0 L xs)
def am_LawP : Prop := ∀ (L : Nat) (xs : Int → Int), L ≤ 3072 → (∀ k, -2147483648 ≤ xs k ∧ xs k < 2147483648) → (∀ k : Int, k < 0 ∨ (L : Int) ≤ k → xs k = 0) → am_WP (am_R 8) cd_CartLaw_law (fun v σ' => v = some (am_i 1) ∧ σ'.1 ≤ 188) 0 [some (am_r 2), none, none, none] [] (am_s0 L xs)
theorem am_ss188 : am_ss 188 ≤ 8052822 := by decide +kernel
theorem am_arr {s : State} {args : Array Value} {ty : FieldType} (hne : ∀ C, ty ≠ .object C) (h : (Cond.arrayClass ty).before args s = true) : ∃ cA : ClassId, ArrOfT s cA ty ∧ va_RA s cA ty := by
  obtain ⟨cA, kA, comp, h1, h2, h3⟩ := Cond.arrayClass_spec h
  refine ⟨cA, fun n z => ⟨fun k h => (by cases h), kA, h2, comp, h3⟩, ?_⟩
  cases ty with
  | object C => exact absurd rfl (hne C)
  | _ => exact h1
theorem am_arrO {s : State} {args : Array Value} (h : (Cond.arrayOver (.object RX9)).before args s = true) : ∃ cA : ClassId, ArrOfT s cA (.object RX9) ∧ va_RA s cA (.object RX9) := by
  obtain ⟨comp, c, k, h1, h2, h3, h4, h5⟩ := Cond.arrayOver_spec h
  exact ⟨c, fun n z => ⟨fun k h => (by cases h), k, h3, comp, h4⟩, k, comp, h3, h4, h1, h5⟩
theorem am_tens {s : State} {args : Array Value} {A : Nat → Prop} (hts : ∀ w ∈ lw_tbl, w.before args s = true) (hgv : (Jvm.Cond.and given_1 narrow_1).before args s = true) (hA : ∀ a : Nat, a < s.heap.size → ¬ A a) : ∃ t, va_Z RX11 "TENS" "[I" (.ref t) A s s.heap ∧ va_T .int t 7 (fun j => .int (Int32.ofInt (am_tn j))) A s s.heap := by
  have hs := flat_of_before _ hgv
  have e0 := va_eqt (hs (.eq (.elem (.static "ShelfCart" "TENS" "[I") (.int 0)) (.int 1)) (by decide +kernel))
  have e1 := va_eqt (hs (.eq (.elem (.static "ShelfCart" "TENS" "[I") (.int 1)) (.int 10)) (by decide +kernel))
  have e2 := va_eqt (hs (.eq (.elem (.static "ShelfCart" "TENS" "[I") (.int 2)) (.int 100)) (by decide +kernel))
  have e3 := va_eqt (hs (.eq (.elem (.static "ShelfCart" "TENS" "[I") (.int 3)) (.int 1000)) (by decide +kernel))
  have e4 := va_eqt (hs (.eq (.elem (.static "ShelfCart" "TENS" "[I") (.int 4)) (.int 10000)) (by decide +kernel))
  have e5 := va_eqt (hs (.eq (.elem (.static "ShelfCart" "TENS" "[I") (.int 5)) (.int 100000)) (by decide +kernel))
  have e6 := va_eqt (hs (.eq (.elem (.static "ShelfCart" "TENS" "[I") (.int 6)) (.int 1000000)) (by decide +kernel))
  have hel : ∀ j : Nat, j < 7 → (Term.elem (.static "ShelfCart" "TENS" "[I") (.int (Int32.ofNat j))).eval args s none [] s = some (.int (Int32.ofInt (am_tn j))) := by
    intro j hj
    match j, hj with
    | 0, _ => exact e0
    | 1, _ => exact e1
    | 2, _ => exact e2
    | 3, _ => exact e3
    | 4, _ => exact e4
    | 5, _ => exact e5
    | 6, _ => exact e6
    | n + 7, h => omega
  obtain ⟨t, h1, h2⟩ := va_Tof (N := 7) (f := fun j => .int (Int32.ofInt (am_tn j))) (A := A) (by decide) (hs (.arrayOf (.static "ShelfCart" "TENS" "[I") .int) (by decide +kernel)) (va_eqt (hs (.eq (.length (.static "ShelfCart" "TENS" "[I")) (.int 7)) (by decide +kernel))) hel hA
  exact ⟨t, va_Zof (hts _ am_lsw_w.1) (hts _ am_lsw_w.2) h1 hA, h2⟩
set_option maxHeartbeats 4000000 in
set_option maxRecDepth 100000 in
theorem am_start (hlaw : am_LawP) {p : Program} {e : Env} {s : State} {m : MethodId} {below : List Frame} {meth : Method} {c : Code} (l : Launch) {b L : Nat} {xs : Nat → Int32} (hL : L ≤ 3072) (C0 : lw_At p s m meth c b L xs) : W p l e room_1 s m #[Value.ref b] below meth c s.heap [] 0 0 (lw_Z below #[Value.ref b] s) (entryFrame m ([Value.ref b] : List Value).toArray 4) := by
  obtain ⟨hx, hb, hr, hml, hown, hts, hX, hbl, hlocks, hgv⟩ := C0
  have hgood : ∀ w ∈ am_good, w.before #[Value.ref b] s = true := fun w hw => hts w (List.mem_filter.mp hw).1
  have hcls : ∀ k, ∃ q : ClassId × (Nat → Nat), k < 12 → u_Kn s (am_vc k).1 (am_vc k).2.1 (am_vc k).2.2 q.1 q.2 := by
    intro k
    by_cases hk : k < 12
    · obtain ⟨cC, iS, h⟩ := u_known hgood (am_co_all k hk).1 (hgood _ (am_co_all k hk).2.1)
      exact ⟨(cC, iS), fun _ => h⟩
    · exact ⟨(default, fun _ => 0), fun z => absurd z hk⟩
  obtain ⟨D, hD⟩ : ∃ D : va_G, ∀ k, k < 12 → u_Kn s (am_vc k).1 (am_vc k).2.1 (am_vc k).2.2 (D.1 k) (D.2 k) := ⟨(fun k => (Classical.choose (hcls k)).1, fun k => (Classical.choose (hcls k)).2), fun k hk => Classical.choose_spec (hcls k) hk⟩
  obtain ⟨g1, G1⟩ := am_arr (by intro C; exact fun z => by cases z) (hgood _ am_arw.1)
  obtain ⟨g2, G2⟩ := am_arr (by intro C; exact fun z => by cases z) (hgood _ am_arw.2.1)
  obtain ⟨g3, G3⟩ := am_arr (by intro C; exact fun z => by cases z) (hgood _ am_arw.2.2.1)
  obtain ⟨g4, G4⟩ := am_arr (by intro C; exact fun z => by cases z) (hgood _ am_arw.2.2.2)
  obtain ⟨g5, G5⟩ := am_arrO (hts _ am_aow)
  obtain ⟨G, hG⟩ : ∃ G : Nat → ClassId, G 1 = g1 ∧ G 2 = g2 ∧ G 3 = g3 ∧ G 4 = g4 ∧ G 5 = g5 := ⟨fun k => if k = 1 then g1 else if k = 2 then g2 else if k = 3 then g3 else if k = 4 then g4 else g5, rfl, rfl, rfl, rfl, rfl⟩
  have hKx : am_Kx D G s := by
    refine ⟨⟨fun k q hq => ?_, fun k q hq => ?_⟩, fun w hw => ?_, va_AO.of (hts _ am_aow)⟩
    · have hk : k < 12 := (List.getElem?_eq_some_iff.mp hq).1
      rw [am_vc_at hk] at hq
      cases hq
      exact hD k hk
    · unfold am_tys at hq
      rw [hG.1, hG.2.1, hG.2.2.1, hG.2.2.2.1, hG.2.2.2.2] at hq
      match k, hq with
      | 0, hq => cases hq; exact G1
      | 1, hq => cases hq; exact G2
      | 2, hq => cases hq; exact G3
      | 3, hq => cases hq; exact G4
      | 4, hq => cases hq; exact G5
      | k + 5, hq => simp at hq
    · have h1 := hts w (am_nest_ok w hw)
      rcases List.mem_append.mp hw with q | q
      · obtain ⟨x, -, rfl⟩ := List.mem_map.mp q
        exact va_Nw.of rfl h1
      · obtain ⟨x, -, rfl⟩ := List.mem_map.mp q
        exact va_Nw.of rfl h1
  have hbA : ¬ (fun q : Nat => s.heap.size ≤ q) b := Nat.not_le.mpr hbl
  obtain ⟨t, hZ, hT⟩ := am_tens (A := fun q : Nat => s.heap.size ≤ q) hts hgv (fun a h => Nat.not_le.mpr h)
  have hR : ∀ k : Int, -2147483648 ≤ (if 0 ≤ k ∧ k < (L : Int) then (xs k.toNat).toInt else 0) ∧ (if 0 ≤ k ∧ k < (L : Int) then (xs k.toNat).toInt else 0) < 2147483648 := by
    intro k
    split
    · exact am_to32 _
    · exact ⟨by decide, by decide⟩
  have hw := hlaw L (fun k : Int => if 0 ≤ k ∧ k < (L : Int) then (xs k.toNat).toInt else 0) hL hR (fun k hk => if_neg (by omega))
  obtain ⟨v, σ', ⟨rfl, hσ⟩, hw⟩ := am_WP_ex hw
  generalize hs0 : am_s0 L (fun k : Int => if 0 ≤ k ∧ k < (L : Int) then (xs k.toNat).toInt else 0) = σ0 at hw
  have hσ0 : σ0.1 = 3 := by rw [← hs0]; rfl
  have hP0 : ∀ o k, σ0.2.1 o k = 0 := by intro o k; rw [← hs0]; rfl
  have hH0 : σ0.2.2 0 0 = (L : Int) := by rw [← hs0]; rfl
  have hH2 : ∀ j : Nat, j < L → σ0.2.2 2 j = (xs j).toInt := by
    intro j hj
    rw [← hs0]
    show (if 0 ≤ (j : Int) ∧ (j : Int) < (L : Int) then (xs (j : Int).toNat).toInt else 0) = _
    rw [if_pos (by omega), Int.toNat_natCast]
  have hrg : am_rg σ0 := by
    refine ⟨fun o k => ?_, fun o k => by rw [hP0, hσ0]; decide, by rw [hσ0]; exact Nat.le_refl 3⟩
    by_cases h2 : o = 2
    · subst h2
      rw [show am_bd 2 k = (-2147483648, 2147483648) from rfl, ← hs0]
      exact hR k
    · by_cases h00 : o = 0 ∧ k = 0
      · rw [h00.1, h00.2, hH0, show am_bd 0 0 = (-2147483648, 2147483648) from rfl]
        exact ⟨by show (-2147483648 : Int) ≤ _; omega, by show _ < (2147483648 : Int); omega⟩
      · have hz : σ0.2.2 o k = 0 := by
          rw [← hs0]
          show (if o = 2 then _ else if o = 0 ∧ k = 0 then (L : Int) else 0) = 0
          rw [if_neg h2, if_neg h00]
        rw [hz]
        unfold am_bd
        split
        · split <;> exact ⟨by decide, by decide⟩
        · split
          · exact ⟨by decide, by decide⟩
          · split
            · exact ⟨by decide, by decide⟩
            · split <;> exact ⟨by decide, by decide⟩
  have hss : am_ss σ'.1 ≤ 8052822 := Nat.le_trans (am_ss_mono hσ) am_ss188
  let X : am_X := ((p, l, e, room_1, s), (m, #[Value.ref b], below, meth, c), lw_Z below #[Value.ref b] s)
  let ρ0 : Nat → Nat := fun o => if o = 1 then t else b
  let Y : am_Y := ((D, G, fun q : Nat => s.heap.size ≤ q), (ρ0, σ0, σ', 4), (t, b, L, xs))
  have hwse : am_ws G ρ0 σ0 = [] := by
    unfold am_ws
    rw [hσ0]
    rfl
  have C : am_Cx X Y cL_law 13 := ⟨hx, hb, hml, hown, hgood, hKx, ⟨hZ, hT, hX, hbl, hbA⟩, fun _ h => h, ⟨rfl, rfl, by show 3 ≤ σ0.1; rw [hσ0]; exact Nat.le_refl 3⟩, ⟨hH0, by show L < 2147483648; omega, hH2⟩, by show σ'.1 - σ0.1 ≤ 349809; omega, by show am_ss σ'.1 - am_ss σ0.1 ≤ 8052822; omega, by show 1 ≤ 10; decide, by show 33 ≤ 358; decide⟩
  have hfin : am_Fin X Y cL_law (some .boolean) (fun v' s' => v' = some (am_i 1) ∧ s' = σ') := by
    rintro v' s' ρ' H locs Ls ls pc ⟨rfl, rfl⟩ I hk
    rcases hk with ⟨h, -⟩ | ⟨a, h, -⟩ | ⟨a, h, -, hd⟩
    · cases h
    · cases h
    · refine va_forget (fun q hq => I.2.2.1.2.2 q hq) ?_
      refine W.widen (k := 349809) (n := 8052822) (by show s'.1 - σ0.1 ≤ 349809; omega) (by show am_ss s'.1 - am_ss σ0.1 ≤ 8052822; omega) ?_
      exact lw_ret hx hb hr hlocks hd
  have K : am_Kp X Y (am_pcz (am_cd 247) 0) [some (am_r 2), none, none, none] [] σ0 := by
    refine am_ind hw (fun i ls st σ => am_Kp X Y (am_pcz (am_cd 247) i) ls st σ) ?_
    intro i row ls st s1 hrow hs
    refine am_simstep (X := X) (Y := Y) (q := am_m 247) (ii := false) (cd := am_cd 247) (d := 8) C (fun h => by cases h) (am_con_all l 8) (by show 9 ≤ 10; decide) (by show 33 * 8 + 33 ≤ 358; decide) hfin ?_ hrow (am_rk_at (am_ck_all 247 (by decide)) hrow) hs
    rintro v' s' ⟨-, rfl⟩
    exact Nat.le_refl _
  rw [am_pc0 247 (by decide)] at K
  have hen := am_entry (ρ := ρ0) (as := [am_r 2]) (n := 4) (by decide)
  have h0 := K.2 ρ0 s.heap [] _ ⟨by rw [show am_ws Y.1.2.1 ρ0 σ0 = [] from hwse]; exact fun k q h => by simp at h, by rw [show am_ws Y.1.2.1 ρ0 σ0 = [] from hwse]; exact ⟨fun i j x y h => by simp at h, fun k q h => by simp at h⟩, va_S.rf, fun _ _ => rfl, Nat.le_refl _, hrg, ⟨rfl, rfl⟩, hen, fun v hv => absurd hv List.not_mem_nil, am_en_ok (n := 4) (as := [am_r 2]) (fun w hw => by rw [List.mem_singleton] at hw; subst hw; show 2 < σ0.1; rw [hσ0]; decide)⟩
  have h0 : W p l e room_1 s m #[Value.ref b] below meth c s.heap [] (σ0.1 - σ0.1) (am_ss σ0.1 - am_ss σ0.1) (lw_Z below #[Value.ref b] s) _ := h0
  rw [Nat.sub_self, Nat.sub_self] at h0
  rw [lg_entry_eq]
  exact h0
