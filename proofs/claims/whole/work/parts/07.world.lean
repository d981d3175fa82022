/-! ===== numbers: ints as Int ===== -/
theorem am_w32r (n : Int) : -2147483648 ≤ w32 n ∧ w32 n < 2147483648 := by unfold w32; omega
theorem am_w8r (n : Int) : -128 ≤ w8 n ∧ w8 n < 128 := by unfold w8; omega
theorem am_w32i {n : Int} (h : -2147483648 ≤ n ∧ n < 2147483648) : w32 n = n := by unfold w32; omega
theorem am_bm (n : Int) : n.bmod 4294967296 = w32 n := by
  unfold w32 Int.bmod
  simp only []
  split <;> omega
theorem am_bm8 (n : Int) : n.bmod 256 = w8 n := by
  unfold w8 Int.bmod
  simp only []
  split <;> omega
theorem am_toInt {n : Int} (h : -2147483648 ≤ n ∧ n < 2147483648) : (Int32.ofInt n).toInt = n := Int32.toInt_ofInt_of_le (by omega) (by omega)
theorem am_toInt64 {n : Int} (h : -9223372036854775808 ≤ n ∧ n < 9223372036854775808) : (Int64.ofInt n).toInt = n := Int64.toInt_ofInt_of_le (by omega) (by omega)
theorem am_ofw (n : Int) : Int32.ofInt (w32 n) = Int32.ofInt n := by
  apply Int32.toInt_inj.mp
  rw [am_toInt (am_w32r n), Int32.toInt_ofInt, ← am_bm]
theorem am_to32 (x : Int32) : -2147483648 ≤ x.toInt ∧ x.toInt < 2147483648 := ⟨by have := x.le_toInt; omega, by have := x.toInt_lt; omega⟩
theorem am_to64 (x : Int64) : -9223372036854775808 ≤ x.toInt ∧ x.toInt < 9223372036854775808 := ⟨by have := x.le_toInt; omega, by have := x.toInt_lt; omega⟩
theorem am_clamp {n : Int} (h : -2147483648 ≤ n ∧ n < 2147483648) : (Int32.ofInt n).toNatClampNeg = n.toNat := Int32.toNatClampNeg_ofInt_of_le (by omega) (by omega)
theorem am_lt {a b : Int} (ha : -2147483648 ≤ a ∧ a < 2147483648) (hb : -2147483648 ≤ b ∧ b < 2147483648) : Int32.ofInt a < Int32.ofInt b ↔ a < b := by
  rw [Int32.lt_iff_toInt_lt, am_toInt ha, am_toInt hb]
theorem am_le {a b : Int} (ha : -2147483648 ≤ a ∧ a < 2147483648) (hb : -2147483648 ≤ b ∧ b < 2147483648) : Int32.ofInt a ≤ Int32.ofInt b ↔ a ≤ b := by
  rw [Int32.le_iff_toInt_le, am_toInt ha, am_toInt hb]
theorem am_eq {a b : Int} (ha : -2147483648 ≤ a ∧ a < 2147483648) (hb : -2147483648 ≤ b ∧ b < 2147483648) : Int32.ofInt a = Int32.ofInt b ↔ a = b := by
  rw [← Int32.toInt_inj, am_toInt ha, am_toInt hb]
theorem am_lt0 {a : Int} (ha : -2147483648 ≤ a ∧ a < 2147483648) : Int32.ofInt a < 0 ↔ a < 0 := am_lt (b := 0) ha (by omega)
theorem am_eq0 {a : Int} (ha : -2147483648 ≤ a ∧ a < 2147483648) : Int32.ofInt a = 0 ↔ a = 0 := am_eq (b := 0) ha (by omega)
theorem am_vpin {a : Int} {n : Nat} (ha : -2147483648 ≤ a ∧ a < 2147483648) (h0 : 0 ≤ a) (h1 : a < (n : Int)) : vp_in (Int32.ofInt a) n := by
  unfold vp_in
  rw [am_lt0 ha, am_clamp ha]
  omega
theorem am_div {a b : Int} (ha : -2147483648 ≤ a ∧ a < 2147483648) (hb : -2147483648 ≤ b ∧ b < 2147483648) : Int32.ofInt a / Int32.ofInt b = Int32.ofInt (w32 (a.tdiv b)) := by
  apply Int32.toInt_inj.mp
  rw [Int32.toInt_div, am_toInt ha, am_toInt hb, am_toInt (am_w32r _), ← am_bm]
theorem am_rem {a b : Int} (ha : -2147483648 ≤ a ∧ a < 2147483648) (hb : -2147483648 ≤ b ∧ b < 2147483648) : Int32.ofInt a - Int32.ofInt a / Int32.ofInt b * Int32.ofInt b = Int32.ofInt (w32 (a.tmod b)) := by
  apply Int32.toInt_inj.mp
  rw [am_toInt (am_w32r _), ← am_bm, Int32.toInt_sub, Int32.toInt_mul, Int32.toInt_div, Int.bmod_mul_bmod, Int.sub_bmod_bmod, am_toInt ha, am_toInt hb, Int.mul_comm (a.tdiv b), ← Int.tmod_def]
theorem am_i2b (a : Int) : (Int32.ofInt a).toInt8.toInt32 = Int32.ofInt (w8 a) := by
  apply Int32.toInt_inj.mp
  have hw := am_w8r a
  rw [am_toInt (by omega), Int8.toInt_toInt32, Int32.toInt8_ofInt, Int8.toInt_ofInt, ← am_bm8]
theorem am_i2l {a : Int} (ha : -2147483648 ≤ a ∧ a < 2147483648) : (Int32.ofInt a).toInt64 = Int64.ofInt a := by
  apply Int64.toInt_inj.mp
  rw [Int32.toInt_toInt64, am_toInt ha, am_toInt64 (by omega)]
theorem am_l2i (a : Int) : (Int64.ofInt a).toInt32 = Int32.ofInt (w32 a) := by rw [Int64.toInt32_ofInt, am_ofw]
theorem am_cmp {a b : Int} (ha : -9223372036854775808 ≤ a ∧ a < 9223372036854775808) (hb : -9223372036854775808 ≤ b ∧ b < 9223372036854775808) : lg_cmp (Int64.ofInt a) (Int64.ofInt b) = Int32.ofInt (am_lcmp a b) := by
  have h1 : (Int64.ofInt b < Int64.ofInt a) ↔ b < a := by rw [Int64.lt_iff_toInt_lt, am_toInt64 ha, am_toInt64 hb]
  have h2 : (Int64.ofInt a = Int64.ofInt b) ↔ a = b := by rw [← Int64.toInt_inj, am_toInt64 ha, am_toInt64 hb]
  unfold lg_cmp am_lcmp
  simp only [h1, h2]
  split
  · rw [if_neg (by omega), if_neg (by omega)]; rfl
  · split
    · rw [if_neg (by omega)]; rfl
    · rw [if_pos (by omega)]; rfl
theorem am_bool {n : Int} (h : n = 0 ∨ n = 1) : Int32.ofInt n &&& 1 = Int32.ofInt n := by rcases h with rfl | rfl <;> decide
theorem am_of32 (x : Int32) : Int32.ofInt x.toInt = x := Int32.ofInt_toInt x
theorem am_of64 (x : Int64) : Int64.ofInt x.toInt = x := Int64.ofInt_toInt x
/-! ===== the world: what the heap holds ===== -/
def am_tov (ρ : Nat → Nat) (v : am_V) : Value := match v with
  | .inl n => .int (Int32.ofInt n)
  | .inr (.inl n) => .long (Int64.ofInt n)
  | .inr (.inr r) => if r = 0 then .null else .ref (ρ r)
def am_ok (n : Nat) (v : am_V) : Prop := match v with
  | .inl a => -2147483648 ≤ a ∧ a < 2147483648
  | .inr (.inl a) => -9223372036854775808 ≤ a ∧ a < 9223372036854775808
  | .inr (.inr r) => r < n
def am_bd (o : Nat) (k : Int) : Int × Int :=
  if (am_ly o).1 = 0 then (if am_fk (am_ly o).2 k.toNat = 1 then (0, 2) else (-2147483648, 2147483648))
  else if (am_ly o).1 = 2 then (-9223372036854775808, 9223372036854775808)
  else if (am_ly o).1 = 3 then (-128, 128)
  else if (am_ly o).1 = 4 then (0, 2)
  else (-2147483648, 2147483648)
def am_rg (σ : am_S) : Prop := (∀ o k, (am_bd o k).1 ≤ σ.2.2 o k ∧ σ.2.2 o k < (am_bd o k).2) ∧ (∀ o k, σ.2.1 o k < σ.1) ∧ 3 ≤ σ.1
def am_rv (ρ : Nat → Nat) (r : Nat) : Option Nat := if r = 0 then none else some (ρ r)
def am_fe (ρ : Nat → Nat) (σ : am_S) (o c k : Nat) : Value := if am_fk c k = 2 then va_rf (am_rv ρ (σ.2.1 o k)) else .int (Int32.ofInt (σ.2.2 o k))
def am_fs (ρ : Nat → Nat) (σ : am_S) (o c : Nat) : List Value := (List.range (am_nf c)).map (am_fe ρ σ o c)
def am_ae (ρ : Nat → Nat) (σ : am_S) (o : Nat) : (Nat → Int32) ⊕ (Nat → Int64) ⊕ (Nat → UInt32) ⊕ (Nat → UInt64) ⊕ (Nat → Option Nat) :=
  if (am_ly o).1 = 2 then .inr (.inl (fun k => Int64.ofInt (σ.2.2 o k)))
  else if (am_ly o).1 = 5 then .inr (.inr (.inr (.inr (fun k => am_rv ρ (σ.2.1 o k)))))
  else .inl (fun k => Int32.ofInt (σ.2.2 o k))
def am_ce (G : Nat → ClassId) (ρ : Nat → Nat) (σ : am_S) (o : Nat) : va_E := if (am_ly o).1 = 0 then .inr ((am_ly o).2, am_fs ρ σ o (am_ly o).2) else .inl (G (am_ly o).1, (am_ly o).2, am_ae ρ σ o)
def am_ws (G : Nat → ClassId) (ρ : Nat → Nat) (σ : am_S) : va_W := (List.range (σ.1 - 3)).map (fun i => (ρ (i + 3), am_ce G ρ σ (i + 3)))
theorem am_ws_at {G : Nat → ClassId} {ρ : Nat → Nat} {σ : am_S} {o : Nat} (h : 3 ≤ o) (h2 : o < σ.1) : (am_ws G ρ σ)[o - 3]? = some (ρ o, am_ce G ρ σ o) := by
  unfold am_ws
  rw [List.getElem?_map, List.getElem?_range (by omega)]
  simp only [Option.map_some]
  rw [show o - 3 + 3 = o by omega]
theorem am_ws_of {G : Nat → ClassId} {ρ : Nat → Nat} {σ : am_S} {k : Nat} {q : Nat × va_E} (h : (am_ws G ρ σ)[k]? = some q) : k + 3 < σ.1 ∧ q = (ρ (k + 3), am_ce G ρ σ (k + 3)) := by
  unfold am_ws at h
  rw [List.getElem?_map] at h
  by_cases hk : k < σ.1 - 3
  · rw [List.getElem?_range hk] at h
    simp only [Option.map_some, Option.some.injEq] at h
    exact ⟨by omega, h.symm⟩
  · rw [List.getElem?_eq_none (by simp; omega)] at h
    simp at h
theorem am_ce_eq {G : Nat → ClassId} {ρ ρ' : Nat → Nat} {σ σ' : am_S} {o : Nat} (hP : σ'.2.1 o = σ.2.1 o) (hH : σ'.2.2 o = σ.2.2 o) (hr : ∀ k, ρ' (σ.2.1 o k) = ρ (σ.2.1 o k)) : am_ce G ρ' σ' o = am_ce G ρ σ o := by
  have h1 : ∀ k, am_rv ρ' (σ'.2.1 o k) = am_rv ρ (σ.2.1 o k) := fun k => by unfold am_rv; rw [hP]; split <;> simp [hr]
  have h2 : am_fs ρ' σ' o (am_ly o).2 = am_fs ρ σ o (am_ly o).2 := by
    unfold am_fs
    refine List.map_congr_left (fun k _ => ?_)
    unfold am_fe
    rw [h1 k, hH]
  have h3 : am_ae ρ' σ' o = am_ae ρ σ o := by
    unfold am_ae
    simp only [h1, hH]
  unfold am_ce
  rw [h2, h3]
theorem am_ws_ext {G : Nat → ClassId} {ρ ρ' : Nat → Nat} {σ σ' : am_S} (hn : σ'.1 = σ.1) (hg : am_rg σ) (hr : ∀ o, o < σ.1 → ρ' o = ρ o) (hP : ∀ o, 3 ≤ o → o < σ.1 → σ'.2.1 o = σ.2.1 o) (hH : ∀ o, 3 ≤ o → o < σ.1 → σ'.2.2 o = σ.2.2 o) : am_ws G ρ' σ' = am_ws G ρ σ := by
  unfold am_ws
  rw [hn]
  refine List.map_congr_left (fun i hi => ?_)
  have hi' : i + 3 < σ.1 := by have := List.mem_range.mp hi; omega
  rw [hr _ hi', am_ce_eq (hP _ (by omega) hi') (hH _ (by omega) hi') (fun k => hr _ (hg.2.1 _ _))]
/-- one object changes -/
theorem am_ws_set {G : Nat → ClassId} {ρ : Nat → Nat} {σ σ' : am_S} {o : Nat} (h : 3 ≤ o) (h2 : o < σ.1) (hn : σ'.1 = σ.1) (hP : ∀ o', o' ≠ o → σ'.2.1 o' = σ.2.1 o') (hH : ∀ o', o' ≠ o → σ'.2.2 o' = σ.2.2 o') : (am_ws G ρ σ).set (o - 3) (ρ o, am_ce G ρ σ' o) = am_ws G ρ σ' := by
  apply List.ext_getElem?
  intro k
  by_cases hk : k = o - 3
  · subst hk
    rw [List.getElem?_set_self (by unfold am_ws; simp; omega), am_ws_at h (by omega)]
  · rw [List.getElem?_set_ne (Ne.symm hk)]
    unfold am_ws
    rw [hn, List.getElem?_map, List.getElem?_map]
    by_cases hl : k < σ.1 - 3
    · rw [List.getElem?_range hl]
      simp only [Option.map_some]
      rw [am_ce_eq (σ' := σ') (hP _ (by omega)) (hH _ (by omega)) (fun _ => rfl)]
    · rw [List.getElem?_eq_none (by simp; omega)]
      simp
/-- a new object -/
theorem am_ws_push {G : Nat → ClassId} {ρ : Nat → Nat} {σ : am_S} (q : Nat) (hg : am_rg σ) {e : va_E} (he : am_ce G (am_un ρ σ.1 q) (am_new σ) σ.1 = e) : am_ws G ρ σ ++ [(q, e)] = am_ws G (am_un ρ σ.1 q) (am_new σ) := by
  have h3 := hg.2.2
  unfold am_ws
  rw [show (am_new σ).1 - 3 = (σ.1 - 3) + 1 by show σ.1 + 1 - 3 = _; omega, List.range_succ, List.map_append, List.map_singleton, show σ.1 - 3 + 3 = σ.1 by omega, he]
  refine congr (congrArg _ (List.map_congr_left (fun i hi => ?_))) ?_
  · have hi' : i + 3 < σ.1 := by have := List.mem_range.mp hi; omega
    have hu : ∀ x, x < σ.1 → am_un ρ σ.1 q x = ρ x := fun x hx => if_neg (by omega)
    rw [hu _ hi', am_ce_eq (σ := σ) (ρ := ρ) (if_neg (by omega)) (if_neg (by omega)) (fun k => hu _ (hg.2.1 _ _))]
  · rw [show am_un ρ σ.1 q σ.1 = q from if_pos rfl]
theorem am_fs_at {ρ : Nat → Nat} {σ : am_S} {o c k : Nat} (h : k < am_nf c) : (am_fs ρ σ o c)[k]? = some (am_fe ρ σ o c k) := by
  unfold am_fs
  rw [List.getElem?_map, List.getElem?_range h]
  rfl
theorem am_fs_len {ρ : Nat → Nat} {σ : am_S} {o c : Nat} : (am_fs ρ σ o c).length = am_nf c := by unfold am_fs; simp
theorem am_fs_set {ρ : Nat → Nat} {σ σ' : am_S} {o c k : Nat} {v : Value} (h : k < am_nf c) (hv : am_fe ρ σ' o c k = v) (ho : ∀ j, j ≠ k → am_fe ρ σ' o c j = am_fe ρ σ o c j) : (am_fs ρ σ o c).set k v = am_fs ρ σ' o c := by
  apply List.ext_getElem?
  intro j
  by_cases hj : j = k
  · subst hj
    rw [List.getElem?_set_self (by rw [am_fs_len]; exact h), am_fs_at h, hv]
  · rw [List.getElem?_set_ne (Ne.symm hj)]
    by_cases hl : j < am_nf c
    · rw [am_fs_at hl, am_fs_at hl, ho j hj]
    · rw [List.getElem?_eq_none (by rw [am_fs_len]; omega), List.getElem?_eq_none (by rw [am_fs_len]; omega)]
theorem am_ok_mono {n n' : Nat} (h : n ≤ n') {v : am_V} (hv : am_ok n v) : am_ok n' v := by
  rcases v with a | a | r
  · exact hv
  · exact hv
  · exact Nat.lt_of_lt_of_le hv h
theorem am_tov_eq {ρ ρ' : Nat → Nat} {n : Nat} (h : ∀ o, o < n → ρ' o = ρ o) {v : am_V} (hv : am_ok n v) : am_tov ρ' v = am_tov ρ v := by
  rcases v with a | a | r
  · rfl
  · rfl
  · show (if r = 0 then Value.null else .ref (ρ' r)) = (if r = 0 then Value.null else .ref (ρ r))
    rw [h r hv]
theorem am_tov_map {ρ ρ' : Nat → Nat} {n : Nat} (h : ∀ o, o < n → ρ' o = ρ o) {st : List am_V} (hv : ∀ v ∈ st, am_ok n v) : st.map (am_tov ρ') = st.map (am_tov ρ) := List.map_congr_left (fun v q => am_tov_eq h (hv v q))
theorem am_cat (ρ : Nat → Nat) (v : am_V) : (am_tov ρ v).category = if am_c1 v then 1 else 2 := by
  rcases v with a | a | r
  · rfl
  · rfl
  · show (if r = 0 then Value.null else .ref (ρ r)).category = 1
    split <;> rfl
theorem am_cats (ρ : Nat → Nat) (st : List am_V) : ((st.map (am_tov ρ)).map fun v => v.category) = st.map (fun v => if am_c1 v then 1 else 2) := by
  rw [List.map_map]
  exact List.map_congr_left (fun v _ => am_cat ρ v)
theorem am_ss_mono {a b : Nat} (h : a ≤ b) : am_ss a ≤ am_ss b := by
  induction b with
  | zero => have : a = 0 := by omega
            rw [this]; exact Nat.le_refl _
  | succ b ih =>
    by_cases hb : a = b + 1
    · rw [hb]; exact Nat.le_refl _
    · exact Nat.le_trans (ih (by omega)) (Nat.le_add_right _ _)
/-! locals -/
def am_LR (ρ : Nat → Nat) (nL : Nat) (Ls : Array Slot) (ls : am_L) : Prop := Ls.size = nL ∧ lv_wf Ls ∧ ls.length = nL ∧ ∀ (i : Nat) (v : am_V), ls[i]? = some (some v) → Ls[i]? = some (.val (am_tov ρ v))
def am_lv (ρ : Nat → Nat) (ls : am_L) : List (Nat × Value) := (List.range ls.length).filterMap (fun i => match ls[i]? with
  | some (some v) => some (i, am_tov ρ v)
  | _ => none)
theorem am_lv_mem {ρ : Nat → Nat} {ls : am_L} {q : Nat × Value} : q ∈ am_lv ρ ls ↔ ∃ v, ls[q.1]? = some (some v) ∧ q.2 = am_tov ρ v := by
  unfold am_lv
  rw [List.mem_filterMap]
  constructor
  · rintro ⟨i, hi, h⟩
    split at h
    · rename_i v hv
      cases h
      exact ⟨v, hv, rfl⟩
    · cases h
  · rintro ⟨v, hv, h⟩
    refine ⟨q.1, List.mem_range.mpr (List.getElem?_eq_some_iff.mp hv).1, ?_⟩
    rw [hv]
    simp only [Option.some.injEq]
    exact Prod.ext rfl h.symm
theorem am_LR.has {ρ : Nat → Nat} {nL : Nat} {Ls : Array Slot} {ls : am_L} (h : am_LR ρ nL Ls ls) : lv_has Ls nL (am_lv ρ ls) := by
  refine ⟨h.1, h.2.1, fun q hq => ?_⟩
  obtain ⟨v, h1, h2⟩ := am_lv_mem.mp hq
  rw [h.2.2.2 _ _ h1, h2]
theorem am_clr_at {ls : am_L} {a i : Nat} {v : am_V} (h : (am_clr ls a)[i]? = some (some v)) : ls[i]? = some (some v) ∧ ¬ (i + 1 = a ∧ am_c1 v = false) := by
  unfold am_clr at h
  split at h
  · exact ⟨h, by omega⟩
  · rename_i j
    split at h
    · rename_i n hn
      by_cases hi : i = j
      · subst hi
        rw [List.getElem?_set_self (List.getElem?_eq_some_iff.mp hn).1] at h
        cases h
      · rw [List.getElem?_set_ne (Ne.symm hi)] at h
        exact ⟨h, by omega⟩
    · rename_i hn
      refine ⟨h, fun hq => ?_⟩
      have hij : i = j := by omega
      subst hij
      rcases v with a | a | a
      · cases hq.2
      · exact hn a h
      · cases hq.2
theorem am_clr_len (ls : am_L) (a : Nat) : (am_clr ls a).length = ls.length := by
  unfold am_clr
  split
  · rfl
  · split
    · exact List.length_set
    · rfl
theorem am_st1_at {ls : am_L} {a i : Nat} {v w : am_V} (ha : a < ls.length) (h : (am_st1 ls a v)[i]? = some (some w)) : (i = a ∧ w = v) ∨ (i ≠ a ∧ ls[i]? = some (some w) ∧ ¬ (i + 1 = a ∧ am_c1 w = false)) := by
  unfold am_st1 at h
  by_cases hi : i = a
  · subst hi
    rw [List.getElem?_set_self (by rw [am_clr_len]; exact ha)] at h
    cases h
    exact Or.inl ⟨rfl, rfl⟩
  · rw [List.getElem?_set_ne (Ne.symm hi)] at h
    exact Or.inr ⟨hi, am_clr_at h⟩
theorem am_st2_at {ls : am_L} {a i : Nat} {v w : am_V} (ha : a + 1 < ls.length) (h : (am_st2 ls a v)[i]? = some (some w)) : (i = a ∧ w = v) ∨ (i ≠ a ∧ i ≠ a + 1 ∧ ls[i]? = some (some w) ∧ ¬ (i + 1 = a ∧ am_c1 w = false)) := by
  unfold am_st2 at h
  by_cases hj : i = a + 1
  · subst hj
    rw [List.getElem?_set_self (by rw [List.length_set, am_clr_len]; exact ha)] at h
    cases h
  · rw [List.getElem?_set_ne (Ne.symm hj)] at h
    rcases am_st1_at (ls := ls) (v := v) (by omega) h with q | q
    · exact Or.inl q
    · exact Or.inr ⟨q.1, hj, q.2⟩
theorem am_LR.store1 {ρ : Nat → Nat} {nL : Nat} {Ls Ls' : Array Slot} {ls : am_L} {a : Nat} {v : am_V} (h : am_LR ρ nL Ls ls) (ha : a < ls.length)
    (h' : lv_has Ls' nL ((a, am_tov ρ v) :: (am_lv ρ ls).filter (fun q => !(q.1 == a) && !(q.1 + 1 == a && q.2.category == 2)))) : am_LR ρ nL Ls' (am_st1 ls a v) := by
  refine ⟨h'.1, h'.2.1, by unfold am_st1; rw [List.length_set, am_clr_len]; exact h.2.2.1, fun i w hw => ?_⟩
  rcases am_st1_at ha hw with ⟨rfl, rfl⟩ | ⟨h1, h2, h3⟩
  · exact h'.2.2 (i, am_tov ρ w) List.mem_cons_self
  · refine h'.2.2 (i, am_tov ρ w) (List.mem_cons_of_mem _ (List.mem_filter.mpr ⟨am_lv_mem.mpr ⟨w, h2, rfl⟩, ?_⟩))
    have hc := am_cat ρ w
    by_cases h4 : i + 1 = a
    · have h5 : am_c1 w = true := by
        cases hcw : am_c1 w with
        | true => rfl
        | false => exact absurd ⟨h4, hcw⟩ h3
      simp [h1, hc, h5]
    · simp [h1, h4]
theorem am_LR.store2 {ρ : Nat → Nat} {nL : Nat} {Ls Ls' : Array Slot} {ls : am_L} {a : Nat} {v : am_V} (h : am_LR ρ nL Ls ls) (ha : a + 1 < ls.length)
    (h' : lv_has Ls' nL ((a, am_tov ρ v) :: (am_lv ρ ls).filter (fun q => !(q.1 == a) && (!(q.1 == a + 1) && !(q.1 + 1 == a && q.2.category == 2))))) : am_LR ρ nL Ls' (am_st2 ls a v) := by
  refine ⟨h'.1, h'.2.1, by unfold am_st2; rw [List.length_set, List.length_set, am_clr_len]; exact h.2.2.1, fun i w hw => ?_⟩
  rcases am_st2_at ha hw with ⟨rfl, rfl⟩ | ⟨h1, h1', h2, h3⟩
  · exact h'.2.2 (i, am_tov ρ w) List.mem_cons_self
  · refine h'.2.2 (i, am_tov ρ w) (List.mem_cons_of_mem _ (List.mem_filter.mpr ⟨am_lv_mem.mpr ⟨w, h2, rfl⟩, ?_⟩))
    have hc := am_cat ρ w
    by_cases h4 : i + 1 = a
    · have h5 : am_c1 w = true := by
        cases hcw : am_c1 w with
        | true => rfl
        | false => exact absurd ⟨h4, hcw⟩ h3
      simp [h1, h1', hc, h5]
    · simp [h1, h1', h4]
theorem am_LR.rho {ρ ρ' : Nat → Nat} {n nL : Nat} {Ls : Array Slot} {ls : am_L} (h : am_LR ρ nL Ls ls) (hr : ∀ o, o < n → ρ' o = ρ o) (hv : ∀ (i : Nat) (v : am_V), ls[i]? = some (some v) → am_ok n v) : am_LR ρ' nL Ls ls :=
  ⟨h.1, h.2.1, h.2.2.1, fun i v hi => by rw [h.2.2.2 i v hi, am_tov_eq hr (hv i v hi)]⟩
theorem am_st1_ok {n : Nat} {ls : am_L} {a : Nat} {v : am_V} (ha : a < ls.length) (h : ∀ (i : Nat) (v : am_V), ls[i]? = some (some v) → am_ok n v) (hv : am_ok n v) : ∀ (i : Nat) (w : am_V), (am_st1 ls a v)[i]? = some (some w) → am_ok n w := by
  intro i w hw
  rcases am_st1_at ha hw with ⟨-, rfl⟩ | ⟨-, h2, -⟩
  · exact hv
  · exact h i w h2
theorem am_st2_ok {n : Nat} {ls : am_L} {a : Nat} {v : am_V} (ha : a + 1 < ls.length) (h : ∀ (i : Nat) (v : am_V), ls[i]? = some (some v) → am_ok n v) (hv : am_ok n v) : ∀ (i : Nat) (w : am_V), (am_st2 ls a v)[i]? = some (some w) → am_ok n w := by
  intro i w hw
  rcases am_st2_at ha hw with ⟨-, rfl⟩ | ⟨-, -, h2, -⟩
  · exact hv
  · exact h i w h2
