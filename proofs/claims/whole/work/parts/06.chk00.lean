/-! ===== every row is what the bytes say, and links what the tables say ===== -/
def am_pcz (cd : List am_I) (i : Nat) : Nat := match cd[i]? with
  | some r => r.1.1
  | none => 0
def am_ln (row : am_I) : Nat := match row.1.2 with
  | .bipush _ => 2
  | .sipush _ => 3
  | .ldc _ => 2
  | .iload _ => 2
  | .lload _ => 2
  | .aload _ => 2
  | .istore _ => 2
  | .lstore _ => 2
  | .astore _ => 2
  | .iinc _ _ => 3
  | .ifCond _ _ => 3
  | .if_icmp _ _ => 3
  | .ifnonnull _ => 3
  | .goto _ => 3
  | .getfield _ => 3
  | .putfield _ => 3
  | .getstatic _ => 3
  | .invokestatic _ => 3
  | .invokespecial _ => 3
  | .invokevirtual _ => 3
  | .new _ => 3
  | .anewarray _ => 3
  | .newarray _ => 2
  | .tableswitch _ _ _ _ => row.2.2.1
  | .lookupswitch _ _ => row.2.2.1
  | _ => 1
def am_fall (ins : Instr) : Bool := match ins with
  | .goto _ => false
  | .tableswitch _ _ _ _ => false
  | .lookupswitch _ _ => false
  | .ireturn => false
  | .lreturn => false
  | .return_ => false
  | _ => true

def am_np : List Nat := [0, 5, 1, 2, 0, 1, 3, 1, 1, 1, 2, 2, 4, 3, 3, 1, 2, 2, 2, 2, 1, 1, 2, 0, 0, 1, 1, 2, 0, 2, 1, 1, 3, 1, 3, 0, 1, 4, 2, 1, 0, 1, 1, 0, 2, 1, 1, 1, 5, 0, 0, 0, 1, 1, 0, 1, 0, 0, 0, 1, 2, 2, 0, 1, 1, 0, 1, 1, 3, 3, 1, 2, 1, 2, 1, 1, 1, 1, 4, 1, 4, 3, 2, 2, 2, 1, 4, 2, 2, 2, 4, 1, 3, 3, 1, 2, 2, 1, 1, 1, 2, 2, 2, 2, 1, 0, 1, 1, 0, 2, 0, 0, 1, 2, 2, 0, 2, 1, 1, 3, 1, 3, 0, 2, 2, 1, 5, 4, 1, 0, 1, 1, 1, 1, 1, 2, 1, 0, 1, 1, 2, 1, 1, 2, 2, 1, 1, 2, 3, 1, 0, 3, 2, 3, 2, 1, 0, 1, 1, 2, 2, 3, 2, 3, 1, 2, 1, 2, 1, 4, 1, 1, 1, 1, 3, 1, 2, 2, 2, 4, 3, 1, 0, 0, 1, 0, 1, 1, 2, 1, 0, 1, 2, 3, 1, 2, 2, 0, 5, 3, 4, 3, 3, 3, 0, 1, 1, 1, 0, 1, 1, 1, 1, 2, 2, 2, 3, 1, 1, 1, 2, 1, 4, 3, 1, 3, 1, 1, 0, 2, 1, 0, 1, 0, 1, 1, 1, 1, 2, 4, 0, 0, 2, 3, 0, 1, 1, 1, 2]
def am_ii : List Bool := [true, false, false, false, false, false, false, false, false, false, false, false, false, false, false, false, false, false, false, false, false, false, false, false, false, false, false, false, false, false, false, false, false, false, false, false, false, false, false, false, false, false, false, true, false, false, false, false, false, false, false, false, false, false, false, false, false, false, false, false, false, false, false, false, false, false, false, false, false, false, false, false, false, false, false, false, false, false, false, false, false, false, false, false, false, false, false, false, false, false, false, false, false, false, false, false, false, false, false, false, false, false, false, false, false, false, false, false, false, false, false, false, false, false, false, false, false, false, false, false, false, false, false, false, false, false, false, false, false, false, false, false, true, false, false, false, false, true, false, false, false, false, false, false, false, false, false, false, false, false, true, false, false, false, false, false, true, false, false, false, false, false, false, false, false, false, false, false, false, false, false, false, false, false, false, false, false, false, false, false, false, false, true, false, false, false, false, false, false, false, true, false, false, false, false, false, false, true, false, false, false, false, false, false, false, false, false, false, true, false, false, false, false, false, false, false, false, false, false, false, false, false, false, false, false, false, false, false, true, false, false, true, false, false, false, false, false, false, false, false, false, false, false, false, false, false, false, false, false]
def am_vo (c : Nat) : Nat := [0, 1, 2, 3, 5, 6, 7, 8, 9, 10, 11, 12].getD c 99
def am_tg (cd : List am_I) (pc : Nat) (a : Nat) (off : Int) : Bool := decide ((am_pcz cd a : Int) = (pc : Int) + off)
def am_inc : List (Int × Int) → Bool
  | [] => true
  | [_] => true
  | a :: b :: r => decide (a.1 < b.1) && am_inc (b :: r)
def am_rk (q : am_MI) (ii : Bool) (cd : List am_I) (i : Nat) (row : am_I) : Bool :=
  decide (decode q.2.1 row.1.1 = .ok (row.1.2, am_ln row)) &&
  ((!am_fall row.1.2) || decide (am_pcz cd (i + 1) = row.1.1 + am_ln row)) &&
  (match row.1.2 with
   | .iconst n => decide (n = row.2.2.2 ∧ -10 ≤ n ∧ n ≤ 10)
   | .bipush n => decide (n = row.2.2.2 ∧ -128 ≤ n ∧ n ≤ 127)
   | .sipush n => decide (n = row.2.2.2 ∧ -32768 ≤ n ∧ n ≤ 32767)
   | .ldc idx => decide ((q.2.2.2.2.1, idx, row.2.2.2) ∈ am_ct ∧ -2147483648 ≤ row.2.2.2 ∧ row.2.2.2 < 2147483648)
   | .lconst n => decide (((n : Nat) : Int) = row.2.2.2)
   | .iload k => decide (k = row.2.1)
   | .lload k => decide (k = row.2.1)
   | .aload k => decide (k = row.2.1)
   | .istore k => decide (k = row.2.1)
   | .lstore k => decide (k = row.2.1)
   | .astore k => decide (k = row.2.1)
   | .iload_n k => decide ((k : Nat) = row.2.1)
   | .lload_n k => decide ((k : Nat) = row.2.1)
   | .aload_n k => decide ((k : Nat) = row.2.1)
   | .istore_n k => decide ((k : Nat) = row.2.1)
   | .astore_n k => decide ((k : Nat) = row.2.1)
   | .iinc k n => decide (k = row.2.1 ∧ n = row.2.2.2)
   | .ifCond _ off => am_tg cd row.1.1 row.2.1 off
   | .if_icmp _ off => am_tg cd row.1.1 row.2.1 off
   | .ifnonnull off => am_tg cd row.1.1 row.2.1 off
   | .goto off => am_tg cd row.1.1 row.2.1 off
   | .tableswitch d lo hi offs => am_tg cd row.1.1 (am_fd cd ((row.1.1 : Int) + d)) d && offs.toList.all (fun t => am_tg cd row.1.1 (am_fd cd ((row.1.1 : Int) + t)) t) && decide ((offs.size : Int) = hi - lo + 1)
   | .lookupswitch d ps => am_tg cd row.1.1 (am_fd cd ((row.1.1 : Int) + d)) d && ps.toList.all (fun t => am_tg cd row.1.1 (am_fd cd ((row.1.1 : Int) + t.2)) t.2) && am_inc ps.toList && ps.toList.all (fun t => decide (-2147483648 ≤ t.1 ∧ t.1 < 2147483648))
   | .getfield idx => decide ((q.2.2.2.2.1, idx, row.2.1, row.2.2.1) ∈ am_fl ∧ row.2.1 < 12 ∧ row.2.2.1 < am_nf row.2.1)
   | .putfield idx => decide ((q.2.2.2.2.1, idx, row.2.1, row.2.2.1) ∈ am_fl ∧ row.2.1 < 12 ∧ row.2.2.1 < am_nf row.2.1) && ((am_T row.2.1 row.2.2.1).2.2.2 == false || (ii && decide (am_vo row.2.1 = q.2.2.2.2.1)))
   | .getstatic idx => decide ((q.2.2.2.2.1, idx) ∈ am_gs)
   | .anewarray idx => decide ((q.2.2.2.2.1, idx) ∈ am_an)
   | .new idx => decide ((q.2.2.2.2.1, idx, row.2.1) ∈ am_cl ∧ row.2.1 < 12)
   | .invokestatic idx => if row.2.1 = 1001 then decide ((q.2.2.2.2.1, idx) ∈ am_ac) else if row.2.1 = 1002 then decide ((q.2.2.2.2.1, idx) ∈ am_mx) else if row.2.1 = 1003 then decide ((q.2.2.2.2.1, idx) ∈ am_mi3) else decide ((q.2.2.2.2.1, idx, row.2.1) ∈ am_ml ∧ row.2.1 < 249 ∧ (am_m row.2.1).2.2.2.2.2 = true ∧ row.2.2.1 = am_np.getD row.2.1 0 ∧ (am_m row.2.1).2.2.2.2.1 ≠ 13 ∧ (am_m row.2.1).2.2.1 ≤ 14)
   | .invokespecial idx => if row.2.1 = 1000 then decide ((q.2.2.2.2.1, idx) ∈ am_oi) else decide (((q.2.2.2.2.1, idx, row.2.1) ∈ am_ml ∨ (q.2.2.2.2.1, idx, row.2.1) ∈ am_mn) ∧ row.2.1 < 249 ∧ (am_m row.2.1).2.2.2.2.2 = false ∧ am_ii.getD row.2.1 false = true ∧ row.2.2.1 = am_np.getD row.2.1 0 + 1 ∧ (am_m row.2.1).2.2.2.2.1 ≠ 13 ∧ (am_m row.2.1).2.2.1 ≤ 14)
   | .invokevirtual idx => decide ((q.2.2.2.2.1, idx, row.2.1) ∈ am_ml ∧ row.2.1 < 249 ∧ (am_m row.2.1).2.2.2.2.2 = false ∧ am_ii.getD row.2.1 false = false ∧ row.2.2.1 = am_np.getD row.2.1 0 + 1 ∧ row.2.2.2.toNat < 12 ∧ am_vo row.2.2.2.toNat = (am_m row.2.1).2.2.2.2.1 ∧ (am_m row.2.1).2.2.2.2.1 ≠ 13 ∧ (am_m row.2.1).2.2.1 ≤ 14)
   | .ireturn => decide (q.2.2.2.1 = some .boolean ∧ row.2.1 = 1) || decide (q.2.2.2.1 = some .int)
   | .lreturn => decide (q.2.2.2.1 = some .long)
   | .return_ => decide (q.2.2.2.1 = none)
   | _ => true)
def am_rkl (q : am_MI) (ii : Bool) (cd : List am_I) : Nat → List am_I → Bool
  | _, [] => true
  | i, row :: r => am_rk q ii cd i row && am_rkl q ii cd (i + 1) r
def am_rks (y : Nat) : Bool := am_rkl (am_m y) (am_ii.getD y false) (am_cd y) 0 (am_cd y)
theorem am_rkl_app {q : am_MI} {ii : Bool} {cd : List am_I} {l2 : List am_I} : ∀ {l1 : List am_I} {j : Nat}, am_rkl q ii cd j l1 = true → am_rkl q ii cd (j + l1.length) l2 = true → am_rkl q ii cd j (l1 ++ l2) = true
  | [], j, _, h => h
  | a :: l, j, h1, h2 => by
    simp only [am_rkl, List.cons_append, Bool.and_eq_true] at h1 ⊢
    refine ⟨h1.1, am_rkl_app h1.2 ?_⟩
    rw [List.length_cons, show j + (l.length + 1) = j + 1 + l.length by omega] at h2
    exact h2
theorem am_rkl_at {q : am_MI} {ii : Bool} {cd : List am_I} : ∀ (l : List am_I) (j : Nat), am_rkl q ii cd j l = true → ∀ (i : Nat) (row : am_I), l[i]? = some row → am_rk q ii cd (j + i) row = true
  | [], _, _, i, row, h => by simp at h
  | a :: l, j, hj, i, row, h => by
    simp only [am_rkl, Bool.and_eq_true] at hj
    cases i with
    | zero =>
      rw [List.getElem?_cons_zero] at h
      cases h
      exact hj.1
    | succ i =>
      rw [List.getElem?_cons_succ] at h
      have := am_rkl_at l (j + 1) hj.2 i row h
      rw [show j + 1 + i = j + (i + 1) by omega] at this
      exact this
theorem am_rk_at {y : Nat} (h : am_rks y = true) {i : Nat} {row : am_I} (hr : (am_cd y)[i]? = some row) : am_rk (am_m y) (am_ii.getD y false) (am_cd y) i row = true := by
  have := am_rkl_at _ _ h i row hr
  rw [Nat.zero_add] at this
  exact this
def am_nmok (y : Nat) : Prop := (parseMethodDescriptor (am_m y).1.desc).map (fun d => d.parameters.length) = some (am_np.getD y 0) ∧ (am_m y).1.cls = am_own (am_m y).2.2.2.2.1 ∧ (((am_m y).1.name == "<init>") = am_ii.getD y false ∧ plainName (am_m y).1.cls = true ∧ (am_m y).1.cls ≠ "java/lang/invoke/MethodHandle" ∧ (am_m y).1.cls ≠ "java/lang/invoke/VarHandle")
theorem am_vo_ok : ∀ c, c < 12 → (am_vc c).1 = am_own (am_vo c) ∧ am_nf c = (am_vc c).2.2 ∧ ∀ k, k < (am_vc c).2.2 → (am_T c k).1 = am_own (am_vo c) := by decide +kernel

set_option maxRecDepth 100000 in
theorem am_ck_0 : am_rks 0 = true := by decide +kernel
theorem am_cn_0 : am_nmok 0 := by first | decide +kernel | exact ⟨rfl, rfl, by decide +kernel⟩
set_option maxRecDepth 100000 in
theorem am_ck_1 : am_rks 1 = true := by decide +kernel
theorem am_cn_1 : am_nmok 1 := by first | decide +kernel | exact ⟨rfl, rfl, by decide +kernel⟩
set_option maxRecDepth 100000 in
theorem am_ck_2 : am_rks 2 = true := by decide +kernel
theorem am_cn_2 : am_nmok 2 := by first | decide +kernel | exact ⟨rfl, rfl, by decide +kernel⟩
set_option maxRecDepth 100000 in
theorem am_ck_3 : am_rks 3 = true := by decide +kernel
theorem am_cn_3 : am_nmok 3 := by first | decide +kernel | exact ⟨rfl, rfl, by decide +kernel⟩
set_option maxRecDepth 100000 in
theorem am_ck_4 : am_rks 4 = true := by decide +kernel
theorem am_cn_4 : am_nmok 4 := by first | decide +kernel | exact ⟨rfl, rfl, by decide +kernel⟩
set_option maxRecDepth 100000 in
theorem am_ck_5 : am_rks 5 = true := by decide +kernel
theorem am_cn_5 : am_nmok 5 := by first | decide +kernel | exact ⟨rfl, rfl, by decide +kernel⟩
set_option maxRecDepth 100000 in
theorem am_ck_6 : am_rks 6 = true := by decide +kernel
theorem am_cn_6 : am_nmok 6 := by first | decide +kernel | exact ⟨rfl, rfl, by decide +kernel⟩
set_option maxRecDepth 100000 in
theorem am_ck_7 : am_rks 7 = true := by decide +kernel
theorem am_cn_7 : am_nmok 7 := by first | decide +kernel | exact ⟨rfl, rfl, by decide +kernel⟩
set_option maxRecDepth 100000 in
theorem am_ck_8 : am_rks 8 = true := by decide +kernel
theorem am_cn_8 : am_nmok 8 := by first | decide +kernel | exact ⟨rfl, rfl, by decide +kernel⟩
set_option maxRecDepth 100000 in
theorem am_ck_9 : am_rks 9 = true := by decide +kernel
theorem am_cn_9 : am_nmok 9 := by first | decide +kernel | exact ⟨rfl, rfl, by decide +kernel⟩
set_option maxRecDepth 100000 in
theorem am_ck_10 : am_rks 10 = true := by decide +kernel
theorem am_cn_10 : am_nmok 10 := by first | decide +kernel | exact ⟨rfl, rfl, by decide +kernel⟩
set_option maxRecDepth 100000 in
theorem am_ck_11 : am_rks 11 = true := by decide +kernel
theorem am_cn_11 : am_nmok 11 := by first | decide +kernel | exact ⟨rfl, rfl, by decide +kernel⟩
set_option maxRecDepth 100000 in
theorem am_ck_12 : am_rks 12 = true := by decide +kernel
theorem am_cn_12 : am_nmok 12 := by first | decide +kernel | exact ⟨rfl, rfl, by decide +kernel⟩
set_option maxRecDepth 100000 in
theorem am_ck_13 : am_rks 13 = true := by decide +kernel
theorem am_cn_13 : am_nmok 13 := by first | decide +kernel | exact ⟨rfl, rfl, by decide +kernel⟩
set_option maxRecDepth 100000 in
theorem am_ck_14 : am_rks 14 = true := by decide +kernel
theorem am_cn_14 : am_nmok 14 := by first | decide +kernel | exact ⟨rfl, rfl, by decide +kernel⟩
set_option maxRecDepth 100000 in
theorem am_ck_15 : am_rks 15 = true := by decide +kernel
theorem am_cn_15 : am_nmok 15 := by first | decide +kernel | exact ⟨rfl, rfl, by decide +kernel⟩
set_option maxRecDepth 100000 in
theorem am_ck_16 : am_rks 16 = true := by decide +kernel
theorem am_cn_16 : am_nmok 16 := by first | decide +kernel | exact ⟨rfl, rfl, by decide +kernel⟩
set_option maxRecDepth 100000 in
theorem am_ck_17 : am_rks 17 = true := by decide +kernel
theorem am_cn_17 : am_nmok 17 := by first | decide +kernel | exact ⟨rfl, rfl, by decide +kernel⟩
set_option maxRecDepth 100000 in
theorem am_ck_18 : am_rks 18 = true := by decide +kernel
theorem am_cn_18 : am_nmok 18 := by first | decide +kernel | exact ⟨rfl, rfl, by decide +kernel⟩
set_option maxRecDepth 100000 in
theorem am_ck_19 : am_rks 19 = true := by decide +kernel
theorem am_cn_19 : am_nmok 19 := by first | decide +kernel | exact ⟨rfl, rfl, by decide +kernel⟩
set_option maxRecDepth 100000 in
theorem am_ck_20 : am_rks 20 = true := by decide +kernel
theorem am_cn_20 : am_nmok 20 := by first | decide +kernel | exact ⟨rfl, rfl, by decide +kernel⟩
set_option maxRecDepth 100000 in
theorem am_ck_21 : am_rks 21 = true := by decide +kernel
theorem am_cn_21 : am_nmok 21 := by first | decide +kernel | exact ⟨rfl, rfl, by decide +kernel⟩
set_option maxRecDepth 100000 in
theorem am_ck_22 : am_rks 22 = true := by decide +kernel
theorem am_cn_22 : am_nmok 22 := by first | decide +kernel | exact ⟨rfl, rfl, by decide +kernel⟩
set_option maxRecDepth 100000 in
theorem am_ck_23 : am_rks 23 = true := by decide +kernel
theorem am_cn_23 : am_nmok 23 := by first | decide +kernel | exact ⟨rfl, rfl, by decide +kernel⟩
set_option maxRecDepth 100000 in
theorem am_ck_24 : am_rks 24 = true := by decide +kernel
theorem am_cn_24 : am_nmok 24 := by first | decide +kernel | exact ⟨rfl, rfl, by decide +kernel⟩
set_option maxRecDepth 100000 in
theorem am_ck_25 : am_rks 25 = true := by decide +kernel
theorem am_cn_25 : am_nmok 25 := by first | decide +kernel | exact ⟨rfl, rfl, by decide +kernel⟩
set_option maxRecDepth 100000 in
theorem am_ck_26 : am_rks 26 = true := by decide +kernel
theorem am_cn_26 : am_nmok 26 := by first | decide +kernel | exact ⟨rfl, rfl, by decide +kernel⟩
set_option maxRecDepth 100000 in
theorem am_ck_27 : am_rks 27 = true := by decide +kernel
theorem am_cn_27 : am_nmok 27 := by first | decide +kernel | exact ⟨rfl, rfl, by decide +kernel⟩
set_option maxRecDepth 100000 in
theorem am_ck_28 : am_rks 28 = true := by decide +kernel
theorem am_cn_28 : am_nmok 28 := by first | decide +kernel | exact ⟨rfl, rfl, by decide +kernel⟩
set_option maxRecDepth 100000 in
theorem am_ck_29 : am_rks 29 = true := by decide +kernel
theorem am_cn_29 : am_nmok 29 := by first | decide +kernel | exact ⟨rfl, rfl, by decide +kernel⟩
set_option maxRecDepth 100000 in
theorem am_ck_30 : am_rks 30 = true := by decide +kernel
theorem am_cn_30 : am_nmok 30 := by first | decide +kernel | exact ⟨rfl, rfl, by decide +kernel⟩
set_option maxRecDepth 100000 in
theorem am_ck_31 : am_rks 31 = true := by decide +kernel
theorem am_cn_31 : am_nmok 31 := by first | decide +kernel | exact ⟨rfl, rfl, by decide +kernel⟩
set_option maxRecDepth 100000 in
theorem am_ck_32 : am_rks 32 = true := by decide +kernel
theorem am_cn_32 : am_nmok 32 := by first | decide +kernel | exact ⟨rfl, rfl, by decide +kernel⟩
set_option maxRecDepth 100000 in
theorem am_ck_33 : am_rks 33 = true := by decide +kernel
theorem am_cn_33 : am_nmok 33 := by first | decide +kernel | exact ⟨rfl, rfl, by decide +kernel⟩
set_option maxRecDepth 100000 in
theorem am_ck_34 : am_rks 34 = true := by decide +kernel
theorem am_cn_34 : am_nmok 34 := by first | decide +kernel | exact ⟨rfl, rfl, by decide +kernel⟩
set_option maxRecDepth 100000 in
theorem am_ck_35 : am_rks 35 = true := by decide +kernel
theorem am_cn_35 : am_nmok 35 := by first | decide +kernel | exact ⟨rfl, rfl, by decide +kernel⟩
set_option maxRecDepth 100000 in
theorem am_ck_36 : am_rks 36 = true := by decide +kernel
theorem am_cn_36 : am_nmok 36 := by first | decide +kernel | exact ⟨rfl, rfl, by decide +kernel⟩
set_option maxRecDepth 100000 in
theorem am_ck_37 : am_rks 37 = true := by decide +kernel
theorem am_cn_37 : am_nmok 37 := by first | decide +kernel | exact ⟨rfl, rfl, by decide +kernel⟩
set_option maxRecDepth 100000 in
theorem am_ck_38 : am_rks 38 = true := by decide +kernel
theorem am_cn_38 : am_nmok 38 := by first | decide +kernel | exact ⟨rfl, rfl, by decide +kernel⟩
set_option maxRecDepth 100000 in
theorem am_ck_39 : am_rks 39 = true := by decide +kernel
theorem am_cn_39 : am_nmok 39 := by first | decide +kernel | exact ⟨rfl, rfl, by decide +kernel⟩
set_option maxRecDepth 100000 in
theorem am_ck_40 : am_rks 40 = true := by decide +kernel
theorem am_cn_40 : am_nmok 40 := by first | decide +kernel | exact ⟨rfl, rfl, by decide +kernel⟩
set_option maxRecDepth 100000 in
theorem am_ck_41 : am_rks 41 = true := by decide +kernel
theorem am_cn_41 : am_nmok 41 := by first | decide +kernel | exact ⟨rfl, rfl, by decide +kernel⟩
