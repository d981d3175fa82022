/-! ===== the abstract machine: values, heap, layout, the step predicate ===== -/
/-- values: an int, a long, a reference (0 null, 1 the static TENS, 2 the script, objects from 3 on) -/
abbrev am_V : Type := Int ⊕ Int ⊕ Nat
abbrev am_i (n : Int) : am_V := Sum.inl n
abbrev am_l (n : Int) : am_V := Sum.inr (Sum.inl n)
abbrev am_r (n : Nat) : am_V := Sum.inr (Sum.inr n)
/-- the next object's number, and what objects hold -/
abbrev am_H : Type := Nat → Nat → Int
abbrev am_S : Type := Nat × am_H
abbrev am_L : Type := List (Option am_V)
/-- a row of code: (byte pc, instruction), two numbers and an int that say what it links -/
abbrev am_I : Type := (Nat × Instr) × Nat × Nat × Int
def w32 (n : Int) : Int := (n + 2147483648) % 4294967296 - 2147483648
def w64 (n : Int) : Int := (n + 9223372036854775808) % 18446744073709551616 - 9223372036854775808
def w8 (n : Int) : Int := (n + 128) % 256 - 128
def am_and (a b : Int) : Int := (Int32.ofInt a &&& Int32.ofInt b).toInt
def am_ushr (a b : Int) : Int := ((Int32.ofInt a).toUInt32 >>> ((Int32.ofInt b).toUInt32 &&& Int32.toUInt32 31)).toInt32.toInt
def am_shr (a b : Int) : Int := (Int32.ofInt a >>> (Int32.ofInt b &&& 31)).toInt
def am_lor (a b : Int) : Int := (Int64.ofInt a ||| Int64.ofInt b).toInt
def am_lshl (a b : Int) : Int := (Int64.ofInt a <<< ((Int32.ofInt b).toInt64 &&& 63)).toInt
def am_lshr (a b : Int) : Int := (Int64.ofInt a >>> ((Int32.ofInt b).toInt64 &&& 63)).toInt
def am_lcmp (a b : Int) : Int := if a < b then -1 else if a = b then 0 else 1
def am_cp (c : ClassFile.Cond) (a b : Int) : Prop := match c with
  | .eq => a = b
  | .ne => a ≠ b
  | .lt => a < b
  | .ge => b ≤ a
  | .gt => b < a
  | .le => a ≤ b
/-- what an object is: (0, its class), (1, n) ints, (2, n) longs, (3, n) bytes, (4, n) booleans, (5, n) references to State -/
def am_l0 : List (Nat × Nat) := [(0, 10), (0, 9), (0, 0), (1, 80), (2, 8), (0, 0), (1, 60), (0, 8), (0, 3), (1, 200), (2, 1600), (0, 7), (1, 16), (1, 16), (1, 480), (1, 200), (1, 200), (1, 200), (1, 200), (1, 200), (1, 200), (1, 200), (1, 200), (0, 4), (1, 60), (0, 1), (1, 200), (1, 200), (1, 16), (1, 960), (0, 2), (1, 12), (1, 12), (1, 12), (1, 12), (1, 192), (5, 4), (0, 5), (1, 60), (1, 60), (0, 6), (1, 200), (1, 200), (1, 200), (1, 200), (1, 201), (1, 3417), (1, 3216), (1, 16), (1, 480), (0, 11), (1, 52050), (4, 4), (3, 80), (1, 8), (1, 8), (1, 8), (1, 8), (3, 80), (1, 60), (4, 60), (1, 480), (1, 480), (4, 481), (1, 8177), (1, 8177), (1, 16), (1, 480), (1, 480)]
def am_lb : List (Nat × Nat) := [(0, 8), (0, 3), (1, 200), (2, 1600), (0, 7), (1, 16), (1, 16), (1, 480), (1, 200), (1, 200), (1, 200), (1, 200), (1, 200), (1, 200), (1, 200), (1, 200), (0, 4), (1, 60), (0, 1), (1, 200), (1, 200), (1, 16), (1, 960), (0, 2), (1, 12), (1, 12), (1, 12), (1, 12), (1, 192)]
def am_ly (o : Nat) : Nat × Nat := match o with
  | 0 => (9, 0)
  | 1 => (9, 0)
  | 2 => (9, 0)
  | o + 3 => match am_l0[o]? with
    | some q => q
    | none => am_lb.getD ((o - 69) % 29) (9, 0)
/-- fields of a class: 0 an int, 1 a boolean, 2 a reference -/
def am_ft : List (List Nat) := [[2, 0], [0, 2, 2, 2, 2], [0, 2, 2, 2, 2, 2], [0, 2, 2], [0, 0, 2], [0, 0, 2, 2], [0, 2, 2, 2, 2, 2, 2, 2, 0, 0, 1, 0, 0, 2, 2], [0, 2, 2, 2, 0, 2, 2, 2, 2, 2, 2, 2, 2], [2, 2, 2, 2, 2, 0], [2, 2, 0, 0, 0, 0, 0], [2, 2, 0, 2, 2, 2, 2], [2, 2, 2, 0, 0, 0, 0, 0, 2, 2, 2, 2, 2, 0, 2, 2, 2, 2, 2, 0, 2, 2, 1, 0, 0, 2, 2, 0, 2]]
def am_fk (c k : Nat) : Nat := (am_ft.getD c []).getD k 9
def am_nf (c : Nat) : Nat := (am_ft.getD c []).length
/-- the slots of an object -/
def am_so1 (o : Nat) : Nat := match am_ly o with
  | (0, c) => am_nf c
  | (_, n) => n
def am_so (H : am_H) (o : Nat) (g : Nat → Int) : am_H := fun o' => if o' = o then g else H o'
def am_uf (g : Nat → Int) (k : Nat) (v : Int) : Nat → Int := fun k' => if k' = k then v else g k'
def am_up (H : am_H) (o k : Nat) (v : Int) : am_H := am_so H o (am_uf (H o) k v)
/-- an array's kind and length, and what it holds -/
def am_ak (σ : am_S) (o : Nat) : Nat × Int := match o with
  | 0 => (9, 0)
  | 1 => (1, 7)
  | 2 => (1, σ.2 2 0)
  | o + 3 => ((am_ly (o + 3)).1, ((am_ly (o + 3)).2 : Int))
def am_rd (σ : am_S) (o : Nat) (i : Int) : Int := match o with
  | 1 => 10 ^ i.toNat
  | 2 => σ.2 2 (i.toNat + 1)
  | o => σ.2 o i.toNat
def am_fv (c k : Nat) (n : Int) : am_V := if am_fk c k = 2 then am_r n.toNat else am_i n
/-- a value that may be put into a field of that kind, as an int -/
def am_pv (t : Nat) (v : am_V) (k : Int → Prop) : Prop := match v with
  | .inl n => (t = 0 ∨ (t = 1 ∧ (n = 0 ∨ n = 1))) ∧ k n
  | .inr (.inl _) => False
  | .inr (.inr p) => t = 2 ∧ k (p : Int)
def am_p1 (st : List am_V) (k : Int → List am_V → Prop) : Prop := match st with
  | .inl a :: r => k a r
  | _ => False
def am_p2 (st : List am_V) (k : Int → Int → List am_V → Prop) : Prop := match st with
  | .inl b :: .inl a :: r => k a b r
  | _ => False
def am_pl (st : List am_V) (k : Int → List am_V → Prop) : Prop := match st with
  | .inr (.inl a) :: r => k a r
  | _ => False
def am_pll (st : List am_V) (k : Int → Int → List am_V → Prop) : Prop := match st with
  | .inr (.inl b) :: .inr (.inl a) :: r => k a b r
  | _ => False
def am_pli (st : List am_V) (k : Int → Int → List am_V → Prop) : Prop := match st with
  | .inl b :: .inr (.inl a) :: r => k a b r
  | _ => False
def am_pr (st : List am_V) (k : Nat → List am_V → Prop) : Prop := match st with
  | .inr (.inr a) :: r => k a r
  | _ => False
/-- an index and an array -/
def am_pa (st : List am_V) (k : Nat → Int → List am_V → Prop) : Prop := match st with
  | .inl i :: .inr (.inr o) :: r => k o i r
  | _ => False
/-- a value, an index and an array -/
def am_pva (st : List am_V) (k : Nat → Int → am_V → List am_V → Prop) : Prop := match st with
  | v :: .inl i :: .inr (.inr o) :: r => k o i v r
  | _ => False
def am_ldi (ls : am_L) (a : Nat) (k : Int → Prop) : Prop := match ls[a]? with
  | some (some (.inl n)) => k n
  | _ => False
def am_ldl (ls : am_L) (a : Nat) (k : Int → Prop) : Prop := match ls[a]? with
  | some (some (.inr (.inl n))) => k n
  | _ => False
def am_ldr (ls : am_L) (a : Nat) (k : Nat → Prop) : Prop := match ls[a]? with
  | some (some (.inr (.inr n))) => k n
  | _ => False
/-- a long whose second half is overwritten goes -/
def am_clr (ls : am_L) (a : Nat) : am_L := match a with
  | 0 => ls
  | j + 1 => match ls[j]? with
    | some (some (.inr (.inl _))) => ls.set j none
    | _ => ls
def am_st1 (ls : am_L) (a : Nat) (v : am_V) : am_L := (am_clr ls a).set a (some v)
def am_st2 (ls : am_L) (a : Nat) (v : am_V) : am_L := ((am_clr ls a).set a (some v)).set (a + 1) none
def am_c1 (v : am_V) : Bool := match v with
  | .inr (.inl _) => false
  | _ => true
/-- the place of a byte pc among the rows -/
def am_fd (cd : List am_I) (t : Int) : Nat := cd.findIdx (fun q => (q.1.1 : Int) == t)
def am_tsw (d lo hi : Int) (offs : Array Int) (a : Int) : Int := if a < lo ∨ hi < a then d else offs.getD (a - lo).toNat d
def am_lsw (d : Int) (ps : List (Int × Int)) (a : Int) : Int := match ps with
  | [] => d
  | (x, o) :: r => if a = x then o else am_lsw d r a
def am_at (t : ArrayType) : Nat := match t with
  | .int => 1
  | .long => 2
  | .byte => 3
  | .boolean => 4
  | _ => 9
/-- behind a copy of n elements -/
def am_cpy (f g : Nat → Int) (sp dp n : Nat) : Nat → Int := fun k => if dp ≤ k ∧ k < dp + n then f (sp + (k - dp)) else g k
abbrev am_RT : Type := Nat → List am_V → am_S → Option am_V → am_S → Prop
abbrev am_KT : Type := Nat → am_L → List am_V → am_S → Prop
/-- arraycopy: n, dp, dst, sp, src on the stack -/
def am_pc (st : List am_V) (k : Nat → Int → Nat → Int → Int → List am_V → Prop) : Prop := match st with
  | .inl n :: .inl dp :: .inr (.inr d) :: .inl sp :: .inr (.inr s) :: r => k s sp d dp n r
  | _ => False
/-- a call of method y with n operands: the callee's run, and on with what it answers -/
def am_call (R : am_RT) (k : List am_V → am_S → Prop) (y n : Nat) (st : List am_V) (σ : am_S) : Prop :=
  n ≤ st.length ∧ ((st.drop n).map (fun v => if am_c1 v then 1 else 2)).sum ≤ 8 ∧ ∃ (v : Option am_V) (σ' : am_S), R y (st.take n).reverse σ v σ' ∧ k (v.toList ++ st.drop n) σ'
def am_sp (R : am_RT) (cd : List am_I) (k : am_KT) (Q : Option am_V → am_S → Prop) (i : Nat) (row : am_I) (ls : am_L) (st : List am_V) (σ : am_S) : Prop :=
  match row.1.2 with
  | .iconst _ => k (i + 1) ls (am_i row.2.2.2 :: st) σ
  | .bipush _ => k (i + 1) ls (am_i row.2.2.2 :: st) σ
  | .sipush _ => k (i + 1) ls (am_i row.2.2.2 :: st) σ
  | .ldc _ => k (i + 1) ls (am_i row.2.2.2 :: st) σ
  | .lconst _ => k (i + 1) ls (am_l row.2.2.2 :: st) σ
  | .iload _ => am_ldi ls row.2.1 (fun n => k (i + 1) ls (am_i n :: st) σ)
  | .iload_n _ => am_ldi ls row.2.1 (fun n => k (i + 1) ls (am_i n :: st) σ)
  | .lload _ => am_ldl ls row.2.1 (fun n => k (i + 1) ls (am_l n :: st) σ)
  | .lload_n _ => am_ldl ls row.2.1 (fun n => k (i + 1) ls (am_l n :: st) σ)
  | .aload _ => am_ldr ls row.2.1 (fun n => k (i + 1) ls (am_r n :: st) σ)
  | .aload_n _ => am_ldr ls row.2.1 (fun n => k (i + 1) ls (am_r n :: st) σ)
  | .istore _ => am_p1 st (fun a st => k (i + 1) (am_st1 ls row.2.1 (am_i a)) st σ)
  | .istore_n _ => am_p1 st (fun a st => k (i + 1) (am_st1 ls row.2.1 (am_i a)) st σ)
  | .lstore _ => am_pl st (fun a st => k (i + 1) (am_st2 ls row.2.1 (am_l a)) st σ)
  | .lstore_n _ => am_pl st (fun a st => k (i + 1) (am_st2 ls row.2.1 (am_l a)) st σ)
  | .astore _ => am_pr st (fun a st => k (i + 1) (am_st1 ls row.2.1 (am_r a)) st σ)
  | .astore_n _ => am_pr st (fun a st => k (i + 1) (am_st1 ls row.2.1 (am_r a)) st σ)
  | .iinc _ _ => am_ldi ls row.2.1 (fun a => k (i + 1) (am_st1 ls row.2.1 (am_i (w32 (a + row.2.2.2)))) st σ)
  | .iadd => am_p2 st (fun a b st => k (i + 1) ls (am_i (w32 (a + b)) :: st) σ)
  | .isub => am_p2 st (fun a b st => k (i + 1) ls (am_i (w32 (a - b)) :: st) σ)
  | .imul => am_p2 st (fun a b st => k (i + 1) ls (am_i (w32 (a * b)) :: st) σ)
  | .idiv => am_p2 st (fun a b st => b ≠ 0 ∧ k (i + 1) ls (am_i (w32 (a.tdiv b)) :: st) σ)
  | .irem => am_p2 st (fun a b st => b ≠ 0 ∧ k (i + 1) ls (am_i (a.tmod b) :: st) σ)
  | .iand => am_p2 st (fun a b st => k (i + 1) ls (am_i (am_and a b) :: st) σ)
  | .ishr => am_p2 st (fun a b st => k (i + 1) ls (am_i (am_shr a b) :: st) σ)
  | .iushr => am_p2 st (fun a b st => k (i + 1) ls (am_i (am_ushr a b) :: st) σ)
  | .lor => am_pll st (fun a b st => k (i + 1) ls (am_l (am_lor a b) :: st) σ)
  | .lshl => am_pli st (fun a b st => k (i + 1) ls (am_l (am_lshl a b) :: st) σ)
  | .lshr => am_pli st (fun a b st => k (i + 1) ls (am_l (am_lshr a b) :: st) σ)
  | .lcmp => am_pll st (fun a b st => k (i + 1) ls (am_i (am_lcmp a b) :: st) σ)
  | .i2l => am_p1 st (fun a st => k (i + 1) ls (am_l a :: st) σ)
  | .l2i => am_pl st (fun a st => k (i + 1) ls (am_i (w32 a) :: st) σ)
  | .i2b => am_p1 st (fun a st => k (i + 1) ls (am_i (w8 a) :: st) σ)
  | .dup => match st with
    | v :: r => am_c1 v = true ∧ k (i + 1) ls (v :: v :: r) σ
    | _ => False
  | .dup2 => match st with
    | v :: w :: r => (am_c1 v = true ∧ am_c1 w = true) ∧ k (i + 1) ls (v :: w :: v :: w :: r) σ
    | _ => False
  | .pop => match st with
    | v :: r => am_c1 v = true ∧ k (i + 1) ls r σ
    | _ => False
  | .ifCond c _ => am_p1 st (fun a st => (am_cp c a 0 → k row.2.1 ls st σ) ∧ (¬ am_cp c a 0 → k (i + 1) ls st σ))
  | .if_icmp c _ => am_p2 st (fun a b st => (am_cp c a b → k row.2.1 ls st σ) ∧ (¬ am_cp c a b → k (i + 1) ls st σ))
  | .ifnonnull _ => am_pr st (fun a st => (a ≠ 0 → k row.2.1 ls st σ) ∧ (a = 0 → k (i + 1) ls st σ))
  | .goto _ => k row.2.1 ls st σ
  | .tableswitch d lo hi offs => am_p1 st (fun a st => k (am_fd cd ((row.1.1 : Int) + am_tsw d lo hi offs a)) ls st σ)
  | .lookupswitch d ps => am_p1 st (fun a st => k (am_fd cd ((row.1.1 : Int) + am_lsw d ps.toList a)) ls st σ)
  | .getfield _ => am_pr st (fun o st => am_ly o = (0, row.2.1) ∧ k (i + 1) ls (am_fv row.2.1 row.2.2.1 (σ.2 o row.2.2.1) :: st) σ)
  | .putfield _ => match st with
    | v :: .inr (.inr o) :: r => am_ly o = (0, row.2.1) ∧ am_pv (am_fk row.2.1 row.2.2.1) v (fun n => k (i + 1) ls r (σ.1, am_up σ.2 o row.2.2.1 n))
    | _ => False
  | .getstatic _ => k (i + 1) ls (am_r 1 :: st) σ
  | .iaload => am_pa st (fun o j st => ((am_ak σ o).1 = 1 ∧ 0 ≤ j ∧ j < (am_ak σ o).2) ∧ k (i + 1) ls (am_i (am_rd σ o j) :: st) σ)
  | .laload => am_pa st (fun o j st => ((am_ly o).1 = 2 ∧ 0 ≤ j ∧ j < (am_ly o).2) ∧ k (i + 1) ls (am_l (σ.2 o j.toNat) :: st) σ)
  | .baload => am_pa st (fun o j st => (((am_ly o).1 = 3 ∨ (am_ly o).1 = 4) ∧ 0 ≤ j ∧ j < (am_ly o).2) ∧ k (i + 1) ls (am_i (σ.2 o j.toNat) :: st) σ)
  | .aaload => am_pa st (fun o j st => ((am_ly o).1 = 5 ∧ 0 ≤ j ∧ j < (am_ly o).2) ∧ k (i + 1) ls (am_r (σ.2 o j.toNat).toNat :: st) σ)
  | .iastore => match st with
    | .inl v :: .inl j :: .inr (.inr o) :: r => ((am_ly o).1 = 1 ∧ 0 ≤ j ∧ j < (am_ly o).2) ∧ k (i + 1) ls r (σ.1, am_up σ.2 o j.toNat v)
    | _ => False
  | .lastore => match st with
    | .inr (.inl v) :: .inl j :: .inr (.inr o) :: r => ((am_ly o).1 = 2 ∧ 0 ≤ j ∧ j < (am_ly o).2) ∧ k (i + 1) ls r (σ.1, am_up σ.2 o j.toNat v)
    | _ => False
  | .bastore => match st with
    | .inl v :: .inl j :: .inr (.inr o) :: r => (((am_ly o).1 = 3 ∨ ((am_ly o).1 = 4 ∧ (v = 0 ∨ v = 1))) ∧ 0 ≤ j ∧ j < (am_ly o).2) ∧ k (i + 1) ls r (σ.1, am_up σ.2 o j.toNat (w8 v))
    | _ => False
  | .aastore => match st with
    | .inr (.inr p) :: .inl j :: .inr (.inr o) :: r => (((am_ly o).1 = 5 ∧ am_ly p = (0, 8)) ∧ 0 ≤ j ∧ j < (am_ly o).2) ∧ k (i + 1) ls r (σ.1, am_up σ.2 o j.toNat (p : Int))
    | _ => False
  | .arraylength => am_pr st (fun o st => ((am_ak σ o).1 = 1 ∨ (am_ak σ o).1 = 2) ∧ k (i + 1) ls (am_i (am_ak σ o).2 :: st) σ)
  | .newarray t => am_p1 st (fun n st => (0 ≤ n ∧ am_ly σ.1 = (am_at t, n.toNat)) ∧ k (i + 1) ls (am_r σ.1 :: st) (σ.1 + 1, am_so σ.2 σ.1 (fun _ => 0)))
  | .anewarray _ => am_p1 st (fun n st => (0 ≤ n ∧ am_ly σ.1 = (5, n.toNat)) ∧ k (i + 1) ls (am_r σ.1 :: st) (σ.1 + 1, am_so σ.2 σ.1 (fun _ => 0)))
  | .new _ => am_ly σ.1 = (0, row.2.1) ∧ k (i + 1) ls (am_r σ.1 :: st) (σ.1 + 1, am_so σ.2 σ.1 (fun _ => 0))
  | .invokestatic _ =>
    if row.2.1 = 1001 then am_pc st (fun s sp d dp n st => ((am_ly s).1 = (am_ly d).1 ∧ ((am_ly s).1 = 1 ∨ (am_ly s).1 = 2)) ∧ (0 ≤ sp ∧ 0 ≤ dp ∧ 0 ≤ n ∧ sp + n ≤ (am_ly s).2 ∧ dp + n ≤ (am_ly d).2) ∧ k (i + 1) ls st (σ.1, am_so σ.2 d (am_cpy (σ.2 s) (σ.2 d) sp.toNat dp.toNat n.toNat)))
    else am_call R (fun st σ => k (i + 1) ls st σ) row.2.1 row.2.2.1 st σ
  | .invokespecial _ =>
    if row.2.1 = 1000 then am_pr st (fun _ st => k (i + 1) ls st σ)
    else am_call R (fun st σ => k (i + 1) ls st σ) row.2.1 row.2.2.1 st σ
  | .invokevirtual _ => (∃ (o : Nat), st[row.2.2.1 - 1]? = some (am_r o) ∧ am_ly o = (0, row.2.2.2.toNat)) ∧ am_call R (fun st σ => k (i + 1) ls st σ) row.2.1 row.2.2.1 st σ
  | .ireturn => match st with
    | [.inl a] => (row.2.1 = 1 → a = 0 ∨ a = 1) ∧ Q (some (am_i a)) σ
    | _ => False
  | .lreturn => match st with
    | [.inr (.inl a)] => Q (some (am_l a)) σ
    | _ => False
  | .return_ => match st with
    | [] => Q none σ
    | _ => False
  | _ => False
/-! ===== monotonicity; runs as a least fixpoint; one step ===== -/
theorem am_p1_mono {st : List am_V} {k k' : Int → List am_V → Prop} (h : ∀ a r, k a r → k' a r) : am_p1 st k → am_p1 st k' := by
  unfold am_p1; split
  · exact h _ _
  · exact id
theorem am_p2_mono {st : List am_V} {k k' : Int → Int → List am_V → Prop} (h : ∀ a b r, k a b r → k' a b r) : am_p2 st k → am_p2 st k' := by
  unfold am_p2; split
  · exact h _ _ _
  · exact id
theorem am_pl_mono {st : List am_V} {k k' : Int → List am_V → Prop} (h : ∀ a r, k a r → k' a r) : am_pl st k → am_pl st k' := by
  unfold am_pl; split
  · exact h _ _
  · exact id
theorem am_pll_mono {st : List am_V} {k k' : Int → Int → List am_V → Prop} (h : ∀ a b r, k a b r → k' a b r) : am_pll st k → am_pll st k' := by
  unfold am_pll; split
  · exact h _ _ _
  · exact id
theorem am_pli_mono {st : List am_V} {k k' : Int → Int → List am_V → Prop} (h : ∀ a b r, k a b r → k' a b r) : am_pli st k → am_pli st k' := by
  unfold am_pli; split
  · exact h _ _ _
  · exact id
theorem am_pr_mono {st : List am_V} {k k' : Nat → List am_V → Prop} (h : ∀ a r, k a r → k' a r) : am_pr st k → am_pr st k' := by
  unfold am_pr; split
  · exact h _ _
  · exact id
theorem am_pa_mono {st : List am_V} {k k' : Nat → Int → List am_V → Prop} (h : ∀ a b r, k a b r → k' a b r) : am_pa st k → am_pa st k' := by
  unfold am_pa; split
  · exact h _ _ _
  · exact id
theorem am_pc_mono {st : List am_V} {k k' : Nat → Int → Nat → Int → Int → List am_V → Prop} (h : ∀ a b c d e r, k a b c d e r → k' a b c d e r) : am_pc st k → am_pc st k' := by
  unfold am_pc; split
  · exact h _ _ _ _ _ _
  · exact id
theorem am_ldi_mono {ls : am_L} {a : Nat} {k k' : Int → Prop} (h : ∀ n, k n → k' n) : am_ldi ls a k → am_ldi ls a k' := by
  unfold am_ldi; split
  · exact h _
  · exact id
theorem am_ldl_mono {ls : am_L} {a : Nat} {k k' : Int → Prop} (h : ∀ n, k n → k' n) : am_ldl ls a k → am_ldl ls a k' := by
  unfold am_ldl; split
  · exact h _
  · exact id
theorem am_ldr_mono {ls : am_L} {a : Nat} {k k' : Nat → Prop} (h : ∀ n, k n → k' n) : am_ldr ls a k → am_ldr ls a k' := by
  unfold am_ldr; split
  · exact h _
  · exact id
theorem am_pv_mono {t : Nat} {v : am_V} {k k' : Int → Prop} (h : ∀ n, k n → k' n) : am_pv t v k → am_pv t v k' := by
  unfold am_pv; split
  · exact fun q => ⟨q.1, h _ q.2⟩
  · exact id
  · exact fun q => ⟨q.1, h _ q.2⟩
theorem am_call_mono {R R' : am_RT} (hR : ∀ y a σ v σ', R y a σ v σ' → R' y a σ v σ') {k k' : List am_V → am_S → Prop} (h : ∀ st σ, k st σ → k' st σ) {y n : Nat} {st : List am_V} {σ : am_S} : am_call R k y n st σ → am_call R' k' y n st σ :=
  fun ⟨h1, h2, v, σ', h3, h4⟩ => ⟨h1, h2, v, σ', hR _ _ _ _ _ h3, h _ _ h4⟩
set_option maxHeartbeats 4000000 in
theorem am_sp_mono {R R' : am_RT} (hR : ∀ y a σ v σ', R y a σ v σ' → R' y a σ v σ') {cd : List am_I} {k k' : am_KT} (hk : ∀ i ls st σ, k i ls st σ → k' i ls st σ) {Q : Option am_V → am_S → Prop} {i : Nat} {row : am_I} {ls : am_L} {st : List am_V} {σ : am_S} :
    am_sp R cd k Q i row ls st σ → am_sp R' cd k' Q i row ls st σ := by
  obtain ⟨⟨pc, ins⟩, a, b, n⟩ := row
  cases ins
  all_goals first
    | exact id
    | exact hk _ _ _ _
    | exact am_p1_mono (fun a r h => hk _ _ _ _ h)
    | exact am_p2_mono (fun a b r h => hk _ _ _ _ h)
    | exact am_ldi_mono (fun a h => hk _ _ _ _ h)
    | exact am_ldl_mono (fun a h => hk _ _ _ _ h)
    | exact am_ldr_mono (fun a h => hk _ _ _ _ h)
    | exact am_pl_mono (fun a r h => hk _ _ _ _ h)
    | exact am_pll_mono (fun a b r h => hk _ _ _ _ h)
    | exact am_pli_mono (fun a b r h => hk _ _ _ _ h)
    | exact am_pr_mono (fun a r h => hk _ _ _ _ h)
    | exact am_p1_mono (fun a r h => ⟨h.1, hk _ _ _ _ h.2⟩)
    | exact am_p2_mono (fun a b r h => ⟨h.1, hk _ _ _ _ h.2⟩)
    | exact am_pr_mono (fun a r h => ⟨h.1, hk _ _ _ _ h.2⟩)
    | exact am_pa_mono (fun a b r h => ⟨h.1, hk _ _ _ _ h.2⟩)
    | exact am_p1_mono (fun a r h => ⟨fun c => hk _ _ _ _ (h.1 c), fun c => hk _ _ _ _ (h.2 c)⟩)
    | exact am_p2_mono (fun a b r h => ⟨fun c => hk _ _ _ _ (h.1 c), fun c => hk _ _ _ _ (h.2 c)⟩)
    | exact am_pr_mono (fun a r h => ⟨fun c => hk _ _ _ _ (h.1 c), fun c => hk _ _ _ _ (h.2 c)⟩)
    | exact fun h => ⟨h.1, hk _ _ _ _ h.2⟩
    | exact fun h => ⟨h.1, am_call_mono hR (fun _ _ h => hk _ _ _ _ h) h.2⟩
    | (simp only [am_sp]; split
       · exact am_pc_mono (fun _ _ _ _ _ _ h => ⟨h.1, h.2.1, hk _ _ _ _ h.2.2⟩)
       · exact am_call_mono hR (fun _ _ h => hk _ _ _ _ h))
    | (simp only [am_sp]; split
       · exact am_pr_mono (fun _ _ h => hk _ _ _ _ h)
       · exact am_call_mono hR (fun _ _ h => hk _ _ _ _ h))
    | (simp only [am_sp]; split
       · exact fun h => ⟨h.1, hk _ _ _ _ h.2⟩
       · exact id)
    | (simp only [am_sp]; split
       · exact fun h => ⟨h.1, am_pv_mono (fun _ h => hk _ _ _ _ h) h.2⟩
       · exact id)
/-- from row i on, the machine comes to an end with Q -/
def am_WP (R : am_RT) (cd : List am_I) (i : Nat) (ls : am_L) (st : List am_V) (σ : am_S) (Q : Option am_V → am_S → Prop) : Prop :=
  ∀ K : am_KT, (∀ i row ls st σ, cd[i]? = some row → am_sp R cd K Q i row ls st σ → K i ls st σ) → K i ls st σ
theorem am_step {R : am_RT} {cd : List am_I} {i : Nat} {row : am_I} {ls : am_L} {st : List am_V} {σ : am_S} {Q : Option am_V → am_S → Prop} (h1 : cd[i]? = some row)
    (h2 : am_sp R cd (fun i ls st σ => am_WP R cd i ls st σ Q) Q i row ls st σ) : am_WP R cd i ls st σ Q :=
  fun K hK => hK i row ls st σ h1 (am_sp_mono (fun _ _ _ _ _ h => h) (fun _ _ _ _ h => h K hK) h2)
theorem am_WP_R {R R' : am_RT} (hR : ∀ y a σ v σ', R y a σ v σ' → R' y a σ v σ') {cd : List am_I} {i : Nat} {ls : am_L} {st : List am_V} {σ : am_S} {Q : Option am_V → am_S → Prop} (h : am_WP R cd i ls st σ Q) : am_WP R' cd i ls st σ Q :=
  h (fun i ls st σ => am_WP R' cd i ls st σ Q) (fun _ _ _ _ _ h1 h2 => am_step h1 (am_sp_mono hR (fun _ _ _ _ h => h) h2))
