/-! ===== the abstract machine: values, heap, layout, the step predicate ===== -/
/-- values: an int, a long, a reference (0 null, 1 the static TENS, 2 the script, objects from 3 on) -/
abbrev am_V : Type := Int ⊕ Int ⊕ Nat
abbrev am_i (n : Int) : am_V := Sum.inl n
abbrev am_l (n : Int) : am_V := Sum.inr (Sum.inl n)
abbrev am_r (n : Nat) : am_V := Sum.inr (Sum.inr n)
/-- the next object's number, the references that objects hold, the numbers that they hold -/
abbrev am_P : Type := Nat → Int → Nat
abbrev am_H : Type := Nat → Int → Int
abbrev am_S : Type := Nat × am_P × am_H
abbrev am_L : Type := List (Option am_V)
/-- a row of code: (byte pc, instruction), two numbers and an int that say what it links -/
abbrev am_I : Type := (Nat × Instr) × Nat × Nat × Int
def w32 (n : Int) : Int := (n + 2147483648) % 4294967296 - 2147483648
def w64 (n : Int) : Int := (n + 9223372036854775808) % 18446744073709551616 - 9223372036854775808
def w8 (n : Int) : Int := (n + 128) % 256 - 128
def am_and (a b : Int) : Int := (Int32.ofInt a &&& Int32.ofInt b).toInt
def am_ushr (a b : Int) : Int := ((Int32.ofInt a).toUInt32 >>> ((Int32.ofInt b).toUInt32 &&& Int32.toUInt32 31)).toInt32.toInt
def am_shr (a b : Int) : Int := (Int32.ofInt a >>> (Int32.ofInt b &&& 31)).toInt
def am_lor (a b : Int) : Int := (Int64.ofInt a ||| Int64.ofInt b).toInt
def am_lshl (a b : Int) : Int := (Int64.ofInt a <<< ((Int32.ofInt b).toInt64 &&& 63)).toInt
def am_lshr (a b : Int) : Int := (Int64.ofInt a >>> ((Int32.ofInt b).toInt64 &&& 63)).toInt
def am_lcmp (a b : Int) : Int := if a < b then -1 else if a = b then 0 else 1
def am_cp (c : ClassFile.Cond) (a b : Int) : Prop := match c with
  | .eq => a = b
  | .ne => a ≠ b
  | .lt => a < b
  | .ge => b ≤ a
  | .gt => b < a
  | .le => a ≤ b
/-- what an object is: (0, its class), (1, n) ints, (2, n) longs, (3, n) bytes, (4, n) booleans, (5, n) references to State; TENS (11, 7), the script (12, 0) -/
def am_l0 : List (Nat × Nat) := [(0, 10), (0, 9), (0, 0), (1, 80), (2, 8), (0, 0), (1, 60), (0, 8), (0, 3), (1, 200), (2, 1600), (0, 7), (1, 16), (1, 16), (1, 480), (1, 200), (1, 200), (1, 200), (1, 200), (1, 200), (1, 200), (1, 200), (1, 200), (0, 4), (1, 60), (0, 1), (1, 200), (1, 200), (1, 16), (1, 960), (0, 2), (1, 12), (1, 12), (1, 12), (1, 12), (1, 192), (5, 4), (0, 5), (1, 60), (1, 60), (0, 6), (1, 200), (1, 200), (1, 200), (1, 200), (1, 201), (1, 3417), (1, 3216), (1, 16), (1, 480), (0, 11), (1, 52050), (4, 4), (3, 80), (1, 8), (1, 8), (1, 8), (1, 8), (3, 80), (1, 60), (4, 60), (1, 480), (1, 480), (4, 481), (1, 8177), (1, 8177), (1, 16), (1, 480), (1, 480)]
def am_lb : List (Nat × Nat) := [(0, 8), (0, 3), (1, 200), (2, 1600), (0, 7), (1, 16), (1, 16), (1, 480), (1, 200), (1, 200), (1, 200), (1, 200), (1, 200), (1, 200), (1, 200), (1, 200), (0, 4), (1, 60), (0, 1), (1, 200), (1, 200), (1, 16), (1, 960), (0, 2), (1, 12), (1, 12), (1, 12), (1, 12), (1, 192)]
def am_ly (o : Nat) : Nat × Nat := match o with
  | 0 => (9, 0)
  | 1 => (11, 7)
  | 2 => (12, 0)
  | o + 3 => match am_l0[o]? with
    | some q => q
    | none => am_lb.getD ((o - 69) % 29) (9, 0)
/-- fields of a class: 0 an int, 1 a boolean, 2 a reference -/
def am_ft : List (List Nat) := [[2, 0], [0, 2, 2, 2, 2], [0, 2, 2, 2, 2, 2], [0, 2, 2], [0, 0, 2], [0, 0, 2, 2], [0, 2, 2, 2, 2, 2, 2, 2, 0, 0, 1, 0, 0, 2, 2], [0, 2, 2, 2, 0, 2, 2, 2, 2, 2, 2, 2, 2], [2, 2, 2, 2, 2, 0], [2, 2, 0, 0, 0, 0, 0], [2, 2, 0, 2, 2, 2, 2], [2, 2, 2, 0, 0, 0, 0, 0, 2, 2, 2, 2, 2, 0, 2, 2, 2, 2, 2, 0, 2, 2, 1, 0, 0, 2, 2, 0, 2]]
def am_fk (c k : Nat) : Nat := (am_ft.getD c []).getD k 9
def am_nf (c : Nat) : Nat := (am_ft.getD c []).length
/-- the slots of an object, and of all objects below n -/
def am_so1 (o : Nat) : Nat := if (am_ly o).1 = 0 then am_nf (am_ly o).2 else (am_ly o).2
def am_ss (n : Nat) : Nat := match n with
  | 0 => 0
  | n + 1 => am_ss n + am_so1 n
def am_so {α : Type} (H : Nat → Int → α) (o : Nat) (g : Int → α) : Nat → Int → α := fun o' => if o' = o then g else H o'
def am_un (g : Nat → Nat) (k : Nat) (v : Nat) : Nat → Nat := fun k' => if k' = k then v else g k'
def am_uf {α : Type} (g : Int → α) (k : Int) (v : α) : Int → α := fun k' => if k' = k then v else g k'
def am_up {α : Type} (H : Nat → Int → α) (o : Nat) (k : Int) (v : α) : Nat → Int → α := am_so H o (am_uf (H o) k v)
def am_tn (k : Nat) : Int := match k with
  | 0 => 1
  | 1 => 10
  | 2 => 100
  | 3 => 1000
  | 4 => 10000
  | 5 => 100000
  | _ => 1000000
/-- an array's length, and what it holds; the script's length lies at (0, 0) -/
def am_len (σ : am_S) (o : Nat) : Int := if o = 2 then σ.2.2 0 0 else ((am_ly o).2 : Int)
def am_rd (σ : am_S) (o : Nat) (i : Int) : Int := if o = 1 then am_tn i.toNat else σ.2.2 o i
def am_fv (σ : am_S) (c k o : Nat) : am_V := if am_fk c k = 2 then am_r (σ.2.1 o k) else am_i (σ.2.2 o k)
def am_p1 (st : List am_V) (k : Int → List am_V → Prop) : Prop := match st with
  | .inl a :: r => k a r
  | _ => False
def am_p2 (st : List am_V) (k : Int → Int → List am_V → Prop) : Prop := match st with
  | .inl b :: .inl a :: r => k a b r
  | _ => False
def am_pl (st : List am_V) (k : Int → List am_V → Prop) : Prop := match st with
  | .inr (.inl a) :: r => k a r
  | _ => False
def am_pll (st : List am_V) (k : Int → Int → List am_V → Prop) : Prop := match st with
  | .inr (.inl b) :: .inr (.inl a) :: r => k a b r
  | _ => False
def am_pli (st : List am_V) (k : Int → Int → List am_V → Prop) : Prop := match st with
  | .inl b :: .inr (.inl a) :: r => k a b r
  | _ => False
def am_pr (st : List am_V) (k : Nat → List am_V → Prop) : Prop := match st with
  | .inr (.inr a) :: r => k a r
  | _ => False
/-- an index and an array -/
def am_pa (st : List am_V) (k : Nat → Int → List am_V → Prop) : Prop := match st with
  | .inl i :: .inr (.inr o) :: r => k o i r
  | _ => False
/-- a value, an index and an array -/
def am_pva (st : List am_V) (k : Nat → Int → am_V → List am_V → Prop) : Prop := match st with
  | v :: .inl i :: .inr (.inr o) :: r => k o i v r
  | _ => False
/-- a value and an object -/
def am_pvo (st : List am_V) (k : Nat → am_V → List am_V → Prop) : Prop := match st with
  | v :: .inr (.inr o) :: r => k o v r
  | _ => False
def am_pv1 (st : List am_V) (k : am_V → List am_V → Prop) : Prop := match st with
  | v :: r => k v r
  | _ => False
def am_pv2 (st : List am_V) (k : am_V → am_V → List am_V → Prop) : Prop := match st with
  | v :: w :: r => k v w r
  | _ => False
def am_p0 (st : List am_V) (k : Prop) : Prop := match st with
  | [] => k
  | _ => False
/-- arraycopy: n, dp, dst, sp, src on the stack -/
def am_pc (st : List am_V) (k : Nat → Int → Nat → Int → Int → List am_V → Prop) : Prop := match st with
  | .inl n :: .inl dp :: .inr (.inr d) :: .inl sp :: .inr (.inr s) :: r => k s sp d dp n r
  | _ => False
def am_vi (v : am_V) (k : Int → Prop) : Prop := match v with
  | .inl n => k n
  | _ => False
def am_vl (v : am_V) (k : Int → Prop) : Prop := match v with
  | .inr (.inl n) => k n
  | _ => False
def am_vr (v : am_V) (k : Nat → Prop) : Prop := match v with
  | .inr (.inr n) => k n
  | _ => False
def am_ld (ls : am_L) (a : Nat) (k : am_V → Prop) : Prop := match ls[a]? with
  | some (some v) => k v
  | _ => False
/-- a long whose second half is overwritten goes -/
def am_clr (ls : am_L) (a : Nat) : am_L := match a with
  | 0 => ls
  | j + 1 => match ls[j]? with
    | some (some (.inr (.inl _))) => ls.set j none
    | _ => ls
def am_st1 (ls : am_L) (a : Nat) (v : am_V) : am_L := (am_clr ls a).set a (some v)
def am_st2 (ls : am_L) (a : Nat) (v : am_V) : am_L := ((am_clr ls a).set a (some v)).set (a + 1) none
def am_c1 (v : am_V) : Bool := match v with
  | .inr (.inl _) => false
  | _ => true
/-- the place of a byte pc among the rows -/
def am_fd (cd : List am_I) (t : Int) : Nat := cd.findIdx (fun q => (q.1.1 : Int) == t)
def am_tsw (d lo hi : Int) (offs : Array Int) (a : Int) : Int := if a < lo ∨ hi < a then d else offs.getD (a - lo).toNat d
def am_lsw (d : Int) (ps : List (Int × Int)) (a : Int) : Int := match ps with
  | [] => d
  | (x, o) :: r => if a = x then o else am_lsw d r a
def am_at (t : ArrayType) : Nat := match t with
  | .int => 1
  | .long => 2
  | .byte => 3
  | .boolean => 4
  | _ => 9
/-- behind a copy of n elements -/
def am_cpy (f g : Int → Int) (sp dp n : Int) : Int → Int := fun k => if dp ≤ k ∧ k < dp + n then f (sp + (k - dp)) else g k
abbrev am_RT : Type := Nat → List am_V → am_S → Option am_V → am_S → Prop
abbrev am_KT : Type := Nat → am_L → List am_V → am_S → Prop
/-- a call of method y with n operands: the callee's run, and on with what it answers -/
def am_call (R : am_RT) (k : List am_V → am_S → Prop) (y n : Nat) (st : List am_V) (σ : am_S) : Prop :=
  n ≤ st.length ∧ ((st.drop n).map (fun v => if am_c1 v then 1 else 2)).sum ≤ 8 ∧ ∃ (v : Option am_V) (σ' : am_S), R y (st.take n).reverse σ v σ' ∧ k (v.toList ++ st.drop n) σ'
def am_new (σ : am_S) : am_S := (σ.1 + 1, am_so σ.2.1 σ.1 (fun _ => 0), am_so σ.2.2 σ.1 (fun _ => 0))
def am_in (n : Nat) (o : Nat) (j : Int) : Prop := (am_ly o).1 = n ∧ 0 ≤ j ∧ j < ((am_ly o).2 : Int)
def am_sp (R : am_RT) (cd : List am_I) (k : am_KT) (Q : Option am_V → am_S → Prop) (i : Nat) (row : am_I) (ls : am_L) (st : List am_V) (σ : am_S) : Prop :=
  match row.1.2 with
  | .iconst _ => k (i + 1) ls (am_i row.2.2.2 :: st) σ
  | .bipush _ => k (i + 1) ls (am_i row.2.2.2 :: st) σ
  | .sipush _ => k (i + 1) ls (am_i row.2.2.2 :: st) σ
  | .ldc _ => k (i + 1) ls (am_i row.2.2.2 :: st) σ
  | .lconst _ => k (i + 1) ls (am_l row.2.2.2 :: st) σ
  | .iload _ => am_ld ls row.2.1 (fun v => am_vi v (fun n => k (i + 1) ls (am_i n :: st) σ))
  | .iload_n _ => am_ld ls row.2.1 (fun v => am_vi v (fun n => k (i + 1) ls (am_i n :: st) σ))
  | .lload _ => am_ld ls row.2.1 (fun v => am_vl v (fun n => k (i + 1) ls (am_l n :: st) σ))
  | .lload_n _ => am_ld ls row.2.1 (fun v => am_vl v (fun n => k (i + 1) ls (am_l n :: st) σ))
  | .aload _ => am_ld ls row.2.1 (fun v => am_vr v (fun n => n ≠ 0 ∧ k (i + 1) ls (am_r n :: st) σ))
  | .aload_n _ => am_ld ls row.2.1 (fun v => am_vr v (fun n => n ≠ 0 ∧ k (i + 1) ls (am_r n :: st) σ))
  | .istore _ => am_p1 st (fun a st => row.2.1 < ls.length ∧ k (i + 1) (am_st1 ls row.2.1 (am_i a)) st σ)
  | .istore_n _ => am_p1 st (fun a st => row.2.1 < ls.length ∧ k (i + 1) (am_st1 ls row.2.1 (am_i a)) st σ)
  | .lstore _ => am_pl st (fun a st => row.2.1 + 1 < ls.length ∧ k (i + 1) (am_st2 ls row.2.1 (am_l a)) st σ)
  | .astore _ => am_pr st (fun a st => (a ≠ 0 ∧ row.2.1 < ls.length) ∧ k (i + 1) (am_st1 ls row.2.1 (am_r a)) st σ)
  | .astore_n _ => am_pr st (fun a st => (a ≠ 0 ∧ row.2.1 < ls.length) ∧ k (i + 1) (am_st1 ls row.2.1 (am_r a)) st σ)
  | .iinc _ _ => am_ld ls row.2.1 (fun v => am_vi v (fun a => k (i + 1) (am_st1 ls row.2.1 (am_i (w32 (a + row.2.2.2)))) st σ))
  | .iadd => am_p2 st (fun a b st => k (i + 1) ls (am_i (w32 (a + b)) :: st) σ)
  | .isub => am_p2 st (fun a b st => k (i + 1) ls (am_i (w32 (a - b)) :: st) σ)
  | .imul => am_p2 st (fun a b st => k (i + 1) ls (am_i (w32 (a * b)) :: st) σ)
  | .idiv => am_p2 st (fun a b st => b ≠ 0 ∧ k (i + 1) ls (am_i (w32 (a.tdiv b)) :: st) σ)
  | .irem => am_p2 st (fun a b st => b ≠ 0 ∧ k (i + 1) ls (am_i (w32 (a.tmod b)) :: st) σ)
  | .iand => am_p2 st (fun a b st => k (i + 1) ls (am_i (am_and a b) :: st) σ)
  | .ishr => am_p2 st (fun a b st => k (i + 1) ls (am_i (am_shr a b) :: st) σ)
  | .iushr => am_p2 st (fun a b st => k (i + 1) ls (am_i (am_ushr a b) :: st) σ)
  | .lor => am_pll st (fun a b st => k (i + 1) ls (am_l (am_lor a b) :: st) σ)
  | .lshl => am_pli st (fun a b st => k (i + 1) ls (am_l (am_lshl a b) :: st) σ)
  | .lshr => am_pli st (fun a b st => k (i + 1) ls (am_l (am_lshr a b) :: st) σ)
  | .lcmp => am_pll st (fun a b st => k (i + 1) ls (am_i (am_lcmp a b) :: st) σ)
  | .i2l => am_p1 st (fun a st => k (i + 1) ls (am_l a :: st) σ)
  | .l2i => am_pl st (fun a st => k (i + 1) ls (am_i (w32 a) :: st) σ)
  | .i2b => am_p1 st (fun a st => k (i + 1) ls (am_i (w8 a) :: st) σ)
  | .dup => am_pv1 st (fun v r => am_c1 v = true ∧ k (i + 1) ls (v :: v :: r) σ)
  | .dup2 => am_pv2 st (fun v w r => (am_c1 v = true ∧ am_c1 w = true) ∧ k (i + 1) ls (v :: w :: v :: w :: r) σ)
  | .pop => am_pv1 st (fun v r => am_c1 v = true ∧ k (i + 1) ls r σ)
  | .ifCond c _ => am_p1 st (fun a st => (am_cp c a 0 → k row.2.1 ls st σ) ∧ (¬ am_cp c a 0 → k (i + 1) ls st σ))
  | .if_icmp c _ => am_p2 st (fun a b st => (am_cp c a b → k row.2.1 ls st σ) ∧ (¬ am_cp c a b → k (i + 1) ls st σ))
  | .ifnonnull _ => am_pr st (fun a st => (a ≠ 0 → k row.2.1 ls st σ) ∧ (¬ a ≠ 0 → k (i + 1) ls st σ))
  | .goto _ => k row.2.1 ls st σ
  | .tableswitch d lo hi offs => am_p1 st (fun a st => k (am_fd cd ((row.1.1 : Int) + am_tsw d lo hi offs a)) ls st σ)
  | .lookupswitch d ps => am_p1 st (fun a st => k (am_fd cd ((row.1.1 : Int) + am_lsw d ps.toList a)) ls st σ)
  | .getfield _ => am_pr st (fun o st => am_ly o = (0, row.2.1) ∧ k (i + 1) ls (am_fv σ row.2.1 row.2.2.1 o :: st) σ)
  | .putfield _ =>
    if am_fk row.2.1 row.2.2.1 = 2 then am_pvo st (fun o v r => am_vr v (fun p => (p ≠ 0 ∧ am_ly o = (0, row.2.1)) ∧ k (i + 1) ls r (σ.1, am_up σ.2.1 o row.2.2.1 p, σ.2.2)))
    else am_pvo st (fun o v r => am_vi v (fun n => ((am_fk row.2.1 row.2.2.1 = 1 → n = 0 ∨ n = 1) ∧ am_ly o = (0, row.2.1)) ∧ k (i + 1) ls r (σ.1, σ.2.1, am_up σ.2.2 o row.2.2.1 n)))
  | .getstatic _ => k (i + 1) ls (am_r 1 :: st) σ
  | .iaload => am_pa st (fun o j st => (((am_ly o).1 = 1 ∨ (am_ly o).1 = 11 ∨ (am_ly o).1 = 12) ∧ 0 ≤ j ∧ j < am_len σ o) ∧ k (i + 1) ls (am_i (am_rd σ o j) :: st) σ)
  | .laload => am_pa st (fun o j st => am_in 2 o j ∧ k (i + 1) ls (am_l (σ.2.2 o j) :: st) σ)
  | .baload => am_pa st (fun o j st => (am_in 3 o j ∨ am_in 4 o j) ∧ k (i + 1) ls (am_i (σ.2.2 o j) :: st) σ)
  | .aaload => am_pa st (fun o j st => am_in 5 o j ∧ k (i + 1) ls (am_r (σ.2.1 o j) :: st) σ)
  | .iastore => am_pva st (fun o j v r => am_vi v (fun n => am_in 1 o j ∧ k (i + 1) ls r (σ.1, σ.2.1, am_up σ.2.2 o j n)))
  | .lastore => am_pva st (fun o j v r => am_vl v (fun n => am_in 2 o j ∧ k (i + 1) ls r (σ.1, σ.2.1, am_up σ.2.2 o j n)))
  | .bastore => am_pva st (fun o j v r => am_vi v (fun n => (am_in 3 o j ∨ (am_in 4 o j ∧ (n = 0 ∨ n = 1))) ∧ k (i + 1) ls r (σ.1, σ.2.1, am_up σ.2.2 o j (w8 n))))
  | .aastore => am_pva st (fun o j v r => am_vr v (fun p => (am_in 5 o j ∧ am_ly p = (0, 8)) ∧ k (i + 1) ls r (σ.1, am_up σ.2.1 o j p, σ.2.2)))
  | .arraylength => am_pr st (fun o st => ((am_ly o).1 = 1 ∨ (am_ly o).1 = 2 ∨ (am_ly o).1 = 11 ∨ (am_ly o).1 = 12) ∧ k (i + 1) ls (am_i (am_len σ o) :: st) σ)
  | .newarray t => am_p1 st (fun n st => (0 ≤ n ∧ am_at t ≠ 9 ∧ am_ly σ.1 = (am_at t, n.toNat)) ∧ k (i + 1) ls (am_r σ.1 :: st) (am_new σ))
  | .anewarray _ => am_p1 st (fun n st => (0 ≤ n ∧ am_ly σ.1 = (5, n.toNat)) ∧ k (i + 1) ls (am_r σ.1 :: st) (am_new σ))
  | .new _ => am_ly σ.1 = (0, row.2.1) ∧ k (i + 1) ls (am_r σ.1 :: st) (am_new σ)
  | .invokestatic _ =>
    if row.2.1 = 1001 then am_pc st (fun s sp d dp n st => (((am_ly s).1 = (am_ly d).1 ∧ ((am_ly s).1 = 1 ∨ (am_ly s).1 = 2)) ∧ 0 ≤ sp ∧ 0 ≤ dp ∧ 0 ≤ n ∧ sp + n ≤ ((am_ly s).2 : Int) ∧ dp + n ≤ ((am_ly d).2 : Int) ∧ (st.map (fun v => if am_c1 v then 1 else 2)).sum ≤ 8) ∧ k (i + 1) ls st (σ.1, σ.2.1, am_so σ.2.2 d (am_cpy (σ.2.2 s) (σ.2.2 d) sp dp n)))
    else if row.2.1 = 1002 then am_p2 st (fun a b st => (st.map (fun v => if am_c1 v then 1 else 2)).sum ≤ 8 ∧ k (i + 1) ls (am_i (if a < b then b else a) :: st) σ)
    else if row.2.1 = 1003 then am_p2 st (fun a b st => (st.map (fun v => if am_c1 v then 1 else 2)).sum ≤ 8 ∧ k (i + 1) ls (am_i (if b < a then b else a) :: st) σ)
    else am_call R (fun st σ => k (i + 1) ls st σ) row.2.1 row.2.2.1 st σ
  | .invokespecial _ =>
    if row.2.1 = 1000 then am_pr st (fun o st => (o ≠ 0 ∧ (st.map (fun v => if am_c1 v then 1 else 2)).sum ≤ 8) ∧ k (i + 1) ls st σ)
    else (∃ (o : Nat), o ≠ 0 ∧ st[row.2.2.1 - 1]? = some (am_r o)) ∧ am_call R (fun st σ => k (i + 1) ls st σ) row.2.1 row.2.2.1 st σ
  | .invokevirtual _ => (∃ (o : Nat), st[row.2.2.1 - 1]? = some (am_r o) ∧ am_ly o = (0, row.2.2.2.toNat)) ∧ am_call R (fun st σ => k (i + 1) ls st σ) row.2.1 row.2.2.1 st σ
  | .ireturn => am_p1 st (fun a st => (row.2.1 = 1 → a = 0 ∨ a = 1) ∧ am_p0 st (Q (some (am_i a)) σ))
  | .lreturn => am_pl st (fun a st => am_p0 st (Q (some (am_l a)) σ))
  | .return_ => am_p0 st (Q none σ)
  | _ => False
/-! ===== monotonicity; runs as a least fixpoint; one step ===== -/
theorem am_p1_m {st : List am_V} {k k' : Int → List am_V → Prop} (h : ∀ x0 x1, k x0 x1 → k' x0 x1) : am_p1 st k → am_p1 st k' := by
  unfold am_p1; split
  · exact h _ _
  · exact id
theorem am_p1_e {α : Type} {st : List am_V} {k : α → Int → List am_V → Prop} : am_p1 st (fun x0 x1 => ∃ x, k x x0 x1) → ∃ x, am_p1 st (k x) := by
  unfold am_p1; split
  · exact id
  · exact fun q => q.elim
theorem am_p1_c {st : List am_V} {k : Int → List am_V → Prop} {c : Prop} (h : ∀ x0 x1, k x0 x1 → c) : am_p1 st k → c := by
  unfold am_p1; split
  · exact h _ _
  · exact fun q => q.elim
theorem am_p2_m {st : List am_V} {k k' : Int → Int → List am_V → Prop} (h : ∀ x0 x1 x2, k x0 x1 x2 → k' x0 x1 x2) : am_p2 st k → am_p2 st k' := by
  unfold am_p2; split
  · exact h _ _ _
  · exact id
theorem am_p2_e {α : Type} {st : List am_V} {k : α → Int → Int → List am_V → Prop} : am_p2 st (fun x0 x1 x2 => ∃ x, k x x0 x1 x2) → ∃ x, am_p2 st (k x) := by
  unfold am_p2; split
  · exact id
  · exact fun q => q.elim
theorem am_p2_c {st : List am_V} {k : Int → Int → List am_V → Prop} {c : Prop} (h : ∀ x0 x1 x2, k x0 x1 x2 → c) : am_p2 st k → c := by
  unfold am_p2; split
  · exact h _ _ _
  · exact fun q => q.elim
theorem am_pl_m {st : List am_V} {k k' : Int → List am_V → Prop} (h : ∀ x0 x1, k x0 x1 → k' x0 x1) : am_pl st k → am_pl st k' := by
  unfold am_pl; split
  · exact h _ _
  · exact id
theorem am_pl_e {α : Type} {st : List am_V} {k : α → Int → List am_V → Prop} : am_pl st (fun x0 x1 => ∃ x, k x x0 x1) → ∃ x, am_pl st (k x) := by
  unfold am_pl; split
  · exact id
  · exact fun q => q.elim
theorem am_pl_c {st : List am_V} {k : Int → List am_V → Prop} {c : Prop} (h : ∀ x0 x1, k x0 x1 → c) : am_pl st k → c := by
  unfold am_pl; split
  · exact h _ _
  · exact fun q => q.elim
theorem am_pll_m {st : List am_V} {k k' : Int → Int → List am_V → Prop} (h : ∀ x0 x1 x2, k x0 x1 x2 → k' x0 x1 x2) : am_pll st k → am_pll st k' := by
  unfold am_pll; split
  · exact h _ _ _
  · exact id
theorem am_pll_e {α : Type} {st : List am_V} {k : α → Int → Int → List am_V → Prop} : am_pll st (fun x0 x1 x2 => ∃ x, k x x0 x1 x2) → ∃ x, am_pll st (k x) := by
  unfold am_pll; split
  · exact id
  · exact fun q => q.elim
theorem am_pll_c {st : List am_V} {k : Int → Int → List am_V → Prop} {c : Prop} (h : ∀ x0 x1 x2, k x0 x1 x2 → c) : am_pll st k → c := by
  unfold am_pll; split
  · exact h _ _ _
  · exact fun q => q.elim
theorem am_pli_m {st : List am_V} {k k' : Int → Int → List am_V → Prop} (h : ∀ x0 x1 x2, k x0 x1 x2 → k' x0 x1 x2) : am_pli st k → am_pli st k' := by
  unfold am_pli; split
  · exact h _ _ _
  · exact id
theorem am_pli_e {α : Type} {st : List am_V} {k : α → Int → Int → List am_V → Prop} : am_pli st (fun x0 x1 x2 => ∃ x, k x x0 x1 x2) → ∃ x, am_pli st (k x) := by
  unfold am_pli; split
  · exact id
  · exact fun q => q.elim
theorem am_pli_c {st : List am_V} {k : Int → Int → List am_V → Prop} {c : Prop} (h : ∀ x0 x1 x2, k x0 x1 x2 → c) : am_pli st k → c := by
  unfold am_pli; split
  · exact h _ _ _
  · exact fun q => q.elim
theorem am_pr_m {st : List am_V} {k k' : Nat → List am_V → Prop} (h : ∀ x0 x1, k x0 x1 → k' x0 x1) : am_pr st k → am_pr st k' := by
  unfold am_pr; split
  · exact h _ _
  · exact id
theorem am_pr_e {α : Type} {st : List am_V} {k : α → Nat → List am_V → Prop} : am_pr st (fun x0 x1 => ∃ x, k x x0 x1) → ∃ x, am_pr st (k x) := by
  unfold am_pr; split
  · exact id
  · exact fun q => q.elim
theorem am_pr_c {st : List am_V} {k : Nat → List am_V → Prop} {c : Prop} (h : ∀ x0 x1, k x0 x1 → c) : am_pr st k → c := by
  unfold am_pr; split
  · exact h _ _
  · exact fun q => q.elim
theorem am_pa_m {st : List am_V} {k k' : Nat → Int → List am_V → Prop} (h : ∀ x0 x1 x2, k x0 x1 x2 → k' x0 x1 x2) : am_pa st k → am_pa st k' := by
  unfold am_pa; split
  · exact h _ _ _
  · exact id
theorem am_pa_e {α : Type} {st : List am_V} {k : α → Nat → Int → List am_V → Prop} : am_pa st (fun x0 x1 x2 => ∃ x, k x x0 x1 x2) → ∃ x, am_pa st (k x) := by
  unfold am_pa; split
  · exact id
  · exact fun q => q.elim
theorem am_pa_c {st : List am_V} {k : Nat → Int → List am_V → Prop} {c : Prop} (h : ∀ x0 x1 x2, k x0 x1 x2 → c) : am_pa st k → c := by
  unfold am_pa; split
  · exact h _ _ _
  · exact fun q => q.elim
theorem am_pva_m {st : List am_V} {k k' : Nat → Int → am_V → List am_V → Prop} (h : ∀ x0 x1 x2 x3, k x0 x1 x2 x3 → k' x0 x1 x2 x3) : am_pva st k → am_pva st k' := by
  unfold am_pva; split
  · exact h _ _ _ _
  · exact id
theorem am_pva_e {α : Type} {st : List am_V} {k : α → Nat → Int → am_V → List am_V → Prop} : am_pva st (fun x0 x1 x2 x3 => ∃ x, k x x0 x1 x2 x3) → ∃ x, am_pva st (k x) := by
  unfold am_pva; split
  · exact id
  · exact fun q => q.elim
theorem am_pva_c {st : List am_V} {k : Nat → Int → am_V → List am_V → Prop} {c : Prop} (h : ∀ x0 x1 x2 x3, k x0 x1 x2 x3 → c) : am_pva st k → c := by
  unfold am_pva; split
  · exact h _ _ _ _
  · exact fun q => q.elim
theorem am_pvo_m {st : List am_V} {k k' : Nat → am_V → List am_V → Prop} (h : ∀ x0 x1 x2, k x0 x1 x2 → k' x0 x1 x2) : am_pvo st k → am_pvo st k' := by
  unfold am_pvo; split
  · exact h _ _ _
  · exact id
theorem am_pvo_e {α : Type} {st : List am_V} {k : α → Nat → am_V → List am_V → Prop} : am_pvo st (fun x0 x1 x2 => ∃ x, k x x0 x1 x2) → ∃ x, am_pvo st (k x) := by
  unfold am_pvo; split
  · exact id
  · exact fun q => q.elim
theorem am_pvo_c {st : List am_V} {k : Nat → am_V → List am_V → Prop} {c : Prop} (h : ∀ x0 x1 x2, k x0 x1 x2 → c) : am_pvo st k → c := by
  unfold am_pvo; split
  · exact h _ _ _
  · exact fun q => q.elim
theorem am_pv1_m {st : List am_V} {k k' : am_V → List am_V → Prop} (h : ∀ x0 x1, k x0 x1 → k' x0 x1) : am_pv1 st k → am_pv1 st k' := by
  unfold am_pv1; split
  · exact h _ _
  · exact id
theorem am_pv1_e {α : Type} {st : List am_V} {k : α → am_V → List am_V → Prop} : am_pv1 st (fun x0 x1 => ∃ x, k x x0 x1) → ∃ x, am_pv1 st (k x) := by
  unfold am_pv1; split
  · exact id
  · exact fun q => q.elim
theorem am_pv1_c {st : List am_V} {k : am_V → List am_V → Prop} {c : Prop} (h : ∀ x0 x1, k x0 x1 → c) : am_pv1 st k → c := by
  unfold am_pv1; split
  · exact h _ _
  · exact fun q => q.elim
theorem am_pv2_m {st : List am_V} {k k' : am_V → am_V → List am_V → Prop} (h : ∀ x0 x1 x2, k x0 x1 x2 → k' x0 x1 x2) : am_pv2 st k → am_pv2 st k' := by
  unfold am_pv2; split
  · exact h _ _ _
  · exact id
theorem am_pv2_e {α : Type} {st : List am_V} {k : α → am_V → am_V → List am_V → Prop} : am_pv2 st (fun x0 x1 x2 => ∃ x, k x x0 x1 x2) → ∃ x, am_pv2 st (k x) := by
  unfold am_pv2; split
  · exact id
  · exact fun q => q.elim
theorem am_pv2_c {st : List am_V} {k : am_V → am_V → List am_V → Prop} {c : Prop} (h : ∀ x0 x1 x2, k x0 x1 x2 → c) : am_pv2 st k → c := by
  unfold am_pv2; split
  · exact h _ _ _
  · exact fun q => q.elim
theorem am_pc_m {st : List am_V} {k k' : Nat → Int → Nat → Int → Int → List am_V → Prop} (h : ∀ x0 x1 x2 x3 x4 x5, k x0 x1 x2 x3 x4 x5 → k' x0 x1 x2 x3 x4 x5) : am_pc st k → am_pc st k' := by
  unfold am_pc; split
  · exact h _ _ _ _ _ _
  · exact id
theorem am_pc_e {α : Type} {st : List am_V} {k : α → Nat → Int → Nat → Int → Int → List am_V → Prop} : am_pc st (fun x0 x1 x2 x3 x4 x5 => ∃ x, k x x0 x1 x2 x3 x4 x5) → ∃ x, am_pc st (k x) := by
  unfold am_pc; split
  · exact id
  · exact fun q => q.elim
theorem am_pc_c {st : List am_V} {k : Nat → Int → Nat → Int → Int → List am_V → Prop} {c : Prop} (h : ∀ x0 x1 x2 x3 x4 x5, k x0 x1 x2 x3 x4 x5 → c) : am_pc st k → c := by
  unfold am_pc; split
  · exact h _ _ _ _ _ _
  · exact fun q => q.elim
theorem am_vi_m {v : am_V} {k k' : Int → Prop} (h : ∀ x0, k x0 → k' x0) : am_vi v k → am_vi v k' := by
  unfold am_vi; split
  · exact h _
  · exact id
theorem am_vi_e {α : Type} {v : am_V} {k : α → Int → Prop} : am_vi v (fun x0 => ∃ x, k x x0) → ∃ x, am_vi v (k x) := by
  unfold am_vi; split
  · exact id
  · exact fun q => q.elim
theorem am_vi_c {v : am_V} {k : Int → Prop} {c : Prop} (h : ∀ x0, k x0 → c) : am_vi v k → c := by
  unfold am_vi; split
  · exact h _
  · exact fun q => q.elim
theorem am_vl_m {v : am_V} {k k' : Int → Prop} (h : ∀ x0, k x0 → k' x0) : am_vl v k → am_vl v k' := by
  unfold am_vl; split
  · exact h _
  · exact id
theorem am_vl_e {α : Type} {v : am_V} {k : α → Int → Prop} : am_vl v (fun x0 => ∃ x, k x x0) → ∃ x, am_vl v (k x) := by
  unfold am_vl; split
  · exact id
  · exact fun q => q.elim
theorem am_vl_c {v : am_V} {k : Int → Prop} {c : Prop} (h : ∀ x0, k x0 → c) : am_vl v k → c := by
  unfold am_vl; split
  · exact h _
  · exact fun q => q.elim
theorem am_vr_m {v : am_V} {k k' : Nat → Prop} (h : ∀ x0, k x0 → k' x0) : am_vr v k → am_vr v k' := by
  unfold am_vr; split
  · exact h _
  · exact id
theorem am_vr_e {α : Type} {v : am_V} {k : α → Nat → Prop} : am_vr v (fun x0 => ∃ x, k x x0) → ∃ x, am_vr v (k x) := by
  unfold am_vr; split
  · exact id
  · exact fun q => q.elim
theorem am_vr_c {v : am_V} {k : Nat → Prop} {c : Prop} (h : ∀ x0, k x0 → c) : am_vr v k → c := by
  unfold am_vr; split
  · exact h _
  · exact fun q => q.elim
theorem am_ld_m {ls : am_L} {a : Nat} {k k' : am_V → Prop} (h : ∀ x0, k x0 → k' x0) : am_ld ls a k → am_ld ls a k' := by
  unfold am_ld; split
  · exact h _
  · exact id
theorem am_ld_e {α : Type} {ls : am_L} {a : Nat} {k : α → am_V → Prop} : am_ld ls a (fun x0 => ∃ x, k x x0) → ∃ x, am_ld ls a (k x) := by
  unfold am_ld; split
  · exact id
  · exact fun q => q.elim
theorem am_ld_c {ls : am_L} {a : Nat} {k : am_V → Prop} {c : Prop} (h : ∀ x0, k x0 → c) : am_ld ls a k → c := by
  unfold am_ld; split
  · exact h _
  · exact fun q => q.elim
theorem am_p0_m {st : List am_V} {k k' : Prop} (h : k → k') : am_p0 st k → am_p0 st k' := by
  unfold am_p0; split
  · exact h
  · exact id
theorem am_p0_e {α : Type} {st : List am_V} {k : α → Prop} : am_p0 st (∃ x, k x) → ∃ x, am_p0 st (k x) := by
  unfold am_p0; split
  · exact id
  · exact fun q => q.elim
theorem am_p0_c {st : List am_V} {k c : Prop} (h : k → c) : am_p0 st k → c := by
  unfold am_p0; split
  · exact h
  · exact fun q => q.elim
theorem am_and_e {α : Type} {c : Prop} {k : α → Prop} : (c ∧ ∃ x, k x) → ∃ x, c ∧ k x := fun ⟨h, x, q⟩ => ⟨x, h, q⟩
theorem am_br_e {α : Type} {c : Prop} {k k' : α → Prop} (h : (c → ∃ x, k x) ∧ (¬ c → ∃ x, k' x)) : ∃ x, (c → k x) ∧ (¬ c → k' x) := by
  by_cases hc : c
  · obtain ⟨x, q⟩ := h.1 hc
    exact ⟨x, fun _ => q, fun z => absurd hc z⟩
  · obtain ⟨x, q⟩ := h.2 hc
    exact ⟨x, fun z => absurd z hc, fun _ => q⟩
theorem am_br_c {c d : Prop} {k k' : Prop} (h1 : k → d) (h2 : k' → d) (h : (c → k) ∧ (¬ c → k')) : d := by
  by_cases hc : c
  · exact h1 (h.1 hc)
  · exact h2 (h.2 hc)
theorem am_call_m {R R' : am_RT} (hR : ∀ y a σ v σ', R y a σ v σ' → R' y a σ v σ') {k k' : List am_V → am_S → Prop} (h : ∀ st σ, k st σ → k' st σ) {y n : Nat} {st : List am_V} {σ : am_S} : am_call R k y n st σ → am_call R' k' y n st σ :=
  fun ⟨h1, h2, v, σ', h3, h4⟩ => ⟨h1, h2, v, σ', hR _ _ _ _ _ h3, h _ _ h4⟩
theorem am_call_e {α : Type} {R : am_RT} {k : α → List am_V → am_S → Prop} {y n : Nat} {st : List am_V} {σ : am_S} : am_call R (fun st σ => ∃ x, k x st σ) y n st σ → ∃ x, am_call R (k x) y n st σ :=
  fun ⟨h1, h2, v, σ', h3, x, h4⟩ => ⟨x, h1, h2, v, σ', h3, h4⟩
theorem am_call_c {R : am_RT} {k : List am_V → am_S → Prop} {y n : Nat} {st : List am_V} {σ : am_S} {c : Prop} (h : ∀ a v σ' st', R y a σ v σ' → k st' σ' → c) : am_call R k y n st σ → c :=
  fun ⟨_, _, v, σ', h3, h4⟩ => h _ _ _ _ h3 h4
set_option maxHeartbeats 4000000 in
theorem am_sp_m {R R' : am_RT} (hR : ∀ y a σ v σ', R y a σ v σ' → R' y a σ v σ') {cd : List am_I} {k k' : am_KT} (hk : ∀ i ls st σ, k i ls st σ → k' i ls st σ) {Q Q' : Option am_V → am_S → Prop} (hQ : ∀ v σ, Q v σ → Q' v σ) {i : Nat} {row : am_I} {ls : am_L} {st : List am_V} {σ : am_S} :
    am_sp R cd k Q i row ls st σ → am_sp R' cd k' Q' i row ls st σ := by
  obtain ⟨⟨pc, ins⟩, a, b, n⟩ := row
  cases ins
  all_goals first
    | exact id
    | exact hk _ _ _ _
    | exact am_p1_m (fun a r h => hk _ _ _ _ h)
    | exact am_p2_m (fun a b r h => hk _ _ _ _ h)
    | exact am_ld_m (fun v => am_vi_m (fun a h => hk _ _ _ _ h))
    | exact am_ld_m (fun v => am_vl_m (fun a h => hk _ _ _ _ h))
    | exact am_ld_m (fun v => am_vr_m (fun a h => ⟨h.1, hk _ _ _ _ h.2⟩))
    | exact am_pl_m (fun a r h => hk _ _ _ _ h)
    | exact am_pll_m (fun a b r h => hk _ _ _ _ h)
    | exact am_pli_m (fun a b r h => hk _ _ _ _ h)
    | exact am_p1_m (fun a r h => ⟨h.1, hk _ _ _ _ h.2⟩)
    | exact am_p2_m (fun a b r h => ⟨h.1, hk _ _ _ _ h.2⟩)
    | exact am_pl_m (fun a r h => ⟨h.1, hk _ _ _ _ h.2⟩)
    | exact am_pr_m (fun a r h => ⟨h.1, hk _ _ _ _ h.2⟩)
    | exact am_pa_m (fun a b r h => ⟨h.1, hk _ _ _ _ h.2⟩)
    | exact am_pv1_m (fun a r h => ⟨h.1, hk _ _ _ _ h.2⟩)
    | exact am_pv2_m (fun a b r h => ⟨h.1, hk _ _ _ _ h.2⟩)
    | exact am_pva_m (fun o j v r => am_vi_m (fun n h => ⟨h.1, hk _ _ _ _ h.2⟩))
    | exact am_pva_m (fun o j v r => am_vl_m (fun n h => ⟨h.1, hk _ _ _ _ h.2⟩))
    | exact am_pva_m (fun o j v r => am_vr_m (fun n h => ⟨h.1, hk _ _ _ _ h.2⟩))
    | exact am_p1_m (fun a r h => ⟨fun c => hk _ _ _ _ (h.1 c), fun c => hk _ _ _ _ (h.2 c)⟩)
    | exact am_p2_m (fun a b r h => ⟨fun c => hk _ _ _ _ (h.1 c), fun c => hk _ _ _ _ (h.2 c)⟩)
    | exact am_pr_m (fun a r h => ⟨fun c => hk _ _ _ _ (h.1 c), fun c => hk _ _ _ _ (h.2 c)⟩)
    | exact fun h => ⟨h.1, hk _ _ _ _ h.2⟩
    | exact fun h => ⟨h.1, am_call_m hR (fun _ _ h => hk _ _ _ _ h) h.2⟩
    | exact am_p1_m (fun a r h => ⟨h.1, am_p0_m (hQ _ _) h.2⟩)
    | exact am_pl_m (fun a r h => am_p0_m (hQ _ _) h)
    | exact am_p0_m (hQ _ _)
    | (simp only [am_sp]; split
       · exact am_pc_m (fun _ _ _ _ _ _ h => ⟨h.1, hk _ _ _ _ h.2⟩)
       · split
         · exact am_p2_m (fun _ _ _ h => ⟨h.1, hk _ _ _ _ h.2⟩)
         · split
           · exact am_p2_m (fun _ _ _ h => ⟨h.1, hk _ _ _ _ h.2⟩)
           · exact am_call_m hR (fun _ _ h => hk _ _ _ _ h))
    | (simp only [am_sp]; split
       · exact am_pr_m (fun _ _ h => ⟨h.1, hk _ _ _ _ h.2⟩)
       · exact fun h => ⟨h.1, am_call_m hR (fun _ _ h => hk _ _ _ _ h) h.2⟩)
    | (simp only [am_sp]; split
       · exact am_pvo_m (fun o v r => am_vr_m (fun n h => ⟨h.1, hk _ _ _ _ h.2⟩))
       · exact am_pvo_m (fun o v r => am_vi_m (fun n h => ⟨h.1, hk _ _ _ _ h.2⟩)))
set_option maxHeartbeats 4000000 in
theorem am_sp_e {α : Type} {R : am_RT} {cd : List am_I} {k : α → am_KT} {Q : α → Option am_V → am_S → Prop} {i : Nat} {row : am_I} {ls : am_L} {st : List am_V} {σ : am_S} :
    am_sp R cd (fun i ls st σ => ∃ x, k x i ls st σ) (fun v σ => ∃ x, Q x v σ) i row ls st σ → ∃ x, am_sp R cd (k x) (Q x) i row ls st σ := by
  obtain ⟨⟨pc, ins⟩, a, b, n⟩ := row
  cases ins
  all_goals first
    | exact fun h => False.elim h
    | exact id
    | exact am_p1_e
    | exact am_p2_e
    | exact am_pl_e
    | exact am_pll_e
    | exact am_pli_e
    | exact fun h => am_ld_e (am_ld_m (fun v => am_vi_e) h)
    | exact fun h => am_ld_e (am_ld_m (fun v => am_vl_e) h)
    | exact fun h => am_ld_e (am_ld_m (fun v h => am_vr_e (am_vr_m (fun _ => am_and_e) h)) h)
    | exact fun h => am_p1_e (am_p1_m (fun _ _ => am_and_e) h)
    | exact fun h => am_p2_e (am_p2_m (fun _ _ _ => am_and_e) h)
    | exact fun h => am_pl_e (am_pl_m (fun _ _ => am_and_e) h)
    | exact fun h => am_pr_e (am_pr_m (fun _ _ => am_and_e) h)
    | exact fun h => am_pa_e (am_pa_m (fun _ _ _ => am_and_e) h)
    | exact fun h => am_pv1_e (am_pv1_m (fun _ _ => am_and_e) h)
    | exact fun h => am_pv2_e (am_pv2_m (fun _ _ _ => am_and_e) h)
    | exact fun h => am_pva_e (am_pva_m (fun _ _ _ _ h => am_vi_e (am_vi_m (fun _ => am_and_e) h)) h)
    | exact fun h => am_pva_e (am_pva_m (fun _ _ _ _ h => am_vl_e (am_vl_m (fun _ => am_and_e) h)) h)
    | exact fun h => am_pva_e (am_pva_m (fun _ _ _ _ h => am_vr_e (am_vr_m (fun _ => am_and_e) h)) h)
    | exact fun h => am_p1_e (am_p1_m (fun _ _ => am_br_e) h)
    | exact fun h => am_p2_e (am_p2_m (fun _ _ _ => am_br_e) h)
    | exact fun h => am_pr_e (am_pr_m (fun _ _ => am_br_e) h)
    | exact am_and_e
    | exact fun h => am_and_e ⟨h.1, am_call_e h.2⟩
    | exact fun h => am_p1_e (am_p1_m (fun _ _ h => am_and_e ⟨h.1, am_p0_e h.2⟩) h)
    | exact fun h => am_pl_e (am_pl_m (fun _ _ h => am_p0_e h) h)
    | exact am_p0_e
    | (simp only [am_sp]; split
       · exact fun h => am_pc_e (am_pc_m (fun _ _ _ _ _ _ => am_and_e) h)
       · split
         · exact fun h => am_p2_e (am_p2_m (fun _ _ _ => am_and_e) h)
         · split
           · exact fun h => am_p2_e (am_p2_m (fun _ _ _ => am_and_e) h)
           · exact am_call_e)
    | (simp only [am_sp]; split
       · exact fun h => am_pr_e (am_pr_m (fun _ _ => am_and_e) h)
       · exact fun h => am_and_e ⟨h.1, am_call_e h.2⟩)
    | (simp only [am_sp]; split
       · exact fun h => am_pvo_e (am_pvo_m (fun _ _ _ h => am_vr_e (am_vr_m (fun _ => am_and_e) h)) h)
       · exact fun h => am_pvo_e (am_pvo_m (fun _ _ _ h => am_vi_e (am_vi_m (fun _ => am_and_e) h)) h))
set_option maxHeartbeats 4000000 in
theorem am_sp_c {R : am_RT} {N : Nat} (hR : ∀ y a σ v σ', R y a σ v σ' → σ.1 ≤ σ'.1) {cd : List am_I} {k : am_KT} (hk : ∀ i ls st σ, k i ls st σ → σ.1 ≤ N) {Q : Option am_V → am_S → Prop} (hQ : ∀ v σ, Q v σ → σ.1 ≤ N) {i : Nat} {row : am_I} {ls : am_L} {st : List am_V} {σ : am_S} :
    am_sp R cd k Q i row ls st σ → σ.1 ≤ N := by
  obtain ⟨⟨pc, ins⟩, a, b, n⟩ := row
  have hn : (am_new σ).1 ≤ N → σ.1 ≤ N := fun h => Nat.le_of_succ_le h
  cases ins
  all_goals first
    | exact fun h => h.elim
    | exact hk _ _ _ _
    | exact am_p1_c (fun a r h => hk _ _ _ _ h)
    | exact am_p2_c (fun a b r h => hk _ _ _ _ h)
    | exact am_ld_c (fun v => am_vi_c (fun a h => hk _ _ _ _ h))
    | exact am_ld_c (fun v => am_vl_c (fun a h => hk _ _ _ _ h))
    | exact am_ld_c (fun v => am_vr_c (fun a h => hk _ _ _ _ h.2))
    | exact am_pl_c (fun a r h => hk _ _ _ _ h)
    | exact am_pll_c (fun a b r h => hk _ _ _ _ h)
    | exact am_pli_c (fun a b r h => hk _ _ _ _ h)
    | exact am_p1_c (fun a r h => hk _ _ _ _ h.2)
    | exact am_p2_c (fun a b r h => hk _ _ _ _ h.2)
    | exact am_pl_c (fun a r h => hk _ _ _ _ h.2)
    | exact am_pr_c (fun a r h => hk _ _ _ _ h.2)
    | exact am_pa_c (fun a b r h => hk _ _ _ _ h.2)
    | exact am_pv1_c (fun a r h => hk _ _ _ _ h.2)
    | exact am_pv2_c (fun a b r h => hk _ _ _ _ h.2)
    | exact am_pva_c (fun o j v r => am_vi_c (fun n h => (by have q := hk _ _ _ _ h.2; exact q)))
    | exact am_pva_c (fun o j v r => am_vl_c (fun n h => (by have q := hk _ _ _ _ h.2; exact q)))
    | exact am_pva_c (fun o j v r => am_vr_c (fun n h => (by have q := hk _ _ _ _ h.2; exact q)))
    | exact am_p1_c (fun a r h => am_br_c (hk _ _ _ _) (hk _ _ _ _) h)
    | exact am_p2_c (fun a b r h => am_br_c (hk _ _ _ _) (hk _ _ _ _) h)
    | exact am_pr_c (fun a r h => am_br_c (hk _ _ _ _) (hk _ _ _ _) h)
    | exact fun h => hn (hk _ _ _ _ h.2)
    | exact am_p1_c (fun a r h => hn (hk _ _ _ _ h.2))
    | exact fun h => am_call_c (fun a v σ' st' h1 h2 => Nat.le_trans (hR _ _ _ _ _ h1) (hk _ _ _ _ h2)) h.2
    | exact am_p1_c (fun a r h => am_p0_c (hQ _ _) h.2)
    | exact am_pl_c (fun a r h => am_p0_c (hQ _ _) h)
    | exact am_p0_c (hQ _ _)
    | (simp only [am_sp]; split
       · exact am_pc_c (fun _ _ _ _ _ _ h => (by have q := hk _ _ _ _ h.2; exact q))
       · split
         · exact am_p2_c (fun _ _ _ h => hk _ _ _ _ h.2)
         · split
           · exact am_p2_c (fun _ _ _ h => hk _ _ _ _ h.2)
           · exact am_call_c (fun a v σ' st' h1 h2 => Nat.le_trans (hR _ _ _ _ _ h1) (hk _ _ _ _ h2)))
    | (simp only [am_sp]; split
       · exact am_pr_c (fun _ _ h => hk _ _ _ _ h.2)
       · exact fun h => am_call_c (fun a v σ' st' h1 h2 => Nat.le_trans (hR _ _ _ _ _ h1) (hk _ _ _ _ h2)) h.2)
    | (simp only [am_sp]; split
       · exact am_pvo_c (fun o v r => am_vr_c (fun n h => (by have q := hk _ _ _ _ h.2; exact q)))
       · exact am_pvo_c (fun o v r => am_vi_c (fun n h => (by have q := hk _ _ _ _ h.2; exact q))))
/-- from row i on, the machine comes to an end with Q -/
def am_WPd (R : am_RT) (cd : List am_I) (Q : Option am_V → am_S → Prop) (i : Nat) (ls : am_L) (st : List am_V) (σ : am_S) : Prop :=
  ∀ K : am_KT, (∀ i row ls st σ, cd[i]? = some row → am_sp R cd K Q i row ls st σ → K i ls st σ) → K i ls st σ
theorem am_WP_is : ∃ f : am_RT → List am_I → (Option am_V → am_S → Prop) → am_KT, f = am_WPd := ⟨_, rfl⟩
noncomputable def am_WP (R : am_RT) (cd : List am_I) (Q : Option am_V → am_S → Prop) (i : Nat) (ls : am_L) (st : List am_V) (σ : am_S) : Prop := Classical.choose am_WP_is R cd Q i ls st σ
theorem am_WP_eq : am_WP = am_WPd := Classical.choose_spec am_WP_is
theorem am_step {R : am_RT} {cd : List am_I} {i : Nat} {row : am_I} {ls : am_L} {st : List am_V} {σ : am_S} {Q : Option am_V → am_S → Prop} (h1 : cd[i]? = some row)
    (h2 : am_sp R cd (am_WP R cd Q) Q i row ls st σ) : am_WP R cd Q i ls st σ := by
  rw [am_WP_eq] at h2 ⊢
  exact fun K hK => hK i row ls st σ h1 (am_sp_m (fun _ _ _ _ _ h => h) (fun _ _ _ _ h => h K hK) (fun _ _ h => h) h2)
theorem am_ind {R : am_RT} {cd : List am_I} {i : Nat} {ls : am_L} {st : List am_V} {σ : am_S} {Q : Option am_V → am_S → Prop} (h : am_WP R cd Q i ls st σ) (K : am_KT)
    (hK : ∀ i row ls st σ, cd[i]? = some row → am_sp R cd K Q i row ls st σ → K i ls st σ) : K i ls st σ := by
  rw [am_WP_eq] at h
  exact h K hK
theorem am_WP_R {R R' : am_RT} (hR : ∀ y a σ v σ', R y a σ v σ' → R' y a σ v σ') {cd : List am_I} {i : Nat} {ls : am_L} {st : List am_V} {σ : am_S} {Q Q' : Option am_V → am_S → Prop} (hQ : ∀ v σ, Q v σ → Q' v σ) (h : am_WP R cd Q i ls st σ) : am_WP R' cd Q' i ls st σ :=
  am_ind h (fun i ls st σ => am_WP R' cd Q' i ls st σ) (fun _ _ _ _ _ h1 h2 => am_step h1 (am_sp_m hR (fun _ _ _ _ h => h) hQ h2))
/-- an end that is known to be there: which one -/
theorem am_WP_ex {R : am_RT} {cd : List am_I} {i : Nat} {ls : am_L} {st : List am_V} {σ : am_S} {Q : Option am_V → am_S → Prop} (h : am_WP R cd Q i ls st σ) :
    ∃ v σ', Q v σ' ∧ am_WP R cd (fun a b => a = v ∧ b = σ') i ls st σ := by
  have key : ∃ x : { x : Option am_V × am_S // Q x.1 x.2 }, am_WP R cd (fun a b => a = x.1.1 ∧ b = x.1.2) i ls st σ := by
    refine am_ind h (fun i ls st σ => ∃ x : { x : Option am_V × am_S // Q x.1 x.2 }, am_WP R cd (fun a b => a = x.1.1 ∧ b = x.1.2) i ls st σ) ?_
    intro i row ls st σ h1 h2
    obtain ⟨x, hx⟩ := am_sp_e (Q := fun (x : { x : Option am_V × am_S // Q x.1 x.2 }) a b => a = x.1.1 ∧ b = x.1.2) (am_sp_m (fun _ _ _ _ _ h => h) (fun _ _ _ _ h => h) (fun v σ hq => ⟨⟨(v, σ), hq⟩, rfl, rfl⟩) h2)
    exact ⟨x, am_step h1 hx⟩
  obtain ⟨⟨⟨v, s'⟩, hq⟩, hx⟩ := key
  exact ⟨v, s', hq, hx⟩
