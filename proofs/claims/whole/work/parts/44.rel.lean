/-! ===== how a state of the class stands to the reference's numbers ===== -/
/-- marks: objects b + 1 .. b + 3 -/
def RM (H : am_H) (b : Nat) (a : Int → Int) : Prop := H (b + 1) 0 = a 1 ∧ (∀ m, 0 ≤ m → m < a 1 → H (b + 2) m = lenF a m) ∧ ∀ m k, 0 ≤ m → m < a 1 → 0 ≤ k → k < lenF a m → H (b + 3) (m * 8 + k) = pkF (prtF a m k 0) (prtF a m k 1) (prtF a m k 2) (prtF a m k 3)
/-- shelves and books: objects b + 4 .. b + 15 -/
def RT (H : am_H) (b : Nat) (a : Int → Int) : Prop := H (b + 4) 0 = a 2 ∧ H (b + 4) 4 = a 3 ∧ (∀ s, 0 ≤ s → s < a 2 → H (b + 5) s = a (6670 + 32 * s) ∧ H (b + 6) s = a (6670 + 32 * s + 1)) ∧ (∀ s p, 0 ≤ s → s < a 2 → 0 ≤ p → p < 30 → H (b + 7) (s * 30 + p) = thgF a s p) ∧
  ∀ x, 0 ≤ x → x < a 3 → H (b + 8) x = bkF a x 0 ∧ H (b + 9) x = bkF a x 1 ∧ H (b + 10) x = bkF a x 2 ∧ H (b + 11) x = bkF a x 3 ∧ H (b + 12) x = bkF a x 4 ∧ H (b + 13) x = bkF a x 5 ∧ H (b + 14) x = bkF a x 6 ∧ H (b + 15) x = bkF a x 7
/-- the reading: objects b + 16, b + 17 -/
def RR (H : am_H) (b : Nat) (a : Int → Int) : Prop := H (b + 16) 0 = a 5 ∧ (0 ≤ a 5 → H (b + 16) 1 = a 6 ∧ ∀ k, 0 ≤ k → k < a 6 → H (b + 17) k = a (7 + k))
/-- the list: objects b + 18 .. b + 22 -/
def RC (H : am_H) (b : Nat) (a : Int → Int) : Prop := H (b + 18) 0 = cntL a (a 1).toNat ∧ (∀ m, 0 ≤ m → m < 200 → H (b + 19) m = a (8782 + m) ∧ H (b + 20) m = a (8982 + m) + a (9182 + m)) ∧ ∀ s, 0 ≤ s → s < 16 → H (b + 21) s = (if a (9382 + 62 * s) = 0 then -1 else a (9382 + 62 * s + 1)) ∧ (a (9382 + 62 * s) ≠ 0 → ∀ k, 0 ≤ k → k < a (9382 + 62 * s + 1) → H (b + 22) (s * 60 + k) = a (9382 + 62 * s + 2 + k))
/-- the growths: objects b + 23 .. b + 26 -/
def RG (H : am_H) (b : Nat) (a : Int → Int) : Prop := H (b + 23) 0 = a 4 ∧ ∀ g, 0 ≤ g → g < a 4 → H (b + 24) g = a (10374 + 3 * g) ∧ H (b + 25) g = a (10374 + 3 * g + 1) ∧ H (b + 26) g = a (10374 + 3 * g + 2)
def RS (H : am_H) (b : Nat) (a : Int → Int) : Prop := H b 5 = a 0 ∧ RM H b a ∧ RT H b a ∧ RR H b a ∧ RC H b a ∧ RG H b a
