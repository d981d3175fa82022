/-! ===== the class: beginnings ===== -/
def iPMarks (P : am_P) (o : Nat) : am_P := am_up (am_so (am_up (am_so (P) (o + 1) (fun _ => 0)) o 1 (o + 1)) (o + 2) (fun _ => 0)) o 2 (o + 2)
def iHMarks (H : am_H) (o : Nat) : am_H := am_so (am_so (H) (o + 1) (fun _ => 0)) (o + 2) (fun _ => 0)
theorem iPMarks_o (P : am_P) (o : Nat) {x : Nat} (h : x < o) : iPMarks P o x = P x := by
  unfold iPMarks
  rw [am_up_ne (by omega), am_so_ne _ _ (by omega), am_up_ne (by omega), am_so_ne _ _ (by omega)]
theorem iHMarks_o (H : am_H) (o : Nat) {x : Nat} (h : x < o) : iHMarks H o x = H x := by
  unfold iHMarks
  rw [am_so_ne _ _ (by omega), am_so_ne _ _ (by omega)]
theorem iPMarks_1 (P : am_P) (o : Nat) : iPMarks P o o 1 = o + 1 := by
  unfold iPMarks
  rw [am_up_eq, am_uf_ne _ _ (by omega), am_so_ne _ _ (by omega), am_up_eq, am_uf_eq]
theorem iPMarks_2 (P : am_P) (o : Nat) : iPMarks P o o 2 = o + 2 := by
  unfold iPMarks
  rw [am_up_eq, am_uf_eq]
def iPStacks (P : am_P) (o : Nat) : am_P := am_up (am_so (am_up (am_so (am_up (am_so (am_up (am_so (am_up (am_so (am_up (am_so (am_up (am_so (am_up (am_so (am_up (am_so (am_up (am_so (am_up (am_so (P) (o + 1) (fun _ => 0)) o 1 (o + 1)) (o + 2) (fun _ => 0)) o 2 (o + 2)) (o + 3) (fun _ => 0)) o 3 (o + 3)) (o + 4) (fun _ => 0)) o 5 (o + 4)) (o + 5) (fun _ => 0)) o 6 (o + 5)) (o + 6) (fun _ => 0)) o 7 (o + 6)) (o + 7) (fun _ => 0)) o 8 (o + 7)) (o + 8) (fun _ => 0)) o 9 (o + 8)) (o + 9) (fun _ => 0)) o 10 (o + 9)) (o + 10) (fun _ => 0)) o 11 (o + 10)) (o + 11) (fun _ => 0)) o 12 (o + 11)
def iHStacks (H : am_H) (o : Nat) : am_H := am_so (am_so (am_so (am_so (am_so (am_so (am_so (am_so (am_so (am_so (am_so (H) (o + 1) (fun _ => 0)) (o + 2) (fun _ => 0)) (o + 3) (fun _ => 0)) (o + 4) (fun _ => 0)) (o + 5) (fun _ => 0)) (o + 6) (fun _ => 0)) (o + 7) (fun _ => 0)) (o + 8) (fun _ => 0)) (o + 9) (fun _ => 0)) (o + 10) (fun _ => 0)) (o + 11) (fun _ => 0)
theorem iPStacks_o (P : am_P) (o : Nat) {x : Nat} (h : x < o) : iPStacks P o x = P x := by
  unfold iPStacks
  rw [am_up_ne (by omega), am_so_ne _ _ (by omega), am_up_ne (by omega), am_so_ne _ _ (by omega), am_up_ne (by omega), am_so_ne _ _ (by omega), am_up_ne (by omega), am_so_ne _ _ (by omega), am_up_ne (by omega), am_so_ne _ _ (by omega), am_up_ne (by omega), am_so_ne _ _ (by omega), am_up_ne (by omega), am_so_ne _ _ (by omega), am_up_ne (by omega), am_so_ne _ _ (by omega), am_up_ne (by omega), am_so_ne _ _ (by omega), am_up_ne (by omega), am_so_ne _ _ (by omega), am_up_ne (by omega), am_so_ne _ _ (by omega)]
theorem iHStacks_o (H : am_H) (o : Nat) {x : Nat} (h : x < o) : iHStacks H o x = H x := by
  unfold iHStacks
  rw [am_so_ne _ _ (by omega), am_so_ne _ _ (by omega), am_so_ne _ _ (by omega), am_so_ne _ _ (by omega), am_so_ne _ _ (by omega), am_so_ne _ _ (by omega), am_so_ne _ _ (by omega), am_so_ne _ _ (by omega), am_so_ne _ _ (by omega), am_so_ne _ _ (by omega), am_so_ne _ _ (by omega)]
theorem iPStacks_1 (P : am_P) (o : Nat) : iPStacks P o o 1 = o + 1 := by
  unfold iPStacks
  rw [am_up_eq, am_uf_ne _ _ (by omega), am_so_ne _ _ (by omega), am_up_eq, am_uf_ne _ _ (by omega), am_so_ne _ _ (by omega), am_up_eq, am_uf_ne _ _ (by omega), am_so_ne _ _ (by omega), am_up_eq, am_uf_ne _ _ (by omega), am_so_ne _ _ (by omega), am_up_eq, am_uf_ne _ _ (by omega), am_so_ne _ _ (by omega), am_up_eq, am_uf_ne _ _ (by omega), am_so_ne _ _ (by omega), am_up_eq, am_uf_ne _ _ (by omega), am_so_ne _ _ (by omega), am_up_eq, am_uf_ne _ _ (by omega), am_so_ne _ _ (by omega), am_up_eq, am_uf_ne _ _ (by omega), am_so_ne _ _ (by omega), am_up_eq, am_uf_ne _ _ (by omega), am_so_ne _ _ (by omega), am_up_eq, am_uf_eq]
theorem iPStacks_2 (P : am_P) (o : Nat) : iPStacks P o o 2 = o + 2 := by
  unfold iPStacks
  rw [am_up_eq, am_uf_ne _ _ (by omega), am_so_ne _ _ (by omega), am_up_eq, am_uf_ne _ _ (by omega), am_so_ne _ _ (by omega), am_up_eq, am_uf_ne _ _ (by omega), am_so_ne _ _ (by omega), am_up_eq, am_uf_ne _ _ (by omega), am_so_ne _ _ (by omega), am_up_eq, am_uf_ne _ _ (by omega), am_so_ne _ _ (by omega), am_up_eq, am_uf_ne _ _ (by omega), am_so_ne _ _ (by omega), am_up_eq, am_uf_ne _ _ (by omega), am_so_ne _ _ (by omega), am_up_eq, am_uf_ne _ _ (by omega), am_so_ne _ _ (by omega), am_up_eq, am_uf_ne _ _ (by omega), am_so_ne _ _ (by omega), am_up_eq, am_uf_eq]
theorem iPStacks_3 (P : am_P) (o : Nat) : iPStacks P o o 3 = o + 3 := by
  unfold iPStacks
  rw [am_up_eq, am_uf_ne _ _ (by omega), am_so_ne _ _ (by omega), am_up_eq, am_uf_ne _ _ (by omega), am_so_ne _ _ (by omega), am_up_eq, am_uf_ne _ _ (by omega), am_so_ne _ _ (by omega), am_up_eq, am_uf_ne _ _ (by omega), am_so_ne _ _ (by omega), am_up_eq, am_uf_ne _ _ (by omega), am_so_ne _ _ (by omega), am_up_eq, am_uf_ne _ _ (by omega), am_so_ne _ _ (by omega), am_up_eq, am_uf_ne _ _ (by omega), am_so_ne _ _ (by omega), am_up_eq, am_uf_ne _ _ (by omega), am_so_ne _ _ (by omega), am_up_eq, am_uf_eq]
theorem iPStacks_5 (P : am_P) (o : Nat) : iPStacks P o o 5 = o + 4 := by
  unfold iPStacks
  rw [am_up_eq, am_uf_ne _ _ (by omega), am_so_ne _ _ (by omega), am_up_eq, am_uf_ne _ _ (by omega), am_so_ne _ _ (by omega), am_up_eq, am_uf_ne _ _ (by omega), am_so_ne _ _ (by omega), am_up_eq, am_uf_ne _ _ (by omega), am_so_ne _ _ (by omega), am_up_eq, am_uf_ne _ _ (by omega), am_so_ne _ _ (by omega), am_up_eq, am_uf_ne _ _ (by omega), am_so_ne _ _ (by omega), am_up_eq, am_uf_ne _ _ (by omega), am_so_ne _ _ (by omega), am_up_eq, am_uf_eq]
theorem iPStacks_6 (P : am_P) (o : Nat) : iPStacks P o o 6 = o + 5 := by
  unfold iPStacks
  rw [am_up_eq, am_uf_ne _ _ (by omega), am_so_ne _ _ (by omega), am_up_eq, am_uf_ne _ _ (by omega), am_so_ne _ _ (by omega), am_up_eq, am_uf_ne _ _ (by omega), am_so_ne _ _ (by omega), am_up_eq, am_uf_ne _ _ (by omega), am_so_ne _ _ (by omega), am_up_eq, am_uf_ne _ _ (by omega), am_so_ne _ _ (by omega), am_up_eq, am_uf_ne _ _ (by omega), am_so_ne _ _ (by omega), am_up_eq, am_uf_eq]
theorem iPStacks_7 (P : am_P) (o : Nat) : iPStacks P o o 7 = o + 6 := by
  unfold iPStacks
  rw [am_up_eq, am_uf_ne _ _ (by omega), am_so_ne _ _ (by omega), am_up_eq, am_uf_ne _ _ (by omega), am_so_ne _ _ (by omega), am_up_eq, am_uf_ne _ _ (by omega), am_so_ne _ _ (by omega), am_up_eq, am_uf_ne _ _ (by omega), am_so_ne _ _ (by omega), am_up_eq, am_uf_ne _ _ (by omega), am_so_ne _ _ (by omega), am_up_eq, am_uf_eq]
theorem iPStacks_8 (P : am_P) (o : Nat) : iPStacks P o o 8 = o + 7 := by
  unfold iPStacks
  rw [am_up_eq, am_uf_ne _ _ (by omega), am_so_ne _ _ (by omega), am_up_eq, am_uf_ne _ _ (by omega), am_so_ne _ _ (by omega), am_up_eq, am_uf_ne _ _ (by omega), am_so_ne _ _ (by omega), am_up_eq, am_uf_ne _ _ (by omega), am_so_ne _ _ (by omega), am_up_eq, am_uf_eq]
theorem iPStacks_9 (P : am_P) (o : Nat) : iPStacks P o o 9 = o + 8 := by
  unfold iPStacks
  rw [am_up_eq, am_uf_ne _ _ (by omega), am_so_ne _ _ (by omega), am_up_eq, am_uf_ne _ _ (by omega), am_so_ne _ _ (by omega), am_up_eq, am_uf_ne _ _ (by omega), am_so_ne _ _ (by omega), am_up_eq, am_uf_eq]
theorem iPStacks_10 (P : am_P) (o : Nat) : iPStacks P o o 10 = o + 9 := by
  unfold iPStacks
  rw [am_up_eq, am_uf_ne _ _ (by omega), am_so_ne _ _ (by omega), am_up_eq, am_uf_ne _ _ (by omega), am_so_ne _ _ (by omega), am_up_eq, am_uf_eq]
theorem iPStacks_11 (P : am_P) (o : Nat) : iPStacks P o o 11 = o + 10 := by
  unfold iPStacks
  rw [am_up_eq, am_uf_ne _ _ (by omega), am_so_ne _ _ (by omega), am_up_eq, am_uf_eq]
theorem iPStacks_12 (P : am_P) (o : Nat) : iPStacks P o o 12 = o + 11 := by
  unfold iPStacks
  rw [am_up_eq, am_uf_eq]
def iPReading (P : am_P) (o : Nat) : am_P := am_up (am_so (P) (o + 1) (fun _ => 0)) o 2 (o + 1)
def iHReading (H : am_H) (o : Nat) : am_H := am_so (am_up H o 0 (-1)) (o + 1) (fun _ => 0)
theorem iPReading_o (P : am_P) (o : Nat) {x : Nat} (h : x < o) : iPReading P o x = P x := by
  unfold iPReading
  rw [am_up_ne (by omega), am_so_ne _ _ (by omega)]
theorem iHReading_o (H : am_H) (o : Nat) {x : Nat} (h : x < o) : iHReading H o x = H x := by
  unfold iHReading
  rw [am_so_ne _ _ (by omega), am_up_ne (by omega)]
theorem iPReading_2 (P : am_P) (o : Nat) : iPReading P o o 2 = o + 1 := by
  unfold iPReading
  rw [am_up_eq, am_uf_eq]
def iPCatalogue (P : am_P) (o : Nat) : am_P := am_up (am_so (am_up (am_so (am_up (am_so (am_up (am_so (P) (o + 1) (fun _ => 0)) o 1 (o + 1)) (o + 2) (fun _ => 0)) o 2 (o + 2)) (o + 3) (fun _ => 0)) o 3 (o + 3)) (o + 4) (fun _ => 0)) o 4 (o + 4)
def iHCatalogue (H : am_H) (o : Nat) : am_H := am_so (am_so (am_so (am_so (am_so (am_so (H) (o + 1) (fun _ => 0)) (o + 2) (fun _ => 0)) (o + 3) (fun _ => 0)) (o + 4) (fun _ => 0)) (o + 1) (fillF (fun _ => 0) 0 200 (-1))) (o + 3) (fillF (fun _ => 0) 0 16 (-1))
theorem iPCatalogue_o (P : am_P) (o : Nat) {x : Nat} (h : x < o) : iPCatalogue P o x = P x := by
  unfold iPCatalogue
  rw [am_up_ne (by omega), am_so_ne _ _ (by omega), am_up_ne (by omega), am_so_ne _ _ (by omega), am_up_ne (by omega), am_so_ne _ _ (by omega), am_up_ne (by omega), am_so_ne _ _ (by omega)]
theorem iHCatalogue_o (H : am_H) (o : Nat) {x : Nat} (h : x < o) : iHCatalogue H o x = H x := by
  unfold iHCatalogue
  rw [am_so_ne _ _ (by omega), am_so_ne _ _ (by omega), am_so_ne _ _ (by omega), am_so_ne _ _ (by omega), am_so_ne _ _ (by omega), am_so_ne _ _ (by omega)]
theorem iPCatalogue_1 (P : am_P) (o : Nat) : iPCatalogue P o o 1 = o + 1 := by
  unfold iPCatalogue
  rw [am_up_eq, am_uf_ne _ _ (by omega), am_so_ne _ _ (by omega), am_up_eq, am_uf_ne _ _ (by omega), am_so_ne _ _ (by omega), am_up_eq, am_uf_ne _ _ (by omega), am_so_ne _ _ (by omega), am_up_eq, am_uf_eq]
theorem iPCatalogue_2 (P : am_P) (o : Nat) : iPCatalogue P o o 2 = o + 2 := by
  unfold iPCatalogue
  rw [am_up_eq, am_uf_ne _ _ (by omega), am_so_ne _ _ (by omega), am_up_eq, am_uf_ne _ _ (by omega), am_so_ne _ _ (by omega), am_up_eq, am_uf_eq]
theorem iPCatalogue_3 (P : am_P) (o : Nat) : iPCatalogue P o o 3 = o + 3 := by
  unfold iPCatalogue
  rw [am_up_eq, am_uf_ne _ _ (by omega), am_so_ne _ _ (by omega), am_up_eq, am_uf_eq]
theorem iPCatalogue_4 (P : am_P) (o : Nat) : iPCatalogue P o o 4 = o + 4 := by
  unfold iPCatalogue
  rw [am_up_eq, am_uf_eq]
def iPGrowths (P : am_P) (o : Nat) : am_P := am_up (am_so (am_up (am_so (am_up (am_so (am_up (am_so (am_up (am_so (P) (o + 1) (fun _ => 0)) o 1 (o + 1)) (o + 2) (fun _ => 0)) o 2 (o + 2)) (o + 3) (fun _ => 0)) o 3 (o + 3)) (o + 4) (fun _ => 0)) o 4 (o + 4)) (o + 5) (fun _ => 0)) o 5 (o + 5)
def iHGrowths (H : am_H) (o : Nat) : am_H := am_so (am_so (am_so (am_so (am_so (H) (o + 1) (fun _ => 0)) (o + 2) (fun _ => 0)) (o + 3) (fun _ => 0)) (o + 4) (fun _ => 0)) (o + 5) (fun _ => 0)
theorem iPGrowths_o (P : am_P) (o : Nat) {x : Nat} (h : x < o) : iPGrowths P o x = P x := by
  unfold iPGrowths
  rw [am_up_ne (by omega), am_so_ne _ _ (by omega), am_up_ne (by omega), am_so_ne _ _ (by omega), am_up_ne (by omega), am_so_ne _ _ (by omega), am_up_ne (by omega), am_so_ne _ _ (by omega), am_up_ne (by omega), am_so_ne _ _ (by omega)]
theorem iHGrowths_o (H : am_H) (o : Nat) {x : Nat} (h : x < o) : iHGrowths H o x = H x := by
  unfold iHGrowths
  rw [am_so_ne _ _ (by omega), am_so_ne _ _ (by omega), am_so_ne _ _ (by omega), am_so_ne _ _ (by omega), am_so_ne _ _ (by omega)]
theorem iPGrowths_1 (P : am_P) (o : Nat) : iPGrowths P o o 1 = o + 1 := by
  unfold iPGrowths
  rw [am_up_eq, am_uf_ne _ _ (by omega), am_so_ne _ _ (by omega), am_up_eq, am_uf_ne _ _ (by omega), am_so_ne _ _ (by omega), am_up_eq, am_uf_ne _ _ (by omega), am_so_ne _ _ (by omega), am_up_eq, am_uf_ne _ _ (by omega), am_so_ne _ _ (by omega), am_up_eq, am_uf_eq]
theorem iPGrowths_2 (P : am_P) (o : Nat) : iPGrowths P o o 2 = o + 2 := by
  unfold iPGrowths
  rw [am_up_eq, am_uf_ne _ _ (by omega), am_so_ne _ _ (by omega), am_up_eq, am_uf_ne _ _ (by omega), am_so_ne _ _ (by omega), am_up_eq, am_uf_ne _ _ (by omega), am_so_ne _ _ (by omega), am_up_eq, am_uf_eq]
theorem iPGrowths_3 (P : am_P) (o : Nat) : iPGrowths P o o 3 = o + 3 := by
  unfold iPGrowths
  rw [am_up_eq, am_uf_ne _ _ (by omega), am_so_ne _ _ (by omega), am_up_eq, am_uf_ne _ _ (by omega), am_so_ne _ _ (by omega), am_up_eq, am_uf_eq]
theorem iPGrowths_4 (P : am_P) (o : Nat) : iPGrowths P o o 4 = o + 4 := by
  unfold iPGrowths
  rw [am_up_eq, am_uf_ne _ _ (by omega), am_so_ne _ _ (by omega), am_up_eq, am_uf_eq]
theorem iPGrowths_5 (P : am_P) (o : Nat) : iPGrowths P o o 5 = o + 5 := by
  unfold iPGrowths
  rw [am_up_eq, am_uf_eq]
def iPSequence (P : am_P) (o : Nat) : am_P := am_up (am_so (am_up (am_so (P) (o + 1) (fun _ => 0)) o 2 (o + 1)) (o + 2) (fun _ => 0)) o 3 (o + 2)
def iHSequence (H : am_H) (o : Nat) : am_H := am_so (am_so (H) (o + 1) (fun _ => 0)) (o + 2) (fun _ => 0)
theorem iPSequence_o (P : am_P) (o : Nat) {x : Nat} (h : x < o) : iPSequence P o x = P x := by
  unfold iPSequence
  rw [am_up_ne (by omega), am_so_ne _ _ (by omega), am_up_ne (by omega), am_so_ne _ _ (by omega)]
theorem iHSequence_o (H : am_H) (o : Nat) {x : Nat} (h : x < o) : iHSequence H o x = H x := by
  unfold iHSequence
  rw [am_so_ne _ _ (by omega), am_so_ne _ _ (by omega)]
theorem iPSequence_2 (P : am_P) (o : Nat) : iPSequence P o o 2 = o + 1 := by
  unfold iPSequence
  rw [am_up_eq, am_uf_ne _ _ (by omega), am_so_ne _ _ (by omega), am_up_eq, am_uf_eq]
theorem iPSequence_3 (P : am_P) (o : Nat) : iPSequence P o o 3 = o + 2 := by
  unfold iPSequence
  rw [am_up_eq, am_uf_eq]
def iPShifter (P : am_P) (o : Nat) : am_P := am_up (am_so (am_up (am_so (am_up (am_so (am_up (am_so (am_up (am_so (am_up (am_so (am_up (am_so (am_up (am_so (am_up (am_so (P) (o + 1) (fun _ => 0)) o 1 (o + 1)) (o + 2) (fun _ => 0)) o 2 (o + 2)) (o + 3) (fun _ => 0)) o 3 (o + 3)) (o + 4) (fun _ => 0)) o 4 (o + 4)) (o + 5) (fun _ => 0)) o 5 (o + 5)) (o + 6) (fun _ => 0)) o 6 (o + 6)) (o + 7) (fun _ => 0)) o 7 (o + 7)) (o + 8) (fun _ => 0)) o 13 (o + 8)) (o + 9) (fun _ => 0)) o 14 (o + 9)
def iHShifter (H : am_H) (o : Nat) : am_H := am_so (am_so (am_so (am_so (am_so (am_so (am_so (am_so (am_so (H) (o + 1) (fun _ => 0)) (o + 2) (fun _ => 0)) (o + 3) (fun _ => 0)) (o + 4) (fun _ => 0)) (o + 5) (fun _ => 0)) (o + 6) (fun _ => 0)) (o + 7) (fun _ => 0)) (o + 8) (fun _ => 0)) (o + 9) (fun _ => 0)
theorem iPShifter_o (P : am_P) (o : Nat) {x : Nat} (h : x < o) : iPShifter P o x = P x := by
  unfold iPShifter
  rw [am_up_ne (by omega), am_so_ne _ _ (by omega), am_up_ne (by omega), am_so_ne _ _ (by omega), am_up_ne (by omega), am_so_ne _ _ (by omega), am_up_ne (by omega), am_so_ne _ _ (by omega), am_up_ne (by omega), am_so_ne _ _ (by omega), am_up_ne (by omega), am_so_ne _ _ (by omega), am_up_ne (by omega), am_so_ne _ _ (by omega), am_up_ne (by omega), am_so_ne _ _ (by omega), am_up_ne (by omega), am_so_ne _ _ (by omega)]
theorem iHShifter_o (H : am_H) (o : Nat) {x : Nat} (h : x < o) : iHShifter H o x = H x := by
  unfold iHShifter
  rw [am_so_ne _ _ (by omega), am_so_ne _ _ (by omega), am_so_ne _ _ (by omega), am_so_ne _ _ (by omega), am_so_ne _ _ (by omega), am_so_ne _ _ (by omega), am_so_ne _ _ (by omega), am_so_ne _ _ (by omega), am_so_ne _ _ (by omega)]
theorem iPShifter_1 (P : am_P) (o : Nat) : iPShifter P o o 1 = o + 1 := by
  unfold iPShifter
  rw [am_up_eq, am_uf_ne _ _ (by omega), am_so_ne _ _ (by omega), am_up_eq, am_uf_ne _ _ (by omega), am_so_ne _ _ (by omega), am_up_eq, am_uf_ne _ _ (by omega), am_so_ne _ _ (by omega), am_up_eq, am_uf_ne _ _ (by omega), am_so_ne _ _ (by omega), am_up_eq, am_uf_ne _ _ (by omega), am_so_ne _ _ (by omega), am_up_eq, am_uf_ne _ _ (by omega), am_so_ne _ _ (by omega), am_up_eq, am_uf_ne _ _ (by omega), am_so_ne _ _ (by omega), am_up_eq, am_uf_ne _ _ (by omega), am_so_ne _ _ (by omega), am_up_eq, am_uf_eq]
theorem iPShifter_2 (P : am_P) (o : Nat) : iPShifter P o o 2 = o + 2 := by
  unfold iPShifter
  rw [am_up_eq, am_uf_ne _ _ (by omega), am_so_ne _ _ (by omega), am_up_eq, am_uf_ne _ _ (by omega), am_so_ne _ _ (by omega), am_up_eq, am_uf_ne _ _ (by omega), am_so_ne _ _ (by omega), am_up_eq, am_uf_ne _ _ (by omega), am_so_ne _ _ (by omega), am_up_eq, am_uf_ne _ _ (by omega), am_so_ne _ _ (by omega), am_up_eq, am_uf_ne _ _ (by omega), am_so_ne _ _ (by omega), am_up_eq, am_uf_ne _ _ (by omega), am_so_ne _ _ (by omega), am_up_eq, am_uf_eq]
theorem iPShifter_3 (P : am_P) (o : Nat) : iPShifter P o o 3 = o + 3 := by
  unfold iPShifter
  rw [am_up_eq, am_uf_ne _ _ (by omega), am_so_ne _ _ (by omega), am_up_eq, am_uf_ne _ _ (by omega), am_so_ne _ _ (by omega), am_up_eq, am_uf_ne _ _ (by omega), am_so_ne _ _ (by omega), am_up_eq, am_uf_ne _ _ (by omega), am_so_ne _ _ (by omega), am_up_eq, am_uf_ne _ _ (by omega), am_so_ne _ _ (by omega), am_up_eq, am_uf_ne _ _ (by omega), am_so_ne _ _ (by omega), am_up_eq, am_uf_eq]
theorem iPShifter_4 (P : am_P) (o : Nat) : iPShifter P o o 4 = o + 4 := by
  unfold iPShifter
  rw [am_up_eq, am_uf_ne _ _ (by omega), am_so_ne _ _ (by omega), am_up_eq, am_uf_ne _ _ (by omega), am_so_ne _ _ (by omega), am_up_eq, am_uf_ne _ _ (by omega), am_so_ne _ _ (by omega), am_up_eq, am_uf_ne _ _ (by omega), am_so_ne _ _ (by omega), am_up_eq, am_uf_ne _ _ (by omega), am_so_ne _ _ (by omega), am_up_eq, am_uf_eq]
theorem iPShifter_5 (P : am_P) (o : Nat) : iPShifter P o o 5 = o + 5 := by
  unfold iPShifter
  rw [am_up_eq, am_uf_ne _ _ (by omega), am_so_ne _ _ (by omega), am_up_eq, am_uf_ne _ _ (by omega), am_so_ne _ _ (by omega), am_up_eq, am_uf_ne _ _ (by omega), am_so_ne _ _ (by omega), am_up_eq, am_uf_ne _ _ (by omega), am_so_ne _ _ (by omega), am_up_eq, am_uf_eq]
theorem iPShifter_6 (P : am_P) (o : Nat) : iPShifter P o o 6 = o + 6 := by
  unfold iPShifter
  rw [am_up_eq, am_uf_ne _ _ (by omega), am_so_ne _ _ (by omega), am_up_eq, am_uf_ne _ _ (by omega), am_so_ne _ _ (by omega), am_up_eq, am_uf_ne _ _ (by omega), am_so_ne _ _ (by omega), am_up_eq, am_uf_eq]
theorem iPShifter_7 (P : am_P) (o : Nat) : iPShifter P o o 7 = o + 7 := by
  unfold iPShifter
  rw [am_up_eq, am_uf_ne _ _ (by omega), am_so_ne _ _ (by omega), am_up_eq, am_uf_ne _ _ (by omega), am_so_ne _ _ (by omega), am_up_eq, am_uf_eq]
theorem iPShifter_13 (P : am_P) (o : Nat) : iPShifter P o o 13 = o + 8 := by
  unfold iPShifter
  rw [am_up_eq, am_uf_ne _ _ (by omega), am_so_ne _ _ (by omega), am_up_eq, am_uf_eq]
theorem iPShifter_14 (P : am_P) (o : Nat) : iPShifter P o o 14 = o + 9 := by
  unfold iPShifter
  rw [am_up_eq, am_uf_eq]
theorem fill_k {a : Int → Int} {lo n v k : Int} (h0 : lo ≤ k) (h1 : k < lo + n) : fillF a lo n v k = v := if_pos ⟨h0, h1⟩
def iPS (P : am_P) (b : Nat) : am_P := am_up (iPGrowths (am_so (am_up (iPCatalogue (am_so (am_up (iPReading (am_so (am_up (iPStacks (am_so (am_up (iPMarks (am_so (P) (b + 1) (fun _ => 0)) (b + 1)) b 0 (b + 1)) (b + 4) (fun _ => 0)) (b + 4)) b 1 (b + 4)) (b + 16) (fun _ => 0)) (b + 16)) b 2 (b + 16)) (b + 18) (fun _ => 0)) (b + 18)) b 3 (b + 18)) (b + 23) (fun _ => 0)) (b + 23)) b 4 (b + 23)
def iHS (H : am_H) (b : Nat) : am_H := iHGrowths (am_so (iHCatalogue (am_so (iHReading (am_so (iHStacks (am_so (iHMarks (am_so (H) (b + 1) (fun _ => 0)) (b + 1)) (b + 4) (fun _ => 0)) (b + 4)) (b + 16) (fun _ => 0)) (b + 16)) (b + 18) (fun _ => 0)) (b + 18)) (b + 23) (fun _ => 0)) (b + 23)
theorem iPS_o (P : am_P) (b : Nat) {x : Nat} (h : x < b) : iPS P b x = P x := by
  unfold iPS
  rw [am_up_ne (by omega), iPGrowths_o _ _ (by omega), am_so_ne _ _ (by omega), am_up_ne (by omega), iPCatalogue_o _ _ (by omega), am_so_ne _ _ (by omega), am_up_ne (by omega), iPReading_o _ _ (by omega), am_so_ne _ _ (by omega), am_up_ne (by omega), iPStacks_o _ _ (by omega), am_so_ne _ _ (by omega), am_up_ne (by omega), iPMarks_o _ _ (by omega), am_so_ne _ _ (by omega)]
theorem iHS_o (H : am_H) (b : Nat) {x : Nat} (h : x ≤ b) : iHS H b x = H x := by
  unfold iHS
  rw [iHGrowths_o _ _ (by omega), am_so_ne _ _ (by omega), iHCatalogue_o _ _ (by omega), am_so_ne _ _ (by omega), iHReading_o _ _ (by omega), am_so_ne _ _ (by omega), iHStacks_o _ _ (by omega), am_so_ne _ _ (by omega), iHMarks_o _ _ (by omega), am_so_ne _ _ (by omega)]
theorem iPS_b (P : am_P) (b : Nat) : PB (iPS P b) b := by
  have p0 : iPS P b (b + 0) 0 = b + 1 := by
    show iPS P b b 0 = b + 1
    unfold iPS
    rw [am_up_eq, am_uf_ne _ _ (by omega), iPGrowths_o _ _ (by omega), am_so_ne _ _ (by omega), am_up_eq, am_uf_ne _ _ (by omega), iPCatalogue_o _ _ (by omega), am_so_ne _ _ (by omega), am_up_eq, am_uf_ne _ _ (by omega), iPReading_o _ _ (by omega), am_so_ne _ _ (by omega), am_up_eq, am_uf_ne _ _ (by omega), iPStacks_o _ _ (by omega), am_so_ne _ _ (by omega), am_up_eq, am_uf_eq]
  have p1 : iPS P b (b + 0) 1 = b + 4 := by
    show iPS P b b 1 = b + 4
    unfold iPS
    rw [am_up_eq, am_uf_ne _ _ (by omega), iPGrowths_o _ _ (by omega), am_so_ne _ _ (by omega), am_up_eq, am_uf_ne _ _ (by omega), iPCatalogue_o _ _ (by omega), am_so_ne _ _ (by omega), am_up_eq, am_uf_ne _ _ (by omega), iPReading_o _ _ (by omega), am_so_ne _ _ (by omega), am_up_eq, am_uf_eq]
  have p2 : iPS P b (b + 0) 2 = b + 16 := by
    show iPS P b b 2 = b + 16
    unfold iPS
    rw [am_up_eq, am_uf_ne _ _ (by omega), iPGrowths_o _ _ (by omega), am_so_ne _ _ (by omega), am_up_eq, am_uf_ne _ _ (by omega), iPCatalogue_o _ _ (by omega), am_so_ne _ _ (by omega), am_up_eq, am_uf_eq]
  have p3 : iPS P b (b + 0) 3 = b + 18 := by
    show iPS P b b 3 = b + 18
    unfold iPS
    rw [am_up_eq, am_uf_ne _ _ (by omega), iPGrowths_o _ _ (by omega), am_so_ne _ _ (by omega), am_up_eq, am_uf_eq]
  have p4 : iPS P b (b + 0) 4 = b + 23 := by
    show iPS P b b 4 = b + 23
    unfold iPS
    rw [am_up_eq, am_uf_eq]
  have p5 : iPS P b (b + 1) 1 = b + 2 := by
    unfold iPS
    rw [am_up_ne (by omega), iPGrowths_o _ _ (by omega), am_so_ne _ _ (by omega), am_up_ne (by omega), iPCatalogue_o _ _ (by omega), am_so_ne _ _ (by omega), am_up_ne (by omega), iPReading_o _ _ (by omega), am_so_ne _ _ (by omega), am_up_ne (by omega), iPStacks_o _ _ (by omega), am_so_ne _ _ (by omega), am_up_ne (by omega), iPMarks_1]
  have p6 : iPS P b (b + 1) 2 = b + 3 := by
    unfold iPS
    rw [am_up_ne (by omega), iPGrowths_o _ _ (by omega), am_so_ne _ _ (by omega), am_up_ne (by omega), iPCatalogue_o _ _ (by omega), am_so_ne _ _ (by omega), am_up_ne (by omega), iPReading_o _ _ (by omega), am_so_ne _ _ (by omega), am_up_ne (by omega), iPStacks_o _ _ (by omega), am_so_ne _ _ (by omega), am_up_ne (by omega), iPMarks_2]
  have p7 : iPS P b (b + 4) 1 = b + 5 := by
    unfold iPS
    rw [am_up_ne (by omega), iPGrowths_o _ _ (by omega), am_so_ne _ _ (by omega), am_up_ne (by omega), iPCatalogue_o _ _ (by omega), am_so_ne _ _ (by omega), am_up_ne (by omega), iPReading_o _ _ (by omega), am_so_ne _ _ (by omega), am_up_ne (by omega), iPStacks_1]
  have p8 : iPS P b (b + 4) 2 = b + 6 := by
    unfold iPS
    rw [am_up_ne (by omega), iPGrowths_o _ _ (by omega), am_so_ne _ _ (by omega), am_up_ne (by omega), iPCatalogue_o _ _ (by omega), am_so_ne _ _ (by omega), am_up_ne (by omega), iPReading_o _ _ (by omega), am_so_ne _ _ (by omega), am_up_ne (by omega), iPStacks_2]
  have p9 : iPS P b (b + 4) 3 = b + 7 := by
    unfold iPS
    rw [am_up_ne (by omega), iPGrowths_o _ _ (by omega), am_so_ne _ _ (by omega), am_up_ne (by omega), iPCatalogue_o _ _ (by omega), am_so_ne _ _ (by omega), am_up_ne (by omega), iPReading_o _ _ (by omega), am_so_ne _ _ (by omega), am_up_ne (by omega), iPStacks_3]
  have p10 : iPS P b (b + 4) 5 = b + 8 := by
    unfold iPS
    rw [am_up_ne (by omega), iPGrowths_o _ _ (by omega), am_so_ne _ _ (by omega), am_up_ne (by omega), iPCatalogue_o _ _ (by omega), am_so_ne _ _ (by omega), am_up_ne (by omega), iPReading_o _ _ (by omega), am_so_ne _ _ (by omega), am_up_ne (by omega), iPStacks_5]
  have p11 : iPS P b (b + 4) 6 = b + 9 := by
    unfold iPS
    rw [am_up_ne (by omega), iPGrowths_o _ _ (by omega), am_so_ne _ _ (by omega), am_up_ne (by omega), iPCatalogue_o _ _ (by omega), am_so_ne _ _ (by omega), am_up_ne (by omega), iPReading_o _ _ (by omega), am_so_ne _ _ (by omega), am_up_ne (by omega), iPStacks_6]
  have p12 : iPS P b (b + 4) 7 = b + 10 := by
    unfold iPS
    rw [am_up_ne (by omega), iPGrowths_o _ _ (by omega), am_so_ne _ _ (by omega), am_up_ne (by omega), iPCatalogue_o _ _ (by omega), am_so_ne _ _ (by omega), am_up_ne (by omega), iPReading_o _ _ (by omega), am_so_ne _ _ (by omega), am_up_ne (by omega), iPStacks_7]
  have p13 : iPS P b (b + 4) 8 = b + 11 := by
    unfold iPS
    rw [am_up_ne (by omega), iPGrowths_o _ _ (by omega), am_so_ne _ _ (by omega), am_up_ne (by omega), iPCatalogue_o _ _ (by omega), am_so_ne _ _ (by omega), am_up_ne (by omega), iPReading_o _ _ (by omega), am_so_ne _ _ (by omega), am_up_ne (by omega), iPStacks_8]
  have p14 : iPS P b (b + 4) 9 = b + 12 := by
    unfold iPS
    rw [am_up_ne (by omega), iPGrowths_o _ _ (by omega), am_so_ne _ _ (by omega), am_up_ne (by omega), iPCatalogue_o _ _ (by omega), am_so_ne _ _ (by omega), am_up_ne (by omega), iPReading_o _ _ (by omega), am_so_ne _ _ (by omega), am_up_ne (by omega), iPStacks_9]
  have p15 : iPS P b (b + 4) 10 = b + 13 := by
    unfold iPS
    rw [am_up_ne (by omega), iPGrowths_o _ _ (by omega), am_so_ne _ _ (by omega), am_up_ne (by omega), iPCatalogue_o _ _ (by omega), am_so_ne _ _ (by omega), am_up_ne (by omega), iPReading_o _ _ (by omega), am_so_ne _ _ (by omega), am_up_ne (by omega), iPStacks_10]
  have p16 : iPS P b (b + 4) 11 = b + 14 := by
    unfold iPS
    rw [am_up_ne (by omega), iPGrowths_o _ _ (by omega), am_so_ne _ _ (by omega), am_up_ne (by omega), iPCatalogue_o _ _ (by omega), am_so_ne _ _ (by omega), am_up_ne (by omega), iPReading_o _ _ (by omega), am_so_ne _ _ (by omega), am_up_ne (by omega), iPStacks_11]
  have p17 : iPS P b (b + 4) 12 = b + 15 := by
    unfold iPS
    rw [am_up_ne (by omega), iPGrowths_o _ _ (by omega), am_so_ne _ _ (by omega), am_up_ne (by omega), iPCatalogue_o _ _ (by omega), am_so_ne _ _ (by omega), am_up_ne (by omega), iPReading_o _ _ (by omega), am_so_ne _ _ (by omega), am_up_ne (by omega), iPStacks_12]
  have p18 : iPS P b (b + 16) 2 = b + 17 := by
    unfold iPS
    rw [am_up_ne (by omega), iPGrowths_o _ _ (by omega), am_so_ne _ _ (by omega), am_up_ne (by omega), iPCatalogue_o _ _ (by omega), am_so_ne _ _ (by omega), am_up_ne (by omega), iPReading_2]
  have p19 : iPS P b (b + 18) 1 = b + 19 := by
    unfold iPS
    rw [am_up_ne (by omega), iPGrowths_o _ _ (by omega), am_so_ne _ _ (by omega), am_up_ne (by omega), iPCatalogue_1]
  have p20 : iPS P b (b + 18) 2 = b + 20 := by
    unfold iPS
    rw [am_up_ne (by omega), iPGrowths_o _ _ (by omega), am_so_ne _ _ (by omega), am_up_ne (by omega), iPCatalogue_2]
  have p21 : iPS P b (b + 18) 3 = b + 21 := by
    unfold iPS
    rw [am_up_ne (by omega), iPGrowths_o _ _ (by omega), am_so_ne _ _ (by omega), am_up_ne (by omega), iPCatalogue_3]
  have p22 : iPS P b (b + 18) 4 = b + 22 := by
    unfold iPS
    rw [am_up_ne (by omega), iPGrowths_o _ _ (by omega), am_so_ne _ _ (by omega), am_up_ne (by omega), iPCatalogue_4]
  have p23 : iPS P b (b + 23) 1 = b + 24 := by
    unfold iPS
    rw [am_up_ne (by omega), iPGrowths_1]
  have p24 : iPS P b (b + 23) 2 = b + 25 := by
    unfold iPS
    rw [am_up_ne (by omega), iPGrowths_2]
  have p25 : iPS P b (b + 23) 3 = b + 26 := by
    unfold iPS
    rw [am_up_ne (by omega), iPGrowths_3]
  have p26 : iPS P b (b + 23) 4 = b + 27 := by
    unfold iPS
    rw [am_up_ne (by omega), iPGrowths_4]
  have p27 : iPS P b (b + 23) 5 = b + 28 := by
    unfold iPS
    rw [am_up_ne (by omega), iPGrowths_5]
  intro q hq
  simp only [PBt, List.mem_cons, List.not_mem_nil, or_false] at hq
  rcases hq with rfl | rfl | rfl | rfl | rfl | rfl | rfl | rfl | rfl | rfl | rfl | rfl | rfl | rfl | rfl | rfl | rfl | rfl | rfl | rfl | rfl | rfl | rfl | rfl | rfl | rfl | rfl | rfl
  · exact p0
  · exact p1
  · exact p2
  · exact p3
  · exact p4
  · exact p5
  · exact p6
  · exact p7
  · exact p8
  · exact p9
  · exact p10
  · exact p11
  · exact p12
  · exact p13
  · exact p14
  · exact p15
  · exact p16
  · exact p17
  · exact p18
  · exact p19
  · exact p20
  · exact p21
  · exact p22
  · exact p23
  · exact p24
  · exact p25
  · exact p26
  · exact p27
theorem r_Marks_init_11 {d N : Nat} {P : am_P} {H : am_H}   : am_R (d + 1) 156 [am_r 11] (12, P, H) none (14, iPMarks P 11, iHMarks H 11) := by
  refine am_en1 (d := d + 0) (ml := 1) (ls := [_]) cq_Marks_init rfl (Nat.le_of_ble_eq_true rfl) rfl ?_
  refine st_aload_n rfl rfl (by decide) ?_
  refine st_obj rfl (by decide) (Nat.le_of_ble_eq_true rfl) ?_
  refine st_aload_n rfl rfl (by decide) ?_
  refine st_sipush rfl ?_
  refine st_newarray rfl (by decide) (by decide) rfl ?_
  refine st_putR (kk := 1) rfl rfl rfl (by decide) rfl ?_
  refine st_aload_n rfl rfl (by decide) ?_
  refine st_sipush rfl ?_
  refine st_newarray rfl (by decide) (by decide) rfl ?_
  refine st_putR (kk := 2) rfl rfl rfl (by decide) rfl ?_
  refine st_ret rfl ?_
  exact ⟨rfl, rfl⟩
theorem r_Stacks_init_14 {d N : Nat} {P : am_P} {H : am_H}   : am_R (d + 1) 208 [am_r 14] (15, P, H) none (26, iPStacks P 14, iHStacks H 14) := by
  refine am_en1 (d := d + 0) (ml := 1) (ls := [_]) cq_Stacks_init rfl (Nat.le_of_ble_eq_true rfl) rfl ?_
  refine st_aload_n rfl rfl (by decide) ?_
  refine st_obj rfl (by decide) (Nat.le_of_ble_eq_true rfl) ?_
  refine st_aload_n rfl rfl (by decide) ?_
  refine st_bipush rfl ?_
  refine st_newarray rfl (by decide) (by decide) rfl ?_
  refine st_putR (kk := 1) rfl rfl rfl (by decide) rfl ?_
  refine st_aload_n rfl rfl (by decide) ?_
  refine st_bipush rfl ?_
  refine st_newarray rfl (by decide) (by decide) rfl ?_
  refine st_putR (kk := 2) rfl rfl rfl (by decide) rfl ?_
  refine st_aload_n rfl rfl (by decide) ?_
  refine st_sipush rfl ?_
  refine st_newarray rfl (by decide) (by decide) rfl ?_
  refine st_putR (kk := 3) rfl rfl rfl (by decide) rfl ?_
  refine st_aload_n rfl rfl (by decide) ?_
  refine st_sipush rfl ?_
  refine st_newarray rfl (by decide) (by decide) rfl ?_
  refine st_putR (kk := 5) rfl rfl rfl (by decide) rfl ?_
  refine st_aload_n rfl rfl (by decide) ?_
  refine st_sipush rfl ?_
  refine st_newarray rfl (by decide) (by decide) rfl ?_
  refine st_putR (kk := 6) rfl rfl rfl (by decide) rfl ?_
  refine st_aload_n rfl rfl (by decide) ?_
  refine st_sipush rfl ?_
  refine st_newarray rfl (by decide) (by decide) rfl ?_
  refine st_putR (kk := 7) rfl rfl rfl (by decide) rfl ?_
  refine st_aload_n rfl rfl (by decide) ?_
  refine st_sipush rfl ?_
  refine st_newarray rfl (by decide) (by decide) rfl ?_
  refine st_putR (kk := 8) rfl rfl rfl (by decide) rfl ?_
  refine st_aload_n rfl rfl (by decide) ?_
  refine st_sipush rfl ?_
  refine st_newarray rfl (by decide) (by decide) rfl ?_
  refine st_putR (kk := 9) rfl rfl rfl (by decide) rfl ?_
  refine st_aload_n rfl rfl (by decide) ?_
  refine st_sipush rfl ?_
  refine st_newarray rfl (by decide) (by decide) rfl ?_
  refine st_putR (kk := 10) rfl rfl rfl (by decide) rfl ?_
  refine st_aload_n rfl rfl (by decide) ?_
  refine st_sipush rfl ?_
  refine st_newarray rfl (by decide) (by decide) rfl ?_
  refine st_putR (kk := 11) rfl rfl rfl (by decide) rfl ?_
  refine st_aload_n rfl rfl (by decide) ?_
  refine st_sipush rfl ?_
  refine st_newarray rfl (by decide) (by decide) rfl ?_
  refine st_putR (kk := 12) rfl rfl rfl (by decide) rfl ?_
  refine st_ret rfl ?_
  exact ⟨rfl, rfl⟩
theorem r_Reading_init_26 {d N : Nat} {P : am_P} {H : am_H}   : am_R (d + 1) 182 [am_r 26] (27, P, H) none (28, iPReading P 26, iHReading H 26) := by
  refine am_en1 (d := d + 0) (ml := 1) (ls := [_]) cq_Reading_init rfl (Nat.le_of_ble_eq_true rfl) rfl ?_
  refine st_aload_n rfl rfl (by decide) ?_
  refine st_obj rfl (by decide) (Nat.le_of_ble_eq_true rfl) ?_
  refine st_aload_n rfl rfl (by decide) ?_
  refine st_iconst rfl ?_
  refine st_putI (kk := 0) rfl rfl rfl rfl ?_
  refine st_aload_n rfl rfl (by decide) ?_
  refine st_bipush rfl ?_
  refine st_newarray rfl (by decide) (by decide) rfl ?_
  refine st_putR (kk := 2) rfl rfl rfl (by decide) rfl ?_
  refine st_ret rfl ?_
  exact ⟨rfl, rfl⟩
theorem r_Catalogue_init_28 {d N : Nat} {P : am_P} {H : am_H}   : am_R (d + 1) 137 [am_r 28] (29, P, H) none (33, iPCatalogue P 28, iHCatalogue H 28) := by
  refine am_en1 (d := d + 0) (ml := 2) (ls := [_, _]) cq_Catalogue_init rfl (Nat.le_of_ble_eq_true rfl) rfl ?_
  refine st_aload_n rfl rfl (by decide) ?_
  refine st_obj rfl (by decide) (Nat.le_of_ble_eq_true rfl) ?_
  refine st_aload_n rfl rfl (by decide) ?_
  refine st_sipush rfl ?_
  refine st_newarray rfl (by decide) (by decide) rfl ?_
  refine st_putR (kk := 1) rfl rfl rfl (by decide) rfl ?_
  refine st_aload_n rfl rfl (by decide) ?_
  refine st_sipush rfl ?_
  refine st_newarray rfl (by decide) (by decide) rfl ?_
  refine st_putR (kk := 2) rfl rfl rfl (by decide) rfl ?_
  refine st_aload_n rfl rfl (by decide) ?_
  refine st_bipush rfl ?_
  refine st_newarray rfl (by decide) (by decide) rfl ?_
  refine st_putR (kk := 3) rfl rfl rfl (by decide) rfl ?_
  refine st_aload_n rfl rfl (by decide) ?_
  refine st_sipush rfl ?_
  refine st_newarray rfl (by decide) (by decide) rfl ?_
  refine st_putR (kk := 4) rfl rfl rfl (by decide) rfl ?_
  refine st_iconst rfl ?_
  refine st_istore_n (ls' := [_, _]) rfl (Nat.le_of_ble_eq_true rfl) rfl ?_
  have hz2 : ∀ j : Nat, j ≤ 16 → am_WP (am_R (d + 0)) cd_Catalogue_init (fun v' s' => v' = none ∧ s' = (33, iPCatalogue P 28, iHCatalogue H 28)) 32 [some (am_r 28), some (am_i (j : Int))] [] (33, iPCatalogue P 28, am_so (am_so (am_so (am_so (am_so (am_so H 29 (fun _ => 0)) 30 (fun _ => 0)) 31 (fun _ => 0)) 32 (fun _ => 0)) 29 (fillF (fun _ => 0) 0 200 (-1))) 31 (fillF (fun _ => 0) 0 (j : Int) (-1))) := by
    refine up_ind (n := 16) ?_ ?_
    · refine st_iload_n rfl rfl ?_
      refine st_bipush rfl ?_
      refine st_icmp_ge rfl (fun h34 => ?_) (fun h34 => (by exfalso; omega))
      refine st_ret rfl ?_
      exact ⟨rfl, rfl⟩
    · intro j hj ih
      refine st_iload_n rfl rfl ?_
      refine st_bipush rfl ?_
      refine st_icmp_ge rfl (fun h34 => (by exfalso; omega)) (fun h34 => ?_)
      refine st_aload_n rfl rfl (by decide) ?_
      refine st_getR (kk := 3) (p := 31) rfl rfl rfl (iPCatalogue_3 P 28) rfl ?_
      refine st_iload_n rfl rfl ?_
      refine st_iconst rfl ?_
      refine st_iastore rfl rfl (by omega) (by omega) ?_
      refine st_iinc (ls' := [_, _]) rfl rfl (by omega) rfl ?_
      refine st_goto rfl ?_
      rw [show am_up (am_so (am_so (am_so (am_so (am_so (am_so H 29 (fun _ => 0)) 30 (fun _ => 0)) 31 (fun _ => 0)) 32 (fun _ => 0)) 29 (fillF (fun _ => 0) 0 200 (-1))) 31 (fillF (fun _ => 0) 0 (j : Int) (-1))) 31 (j : Int) (-1) = am_so (am_so (am_so (am_so (am_so (am_so H 29 (fun _ => 0)) 30 (fun _ => 0)) 31 (fun _ => 0)) 32 (fun _ => 0)) 29 (fillF (fun _ => 0) 0 200 (-1))) 31 (fillF (fun _ => 0) 0 ((j + 1 : Nat) : Int) (-1)) by
        unfold am_up
        rw [am_so_so, am_so_at, ← fillF_s, show (0 : Int) + (j : Int) = (j : Int) by omega]]
      exact ih
  have hz1 : ∀ j : Nat, j ≤ 200 → am_WP (am_R (d + 0)) cd_Catalogue_init (fun v' s' => v' = none ∧ s' = (33, iPCatalogue P 28, iHCatalogue H 28)) 20 [some (am_r 28), some (am_i (j : Int))] [] (33, iPCatalogue P 28, am_so (am_so (am_so (am_so (am_so H 29 (fun _ => 0)) 30 (fun _ => 0)) 31 (fun _ => 0)) 32 (fun _ => 0)) 29 (fillF (fun _ => 0) 0 (j : Int) (-1))) := by
    refine up_ind (n := 200) ?_ ?_
    · refine st_iload_n rfl rfl ?_
      refine st_sipush rfl ?_
      refine st_icmp_ge rfl (fun h22 => ?_) (fun h22 => (by exfalso; omega))
      refine st_iconst rfl ?_
      refine st_istore_n (ls' := [_, _]) rfl (Nat.le_of_ble_eq_true rfl) rfl ?_
      have := hz2 0 (Nat.zero_le _)
      rw [show ((0 : Nat) : Int) = 0 from rfl, show am_so (am_so (am_so (am_so (am_so (am_so H 29 (fun _ => 0)) 30 (fun _ => 0)) 31 (fun _ => 0)) 32 (fun _ => 0)) 29 (fillF (fun _ => 0) 0 200 (-1))) 31 (fillF (fun _ => 0) 0 0 (-1)) = am_so (am_so (am_so (am_so (am_so H 29 (fun _ => 0)) 30 (fun _ => 0)) 31 (fun _ => 0)) 32 (fun _ => 0)) 29 (fillF (fun _ => 0) 0 200 (-1)) by rw [fillF_0]; exact am_so_self (am_so (am_so (am_so (am_so (am_so H 29 (fun _ => 0)) 30 (fun _ => 0)) 31 (fun _ => 0)) 32 (fun _ => 0)) 29 (fillF (fun _ => 0) 0 200 (-1))) 31] at this
      exact this
    · intro j hj ih
      refine st_iload_n rfl rfl ?_
      refine st_sipush rfl ?_
      refine st_icmp_ge rfl (fun h22 => (by exfalso; omega)) (fun h22 => ?_)
      refine st_aload_n rfl rfl (by decide) ?_
      refine st_getR (kk := 1) (p := 29) rfl rfl rfl (iPCatalogue_1 P 28) rfl ?_
      refine st_iload_n rfl rfl ?_
      refine st_iconst rfl ?_
      refine st_iastore rfl rfl (by omega) (by omega) ?_
      refine st_iinc (ls' := [_, _]) rfl rfl (by omega) rfl ?_
      refine st_goto rfl ?_
      rw [show am_up (am_so (am_so (am_so (am_so (am_so H 29 (fun _ => 0)) 30 (fun _ => 0)) 31 (fun _ => 0)) 32 (fun _ => 0)) 29 (fillF (fun _ => 0) 0 (j : Int) (-1))) 29 (j : Int) (-1) = am_so (am_so (am_so (am_so (am_so H 29 (fun _ => 0)) 30 (fun _ => 0)) 31 (fun _ => 0)) 32 (fun _ => 0)) 29 (fillF (fun _ => 0) 0 ((j + 1 : Nat) : Int) (-1)) by
        unfold am_up
        rw [am_so_so, am_so_at, ← fillF_s, show (0 : Int) + (j : Int) = (j : Int) by omega]]
      exact ih
  have := hz1 0 (Nat.zero_le _)
  rw [show ((0 : Nat) : Int) = 0 from rfl, show am_so (am_so (am_so (am_so (am_so H 29 (fun _ => 0)) 30 (fun _ => 0)) 31 (fun _ => 0)) 32 (fun _ => 0)) 29 (fillF (fun _ => 0) 0 0 (-1)) = am_so (am_so (am_so (am_so H 29 (fun _ => 0)) 30 (fun _ => 0)) 31 (fun _ => 0)) 32 (fun _ => 0) by rw [fillF_0]; exact am_so_self (am_so (am_so (am_so (am_so H 29 (fun _ => 0)) 30 (fun _ => 0)) 31 (fun _ => 0)) 32 (fun _ => 0)) 29] at this
  exact this
theorem r_Growths_init_33 {d N : Nat} {P : am_P} {H : am_H}   : am_R (d + 1) 150 [am_r 33] (34, P, H) none (39, iPGrowths P 33, iHGrowths H 33) := by
  refine am_en1 (d := d + 0) (ml := 1) (ls := [_]) cq_Growths_init rfl (Nat.le_of_ble_eq_true rfl) rfl ?_
  refine st_aload_n rfl rfl (by decide) ?_
  refine st_obj rfl (by decide) (Nat.le_of_ble_eq_true rfl) ?_
  refine st_aload_n rfl rfl (by decide) ?_
  refine st_bipush rfl ?_
  refine st_newarray rfl (by decide) (by decide) rfl ?_
  refine st_putR (kk := 1) rfl rfl rfl (by decide) rfl ?_
  refine st_aload_n rfl rfl (by decide) ?_
  refine st_bipush rfl ?_
  refine st_newarray rfl (by decide) (by decide) rfl ?_
  refine st_putR (kk := 2) rfl rfl rfl (by decide) rfl ?_
  refine st_aload_n rfl rfl (by decide) ?_
  refine st_bipush rfl ?_
  refine st_newarray rfl (by decide) (by decide) rfl ?_
  refine st_putR (kk := 3) rfl rfl rfl (by decide) rfl ?_
  refine st_aload_n rfl rfl (by decide) ?_
  refine st_bipush rfl ?_
  refine st_newarray rfl (by decide) (by decide) rfl ?_
  refine st_putR (kk := 4) rfl rfl rfl (by decide) rfl ?_
  refine st_aload_n rfl rfl (by decide) ?_
  refine st_sipush rfl ?_
  refine st_newarray rfl (by decide) (by decide) rfl ?_
  refine st_putR (kk := 5) rfl rfl rfl (by decide) rfl ?_
  refine st_ret rfl ?_
  exact ⟨rfl, rfl⟩
theorem r_State_init_10 {d N : Nat} {P : am_P} {H : am_H}   : am_R (d + 2) 228 [am_r 10] (11, P, H) none (39, iPS P 10, iHS H 10) := by
  refine am_en1 (d := d + 1) (ml := 1) (ls := [_]) cq_State_init rfl (Nat.le_of_ble_eq_true rfl) rfl ?_
  refine st_aload_n rfl rfl (by decide) ?_
  refine st_obj rfl (by decide) (Nat.le_of_ble_eq_true rfl) ?_
  refine st_aload_n rfl rfl (by decide) ?_
  refine st_new rfl rfl ?_
  refine st_dup rfl rfl ?_
  refine st_ci0 (w := [_, _]) rfl (by decide) (by decide) rfl (Nat.le_of_ble_eq_true rfl) (Nat.le_of_ble_eq_true rfl) rfl rfl (r_Marks_init_11 (N := 0)) ?_
  refine st_putR (kk := 0) rfl rfl rfl (by decide) rfl ?_
  refine st_aload_n rfl rfl (by decide) ?_
  refine st_new rfl rfl ?_
  refine st_dup rfl rfl ?_
  refine st_ci0 (w := [_, _]) rfl (by decide) (by decide) rfl (Nat.le_of_ble_eq_true rfl) (Nat.le_of_ble_eq_true rfl) rfl rfl (r_Stacks_init_14 (N := 0)) ?_
  refine st_putR (kk := 1) rfl rfl rfl (by decide) rfl ?_
  refine st_aload_n rfl rfl (by decide) ?_
  refine st_new rfl rfl ?_
  refine st_dup rfl rfl ?_
  refine st_ci0 (w := [_, _]) rfl (by decide) (by decide) rfl (Nat.le_of_ble_eq_true rfl) (Nat.le_of_ble_eq_true rfl) rfl rfl (r_Reading_init_26 (N := 0)) ?_
  refine st_putR (kk := 2) rfl rfl rfl (by decide) rfl ?_
  refine st_aload_n rfl rfl (by decide) ?_
  refine st_new rfl rfl ?_
  refine st_dup rfl rfl ?_
  refine st_ci0 (w := [_, _]) rfl (by decide) (by decide) rfl (Nat.le_of_ble_eq_true rfl) (Nat.le_of_ble_eq_true rfl) rfl rfl (r_Catalogue_init_28 (N := 0)) ?_
  refine st_putR (kk := 3) rfl rfl rfl (by decide) rfl ?_
  refine st_aload_n rfl rfl (by decide) ?_
  refine st_new rfl rfl ?_
  refine st_dup rfl rfl ?_
  refine st_ci0 (w := [_, _]) rfl (by decide) (by decide) rfl (Nat.le_of_ble_eq_true rfl) (Nat.le_of_ble_eq_true rfl) rfl rfl (r_Growths_init_33 (N := 0)) ?_
  refine st_putR (kk := 4) rfl rfl rfl (by decide) rfl ?_
  refine st_ret rfl ?_
  exact ⟨rfl, rfl⟩
theorem r_Marks_init_73 {d N : Nat} {P : am_P} {H : am_H}   : am_R (d + 1) 156 [am_r 73] (74, P, H) none (76, iPMarks P 73, iHMarks H 73) := by
  refine am_en1 (d := d + 0) (ml := 1) (ls := [_]) cq_Marks_init rfl (Nat.le_of_ble_eq_true rfl) rfl ?_
  refine st_aload_n rfl rfl (by decide) ?_
  refine st_obj rfl (by decide) (Nat.le_of_ble_eq_true rfl) ?_
  refine st_aload_n rfl rfl (by decide) ?_
  refine st_sipush rfl ?_
  refine st_newarray rfl (by decide) (by decide) rfl ?_
  refine st_putR (kk := 1) rfl rfl rfl (by decide) rfl ?_
  refine st_aload_n rfl rfl (by decide) ?_
  refine st_sipush rfl ?_
  refine st_newarray rfl (by decide) (by decide) rfl ?_
  refine st_putR (kk := 2) rfl rfl rfl (by decide) rfl ?_
  refine st_ret rfl ?_
  exact ⟨rfl, rfl⟩
theorem r_Stacks_init_76 {d N : Nat} {P : am_P} {H : am_H}   : am_R (d + 1) 208 [am_r 76] (77, P, H) none (88, iPStacks P 76, iHStacks H 76) := by
  refine am_en1 (d := d + 0) (ml := 1) (ls := [_]) cq_Stacks_init rfl (Nat.le_of_ble_eq_true rfl) rfl ?_
  refine st_aload_n rfl rfl (by decide) ?_
  refine st_obj rfl (by decide) (Nat.le_of_ble_eq_true rfl) ?_
  refine st_aload_n rfl rfl (by decide) ?_
  refine st_bipush rfl ?_
  refine st_newarray rfl (by decide) (by decide) rfl ?_
  refine st_putR (kk := 1) rfl rfl rfl (by decide) rfl ?_
  refine st_aload_n rfl rfl (by decide) ?_
  refine st_bipush rfl ?_
  refine st_newarray rfl (by decide) (by decide) rfl ?_
  refine st_putR (kk := 2) rfl rfl rfl (by decide) rfl ?_
  refine st_aload_n rfl rfl (by decide) ?_
  refine st_sipush rfl ?_
  refine st_newarray rfl (by decide) (by decide) rfl ?_
  refine st_putR (kk := 3) rfl rfl rfl (by decide) rfl ?_
  refine st_aload_n rfl rfl (by decide) ?_
  refine st_sipush rfl ?_
  refine st_newarray rfl (by decide) (by decide) rfl ?_
  refine st_putR (kk := 5) rfl rfl rfl (by decide) rfl ?_
  refine st_aload_n rfl rfl (by decide) ?_
  refine st_sipush rfl ?_
  refine st_newarray rfl (by decide) (by decide) rfl ?_
  refine st_putR (kk := 6) rfl rfl rfl (by decide) rfl ?_
  refine st_aload_n rfl rfl (by decide) ?_
  refine st_sipush rfl ?_
  refine st_newarray rfl (by decide) (by decide) rfl ?_
  refine st_putR (kk := 7) rfl rfl rfl (by decide) rfl ?_
  refine st_aload_n rfl rfl (by decide) ?_
  refine st_sipush rfl ?_
  refine st_newarray rfl (by decide) (by decide) rfl ?_
  refine st_putR (kk := 8) rfl rfl rfl (by decide) rfl ?_
  refine st_aload_n rfl rfl (by decide) ?_
  refine st_sipush rfl ?_
  refine st_newarray rfl (by decide) (by decide) rfl ?_
  refine st_putR (kk := 9) rfl rfl rfl (by decide) rfl ?_
  refine st_aload_n rfl rfl (by decide) ?_
  refine st_sipush rfl ?_
  refine st_newarray rfl (by decide) (by decide) rfl ?_
  refine st_putR (kk := 10) rfl rfl rfl (by decide) rfl ?_
  refine st_aload_n rfl rfl (by decide) ?_
  refine st_sipush rfl ?_
  refine st_newarray rfl (by decide) (by decide) rfl ?_
  refine st_putR (kk := 11) rfl rfl rfl (by decide) rfl ?_
  refine st_aload_n rfl rfl (by decide) ?_
  refine st_sipush rfl ?_
  refine st_newarray rfl (by decide) (by decide) rfl ?_
  refine st_putR (kk := 12) rfl rfl rfl (by decide) rfl ?_
  refine st_ret rfl ?_
  exact ⟨rfl, rfl⟩
theorem r_Reading_init_88 {d N : Nat} {P : am_P} {H : am_H}   : am_R (d + 1) 182 [am_r 88] (89, P, H) none (90, iPReading P 88, iHReading H 88) := by
  refine am_en1 (d := d + 0) (ml := 1) (ls := [_]) cq_Reading_init rfl (Nat.le_of_ble_eq_true rfl) rfl ?_
  refine st_aload_n rfl rfl (by decide) ?_
  refine st_obj rfl (by decide) (Nat.le_of_ble_eq_true rfl) ?_
  refine st_aload_n rfl rfl (by decide) ?_
  refine st_iconst rfl ?_
  refine st_putI (kk := 0) rfl rfl rfl rfl ?_
  refine st_aload_n rfl rfl (by decide) ?_
  refine st_bipush rfl ?_
  refine st_newarray rfl (by decide) (by decide) rfl ?_
  refine st_putR (kk := 2) rfl rfl rfl (by decide) rfl ?_
  refine st_ret rfl ?_
  exact ⟨rfl, rfl⟩
theorem r_Catalogue_init_90 {d N : Nat} {P : am_P} {H : am_H}   : am_R (d + 1) 137 [am_r 90] (91, P, H) none (95, iPCatalogue P 90, iHCatalogue H 90) := by
  refine am_en1 (d := d + 0) (ml := 2) (ls := [_, _]) cq_Catalogue_init rfl (Nat.le_of_ble_eq_true rfl) rfl ?_
  refine st_aload_n rfl rfl (by decide) ?_
  refine st_obj rfl (by decide) (Nat.le_of_ble_eq_true rfl) ?_
  refine st_aload_n rfl rfl (by decide) ?_
  refine st_sipush rfl ?_
  refine st_newarray rfl (by decide) (by decide) rfl ?_
  refine st_putR (kk := 1) rfl rfl rfl (by decide) rfl ?_
  refine st_aload_n rfl rfl (by decide) ?_
  refine st_sipush rfl ?_
  refine st_newarray rfl (by decide) (by decide) rfl ?_
  refine st_putR (kk := 2) rfl rfl rfl (by decide) rfl ?_
  refine st_aload_n rfl rfl (by decide) ?_
  refine st_bipush rfl ?_
  refine st_newarray rfl (by decide) (by decide) rfl ?_
  refine st_putR (kk := 3) rfl rfl rfl (by decide) rfl ?_
  refine st_aload_n rfl rfl (by decide) ?_
  refine st_sipush rfl ?_
  refine st_newarray rfl (by decide) (by decide) rfl ?_
  refine st_putR (kk := 4) rfl rfl rfl (by decide) rfl ?_
  refine st_iconst rfl ?_
  refine st_istore_n (ls' := [_, _]) rfl (Nat.le_of_ble_eq_true rfl) rfl ?_
  have hz2 : ∀ j : Nat, j ≤ 16 → am_WP (am_R (d + 0)) cd_Catalogue_init (fun v' s' => v' = none ∧ s' = (95, iPCatalogue P 90, iHCatalogue H 90)) 32 [some (am_r 90), some (am_i (j : Int))] [] (95, iPCatalogue P 90, am_so (am_so (am_so (am_so (am_so (am_so H 91 (fun _ => 0)) 92 (fun _ => 0)) 93 (fun _ => 0)) 94 (fun _ => 0)) 91 (fillF (fun _ => 0) 0 200 (-1))) 93 (fillF (fun _ => 0) 0 (j : Int) (-1))) := by
    refine up_ind (n := 16) ?_ ?_
    · refine st_iload_n rfl rfl ?_
      refine st_bipush rfl ?_
      refine st_icmp_ge rfl (fun h34 => ?_) (fun h34 => (by exfalso; omega))
      refine st_ret rfl ?_
      exact ⟨rfl, rfl⟩
    · intro j hj ih
      refine st_iload_n rfl rfl ?_
      refine st_bipush rfl ?_
      refine st_icmp_ge rfl (fun h34 => (by exfalso; omega)) (fun h34 => ?_)
      refine st_aload_n rfl rfl (by decide) ?_
      refine st_getR (kk := 3) (p := 93) rfl rfl rfl (iPCatalogue_3 P 90) rfl ?_
      refine st_iload_n rfl rfl ?_
      refine st_iconst rfl ?_
      refine st_iastore rfl rfl (by omega) (by omega) ?_
      refine st_iinc (ls' := [_, _]) rfl rfl (by omega) rfl ?_
      refine st_goto rfl ?_
      rw [show am_up (am_so (am_so (am_so (am_so (am_so (am_so H 91 (fun _ => 0)) 92 (fun _ => 0)) 93 (fun _ => 0)) 94 (fun _ => 0)) 91 (fillF (fun _ => 0) 0 200 (-1))) 93 (fillF (fun _ => 0) 0 (j : Int) (-1))) 93 (j : Int) (-1) = am_so (am_so (am_so (am_so (am_so (am_so H 91 (fun _ => 0)) 92 (fun _ => 0)) 93 (fun _ => 0)) 94 (fun _ => 0)) 91 (fillF (fun _ => 0) 0 200 (-1))) 93 (fillF (fun _ => 0) 0 ((j + 1 : Nat) : Int) (-1)) by
        unfold am_up
        rw [am_so_so, am_so_at, ← fillF_s, show (0 : Int) + (j : Int) = (j : Int) by omega]]
      exact ih
  have hz1 : ∀ j : Nat, j ≤ 200 → am_WP (am_R (d + 0)) cd_Catalogue_init (fun v' s' => v' = none ∧ s' = (95, iPCatalogue P 90, iHCatalogue H 90)) 20 [some (am_r 90), some (am_i (j : Int))] [] (95, iPCatalogue P 90, am_so (am_so (am_so (am_so (am_so H 91 (fun _ => 0)) 92 (fun _ => 0)) 93 (fun _ => 0)) 94 (fun _ => 0)) 91 (fillF (fun _ => 0) 0 (j : Int) (-1))) := by
    refine up_ind (n := 200) ?_ ?_
    · refine st_iload_n rfl rfl ?_
      refine st_sipush rfl ?_
      refine st_icmp_ge rfl (fun h22 => ?_) (fun h22 => (by exfalso; omega))
      refine st_iconst rfl ?_
      refine st_istore_n (ls' := [_, _]) rfl (Nat.le_of_ble_eq_true rfl) rfl ?_
      have := hz2 0 (Nat.zero_le _)
      rw [show ((0 : Nat) : Int) = 0 from rfl, show am_so (am_so (am_so (am_so (am_so (am_so H 91 (fun _ => 0)) 92 (fun _ => 0)) 93 (fun _ => 0)) 94 (fun _ => 0)) 91 (fillF (fun _ => 0) 0 200 (-1))) 93 (fillF (fun _ => 0) 0 0 (-1)) = am_so (am_so (am_so (am_so (am_so H 91 (fun _ => 0)) 92 (fun _ => 0)) 93 (fun _ => 0)) 94 (fun _ => 0)) 91 (fillF (fun _ => 0) 0 200 (-1)) by rw [fillF_0]; exact am_so_self (am_so (am_so (am_so (am_so (am_so H 91 (fun _ => 0)) 92 (fun _ => 0)) 93 (fun _ => 0)) 94 (fun _ => 0)) 91 (fillF (fun _ => 0) 0 200 (-1))) 93] at this
      exact this
    · intro j hj ih
      refine st_iload_n rfl rfl ?_
      refine st_sipush rfl ?_
      refine st_icmp_ge rfl (fun h22 => (by exfalso; omega)) (fun h22 => ?_)
      refine st_aload_n rfl rfl (by decide) ?_
      refine st_getR (kk := 1) (p := 91) rfl rfl rfl (iPCatalogue_1 P 90) rfl ?_
      refine st_iload_n rfl rfl ?_
      refine st_iconst rfl ?_
      refine st_iastore rfl rfl (by omega) (by omega) ?_
      refine st_iinc (ls' := [_, _]) rfl rfl (by omega) rfl ?_
      refine st_goto rfl ?_
      rw [show am_up (am_so (am_so (am_so (am_so (am_so H 91 (fun _ => 0)) 92 (fun _ => 0)) 93 (fun _ => 0)) 94 (fun _ => 0)) 91 (fillF (fun _ => 0) 0 (j : Int) (-1))) 91 (j : Int) (-1) = am_so (am_so (am_so (am_so (am_so H 91 (fun _ => 0)) 92 (fun _ => 0)) 93 (fun _ => 0)) 94 (fun _ => 0)) 91 (fillF (fun _ => 0) 0 ((j + 1 : Nat) : Int) (-1)) by
        unfold am_up
        rw [am_so_so, am_so_at, ← fillF_s, show (0 : Int) + (j : Int) = (j : Int) by omega]]
      exact ih
  have := hz1 0 (Nat.zero_le _)
  rw [show ((0 : Nat) : Int) = 0 from rfl, show am_so (am_so (am_so (am_so (am_so H 91 (fun _ => 0)) 92 (fun _ => 0)) 93 (fun _ => 0)) 94 (fun _ => 0)) 91 (fillF (fun _ => 0) 0 0 (-1)) = am_so (am_so (am_so (am_so H 91 (fun _ => 0)) 92 (fun _ => 0)) 93 (fun _ => 0)) 94 (fun _ => 0) by rw [fillF_0]; exact am_so_self (am_so (am_so (am_so (am_so H 91 (fun _ => 0)) 92 (fun _ => 0)) 93 (fun _ => 0)) 94 (fun _ => 0)) 91] at this
  exact this
theorem r_Growths_init_95 {d N : Nat} {P : am_P} {H : am_H}   : am_R (d + 1) 150 [am_r 95] (96, P, H) none (101, iPGrowths P 95, iHGrowths H 95) := by
  refine am_en1 (d := d + 0) (ml := 1) (ls := [_]) cq_Growths_init rfl (Nat.le_of_ble_eq_true rfl) rfl ?_
  refine st_aload_n rfl rfl (by decide) ?_
  refine st_obj rfl (by decide) (Nat.le_of_ble_eq_true rfl) ?_
  refine st_aload_n rfl rfl (by decide) ?_
  refine st_bipush rfl ?_
  refine st_newarray rfl (by decide) (by decide) rfl ?_
  refine st_putR (kk := 1) rfl rfl rfl (by decide) rfl ?_
  refine st_aload_n rfl rfl (by decide) ?_
  refine st_bipush rfl ?_
  refine st_newarray rfl (by decide) (by decide) rfl ?_
  refine st_putR (kk := 2) rfl rfl rfl (by decide) rfl ?_
  refine st_aload_n rfl rfl (by decide) ?_
  refine st_bipush rfl ?_
  refine st_newarray rfl (by decide) (by decide) rfl ?_
  refine st_putR (kk := 3) rfl rfl rfl (by decide) rfl ?_
  refine st_aload_n rfl rfl (by decide) ?_
  refine st_bipush rfl ?_
  refine st_newarray rfl (by decide) (by decide) rfl ?_
  refine st_putR (kk := 4) rfl rfl rfl (by decide) rfl ?_
  refine st_aload_n rfl rfl (by decide) ?_
  refine st_sipush rfl ?_
  refine st_newarray rfl (by decide) (by decide) rfl ?_
  refine st_putR (kk := 5) rfl rfl rfl (by decide) rfl ?_
  refine st_ret rfl ?_
  exact ⟨rfl, rfl⟩
theorem r_State_init_72 {d N : Nat} {P : am_P} {H : am_H}   : am_R (d + 2) 228 [am_r 72] (73, P, H) none (101, iPS P 72, iHS H 72) := by
  refine am_en1 (d := d + 1) (ml := 1) (ls := [_]) cq_State_init rfl (Nat.le_of_ble_eq_true rfl) rfl ?_
  refine st_aload_n rfl rfl (by decide) ?_
  refine st_obj rfl (by decide) (Nat.le_of_ble_eq_true rfl) ?_
  refine st_aload_n rfl rfl (by decide) ?_
  refine st_new rfl rfl ?_
  refine st_dup rfl rfl ?_
  refine st_ci0 (w := [_, _]) rfl (by decide) (by decide) rfl (Nat.le_of_ble_eq_true rfl) (Nat.le_of_ble_eq_true rfl) rfl rfl (r_Marks_init_73 (N := 0)) ?_
  refine st_putR (kk := 0) rfl rfl rfl (by decide) rfl ?_
  refine st_aload_n rfl rfl (by decide) ?_
  refine st_new rfl rfl ?_
  refine st_dup rfl rfl ?_
  refine st_ci0 (w := [_, _]) rfl (by decide) (by decide) rfl (Nat.le_of_ble_eq_true rfl) (Nat.le_of_ble_eq_true rfl) rfl rfl (r_Stacks_init_76 (N := 0)) ?_
  refine st_putR (kk := 1) rfl rfl rfl (by decide) rfl ?_
  refine st_aload_n rfl rfl (by decide) ?_
  refine st_new rfl rfl ?_
  refine st_dup rfl rfl ?_
  refine st_ci0 (w := [_, _]) rfl (by decide) (by decide) rfl (Nat.le_of_ble_eq_true rfl) (Nat.le_of_ble_eq_true rfl) rfl rfl (r_Reading_init_88 (N := 0)) ?_
  refine st_putR (kk := 2) rfl rfl rfl (by decide) rfl ?_
  refine st_aload_n rfl rfl (by decide) ?_
  refine st_new rfl rfl ?_
  refine st_dup rfl rfl ?_
  refine st_ci0 (w := [_, _]) rfl (by decide) (by decide) rfl (Nat.le_of_ble_eq_true rfl) (Nat.le_of_ble_eq_true rfl) rfl rfl (r_Catalogue_init_90 (N := 0)) ?_
  refine st_putR (kk := 3) rfl rfl rfl (by decide) rfl ?_
  refine st_aload_n rfl rfl (by decide) ?_
  refine st_new rfl rfl ?_
  refine st_dup rfl rfl ?_
  refine st_ci0 (w := [_, _]) rfl (by decide) (by decide) rfl (Nat.le_of_ble_eq_true rfl) (Nat.le_of_ble_eq_true rfl) rfl rfl (r_Growths_init_95 (N := 0)) ?_
  refine st_putR (kk := 4) rfl rfl rfl (by decide) rfl ?_
  refine st_ret rfl ?_
  exact ⟨rfl, rfl⟩
theorem r_Marks_init_102 {d N : Nat} {P : am_P} {H : am_H}   : am_R (d + 1) 156 [am_r 102] (103, P, H) none (105, iPMarks P 102, iHMarks H 102) := by
  refine am_en1 (d := d + 0) (ml := 1) (ls := [_]) cq_Marks_init rfl (Nat.le_of_ble_eq_true rfl) rfl ?_
  refine st_aload_n rfl rfl (by decide) ?_
  refine st_obj rfl (by decide) (Nat.le_of_ble_eq_true rfl) ?_
  refine st_aload_n rfl rfl (by decide) ?_
  refine st_sipush rfl ?_
  refine st_newarray rfl (by decide) (by decide) rfl ?_
  refine st_putR (kk := 1) rfl rfl rfl (by decide) rfl ?_
  refine st_aload_n rfl rfl (by decide) ?_
  refine st_sipush rfl ?_
  refine st_newarray rfl (by decide) (by decide) rfl ?_
  refine st_putR (kk := 2) rfl rfl rfl (by decide) rfl ?_
  refine st_ret rfl ?_
  exact ⟨rfl, rfl⟩
theorem r_Stacks_init_105 {d N : Nat} {P : am_P} {H : am_H}   : am_R (d + 1) 208 [am_r 105] (106, P, H) none (117, iPStacks P 105, iHStacks H 105) := by
  refine am_en1 (d := d + 0) (ml := 1) (ls := [_]) cq_Stacks_init rfl (Nat.le_of_ble_eq_true rfl) rfl ?_
  refine st_aload_n rfl rfl (by decide) ?_
  refine st_obj rfl (by decide) (Nat.le_of_ble_eq_true rfl) ?_
  refine st_aload_n rfl rfl (by decide) ?_
  refine st_bipush rfl ?_
  refine st_newarray rfl (by decide) (by decide) rfl ?_
  refine st_putR (kk := 1) rfl rfl rfl (by decide) rfl ?_
  refine st_aload_n rfl rfl (by decide) ?_
  refine st_bipush rfl ?_
  refine st_newarray rfl (by decide) (by decide) rfl ?_
  refine st_putR (kk := 2) rfl rfl rfl (by decide) rfl ?_
  refine st_aload_n rfl rfl (by decide) ?_
  refine st_sipush rfl ?_
  refine st_newarray rfl (by decide) (by decide) rfl ?_
  refine st_putR (kk := 3) rfl rfl rfl (by decide) rfl ?_
  refine st_aload_n rfl rfl (by decide) ?_
  refine st_sipush rfl ?_
  refine st_newarray rfl (by decide) (by decide) rfl ?_
  refine st_putR (kk := 5) rfl rfl rfl (by decide) rfl ?_
  refine st_aload_n rfl rfl (by decide) ?_
  refine st_sipush rfl ?_
  refine st_newarray rfl (by decide) (by decide) rfl ?_
  refine st_putR (kk := 6) rfl rfl rfl (by decide) rfl ?_
  refine st_aload_n rfl rfl (by decide) ?_
  refine st_sipush rfl ?_
  refine st_newarray rfl (by decide) (by decide) rfl ?_
  refine st_putR (kk := 7) rfl rfl rfl (by decide) rfl ?_
  refine st_aload_n rfl rfl (by decide) ?_
  refine st_sipush rfl ?_
  refine st_newarray rfl (by decide) (by decide) rfl ?_
  refine st_putR (kk := 8) rfl rfl rfl (by decide) rfl ?_
  refine st_aload_n rfl rfl (by decide) ?_
  refine st_sipush rfl ?_
  refine st_newarray rfl (by decide) (by decide) rfl ?_
  refine st_putR (kk := 9) rfl rfl rfl (by decide) rfl ?_
  refine st_aload_n rfl rfl (by decide) ?_
  refine st_sipush rfl ?_
  refine st_newarray rfl (by decide) (by decide) rfl ?_
  refine st_putR (kk := 10) rfl rfl rfl (by decide) rfl ?_
  refine st_aload_n rfl rfl (by decide) ?_
  refine st_sipush rfl ?_
  refine st_newarray rfl (by decide) (by decide) rfl ?_
  refine st_putR (kk := 11) rfl rfl rfl (by decide) rfl ?_
  refine st_aload_n rfl rfl (by decide) ?_
  refine st_sipush rfl ?_
  refine st_newarray rfl (by decide) (by decide) rfl ?_
  refine st_putR (kk := 12) rfl rfl rfl (by decide) rfl ?_
  refine st_ret rfl ?_
  exact ⟨rfl, rfl⟩
theorem r_Reading_init_117 {d N : Nat} {P : am_P} {H : am_H}   : am_R (d + 1) 182 [am_r 117] (118, P, H) none (119, iPReading P 117, iHReading H 117) := by
  refine am_en1 (d := d + 0) (ml := 1) (ls := [_]) cq_Reading_init rfl (Nat.le_of_ble_eq_true rfl) rfl ?_
  refine st_aload_n rfl rfl (by decide) ?_
  refine st_obj rfl (by decide) (Nat.le_of_ble_eq_true rfl) ?_
  refine st_aload_n rfl rfl (by decide) ?_
  refine st_iconst rfl ?_
  refine st_putI (kk := 0) rfl rfl rfl rfl ?_
  refine st_aload_n rfl rfl (by decide) ?_
  refine st_bipush rfl ?_
  refine st_newarray rfl (by decide) (by decide) rfl ?_
  refine st_putR (kk := 2) rfl rfl rfl (by decide) rfl ?_
  refine st_ret rfl ?_
  exact ⟨rfl, rfl⟩
theorem r_Catalogue_init_119 {d N : Nat} {P : am_P} {H : am_H}   : am_R (d + 1) 137 [am_r 119] (120, P, H) none (124, iPCatalogue P 119, iHCatalogue H 119) := by
  refine am_en1 (d := d + 0) (ml := 2) (ls := [_, _]) cq_Catalogue_init rfl (Nat.le_of_ble_eq_true rfl) rfl ?_
  refine st_aload_n rfl rfl (by decide) ?_
  refine st_obj rfl (by decide) (Nat.le_of_ble_eq_true rfl) ?_
  refine st_aload_n rfl rfl (by decide) ?_
  refine st_sipush rfl ?_
  refine st_newarray rfl (by decide) (by decide) rfl ?_
  refine st_putR (kk := 1) rfl rfl rfl (by decide) rfl ?_
  refine st_aload_n rfl rfl (by decide) ?_
  refine st_sipush rfl ?_
  refine st_newarray rfl (by decide) (by decide) rfl ?_
  refine st_putR (kk := 2) rfl rfl rfl (by decide) rfl ?_
  refine st_aload_n rfl rfl (by decide) ?_
  refine st_bipush rfl ?_
  refine st_newarray rfl (by decide) (by decide) rfl ?_
  refine st_putR (kk := 3) rfl rfl rfl (by decide) rfl ?_
  refine st_aload_n rfl rfl (by decide) ?_
  refine st_sipush rfl ?_
  refine st_newarray rfl (by decide) (by decide) rfl ?_
  refine st_putR (kk := 4) rfl rfl rfl (by decide) rfl ?_
  refine st_iconst rfl ?_
  refine st_istore_n (ls' := [_, _]) rfl (Nat.le_of_ble_eq_true rfl) rfl ?_
  have hz2 : ∀ j : Nat, j ≤ 16 → am_WP (am_R (d + 0)) cd_Catalogue_init (fun v' s' => v' = none ∧ s' = (124, iPCatalogue P 119, iHCatalogue H 119)) 32 [some (am_r 119), some (am_i (j : Int))] [] (124, iPCatalogue P 119, am_so (am_so (am_so (am_so (am_so (am_so H 120 (fun _ => 0)) 121 (fun _ => 0)) 122 (fun _ => 0)) 123 (fun _ => 0)) 120 (fillF (fun _ => 0) 0 200 (-1))) 122 (fillF (fun _ => 0) 0 (j : Int) (-1))) := by
    refine up_ind (n := 16) ?_ ?_
    · refine st_iload_n rfl rfl ?_
      refine st_bipush rfl ?_
      refine st_icmp_ge rfl (fun h34 => ?_) (fun h34 => (by exfalso; omega))
      refine st_ret rfl ?_
      exact ⟨rfl, rfl⟩
    · intro j hj ih
      refine st_iload_n rfl rfl ?_
      refine st_bipush rfl ?_
      refine st_icmp_ge rfl (fun h34 => (by exfalso; omega)) (fun h34 => ?_)
      refine st_aload_n rfl rfl (by decide) ?_
      refine st_getR (kk := 3) (p := 122) rfl rfl rfl (iPCatalogue_3 P 119) rfl ?_
      refine st_iload_n rfl rfl ?_
      refine st_iconst rfl ?_
      refine st_iastore rfl rfl (by omega) (by omega) ?_
      refine st_iinc (ls' := [_, _]) rfl rfl (by omega) rfl ?_
      refine st_goto rfl ?_
      rw [show am_up (am_so (am_so (am_so (am_so (am_so (am_so H 120 (fun _ => 0)) 121 (fun _ => 0)) 122 (fun _ => 0)) 123 (fun _ => 0)) 120 (fillF (fun _ => 0) 0 200 (-1))) 122 (fillF (fun _ => 0) 0 (j : Int) (-1))) 122 (j : Int) (-1) = am_so (am_so (am_so (am_so (am_so (am_so H 120 (fun _ => 0)) 121 (fun _ => 0)) 122 (fun _ => 0)) 123 (fun _ => 0)) 120 (fillF (fun _ => 0) 0 200 (-1))) 122 (fillF (fun _ => 0) 0 ((j + 1 : Nat) : Int) (-1)) by
        unfold am_up
        rw [am_so_so, am_so_at, ← fillF_s, show (0 : Int) + (j : Int) = (j : Int) by omega]]
      exact ih
  have hz1 : ∀ j : Nat, j ≤ 200 → am_WP (am_R (d + 0)) cd_Catalogue_init (fun v' s' => v' = none ∧ s' = (124, iPCatalogue P 119, iHCatalogue H 119)) 20 [some (am_r 119), some (am_i (j : Int))] [] (124, iPCatalogue P 119, am_so (am_so (am_so (am_so (am_so H 120 (fun _ => 0)) 121 (fun _ => 0)) 122 (fun _ => 0)) 123 (fun _ => 0)) 120 (fillF (fun _ => 0) 0 (j : Int) (-1))) := by
    refine up_ind (n := 200) ?_ ?_
    · refine st_iload_n rfl rfl ?_
      refine st_sipush rfl ?_
      refine st_icmp_ge rfl (fun h22 => ?_) (fun h22 => (by exfalso; omega))
      refine st_iconst rfl ?_
      refine st_istore_n (ls' := [_, _]) rfl (Nat.le_of_ble_eq_true rfl) rfl ?_
      have := hz2 0 (Nat.zero_le _)
      rw [show ((0 : Nat) : Int) = 0 from rfl, show am_so (am_so (am_so (am_so (am_so (am_so H 120 (fun _ => 0)) 121 (fun _ => 0)) 122 (fun _ => 0)) 123 (fun _ => 0)) 120 (fillF (fun _ => 0) 0 200 (-1))) 122 (fillF (fun _ => 0) 0 0 (-1)) = am_so (am_so (am_so (am_so (am_so H 120 (fun _ => 0)) 121 (fun _ => 0)) 122 (fun _ => 0)) 123 (fun _ => 0)) 120 (fillF (fun _ => 0) 0 200 (-1)) by rw [fillF_0]; exact am_so_self (am_so (am_so (am_so (am_so (am_so H 120 (fun _ => 0)) 121 (fun _ => 0)) 122 (fun _ => 0)) 123 (fun _ => 0)) 120 (fillF (fun _ => 0) 0 200 (-1))) 122] at this
      exact this
    · intro j hj ih
      refine st_iload_n rfl rfl ?_
      refine st_sipush rfl ?_
      refine st_icmp_ge rfl (fun h22 => (by exfalso; omega)) (fun h22 => ?_)
      refine st_aload_n rfl rfl (by decide) ?_
      refine st_getR (kk := 1) (p := 120) rfl rfl rfl (iPCatalogue_1 P 119) rfl ?_
      refine st_iload_n rfl rfl ?_
      refine st_iconst rfl ?_
      refine st_iastore rfl rfl (by omega) (by omega) ?_
      refine st_iinc (ls' := [_, _]) rfl rfl (by omega) rfl ?_
      refine st_goto rfl ?_
      rw [show am_up (am_so (am_so (am_so (am_so (am_so H 120 (fun _ => 0)) 121 (fun _ => 0)) 122 (fun _ => 0)) 123 (fun _ => 0)) 120 (fillF (fun _ => 0) 0 (j : Int) (-1))) 120 (j : Int) (-1) = am_so (am_so (am_so (am_so (am_so H 120 (fun _ => 0)) 121 (fun _ => 0)) 122 (fun _ => 0)) 123 (fun _ => 0)) 120 (fillF (fun _ => 0) 0 ((j + 1 : Nat) : Int) (-1)) by
        unfold am_up
        rw [am_so_so, am_so_at, ← fillF_s, show (0 : Int) + (j : Int) = (j : Int) by omega]]
      exact ih
  have := hz1 0 (Nat.zero_le _)
  rw [show ((0 : Nat) : Int) = 0 from rfl, show am_so (am_so (am_so (am_so (am_so H 120 (fun _ => 0)) 121 (fun _ => 0)) 122 (fun _ => 0)) 123 (fun _ => 0)) 120 (fillF (fun _ => 0) 0 0 (-1)) = am_so (am_so (am_so (am_so H 120 (fun _ => 0)) 121 (fun _ => 0)) 122 (fun _ => 0)) 123 (fun _ => 0) by rw [fillF_0]; exact am_so_self (am_so (am_so (am_so (am_so H 120 (fun _ => 0)) 121 (fun _ => 0)) 122 (fun _ => 0)) 123 (fun _ => 0)) 120] at this
  exact this
theorem r_Growths_init_124 {d N : Nat} {P : am_P} {H : am_H}   : am_R (d + 1) 150 [am_r 124] (125, P, H) none (130, iPGrowths P 124, iHGrowths H 124) := by
  refine am_en1 (d := d + 0) (ml := 1) (ls := [_]) cq_Growths_init rfl (Nat.le_of_ble_eq_true rfl) rfl ?_
  refine st_aload_n rfl rfl (by decide) ?_
  refine st_obj rfl (by decide) (Nat.le_of_ble_eq_true rfl) ?_
  refine st_aload_n rfl rfl (by decide) ?_
  refine st_bipush rfl ?_
  refine st_newarray rfl (by decide) (by decide) rfl ?_
  refine st_putR (kk := 1) rfl rfl rfl (by decide) rfl ?_
  refine st_aload_n rfl rfl (by decide) ?_
  refine st_bipush rfl ?_
  refine st_newarray rfl (by decide) (by decide) rfl ?_
  refine st_putR (kk := 2) rfl rfl rfl (by decide) rfl ?_
  refine st_aload_n rfl rfl (by decide) ?_
  refine st_bipush rfl ?_
  refine st_newarray rfl (by decide) (by decide) rfl ?_
  refine st_putR (kk := 3) rfl rfl rfl (by decide) rfl ?_
  refine st_aload_n rfl rfl (by decide) ?_
  refine st_bipush rfl ?_
  refine st_newarray rfl (by decide) (by decide) rfl ?_
  refine st_putR (kk := 4) rfl rfl rfl (by decide) rfl ?_
  refine st_aload_n rfl rfl (by decide) ?_
  refine st_sipush rfl ?_
  refine st_newarray rfl (by decide) (by decide) rfl ?_
  refine st_putR (kk := 5) rfl rfl rfl (by decide) rfl ?_
  refine st_ret rfl ?_
  exact ⟨rfl, rfl⟩
theorem r_State_init_101 {d N : Nat} {P : am_P} {H : am_H}   : am_R (d + 2) 228 [am_r 101] (102, P, H) none (130, iPS P 101, iHS H 101) := by
  refine am_en1 (d := d + 1) (ml := 1) (ls := [_]) cq_State_init rfl (Nat.le_of_ble_eq_true rfl) rfl ?_
  refine st_aload_n rfl rfl (by decide) ?_
  refine st_obj rfl (by decide) (Nat.le_of_ble_eq_true rfl) ?_
  refine st_aload_n rfl rfl (by decide) ?_
  refine st_new rfl rfl ?_
  refine st_dup rfl rfl ?_
  refine st_ci0 (w := [_, _]) rfl (by decide) (by decide) rfl (Nat.le_of_ble_eq_true rfl) (Nat.le_of_ble_eq_true rfl) rfl rfl (r_Marks_init_102 (N := 0)) ?_
  refine st_putR (kk := 0) rfl rfl rfl (by decide) rfl ?_
  refine st_aload_n rfl rfl (by decide) ?_
  refine st_new rfl rfl ?_
  refine st_dup rfl rfl ?_
  refine st_ci0 (w := [_, _]) rfl (by decide) (by decide) rfl (Nat.le_of_ble_eq_true rfl) (Nat.le_of_ble_eq_true rfl) rfl rfl (r_Stacks_init_105 (N := 0)) ?_
  refine st_putR (kk := 1) rfl rfl rfl (by decide) rfl ?_
  refine st_aload_n rfl rfl (by decide) ?_
  refine st_new rfl rfl ?_
  refine st_dup rfl rfl ?_
  refine st_ci0 (w := [_, _]) rfl (by decide) (by decide) rfl (Nat.le_of_ble_eq_true rfl) (Nat.le_of_ble_eq_true rfl) rfl rfl (r_Reading_init_117 (N := 0)) ?_
  refine st_putR (kk := 2) rfl rfl rfl (by decide) rfl ?_
  refine st_aload_n rfl rfl (by decide) ?_
  refine st_new rfl rfl ?_
  refine st_dup rfl rfl ?_
  refine st_ci0 (w := [_, _]) rfl (by decide) (by decide) rfl (Nat.le_of_ble_eq_true rfl) (Nat.le_of_ble_eq_true rfl) rfl rfl (r_Catalogue_init_119 (N := 0)) ?_
  refine st_putR (kk := 3) rfl rfl rfl (by decide) rfl ?_
  refine st_aload_n rfl rfl (by decide) ?_
  refine st_new rfl rfl ?_
  refine st_dup rfl rfl ?_
  refine st_ci0 (w := [_, _]) rfl (by decide) (by decide) rfl (Nat.le_of_ble_eq_true rfl) (Nat.le_of_ble_eq_true rfl) rfl rfl (r_Growths_init_124 (N := 0)) ?_
  refine st_putR (kk := 4) rfl rfl rfl (by decide) rfl ?_
  refine st_ret rfl ?_
  exact ⟨rfl, rfl⟩
theorem r_Marks_init_131 {d N : Nat} {P : am_P} {H : am_H}   : am_R (d + 1) 156 [am_r 131] (132, P, H) none (134, iPMarks P 131, iHMarks H 131) := by
  refine am_en1 (d := d + 0) (ml := 1) (ls := [_]) cq_Marks_init rfl (Nat.le_of_ble_eq_true rfl) rfl ?_
  refine st_aload_n rfl rfl (by decide) ?_
  refine st_obj rfl (by decide) (Nat.le_of_ble_eq_true rfl) ?_
  refine st_aload_n rfl rfl (by decide) ?_
  refine st_sipush rfl ?_
  refine st_newarray rfl (by decide) (by decide) rfl ?_
  refine st_putR (kk := 1) rfl rfl rfl (by decide) rfl ?_
  refine st_aload_n rfl rfl (by decide) ?_
  refine st_sipush rfl ?_
  refine st_newarray rfl (by decide) (by decide) rfl ?_
  refine st_putR (kk := 2) rfl rfl rfl (by decide) rfl ?_
  refine st_ret rfl ?_
  exact ⟨rfl, rfl⟩
theorem r_Stacks_init_134 {d N : Nat} {P : am_P} {H : am_H}   : am_R (d + 1) 208 [am_r 134] (135, P, H) none (146, iPStacks P 134, iHStacks H 134) := by
  refine am_en1 (d := d + 0) (ml := 1) (ls := [_]) cq_Stacks_init rfl (Nat.le_of_ble_eq_true rfl) rfl ?_
  refine st_aload_n rfl rfl (by decide) ?_
  refine st_obj rfl (by decide) (Nat.le_of_ble_eq_true rfl) ?_
  refine st_aload_n rfl rfl (by decide) ?_
  refine st_bipush rfl ?_
  refine st_newarray rfl (by decide) (by decide) rfl ?_
  refine st_putR (kk := 1) rfl rfl rfl (by decide) rfl ?_
  refine st_aload_n rfl rfl (by decide) ?_
  refine st_bipush rfl ?_
  refine st_newarray rfl (by decide) (by decide) rfl ?_
  refine st_putR (kk := 2) rfl rfl rfl (by decide) rfl ?_
  refine st_aload_n rfl rfl (by decide) ?_
  refine st_sipush rfl ?_
  refine st_newarray rfl (by decide) (by decide) rfl ?_
  refine st_putR (kk := 3) rfl rfl rfl (by decide) rfl ?_
  refine st_aload_n rfl rfl (by decide) ?_
  refine st_sipush rfl ?_
  refine st_newarray rfl (by decide) (by decide) rfl ?_
  refine st_putR (kk := 5) rfl rfl rfl (by decide) rfl ?_
  refine st_aload_n rfl rfl (by decide) ?_
  refine st_sipush rfl ?_
  refine st_newarray rfl (by decide) (by decide) rfl ?_
  refine st_putR (kk := 6) rfl rfl rfl (by decide) rfl ?_
  refine st_aload_n rfl rfl (by decide) ?_
  refine st_sipush rfl ?_
  refine st_newarray rfl (by decide) (by decide) rfl ?_
  refine st_putR (kk := 7) rfl rfl rfl (by decide) rfl ?_
  refine st_aload_n rfl rfl (by decide) ?_
  refine st_sipush rfl ?_
  refine st_newarray rfl (by decide) (by decide) rfl ?_
  refine st_putR (kk := 8) rfl rfl rfl (by decide) rfl ?_
  refine st_aload_n rfl rfl (by decide) ?_
  refine st_sipush rfl ?_
  refine st_newarray rfl (by decide) (by decide) rfl ?_
  refine st_putR (kk := 9) rfl rfl rfl (by decide) rfl ?_
  refine st_aload_n rfl rfl (by decide) ?_
  refine st_sipush rfl ?_
  refine st_newarray rfl (by decide) (by decide) rfl ?_
  refine st_putR (kk := 10) rfl rfl rfl (by decide) rfl ?_
  refine st_aload_n rfl rfl (by decide) ?_
  refine st_sipush rfl ?_
  refine st_newarray rfl (by decide) (by decide) rfl ?_
  refine st_putR (kk := 11) rfl rfl rfl (by decide) rfl ?_
  refine st_aload_n rfl rfl (by decide) ?_
  refine st_sipush rfl ?_
  refine st_newarray rfl (by decide) (by decide) rfl ?_
  refine st_putR (kk := 12) rfl rfl rfl (by decide) rfl ?_
  refine st_ret rfl ?_
  exact ⟨rfl, rfl⟩
theorem r_Reading_init_146 {d N : Nat} {P : am_P} {H : am_H}   : am_R (d + 1) 182 [am_r 146] (147, P, H) none (148, iPReading P 146, iHReading H 146) := by
  refine am_en1 (d := d + 0) (ml := 1) (ls := [_]) cq_Reading_init rfl (Nat.le_of_ble_eq_true rfl) rfl ?_
  refine st_aload_n rfl rfl (by decide) ?_
  refine st_obj rfl (by decide) (Nat.le_of_ble_eq_true rfl) ?_
  refine st_aload_n rfl rfl (by decide) ?_
  refine st_iconst rfl ?_
  refine st_putI (kk := 0) rfl rfl rfl rfl ?_
  refine st_aload_n rfl rfl (by decide) ?_
  refine st_bipush rfl ?_
  refine st_newarray rfl (by decide) (by decide) rfl ?_
  refine st_putR (kk := 2) rfl rfl rfl (by decide) rfl ?_
  refine st_ret rfl ?_
  exact ⟨rfl, rfl⟩
theorem r_Catalogue_init_148 {d N : Nat} {P : am_P} {H : am_H}   : am_R (d + 1) 137 [am_r 148] (149, P, H) none (153, iPCatalogue P 148, iHCatalogue H 148) := by
  refine am_en1 (d := d + 0) (ml := 2) (ls := [_, _]) cq_Catalogue_init rfl (Nat.le_of_ble_eq_true rfl) rfl ?_
  refine st_aload_n rfl rfl (by decide) ?_
  refine st_obj rfl (by decide) (Nat.le_of_ble_eq_true rfl) ?_
  refine st_aload_n rfl rfl (by decide) ?_
  refine st_sipush rfl ?_
  refine st_newarray rfl (by decide) (by decide) rfl ?_
  refine st_putR (kk := 1) rfl rfl rfl (by decide) rfl ?_
  refine st_aload_n rfl rfl (by decide) ?_
  refine st_sipush rfl ?_
  refine st_newarray rfl (by decide) (by decide) rfl ?_
  refine st_putR (kk := 2) rfl rfl rfl (by decide) rfl ?_
  refine st_aload_n rfl rfl (by decide) ?_
  refine st_bipush rfl ?_
  refine st_newarray rfl (by decide) (by decide) rfl ?_
  refine st_putR (kk := 3) rfl rfl rfl (by decide) rfl ?_
  refine st_aload_n rfl rfl (by decide) ?_
  refine st_sipush rfl ?_
  refine st_newarray rfl (by decide) (by decide) rfl ?_
  refine st_putR (kk := 4) rfl rfl rfl (by decide) rfl ?_
  refine st_iconst rfl ?_
  refine st_istore_n (ls' := [_, _]) rfl (Nat.le_of_ble_eq_true rfl) rfl ?_
  have hz2 : ∀ j : Nat, j ≤ 16 → am_WP (am_R (d + 0)) cd_Catalogue_init (fun v' s' => v' = none ∧ s' = (153, iPCatalogue P 148, iHCatalogue H 148)) 32 [some (am_r 148), some (am_i (j : Int))] [] (153, iPCatalogue P 148, am_so (am_so (am_so (am_so (am_so (am_so H 149 (fun _ => 0)) 150 (fun _ => 0)) 151 (fun _ => 0)) 152 (fun _ => 0)) 149 (fillF (fun _ => 0) 0 200 (-1))) 151 (fillF (fun _ => 0) 0 (j : Int) (-1))) := by
    refine up_ind (n := 16) ?_ ?_
    · refine st_iload_n rfl rfl ?_
      refine st_bipush rfl ?_
      refine st_icmp_ge rfl (fun h34 => ?_) (fun h34 => (by exfalso; omega))
      refine st_ret rfl ?_
      exact ⟨rfl, rfl⟩
    · intro j hj ih
      refine st_iload_n rfl rfl ?_
      refine st_bipush rfl ?_
      refine st_icmp_ge rfl (fun h34 => (by exfalso; omega)) (fun h34 => ?_)
      refine st_aload_n rfl rfl (by decide) ?_
      refine st_getR (kk := 3) (p := 151) rfl rfl rfl (iPCatalogue_3 P 148) rfl ?_
      refine st_iload_n rfl rfl ?_
      refine st_iconst rfl ?_
      refine st_iastore rfl rfl (by omega) (by omega) ?_
      refine st_iinc (ls' := [_, _]) rfl rfl (by omega) rfl ?_
      refine st_goto rfl ?_
      rw [show am_up (am_so (am_so (am_so (am_so (am_so (am_so H 149 (fun _ => 0)) 150 (fun _ => 0)) 151 (fun _ => 0)) 152 (fun _ => 0)) 149 (fillF (fun _ => 0) 0 200 (-1))) 151 (fillF (fun _ => 0) 0 (j : Int) (-1))) 151 (j : Int) (-1) = am_so (am_so (am_so (am_so (am_so (am_so H 149 (fun _ => 0)) 150 (fun _ => 0)) 151 (fun _ => 0)) 152 (fun _ => 0)) 149 (fillF (fun _ => 0) 0 200 (-1))) 151 (fillF (fun _ => 0) 0 ((j + 1 : Nat) : Int) (-1)) by
        unfold am_up
        rw [am_so_so, am_so_at, ← fillF_s, show (0 : Int) + (j : Int) = (j : Int) by omega]]
      exact ih
  have hz1 : ∀ j : Nat, j ≤ 200 → am_WP (am_R (d + 0)) cd_Catalogue_init (fun v' s' => v' = none ∧ s' = (153, iPCatalogue P 148, iHCatalogue H 148)) 20 [some (am_r 148), some (am_i (j : Int))] [] (153, iPCatalogue P 148, am_so (am_so (am_so (am_so (am_so H 149 (fun _ => 0)) 150 (fun _ => 0)) 151 (fun _ => 0)) 152 (fun _ => 0)) 149 (fillF (fun _ => 0) 0 (j : Int) (-1))) := by
    refine up_ind (n := 200) ?_ ?_
    · refine st_iload_n rfl rfl ?_
      refine st_sipush rfl ?_
      refine st_icmp_ge rfl (fun h22 => ?_) (fun h22 => (by exfalso; omega))
      refine st_iconst rfl ?_
      refine st_istore_n (ls' := [_, _]) rfl (Nat.le_of_ble_eq_true rfl) rfl ?_
      have := hz2 0 (Nat.zero_le _)
      rw [show ((0 : Nat) : Int) = 0 from rfl, show am_so (am_so (am_so (am_so (am_so (am_so H 149 (fun _ => 0)) 150 (fun _ => 0)) 151 (fun _ => 0)) 152 (fun _ => 0)) 149 (fillF (fun _ => 0) 0 200 (-1))) 151 (fillF (fun _ => 0) 0 0 (-1)) = am_so (am_so (am_so (am_so (am_so H 149 (fun _ => 0)) 150 (fun _ => 0)) 151 (fun _ => 0)) 152 (fun _ => 0)) 149 (fillF (fun _ => 0) 0 200 (-1)) by rw [fillF_0]; exact am_so_self (am_so (am_so (am_so (am_so (am_so H 149 (fun _ => 0)) 150 (fun _ => 0)) 151 (fun _ => 0)) 152 (fun _ => 0)) 149 (fillF (fun _ => 0) 0 200 (-1))) 151] at this
      exact this
    · intro j hj ih
      refine st_iload_n rfl rfl ?_
      refine st_sipush rfl ?_
      refine st_icmp_ge rfl (fun h22 => (by exfalso; omega)) (fun h22 => ?_)
      refine st_aload_n rfl rfl (by decide) ?_
      refine st_getR (kk := 1) (p := 149) rfl rfl rfl (iPCatalogue_1 P 148) rfl ?_
      refine st_iload_n rfl rfl ?_
      refine st_iconst rfl ?_
      refine st_iastore rfl rfl (by omega) (by omega) ?_
      refine st_iinc (ls' := [_, _]) rfl rfl (by omega) rfl ?_
      refine st_goto rfl ?_
      rw [show am_up (am_so (am_so (am_so (am_so (am_so H 149 (fun _ => 0)) 150 (fun _ => 0)) 151 (fun _ => 0)) 152 (fun _ => 0)) 149 (fillF (fun _ => 0) 0 (j : Int) (-1))) 149 (j : Int) (-1) = am_so (am_so (am_so (am_so (am_so H 149 (fun _ => 0)) 150 (fun _ => 0)) 151 (fun _ => 0)) 152 (fun _ => 0)) 149 (fillF (fun _ => 0) 0 ((j + 1 : Nat) : Int) (-1)) by
        unfold am_up
        rw [am_so_so, am_so_at, ← fillF_s, show (0 : Int) + (j : Int) = (j : Int) by omega]]
      exact ih
  have := hz1 0 (Nat.zero_le _)
  rw [show ((0 : Nat) : Int) = 0 from rfl, show am_so (am_so (am_so (am_so (am_so H 149 (fun _ => 0)) 150 (fun _ => 0)) 151 (fun _ => 0)) 152 (fun _ => 0)) 149 (fillF (fun _ => 0) 0 0 (-1)) = am_so (am_so (am_so (am_so H 149 (fun _ => 0)) 150 (fun _ => 0)) 151 (fun _ => 0)) 152 (fun _ => 0) by rw [fillF_0]; exact am_so_self (am_so (am_so (am_so (am_so H 149 (fun _ => 0)) 150 (fun _ => 0)) 151 (fun _ => 0)) 152 (fun _ => 0)) 149] at this
  exact this
theorem r_Growths_init_153 {d N : Nat} {P : am_P} {H : am_H}   : am_R (d + 1) 150 [am_r 153] (154, P, H) none (159, iPGrowths P 153, iHGrowths H 153) := by
  refine am_en1 (d := d + 0) (ml := 1) (ls := [_]) cq_Growths_init rfl (Nat.le_of_ble_eq_true rfl) rfl ?_
  refine st_aload_n rfl rfl (by decide) ?_
  refine st_obj rfl (by decide) (Nat.le_of_ble_eq_true rfl) ?_
  refine st_aload_n rfl rfl (by decide) ?_
  refine st_bipush rfl ?_
  refine st_newarray rfl (by decide) (by decide) rfl ?_
  refine st_putR (kk := 1) rfl rfl rfl (by decide) rfl ?_
  refine st_aload_n rfl rfl (by decide) ?_
  refine st_bipush rfl ?_
  refine st_newarray rfl (by decide) (by decide) rfl ?_
  refine st_putR (kk := 2) rfl rfl rfl (by decide) rfl ?_
  refine st_aload_n rfl rfl (by decide) ?_
  refine st_bipush rfl ?_
  refine st_newarray rfl (by decide) (by decide) rfl ?_
  refine st_putR (kk := 3) rfl rfl rfl (by decide) rfl ?_
  refine st_aload_n rfl rfl (by decide) ?_
  refine st_bipush rfl ?_
  refine st_newarray rfl (by decide) (by decide) rfl ?_
  refine st_putR (kk := 4) rfl rfl rfl (by decide) rfl ?_
  refine st_aload_n rfl rfl (by decide) ?_
  refine st_sipush rfl ?_
  refine st_newarray rfl (by decide) (by decide) rfl ?_
  refine st_putR (kk := 5) rfl rfl rfl (by decide) rfl ?_
  refine st_ret rfl ?_
  exact ⟨rfl, rfl⟩
theorem r_State_init_130 {d N : Nat} {P : am_P} {H : am_H}   : am_R (d + 2) 228 [am_r 130] (131, P, H) none (159, iPS P 130, iHS H 130) := by
  refine am_en1 (d := d + 1) (ml := 1) (ls := [_]) cq_State_init rfl (Nat.le_of_ble_eq_true rfl) rfl ?_
  refine st_aload_n rfl rfl (by decide) ?_
  refine st_obj rfl (by decide) (Nat.le_of_ble_eq_true rfl) ?_
  refine st_aload_n rfl rfl (by decide) ?_
  refine st_new rfl rfl ?_
  refine st_dup rfl rfl ?_
  refine st_ci0 (w := [_, _]) rfl (by decide) (by decide) rfl (Nat.le_of_ble_eq_true rfl) (Nat.le_of_ble_eq_true rfl) rfl rfl (r_Marks_init_131 (N := 0)) ?_
  refine st_putR (kk := 0) rfl rfl rfl (by decide) rfl ?_
  refine st_aload_n rfl rfl (by decide) ?_
  refine st_new rfl rfl ?_
  refine st_dup rfl rfl ?_
  refine st_ci0 (w := [_, _]) rfl (by decide) (by decide) rfl (Nat.le_of_ble_eq_true rfl) (Nat.le_of_ble_eq_true rfl) rfl rfl (r_Stacks_init_134 (N := 0)) ?_
  refine st_putR (kk := 1) rfl rfl rfl (by decide) rfl ?_
  refine st_aload_n rfl rfl (by decide) ?_
  refine st_new rfl rfl ?_
  refine st_dup rfl rfl ?_
  refine st_ci0 (w := [_, _]) rfl (by decide) (by decide) rfl (Nat.le_of_ble_eq_true rfl) (Nat.le_of_ble_eq_true rfl) rfl rfl (r_Reading_init_146 (N := 0)) ?_
  refine st_putR (kk := 2) rfl rfl rfl (by decide) rfl ?_
  refine st_aload_n rfl rfl (by decide) ?_
  refine st_new rfl rfl ?_
  refine st_dup rfl rfl ?_
  refine st_ci0 (w := [_, _]) rfl (by decide) (by decide) rfl (Nat.le_of_ble_eq_true rfl) (Nat.le_of_ble_eq_true rfl) rfl rfl (r_Catalogue_init_148 (N := 0)) ?_
  refine st_putR (kk := 3) rfl rfl rfl (by decide) rfl ?_
  refine st_aload_n rfl rfl (by decide) ?_
  refine st_new rfl rfl ?_
  refine st_dup rfl rfl ?_
  refine st_ci0 (w := [_, _]) rfl (by decide) (by decide) rfl (Nat.le_of_ble_eq_true rfl) (Nat.le_of_ble_eq_true rfl) rfl rfl (r_Growths_init_153 (N := 0)) ?_
  refine st_putR (kk := 4) rfl rfl rfl (by decide) rfl ?_
  refine st_ret rfl ?_
  exact ⟨rfl, rfl⟩
theorem r_Marks_init_160 {d N : Nat} {P : am_P} {H : am_H}   : am_R (d + 1) 156 [am_r 160] (161, P, H) none (163, iPMarks P 160, iHMarks H 160) := by
  refine am_en1 (d := d + 0) (ml := 1) (ls := [_]) cq_Marks_init rfl (Nat.le_of_ble_eq_true rfl) rfl ?_
  refine st_aload_n rfl rfl (by decide) ?_
  refine st_obj rfl (by decide) (Nat.le_of_ble_eq_true rfl) ?_
  refine st_aload_n rfl rfl (by decide) ?_
  refine st_sipush rfl ?_
  refine st_newarray rfl (by decide) (by decide) rfl ?_
  refine st_putR (kk := 1) rfl rfl rfl (by decide) rfl ?_
  refine st_aload_n rfl rfl (by decide) ?_
  refine st_sipush rfl ?_
  refine st_newarray rfl (by decide) (by decide) rfl ?_
  refine st_putR (kk := 2) rfl rfl rfl (by decide) rfl ?_
  refine st_ret rfl ?_
  exact ⟨rfl, rfl⟩
theorem r_Stacks_init_163 {d N : Nat} {P : am_P} {H : am_H}   : am_R (d + 1) 208 [am_r 163] (164, P, H) none (175, iPStacks P 163, iHStacks H 163) := by
  refine am_en1 (d := d + 0) (ml := 1) (ls := [_]) cq_Stacks_init rfl (Nat.le_of_ble_eq_true rfl) rfl ?_
  refine st_aload_n rfl rfl (by decide) ?_
  refine st_obj rfl (by decide) (Nat.le_of_ble_eq_true rfl) ?_
  refine st_aload_n rfl rfl (by decide) ?_
  refine st_bipush rfl ?_
  refine st_newarray rfl (by decide) (by decide) rfl ?_
  refine st_putR (kk := 1) rfl rfl rfl (by decide) rfl ?_
  refine st_aload_n rfl rfl (by decide) ?_
  refine st_bipush rfl ?_
  refine st_newarray rfl (by decide) (by decide) rfl ?_
  refine st_putR (kk := 2) rfl rfl rfl (by decide) rfl ?_
  refine st_aload_n rfl rfl (by decide) ?_
  refine st_sipush rfl ?_
  refine st_newarray rfl (by decide) (by decide) rfl ?_
  refine st_putR (kk := 3) rfl rfl rfl (by decide) rfl ?_
  refine st_aload_n rfl rfl (by decide) ?_
  refine st_sipush rfl ?_
  refine st_newarray rfl (by decide) (by decide) rfl ?_
  refine st_putR (kk := 5) rfl rfl rfl (by decide) rfl ?_
  refine st_aload_n rfl rfl (by decide) ?_
  refine st_sipush rfl ?_
  refine st_newarray rfl (by decide) (by decide) rfl ?_
  refine st_putR (kk := 6) rfl rfl rfl (by decide) rfl ?_
  refine st_aload_n rfl rfl (by decide) ?_
  refine st_sipush rfl ?_
  refine st_newarray rfl (by decide) (by decide) rfl ?_
  refine st_putR (kk := 7) rfl rfl rfl (by decide) rfl ?_
  refine st_aload_n rfl rfl (by decide) ?_
  refine st_sipush rfl ?_
  refine st_newarray rfl (by decide) (by decide) rfl ?_
  refine st_putR (kk := 8) rfl rfl rfl (by decide) rfl ?_
  refine st_aload_n rfl rfl (by decide) ?_
  refine st_sipush rfl ?_
  refine st_newarray rfl (by decide) (by decide) rfl ?_
  refine st_putR (kk := 9) rfl rfl rfl (by decide) rfl ?_
  refine st_aload_n rfl rfl (by decide) ?_
  refine st_sipush rfl ?_
  refine st_newarray rfl (by decide) (by decide) rfl ?_
  refine st_putR (kk := 10) rfl rfl rfl (by decide) rfl ?_
  refine st_aload_n rfl rfl (by decide) ?_
  refine st_sipush rfl ?_
  refine st_newarray rfl (by decide) (by decide) rfl ?_
  refine st_putR (kk := 11) rfl rfl rfl (by decide) rfl ?_
  refine st_aload_n rfl rfl (by decide) ?_
  refine st_sipush rfl ?_
  refine st_newarray rfl (by decide) (by decide) rfl ?_
  refine st_putR (kk := 12) rfl rfl rfl (by decide) rfl ?_
  refine st_ret rfl ?_
  exact ⟨rfl, rfl⟩
theorem r_Reading_init_175 {d N : Nat} {P : am_P} {H : am_H}   : am_R (d + 1) 182 [am_r 175] (176, P, H) none (177, iPReading P 175, iHReading H 175) := by
  refine am_en1 (d := d + 0) (ml := 1) (ls := [_]) cq_Reading_init rfl (Nat.le_of_ble_eq_true rfl) rfl ?_
  refine st_aload_n rfl rfl (by decide) ?_
  refine st_obj rfl (by decide) (Nat.le_of_ble_eq_true rfl) ?_
  refine st_aload_n rfl rfl (by decide) ?_
  refine st_iconst rfl ?_
  refine st_putI (kk := 0) rfl rfl rfl rfl ?_
  refine st_aload_n rfl rfl (by decide) ?_
  refine st_bipush rfl ?_
  refine st_newarray rfl (by decide) (by decide) rfl ?_
  refine st_putR (kk := 2) rfl rfl rfl (by decide) rfl ?_
  refine st_ret rfl ?_
  exact ⟨rfl, rfl⟩
theorem r_Catalogue_init_177 {d N : Nat} {P : am_P} {H : am_H}   : am_R (d + 1) 137 [am_r 177] (178, P, H) none (182, iPCatalogue P 177, iHCatalogue H 177) := by
  refine am_en1 (d := d + 0) (ml := 2) (ls := [_, _]) cq_Catalogue_init rfl (Nat.le_of_ble_eq_true rfl) rfl ?_
  refine st_aload_n rfl rfl (by decide) ?_
  refine st_obj rfl (by decide) (Nat.le_of_ble_eq_true rfl) ?_
  refine st_aload_n rfl rfl (by decide) ?_
  refine st_sipush rfl ?_
  refine st_newarray rfl (by decide) (by decide) rfl ?_
  refine st_putR (kk := 1) rfl rfl rfl (by decide) rfl ?_
  refine st_aload_n rfl rfl (by decide) ?_
  refine st_sipush rfl ?_
  refine st_newarray rfl (by decide) (by decide) rfl ?_
  refine st_putR (kk := 2) rfl rfl rfl (by decide) rfl ?_
  refine st_aload_n rfl rfl (by decide) ?_
  refine st_bipush rfl ?_
  refine st_newarray rfl (by decide) (by decide) rfl ?_
  refine st_putR (kk := 3) rfl rfl rfl (by decide) rfl ?_
  refine st_aload_n rfl rfl (by decide) ?_
  refine st_sipush rfl ?_
  refine st_newarray rfl (by decide) (by decide) rfl ?_
  refine st_putR (kk := 4) rfl rfl rfl (by decide) rfl ?_
  refine st_iconst rfl ?_
  refine st_istore_n (ls' := [_, _]) rfl (Nat.le_of_ble_eq_true rfl) rfl ?_
  have hz2 : ∀ j : Nat, j ≤ 16 → am_WP (am_R (d + 0)) cd_Catalogue_init (fun v' s' => v' = none ∧ s' = (182, iPCatalogue P 177, iHCatalogue H 177)) 32 [some (am_r 177), some (am_i (j : Int))] [] (182, iPCatalogue P 177, am_so (am_so (am_so (am_so (am_so (am_so H 178 (fun _ => 0)) 179 (fun _ => 0)) 180 (fun _ => 0)) 181 (fun _ => 0)) 178 (fillF (fun _ => 0) 0 200 (-1))) 180 (fillF (fun _ => 0) 0 (j : Int) (-1))) := by
    refine up_ind (n := 16) ?_ ?_
    · refine st_iload_n rfl rfl ?_
      refine st_bipush rfl ?_
      refine st_icmp_ge rfl (fun h34 => ?_) (fun h34 => (by exfalso; omega))
      refine st_ret rfl ?_
      exact ⟨rfl, rfl⟩
    · intro j hj ih
      refine st_iload_n rfl rfl ?_
      refine st_bipush rfl ?_
      refine st_icmp_ge rfl (fun h34 => (by exfalso; omega)) (fun h34 => ?_)
      refine st_aload_n rfl rfl (by decide) ?_
      refine st_getR (kk := 3) (p := 180) rfl rfl rfl (iPCatalogue_3 P 177) rfl ?_
      refine st_iload_n rfl rfl ?_
      refine st_iconst rfl ?_
      refine st_iastore rfl rfl (by omega) (by omega) ?_
      refine st_iinc (ls' := [_, _]) rfl rfl (by omega) rfl ?_
      refine st_goto rfl ?_
      rw [show am_up (am_so (am_so (am_so (am_so (am_so (am_so H 178 (fun _ => 0)) 179 (fun _ => 0)) 180 (fun _ => 0)) 181 (fun _ => 0)) 178 (fillF (fun _ => 0) 0 200 (-1))) 180 (fillF (fun _ => 0) 0 (j : Int) (-1))) 180 (j : Int) (-1) = am_so (am_so (am_so (am_so (am_so (am_so H 178 (fun _ => 0)) 179 (fun _ => 0)) 180 (fun _ => 0)) 181 (fun _ => 0)) 178 (fillF (fun _ => 0) 0 200 (-1))) 180 (fillF (fun _ => 0) 0 ((j + 1 : Nat) : Int) (-1)) by
        unfold am_up
        rw [am_so_so, am_so_at, ← fillF_s, show (0 : Int) + (j : Int) = (j : Int) by omega]]
      exact ih
  have hz1 : ∀ j : Nat, j ≤ 200 → am_WP (am_R (d + 0)) cd_Catalogue_init (fun v' s' => v' = none ∧ s' = (182, iPCatalogue P 177, iHCatalogue H 177)) 20 [some (am_r 177), some (am_i (j : Int))] [] (182, iPCatalogue P 177, am_so (am_so (am_so (am_so (am_so H 178 (fun _ => 0)) 179 (fun _ => 0)) 180 (fun _ => 0)) 181 (fun _ => 0)) 178 (fillF (fun _ => 0) 0 (j : Int) (-1))) := by
    refine up_ind (n := 200) ?_ ?_
    · refine st_iload_n rfl rfl ?_
      refine st_sipush rfl ?_
      refine st_icmp_ge rfl (fun h22 => ?_) (fun h22 => (by exfalso; omega))
      refine st_iconst rfl ?_
      refine st_istore_n (ls' := [_, _]) rfl (Nat.le_of_ble_eq_true rfl) rfl ?_
      have := hz2 0 (Nat.zero_le _)
      rw [show ((0 : Nat) : Int) = 0 from rfl, show am_so (am_so (am_so (am_so (am_so (am_so H 178 (fun _ => 0)) 179 (fun _ => 0)) 180 (fun _ => 0)) 181 (fun _ => 0)) 178 (fillF (fun _ => 0) 0 200 (-1))) 180 (fillF (fun _ => 0) 0 0 (-1)) = am_so (am_so (am_so (am_so (am_so H 178 (fun _ => 0)) 179 (fun _ => 0)) 180 (fun _ => 0)) 181 (fun _ => 0)) 178 (fillF (fun _ => 0) 0 200 (-1)) by rw [fillF_0]; exact am_so_self (am_so (am_so (am_so (am_so (am_so H 178 (fun _ => 0)) 179 (fun _ => 0)) 180 (fun _ => 0)) 181 (fun _ => 0)) 178 (fillF (fun _ => 0) 0 200 (-1))) 180] at this
      exact this
    · intro j hj ih
      refine st_iload_n rfl rfl ?_
      refine st_sipush rfl ?_
      refine st_icmp_ge rfl (fun h22 => (by exfalso; omega)) (fun h22 => ?_)
      refine st_aload_n rfl rfl (by decide) ?_
      refine st_getR (kk := 1) (p := 178) rfl rfl rfl (iPCatalogue_1 P 177) rfl ?_
      refine st_iload_n rfl rfl ?_
      refine st_iconst rfl ?_
      refine st_iastore rfl rfl (by omega) (by omega) ?_
      refine st_iinc (ls' := [_, _]) rfl rfl (by omega) rfl ?_
      refine st_goto rfl ?_
      rw [show am_up (am_so (am_so (am_so (am_so (am_so H 178 (fun _ => 0)) 179 (fun _ => 0)) 180 (fun _ => 0)) 181 (fun _ => 0)) 178 (fillF (fun _ => 0) 0 (j : Int) (-1))) 178 (j : Int) (-1) = am_so (am_so (am_so (am_so (am_so H 178 (fun _ => 0)) 179 (fun _ => 0)) 180 (fun _ => 0)) 181 (fun _ => 0)) 178 (fillF (fun _ => 0) 0 ((j + 1 : Nat) : Int) (-1)) by
        unfold am_up
        rw [am_so_so, am_so_at, ← fillF_s, show (0 : Int) + (j : Int) = (j : Int) by omega]]
      exact ih
  have := hz1 0 (Nat.zero_le _)
  rw [show ((0 : Nat) : Int) = 0 from rfl, show am_so (am_so (am_so (am_so (am_so H 178 (fun _ => 0)) 179 (fun _ => 0)) 180 (fun _ => 0)) 181 (fun _ => 0)) 178 (fillF (fun _ => 0) 0 0 (-1)) = am_so (am_so (am_so (am_so H 178 (fun _ => 0)) 179 (fun _ => 0)) 180 (fun _ => 0)) 181 (fun _ => 0) by rw [fillF_0]; exact am_so_self (am_so (am_so (am_so (am_so H 178 (fun _ => 0)) 179 (fun _ => 0)) 180 (fun _ => 0)) 181 (fun _ => 0)) 178] at this
  exact this
theorem r_Growths_init_182 {d N : Nat} {P : am_P} {H : am_H}   : am_R (d + 1) 150 [am_r 182] (183, P, H) none (188, iPGrowths P 182, iHGrowths H 182) := by
  refine am_en1 (d := d + 0) (ml := 1) (ls := [_]) cq_Growths_init rfl (Nat.le_of_ble_eq_true rfl) rfl ?_
  refine st_aload_n rfl rfl (by decide) ?_
  refine st_obj rfl (by decide) (Nat.le_of_ble_eq_true rfl) ?_
  refine st_aload_n rfl rfl (by decide) ?_
  refine st_bipush rfl ?_
  refine st_newarray rfl (by decide) (by decide) rfl ?_
  refine st_putR (kk := 1) rfl rfl rfl (by decide) rfl ?_
  refine st_aload_n rfl rfl (by decide) ?_
  refine st_bipush rfl ?_
  refine st_newarray rfl (by decide) (by decide) rfl ?_
  refine st_putR (kk := 2) rfl rfl rfl (by decide) rfl ?_
  refine st_aload_n rfl rfl (by decide) ?_
  refine st_bipush rfl ?_
  refine st_newarray rfl (by decide) (by decide) rfl ?_
  refine st_putR (kk := 3) rfl rfl rfl (by decide) rfl ?_
  refine st_aload_n rfl rfl (by decide) ?_
  refine st_bipush rfl ?_
  refine st_newarray rfl (by decide) (by decide) rfl ?_
  refine st_putR (kk := 4) rfl rfl rfl (by decide) rfl ?_
  refine st_aload_n rfl rfl (by decide) ?_
  refine st_sipush rfl ?_
  refine st_newarray rfl (by decide) (by decide) rfl ?_
  refine st_putR (kk := 5) rfl rfl rfl (by decide) rfl ?_
  refine st_ret rfl ?_
  exact ⟨rfl, rfl⟩
theorem r_State_init_159 {d N : Nat} {P : am_P} {H : am_H}   : am_R (d + 2) 228 [am_r 159] (160, P, H) none (188, iPS P 159, iHS H 159) := by
  refine am_en1 (d := d + 1) (ml := 1) (ls := [_]) cq_State_init rfl (Nat.le_of_ble_eq_true rfl) rfl ?_
  refine st_aload_n rfl rfl (by decide) ?_
  refine st_obj rfl (by decide) (Nat.le_of_ble_eq_true rfl) ?_
  refine st_aload_n rfl rfl (by decide) ?_
  refine st_new rfl rfl ?_
  refine st_dup rfl rfl ?_
  refine st_ci0 (w := [_, _]) rfl (by decide) (by decide) rfl (Nat.le_of_ble_eq_true rfl) (Nat.le_of_ble_eq_true rfl) rfl rfl (r_Marks_init_160 (N := 0)) ?_
  refine st_putR (kk := 0) rfl rfl rfl (by decide) rfl ?_
  refine st_aload_n rfl rfl (by decide) ?_
  refine st_new rfl rfl ?_
  refine st_dup rfl rfl ?_
  refine st_ci0 (w := [_, _]) rfl (by decide) (by decide) rfl (Nat.le_of_ble_eq_true rfl) (Nat.le_of_ble_eq_true rfl) rfl rfl (r_Stacks_init_163 (N := 0)) ?_
  refine st_putR (kk := 1) rfl rfl rfl (by decide) rfl ?_
  refine st_aload_n rfl rfl (by decide) ?_
  refine st_new rfl rfl ?_
  refine st_dup rfl rfl ?_
  refine st_ci0 (w := [_, _]) rfl (by decide) (by decide) rfl (Nat.le_of_ble_eq_true rfl) (Nat.le_of_ble_eq_true rfl) rfl rfl (r_Reading_init_175 (N := 0)) ?_
  refine st_putR (kk := 2) rfl rfl rfl (by decide) rfl ?_
  refine st_aload_n rfl rfl (by decide) ?_
  refine st_new rfl rfl ?_
  refine st_dup rfl rfl ?_
  refine st_ci0 (w := [_, _]) rfl (by decide) (by decide) rfl (Nat.le_of_ble_eq_true rfl) (Nat.le_of_ble_eq_true rfl) rfl rfl (r_Catalogue_init_177 (N := 0)) ?_
  refine st_putR (kk := 3) rfl rfl rfl (by decide) rfl ?_
  refine st_aload_n rfl rfl (by decide) ?_
  refine st_new rfl rfl ?_
  refine st_dup rfl rfl ?_
  refine st_ci0 (w := [_, _]) rfl (by decide) (by decide) rfl (Nat.le_of_ble_eq_true rfl) (Nat.le_of_ble_eq_true rfl) rfl rfl (r_Growths_init_182 (N := 0)) ?_
  refine st_putR (kk := 4) rfl rfl rfl (by decide) rfl ?_
  refine st_ret rfl ?_
  exact ⟨rfl, rfl⟩
theorem r_Sequence_init_40 {d N : Nat} {P : am_P} {H : am_H}   : am_R (d + 1) 190 [am_r 40] (41, P, H) none (43, iPSequence P 40, iHSequence H 40) := by
  refine am_en1 (d := d + 0) (ml := 1) (ls := [_]) cq_Sequence_init rfl (Nat.le_of_ble_eq_true rfl) rfl ?_
  refine st_aload_n rfl rfl (by decide) ?_
  refine st_obj rfl (by decide) (Nat.le_of_ble_eq_true rfl) ?_
  refine st_aload_n rfl rfl (by decide) ?_
  refine st_bipush rfl ?_
  refine st_newarray rfl (by decide) (by decide) rfl ?_
  refine st_putR (kk := 2) rfl rfl rfl (by decide) rfl ?_
  refine st_aload_n rfl rfl (by decide) ?_
  refine st_bipush rfl ?_
  refine st_newarray rfl (by decide) (by decide) rfl ?_
  refine st_putR (kk := 3) rfl rfl rfl (by decide) rfl ?_
  refine st_ret rfl ?_
  exact ⟨rfl, rfl⟩
theorem r_Shifter_init_43 {d N : Nat} {P : am_P} {H : am_H}   : am_R (d + 1) 197 [am_r 43] (44, P, H) none (53, iPShifter P 43, iHShifter H 43) := by
  refine am_en1 (d := d + 0) (ml := 1) (ls := [_]) cq_Shifter_init rfl (Nat.le_of_ble_eq_true rfl) rfl ?_
  refine st_aload_n rfl rfl (by decide) ?_
  refine st_obj rfl (by decide) (Nat.le_of_ble_eq_true rfl) ?_
  refine st_aload_n rfl rfl (by decide) ?_
  refine st_sipush rfl ?_
  refine st_newarray rfl (by decide) (by decide) rfl ?_
  refine st_putR (kk := 1) rfl rfl rfl (by decide) rfl ?_
  refine st_aload_n rfl rfl (by decide) ?_
  refine st_sipush rfl ?_
  refine st_newarray rfl (by decide) (by decide) rfl ?_
  refine st_putR (kk := 2) rfl rfl rfl (by decide) rfl ?_
  refine st_aload_n rfl rfl (by decide) ?_
  refine st_sipush rfl ?_
  refine st_newarray rfl (by decide) (by decide) rfl ?_
  refine st_putR (kk := 3) rfl rfl rfl (by decide) rfl ?_
  refine st_aload_n rfl rfl (by decide) ?_
  refine st_sipush rfl ?_
  refine st_newarray rfl (by decide) (by decide) rfl ?_
  refine st_putR (kk := 4) rfl rfl rfl (by decide) rfl ?_
  refine st_aload_n rfl rfl (by decide) ?_
  refine st_sipush rfl ?_
  refine st_newarray rfl (by decide) (by decide) rfl ?_
  refine st_putR (kk := 5) rfl rfl rfl (by decide) rfl ?_
  refine st_aload_n rfl rfl (by decide) ?_
  refine st_sipush rfl ?_
  refine st_newarray rfl (by decide) (by decide) rfl ?_
  refine st_putR (kk := 6) rfl rfl rfl (by decide) rfl ?_
  refine st_aload_n rfl rfl (by decide) ?_
  refine st_sipush rfl ?_
  refine st_newarray rfl (by decide) (by decide) rfl ?_
  refine st_putR (kk := 7) rfl rfl rfl (by decide) rfl ?_
  refine st_aload_n rfl rfl (by decide) ?_
  refine st_bipush rfl ?_
  refine st_newarray rfl (by decide) (by decide) rfl ?_
  refine st_putR (kk := 13) rfl rfl rfl (by decide) rfl ?_
  refine st_aload_n rfl rfl (by decide) ?_
  refine st_sipush rfl ?_
  refine st_newarray rfl (by decide) (by decide) rfl ?_
  refine st_putR (kk := 14) rfl rfl rfl (by decide) rfl ?_
  refine st_ret rfl ?_
  exact ⟨rfl, rfl⟩
