-- ===== PART A: goes FIRST, ahead of the names: the tables' words, and 'selects' of the private methods out of them =====
/-- a private method of a class that the tables say can be made, by its rows of tables_1 -/
def lw_okq (q : MethodName × Nat) : Prop := (q.1.cls ≠ "java/lang/invoke/MethodHandle" ∧ q.1.cls ≠ "java/lang/invoke/VarHandle") ∧ Cond.instantiable q.1.cls q.2 ∈ tables_1 ∧ Cond.privateMethod q.1 ∈ tables_1 ∧ Cond.instanceMethod q.1 ∈ tables_1
theorem lw_p0 : lw_okq (⟨"ShelfCart$TextReader", "isJoined", "(I)Z"⟩, 7) := ⟨⟨by decide +kernel, by decide +kernel⟩, List.mem_of_getElem? (i := 26) (by decide +kernel), List.mem_of_getElem? (i := 376) (by decide +kernel), List.mem_of_getElem? (i := 377) (by decide +kernel)⟩
theorem lw_p1 : lw_okq (⟨"ShelfCart$TextReader", "next", "()I"⟩, 7) := ⟨⟨by decide +kernel, by decide +kernel⟩, List.mem_of_getElem? (i := 26) (by decide +kernel), List.mem_of_getElem? (i := 380) (by decide +kernel), List.mem_of_getElem? (i := 381) (by decide +kernel)⟩
theorem lw_p2 : lw_okq (⟨"ShelfCart$TextReader", "takeBlank", "(I)Z"⟩, 7) := ⟨⟨by decide +kernel, by decide +kernel⟩, List.mem_of_getElem? (i := 26) (by decide +kernel), List.mem_of_getElem? (i := 387) (by decide +kernel), List.mem_of_getElem? (i := 388) (by decide +kernel)⟩
theorem lw_p3 : lw_okq (⟨"ShelfCart$TextReader", "takePart", "(IZ)Z"⟩, 7) := ⟨⟨by decide +kernel, by decide +kernel⟩, List.mem_of_getElem? (i := 26) (by decide +kernel), List.mem_of_getElem? (i := 391) (by decide +kernel), List.mem_of_getElem? (i := 392) (by decide +kernel)⟩
theorem lw_p4 : lw_okq (⟨"ShelfCart$TextReader", "takeLetters", "()Z"⟩, 7) := ⟨⟨by decide +kernel, by decide +kernel⟩, List.mem_of_getElem? (i := 26) (by decide +kernel), List.mem_of_getElem? (i := 398) (by decide +kernel), List.mem_of_getElem? (i := 399) (by decide +kernel)⟩
theorem lw_p5 : lw_okq (⟨"ShelfCart$TextReader", "keep", "(IIII)V"⟩, 7) := ⟨⟨by decide +kernel, by decide +kernel⟩, List.mem_of_getElem? (i := 26) (by decide +kernel), List.mem_of_getElem? (i := 402) (by decide +kernel), List.mem_of_getElem? (i := 403) (by decide +kernel)⟩
theorem lw_p6 : lw_okq (⟨"ShelfCart$TextReader", "takeWhole", "()Z"⟩, 7) := ⟨⟨by decide +kernel, by decide +kernel⟩, List.mem_of_getElem? (i := 26) (by decide +kernel), List.mem_of_getElem? (i := 409) (by decide +kernel), List.mem_of_getElem? (i := 410) (by decide +kernel)⟩
theorem lw_p7 : lw_okq (⟨"ShelfCart$TextReader", "takeDigits", "(I)V"⟩, 7) := ⟨⟨by decide +kernel, by decide +kernel⟩, List.mem_of_getElem? (i := 26) (by decide +kernel), List.mem_of_getElem? (i := 413) (by decide +kernel), List.mem_of_getElem? (i := 414) (by decide +kernel)⟩
theorem lw_p8 : lw_okq (⟨"ShelfCart$TextReader", "takePoint", "(IZ)Z"⟩, 7) := ⟨⟨by decide +kernel, by decide +kernel⟩, List.mem_of_getElem? (i := 26) (by decide +kernel), List.mem_of_getElem? (i := 417) (by decide +kernel), List.mem_of_getElem? (i := 418) (by decide +kernel)⟩
theorem lw_p9 : lw_okq (⟨"ShelfCart$TextReader", "takeFraction", "(III)Z"⟩, 7) := ⟨⟨by decide +kernel, by decide +kernel⟩, List.mem_of_getElem? (i := 26) (by decide +kernel), List.mem_of_getElem? (i := 421) (by decide +kernel), List.mem_of_getElem? (i := 422) (by decide +kernel)⟩
theorem lw_p10 : lw_okq (⟨"ShelfCart$TextReader", "takeYear", "()Z"⟩, 7) := ⟨⟨by decide +kernel, by decide +kernel⟩, List.mem_of_getElem? (i := 26) (by decide +kernel), List.mem_of_getElem? (i := 425) (by decide +kernel), List.mem_of_getElem? (i := 426) (by decide +kernel)⟩
theorem lw_p11 : lw_okq (⟨"ShelfCart$TextReader", "takeNumber", "(I)Z"⟩, 7) := ⟨⟨by decide +kernel, by decide +kernel⟩, List.mem_of_getElem? (i := 26) (by decide +kernel), List.mem_of_getElem? (i := 429) (by decide +kernel), List.mem_of_getElem? (i := 430) (by decide +kernel)⟩
theorem lw_p12 : lw_okq (⟨"ShelfCart$Marks", "beginsWith", "(I[JI)Z"⟩, 3) := ⟨⟨by decide +kernel, by decide +kernel⟩, List.mem_of_getElem? (i := 85) (by decide +kernel), List.mem_of_getElem? (i := 451) (by decide +kernel), List.mem_of_getElem? (i := 452) (by decide +kernel)⟩
theorem lw_p13 : lw_okq (⟨"ShelfCart$Stacks", "setThing", "(III)V"⟩, 13) := ⟨⟨by decide +kernel, by decide +kernel⟩, List.mem_of_getElem? (i := 102) (by decide +kernel), List.mem_of_getElem? (i := 580) (by decide +kernel), List.mem_of_getElem? (i := 581) (by decide +kernel)⟩
theorem lw_p14 : lw_okq (⟨"ShelfCart$Stacks", "hasPlace", "(II)Z"⟩, 13) := ⟨⟨by decide +kernel, by decide +kernel⟩, List.mem_of_getElem? (i := 102) (by decide +kernel), List.mem_of_getElem? (i := 584) (by decide +kernel), List.mem_of_getElem? (i := 585) (by decide +kernel)⟩
theorem lw_p15 : lw_okq (⟨"ShelfCart$Stacks", "notePlace", "(III)V"⟩, 13) := ⟨⟨by decide +kernel, by decide +kernel⟩, List.mem_of_getElem? (i := 102) (by decide +kernel), List.mem_of_getElem? (i := 600) (by decide +kernel), List.mem_of_getElem? (i := 601) (by decide +kernel)⟩
def lw_privs_1 : List (MethodName × Nat) := [(⟨"ShelfCart$TextReader", "isJoined", "(I)Z"⟩, 7), (⟨"ShelfCart$TextReader", "next", "()I"⟩, 7), (⟨"ShelfCart$TextReader", "takeBlank", "(I)Z"⟩, 7), (⟨"ShelfCart$TextReader", "takePart", "(IZ)Z"⟩, 7), (⟨"ShelfCart$TextReader", "takeLetters", "()Z"⟩, 7), (⟨"ShelfCart$TextReader", "keep", "(IIII)V"⟩, 7), (⟨"ShelfCart$TextReader", "takeWhole", "()Z"⟩, 7), (⟨"ShelfCart$TextReader", "takeDigits", "(I)V"⟩, 7), (⟨"ShelfCart$TextReader", "takePoint", "(IZ)Z"⟩, 7), (⟨"ShelfCart$TextReader", "takeFraction", "(III)Z"⟩, 7), (⟨"ShelfCart$TextReader", "takeYear", "()Z"⟩, 7), (⟨"ShelfCart$TextReader", "takeNumber", "(I)Z"⟩, 7), (⟨"ShelfCart$Marks", "beginsWith", "(I[JI)Z"⟩, 3), (⟨"ShelfCart$Stacks", "setThing", "(III)V"⟩, 13), (⟨"ShelfCart$Stacks", "hasPlace", "(II)Z"⟩, 13), (⟨"ShelfCart$Stacks", "notePlace", "(III)V"⟩, 13)]
theorem lw_r1 : ∀ q ∈ lw_privs_1, lw_okq q := List.forall_mem_cons.mpr ⟨lw_p0, List.forall_mem_cons.mpr ⟨lw_p1, List.forall_mem_cons.mpr ⟨lw_p2, List.forall_mem_cons.mpr ⟨lw_p3, List.forall_mem_cons.mpr ⟨lw_p4, List.forall_mem_cons.mpr ⟨lw_p5, List.forall_mem_cons.mpr ⟨lw_p6, List.forall_mem_cons.mpr ⟨lw_p7, List.forall_mem_cons.mpr ⟨lw_p8, List.forall_mem_cons.mpr ⟨lw_p9, List.forall_mem_cons.mpr ⟨lw_p10, List.forall_mem_cons.mpr ⟨lw_p11, List.forall_mem_cons.mpr ⟨lw_p12, List.forall_mem_cons.mpr ⟨lw_p13, List.forall_mem_cons.mpr ⟨lw_p14, List.forall_mem_cons.mpr ⟨lw_p15, fun _ h => absurd h List.not_mem_nil⟩⟩⟩⟩⟩⟩⟩⟩⟩⟩⟩⟩⟩⟩⟩⟩
theorem lw_p16 : lw_okq (⟨"ShelfCart$Growths", "isOf", "(IILShelfCart$Marks;)Z"⟩, 6) := ⟨⟨by decide +kernel, by decide +kernel⟩, List.mem_of_getElem? (i := 205) (by decide +kernel), List.mem_of_getElem? (i := 670) (by decide +kernel), List.mem_of_getElem? (i := 671) (by decide +kernel)⟩
theorem lw_p17 : lw_okq (⟨"ShelfCart$Sequence", "longestFrom", "(ILShelfCart$State;)I"⟩, 4) := ⟨⟨by decide +kernel, by decide +kernel⟩, List.mem_of_getElem? (i := 262) (by decide +kernel), List.mem_of_getElem? (i := 728) (by decide +kernel), List.mem_of_getElem? (i := 729) (by decide +kernel)⟩
theorem lw_p18 : lw_okq (⟨"ShelfCart$Sequence", "chooseRights", "(LShelfCart$State;)V"⟩, 4) := ⟨⟨by decide +kernel, by decide +kernel⟩, List.mem_of_getElem? (i := 262) (by decide +kernel), List.mem_of_getElem? (i := 738) (by decide +kernel), List.mem_of_getElem? (i := 739) (by decide +kernel)⟩
theorem lw_p19 : lw_okq (⟨"ShelfCart", "isInOrder", "(LShelfCart$Reading;)Z"⟩, 7) := ⟨⟨by decide +kernel, by decide +kernel⟩, List.mem_of_getElem? (i := 18) (by decide +kernel), List.mem_of_getElem? (i := 769) (by decide +kernel), List.mem_of_getElem? (i := 770) (by decide +kernel)⟩
theorem lw_p20 : lw_okq (⟨"ShelfCart$Catalogue", "traceMark", "(II)V"⟩, 5) := ⟨⟨by decide +kernel, by decide +kernel⟩, List.mem_of_getElem? (i := 182) (by decide +kernel), List.mem_of_getElem? (i := 792) (by decide +kernel), List.mem_of_getElem? (i := 793) (by decide +kernel)⟩
theorem lw_p21 : lw_okq (⟨"ShelfCart$Catalogue", "isGone", "(II)Z"⟩, 5) := ⟨⟨by decide +kernel, by decide +kernel⟩, List.mem_of_getElem? (i := 182) (by decide +kernel), List.mem_of_getElem? (i := 799) (by decide +kernel), List.mem_of_getElem? (i := 800) (by decide +kernel)⟩
theorem lw_p22 : lw_okq (⟨"ShelfCart$Catalogue", "timesRead", "(II)I"⟩, 5) := ⟨⟨by decide +kernel, by decide +kernel⟩, List.mem_of_getElem? (i := 182) (by decide +kernel), List.mem_of_getElem? (i := 811) (by decide +kernel), List.mem_of_getElem? (i := 812) (by decide +kernel)⟩
theorem lw_p23 : lw_okq (⟨"ShelfCart", "firstFullYear", "(I)I"⟩, 7) := ⟨⟨by decide +kernel, by decide +kernel⟩, List.mem_of_getElem? (i := 18) (by decide +kernel), List.mem_of_getElem? (i := 869) (by decide +kernel), List.mem_of_getElem? (i := 870) (by decide +kernel)⟩
theorem lw_p24 : lw_okq (⟨"ShelfCart", "isFloor", "(II)Z"⟩, 7) := ⟨⟨by decide +kernel, by decide +kernel⟩, List.mem_of_getElem? (i := 18) (by decide +kernel), List.mem_of_getElem? (i := 877) (by decide +kernel), List.mem_of_getElem? (i := 878) (by decide +kernel)⟩
theorem lw_p25 : lw_okq (⟨"ShelfCart$Shifter", "gather", "(LShelfCart$Stacks;II)V"⟩, 15) := ⟨⟨by decide +kernel, by decide +kernel⟩, List.mem_of_getElem? (i := 282) (by decide +kernel), List.mem_of_getElem? (i := 885) (by decide +kernel), List.mem_of_getElem? (i := 886) (by decide +kernel)⟩
theorem lw_p26 : lw_okq (⟨"ShelfCart$Shifter", "findEnds", "(LShelfCart$State;III)V"⟩, 15) := ⟨⟨by decide +kernel, by decide +kernel⟩, List.mem_of_getElem? (i := 282) (by decide +kernel), List.mem_of_getElem? (i := 892) (by decide +kernel), List.mem_of_getElem? (i := 893) (by decide +kernel)⟩
theorem lw_p27 : lw_okq (⟨"ShelfCart$Marks", "lengthOfWork", "(I)I"⟩, 3) := ⟨⟨by decide +kernel, by decide +kernel⟩, List.mem_of_getElem? (i := 85) (by decide +kernel), List.mem_of_getElem? (i := 902) (by decide +kernel), List.mem_of_getElem? (i := 903) (by decide +kernel)⟩
theorem lw_p28 : lw_okq (⟨"ShelfCart$Shifter", "markEnds", "(IIZ)V"⟩, 15) := ⟨⟨by decide +kernel, by decide +kernel⟩, List.mem_of_getElem? (i := 282) (by decide +kernel), List.mem_of_getElem? (i := 906) (by decide +kernel), List.mem_of_getElem? (i := 907) (by decide +kernel)⟩
theorem lw_p29 : lw_okq (⟨"ShelfCart$Shifter", "fill", "(III)V"⟩, 15) := ⟨⟨by decide +kernel, by decide +kernel⟩, List.mem_of_getElem? (i := 282) (by decide +kernel), List.mem_of_getElem? (i := 911) (by decide +kernel), List.mem_of_getElem? (i := 912) (by decide +kernel)⟩
theorem lw_p30 : lw_okq (⟨"ShelfCart$Shifter", "keepPlan", "(LShelfCart$Stacks;II)V"⟩, 15) := ⟨⟨by decide +kernel, by decide +kernel⟩, List.mem_of_getElem? (i := 282) (by decide +kernel), List.mem_of_getElem? (i := 915) (by decide +kernel), List.mem_of_getElem? (i := 916) (by decide +kernel)⟩
theorem lw_p31 : lw_okq (⟨"ShelfCart$Shifter", "isAsThen", "(LShelfCart$Stacks;)Z"⟩, 15) := ⟨⟨by decide +kernel, by decide +kernel⟩, List.mem_of_getElem? (i := 282) (by decide +kernel), List.mem_of_getElem? (i := 935) (by decide +kernel), List.mem_of_getElem? (i := 936) (by decide +kernel)⟩
def lw_privs_2 : List (MethodName × Nat) := [(⟨"ShelfCart$Growths", "isOf", "(IILShelfCart$Marks;)Z"⟩, 6), (⟨"ShelfCart$Sequence", "longestFrom", "(ILShelfCart$State;)I"⟩, 4), (⟨"ShelfCart$Sequence", "chooseRights", "(LShelfCart$State;)V"⟩, 4), (⟨"ShelfCart", "isInOrder", "(LShelfCart$Reading;)Z"⟩, 7), (⟨"ShelfCart$Catalogue", "traceMark", "(II)V"⟩, 5), (⟨"ShelfCart$Catalogue", "isGone", "(II)Z"⟩, 5), (⟨"ShelfCart$Catalogue", "timesRead", "(II)I"⟩, 5), (⟨"ShelfCart", "firstFullYear", "(I)I"⟩, 7), (⟨"ShelfCart", "isFloor", "(II)Z"⟩, 7), (⟨"ShelfCart$Shifter", "gather", "(LShelfCart$Stacks;II)V"⟩, 15), (⟨"ShelfCart$Shifter", "findEnds", "(LShelfCart$State;III)V"⟩, 15), (⟨"ShelfCart$Marks", "lengthOfWork", "(I)I"⟩, 3), (⟨"ShelfCart$Shifter", "markEnds", "(IIZ)V"⟩, 15), (⟨"ShelfCart$Shifter", "fill", "(III)V"⟩, 15), (⟨"ShelfCart$Shifter", "keepPlan", "(LShelfCart$Stacks;II)V"⟩, 15), (⟨"ShelfCart$Shifter", "isAsThen", "(LShelfCart$Stacks;)Z"⟩, 15)]
theorem lw_r2 : ∀ q ∈ lw_privs_2, lw_okq q := List.forall_mem_cons.mpr ⟨lw_p16, List.forall_mem_cons.mpr ⟨lw_p17, List.forall_mem_cons.mpr ⟨lw_p18, List.forall_mem_cons.mpr ⟨lw_p19, List.forall_mem_cons.mpr ⟨lw_p20, List.forall_mem_cons.mpr ⟨lw_p21, List.forall_mem_cons.mpr ⟨lw_p22, List.forall_mem_cons.mpr ⟨lw_p23, List.forall_mem_cons.mpr ⟨lw_p24, List.forall_mem_cons.mpr ⟨lw_p25, List.forall_mem_cons.mpr ⟨lw_p26, List.forall_mem_cons.mpr ⟨lw_p27, List.forall_mem_cons.mpr ⟨lw_p28, List.forall_mem_cons.mpr ⟨lw_p29, List.forall_mem_cons.mpr ⟨lw_p30, List.forall_mem_cons.mpr ⟨lw_p31, fun _ h => absurd h List.not_mem_nil⟩⟩⟩⟩⟩⟩⟩⟩⟩⟩⟩⟩⟩⟩⟩⟩
theorem lw_p32 : lw_okq (⟨"ShelfCartModel", "isText", "()Z"⟩, 29) := ⟨⟨by decide +kernel, by decide +kernel⟩, List.mem_of_getElem? (i := 981) (by decide +kernel), List.mem_of_getElem? (i := 1086) (by decide +kernel), List.mem_of_getElem? (i := 1087) (by decide +kernel)⟩
theorem lw_p33 : lw_okq (⟨"ShelfCartModel", "nextPart", "(IZ)Z"⟩, 29) := ⟨⟨by decide +kernel, by decide +kernel⟩, List.mem_of_getElem? (i := 981) (by decide +kernel), List.mem_of_getElem? (i := 1090) (by decide +kernel), List.mem_of_getElem? (i := 1091) (by decide +kernel)⟩
theorem lw_p34 : lw_okq (⟨"ShelfCartModel", "here", "()I"⟩, 29) := ⟨⟨by decide +kernel, by decide +kernel⟩, List.mem_of_getElem? (i := 981) (by decide +kernel), List.mem_of_getElem? (i := 1094) (by decide +kernel), List.mem_of_getElem? (i := 1095) (by decide +kernel)⟩
theorem lw_p35 : lw_okq (⟨"ShelfCartModel", "counted", "(I)Z"⟩, 29) := ⟨⟨by decide +kernel, by decide +kernel⟩, List.mem_of_getElem? (i := 981) (by decide +kernel), List.mem_of_getElem? (i := 1098) (by decide +kernel), List.mem_of_getElem? (i := 1099) (by decide +kernel)⟩
theorem lw_p36 : lw_okq (⟨"ShelfCartModel", "begins", "(I)V"⟩, 29) := ⟨⟨by decide +kernel, by decide +kernel⟩, List.mem_of_getElem? (i := 981) (by decide +kernel), List.mem_of_getElem? (i := 1102) (by decide +kernel), List.mem_of_getElem? (i := 1103) (by decide +kernel)⟩
theorem lw_p37 : lw_okq (⟨"ShelfCartModel", "isDigit", "()Z"⟩, 29) := ⟨⟨by decide +kernel, by decide +kernel⟩, List.mem_of_getElem? (i := 981) (by decide +kernel), List.mem_of_getElem? (i := 1106) (by decide +kernel), List.mem_of_getElem? (i := 1107) (by decide +kernel)⟩
theorem lw_p38 : lw_okq (⟨"ShelfCartModel", "number", "(I)I"⟩, 29) := ⟨⟨by decide +kernel, by decide +kernel⟩, List.mem_of_getElem? (i := 981) (by decide +kernel), List.mem_of_getElem? (i := 1110) (by decide +kernel), List.mem_of_getElem? (i := 1111) (by decide +kernel)⟩
theorem lw_p39 : lw_okq (⟨"ShelfCartModel", "isValue", "()V"⟩, 29) := ⟨⟨by decide +kernel, by decide +kernel⟩, List.mem_of_getElem? (i := 981) (by decide +kernel), List.mem_of_getElem? (i := 1114) (by decide +kernel), List.mem_of_getElem? (i := 1115) (by decide +kernel)⟩
theorem lw_p40 : lw_okq (⟨"ShelfCartModel", "isLetter", "()Z"⟩, 29) := ⟨⟨by decide +kernel, by decide +kernel⟩, List.mem_of_getElem? (i := 981) (by decide +kernel), List.mem_of_getElem? (i := 1118) (by decide +kernel), List.mem_of_getElem? (i := 1119) (by decide +kernel)⟩
theorem lw_p41 : lw_okq (⟨"ShelfCartModel", "letters", "()Z"⟩, 29) := ⟨⟨by decide +kernel, by decide +kernel⟩, List.mem_of_getElem? (i := 981) (by decide +kernel), List.mem_of_getElem? (i := 1122) (by decide +kernel), List.mem_of_getElem? (i := 1123) (by decide +kernel)⟩
theorem lw_p42 : lw_okq (⟨"ShelfCartModel", "whole", "()Z"⟩, 29) := ⟨⟨by decide +kernel, by decide +kernel⟩, List.mem_of_getElem? (i := 981) (by decide +kernel), List.mem_of_getElem? (i := 1126) (by decide +kernel), List.mem_of_getElem? (i := 1127) (by decide +kernel)⟩
theorem lw_p43 : lw_okq (⟨"ShelfCartModel", "pointed", "(ZZ)Z"⟩, 29) := ⟨⟨by decide +kernel, by decide +kernel⟩, List.mem_of_getElem? (i := 981) (by decide +kernel), List.mem_of_getElem? (i := 1130) (by decide +kernel), List.mem_of_getElem? (i := 1131) (by decide +kernel)⟩
theorem lw_p44 : lw_okq (⟨"ShelfCartModel", "fraction", "(I)Z"⟩, 29) := ⟨⟨by decide +kernel, by decide +kernel⟩, List.mem_of_getElem? (i := 981) (by decide +kernel), List.mem_of_getElem? (i := 1134) (by decide +kernel), List.mem_of_getElem? (i := 1135) (by decide +kernel)⟩
theorem lw_p45 : lw_okq (⟨"ShelfCartModel", "year", "()Z"⟩, 29) := ⟨⟨by decide +kernel, by decide +kernel⟩, List.mem_of_getElem? (i := 981) (by decide +kernel), List.mem_of_getElem? (i := 1138) (by decide +kernel), List.mem_of_getElem? (i := 1139) (by decide +kernel)⟩
theorem lw_p46 : lw_okq (⟨"ShelfCartModel", "isMade", "(I)Z"⟩, 29) := ⟨⟨by decide +kernel, by decide +kernel⟩, List.mem_of_getElem? (i := 981) (by decide +kernel), List.mem_of_getElem? (i := 1142) (by decide +kernel), List.mem_of_getElem? (i := 1143) (by decide +kernel)⟩
theorem lw_p47 : lw_okq (⟨"ShelfCartModel", "isMark", "(I)Z"⟩, 29) := ⟨⟨by decide +kernel, by decide +kernel⟩, List.mem_of_getElem? (i := 981) (by decide +kernel), List.mem_of_getElem? (i := 1158) (by decide +kernel), List.mem_of_getElem? (i := 1159) (by decide +kernel)⟩
def lw_privs_3 : List (MethodName × Nat) := [(⟨"ShelfCartModel", "isText", "()Z"⟩, 29), (⟨"ShelfCartModel", "nextPart", "(IZ)Z"⟩, 29), (⟨"ShelfCartModel", "here", "()I"⟩, 29), (⟨"ShelfCartModel", "counted", "(I)Z"⟩, 29), (⟨"ShelfCartModel", "begins", "(I)V"⟩, 29), (⟨"ShelfCartModel", "isDigit", "()Z"⟩, 29), (⟨"ShelfCartModel", "number", "(I)I"⟩, 29), (⟨"ShelfCartModel", "isValue", "()V"⟩, 29), (⟨"ShelfCartModel", "isLetter", "()Z"⟩, 29), (⟨"ShelfCartModel", "letters", "()Z"⟩, 29), (⟨"ShelfCartModel", "whole", "()Z"⟩, 29), (⟨"ShelfCartModel", "pointed", "(ZZ)Z"⟩, 29), (⟨"ShelfCartModel", "fraction", "(I)Z"⟩, 29), (⟨"ShelfCartModel", "year", "()Z"⟩, 29), (⟨"ShelfCartModel", "isMade", "(I)Z"⟩, 29), (⟨"ShelfCartModel", "isMark", "(I)Z"⟩, 29)]
theorem lw_r3 : ∀ q ∈ lw_privs_3, lw_okq q := List.forall_mem_cons.mpr ⟨lw_p32, List.forall_mem_cons.mpr ⟨lw_p33, List.forall_mem_cons.mpr ⟨lw_p34, List.forall_mem_cons.mpr ⟨lw_p35, List.forall_mem_cons.mpr ⟨lw_p36, List.forall_mem_cons.mpr ⟨lw_p37, List.forall_mem_cons.mpr ⟨lw_p38, List.forall_mem_cons.mpr ⟨lw_p39, List.forall_mem_cons.mpr ⟨lw_p40, List.forall_mem_cons.mpr ⟨lw_p41, List.forall_mem_cons.mpr ⟨lw_p42, List.forall_mem_cons.mpr ⟨lw_p43, List.forall_mem_cons.mpr ⟨lw_p44, List.forall_mem_cons.mpr ⟨lw_p45, List.forall_mem_cons.mpr ⟨lw_p46, List.forall_mem_cons.mpr ⟨lw_p47, fun _ h => absurd h List.not_mem_nil⟩⟩⟩⟩⟩⟩⟩⟩⟩⟩⟩⟩⟩⟩⟩⟩
theorem lw_p48 : lw_okq (⟨"ShelfCartModel", "partsOf", "(I)I"⟩, 29) := ⟨⟨by decide +kernel, by decide +kernel⟩, List.mem_of_getElem? (i := 981) (by decide +kernel), List.mem_of_getElem? (i := 1165) (by decide +kernel), List.mem_of_getElem? (i := 1166) (by decide +kernel)⟩
theorem lw_p49 : lw_okq (⟨"ShelfCartModel", "partOf", "(III)I"⟩, 29) := ⟨⟨by decide +kernel, by decide +kernel⟩, List.mem_of_getElem? (i := 981) (by decide +kernel), List.mem_of_getElem? (i := 1169) (by decide +kernel), List.mem_of_getElem? (i := 1170) (by decide +kernel)⟩
theorem lw_p50 : lw_okq (⟨"ShelfCartModel", "ink", "(I)V"⟩, 29) := ⟨⟨by decide +kernel, by decide +kernel⟩, List.mem_of_getElem? (i := 981) (by decide +kernel), List.mem_of_getElem? (i := 1177) (by decide +kernel), List.mem_of_getElem? (i := 1178) (by decide +kernel)⟩
theorem lw_p51 : lw_okq (⟨"ShelfCartModel", "inkPart", "(II)V"⟩, 29) := ⟨⟨by decide +kernel, by decide +kernel⟩, List.mem_of_getElem? (i := 981) (by decide +kernel), List.mem_of_getElem? (i := 1181) (by decide +kernel), List.mem_of_getElem? (i := 1182) (by decide +kernel)⟩
theorem lw_p52 : lw_okq (⟨"ShelfCartModel", "inkLetters", "(I)V"⟩, 29) := ⟨⟨by decide +kernel, by decide +kernel⟩, List.mem_of_getElem? (i := 981) (by decide +kernel), List.mem_of_getElem? (i := 1185) (by decide +kernel), List.mem_of_getElem? (i := 1186) (by decide +kernel)⟩
theorem lw_p53 : lw_okq (⟨"ShelfCartModel", "inkNumber", "(II)V"⟩, 29) := ⟨⟨by decide +kernel, by decide +kernel⟩, List.mem_of_getElem? (i := 981) (by decide +kernel), List.mem_of_getElem? (i := 1189) (by decide +kernel), List.mem_of_getElem? (i := 1190) (by decide +kernel)⟩
theorem lw_p54 : lw_okq (⟨"ShelfCartModel", "compared", "(II)I"⟩, 29) := ⟨⟨by decide +kernel, by decide +kernel⟩, List.mem_of_getElem? (i := 981) (by decide +kernel), List.mem_of_getElem? (i := 1205) (by decide +kernel), List.mem_of_getElem? (i := 1206) (by decide +kernel)⟩
theorem lw_p55 : lw_okq (⟨"ShelfCartModel", "compare", "(III)I"⟩, 29) := ⟨⟨by decide +kernel, by decide +kernel⟩, List.mem_of_getElem? (i := 981) (by decide +kernel), List.mem_of_getElem? (i := 1209) (by decide +kernel), List.mem_of_getElem? (i := 1210) (by decide +kernel)⟩
theorem lw_p56 : lw_okq (⟨"ShelfCartModel", "held", "(IIII)I"⟩, 29) := ⟨⟨by decide +kernel, by decide +kernel⟩, List.mem_of_getElem? (i := 981) (by decide +kernel), List.mem_of_getElem? (i := 1216) (by decide +kernel), List.mem_of_getElem? (i := 1217) (by decide +kernel)⟩
theorem lw_p57 : lw_okq (⟨"ShelfCartModel", "volumeOf", "(I)I"⟩, 29) := ⟨⟨by decide +kernel, by decide +kernel⟩, List.mem_of_getElem? (i := 981) (by decide +kernel), List.mem_of_getElem? (i := 1234) (by decide +kernel), List.mem_of_getElem? (i := 1235) (by decide +kernel)⟩
theorem lw_p58 : lw_okq (⟨"ShelfCartModel", "isBook", "(I)Z"⟩, 29) := ⟨⟨by decide +kernel, by decide +kernel⟩, List.mem_of_getElem? (i := 981) (by decide +kernel), List.mem_of_getElem? (i := 1242) (by decide +kernel), List.mem_of_getElem? (i := 1243) (by decide +kernel)⟩
theorem lw_p59 : lw_okq (⟨"ShelfCartModel", "isShelf", "(I)Z"⟩, 29) := ⟨⟨by decide +kernel, by decide +kernel⟩, List.mem_of_getElem? (i := 981) (by decide +kernel), List.mem_of_getElem? (i := 1246) (by decide +kernel), List.mem_of_getElem? (i := 1247) (by decide +kernel)⟩
theorem lw_p60 : lw_okq (⟨"ShelfCartModel", "isHigh", "(I)Z"⟩, 29) := ⟨⟨by decide +kernel, by decide +kernel⟩, List.mem_of_getElem? (i := 981) (by decide +kernel), List.mem_of_getElem? (i := 1250) (by decide +kernel), List.mem_of_getElem? (i := 1251) (by decide +kernel)⟩
theorem lw_p61 : lw_okq (⟨"ShelfCartModel", "of", "(II)I"⟩, 29) := ⟨⟨by decide +kernel, by decide +kernel⟩, List.mem_of_getElem? (i := 981) (by decide +kernel), List.mem_of_getElem? (i := 1254) (by decide +kernel), List.mem_of_getElem? (i := 1255) (by decide +kernel)⟩
theorem lw_p62 : lw_okq (⟨"ShelfCartModel", "placeOf", "(II)I"⟩, 29) := ⟨⟨by decide +kernel, by decide +kernel⟩, List.mem_of_getElem? (i := 981) (by decide +kernel), List.mem_of_getElem? (i := 1258) (by decide +kernel), List.mem_of_getElem? (i := 1259) (by decide +kernel)⟩
theorem lw_p63 : lw_okq (⟨"ShelfCartModel", "comes", "(IIII)V"⟩, 29) := ⟨⟨by decide +kernel, by decide +kernel⟩, List.mem_of_getElem? (i := 981) (by decide +kernel), List.mem_of_getElem? (i := 1262) (by decide +kernel), List.mem_of_getElem? (i := 1263) (by decide +kernel)⟩
def lw_privs_4 : List (MethodName × Nat) := [(⟨"ShelfCartModel", "partsOf", "(I)I"⟩, 29), (⟨"ShelfCartModel", "partOf", "(III)I"⟩, 29), (⟨"ShelfCartModel", "ink", "(I)V"⟩, 29), (⟨"ShelfCartModel", "inkPart", "(II)V"⟩, 29), (⟨"ShelfCartModel", "inkLetters", "(I)V"⟩, 29), (⟨"ShelfCartModel", "inkNumber", "(II)V"⟩, 29), (⟨"ShelfCartModel", "compared", "(II)I"⟩, 29), (⟨"ShelfCartModel", "compare", "(III)I"⟩, 29), (⟨"ShelfCartModel", "held", "(IIII)I"⟩, 29), (⟨"ShelfCartModel", "volumeOf", "(I)I"⟩, 29), (⟨"ShelfCartModel", "isBook", "(I)Z"⟩, 29), (⟨"ShelfCartModel", "isShelf", "(I)Z"⟩, 29), (⟨"ShelfCartModel", "isHigh", "(I)Z"⟩, 29), (⟨"ShelfCartModel", "of", "(II)I"⟩, 29), (⟨"ShelfCartModel", "placeOf", "(II)I"⟩, 29), (⟨"ShelfCartModel", "comes", "(IIII)V"⟩, 29)]
theorem lw_r4 : ∀ q ∈ lw_privs_4, lw_okq q := List.forall_mem_cons.mpr ⟨lw_p48, List.forall_mem_cons.mpr ⟨lw_p49, List.forall_mem_cons.mpr ⟨lw_p50, List.forall_mem_cons.mpr ⟨lw_p51, List.forall_mem_cons.mpr ⟨lw_p52, List.forall_mem_cons.mpr ⟨lw_p53, List.forall_mem_cons.mpr ⟨lw_p54, List.forall_mem_cons.mpr ⟨lw_p55, List.forall_mem_cons.mpr ⟨lw_p56, List.forall_mem_cons.mpr ⟨lw_p57, List.forall_mem_cons.mpr ⟨lw_p58, List.forall_mem_cons.mpr ⟨lw_p59, List.forall_mem_cons.mpr ⟨lw_p60, List.forall_mem_cons.mpr ⟨lw_p61, List.forall_mem_cons.mpr ⟨lw_p62, List.forall_mem_cons.mpr ⟨lw_p63, fun _ h => absurd h List.not_mem_nil⟩⟩⟩⟩⟩⟩⟩⟩⟩⟩⟩⟩⟩⟩⟩⟩
theorem lw_p64 : lw_okq (⟨"ShelfCartModel", "leaves", "(II)V"⟩, 29) := ⟨⟨by decide +kernel, by decide +kernel⟩, List.mem_of_getElem? (i := 981) (by decide +kernel), List.mem_of_getElem? (i := 1266) (by decide +kernel), List.mem_of_getElem? (i := 1267) (by decide +kernel)⟩
theorem lw_p65 : lw_okq (⟨"ShelfCartModel", "roomIn", "(II)I"⟩, 29) := ⟨⟨by decide +kernel, by decide +kernel⟩, List.mem_of_getElem? (i := 981) (by decide +kernel), List.mem_of_getElem? (i := 1290) (by decide +kernel), List.mem_of_getElem? (i := 1291) (by decide +kernel)⟩
theorem lw_p66 : lw_okq (⟨"ShelfCartModel", "plainRoom", "(I)I"⟩, 29) := ⟨⟨by decide +kernel, by decide +kernel⟩, List.mem_of_getElem? (i := 981) (by decide +kernel), List.mem_of_getElem? (i := 1294) (by decide +kernel), List.mem_of_getElem? (i := 1295) (by decide +kernel)⟩
theorem lw_p67 : lw_okq (⟨"ShelfCartModel", "wide", "(I)I"⟩, 29) := ⟨⟨by decide +kernel, by decide +kernel⟩, List.mem_of_getElem? (i := 981) (by decide +kernel), List.mem_of_getElem? (i := 1298) (by decide +kernel), List.mem_of_getElem? (i := 1299) (by decide +kernel)⟩
theorem lw_p68 : lw_okq (⟨"ShelfCartModel", "growing", "(II)I"⟩, 29) := ⟨⟨by decide +kernel, by decide +kernel⟩, List.mem_of_getElem? (i := 981) (by decide +kernel), List.mem_of_getElem? (i := 1302) (by decide +kernel), List.mem_of_getElem? (i := 1303) (by decide +kernel)⟩
theorem lw_p69 : lw_okq (⟨"ShelfCartModel", "markOf", "(I)I"⟩, 29) := ⟨⟨by decide +kernel, by decide +kernel⟩, List.mem_of_getElem? (i := 981) (by decide +kernel), List.mem_of_getElem? (i := 1311) (by decide +kernel), List.mem_of_getElem? (i := 1312) (by decide +kernel)⟩
theorem lw_p70 : lw_okq (⟨"ShelfCartModel", "many", "()I"⟩, 29) := ⟨⟨by decide +kernel, by decide +kernel⟩, List.mem_of_getElem? (i := 981) (by decide +kernel), List.mem_of_getElem? (i := 1323) (by decide +kernel), List.mem_of_getElem? (i := 1324) (by decide +kernel)⟩
theorem lw_p71 : lw_okq (⟨"ShelfCartModel", "seenAt", "(I)I"⟩, 29) := ⟨⟨by decide +kernel, by decide +kernel⟩, List.mem_of_getElem? (i := 981) (by decide +kernel), List.mem_of_getElem? (i := 1327) (by decide +kernel), List.mem_of_getElem? (i := 1328) (by decide +kernel)⟩
theorem lw_p72 : lw_okq (⟨"ShelfCartModel", "rights", "()I"⟩, 29) := ⟨⟨by decide +kernel, by decide +kernel⟩, List.mem_of_getElem? (i := 981) (by decide +kernel), List.mem_of_getElem? (i := 1335) (by decide +kernel), List.mem_of_getElem? (i := 1336) (by decide +kernel)⟩
theorem lw_p73 : lw_okq (⟨"ShelfCartModel", "often", "(II)I"⟩, 29) := ⟨⟨by decide +kernel, by decide +kernel⟩, List.mem_of_getElem? (i := 981) (by decide +kernel), List.mem_of_getElem? (i := 1360) (by decide +kernel), List.mem_of_getElem? (i := 1361) (by decide +kernel)⟩
theorem lw_p74 : lw_okq (⟨"ShelfCartModel", "gathers", "(II)V"⟩, 29) := ⟨⟨by decide +kernel, by decide +kernel⟩, List.mem_of_getElem? (i := 981) (by decide +kernel), List.mem_of_getElem? (i := 1396) (by decide +kernel), List.mem_of_getElem? (i := 1397) (by decide +kernel)⟩
theorem lw_p75 : lw_okq (⟨"ShelfCartModel", "partings", "(I)V"⟩, 29) := ⟨⟨by decide +kernel, by decide +kernel⟩, List.mem_of_getElem? (i := 981) (by decide +kernel), List.mem_of_getElem? (i := 1400) (by decide +kernel), List.mem_of_getElem? (i := 1401) (by decide +kernel)⟩
theorem lw_p76 : lw_okq (⟨"ShelfCartModel", "isOneWork", "(II)Z"⟩, 29) := ⟨⟨by decide +kernel, by decide +kernel⟩, List.mem_of_getElem? (i := 981) (by decide +kernel), List.mem_of_getElem? (i := 1404) (by decide +kernel), List.mem_of_getElem? (i := 1405) (by decide +kernel)⟩
theorem lw_p77 : lw_okq (⟨"ShelfCartModel", "tries", "(IIIII)V"⟩, 29) := ⟨⟨by decide +kernel, by decide +kernel⟩, List.mem_of_getElem? (i := 981) (by decide +kernel), List.mem_of_getElem? (i := 1408) (by decide +kernel), List.mem_of_getElem? (i := 1409) (by decide +kernel)⟩
def lw_privs_5 : List (MethodName × Nat) := [(⟨"ShelfCartModel", "leaves", "(II)V"⟩, 29), (⟨"ShelfCartModel", "roomIn", "(II)I"⟩, 29), (⟨"ShelfCartModel", "plainRoom", "(I)I"⟩, 29), (⟨"ShelfCartModel", "wide", "(I)I"⟩, 29), (⟨"ShelfCartModel", "growing", "(II)I"⟩, 29), (⟨"ShelfCartModel", "markOf", "(I)I"⟩, 29), (⟨"ShelfCartModel", "many", "()I"⟩, 29), (⟨"ShelfCartModel", "seenAt", "(I)I"⟩, 29), (⟨"ShelfCartModel", "rights", "()I"⟩, 29), (⟨"ShelfCartModel", "often", "(II)I"⟩, 29), (⟨"ShelfCartModel", "gathers", "(II)V"⟩, 29), (⟨"ShelfCartModel", "partings", "(I)V"⟩, 29), (⟨"ShelfCartModel", "isOneWork", "(II)Z"⟩, 29), (⟨"ShelfCartModel", "tries", "(IIIII)V"⟩, 29)]
theorem lw_r5 : ∀ q ∈ lw_privs_5, lw_okq q := List.forall_mem_cons.mpr ⟨lw_p64, List.forall_mem_cons.mpr ⟨lw_p65, List.forall_mem_cons.mpr ⟨lw_p66, List.forall_mem_cons.mpr ⟨lw_p67, List.forall_mem_cons.mpr ⟨lw_p68, List.forall_mem_cons.mpr ⟨lw_p69, List.forall_mem_cons.mpr ⟨lw_p70, List.forall_mem_cons.mpr ⟨lw_p71, List.forall_mem_cons.mpr ⟨lw_p72, List.forall_mem_cons.mpr ⟨lw_p73, List.forall_mem_cons.mpr ⟨lw_p74, List.forall_mem_cons.mpr ⟨lw_p75, List.forall_mem_cons.mpr ⟨lw_p76, List.forall_mem_cons.mpr ⟨lw_p77, fun _ h => absurd h List.not_mem_nil⟩⟩⟩⟩⟩⟩⟩⟩⟩⟩⟩⟩⟩⟩
def lw_privs : List (MethodName × Nat) := lw_privs_1 ++ (lw_privs_2 ++ (lw_privs_3 ++ (lw_privs_4 ++ (lw_privs_5))))
def lw_tbl : List Cond := k2_sels lw_privs ++ tables_1
theorem lw_privs_ok : ∀ q ∈ lw_privs, lw_okq q := by
  show ∀ q ∈ lw_privs_1 ++ (lw_privs_2 ++ (lw_privs_3 ++ (lw_privs_4 ++ (lw_privs_5)))), lw_okq q
  exact List.forall_mem_append.mpr ⟨lw_r1, List.forall_mem_append.mpr ⟨lw_r2, List.forall_mem_append.mpr ⟨lw_r3, List.forall_mem_append.mpr ⟨lw_r4, lw_r5⟩⟩⟩⟩
def RX0 : String := "ShelfCart$ByteRow"
def TX0 : u_T := fun k => match k with
  | 0 => ("ShelfCart$ByteRow", "bytes", "[I", true)
  | _ => ("ShelfCart$ByteRow", "length", "I", false)
def tyX0 : Nat → FieldType := fun k => match k with
  | 0 => .array .int
  | _ => .int
abbrev wsX00 : List Cond := u_ws RX0 TX0 2
theorem nmX0 : ∀ a, a < 2 → ∀ b, b < 2 → a ≠ b → (TX0 a).2.1 ≠ (TX0 b).2.1 := by decide +kernel
theorem tyX0_ok : ∀ k, k < 2 → parseFieldDescriptor (TX0 k).2.2.1 = some (tyX0 k) := by decide +kernel
abbrev cX0_init : ByteArray := prog_2_method_1_code
def yX0_init : MethodName := ⟨RX0, "<init>", "(I)V"⟩
abbrev cX0_add : ByteArray := prog_2_method_2_code
def yX0_add : MethodName := ⟨RX0, "add", "(I)V"⟩
abbrev cX0_addNumber : ByteArray := prog_2_method_3_code
def yX0_addNumber : MethodName := ⟨RX0, "addNumber", "(I)V"⟩
abbrev cX0_addDigits : ByteArray := prog_2_method_4_code
def yX0_addDigits : MethodName := ⟨RX0, "addDigits", "(II)V"⟩
abbrev cX0_byteAt : ByteArray := prog_2_method_5_code
def yX0_byteAt : MethodName := ⟨RX0, "byteAt", "(I)I"⟩
def RX1 : String := "ShelfCart$Catalogue"
def TX1 : u_T := fun k => match k with
  | 0 => ("ShelfCart$Catalogue", "entries", "I", false)
  | 1 => ("ShelfCart$Catalogue", "shelves", "[I", true)
  | 2 => ("ShelfCart$Catalogue", "traces", "[I", true)
  | 3 => ("ShelfCart$Catalogue", "readLengths", "[I", true)
  | _ => ("ShelfCart$Catalogue", "readMarks", "[I", true)
def tyX1 : Nat → FieldType := fun k => match k with
  | 0 => .int
  | 1 => .array .int
  | 2 => .array .int
  | 3 => .array .int
  | _ => .array .int
abbrev wsX10 : List Cond := u_ws RX1 TX1 5
theorem nmX1 : ∀ a, a < 5 → ∀ b, b < 5 → a ≠ b → (TX1 a).2.1 ≠ (TX1 b).2.1 := by decide +kernel
theorem tyX1_ok : ∀ k, k < 5 → parseFieldDescriptor (TX1 k).2.2.1 = some (tyX1 k) := by decide +kernel
abbrev cX1_init : ByteArray := prog_3_method_1_code
def yX1_init : MethodName := ⟨RX1, "<init>", "()V"⟩
abbrev cX1_isMark : ByteArray := prog_3_method_2_code
def yX1_isMark : MethodName := ⟨RX1, "isMark", "(I)Z"⟩
abbrev cX1_shelfOf : ByteArray := prog_3_method_3_code
def yX1_shelfOf : MethodName := ⟨RX1, "shelfOf", "(I)I"⟩
abbrev cX1_enter : ByteArray := prog_3_method_4_code
def yX1_enter : MethodName := ⟨RX1, "enter", "(II)V"⟩
abbrev cX1_strike : ByteArray := prog_3_method_5_code
def yX1_strike : MethodName := ⟨RX1, "strike", "(I)Z"⟩
abbrev cX1_isRead : ByteArray := prog_3_method_6_code
def yX1_isRead : MethodName := ⟨RX1, "isRead", "(I)Z"⟩
abbrev cX1_timesRead : ByteArray := prog_3_method_7_code
def yX1_timesRead : MethodName := ⟨RX1, "timesRead", "(II)I"⟩
abbrev cX1_isGone : ByteArray := prog_3_method_8_code
def yX1_isGone : MethodName := ⟨RX1, "isGone", "(II)Z"⟩
abbrev cX1_countGone : ByteArray := prog_3_method_9_code
def yX1_countGone : MethodName := ⟨RX1, "countGone", "(I)I"⟩
abbrev cX1_keepReading : ByteArray := prog_3_method_10_code
def yX1_keepReading : MethodName := ⟨RX1, "keepReading", "(LShelfCart$Reading;)V"⟩
abbrev cX1_traceMark : ByteArray := prog_3_method_11_code
def yX1_traceMark : MethodName := ⟨RX1, "traceMark", "(II)V"⟩
abbrev cX1_isSuch : ByteArray := prog_3_method_12_code
def yX1_isSuch : MethodName := ⟨RX1, "isSuch", "(III)Z"⟩
abbrev cX1_become : ByteArray := prog_3_method_13_code
def yX1_become : MethodName := ⟨RX1, "become", "(LShelfCart$Catalogue;)V"⟩
def RX2 : String := "ShelfCart$Growths"
def TX2 : u_T := fun k => match k with
  | 0 => ("ShelfCart$Growths", "made", "I", false)
  | 1 => ("ShelfCart$Growths", "froms", "[I", true)
  | 2 => ("ShelfCart$Growths", "tos", "[I", true)
  | 3 => ("ShelfCart$Growths", "millimetres", "[I", true)
  | 4 => ("ShelfCart$Growths", "allBooks", "[I", true)
  | _ => ("ShelfCart$Growths", "shelfBooks", "[I", true)
def tyX2 : Nat → FieldType := fun k => match k with
  | 0 => .int
  | 1 => .array .int
  | 2 => .array .int
  | 3 => .array .int
  | 4 => .array .int
  | _ => .array .int
abbrev wsX20 : List Cond := u_ws RX2 TX2 6
theorem nmX2 : ∀ a, a < 6 → ∀ b, b < 6 → a ≠ b → (TX2 a).2.1 ≠ (TX2 b).2.1 := by decide +kernel
theorem tyX2_ok : ∀ k, k < 6 → parseFieldDescriptor (TX2 k).2.2.1 = some (tyX2 k) := by decide +kernel
abbrev cX2_init : ByteArray := prog_4_method_1_code
def yX2_init : MethodName := ⟨RX2, "<init>", "()V"⟩
abbrev cX2_make : ByteArray := prog_4_method_2_code
def yX2_make : MethodName := ⟨RX2, "make", "(III)I"⟩
abbrev cX2_countBooks : ByteArray := prog_4_method_3_code
def yX2_countBooks : MethodName := ⟨RX2, "countBooks", "(LShelfCart$Marks;LShelfCart$Stacks;)V"⟩
abbrev cX2_isOf : ByteArray := prog_4_method_4_code
def yX2_isOf : MethodName := ⟨RX2, "isOf", "(IILShelfCart$Marks;)Z"⟩
abbrev cX2_lossOf : ByteArray := prog_4_method_5_code
def yX2_lossOf : MethodName := ⟨RX2, "lossOf", "(II)I"⟩
abbrev cX2_become : ByteArray := prog_4_method_6_code
def yX2_become : MethodName := ⟨RX2, "become", "(LShelfCart$Growths;)V"⟩
def RX3 : String := "ShelfCart$Marks"
def TX3 : u_T := fun k => match k with
  | 0 => ("ShelfCart$Marks", "made", "I", false)
  | 1 => ("ShelfCart$Marks", "lengths", "[I", true)
  | _ => ("ShelfCart$Marks", "parts", "[J", true)
def tyX3 : Nat → FieldType := fun k => match k with
  | 0 => .int
  | 1 => .array .int
  | _ => .array .long
abbrev wsX30 : List Cond := u_ws RX3 TX3 3
theorem nmX3 : ∀ a, a < 3 → ∀ b, b < 3 → a ≠ b → (TX3 a).2.1 ≠ (TX3 b).2.1 := by decide +kernel
theorem tyX3_ok : ∀ k, k < 3 → parseFieldDescriptor (TX3 k).2.2.1 = some (tyX3 k) := by decide +kernel
abbrev cX3_init : ByteArray := prog_5_method_1_code
def yX3_init : MethodName := ⟨RX3, "<init>", "()V"⟩
abbrev cX3_has : ByteArray := prog_5_method_2_code
def yX3_has : MethodName := ⟨RX3, "has", "(I)Z"⟩
abbrev cX3_lengthOf : ByteArray := prog_5_method_3_code
def yX3_lengthOf : MethodName := ⟨RX3, "lengthOf", "(I)I"⟩
abbrev cX3_partOf : ByteArray := prog_5_method_4_code
def yX3_partOf : MethodName := ⟨RX3, "partOf", "(II)J"⟩
abbrev cX3_numberOf : ByteArray := prog_5_method_5_code
def yX3_numberOf : MethodName := ⟨RX3, "numberOf", "([JI)I"⟩
abbrev cX3_beginsWith : ByteArray := prog_5_method_6_code
def yX3_beginsWith : MethodName := ⟨RX3, "beginsWith", "(I[JI)Z"⟩
abbrev cX3_make : ByteArray := prog_5_method_7_code
def yX3_make : MethodName := ⟨RX3, "make", "([JI)I"⟩
abbrev cX3_compare : ByteArray := prog_5_method_8_code
def yX3_compare : MethodName := ⟨RX3, "compare", "(III)I"⟩
abbrev cX3_volumeOf : ByteArray := prog_5_method_9_code
def yX3_volumeOf : MethodName := ⟨RX3, "volumeOf", "(I)I"⟩
abbrev cX3_areOfOneWork : ByteArray := prog_5_method_10_code
def yX3_areOfOneWork : MethodName := ⟨RX3, "areOfOneWork", "(II)Z"⟩
abbrev cX3_lengthOfWork : ByteArray := prog_5_method_11_code
def yX3_lengthOfWork : MethodName := ⟨RX3, "lengthOfWork", "(I)I"⟩
abbrev cX3_spell : ByteArray := prog_5_method_12_code
def yX3_spell : MethodName := ⟨RX3, "spell", "(ILShelfCart$ByteRow;)V"⟩
abbrev cX3_become : ByteArray := prog_5_method_13_code
def yX3_become : MethodName := ⟨RX3, "become", "(LShelfCart$Marks;)V"⟩
def RX4 : String := "ShelfCart$Part"
def TX4 : u_T := fun k => match k with
  | _ => ("", "", "", false)
def tyX4 : Nat → FieldType := fun k => match k with
  | _ => .int
abbrev wsX40 : List Cond := u_ws RX4 TX4 0
theorem nmX4 : ∀ a, a < 0 → ∀ b, b < 0 → a ≠ b → (TX4 a).2.1 ≠ (TX4 b).2.1 := by decide +kernel
theorem tyX4_ok : ∀ k, k < 0 → parseFieldDescriptor (TX4 k).2.2.1 = some (tyX4 k) := by decide +kernel
abbrev cX4_of : ByteArray := prog_6_method_2_code
def yX4_of : MethodName := ⟨RX4, "of", "(IIII)J"⟩
abbrev cX4_kindOf : ByteArray := prog_6_method_3_code
def yX4_kindOf : MethodName := ⟨RX4, "kindOf", "(J)I"⟩
abbrev cX4_valueOf : ByteArray := prog_6_method_4_code
def yX4_valueOf : MethodName := ⟨RX4, "valueOf", "(J)I"⟩
abbrev cX4_digitsOf : ByteArray := prog_6_method_5_code
def yX4_digitsOf : MethodName := ⟨RX4, "digitsOf", "(J)I"⟩
abbrev cX4_placesOf : ByteArray := prog_6_method_6_code
def yX4_placesOf : MethodName := ⟨RX4, "placesOf", "(J)I"⟩
abbrev cX4_compare : ByteArray := prog_6_method_7_code
def yX4_compare : MethodName := ⟨RX4, "compare", "(JJI)I"⟩
abbrev cX4_wordKey : ByteArray := prog_6_method_8_code
def yX4_wordKey : MethodName := ⟨RX4, "wordKey", "(I)I"⟩
abbrev cX4_digitKey : ByteArray := prog_6_method_9_code
def yX4_digitKey : MethodName := ⟨RX4, "digitKey", "(II)I"⟩
abbrev cX4_spell : ByteArray := prog_6_method_10_code
def yX4_spell : MethodName := ⟨RX4, "spell", "(JLShelfCart$ByteRow;)V"⟩
abbrev cX4_spellLetters : ByteArray := prog_6_method_11_code
def yX4_spellLetters : MethodName := ⟨RX4, "spellLetters", "(ILShelfCart$ByteRow;)V"⟩
abbrev cX4_spellDigits : ByteArray := prog_6_method_12_code
def yX4_spellDigits : MethodName := ⟨RX4, "spellDigits", "(IIJLShelfCart$ByteRow;)V"⟩
abbrev cX4_spellNumber : ByteArray := prog_6_method_13_code
def yX4_spellNumber : MethodName := ⟨RX4, "spellNumber", "(IILShelfCart$ByteRow;)V"⟩
abbrev cX4_lengthOfNumber : ByteArray := prog_6_method_14_code
def yX4_lengthOfNumber : MethodName := ⟨RX4, "lengthOfNumber", "(I)I"⟩
def RX5 : String := "ShelfCart$Reading"
def TX5 : u_T := fun k => match k with
  | 0 => ("ShelfCart$Reading", "shelfRead", "I", false)
  | 1 => ("ShelfCart$Reading", "length", "I", false)
  | _ => ("ShelfCart$Reading", "row", "[I", true)
def tyX5 : Nat → FieldType := fun k => match k with
  | 0 => .int
  | 1 => .int
  | _ => .array .int
abbrev wsX50 : List Cond := u_ws RX5 TX5 3
theorem nmX5 : ∀ a, a < 3 → ∀ b, b < 3 → a ≠ b → (TX5 a).2.1 ≠ (TX5 b).2.1 := by decide +kernel
theorem tyX5_ok : ∀ k, k < 3 → parseFieldDescriptor (TX5 k).2.2.1 = some (tyX5 k) := by decide +kernel
abbrev cX5_init : ByteArray := prog_7_method_1_code
def yX5_init : MethodName := ⟨RX5, "<init>", "()V"⟩
abbrev cX5_isThere : ByteArray := prog_7_method_2_code
def yX5_isThere : MethodName := ⟨RX5, "isThere", "()Z"⟩
abbrev cX5_begin : ByteArray := prog_7_method_3_code
def yX5_begin : MethodName := ⟨RX5, "begin", "(I)V"⟩
abbrev cX5_end : ByteArray := prog_7_method_4_code
def yX5_end : MethodName := ⟨RX5, "end", "()V"⟩
abbrev cX5_add : ByteArray := prog_7_method_5_code
def yX5_add : MethodName := ⟨RX5, "add", "(I)Z"⟩
abbrev cX5_markAt : ByteArray := prog_7_method_6_code
def yX5_markAt : MethodName := ⟨RX5, "markAt", "(I)I"⟩
abbrev cX5_shiftOne : ByteArray := prog_7_method_7_code
def yX5_shiftOne : MethodName := ⟨RX5, "shiftOne", "(II)V"⟩
abbrev cX5_become : ByteArray := prog_7_method_8_code
def yX5_become : MethodName := ⟨RX5, "become", "(LShelfCart$Reading;)V"⟩
def RX6 : String := "ShelfCart$Sequence"
def TX6 : u_T := fun k => match k with
  | 0 => ("ShelfCart$Sequence", "rightCount", "I", false)
  | 1 => ("ShelfCart$Sequence", "length", "I", false)
  | 2 => ("ShelfCart$Sequence", "longest", "[I", true)
  | _ => ("ShelfCart$Sequence", "rights", "[I", true)
def tyX6 : Nat → FieldType := fun k => match k with
  | 0 => .int
  | 1 => .int
  | 2 => .array .int
  | _ => .array .int
abbrev wsX60 : List Cond := u_ws RX6 TX6 4
theorem nmX6 : ∀ a, a < 4 → ∀ b, b < 4 → a ≠ b → (TX6 a).2.1 ≠ (TX6 b).2.1 := by decide +kernel
theorem tyX6_ok : ∀ k, k < 4 → parseFieldDescriptor (TX6 k).2.2.1 = some (tyX6 k) := by decide +kernel
abbrev cX6_init : ByteArray := prog_8_method_1_code
def yX6_init : MethodName := ⟨RX6, "<init>", "()V"⟩
abbrev cX6_study : ByteArray := prog_8_method_2_code
def yX6_study : MethodName := ⟨RX6, "study", "(LShelfCart$State;)V"⟩
abbrev cX6_longestFrom : ByteArray := prog_8_method_3_code
def yX6_longestFrom : MethodName := ⟨RX6, "longestFrom", "(ILShelfCart$State;)I"⟩
abbrev cX6_follows : ByteArray := prog_8_method_4_code
def yX6_follows : MethodName := ⟨RX6, "follows", "(IILShelfCart$State;)Z"⟩
abbrev cX6_chooseRights : ByteArray := prog_8_method_5_code
def yX6_chooseRights : MethodName := ⟨RX6, "chooseRights", "(LShelfCart$State;)V"⟩
abbrev cX6_placeOf : ByteArray := prog_8_method_6_code
def yX6_placeOf : MethodName := ⟨RX6, "placeOf", "(ZI)I"⟩
abbrev cX6_newPlaceOf : ByteArray := prog_8_method_7_code
def yX6_newPlaceOf : MethodName := ⟨RX6, "newPlaceOf", "(ILShelfCart$State;)I"⟩
def RX7 : String := "ShelfCart$Shifter"
def TX7 : u_T := fun k => match k with
  | 0 => ("ShelfCart$Shifter", "count", "I", false)
  | 1 => ("ShelfCart$Shifter", "floor", "[I", true)
  | 2 => ("ShelfCart$Shifter", "marks", "[I", true)
  | 3 => ("ShelfCart$Shifter", "oldShelves", "[I", true)
  | 4 => ("ShelfCart$Shifter", "widths", "[I", true)
  | 5 => ("ShelfCart$Shifter", "mayEnd", "[I", true)
  | 6 => ("ShelfCart$Shifter", "fewestChanged", "[I", true)
  | 7 => ("ShelfCart$Shifter", "bestEnds", "[I", true)
  | 8 => ("ShelfCart$Shifter", "leastWidth", "I", false)
  | 9 => ("ShelfCart$Shifter", "greatestWidth", "I", false)
  | 10 => ("ShelfCart$Shifter", "atHand", "Z", false)
  | 11 => ("ShelfCart$Shifter", "firstShelf", "I", false)
  | 12 => ("ShelfCart$Shifter", "shelves", "I", false)
  | 13 => ("ShelfCart$Shifter", "ends", "[I", true)
  | _ => ("ShelfCart$Shifter", "thingsThen", "[I", true)
def tyX7 : Nat → FieldType := fun k => match k with
  | 0 => .int
  | 1 => .array .int
  | 2 => .array .int
  | 3 => .array .int
  | 4 => .array .int
  | 5 => .array .int
  | 6 => .array .int
  | 7 => .array .int
  | 8 => .int
  | 9 => .int
  | 10 => .boolean
  | 11 => .int
  | 12 => .int
  | 13 => .array .int
  | _ => .array .int
abbrev wsX70 : List Cond := u_ws RX7 TX7 15
theorem nmX7 : ∀ a, a < 15 → ∀ b, b < 15 → a ≠ b → (TX7 a).2.1 ≠ (TX7 b).2.1 := by decide +kernel
theorem tyX7_ok : ∀ k, k < 15 → parseFieldDescriptor (TX7 k).2.2.1 = some (tyX7 k) := by decide +kernel
abbrev cX7_init : ByteArray := prog_9_method_1_code
def yX7_init : MethodName := ⟨RX7, "<init>", "()V"⟩
abbrev cX7_makePlan : ByteArray := prog_9_method_2_code
def yX7_makePlan : MethodName := ⟨RX7, "makePlan", "(LShelfCart$State;IIII)I"⟩
abbrev cX7_gather : ByteArray := prog_9_method_3_code
def yX7_gather : MethodName := ⟨RX7, "gather", "(LShelfCart$Stacks;II)V"⟩
abbrev cX7_findEnds : ByteArray := prog_9_method_4_code
def yX7_findEnds : MethodName := ⟨RX7, "findEnds", "(LShelfCart$State;III)V"⟩
abbrev cX7_markEnds : ByteArray := prog_9_method_5_code
def yX7_markEnds : MethodName := ⟨RX7, "markEnds", "(IIZ)V"⟩
abbrev cX7_fill : ByteArray := prog_9_method_6_code
def yX7_fill : MethodName := ⟨RX7, "fill", "(III)V"⟩
abbrev cX7_keepPlan : ByteArray := prog_9_method_7_code
def yX7_keepPlan : MethodName := ⟨RX7, "keepPlan", "(LShelfCart$Stacks;II)V"⟩
abbrev cX7_dropPlan : ByteArray := prog_9_method_8_code
def yX7_dropPlan : MethodName := ⟨RX7, "dropPlan", "()V"⟩
abbrev cX7_endOf : ByteArray := prog_9_method_9_code
def yX7_endOf : MethodName := ⟨RX7, "endOf", "(I)I"⟩
abbrev cX7_carryOut : ByteArray := prog_9_method_10_code
def yX7_carryOut : MethodName := ⟨RX7, "carryOut", "(LShelfCart$Stacks;)Z"⟩
abbrev cX7_isAsThen : ByteArray := prog_9_method_11_code
def yX7_isAsThen : MethodName := ⟨RX7, "isAsThen", "(LShelfCart$Stacks;)Z"⟩
def RX8 : String := "ShelfCart$Stacks"
def TX8 : u_T := fun k => match k with
  | 0 => ("ShelfCart$Stacks", "shelvesMade", "I", false)
  | 1 => ("ShelfCart$Stacks", "shelfWidths", "[I", true)
  | 2 => ("ShelfCart$Stacks", "shelfHeights", "[I", true)
  | 3 => ("ShelfCart$Stacks", "things", "[I", true)
  | 4 => ("ShelfCart$Stacks", "booksMade", "I", false)
  | 5 => ("ShelfCart$Stacks", "kinds", "[I", true)
  | 6 => ("ShelfCart$Stacks", "bookMarks", "[I", true)
  | 7 => ("ShelfCart$Stacks", "bookWidths", "[I", true)
  | 8 => ("ShelfCart$Stacks", "lastVolumes", "[I", true)
  | 9 => ("ShelfCart$Stacks", "bookShelves", "[I", true)
  | 10 => ("ShelfCart$Stacks", "bookPlaces", "[I", true)
  | 11 => ("ShelfCart$Stacks", "dummyShelves", "[I", true)
  | _ => ("ShelfCart$Stacks", "dummyPlaces", "[I", true)
def tyX8 : Nat → FieldType := fun k => match k with
  | 0 => .int
  | 1 => .array .int
  | 2 => .array .int
  | 3 => .array .int
  | 4 => .int
  | 5 => .array .int
  | 6 => .array .int
  | 7 => .array .int
  | 8 => .array .int
  | 9 => .array .int
  | 10 => .array .int
  | 11 => .array .int
  | _ => .array .int
abbrev wsX80 : List Cond := u_ws RX8 TX8 13
theorem nmX8 : ∀ a, a < 13 → ∀ b, b < 13 → a ≠ b → (TX8 a).2.1 ≠ (TX8 b).2.1 := by decide +kernel
theorem tyX8_ok : ∀ k, k < 13 → parseFieldDescriptor (TX8 k).2.2.1 = some (tyX8 k) := by decide +kernel
abbrev cX8_init : ByteArray := prog_10_method_1_code
def yX8_init : MethodName := ⟨RX8, "<init>", "()V"⟩
abbrev cX8_hasShelf : ByteArray := prog_10_method_2_code
def yX8_hasShelf : MethodName := ⟨RX8, "hasShelf", "(I)Z"⟩
abbrev cX8_hasBook : ByteArray := prog_10_method_3_code
def yX8_hasBook : MethodName := ⟨RX8, "hasBook", "(I)Z"⟩
abbrev cX8_isHigh : ByteArray := prog_10_method_4_code
def yX8_isHigh : MethodName := ⟨RX8, "isHigh", "(I)Z"⟩
abbrev cX8_widthOf : ByteArray := prog_10_method_5_code
def yX8_widthOf : MethodName := ⟨RX8, "widthOf", "(I)I"⟩
abbrev cX8_hasPlace : ByteArray := prog_10_method_6_code
def yX8_hasPlace : MethodName := ⟨RX8, "hasPlace", "(II)Z"⟩
abbrev cX8_thingAt : ByteArray := prog_10_method_7_code
def yX8_thingAt : MethodName := ⟨RX8, "thingAt", "(II)I"⟩
abbrev cX8_isFree : ByteArray := prog_10_method_8_code
def yX8_isFree : MethodName := ⟨RX8, "isFree", "(II)Z"⟩
abbrev cX8_setThing : ByteArray := prog_10_method_9_code
def yX8_setThing : MethodName := ⟨RX8, "setThing", "(III)V"⟩
abbrev cX8_bookOf : ByteArray := prog_10_method_10_code
def yX8_bookOf : MethodName := ⟨RX8, "bookOf", "(I)I"⟩
abbrev cX8_markOf : ByteArray := prog_10_method_11_code
def yX8_markOf : MethodName := ⟨RX8, "markOf", "(I)I"⟩
abbrev cX8_widthTaken : ByteArray := prog_10_method_12_code
def yX8_widthTaken : MethodName := ⟨RX8, "widthTaken", "(I)I"⟩
abbrev cX8_makeShelf : ByteArray := prog_10_method_13_code
def yX8_makeShelf : MethodName := ⟨RX8, "makeShelf", "(IZ)I"⟩
abbrev cX8_clearShelf : ByteArray := prog_10_method_14_code
def yX8_clearShelf : MethodName := ⟨RX8, "clearShelf", "(I)V"⟩
abbrev cX8_makeBook : ByteArray := prog_10_method_15_code
def yX8_makeBook : MethodName := ⟨RX8, "makeBook", "(IIII)I"⟩
abbrev cX8_notePlace : ByteArray := prog_10_method_16_code
def yX8_notePlace : MethodName := ⟨RX8, "notePlace", "(III)V"⟩
abbrev cX8_takeThing : ByteArray := prog_10_method_17_code
def yX8_takeThing : MethodName := ⟨RX8, "takeThing", "(I)V"⟩
abbrev cX8_putThing : ByteArray := prog_10_method_18_code
def yX8_putThing : MethodName := ⟨RX8, "putThing", "(III)V"⟩
abbrev cX8_roomNow : ByteArray := prog_10_method_19_code
def yX8_roomNow : MethodName := ⟨RX8, "roomNow", "(I)I"⟩
abbrev cX8_become : ByteArray := prog_10_method_20_code
def yX8_become : MethodName := ⟨RX8, "become", "(LShelfCart$Stacks;)V"⟩
def RX9 : String := "ShelfCart$State"
def TX9 : u_T := fun k => match k with
  | 0 => ("ShelfCart$State", "marks", "LShelfCart$Marks;", true)
  | 1 => ("ShelfCart$State", "stacks", "LShelfCart$Stacks;", true)
  | 2 => ("ShelfCart$State", "atHand", "LShelfCart$Reading;", true)
  | 3 => ("ShelfCart$State", "catalogue", "LShelfCart$Catalogue;", true)
  | 4 => ("ShelfCart$State", "growths", "LShelfCart$Growths;", true)
  | _ => ("ShelfCart$State", "sortWay", "I", false)
def tyX9 : Nat → FieldType := fun k => match k with
  | 0 => .object "ShelfCart$Marks"
  | 1 => .object "ShelfCart$Stacks"
  | 2 => .object "ShelfCart$Reading"
  | 3 => .object "ShelfCart$Catalogue"
  | 4 => .object "ShelfCart$Growths"
  | _ => .int
abbrev wsX90 : List Cond := u_ws RX9 TX9 6
theorem nmX9 : ∀ a, a < 6 → ∀ b, b < 6 → a ≠ b → (TX9 a).2.1 ≠ (TX9 b).2.1 := by decide +kernel
theorem tyX9_ok : ∀ k, k < 6 → parseFieldDescriptor (TX9 k).2.2.1 = some (tyX9 k) := by decide +kernel
abbrev cX9_init : ByteArray := prog_11_method_1_code
def yX9_init : MethodName := ⟨RX9, "<init>", "()V"⟩
abbrev cX9_compare : ByteArray := prog_11_method_2_code
def yX9_compare : MethodName := ⟨RX9, "compare", "(II)I"⟩
abbrev cX9_become : ByteArray := prog_11_method_3_code
def yX9_become : MethodName := ⟨RX9, "become", "(LShelfCart$State;)V"⟩
def RX10 : String := "ShelfCart$TextReader"
def TX10 : u_T := fun k => match k with
  | 0 => ("ShelfCart$TextReader", "tape", "LShelfCart$ByteRow;", true)
  | 1 => ("ShelfCart$TextReader", "parts", "[J", true)
  | 2 => ("ShelfCart$TextReader", "length", "I", false)
  | 3 => ("ShelfCart$TextReader", "at", "I", false)
  | 4 => ("ShelfCart$TextReader", "end", "I", false)
  | 5 => ("ShelfCart$TextReader", "digits", "I", false)
  | _ => ("ShelfCart$TextReader", "places", "I", false)
def tyX10 : Nat → FieldType := fun k => match k with
  | 0 => .object "ShelfCart$ByteRow"
  | 1 => .array .long
  | 2 => .int
  | 3 => .int
  | 4 => .int
  | 5 => .int
  | _ => .int
abbrev wsX100 : List Cond := u_ws RX10 TX10 7
theorem nmX10 : ∀ a, a < 7 → ∀ b, b < 7 → a ≠ b → (TX10 a).2.1 ≠ (TX10 b).2.1 := by decide +kernel
theorem tyX10_ok : ∀ k, k < 7 → parseFieldDescriptor (TX10 k).2.2.1 = some (tyX10 k) := by decide +kernel
abbrev cX10_init : ByteArray := prog_12_method_1_code
def yX10_init : MethodName := ⟨RX10, "<init>", "()V"⟩
abbrev cX10_faultOf : ByteArray := prog_12_method_2_code
def yX10_faultOf : MethodName := ⟨RX10, "faultOf", "(I)I"⟩
abbrev cX10_next : ByteArray := prog_12_method_3_code
def yX10_next : MethodName := ⟨RX10, "next", "()I"⟩
abbrev cX10_isLetter : ByteArray := prog_12_method_4_code
def yX10_isLetter : MethodName := ⟨RX10, "isLetter", "(I)Z"⟩
abbrev cX10_isDigit : ByteArray := prog_12_method_5_code
def yX10_isDigit : MethodName := ⟨RX10, "isDigit", "(I)Z"⟩
abbrev cX10_isJoined : ByteArray := prog_12_method_6_code
def yX10_isJoined : MethodName := ⟨RX10, "isJoined", "(I)Z"⟩
abbrev cX10_takeBlank : ByteArray := prog_12_method_7_code
def yX10_takeBlank : MethodName := ⟨RX10, "takeBlank", "(I)Z"⟩
abbrev cX10_takePart : ByteArray := prog_12_method_8_code
def yX10_takePart : MethodName := ⟨RX10, "takePart", "(IZ)Z"⟩
abbrev cX10_keep : ByteArray := prog_12_method_9_code
def yX10_keep : MethodName := ⟨RX10, "keep", "(IIII)V"⟩
abbrev cX10_takeLetters : ByteArray := prog_12_method_10_code
def yX10_takeLetters : MethodName := ⟨RX10, "takeLetters", "()Z"⟩
abbrev cX10_takeWhole : ByteArray := prog_12_method_11_code
def yX10_takeWhole : MethodName := ⟨RX10, "takeWhole", "()Z"⟩
abbrev cX10_takePoint : ByteArray := prog_12_method_12_code
def yX10_takePoint : MethodName := ⟨RX10, "takePoint", "(IZ)Z"⟩
abbrev cX10_takeFraction : ByteArray := prog_12_method_13_code
def yX10_takeFraction : MethodName := ⟨RX10, "takeFraction", "(III)Z"⟩
abbrev cX10_takeYear : ByteArray := prog_12_method_14_code
def yX10_takeYear : MethodName := ⟨RX10, "takeYear", "()Z"⟩
abbrev cX10_takeNumber : ByteArray := prog_12_method_15_code
def yX10_takeNumber : MethodName := ⟨RX10, "takeNumber", "(I)Z"⟩
abbrev cX10_takeDigits : ByteArray := prog_12_method_16_code
def yX10_takeDigits : MethodName := ⟨RX10, "takeDigits", "(I)V"⟩
def RX11 : String := "ShelfCart"
def TX11 : u_T := fun k => match k with
  | 0 => ("ShelfCart", "textReader", "LShelfCart$TextReader;", true)
  | 1 => ("ShelfCart", "written", "LShelfCart$ByteRow;", true)
  | 2 => ("ShelfCart", "latestFault", "I", false)
  | 3 => ("ShelfCart", "now", "LShelfCart$State;", true)
  | 4 => ("ShelfCart", "images", "[LShelfCart$State;", true)
  | 5 => ("ShelfCart", "sequence", "LShelfCart$Sequence;", true)
  | _ => ("ShelfCart", "shifter", "LShelfCart$Shifter;", true)
def tyX11 : Nat → FieldType := fun k => match k with
  | 0 => .object "ShelfCart$TextReader"
  | 1 => .object "ShelfCart$ByteRow"
  | 2 => .int
  | 3 => .object "ShelfCart$State"
  | 4 => .array (.object "ShelfCart$State")
  | 5 => .object "ShelfCart$Sequence"
  | _ => .object "ShelfCart$Shifter"
abbrev wsX110 : List Cond := u_ws RX11 TX11 7
theorem nmX11 : ∀ a, a < 7 → ∀ b, b < 7 → a ≠ b → (TX11 a).2.1 ≠ (TX11 b).2.1 := by decide +kernel
theorem tyX11_ok : ∀ k, k < 7 → parseFieldDescriptor (TX11 k).2.2.1 = some (tyX11 k) := by decide +kernel
abbrev cX11_init : ByteArray := prog_1_method_1_code
def yX11_init : MethodName := ⟨RX11, "<init>", "()V"⟩
abbrev cX11_feed : ByteArray := prog_1_method_2_code
def yX11_feed : MethodName := ⟨RX11, "feed", "(IIIII)I"⟩
abbrev cX11_mark : ByteArray := prog_1_method_3_code
def yX11_mark : MethodName := ⟨RX11, "mark", "(I)I"⟩
abbrev cX11_withinText : ByteArray := prog_1_method_4_code
def yX11_withinText : MethodName := ⟨RX11, "withinText", "(II)I"⟩
abbrev cX11_fault : ByteArray := prog_1_method_5_code
def yX11_fault : MethodName := ⟨RX11, "fault", "()I"⟩
abbrev cX11_count : ByteArray := prog_1_method_6_code
def yX11_count : MethodName := ⟨RX11, "count", "(I)I"⟩
abbrev cX11_part : ByteArray := prog_1_method_7_code
def yX11_part : MethodName := ⟨RX11, "part", "(III)I"⟩
abbrev cX11_write : ByteArray := prog_1_method_8_code
def yX11_write : MethodName := ⟨RX11, "write", "(I)I"⟩
abbrev cX11_out : ByteArray := prog_1_method_9_code
def yX11_out : MethodName := ⟨RX11, "out", "(I)I"⟩
abbrev cX11_way : ByteArray := prog_1_method_10_code
def yX11_way : MethodName := ⟨RX11, "way", "(I)Z"⟩
abbrev cX11_sorts : ByteArray := prog_1_method_11_code
def yX11_sorts : MethodName := ⟨RX11, "sorts", "(II)I"⟩
abbrev cX11_shelf : ByteArray := prog_1_method_12_code
def yX11_shelf : MethodName := ⟨RX11, "shelf", "(IZ)I"⟩
abbrev cX11_book : ByteArray := prog_1_method_13_code
def yX11_book : MethodName := ⟨RX11, "book", "(IIII)I"⟩
abbrev cX11_stand : ByteArray := prog_1_method_14_code
def yX11_stand : MethodName := ⟨RX11, "stand", "(III)Z"⟩
abbrev cX11_dummy : ByteArray := prog_1_method_15_code
def yX11_dummy : MethodName := ⟨RX11, "dummy", "(III)Z"⟩
abbrev cX11_off : ByteArray := prog_1_method_16_code
def yX11_off : MethodName := ⟨RX11, "off", "(I)Z"⟩
abbrev cX11_tell : ByteArray := prog_1_method_17_code
def yX11_tell : MethodName := ⟨RX11, "tell", "(II)I"⟩
abbrev cX11_place : ByteArray := prog_1_method_18_code
def yX11_place : MethodName := ⟨RX11, "place", "(II)I"⟩
abbrev cX11_room : ByteArray := prog_1_method_19_code
def yX11_room : MethodName := ⟨RX11, "room", "(II)I"⟩
abbrev cX11_run : ByteArray := prog_1_method_20_code
def yX11_run : MethodName := ⟨RX11, "run", "(IZ)Z"⟩
abbrev cX11_seen : ByteArray := prog_1_method_21_code
def yX11_seen : MethodName := ⟨RX11, "seen", "(I)I"⟩
abbrev cX11_read : ByteArray := prog_1_method_22_code
def yX11_read : MethodName := ⟨RX11, "read", "(I)I"⟩
abbrev cX11_order : ByteArray := prog_1_method_23_code
def yX11_order : MethodName := ⟨RX11, "order", "(ZI)I"⟩
abbrev cX11_fewest : ByteArray := prog_1_method_24_code
def yX11_fewest : MethodName := ⟨RX11, "fewest", "()I"⟩
abbrev cX11_move : ByteArray := prog_1_method_25_code
def yX11_move : MethodName := ⟨RX11, "move", "()I"⟩
abbrev cX11_where : ByteArray := prog_1_method_26_code
def yX11_where : MethodName := ⟨RX11, "where", "(I)I"⟩
abbrev cX11_isInOrder : ByteArray := prog_1_method_27_code
def yX11_isInOrder : MethodName := ⟨RX11, "isInOrder", "(LShelfCart$Reading;)Z"⟩
abbrev cX11_between : ByteArray := prog_1_method_28_code
def yX11_between : MethodName := ⟨RX11, "between", "(II)I"⟩
abbrev cX11_done : ByteArray := prog_1_method_29_code
def yX11_done : MethodName := ⟨RX11, "done", "()I"⟩
abbrev cX11_list : ByteArray := prog_1_method_30_code
def yX11_list : MethodName := ⟨RX11, "list", "(II)Z"⟩
abbrev cX11_forget : ByteArray := prog_1_method_31_code
def yX11_forget : MethodName := ⟨RX11, "forget", "(I)Z"⟩
abbrev cX11_listed : ByteArray := prog_1_method_32_code
def yX11_listed : MethodName := ⟨RX11, "listed", "(I)I"⟩
abbrev cX11_found : ByteArray := prog_1_method_33_code
def yX11_found : MethodName := ⟨RX11, "found", "(III)I"⟩
abbrev cX11_check : ByteArray := prog_1_method_34_code
def yX11_check : MethodName := ⟨RX11, "check", "(I)I"⟩
abbrev cX11_grow : ByteArray := prog_1_method_35_code
def yX11_grow : MethodName := ⟨RX11, "grow", "(III)I"⟩
abbrev cX11_full : ByteArray := prog_1_method_36_code
def yX11_full : MethodName := ⟨RX11, "full", "()I"⟩
abbrev cX11_firstFullYear : ByteArray := prog_1_method_37_code
def yX11_firstFullYear : MethodName := ⟨RX11, "firstFullYear", "(I)I"⟩
abbrev cX11_shift : ByteArray := prog_1_method_38_code
def yX11_shift : MethodName := ⟨RX11, "shift", "(IIII)I"⟩
abbrev cX11_isFloor : ByteArray := prog_1_method_39_code
def yX11_isFloor : MethodName := ⟨RX11, "isFloor", "(II)Z"⟩
abbrev cX11_plan : ByteArray := prog_1_method_40_code
def yX11_plan : MethodName := ⟨RX11, "plan", "(I)I"⟩
abbrev cX11_lift : ByteArray := prog_1_method_41_code
def yX11_lift : MethodName := ⟨RX11, "lift", "()Z"⟩
abbrev cX11_image : ByteArray := prog_1_method_42_code
def yX11_image : MethodName := ⟨RX11, "image", "(I)Z"⟩
abbrev cX11_again : ByteArray := prog_1_method_43_code
def yX11_again : MethodName := ⟨RX11, "again", "(I)Z"⟩
def RX12 : String := "ShelfCartModel"
def TX12 : u_T := fun k => match k with
  | 0 => ("ShelfCartModel", "all", "[I", true)
  | 1 => ("ShelfCartModel", "has", "[Z", true)
  | 2 => ("ShelfCartModel", "tape", "[B", true)
  | 3 => ("ShelfCartModel", "taped", "I", false)
  | 4 => ("ShelfCartModel", "fault", "I", false)
  | 5 => ("ShelfCartModel", "size", "I", false)
  | 6 => ("ShelfCartModel", "at", "I", false)
  | 7 => ("ShelfCartModel", "parts", "I", false)
  | 8 => ("ShelfCartModel", "kinds", "[I", true)
  | 9 => ("ShelfCartModel", "values", "[I", true)
  | 10 => ("ShelfCartModel", "digits", "[I", true)
  | 11 => ("ShelfCartModel", "counts", "[I", true)
  | 12 => ("ShelfCartModel", "out", "[B", true)
  | 13 => ("ShelfCartModel", "outs", "I", false)
  | 14 => ("ShelfCartModel", "longest", "[I", true)
  | 15 => ("ShelfCartModel", "right", "[Z", true)
  | 16 => ("ShelfCartModel", "items", "[I", true)
  | 17 => ("ShelfCartModel", "homes", "[I", true)
  | 18 => ("ShelfCartModel", "parted", "[Z", true)
  | 19 => ("ShelfCartModel", "itemMany", "I", false)
  | 20 => ("ShelfCartModel", "fewest", "[I", true)
  | 21 => ("ShelfCartModel", "ends", "[I", true)
  | 22 => ("ShelfCartModel", "planned", "Z", false)
  | 23 => ("ShelfCartModel", "planFirst", "I", false)
  | 24 => ("ShelfCartModel", "planLast", "I", false)
  | 25 => ("ShelfCartModel", "plan", "[I", true)
  | 26 => ("ShelfCartModel", "stood", "[I", true)
  | 27 => ("ShelfCartModel", "planFrom", "I", false)
  | _ => ("ShelfCartModel", "was", "[I", true)
def tyX12 : Nat → FieldType := fun k => match k with
  | 0 => .array .int
  | 1 => .array .boolean
  | 2 => .array .byte
  | 3 => .int
  | 4 => .int
  | 5 => .int
  | 6 => .int
  | 7 => .int
  | 8 => .array .int
  | 9 => .array .int
  | 10 => .array .int
  | 11 => .array .int
  | 12 => .array .byte
  | 13 => .int
  | 14 => .array .int
  | 15 => .array .boolean
  | 16 => .array .int
  | 17 => .array .int
  | 18 => .array .boolean
  | 19 => .int
  | 20 => .array .int
  | 21 => .array .int
  | 22 => .boolean
  | 23 => .int
  | 24 => .int
  | 25 => .array .int
  | 26 => .array .int
  | 27 => .int
  | _ => .array .int
abbrev wsX120 : List Cond := u_ws RX12 TX12 29
theorem nmX12 : ∀ a, a < 29 → ∀ b, b < 29 → a ≠ b → (TX12 a).2.1 ≠ (TX12 b).2.1 := by decide +kernel
theorem tyX12_ok : ∀ k, k < 29 → parseFieldDescriptor (TX12 k).2.2.1 = some (tyX12 k) := by decide +kernel
abbrev cX12_init : ByteArray := prog_14_method_1_code
def yX12_init : MethodName := ⟨RX12, "<init>", "()V"⟩
abbrev cX12_isIn : ByteArray := prog_14_method_2_code
def yX12_isIn : MethodName := ⟨RX12, "isIn", "(II)Z"⟩
abbrev cX12_isMark : ByteArray := prog_14_method_3_code
def yX12_isMark : MethodName := ⟨RX12, "isMark", "(I)Z"⟩
abbrev cX12_isShelf : ByteArray := prog_14_method_4_code
def yX12_isShelf : MethodName := ⟨RX12, "isShelf", "(I)Z"⟩
abbrev cX12_isBook : ByteArray := prog_14_method_5_code
def yX12_isBook : MethodName := ⟨RX12, "isBook", "(I)Z"⟩
abbrev cX12_feed : ByteArray := prog_14_method_6_code
def yX12_feed : MethodName := ⟨RX12, "feed", "(IIIII)I"⟩
abbrev cX12_here : ByteArray := prog_14_method_7_code
def yX12_here : MethodName := ⟨RX12, "here", "()I"⟩
abbrev cX12_isDigit : ByteArray := prog_14_method_8_code
def yX12_isDigit : MethodName := ⟨RX12, "isDigit", "()Z"⟩
abbrev cX12_isLetter : ByteArray := prog_14_method_9_code
def yX12_isLetter : MethodName := ⟨RX12, "isLetter", "()Z"⟩
abbrev cX12_begins : ByteArray := prog_14_method_10_code
def yX12_begins : MethodName := ⟨RX12, "begins", "(I)V"⟩
abbrev cX12_number : ByteArray := prog_14_method_11_code
def yX12_number : MethodName := ⟨RX12, "number", "(I)I"⟩
abbrev cX12_isValue : ByteArray := prog_14_method_12_code
def yX12_isValue : MethodName := ⟨RX12, "isValue", "()V"⟩
abbrev cX12_fraction : ByteArray := prog_14_method_13_code
def yX12_fraction : MethodName := ⟨RX12, "fraction", "(I)Z"⟩
abbrev cX12_letters : ByteArray := prog_14_method_14_code
def yX12_letters : MethodName := ⟨RX12, "letters", "()Z"⟩
abbrev cX12_whole : ByteArray := prog_14_method_15_code
def yX12_whole : MethodName := ⟨RX12, "whole", "()Z"⟩
abbrev cX12_year : ByteArray := prog_14_method_16_code
def yX12_year : MethodName := ⟨RX12, "year", "()Z"⟩
abbrev cX12_counted : ByteArray := prog_14_method_17_code
def yX12_counted : MethodName := ⟨RX12, "counted", "(I)Z"⟩
abbrev cX12_pointed : ByteArray := prog_14_method_18_code
def yX12_pointed : MethodName := ⟨RX12, "pointed", "(ZZ)Z"⟩
abbrev cX12_nextPart : ByteArray := prog_14_method_19_code
def yX12_nextPart : MethodName := ⟨RX12, "nextPart", "(IZ)Z"⟩
abbrev cX12_isText : ByteArray := prog_14_method_20_code
def yX12_isText : MethodName := ⟨RX12, "isText", "()Z"⟩
abbrev cX12_isMade : ByteArray := prog_14_method_21_code
def yX12_isMade : MethodName := ⟨RX12, "isMade", "(I)Z"⟩
abbrev cX12_mark : ByteArray := prog_14_method_22_code
def yX12_mark : MethodName := ⟨RX12, "mark", "(I)I"⟩
abbrev cX12_fault : ByteArray := prog_14_method_23_code
def yX12_fault : MethodName := ⟨RX12, "fault", "()I"⟩
abbrev cX12_count : ByteArray := prog_14_method_24_code
def yX12_count : MethodName := ⟨RX12, "count", "(I)I"⟩
abbrev cX12_partsOf : ByteArray := prog_14_method_25_code
def yX12_partsOf : MethodName := ⟨RX12, "partsOf", "(I)I"⟩
abbrev cX12_partOf : ByteArray := prog_14_method_26_code
def yX12_partOf : MethodName := ⟨RX12, "partOf", "(III)I"⟩
abbrev cX12_part : ByteArray := prog_14_method_27_code
def yX12_part : MethodName := ⟨RX12, "part", "(III)I"⟩
abbrev cX12_ink : ByteArray := prog_14_method_28_code
def yX12_ink : MethodName := ⟨RX12, "ink", "(I)V"⟩
abbrev cX12_inkNumber : ByteArray := prog_14_method_29_code
def yX12_inkNumber : MethodName := ⟨RX12, "inkNumber", "(II)V"⟩
abbrev cX12_inkLetters : ByteArray := prog_14_method_30_code
def yX12_inkLetters : MethodName := ⟨RX12, "inkLetters", "(I)V"⟩
abbrev cX12_inkPart : ByteArray := prog_14_method_31_code
def yX12_inkPart : MethodName := ⟨RX12, "inkPart", "(II)V"⟩
abbrev cX12_write : ByteArray := prog_14_method_32_code
def yX12_write : MethodName := ⟨RX12, "write", "(I)I"⟩
abbrev cX12_out : ByteArray := prog_14_method_33_code
def yX12_out : MethodName := ⟨RX12, "out", "(I)I"⟩
abbrev cX12_way : ByteArray := prog_14_method_34_code
def yX12_way : MethodName := ⟨RX12, "way", "(I)Z"⟩
abbrev cX12_sign : ByteArray := prog_14_method_35_code
def yX12_sign : MethodName := ⟨RX12, "sign", "(I)I"⟩
abbrev cX12_filled : ByteArray := prog_14_method_36_code
def yX12_filled : MethodName := ⟨RX12, "filled", "(IIII)I"⟩
abbrev cX12_lettersIn : ByteArray := prog_14_method_37_code
def yX12_lettersIn : MethodName := ⟨RX12, "lettersIn", "(I)I"⟩
abbrev cX12_held : ByteArray := prog_14_method_38_code
def yX12_held : MethodName := ⟨RX12, "held", "(IIII)I"⟩
abbrev cX12_compare : ByteArray := prog_14_method_39_code
def yX12_compare : MethodName := ⟨RX12, "compare", "(III)I"⟩
abbrev cX12_compared : ByteArray := prog_14_method_40_code
def yX12_compared : MethodName := ⟨RX12, "compared", "(II)I"⟩
abbrev cX12_sorts : ByteArray := prog_14_method_41_code
def yX12_sorts : MethodName := ⟨RX12, "sorts", "(II)I"⟩
abbrev cX12_shelf : ByteArray := prog_14_method_42_code
def yX12_shelf : MethodName := ⟨RX12, "shelf", "(IZ)I"⟩
abbrev cX12_volumeOf : ByteArray := prog_14_method_43_code
def yX12_volumeOf : MethodName := ⟨RX12, "volumeOf", "(I)I"⟩
abbrev cX12_book : ByteArray := prog_14_method_44_code
def yX12_book : MethodName := ⟨RX12, "book", "(IIII)I"⟩
abbrev cX12_of : ByteArray := prog_14_method_45_code
def yX12_of : MethodName := ⟨RX12, "of", "(II)I"⟩
abbrev cX12_placeOf : ByteArray := prog_14_method_46_code
def yX12_placeOf : MethodName := ⟨RX12, "placeOf", "(II)I"⟩
abbrev cX12_leaves : ByteArray := prog_14_method_47_code
def yX12_leaves : MethodName := ⟨RX12, "leaves", "(II)V"⟩
abbrev cX12_comes : ByteArray := prog_14_method_48_code
def yX12_comes : MethodName := ⟨RX12, "comes", "(IIII)V"⟩
abbrev cX12_isHigh : ByteArray := prog_14_method_49_code
def yX12_isHigh : MethodName := ⟨RX12, "isHigh", "(I)Z"⟩
abbrev cX12_stand : ByteArray := prog_14_method_50_code
def yX12_stand : MethodName := ⟨RX12, "stand", "(III)Z"⟩
abbrev cX12_dummy : ByteArray := prog_14_method_51_code
def yX12_dummy : MethodName := ⟨RX12, "dummy", "(III)Z"⟩
abbrev cX12_off : ByteArray := prog_14_method_52_code
def yX12_off : MethodName := ⟨RX12, "off", "(I)Z"⟩
abbrev cX12_tell : ByteArray := prog_14_method_53_code
def yX12_tell : MethodName := ⟨RX12, "tell", "(II)I"⟩
abbrev cX12_place : ByteArray := prog_14_method_54_code
def yX12_place : MethodName := ⟨RX12, "place", "(II)I"⟩
abbrev cX12_wide : ByteArray := prog_14_method_55_code
def yX12_wide : MethodName := ⟨RX12, "wide", "(I)I"⟩
abbrev cX12_markOf : ByteArray := prog_14_method_56_code
def yX12_markOf : MethodName := ⟨RX12, "markOf", "(I)I"⟩
abbrev cX12_plainRoom : ByteArray := prog_14_method_57_code
def yX12_plainRoom : MethodName := ⟨RX12, "plainRoom", "(I)I"⟩
abbrev cX12_growing : ByteArray := prog_14_method_58_code
def yX12_growing : MethodName := ⟨RX12, "growing", "(II)I"⟩
abbrev cX12_roomIn : ByteArray := prog_14_method_59_code
def yX12_roomIn : MethodName := ⟨RX12, "roomIn", "(II)I"⟩
abbrev cX12_room : ByteArray := prog_14_method_60_code
def yX12_room : MethodName := ⟨RX12, "room", "(II)I"⟩
abbrev cX12_run : ByteArray := prog_14_method_61_code
def yX12_run : MethodName := ⟨RX12, "run", "(IZ)Z"⟩
abbrev cX12_seenAt : ByteArray := prog_14_method_62_code
def yX12_seenAt : MethodName := ⟨RX12, "seenAt", "(I)I"⟩
abbrev cX12_many : ByteArray := prog_14_method_63_code
def yX12_many : MethodName := ⟨RX12, "many", "()I"⟩
abbrev cX12_seen : ByteArray := prog_14_method_64_code
def yX12_seen : MethodName := ⟨RX12, "seen", "(I)I"⟩
abbrev cX12_read : ByteArray := prog_14_method_65_code
def yX12_read : MethodName := ⟨RX12, "read", "(I)I"⟩
abbrev cX12_rights : ByteArray := prog_14_method_66_code
def yX12_rights : MethodName := ⟨RX12, "rights", "()I"⟩
abbrev cX12_order : ByteArray := prog_14_method_67_code
def yX12_order : MethodName := ⟨RX12, "order", "(ZI)I"⟩
abbrev cX12_fewest : ByteArray := prog_14_method_68_code
def yX12_fewest : MethodName := ⟨RX12, "fewest", "()I"⟩
abbrev cX12_move : ByteArray := prog_14_method_69_code
def yX12_move : MethodName := ⟨RX12, "move", "()I"⟩
abbrev cX12_where : ByteArray := prog_14_method_70_code
def yX12_where : MethodName := ⟨RX12, "where", "(I)I"⟩
abbrev cX12_between : ByteArray := prog_14_method_71_code
def yX12_between : MethodName := ⟨RX12, "between", "(II)I"⟩
abbrev cX12_often : ByteArray := prog_14_method_72_code
def yX12_often : MethodName := ⟨RX12, "often", "(II)I"⟩
abbrev cX12_done : ByteArray := prog_14_method_73_code
def yX12_done : MethodName := ⟨RX12, "done", "()I"⟩
abbrev cX12_list : ByteArray := prog_14_method_74_code
def yX12_list : MethodName := ⟨RX12, "list", "(II)Z"⟩
abbrev cX12_forget : ByteArray := prog_14_method_75_code
def yX12_forget : MethodName := ⟨RX12, "forget", "(I)Z"⟩
abbrev cX12_listed : ByteArray := prog_14_method_76_code
def yX12_listed : MethodName := ⟨RX12, "listed", "(I)I"⟩
abbrev cX12_found : ByteArray := prog_14_method_77_code
def yX12_found : MethodName := ⟨RX12, "found", "(III)I"⟩
abbrev cX12_check : ByteArray := prog_14_method_78_code
def yX12_check : MethodName := ⟨RX12, "check", "(I)I"⟩
abbrev cX12_grow : ByteArray := prog_14_method_79_code
def yX12_grow : MethodName := ⟨RX12, "grow", "(III)I"⟩
abbrev cX12_full : ByteArray := prog_14_method_80_code
def yX12_full : MethodName := ⟨RX12, "full", "()I"⟩
abbrev cX12_isOneWork : ByteArray := prog_14_method_81_code
def yX12_isOneWork : MethodName := ⟨RX12, "isOneWork", "(II)Z"⟩
abbrev cX12_gathers : ByteArray := prog_14_method_82_code
def yX12_gathers : MethodName := ⟨RX12, "gathers", "(II)V"⟩
abbrev cX12_partings : ByteArray := prog_14_method_83_code
def yX12_partings : MethodName := ⟨RX12, "partings", "(I)V"⟩
abbrev cX12_tries : ByteArray := prog_14_method_84_code
def yX12_tries : MethodName := ⟨RX12, "tries", "(IIIII)V"⟩
abbrev cX12_shift : ByteArray := prog_14_method_85_code
def yX12_shift : MethodName := ⟨RX12, "shift", "(IIII)I"⟩
abbrev cX12_plan : ByteArray := prog_14_method_86_code
def yX12_plan : MethodName := ⟨RX12, "plan", "(I)I"⟩
abbrev cX12_lift : ByteArray := prog_14_method_87_code
def yX12_lift : MethodName := ⟨RX12, "lift", "()Z"⟩
abbrev cX12_image : ByteArray := prog_14_method_88_code
def yX12_image : MethodName := ⟨RX12, "image", "(I)Z"⟩
abbrev cX12_again : ByteArray := prog_14_method_89_code
def yX12_again : MethodName := ⟨RX12, "again", "(I)Z"⟩
def RJ6 : String := "java/lang/Integer"
def TJ6 : u_T := fun k => match k with
  | _ => ("", "", "", false)
def tyJ6 : Nat → FieldType := fun k => match k with
  | _ => .int
abbrev wsJ60 : List Cond := u_ws RJ6 TJ6 0
theorem nmJ6 : ∀ a, a < 0 → ∀ b, b < 0 → a ≠ b → (TJ6 a).2.1 ≠ (TJ6 b).2.1 := by decide +kernel
theorem tyJ6_ok : ∀ k, k < 0 → parseFieldDescriptor (TJ6 k).2.2.1 = some (tyJ6 k) := by decide +kernel
abbrev cJ6_compare_7cf53 : ByteArray := prog_15_method_40_code
def yJ6_compare_7cf53 : MethodName := ⟨RJ6, "compare", "(II)I"⟩
def RJ9 : String := "java/lang/Math"
def TJ9 : u_T := fun k => match k with
  | _ => ("", "", "", false)
def tyJ9 : Nat → FieldType := fun k => match k with
  | _ => .int
abbrev wsJ90 : List Cond := u_ws RJ9 TJ9 0
theorem nmJ9 : ∀ a, a < 0 → ∀ b, b < 0 → a ≠ b → (TJ9 a).2.1 ≠ (TJ9 b).2.1 := by decide +kernel
theorem tyJ9_ok : ∀ k, k < 0 → parseFieldDescriptor (TJ9 k).2.2.1 = some (tyJ9 k) := by decide +kernel
abbrev cJ9_max_7cf53 : ByteArray := prog_16_method_65_code
def yJ9_max_7cf53 : MethodName := ⟨RJ9, "max", "(II)I"⟩
abbrev cJ9_min_7cf53 : ByteArray := prog_16_method_69_code
def yJ9_min_7cf53 : MethodName := ⟨RJ9, "min", "(II)I"⟩
def RJ10 : String := "java/lang/System"
def TJ10 : u_T := fun k => match k with
  | _ => ("", "", "", false)
def tyJ10 : Nat → FieldType := fun k => match k with
  | _ => .int
abbrev wsJ100 : List Cond := u_ws RJ10 TJ10 0
theorem nmJ10 : ∀ a, a < 0 → ∀ b, b < 0 → a ≠ b → (TJ10 a).2.1 ≠ (TJ10 b).2.1 := by decide +kernel
theorem tyJ10_ok : ∀ k, k < 0 → parseFieldDescriptor (TJ10 k).2.2.1 = some (tyJ10 k) := by decide +kernel
def RL : String := "ShelfCartLaw"
abbrev cL_law : ByteArray := code
def yL_law : MethodName := ⟨RL, "law", "([I)Z"⟩
abbrev vwCl : List vw_C := [(RX0, TX0, 2), (RX1, TX1, 5), (RX2, TX2, 6), (RX3, TX3, 3), (RX5, TX5, 3), (RX6, TX6, 4), (RX7, TX7, 15), (RX8, TX8, 13), (RX9, TX9, 6), (RX10, TX10, 7), (RX11, TX11, 7), (RX12, TX12, 29)]
