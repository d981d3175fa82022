/-! ===== what the tables say: links by number ===== -/
def am_good : List Cond := lw_tbl.filter goodWord
theorem am_gm {i : Nat} {w : Cond} (h : lw_tbl[i]? = some w) (hg : goodWord w = true) : w ∈ am_good := List.mem_filter.mpr ⟨List.mem_of_getElem? h, hg⟩
def am_own (k : Nat) : String := am_on.getD k ""
def am_vc (c : Nat) : vw_C := vwCl.getD c ("", TX0, 0)
def am_T (c k : Nat) : String × String × String × Bool := (am_vc c).2.1 k
def am_fl : List (Nat × Nat × Nat × Nat) := [(0, 15, 0, 0), (0, 21, 0, 1), (1, 9, 1, 1), (1, 15, 1, 2), (1, 18, 1, 3), (1, 21, 1, 4), (1, 28, 1, 0), (1, 47, 4, 0), (1, 52, 4, 1), (2, 9, 2, 1), (2, 15, 2, 2), (2, 18, 2, 3), (2, 21, 2, 4), (2, 24, 2, 5), (2, 27, 2, 0), (2, 31, 7, 4), (2, 36, 7, 9), (2, 43, 7, 6), (3, 9, 3, 1), (3, 15, 3, 2), (3, 19, 3, 0), (5, 9, 4, 0), (5, 15, 4, 2), (5, 19, 4, 1), (6, 9, 5, 2), (6, 15, 5, 3), (6, 18, 8, 2), (6, 24, 4, 1), (6, 36, 5, 1), (6, 37, 5, 0), (6, 55, 8, 0), (6, 63, 8, 5), (7, 11, 6, 1), (7, 15, 6, 2), (7, 18, 6, 3), (7, 21, 6, 4), (7, 24, 6, 5), (7, 27, 6, 6), (7, 30, 6, 7), (7, 33, 6, 13), (7, 36, 6, 14), (7, 39, 8, 1), (7, 53, 6, 0), (7, 64, 6, 8), (7, 67, 6, 9), (7, 92, 8, 0), (7, 105, 6, 10), (7, 109, 6, 11), (7, 112, 6, 12), (8, 9, 7, 1), (8, 15, 7, 2), (8, 18, 7, 3), (8, 21, 7, 5), (8, 24, 7, 6), (8, 27, 7, 7), (8, 30, 7, 8), (8, 33, 7, 9), (8, 36, 7, 10), (8, 39, 7, 11), (8, 42, 7, 12), (8, 45, 7, 0), (8, 49, 7, 4), (9, 10, 8, 0), (9, 19, 8, 1), (9, 26, 8, 2), (9, 33, 8, 3), (9, 40, 8, 4), (9, 44, 8, 5), (10, 14, 9, 0), (10, 20, 9, 1), (10, 24, 9, 3), (10, 28, 9, 4), (10, 31, 9, 2), (10, 51, 0, 0), (10, 92, 9, 5), (10, 99, 9, 6), (11, 10, 10, 0), (11, 21, 10, 1), (11, 25, 10, 2), (11, 32, 10, 3), (11, 36, 10, 4), (11, 43, 10, 5), (11, 50, 10, 6), (11, 54, 9, 0), (11, 57, 0, 1), (11, 71, 8, 0), (11, 75, 9, 1), (11, 79, 9, 2), (11, 89, 3, 0), (11, 92, 8, 1), (11, 96, 7, 0), (11, 101, 7, 4), (11, 104, 8, 3), (11, 108, 1, 0), (11, 113, 8, 4), (11, 117, 2, 0), (11, 120, 8, 2), (11, 130, 4, 1), (11, 131, 4, 0), (11, 134, 8, 5), (11, 195, 7, 5), (11, 203, 7, 9), (11, 209, 7, 6), (11, 212, 7, 7), (11, 215, 7, 8), (11, 218, 7, 10), (11, 221, 7, 11), (11, 224, 7, 12), (11, 264, 5, 0), (12, 8, 11, 0), (12, 14, 11, 1), (12, 18, 11, 2), (12, 22, 11, 4), (12, 26, 11, 8), (12, 29, 11, 9), (12, 32, 11, 10), (12, 35, 11, 11), (12, 38, 11, 12), (12, 41, 11, 14), (12, 44, 11, 15), (12, 47, 11, 16), (12, 50, 11, 17), (12, 53, 11, 18), (12, 56, 11, 20), (12, 59, 11, 21), (12, 62, 11, 25), (12, 65, 11, 26), (12, 68, 11, 28), (12, 75, 11, 3), (12, 78, 11, 6), (12, 81, 11, 5), (12, 88, 11, 7), (12, 149, 11, 13), (12, 241, 11, 19), (12, 247, 11, 27), (12, 261, 11, 22), (12, 265, 11, 23), (12, 268, 11, 24)]
set_option maxRecDepth 100000 in
set_option maxHeartbeats 4000000 in
theorem am_fl_ok : ∀ q ∈ am_fl, Cond.fieldLink (am_own q.1) q.2.1 (am_T q.2.2.1 q.2.2.2).1 (am_T q.2.2.1 q.2.2.2).2.1 (am_T q.2.2.1 q.2.2.2).2.2.1 ∈ am_good := List.forall_mem_cons.mpr ⟨am_gm (i := 118) rfl rfl, List.forall_mem_cons.mpr ⟨am_gm (i := 120) rfl rfl, List.forall_mem_cons.mpr ⟨am_gm (i := 267) rfl rfl, List.forall_mem_cons.mpr ⟨am_gm (i := 268) rfl rfl, List.forall_mem_cons.mpr ⟨am_gm (i := 269) rfl rfl, List.forall_mem_cons.mpr ⟨am_gm (i := 270) rfl rfl, List.forall_mem_cons.mpr ⟨am_gm (i := 265) rfl rfl, List.forall_mem_cons.mpr ⟨am_gm (i := 246) rfl rfl, List.forall_mem_cons.mpr ⟨am_gm (i := 250) rfl rfl, List.forall_mem_cons.mpr ⟨am_gm (i := 290) rfl rfl, List.forall_mem_cons.mpr ⟨am_gm (i := 291) rfl rfl, List.forall_mem_cons.mpr ⟨am_gm (i := 292) rfl rfl, List.forall_mem_cons.mpr ⟨am_gm (i := 293) rfl rfl, List.forall_mem_cons.mpr ⟨am_gm (i := 294) rfl rfl, List.forall_mem_cons.mpr ⟨am_gm (i := 288) rfl rfl, List.forall_mem_cons.mpr ⟨am_gm (i := 191) rfl rfl, List.forall_mem_cons.mpr ⟨am_gm (i := 203) rfl rfl, List.forall_mem_cons.mpr ⟨am_gm (i := 196) rfl rfl, List.forall_mem_cons.mpr ⟨am_gm (i := 170) rfl rfl, List.forall_mem_cons.mpr ⟨am_gm (i := 171) rfl rfl, List.forall_mem_cons.mpr ⟨am_gm (i := 168) rfl rfl, List.forall_mem_cons.mpr ⟨am_gm (i := 244) rfl rfl, List.forall_mem_cons.mpr ⟨am_gm (i := 251) rfl rfl, List.forall_mem_cons.mpr ⟨am_gm (i := 248) rfl rfl, List.forall_mem_cons.mpr ⟨am_gm (i := 348) rfl rfl, List.forall_mem_cons.mpr ⟨am_gm (i := 349) rfl rfl, List.forall_mem_cons.mpr ⟨am_gm (i := 316) rfl rfl, List.forall_mem_cons.mpr ⟨am_gm (i := 247) rfl rfl, List.forall_mem_cons.mpr ⟨am_gm (i := 347) rfl rfl, List.forall_mem_cons.mpr ⟨am_gm (i := 345) rfl rfl, List.forall_mem_cons.mpr ⟨am_gm (i := 310) rfl rfl, List.forall_mem_cons.mpr ⟨am_gm (i := 323) rfl rfl, List.forall_mem_cons.mpr ⟨am_gm (i := 366) rfl rfl, List.forall_mem_cons.mpr ⟨am_gm (i := 367) rfl rfl, List.forall_mem_cons.mpr ⟨am_gm (i := 368) rfl rfl, List.forall_mem_cons.mpr ⟨am_gm (i := 369) rfl rfl, List.forall_mem_cons.mpr ⟨am_gm (i := 370) rfl rfl, List.forall_mem_cons.mpr ⟨am_gm (i := 371) rfl rfl, List.forall_mem_cons.mpr ⟨am_gm (i := 372) rfl rfl, List.forall_mem_cons.mpr ⟨am_gm (i := 378) rfl rfl, List.forall_mem_cons.mpr ⟨am_gm (i := 379) rfl rfl, List.forall_mem_cons.mpr ⟨am_gm (i := 313) rfl rfl, List.forall_mem_cons.mpr ⟨am_gm (i := 365) rfl rfl, List.forall_mem_cons.mpr ⟨am_gm (i := 373) rfl rfl, List.forall_mem_cons.mpr ⟨am_gm (i := 374) rfl rfl, List.forall_mem_cons.mpr ⟨am_gm (i := 311) rfl rfl, List.forall_mem_cons.mpr ⟨am_gm (i := 375) rfl rfl, List.forall_mem_cons.mpr ⟨am_gm (i := 376) rfl rfl, List.forall_mem_cons.mpr ⟨am_gm (i := 377) rfl rfl, List.forall_mem_cons.mpr ⟨am_gm (i := 187) rfl rfl, List.forall_mem_cons.mpr ⟨am_gm (i := 188) rfl rfl, List.forall_mem_cons.mpr ⟨am_gm (i := 189) rfl rfl, List.forall_mem_cons.mpr ⟨am_gm (i := 193) rfl rfl, List.forall_mem_cons.mpr ⟨am_gm (i := 195) rfl rfl, List.forall_mem_cons.mpr ⟨am_gm (i := 198) rfl rfl, List.forall_mem_cons.mpr ⟨am_gm (i := 200) rfl rfl, List.forall_mem_cons.mpr ⟨am_gm (i := 202) rfl rfl, List.forall_mem_cons.mpr ⟨am_gm (i := 205) rfl rfl, List.forall_mem_cons.mpr ⟨am_gm (i := 207) rfl rfl, List.forall_mem_cons.mpr ⟨am_gm (i := 209) rfl rfl, List.forall_mem_cons.mpr ⟨am_gm (i := 185) rfl rfl, List.forall_mem_cons.mpr ⟨am_gm (i := 190) rfl rfl, List.forall_mem_cons.mpr ⟨am_gm (i := 308) rfl rfl, List.forall_mem_cons.mpr ⟨am_gm (i := 312) rfl rfl, List.forall_mem_cons.mpr ⟨am_gm (i := 315) rfl rfl, List.forall_mem_cons.mpr ⟨am_gm (i := 318) rfl rfl, List.forall_mem_cons.mpr ⟨am_gm (i := 320) rfl rfl, List.forall_mem_cons.mpr ⟨am_gm (i := 322) rfl rfl, List.forall_mem_cons.mpr ⟨am_gm (i := 128) rfl rfl, List.forall_mem_cons.mpr ⟨am_gm (i := 130) rfl rfl, List.forall_mem_cons.mpr ⟨am_gm (i := 134) rfl rfl, List.forall_mem_cons.mpr ⟨am_gm (i := 135) rfl rfl, List.forall_mem_cons.mpr ⟨am_gm (i := 132) rfl rfl, List.forall_mem_cons.mpr ⟨am_gm (i := 119) rfl rfl, List.forall_mem_cons.mpr ⟨am_gm (i := 136) rfl rfl, List.forall_mem_cons.mpr ⟨am_gm (i := 137) rfl rfl, List.forall_mem_cons.mpr ⟨am_gm (i := 411) rfl rfl, List.forall_mem_cons.mpr ⟨am_gm (i := 412) rfl rfl, List.forall_mem_cons.mpr ⟨am_gm (i := 413) rfl rfl, List.forall_mem_cons.mpr ⟨am_gm (i := 414) rfl rfl, List.forall_mem_cons.mpr ⟨am_gm (i := 415) rfl rfl, List.forall_mem_cons.mpr ⟨am_gm (i := 416) rfl rfl, List.forall_mem_cons.mpr ⟨am_gm (i := 417) rfl rfl, List.forall_mem_cons.mpr ⟨am_gm (i := 129) rfl rfl, List.forall_mem_cons.mpr ⟨am_gm (i := 121) rfl rfl, List.forall_mem_cons.mpr ⟨am_gm (i := 309) rfl rfl, List.forall_mem_cons.mpr ⟨am_gm (i := 131) rfl rfl, List.forall_mem_cons.mpr ⟨am_gm (i := 133) rfl rfl, List.forall_mem_cons.mpr ⟨am_gm (i := 169) rfl rfl, List.forall_mem_cons.mpr ⟨am_gm (i := 314) rfl rfl, List.forall_mem_cons.mpr ⟨am_gm (i := 186) rfl rfl, List.forall_mem_cons.mpr ⟨am_gm (i := 192) rfl rfl, List.forall_mem_cons.mpr ⟨am_gm (i := 319) rfl rfl, List.forall_mem_cons.mpr ⟨am_gm (i := 266) rfl rfl, List.forall_mem_cons.mpr ⟨am_gm (i := 321) rfl rfl, List.forall_mem_cons.mpr ⟨am_gm (i := 289) rfl rfl, List.forall_mem_cons.mpr ⟨am_gm (i := 317) rfl rfl, List.forall_mem_cons.mpr ⟨am_gm (i := 249) rfl rfl, List.forall_mem_cons.mpr ⟨am_gm (i := 245) rfl rfl, List.forall_mem_cons.mpr ⟨am_gm (i := 324) rfl rfl, List.forall_mem_cons.mpr ⟨am_gm (i := 194) rfl rfl, List.forall_mem_cons.mpr ⟨am_gm (i := 204) rfl rfl, List.forall_mem_cons.mpr ⟨am_gm (i := 197) rfl rfl, List.forall_mem_cons.mpr ⟨am_gm (i := 199) rfl rfl, List.forall_mem_cons.mpr ⟨am_gm (i := 201) rfl rfl, List.forall_mem_cons.mpr ⟨am_gm (i := 206) rfl rfl, List.forall_mem_cons.mpr ⟨am_gm (i := 208) rfl rfl, List.forall_mem_cons.mpr ⟨am_gm (i := 210) rfl rfl, List.forall_mem_cons.mpr ⟨am_gm (i := 346) rfl rfl, List.forall_mem_cons.mpr ⟨am_gm (i := 1065) rfl rfl, List.forall_mem_cons.mpr ⟨am_gm (i := 1066) rfl rfl, List.forall_mem_cons.mpr ⟨am_gm (i := 1067) rfl rfl, List.forall_mem_cons.mpr ⟨am_gm (i := 1069) rfl rfl, List.forall_mem_cons.mpr ⟨am_gm (i := 1073) rfl rfl, List.forall_mem_cons.mpr ⟨am_gm (i := 1074) rfl rfl, List.forall_mem_cons.mpr ⟨am_gm (i := 1075) rfl rfl, List.forall_mem_cons.mpr ⟨am_gm (i := 1076) rfl rfl, List.forall_mem_cons.mpr ⟨am_gm (i := 1077) rfl rfl, List.forall_mem_cons.mpr ⟨am_gm (i := 1079) rfl rfl, List.forall_mem_cons.mpr ⟨am_gm (i := 1080) rfl rfl, List.forall_mem_cons.mpr ⟨am_gm (i := 1081) rfl rfl, List.forall_mem_cons.mpr ⟨am_gm (i := 1082) rfl rfl, List.forall_mem_cons.mpr ⟨am_gm (i := 1083) rfl rfl, List.forall_mem_cons.mpr ⟨am_gm (i := 1085) rfl rfl, List.forall_mem_cons.mpr ⟨am_gm (i := 1086) rfl rfl, List.forall_mem_cons.mpr ⟨am_gm (i := 1090) rfl rfl, List.forall_mem_cons.mpr ⟨am_gm (i := 1091) rfl rfl, List.forall_mem_cons.mpr ⟨am_gm (i := 1093) rfl rfl, List.forall_mem_cons.mpr ⟨am_gm (i := 1068) rfl rfl, List.forall_mem_cons.mpr ⟨am_gm (i := 1071) rfl rfl, List.forall_mem_cons.mpr ⟨am_gm (i := 1070) rfl rfl, List.forall_mem_cons.mpr ⟨am_gm (i := 1072) rfl rfl, List.forall_mem_cons.mpr ⟨am_gm (i := 1078) rfl rfl, List.forall_mem_cons.mpr ⟨am_gm (i := 1084) rfl rfl, List.forall_mem_cons.mpr ⟨am_gm (i := 1092) rfl rfl, List.forall_mem_cons.mpr ⟨am_gm (i := 1087) rfl rfl, List.forall_mem_cons.mpr ⟨am_gm (i := 1088) rfl rfl, List.forall_mem_cons.mpr ⟨am_gm (i := 1089) rfl rfl, List.forall_mem_nil _⟩⟩⟩⟩⟩⟩⟩⟩⟩⟩⟩⟩⟩⟩⟩⟩⟩⟩⟩⟩⟩⟩⟩⟩⟩⟩⟩⟩⟩⟩⟩⟩⟩⟩⟩⟩⟩⟩⟩⟩⟩⟩⟩⟩⟩⟩⟩⟩⟩⟩⟩⟩⟩⟩⟩⟩⟩⟩⟩⟩⟩⟩⟩⟩⟩⟩⟩⟩⟩⟩⟩⟩⟩⟩⟩⟩⟩⟩⟩⟩⟩⟩⟩⟩⟩⟩⟩⟩⟩⟩⟩⟩⟩⟩⟩⟩⟩⟩⟩⟩⟩⟩⟩⟩⟩⟩⟩⟩⟩⟩⟩⟩⟩⟩⟩⟩⟩⟩⟩⟩⟩⟩⟩⟩⟩⟩⟩⟩⟩⟩⟩⟩⟩⟩⟩⟩⟩⟩
def am_ml : List (Nat × Nat × Nat) := [(0, 25, 133), (1, 24, 138), (1, 32, 139), (1, 36, 142), (1, 39, 143), (1, 43, 144), (1, 55, 187), (1, 58, 147), (2, 39, 209), (2, 46, 153), (2, 50, 163), (3, 23, 157), (3, 27, 158), (3, 31, 161), (3, 35, 159), (3, 45, 174), (3, 51, 248), (3, 55, 170), (3, 59, 171), (3, 62, 166), (3, 65, 133), (3, 71, 177), (4, 11, 170), (4, 17, 248), (4, 23, 171), (4, 26, 175), (4, 30, 172), (4, 33, 173), (4, 36, 176), (4, 43, 178), (4, 47, 181), (4, 50, 135), (4, 56, 179), (4, 60, 180), (4, 64, 133), (6, 40, 192), (6, 47, 194), (6, 51, 193), (6, 59, 187), (6, 66, 163), (7, 45, 199), (7, 49, 200), (7, 58, 212), (7, 70, 202), (7, 74, 203), (7, 77, 214), (7, 81, 218), (7, 84, 219), (7, 95, 165), (7, 101, 201), (7, 115, 207), (7, 119, 224), (7, 123, 225), (8, 52, 209), (8, 56, 213), (8, 60, 214), (8, 64, 217), (8, 68, 210), (8, 71, 221), (8, 75, 216), (8, 79, 223), (8, 82, 224), (8, 85, 212), (8, 88, 219), (9, 32, 137), (9, 48, 163), (9, 52, 168), (9, 56, 227), (9, 59, 189), (9, 62, 149), (9, 65, 155), (10, 11, 132), (10, 34, 236), (10, 38, 237), (10, 41, 238), (10, 45, 170), (10, 55, 233), (10, 59, 235), (10, 62, 234), (10, 65, 240), (10, 69, 241), (10, 72, 242), (10, 75, 244), (10, 78, 245), (10, 81, 169), (10, 85, 239), (10, 89, 246), (10, 95, 243), (11, 18, 132), (11, 60, 134), (11, 63, 232), (11, 67, 3), (11, 80, 160), (11, 86, 162), (11, 124, 183), (11, 137, 157), (11, 141, 158), (11, 144, 159), (11, 148, 170), (11, 154, 171), (11, 157, 172), (11, 160, 173), (11, 163, 167), (11, 167, 136), (11, 170, 163), (11, 174, 220), (11, 178, 222), (11, 182, 164), (11, 185, 210), (11, 188, 215), (11, 192, 211), (11, 199, 225), (11, 206, 224), (11, 227, 214), (11, 230, 209), (11, 234, 152), (11, 238, 226), (11, 241, 154), (11, 244, 184), (11, 247, 218), (11, 250, 186), (11, 253, 187), (11, 256, 191), (11, 260, 195), (11, 267, 196), (11, 271, 188), (11, 275, 26), (11, 279, 229), (11, 281, 25), (11, 284, 146), (11, 288, 185), (11, 291, 145), (11, 294, 140), (11, 297, 141), (11, 300, 139), (11, 303, 142), (11, 306, 148), (11, 310, 151), (11, 312, 36), (11, 315, 38), (11, 318, 198), (11, 322, 205), (11, 325, 206), (11, 329, 230), (11, 332, 204), (12, 71, 44), (12, 84, 49), (12, 91, 50), (12, 95, 53), (12, 99, 52), (12, 103, 51), (12, 106, 54), (12, 109, 55), (12, 113, 59), (12, 116, 56), (12, 119, 57), (12, 122, 60), (12, 126, 58), (12, 129, 61), (12, 133, 62), (12, 136, 63), (12, 139, 45), (12, 142, 67), (12, 145, 68), (12, 152, 70), (12, 155, 72), (12, 158, 71), (12, 162, 73), (12, 165, 79), (12, 168, 78), (12, 172, 77), (12, 175, 80), (12, 178, 81), (12, 181, 82), (12, 185, 85), (12, 188, 88), (12, 191, 89), (12, 194, 47), (12, 197, 46), (12, 200, 91), (12, 203, 87), (12, 206, 90), (12, 210, 97), (12, 213, 99), (12, 216, 100), (12, 219, 101), (12, 223, 98), (12, 226, 105), (12, 229, 104), (12, 232, 108), (12, 235, 112), (12, 238, 114), (12, 244, 123), (12, 251, 124), (12, 254, 125), (12, 257, 126), (13, 9, 0), (13, 12, 43), (13, 13, 1), (13, 17, 48), (13, 18, 2), (13, 22, 64), (13, 23, 4), (13, 27, 65), (13, 28, 5), (13, 31, 66), (13, 32, 6), (13, 36, 69), (13, 37, 7), (13, 40, 74), (13, 41, 8), (13, 44, 75), (13, 45, 9), (13, 49, 76), (13, 50, 10), (13, 54, 83), (13, 55, 11), (13, 59, 84), (13, 60, 12), (13, 64, 86), (13, 65, 13), (13, 69, 92), (13, 70, 14), (13, 73, 93), (13, 74, 15), (13, 77, 94), (13, 78, 16), (13, 81, 95), (13, 82, 17), (13, 85, 96), (13, 86, 18), (13, 89, 102), (13, 90, 19), (13, 94, 103), (13, 95, 20), (13, 98, 106), (13, 99, 21), (13, 102, 107), (13, 103, 22), (13, 107, 109), (13, 108, 23), (13, 111, 110), (13, 112, 24), (13, 115, 111), (13, 116, 25), (13, 119, 112), (13, 120, 27), (13, 123, 113), (13, 124, 28), (13, 127, 115), (13, 128, 29), (13, 132, 116), (13, 133, 30), (13, 136, 117), (13, 137, 31), (13, 140, 118), (13, 141, 32), (13, 144, 119), (13, 145, 33), (13, 148, 120), (13, 149, 34), (13, 152, 121), (13, 153, 35), (13, 156, 122), (13, 157, 37), (13, 160, 127), (13, 161, 39), (13, 164, 128), (13, 165, 40), (13, 169, 129), (13, 170, 41), (13, 173, 130), (13, 174, 42), (13, 177, 131)]
set_option maxRecDepth 100000 in
set_option maxHeartbeats 4000000 in
theorem am_ml_ok : ∀ q ∈ am_ml, Cond.methodLink (am_own q.1) q.2.1 (am_m q.2.2).1 ∈ am_good := List.forall_mem_cons.mpr ⟨am_gm (i := 441) rfl rfl, List.forall_mem_cons.mpr ⟨am_gm (i := 873) rfl rfl, List.forall_mem_cons.mpr ⟨am_gm (i := 880) rfl rfl, List.forall_mem_cons.mpr ⟨am_gm (i := 884) rfl rfl, List.forall_mem_cons.mpr ⟨am_gm (i := 888) rfl rfl, List.forall_mem_cons.mpr ⟨am_gm (i := 876) rfl rfl, List.forall_mem_cons.mpr ⟨am_gm (i := 868) rfl rfl, List.forall_mem_cons.mpr ⟨am_gm (i := 869) rfl rfl, List.forall_mem_cons.mpr ⟨am_gm (i := 746) rfl rfl, List.forall_mem_cons.mpr ⟨am_gm (i := 747) rfl rfl, List.forall_mem_cons.mpr ⟨am_gm (i := 751) rfl rfl, List.forall_mem_cons.mpr ⟨am_gm (i := 524) rfl rfl, List.forall_mem_cons.mpr ⟨am_gm (i := 520) rfl rfl, List.forall_mem_cons.mpr ⟨am_gm (i := 528) rfl rfl, List.forall_mem_cons.mpr ⟨am_gm (i := 532) rfl rfl, List.forall_mem_cons.mpr ⟨am_gm (i := 632) rfl rfl, List.forall_mem_cons.mpr ⟨am_gm (i := 644) rfl rfl, List.forall_mem_cons.mpr ⟨am_gm (i := 579) rfl rfl, List.forall_mem_cons.mpr ⟨am_gm (i := 692) rfl rfl, List.forall_mem_cons.mpr ⟨am_gm (i := 979) rfl rfl, List.forall_mem_cons.mpr ⟨am_gm (i := 580) rfl rfl, List.forall_mem_cons.mpr ⟨am_gm (i := 581) rfl rfl, List.forall_mem_cons.mpr ⟨am_gm (i := 585) rfl rfl, List.forall_mem_cons.mpr ⟨am_gm (i := 635) rfl rfl, List.forall_mem_cons.mpr ⟨am_gm (i := 584) rfl rfl, List.forall_mem_cons.mpr ⟨am_gm (i := 638) rfl rfl, List.forall_mem_cons.mpr ⟨am_gm (i := 606) rfl rfl, List.forall_mem_cons.mpr ⟨am_gm (i := 607) rfl rfl, List.forall_mem_cons.mpr ⟨am_gm (i := 641) rfl rfl, List.forall_mem_cons.mpr ⟨am_gm (i := 586) rfl rfl, List.forall_mem_cons.mpr ⟨am_gm (i := 590) rfl rfl, List.forall_mem_cons.mpr ⟨am_gm (i := 595) rfl rfl, List.forall_mem_cons.mpr ⟨am_gm (i := 603) rfl rfl, List.forall_mem_cons.mpr ⟨am_gm (i := 608) rfl rfl, List.forall_mem_cons.mpr ⟨am_gm (i := 589) rfl rfl, List.forall_mem_cons.mpr ⟨am_gm (i := 805) rfl rfl, List.forall_mem_cons.mpr ⟨am_gm (i := 815) rfl rfl, List.forall_mem_cons.mpr ⟨am_gm (i := 809) rfl rfl, List.forall_mem_cons.mpr ⟨am_gm (i := 812) rfl rfl, List.forall_mem_cons.mpr ⟨am_gm (i := 813) rfl rfl, List.forall_mem_cons.mpr ⟨am_gm (i := 962) rfl rfl, List.forall_mem_cons.mpr ⟨am_gm (i := 969) rfl rfl, List.forall_mem_cons.mpr ⟨am_gm (i := 973) rfl rfl, List.forall_mem_cons.mpr ⟨am_gm (i := 988) rfl rfl, List.forall_mem_cons.mpr ⟨am_gm (i := 992) rfl rfl, List.forall_mem_cons.mpr ⟨am_gm (i := 966) rfl rfl, List.forall_mem_cons.mpr ⟨am_gm (i := 967) rfl rfl, List.forall_mem_cons.mpr ⟨am_gm (i := 968) rfl rfl, List.forall_mem_cons.mpr ⟨am_gm (i := 975) rfl rfl, List.forall_mem_cons.mpr ⟨am_gm (i := 983) rfl rfl, List.forall_mem_cons.mpr ⟨am_gm (i := 1012) rfl rfl, List.forall_mem_cons.mpr ⟨am_gm (i := 1016) rfl rfl, List.forall_mem_cons.mpr ⟨am_gm (i := 1017) rfl rfl, List.forall_mem_cons.mpr ⟨am_gm (i := 665) rfl rfl, List.forall_mem_cons.mpr ⟨am_gm (i := 661) rfl rfl, List.forall_mem_cons.mpr ⟨am_gm (i := 702) rfl rfl, List.forall_mem_cons.mpr ⟨am_gm (i := 681) rfl rfl, List.forall_mem_cons.mpr ⟨am_gm (i := 684) rfl rfl, List.forall_mem_cons.mpr ⟨am_gm (i := 653) rfl rfl, List.forall_mem_cons.mpr ⟨am_gm (i := 657) rfl rfl, List.forall_mem_cons.mpr ⟨am_gm (i := 677) rfl rfl, List.forall_mem_cons.mpr ⟨am_gm (i := 714) rfl rfl, List.forall_mem_cons.mpr ⟨am_gm (i := 756) rfl rfl, List.forall_mem_cons.mpr ⟨am_gm (i := 760) rfl rfl, List.forall_mem_cons.mpr ⟨am_gm (i := 261) rfl rfl, List.forall_mem_cons.mpr ⟨am_gm (i := 854) rfl rfl, List.forall_mem_cons.mpr ⟨am_gm (i := 1026) rfl rfl, List.forall_mem_cons.mpr ⟨am_gm (i := 1031) rfl rfl, List.forall_mem_cons.mpr ⟨am_gm (i := 1036) rfl rfl, List.forall_mem_cons.mpr ⟨am_gm (i := 1040) rfl rfl, List.forall_mem_cons.mpr ⟨am_gm (i := 1045) rfl rfl, List.forall_mem_cons.mpr ⟨am_gm (i := 111) rfl rfl, List.forall_mem_cons.mpr ⟨am_gm (i := 453) rfl rfl, List.forall_mem_cons.mpr ⟨am_gm (i := 464) rfl rfl, List.forall_mem_cons.mpr ⟨am_gm (i := 468) rfl rfl, List.forall_mem_cons.mpr ⟨am_gm (i := 510) rfl rfl, List.forall_mem_cons.mpr ⟨am_gm (i := 457) rfl rfl, List.forall_mem_cons.mpr ⟨am_gm (i := 461) rfl rfl, List.forall_mem_cons.mpr ⟨am_gm (i := 472) rfl rfl, List.forall_mem_cons.mpr ⟨am_gm (i := 475) rfl rfl, List.forall_mem_cons.mpr ⟨am_gm (i := 486) rfl rfl, List.forall_mem_cons.mpr ⟨am_gm (i := 494) rfl rfl, List.forall_mem_cons.mpr ⟨am_gm (i := 502) rfl rfl, List.forall_mem_cons.mpr ⟨am_gm (i := 506) rfl rfl, List.forall_mem_cons.mpr ⟨am_gm (i := 483) rfl rfl, List.forall_mem_cons.mpr ⟨am_gm (i := 479) rfl rfl, List.forall_mem_cons.mpr ⟨am_gm (i := 490) rfl rfl, List.forall_mem_cons.mpr ⟨am_gm (i := 498) rfl rfl, List.forall_mem_cons.mpr ⟨am_gm (i := 155) rfl rfl, List.forall_mem_cons.mpr ⟨am_gm (i := 437) rfl rfl, List.forall_mem_cons.mpr ⟨am_gm (i := 449) rfl rfl, List.forall_mem_cons.mpr ⟨am_gm (i := 513) rfl rfl, List.forall_mem_cons.mpr ⟨am_gm (i := 516) rfl rfl, List.forall_mem_cons.mpr ⟨am_gm (i := 536) rfl rfl, List.forall_mem_cons.mpr ⟨am_gm (i := 548) rfl rfl, List.forall_mem_cons.mpr ⟨am_gm (i := 556) rfl rfl, List.forall_mem_cons.mpr ⟨am_gm (i := 557) rfl rfl, List.forall_mem_cons.mpr ⟨am_gm (i := 558) rfl rfl, List.forall_mem_cons.mpr ⟨am_gm (i := 559) rfl rfl, List.forall_mem_cons.mpr ⟨am_gm (i := 560) rfl rfl, List.forall_mem_cons.mpr ⟨am_gm (i := 564) rfl rfl, List.forall_mem_cons.mpr ⟨am_gm (i := 568) rfl rfl, List.forall_mem_cons.mpr ⟨am_gm (i := 575) rfl rfl, List.forall_mem_cons.mpr ⟨am_gm (i := 615) rfl rfl, List.forall_mem_cons.mpr ⟨am_gm (i := 627) rfl rfl, List.forall_mem_cons.mpr ⟨am_gm (i := 649) rfl rfl, List.forall_mem_cons.mpr ⟨am_gm (i := 673) rfl rfl, List.forall_mem_cons.mpr ⟨am_gm (i := 688) rfl rfl, List.forall_mem_cons.mpr ⟨am_gm (i := 697) rfl rfl, List.forall_mem_cons.mpr ⟨am_gm (i := 698) rfl rfl, List.forall_mem_cons.mpr ⟨am_gm (i := 706) rfl rfl, List.forall_mem_cons.mpr ⟨am_gm (i := 710) rfl rfl, List.forall_mem_cons.mpr ⟨am_gm (i := 726) rfl rfl, List.forall_mem_cons.mpr ⟨am_gm (i := 735) rfl rfl, List.forall_mem_cons.mpr ⟨am_gm (i := 740) rfl rfl, List.forall_mem_cons.mpr ⟨am_gm (i := 742) rfl rfl, List.forall_mem_cons.mpr ⟨am_gm (i := 752) rfl rfl, List.forall_mem_cons.mpr ⟨am_gm (i := 764) rfl rfl, List.forall_mem_cons.mpr ⟨am_gm (i := 772) rfl rfl, List.forall_mem_cons.mpr ⟨am_gm (i := 776) rfl rfl, List.forall_mem_cons.mpr ⟨am_gm (i := 780) rfl rfl, List.forall_mem_cons.mpr ⟨am_gm (i := 792) rfl rfl, List.forall_mem_cons.mpr ⟨am_gm (i := 800) rfl rfl, List.forall_mem_cons.mpr ⟨am_gm (i := 819) rfl rfl, List.forall_mem_cons.mpr ⟨am_gm (i := 831) rfl rfl, List.forall_mem_cons.mpr ⟨am_gm (i := 835) rfl rfl, List.forall_mem_cons.mpr ⟨am_gm (i := 846) rfl rfl, List.forall_mem_cons.mpr ⟨am_gm (i := 850) rfl rfl, List.forall_mem_cons.mpr ⟨am_gm (i := 859) rfl rfl, List.forall_mem_cons.mpr ⟨am_gm (i := 864) rfl rfl, List.forall_mem_cons.mpr ⟨am_gm (i := 892) rfl rfl, List.forall_mem_cons.mpr ⟨am_gm (i := 896) rfl rfl, List.forall_mem_cons.mpr ⟨am_gm (i := 904) rfl rfl, List.forall_mem_cons.mpr ⟨am_gm (i := 912) rfl rfl, List.forall_mem_cons.mpr ⟨am_gm (i := 920) rfl rfl, List.forall_mem_cons.mpr ⟨am_gm (i := 925) rfl rfl, List.forall_mem_cons.mpr ⟨am_gm (i := 926) rfl rfl, List.forall_mem_cons.mpr ⟨am_gm (i := 938) rfl rfl, List.forall_mem_cons.mpr ⟨am_gm (i := 946) rfl rfl, List.forall_mem_cons.mpr ⟨am_gm (i := 954) rfl rfl, List.forall_mem_cons.mpr ⟨am_gm (i := 958) rfl rfl, List.forall_mem_cons.mpr ⟨am_gm (i := 1000) rfl rfl, List.forall_mem_cons.mpr ⟨am_gm (i := 1008) rfl rfl, List.forall_mem_cons.mpr ⟨am_gm (i := 1022) rfl rfl, List.forall_mem_cons.mpr ⟨am_gm (i := 1054) rfl rfl, List.forall_mem_cons.mpr ⟨am_gm (i := 1239) rfl rfl, List.forall_mem_cons.mpr ⟨am_gm (i := 1171) rfl rfl, List.forall_mem_cons.mpr ⟨am_gm (i := 1183) rfl rfl, List.forall_mem_cons.mpr ⟨am_gm (i := 1187) rfl rfl, List.forall_mem_cons.mpr ⟨am_gm (i := 1179) rfl rfl, List.forall_mem_cons.mpr ⟨am_gm (i := 1195) rfl rfl, List.forall_mem_cons.mpr ⟨am_gm (i := 1191) rfl rfl, List.forall_mem_cons.mpr ⟨am_gm (i := 1211) rfl rfl, List.forall_mem_cons.mpr ⟨am_gm (i := 1175) rfl rfl, List.forall_mem_cons.mpr ⟨am_gm (i := 1199) rfl rfl, List.forall_mem_cons.mpr ⟨am_gm (i := 1203) rfl rfl, List.forall_mem_cons.mpr ⟨am_gm (i := 1207) rfl rfl, List.forall_mem_cons.mpr ⟨am_gm (i := 1215) rfl rfl, List.forall_mem_cons.mpr ⟨am_gm (i := 1167) rfl rfl, List.forall_mem_cons.mpr ⟨am_gm (i := 1163) rfl rfl, List.forall_mem_cons.mpr ⟨am_gm (i := 1219) rfl rfl, List.forall_mem_cons.mpr ⟨am_gm (i := 1235) rfl rfl, List.forall_mem_cons.mpr ⟨am_gm (i := 1242) rfl rfl, List.forall_mem_cons.mpr ⟨am_gm (i := 1246) rfl rfl, List.forall_mem_cons.mpr ⟨am_gm (i := 1254) rfl rfl, List.forall_mem_cons.mpr ⟨am_gm (i := 1262) rfl rfl, List.forall_mem_cons.mpr ⟨am_gm (i := 1266) rfl rfl, List.forall_mem_cons.mpr ⟨am_gm (i := 1258) rfl rfl, List.forall_mem_cons.mpr ⟨am_gm (i := 1297) rfl rfl, List.forall_mem_cons.mpr ⟨am_gm (i := 1300) rfl rfl, List.forall_mem_cons.mpr ⟨am_gm (i := 1290) rfl rfl, List.forall_mem_cons.mpr ⟨am_gm (i := 1293) rfl rfl, List.forall_mem_cons.mpr ⟨am_gm (i := 1286) rfl rfl, List.forall_mem_cons.mpr ⟨am_gm (i := 1282) rfl rfl, List.forall_mem_cons.mpr ⟨am_gm (i := 1311) rfl rfl, List.forall_mem_cons.mpr ⟨am_gm (i := 1335) rfl rfl, List.forall_mem_cons.mpr ⟨am_gm (i := 1343) rfl rfl, List.forall_mem_cons.mpr ⟨am_gm (i := 1319) rfl rfl, List.forall_mem_cons.mpr ⟨am_gm (i := 1323) rfl rfl, List.forall_mem_cons.mpr ⟨am_gm (i := 1327) rfl rfl, List.forall_mem_cons.mpr ⟨am_gm (i := 1331) rfl rfl, List.forall_mem_cons.mpr ⟨am_gm (i := 1339) rfl rfl, List.forall_mem_cons.mpr ⟨am_gm (i := 1375) rfl rfl, List.forall_mem_cons.mpr ⟨am_gm (i := 1371) rfl rfl, List.forall_mem_cons.mpr ⟨am_gm (i := 1379) rfl rfl, List.forall_mem_cons.mpr ⟨am_gm (i := 1367) rfl rfl, List.forall_mem_cons.mpr ⟨am_gm (i := 1388) rfl rfl, List.forall_mem_cons.mpr ⟨am_gm (i := 1400) rfl rfl, List.forall_mem_cons.mpr ⟨am_gm (i := 1404) rfl rfl, List.forall_mem_cons.mpr ⟨am_gm (i := 1412) rfl rfl, List.forall_mem_cons.mpr ⟨am_gm (i := 1432) rfl rfl, List.forall_mem_cons.mpr ⟨am_gm (i := 1437) rfl rfl, List.forall_mem_cons.mpr ⟨am_gm (i := 1481) rfl rfl, List.forall_mem_cons.mpr ⟨am_gm (i := 1473) rfl rfl, List.forall_mem_cons.mpr ⟨am_gm (i := 1477) rfl rfl, List.forall_mem_cons.mpr ⟨am_gm (i := 1485) rfl rfl, List.forall_mem_cons.mpr ⟨am_gm (i := 97) rfl rfl, List.forall_mem_cons.mpr ⟨am_gm (i := 1060) rfl rfl, List.forall_mem_cons.mpr ⟨am_gm (i := 433) rfl rfl, List.forall_mem_cons.mpr ⟨am_gm (i := 1155) rfl rfl, List.forall_mem_cons.mpr ⟨am_gm (i := 445) rfl rfl, List.forall_mem_cons.mpr ⟨am_gm (i := 1159) rfl rfl, List.forall_mem_cons.mpr ⟨am_gm (i := 540) rfl rfl, List.forall_mem_cons.mpr ⟨am_gm (i := 1223) rfl rfl, List.forall_mem_cons.mpr ⟨am_gm (i := 544) rfl rfl, List.forall_mem_cons.mpr ⟨am_gm (i := 1227) rfl rfl, List.forall_mem_cons.mpr ⟨am_gm (i := 552) rfl rfl, List.forall_mem_cons.mpr ⟨am_gm (i := 1231) rfl rfl, List.forall_mem_cons.mpr ⟨am_gm (i := 571) rfl rfl, List.forall_mem_cons.mpr ⟨am_gm (i := 1250) rfl rfl, List.forall_mem_cons.mpr ⟨am_gm (i := 611) rfl rfl, List.forall_mem_cons.mpr ⟨am_gm (i := 1270) rfl rfl, List.forall_mem_cons.mpr ⟨am_gm (i := 619) rfl rfl, List.forall_mem_cons.mpr ⟨am_gm (i := 1274) rfl rfl, List.forall_mem_cons.mpr ⟨am_gm (i := 623) rfl rfl, List.forall_mem_cons.mpr ⟨am_gm (i := 1278) rfl rfl, List.forall_mem_cons.mpr ⟨am_gm (i := 645) rfl rfl, List.forall_mem_cons.mpr ⟨am_gm (i := 1303) rfl rfl, List.forall_mem_cons.mpr ⟨am_gm (i := 669) rfl rfl, List.forall_mem_cons.mpr ⟨am_gm (i := 1307) rfl rfl, List.forall_mem_cons.mpr ⟨am_gm (i := 693) rfl rfl, List.forall_mem_cons.mpr ⟨am_gm (i := 1315) rfl rfl, List.forall_mem_cons.mpr ⟨am_gm (i := 718) rfl rfl, List.forall_mem_cons.mpr ⟨am_gm (i := 1347) rfl rfl, List.forall_mem_cons.mpr ⟨am_gm (i := 722) rfl rfl, List.forall_mem_cons.mpr ⟨am_gm (i := 1351) rfl rfl, List.forall_mem_cons.mpr ⟨am_gm (i := 727) rfl rfl, List.forall_mem_cons.mpr ⟨am_gm (i := 1355) rfl rfl, List.forall_mem_cons.mpr ⟨am_gm (i := 731) rfl rfl, List.forall_mem_cons.mpr ⟨am_gm (i := 1359) rfl rfl, List.forall_mem_cons.mpr ⟨am_gm (i := 736) rfl rfl, List.forall_mem_cons.mpr ⟨am_gm (i := 1363) rfl rfl, List.forall_mem_cons.mpr ⟨am_gm (i := 768) rfl rfl, List.forall_mem_cons.mpr ⟨am_gm (i := 1384) rfl rfl, List.forall_mem_cons.mpr ⟨am_gm (i := 784) rfl rfl, List.forall_mem_cons.mpr ⟨am_gm (i := 1392) rfl rfl, List.forall_mem_cons.mpr ⟨am_gm (i := 788) rfl rfl, List.forall_mem_cons.mpr ⟨am_gm (i := 1396) rfl rfl, List.forall_mem_cons.mpr ⟨am_gm (i := 796) rfl rfl, List.forall_mem_cons.mpr ⟨am_gm (i := 1408) rfl rfl, List.forall_mem_cons.mpr ⟨am_gm (i := 823) rfl rfl, List.forall_mem_cons.mpr ⟨am_gm (i := 1416) rfl rfl, List.forall_mem_cons.mpr ⟨am_gm (i := 827) rfl rfl, List.forall_mem_cons.mpr ⟨am_gm (i := 1420) rfl rfl, List.forall_mem_cons.mpr ⟨am_gm (i := 842) rfl rfl, List.forall_mem_cons.mpr ⟨am_gm (i := 1424) rfl rfl, List.forall_mem_cons.mpr ⟨am_gm (i := 855) rfl rfl, List.forall_mem_cons.mpr ⟨am_gm (i := 1428) rfl rfl, List.forall_mem_cons.mpr ⟨am_gm (i := 860) rfl rfl, List.forall_mem_cons.mpr ⟨am_gm (i := 1433) rfl rfl, List.forall_mem_cons.mpr ⟨am_gm (i := 900) rfl rfl, List.forall_mem_cons.mpr ⟨am_gm (i := 1441) rfl rfl, List.forall_mem_cons.mpr ⟨am_gm (i := 908) rfl rfl, List.forall_mem_cons.mpr ⟨am_gm (i := 1445) rfl rfl, List.forall_mem_cons.mpr ⟨am_gm (i := 916) rfl rfl, List.forall_mem_cons.mpr ⟨am_gm (i := 1449) rfl rfl, List.forall_mem_cons.mpr ⟨am_gm (i := 921) rfl rfl, List.forall_mem_cons.mpr ⟨am_gm (i := 1453) rfl rfl, List.forall_mem_cons.mpr ⟨am_gm (i := 930) rfl rfl, List.forall_mem_cons.mpr ⟨am_gm (i := 1457) rfl rfl, List.forall_mem_cons.mpr ⟨am_gm (i := 934) rfl rfl, List.forall_mem_cons.mpr ⟨am_gm (i := 1461) rfl rfl, List.forall_mem_cons.mpr ⟨am_gm (i := 942) rfl rfl, List.forall_mem_cons.mpr ⟨am_gm (i := 1465) rfl rfl, List.forall_mem_cons.mpr ⟨am_gm (i := 950) rfl rfl, List.forall_mem_cons.mpr ⟨am_gm (i := 1469) rfl rfl, List.forall_mem_cons.mpr ⟨am_gm (i := 996) rfl rfl, List.forall_mem_cons.mpr ⟨am_gm (i := 1490) rfl rfl, List.forall_mem_cons.mpr ⟨am_gm (i := 1004) rfl rfl, List.forall_mem_cons.mpr ⟨am_gm (i := 1494) rfl rfl, List.forall_mem_cons.mpr ⟨am_gm (i := 1018) rfl rfl, List.forall_mem_cons.mpr ⟨am_gm (i := 1498) rfl rfl, List.forall_mem_cons.mpr ⟨am_gm (i := 1050) rfl rfl, List.forall_mem_cons.mpr ⟨am_gm (i := 1502) rfl rfl, List.forall_mem_nil _⟩⟩⟩⟩⟩⟩⟩⟩⟩⟩⟩⟩⟩⟩⟩⟩⟩⟩⟩⟩⟩⟩⟩⟩⟩⟩⟩⟩⟩⟩⟩⟩⟩⟩⟩⟩⟩⟩⟩⟩⟩⟩⟩⟩⟩⟩⟩⟩⟩⟩⟩⟩⟩⟩⟩⟩⟩⟩⟩⟩⟩⟩⟩⟩⟩⟩⟩⟩⟩⟩⟩⟩⟩⟩⟩⟩⟩⟩⟩⟩⟩⟩⟩⟩⟩⟩⟩⟩⟩⟩⟩⟩⟩⟩⟩⟩⟩⟩⟩⟩⟩⟩⟩⟩⟩⟩⟩⟩⟩⟩⟩⟩⟩⟩⟩⟩⟩⟩⟩⟩⟩⟩⟩⟩⟩⟩⟩⟩⟩⟩⟩⟩⟩⟩⟩⟩⟩⟩⟩⟩⟩⟩⟩⟩⟩⟩⟩⟩⟩⟩⟩⟩⟩⟩⟩⟩⟩⟩⟩⟩⟩⟩⟩⟩⟩⟩⟩⟩⟩⟩⟩⟩⟩⟩⟩⟩⟩⟩⟩⟩⟩⟩⟩⟩⟩⟩⟩⟩⟩⟩⟩⟩⟩⟩⟩⟩⟩⟩⟩⟩⟩⟩⟩⟩⟩⟩⟩⟩⟩⟩⟩⟩⟩⟩⟩⟩⟩⟩⟩⟩⟩⟩⟩⟩⟩⟩⟩⟩⟩⟩⟩⟩⟩⟩⟩⟩⟩⟩⟩⟩⟩⟩⟩⟩⟩⟩⟩⟩⟩⟩⟩⟩⟩⟩⟩⟩⟩⟩⟩⟩⟩⟩⟩⟩⟩⟩⟩⟩⟩⟩⟩⟩⟩⟩
def am_cl : List (Nat × Nat × Nat) := [(9, 7, 3), (9, 16, 7), (9, 23, 4), (9, 30, 1), (9, 37, 2), (10, 9, 0), (11, 7, 9), (11, 16, 0), (11, 29, 8), (11, 40, 5), (11, 47, 6), (13, 7, 10), (13, 10, 11)]
set_option maxRecDepth 100000 in
set_option maxHeartbeats 4000000 in
theorem am_cl_ok : ∀ q ∈ am_cl, Cond.classLink (am_own q.1) q.2.1 (am_vc q.2.2).1 ∈ am_good := List.forall_mem_cons.mpr ⟨am_gm (i := 162) rfl rfl, List.forall_mem_cons.mpr ⟨am_gm (i := 179) rfl rfl, List.forall_mem_cons.mpr ⟨am_gm (i := 238) rfl rfl, List.forall_mem_cons.mpr ⟨am_gm (i := 259) rfl rfl, List.forall_mem_cons.mpr ⟨am_gm (i := 282) rfl rfl, List.forall_mem_cons.mpr ⟨am_gm (i := 109) rfl rfl, List.forall_mem_cons.mpr ⟨am_gm (i := 103) rfl rfl, List.forall_mem_cons.mpr ⟨am_gm (i := 154) rfl rfl, List.forall_mem_cons.mpr ⟨am_gm (i := 156) rfl rfl, List.forall_mem_cons.mpr ⟨am_gm (i := 339) rfl rfl, List.forall_mem_cons.mpr ⟨am_gm (i := 359) rfl rfl, List.forall_mem_cons.mpr ⟨am_gm (i := 95) rfl rfl, List.forall_mem_cons.mpr ⟨am_gm (i := 1058) rfl rfl, List.forall_mem_nil _⟩⟩⟩⟩⟩⟩⟩⟩⟩⟩⟩⟩⟩
def am_an : List (Nat × Nat) := [(11, 29)]
set_option maxRecDepth 100000 in
set_option maxHeartbeats 4000000 in
theorem am_an_ok : ∀ q ∈ am_an, Cond.classLink (am_own q.1) q.2 RX9 ∈ am_good := List.forall_mem_cons.mpr ⟨am_gm (i := 156) rfl rfl, List.forall_mem_nil _⟩
def am_ct : List (Nat × Nat × Int) := [(4, 9, 65535), (4, 10, 1048575), (7, 57, 1000000), (11, 233, -1000000), (12, 7, 52050), (12, 222, -1000000), (12, 250, 100000)]
set_option maxRecDepth 100000 in
set_option maxHeartbeats 4000000 in
theorem am_ct_ok : ∀ q ∈ am_ct, Cond.constant (am_own q.1) q.2.1 (Int32.ofInt q.2.2) ∈ am_good := List.forall_mem_cons.mpr ⟨am_gm (i := 563) rfl rfl, List.forall_mem_cons.mpr ⟨am_gm (i := 567) rfl rfl, List.forall_mem_cons.mpr ⟨am_gm (i := 987) rfl rfl, List.forall_mem_cons.mpr ⟨am_gm (i := 741) rfl rfl, List.forall_mem_cons.mpr ⟨am_gm (i := 1064) rfl rfl, List.forall_mem_cons.mpr ⟨am_gm (i := 1383) rfl rfl, List.forall_mem_cons.mpr ⟨am_gm (i := 1489) rfl rfl, List.forall_mem_nil _⟩⟩⟩⟩⟩⟩⟩
def am_oi : List (Nat × Nat) := [(0, 3), (1, 3), (2, 3), (3, 3), (5, 3), (6, 3), (7, 5), (8, 3), (9, 1), (10, 3), (11, 1), (12, 1)]
set_option maxRecDepth 100000 in
set_option maxHeartbeats 4000000 in
theorem am_oi_ok : ∀ q ∈ am_oi, Cond.methodLink (am_own q.1) q.2 objectInit ∈ am_good := List.forall_mem_cons.mpr ⟨am_gm (i := 114) rfl rfl, List.forall_mem_cons.mpr ⟨am_gm (i := 264) rfl rfl, List.forall_mem_cons.mpr ⟨am_gm (i := 287) rfl rfl, List.forall_mem_cons.mpr ⟨am_gm (i := 167) rfl rfl, List.forall_mem_cons.mpr ⟨am_gm (i := 243) rfl rfl, List.forall_mem_cons.mpr ⟨am_gm (i := 344) rfl rfl, List.forall_mem_cons.mpr ⟨am_gm (i := 364) rfl rfl, List.forall_mem_cons.mpr ⟨am_gm (i := 184) rfl rfl, List.forall_mem_cons.mpr ⟨am_gm (i := 161) rfl rfl, List.forall_mem_cons.mpr ⟨am_gm (i := 108) rfl rfl, List.forall_mem_cons.mpr ⟨am_gm (i := 100) rfl rfl, List.forall_mem_cons.mpr ⟨am_gm (i := 1063) rfl rfl, List.forall_mem_nil _⟩⟩⟩⟩⟩⟩⟩⟩⟩⟩⟩⟩
def am_ac : List (Nat × Nat) := [(1, 62), (2, 56), (3, 75), (5, 22), (8, 91)]
set_option maxRecDepth 100000 in
set_option maxHeartbeats 4000000 in
theorem am_ac_ok : ∀ q ∈ am_ac, Cond.methodLink (am_own q.1) q.2 arraycopyName ∈ am_good := List.forall_mem_cons.mpr ⟨am_gm (i := 1044) rfl rfl, List.forall_mem_cons.mpr ⟨am_gm (i := 1049) rfl rfl, List.forall_mem_cons.mpr ⟨am_gm (i := 1030) rfl rfl, List.forall_mem_cons.mpr ⟨am_gm (i := 839) rfl rfl, List.forall_mem_cons.mpr ⟨am_gm (i := 1035) rfl rfl, List.forall_mem_nil _⟩⟩⟩⟩⟩
def am_mx : List (Nat × Nat) := [(0, 9), (6, 44)]
set_option maxRecDepth 100000 in
set_option maxHeartbeats 4000000 in
theorem am_mx_ok : ∀ q ∈ am_mx, Cond.methodLink (am_own q.1) q.2 Lib.Math.max.name ∈ am_good := List.forall_mem_cons.mpr ⟨am_gm (i := 115) rfl rfl, List.forall_mem_cons.mpr ⟨am_gm (i := 814) rfl rfl, List.forall_mem_nil _⟩⟩
def am_mi3 : List (Nat × Nat) := [(0, 32), (3, 39), (6, 30), (7, 87)]
set_option maxRecDepth 100000 in
set_option maxHeartbeats 4000000 in
theorem am_mi3_ok : ∀ q ∈ am_mi3, Cond.methodLink (am_own q.1) q.2 Lib.Math.min.name ∈ am_good := List.forall_mem_cons.mpr ⟨am_gm (i := 600) rfl rfl, List.forall_mem_cons.mpr ⟨am_gm (i := 631) rfl rfl, List.forall_mem_cons.mpr ⟨am_gm (i := 804) rfl rfl, List.forall_mem_cons.mpr ⟨am_gm (i := 974) rfl rfl, List.forall_mem_nil _⟩⟩⟩⟩
set_option maxRecDepth 100000 in
theorem am_maxw : Cond.static Lib.Math.max.name ∈ am_good ∧ Cond.code Lib.Math.max.name Lib.Math.max.code 2 (some .int) ∈ am_good := ⟨am_gm (i := 116) rfl rfl, am_gm (i := 117) rfl rfl⟩
set_option maxRecDepth 100000 in
theorem am_minw : Cond.static Lib.Math.min.name ∈ am_good ∧ Cond.code Lib.Math.min.name Lib.Math.min.code 2 (some .int) ∈ am_good := ⟨am_gm (i := 601) rfl rfl, am_gm (i := 602) rfl rfl⟩
set_option maxRecDepth 100000 in
theorem am_mathw : Cond.initialized "java/lang/Math" ∈ am_good := am_gm (i := 82) rfl rfl
def am_mn : List (Nat × Nat × Nat) := [(9, 9, 156), (9, 18, 208), (9, 25, 182), (9, 39, 150), (11, 9, 231), (11, 31, 228), (11, 42, 190), (11, 49, 197)]
def am_gs : List (Nat × Nat) := [(0, 29), (4, 39)]
def am_nest : List Cond := am_mn.map (fun q => Cond.methodLinkNest (am_own q.1) q.2.1 (am_m q.2.2).1 RX11) ++ am_gs.map (fun q => Cond.fieldLinkNest (am_own q.1) q.2 RX11 "TENS" "[I" RX11)
set_option maxRecDepth 100000 in
set_option maxHeartbeats 4000000 in
theorem am_nest_ok : ∀ w ∈ am_nest, w ∈ lw_tbl := List.forall_mem_cons.mpr ⟨List.mem_of_getElem? (i := 164) rfl, List.forall_mem_cons.mpr ⟨List.mem_of_getElem? (i := 181) rfl, List.forall_mem_cons.mpr ⟨List.mem_of_getElem? (i := 240) rfl, List.forall_mem_cons.mpr ⟨List.mem_of_getElem? (i := 284) rfl, List.forall_mem_cons.mpr ⟨List.mem_of_getElem? (i := 105) rfl, List.forall_mem_cons.mpr ⟨List.mem_of_getElem? (i := 158) rfl, List.forall_mem_cons.mpr ⟨List.mem_of_getElem? (i := 341) rfl, List.forall_mem_cons.mpr ⟨List.mem_of_getElem? (i := 361) rfl, List.forall_mem_cons.mpr ⟨List.mem_of_getElem? (i := 599) rfl, List.forall_mem_cons.mpr ⟨List.mem_of_getElem? (i := 593) rfl, List.forall_mem_nil _⟩⟩⟩⟩⟩⟩⟩⟩⟩⟩
def am_mok (q : am_MI) : Prop := Cond.code q.1 q.2.1 q.2.2.1 q.2.2.2.1 ∈ am_good ∧ Cond.initialized q.1.cls ∈ am_good ∧ (q.2.2.2.2.2 = true → Cond.static q.1 ∈ am_good) ∧ (q.2.2.2.2.2 = false → Cond.instanceMethod q.1 ∈ am_good) ∧ (q.2.2.2.2.2 = false → q.1.name ≠ "<init>" → Cond.selects q.1.cls q.1 q.1 ∈ am_good)
set_option maxRecDepth 100000 in
theorem am_mo_Cart_init : am_mok (am_m 0) ∨ (am_m 0).2.2.2.2.1 = 13 := Or.inl ⟨am_gm (i := 99) rfl rfl, am_gm (i := 79) rfl rfl, (fun h => Bool.noConfusion h), (fun _ => am_gm (i := 98) rfl rfl), (fun _ h => absurd rfl h)⟩
set_option maxRecDepth 100000 in
theorem am_mo_Cart_feed : am_mok (am_m 1) ∨ (am_m 1).2.2.2.2.1 = 13 := Or.inl ⟨am_gm (i := 436) rfl rfl, am_gm (i := 79) rfl rfl, (fun h => Bool.noConfusion h), (fun _ => am_gm (i := 434) rfl rfl), (fun _ _ => am_gm (i := 435) rfl rfl)⟩
set_option maxRecDepth 100000 in
theorem am_mo_Cart_mark : am_mok (am_m 2) ∨ (am_m 2).2.2.2.2.1 = 13 := Or.inl ⟨am_gm (i := 448) rfl rfl, am_gm (i := 79) rfl rfl, (fun h => Bool.noConfusion h), (fun _ => am_gm (i := 446) rfl rfl), (fun _ _ => am_gm (i := 447) rfl rfl)⟩
set_option maxRecDepth 100000 in
theorem am_mo_Cart_withinText : am_mok (am_m 3) ∨ (am_m 3).2.2.2.2.1 = 13 := Or.inl ⟨am_gm (i := 515) rfl rfl, am_gm (i := 79) rfl rfl, (fun _ => am_gm (i := 514) rfl rfl), (fun h => Bool.noConfusion h), (fun h => Bool.noConfusion h)⟩
set_option maxRecDepth 100000 in
theorem am_mo_Cart_fault : am_mok (am_m 4) ∨ (am_m 4).2.2.2.2.1 = 13 := Or.inl ⟨am_gm (i := 543) rfl rfl, am_gm (i := 79) rfl rfl, (fun h => Bool.noConfusion h), (fun _ => am_gm (i := 541) rfl rfl), (fun _ _ => am_gm (i := 542) rfl rfl)⟩
set_option maxRecDepth 100000 in
theorem am_mo_Cart_count : am_mok (am_m 5) ∨ (am_m 5).2.2.2.2.1 = 13 := Or.inl ⟨am_gm (i := 547) rfl rfl, am_gm (i := 79) rfl rfl, (fun h => Bool.noConfusion h), (fun _ => am_gm (i := 545) rfl rfl), (fun _ _ => am_gm (i := 546) rfl rfl)⟩
set_option maxRecDepth 100000 in
theorem am_mo_Cart_part : am_mok (am_m 6) ∨ (am_m 6).2.2.2.2.1 = 13 := Or.inl ⟨am_gm (i := 555) rfl rfl, am_gm (i := 79) rfl rfl, (fun h => Bool.noConfusion h), (fun _ => am_gm (i := 553) rfl rfl), (fun _ _ => am_gm (i := 554) rfl rfl)⟩
set_option maxRecDepth 100000 in
theorem am_mo_Cart_write : am_mok (am_m 7) ∨ (am_m 7).2.2.2.2.1 = 13 := Or.inl ⟨am_gm (i := 574) rfl rfl, am_gm (i := 79) rfl rfl, (fun h => Bool.noConfusion h), (fun _ => am_gm (i := 572) rfl rfl), (fun _ _ => am_gm (i := 573) rfl rfl)⟩
set_option maxRecDepth 100000 in
theorem am_mo_Cart_out : am_mok (am_m 8) ∨ (am_m 8).2.2.2.2.1 = 13 := Or.inl ⟨am_gm (i := 614) rfl rfl, am_gm (i := 79) rfl rfl, (fun h => Bool.noConfusion h), (fun _ => am_gm (i := 612) rfl rfl), (fun _ _ => am_gm (i := 613) rfl rfl)⟩
set_option maxRecDepth 100000 in
theorem am_mo_Cart_way : am_mok (am_m 9) ∨ (am_m 9).2.2.2.2.1 = 13 := Or.inl ⟨am_gm (i := 622) rfl rfl, am_gm (i := 79) rfl rfl, (fun h => Bool.noConfusion h), (fun _ => am_gm (i := 620) rfl rfl), (fun _ _ => am_gm (i := 621) rfl rfl)⟩
set_option maxRecDepth 100000 in
theorem am_mo_Cart_sorts : am_mok (am_m 10) ∨ (am_m 10).2.2.2.2.1 = 13 := Or.inl ⟨am_gm (i := 626) rfl rfl, am_gm (i := 79) rfl rfl, (fun h => Bool.noConfusion h), (fun _ => am_gm (i := 624) rfl rfl), (fun _ _ => am_gm (i := 625) rfl rfl)⟩
set_option maxRecDepth 100000 in
theorem am_mo_Cart_shelf : am_mok (am_m 11) ∨ (am_m 11).2.2.2.2.1 = 13 := Or.inl ⟨am_gm (i := 648) rfl rfl, am_gm (i := 79) rfl rfl, (fun h => Bool.noConfusion h), (fun _ => am_gm (i := 646) rfl rfl), (fun _ _ => am_gm (i := 647) rfl rfl)⟩
set_option maxRecDepth 100000 in
theorem am_mo_Cart_book : am_mok (am_m 12) ∨ (am_m 12).2.2.2.2.1 = 13 := Or.inl ⟨am_gm (i := 672) rfl rfl, am_gm (i := 79) rfl rfl, (fun h => Bool.noConfusion h), (fun _ => am_gm (i := 670) rfl rfl), (fun _ _ => am_gm (i := 671) rfl rfl)⟩
set_option maxRecDepth 100000 in
theorem am_mo_Cart_stand : am_mok (am_m 13) ∨ (am_m 13).2.2.2.2.1 = 13 := Or.inl ⟨am_gm (i := 696) rfl rfl, am_gm (i := 79) rfl rfl, (fun h => Bool.noConfusion h), (fun _ => am_gm (i := 694) rfl rfl), (fun _ _ => am_gm (i := 695) rfl rfl)⟩
set_option maxRecDepth 100000 in
theorem am_mo_Cart_dummy : am_mok (am_m 14) ∨ (am_m 14).2.2.2.2.1 = 13 := Or.inl ⟨am_gm (i := 721) rfl rfl, am_gm (i := 79) rfl rfl, (fun h => Bool.noConfusion h), (fun _ => am_gm (i := 719) rfl rfl), (fun _ _ => am_gm (i := 720) rfl rfl)⟩
set_option maxRecDepth 100000 in
theorem am_mo_Cart_off : am_mok (am_m 15) ∨ (am_m 15).2.2.2.2.1 = 13 := Or.inl ⟨am_gm (i := 725) rfl rfl, am_gm (i := 79) rfl rfl, (fun h => Bool.noConfusion h), (fun _ => am_gm (i := 723) rfl rfl), (fun _ _ => am_gm (i := 724) rfl rfl)⟩
set_option maxRecDepth 100000 in
theorem am_mo_Cart_tell : am_mok (am_m 16) ∨ (am_m 16).2.2.2.2.1 = 13 := Or.inl ⟨am_gm (i := 730) rfl rfl, am_gm (i := 79) rfl rfl, (fun h => Bool.noConfusion h), (fun _ => am_gm (i := 728) rfl rfl), (fun _ _ => am_gm (i := 729) rfl rfl)⟩
set_option maxRecDepth 100000 in
theorem am_mo_Cart_place : am_mok (am_m 17) ∨ (am_m 17).2.2.2.2.1 = 13 := Or.inl ⟨am_gm (i := 734) rfl rfl, am_gm (i := 79) rfl rfl, (fun h => Bool.noConfusion h), (fun _ => am_gm (i := 732) rfl rfl), (fun _ _ => am_gm (i := 733) rfl rfl)⟩
set_option maxRecDepth 100000 in
theorem am_mo_Cart_room : am_mok (am_m 18) ∨ (am_m 18).2.2.2.2.1 = 13 := Or.inl ⟨am_gm (i := 739) rfl rfl, am_gm (i := 79) rfl rfl, (fun h => Bool.noConfusion h), (fun _ => am_gm (i := 737) rfl rfl), (fun _ _ => am_gm (i := 738) rfl rfl)⟩
set_option maxRecDepth 100000 in
theorem am_mo_Cart_run : am_mok (am_m 19) ∨ (am_m 19).2.2.2.2.1 = 13 := Or.inl ⟨am_gm (i := 771) rfl rfl, am_gm (i := 79) rfl rfl, (fun h => Bool.noConfusion h), (fun _ => am_gm (i := 769) rfl rfl), (fun _ _ => am_gm (i := 770) rfl rfl)⟩
set_option maxRecDepth 100000 in
theorem am_mo_Cart_seen : am_mok (am_m 20) ∨ (am_m 20).2.2.2.2.1 = 13 := Or.inl ⟨am_gm (i := 787) rfl rfl, am_gm (i := 79) rfl rfl, (fun h => Bool.noConfusion h), (fun _ => am_gm (i := 785) rfl rfl), (fun _ _ => am_gm (i := 786) rfl rfl)⟩
set_option maxRecDepth 100000 in
theorem am_mo_Cart_read : am_mok (am_m 21) ∨ (am_m 21).2.2.2.2.1 = 13 := Or.inl ⟨am_gm (i := 791) rfl rfl, am_gm (i := 79) rfl rfl, (fun h => Bool.noConfusion h), (fun _ => am_gm (i := 789) rfl rfl), (fun _ _ => am_gm (i := 790) rfl rfl)⟩
set_option maxRecDepth 100000 in
theorem am_mo_Cart_order : am_mok (am_m 22) ∨ (am_m 22).2.2.2.2.1 = 13 := Or.inl ⟨am_gm (i := 799) rfl rfl, am_gm (i := 79) rfl rfl, (fun h => Bool.noConfusion h), (fun _ => am_gm (i := 797) rfl rfl), (fun _ _ => am_gm (i := 798) rfl rfl)⟩
set_option maxRecDepth 100000 in
theorem am_mo_Cart_fewest : am_mok (am_m 23) ∨ (am_m 23).2.2.2.2.1 = 13 := Or.inl ⟨am_gm (i := 826) rfl rfl, am_gm (i := 79) rfl rfl, (fun h => Bool.noConfusion h), (fun _ => am_gm (i := 824) rfl rfl), (fun _ _ => am_gm (i := 825) rfl rfl)⟩
set_option maxRecDepth 100000 in
theorem am_mo_Cart_move : am_mok (am_m 24) ∨ (am_m 24).2.2.2.2.1 = 13 := Or.inl ⟨am_gm (i := 830) rfl rfl, am_gm (i := 79) rfl rfl, (fun h => Bool.noConfusion h), (fun _ => am_gm (i := 828) rfl rfl), (fun _ _ => am_gm (i := 829) rfl rfl)⟩
set_option maxRecDepth 100000 in
theorem am_mo_Cart_where : am_mok (am_m 25) ∨ (am_m 25).2.2.2.2.1 = 13 := Or.inl ⟨am_gm (i := 845) rfl rfl, am_gm (i := 79) rfl rfl, (fun h => Bool.noConfusion h), (fun _ => am_gm (i := 843) rfl rfl), (fun _ _ => am_gm (i := 844) rfl rfl)⟩
set_option maxRecDepth 100000 in
theorem am_mo_Cart_isInOrder : am_mok (am_m 26) ∨ (am_m 26).2.2.2.2.1 = 13 := Or.inl ⟨am_gm (i := 849) rfl rfl, am_gm (i := 79) rfl rfl, (fun h => Bool.noConfusion h), (fun _ => am_gm (i := 848) rfl rfl), (fun _ _ => am_gm (i := 19) rfl rfl)⟩
set_option maxRecDepth 100000 in
theorem am_mo_Cart_between : am_mok (am_m 27) ∨ (am_m 27).2.2.2.2.1 = 13 := Or.inl ⟨am_gm (i := 858) rfl rfl, am_gm (i := 79) rfl rfl, (fun h => Bool.noConfusion h), (fun _ => am_gm (i := 856) rfl rfl), (fun _ _ => am_gm (i := 857) rfl rfl)⟩
set_option maxRecDepth 100000 in
theorem am_mo_Cart_done : am_mok (am_m 28) ∨ (am_m 28).2.2.2.2.1 = 13 := Or.inl ⟨am_gm (i := 863) rfl rfl, am_gm (i := 79) rfl rfl, (fun h => Bool.noConfusion h), (fun _ => am_gm (i := 861) rfl rfl), (fun _ _ => am_gm (i := 862) rfl rfl)⟩
set_option maxRecDepth 100000 in
theorem am_mo_Cart_list : am_mok (am_m 29) ∨ (am_m 29).2.2.2.2.1 = 13 := Or.inl ⟨am_gm (i := 903) rfl rfl, am_gm (i := 79) rfl rfl, (fun h => Bool.noConfusion h), (fun _ => am_gm (i := 901) rfl rfl), (fun _ _ => am_gm (i := 902) rfl rfl)⟩
set_option maxRecDepth 100000 in
theorem am_mo_Cart_forget : am_mok (am_m 30) ∨ (am_m 30).2.2.2.2.1 = 13 := Or.inl ⟨am_gm (i := 911) rfl rfl, am_gm (i := 79) rfl rfl, (fun h => Bool.noConfusion h), (fun _ => am_gm (i := 909) rfl rfl), (fun _ _ => am_gm (i := 910) rfl rfl)⟩
set_option maxRecDepth 100000 in
theorem am_mo_Cart_listed : am_mok (am_m 31) ∨ (am_m 31).2.2.2.2.1 = 13 := Or.inl ⟨am_gm (i := 919) rfl rfl, am_gm (i := 79) rfl rfl, (fun h => Bool.noConfusion h), (fun _ => am_gm (i := 917) rfl rfl), (fun _ _ => am_gm (i := 918) rfl rfl)⟩
set_option maxRecDepth 100000 in
theorem am_mo_Cart_found : am_mok (am_m 32) ∨ (am_m 32).2.2.2.2.1 = 13 := Or.inl ⟨am_gm (i := 924) rfl rfl, am_gm (i := 79) rfl rfl, (fun h => Bool.noConfusion h), (fun _ => am_gm (i := 922) rfl rfl), (fun _ _ => am_gm (i := 923) rfl rfl)⟩
set_option maxRecDepth 100000 in
theorem am_mo_Cart_check : am_mok (am_m 33) ∨ (am_m 33).2.2.2.2.1 = 13 := Or.inl ⟨am_gm (i := 933) rfl rfl, am_gm (i := 79) rfl rfl, (fun h => Bool.noConfusion h), (fun _ => am_gm (i := 931) rfl rfl), (fun _ _ => am_gm (i := 932) rfl rfl)⟩
set_option maxRecDepth 100000 in
theorem am_mo_Cart_grow : am_mok (am_m 34) ∨ (am_m 34).2.2.2.2.1 = 13 := Or.inl ⟨am_gm (i := 937) rfl rfl, am_gm (i := 79) rfl rfl, (fun h => Bool.noConfusion h), (fun _ => am_gm (i := 935) rfl rfl), (fun _ _ => am_gm (i := 936) rfl rfl)⟩
set_option maxRecDepth 100000 in
theorem am_mo_Cart_full : am_mok (am_m 35) ∨ (am_m 35).2.2.2.2.1 = 13 := Or.inl ⟨am_gm (i := 945) rfl rfl, am_gm (i := 79) rfl rfl, (fun h => Bool.noConfusion h), (fun _ => am_gm (i := 943) rfl rfl), (fun _ _ => am_gm (i := 944) rfl rfl)⟩
set_option maxRecDepth 100000 in
theorem am_mo_Cart_firstFullYear : am_mok (am_m 36) ∨ (am_m 36).2.2.2.2.1 = 13 := Or.inl ⟨am_gm (i := 949) rfl rfl, am_gm (i := 79) rfl rfl, (fun h => Bool.noConfusion h), (fun _ => am_gm (i := 948) rfl rfl), (fun _ _ => am_gm (i := 23) rfl rfl)⟩
set_option maxRecDepth 100000 in
theorem am_mo_Cart_shift : am_mok (am_m 37) ∨ (am_m 37).2.2.2.2.1 = 13 := Or.inl ⟨am_gm (i := 953) rfl rfl, am_gm (i := 79) rfl rfl, (fun h => Bool.noConfusion h), (fun _ => am_gm (i := 951) rfl rfl), (fun _ _ => am_gm (i := 952) rfl rfl)⟩
set_option maxRecDepth 100000 in
theorem am_mo_Cart_isFloor : am_mok (am_m 38) ∨ (am_m 38).2.2.2.2.1 = 13 := Or.inl ⟨am_gm (i := 957) rfl rfl, am_gm (i := 79) rfl rfl, (fun h => Bool.noConfusion h), (fun _ => am_gm (i := 956) rfl rfl), (fun _ _ => am_gm (i := 24) rfl rfl)⟩
set_option maxRecDepth 100000 in
theorem am_mo_Cart_plan : am_mok (am_m 39) ∨ (am_m 39).2.2.2.2.1 = 13 := Or.inl ⟨am_gm (i := 999) rfl rfl, am_gm (i := 79) rfl rfl, (fun h => Bool.noConfusion h), (fun _ => am_gm (i := 997) rfl rfl), (fun _ _ => am_gm (i := 998) rfl rfl)⟩
set_option maxRecDepth 100000 in
theorem am_mo_Cart_lift : am_mok (am_m 40) ∨ (am_m 40).2.2.2.2.1 = 13 := Or.inl ⟨am_gm (i := 1007) rfl rfl, am_gm (i := 79) rfl rfl, (fun h => Bool.noConfusion h), (fun _ => am_gm (i := 1005) rfl rfl), (fun _ _ => am_gm (i := 1006) rfl rfl)⟩
set_option maxRecDepth 100000 in
theorem am_mo_Cart_image : am_mok (am_m 41) ∨ (am_m 41).2.2.2.2.1 = 13 := Or.inl ⟨am_gm (i := 1021) rfl rfl, am_gm (i := 79) rfl rfl, (fun h => Bool.noConfusion h), (fun _ => am_gm (i := 1019) rfl rfl), (fun _ _ => am_gm (i := 1020) rfl rfl)⟩
set_option maxRecDepth 100000 in
theorem am_mo_Cart_again : am_mok (am_m 42) ∨ (am_m 42).2.2.2.2.1 = 13 := Or.inl ⟨am_gm (i := 1053) rfl rfl, am_gm (i := 79) rfl rfl, (fun h => Bool.noConfusion h), (fun _ => am_gm (i := 1051) rfl rfl), (fun _ _ => am_gm (i := 1052) rfl rfl)⟩
set_option maxRecDepth 100000 in
theorem am_mo_Model_init : am_mok (am_m 43) ∨ (am_m 43).2.2.2.2.1 = 13 := Or.inl ⟨am_gm (i := 1062) rfl rfl, am_gm (i := 91) rfl rfl, (fun h => Bool.noConfusion h), (fun _ => am_gm (i := 1061) rfl rfl), (fun _ h => absurd rfl h)⟩
set_option maxRecDepth 100000 in
theorem am_mo_Model_isIn : am_mok (am_m 44) ∨ (am_m 44).2.2.2.2.1 = 13 := Or.inl ⟨am_gm (i := 1241) rfl rfl, am_gm (i := 91) rfl rfl, (fun _ => am_gm (i := 1240) rfl rfl), (fun h => Bool.noConfusion h), (fun h => Bool.noConfusion h)⟩
set_option maxRecDepth 100000 in
theorem am_mo_Model_isMark : am_mok (am_m 45) ∨ (am_m 45).2.2.2.2.1 = 13 := Or.inl ⟨am_gm (i := 1238) rfl rfl, am_gm (i := 91) rfl rfl, (fun h => Bool.noConfusion h), (fun _ => am_gm (i := 1237) rfl rfl), (fun _ _ => am_gm (i := 47) rfl rfl)⟩
set_option maxRecDepth 100000 in
theorem am_mo_Model_isShelf : am_mok (am_m 46) ∨ (am_m 46).2.2.2.2.1 = 13 := Or.inl ⟨am_gm (i := 1326) rfl rfl, am_gm (i := 91) rfl rfl, (fun h => Bool.noConfusion h), (fun _ => am_gm (i := 1325) rfl rfl), (fun _ _ => am_gm (i := 59) rfl rfl)⟩
set_option maxRecDepth 100000 in
theorem am_mo_Model_isBook : am_mok (am_m 47) ∨ (am_m 47).2.2.2.2.1 = 13 := Or.inl ⟨am_gm (i := 1322) rfl rfl, am_gm (i := 91) rfl rfl, (fun h => Bool.noConfusion h), (fun _ => am_gm (i := 1321) rfl rfl), (fun _ _ => am_gm (i := 58) rfl rfl)⟩
set_option maxRecDepth 100000 in
theorem am_mo_Model_feed : am_mok (am_m 48) ∨ (am_m 48).2.2.2.2.1 = 13 := Or.inl ⟨am_gm (i := 1158) rfl rfl, am_gm (i := 91) rfl rfl, (fun h => Bool.noConfusion h), (fun _ => am_gm (i := 1156) rfl rfl), (fun _ _ => am_gm (i := 1157) rfl rfl)⟩
set_option maxRecDepth 100000 in
theorem am_mo_Model_here : am_mok (am_m 49) ∨ (am_m 49).2.2.2.2.1 = 13 := Or.inl ⟨am_gm (i := 1174) rfl rfl, am_gm (i := 91) rfl rfl, (fun h => Bool.noConfusion h), (fun _ => am_gm (i := 1173) rfl rfl), (fun _ _ => am_gm (i := 34) rfl rfl)⟩
set_option maxRecDepth 100000 in
theorem am_mo_Model_isDigit : am_mok (am_m 50) ∨ (am_m 50).2.2.2.2.1 = 13 := Or.inl ⟨am_gm (i := 1186) rfl rfl, am_gm (i := 91) rfl rfl, (fun h => Bool.noConfusion h), (fun _ => am_gm (i := 1185) rfl rfl), (fun _ _ => am_gm (i := 37) rfl rfl)⟩
set_option maxRecDepth 100000 in
theorem am_mo_Model_isLetter : am_mok (am_m 51) ∨ (am_m 51).2.2.2.2.1 = 13 := Or.inl ⟨am_gm (i := 1198) rfl rfl, am_gm (i := 91) rfl rfl, (fun h => Bool.noConfusion h), (fun _ => am_gm (i := 1197) rfl rfl), (fun _ _ => am_gm (i := 40) rfl rfl)⟩
set_option maxRecDepth 100000 in
theorem am_mo_Model_begins : am_mok (am_m 52) ∨ (am_m 52).2.2.2.2.1 = 13 := Or.inl ⟨am_gm (i := 1182) rfl rfl, am_gm (i := 91) rfl rfl, (fun h => Bool.noConfusion h), (fun _ => am_gm (i := 1181) rfl rfl), (fun _ _ => am_gm (i := 36) rfl rfl)⟩
set_option maxRecDepth 100000 in
theorem am_mo_Model_number : am_mok (am_m 53) ∨ (am_m 53).2.2.2.2.1 = 13 := Or.inl ⟨am_gm (i := 1190) rfl rfl, am_gm (i := 91) rfl rfl, (fun h => Bool.noConfusion h), (fun _ => am_gm (i := 1189) rfl rfl), (fun _ _ => am_gm (i := 38) rfl rfl)⟩
set_option maxRecDepth 100000 in
theorem am_mo_Model_isValue : am_mok (am_m 54) ∨ (am_m 54).2.2.2.2.1 = 13 := Or.inl ⟨am_gm (i := 1194) rfl rfl, am_gm (i := 91) rfl rfl, (fun h => Bool.noConfusion h), (fun _ => am_gm (i := 1193) rfl rfl), (fun _ _ => am_gm (i := 39) rfl rfl)⟩
set_option maxRecDepth 100000 in
theorem am_mo_Model_fraction : am_mok (am_m 55) ∨ (am_m 55).2.2.2.2.1 = 13 := Or.inl ⟨am_gm (i := 1214) rfl rfl, am_gm (i := 91) rfl rfl, (fun h => Bool.noConfusion h), (fun _ => am_gm (i := 1213) rfl rfl), (fun _ _ => am_gm (i := 44) rfl rfl)⟩
set_option maxRecDepth 100000 in
theorem am_mo_Model_letters : am_mok (am_m 56) ∨ (am_m 56).2.2.2.2.1 = 13 := Or.inl ⟨am_gm (i := 1202) rfl rfl, am_gm (i := 91) rfl rfl, (fun h => Bool.noConfusion h), (fun _ => am_gm (i := 1201) rfl rfl), (fun _ _ => am_gm (i := 41) rfl rfl)⟩
set_option maxRecDepth 100000 in
theorem am_mo_Model_whole : am_mok (am_m 57) ∨ (am_m 57).2.2.2.2.1 = 13 := Or.inl ⟨am_gm (i := 1206) rfl rfl, am_gm (i := 91) rfl rfl, (fun h => Bool.noConfusion h), (fun _ => am_gm (i := 1205) rfl rfl), (fun _ _ => am_gm (i := 42) rfl rfl)⟩
set_option maxRecDepth 100000 in
theorem am_mo_Model_year : am_mok (am_m 58) ∨ (am_m 58).2.2.2.2.1 = 13 := Or.inl ⟨am_gm (i := 1218) rfl rfl, am_gm (i := 91) rfl rfl, (fun h => Bool.noConfusion h), (fun _ => am_gm (i := 1217) rfl rfl), (fun _ _ => am_gm (i := 45) rfl rfl)⟩
set_option maxRecDepth 100000 in
theorem am_mo_Model_counted : am_mok (am_m 59) ∨ (am_m 59).2.2.2.2.1 = 13 := Or.inl ⟨am_gm (i := 1178) rfl rfl, am_gm (i := 91) rfl rfl, (fun h => Bool.noConfusion h), (fun _ => am_gm (i := 1177) rfl rfl), (fun _ _ => am_gm (i := 35) rfl rfl)⟩
set_option maxRecDepth 100000 in
theorem am_mo_Model_pointed : am_mok (am_m 60) ∨ (am_m 60).2.2.2.2.1 = 13 := Or.inl ⟨am_gm (i := 1210) rfl rfl, am_gm (i := 91) rfl rfl, (fun h => Bool.noConfusion h), (fun _ => am_gm (i := 1209) rfl rfl), (fun _ _ => am_gm (i := 43) rfl rfl)⟩
set_option maxRecDepth 100000 in
theorem am_mo_Model_nextPart : am_mok (am_m 61) ∨ (am_m 61).2.2.2.2.1 = 13 := Or.inl ⟨am_gm (i := 1170) rfl rfl, am_gm (i := 91) rfl rfl, (fun h => Bool.noConfusion h), (fun _ => am_gm (i := 1169) rfl rfl), (fun _ _ => am_gm (i := 33) rfl rfl)⟩
set_option maxRecDepth 100000 in
theorem am_mo_Model_isText : am_mok (am_m 62) ∨ (am_m 62).2.2.2.2.1 = 13 := Or.inl ⟨am_gm (i := 1166) rfl rfl, am_gm (i := 91) rfl rfl, (fun h => Bool.noConfusion h), (fun _ => am_gm (i := 1165) rfl rfl), (fun _ _ => am_gm (i := 32) rfl rfl)⟩
set_option maxRecDepth 100000 in
theorem am_mo_Model_isMade : am_mok (am_m 63) ∨ (am_m 63).2.2.2.2.1 = 13 := Or.inl ⟨am_gm (i := 1222) rfl rfl, am_gm (i := 91) rfl rfl, (fun h => Bool.noConfusion h), (fun _ => am_gm (i := 1221) rfl rfl), (fun _ _ => am_gm (i := 46) rfl rfl)⟩
set_option maxRecDepth 100000 in
theorem am_mo_Model_mark : am_mok (am_m 64) ∨ (am_m 64).2.2.2.2.1 = 13 := Or.inl ⟨am_gm (i := 1162) rfl rfl, am_gm (i := 91) rfl rfl, (fun h => Bool.noConfusion h), (fun _ => am_gm (i := 1160) rfl rfl), (fun _ _ => am_gm (i := 1161) rfl rfl)⟩
set_option maxRecDepth 100000 in
theorem am_mo_Model_fault : am_mok (am_m 65) ∨ (am_m 65).2.2.2.2.1 = 13 := Or.inl ⟨am_gm (i := 1226) rfl rfl, am_gm (i := 91) rfl rfl, (fun h => Bool.noConfusion h), (fun _ => am_gm (i := 1224) rfl rfl), (fun _ _ => am_gm (i := 1225) rfl rfl)⟩
set_option maxRecDepth 100000 in
theorem am_mo_Model_count : am_mok (am_m 66) ∨ (am_m 66).2.2.2.2.1 = 13 := Or.inl ⟨am_gm (i := 1230) rfl rfl, am_gm (i := 91) rfl rfl, (fun h => Bool.noConfusion h), (fun _ => am_gm (i := 1228) rfl rfl), (fun _ _ => am_gm (i := 1229) rfl rfl)⟩
set_option maxRecDepth 100000 in
theorem am_mo_Model_partsOf : am_mok (am_m 67) ∨ (am_m 67).2.2.2.2.1 = 13 := Or.inl ⟨am_gm (i := 1245) rfl rfl, am_gm (i := 91) rfl rfl, (fun h => Bool.noConfusion h), (fun _ => am_gm (i := 1244) rfl rfl), (fun _ _ => am_gm (i := 48) rfl rfl)⟩
set_option maxRecDepth 100000 in
theorem am_mo_Model_partOf : am_mok (am_m 68) ∨ (am_m 68).2.2.2.2.1 = 13 := Or.inl ⟨am_gm (i := 1249) rfl rfl, am_gm (i := 91) rfl rfl, (fun h => Bool.noConfusion h), (fun _ => am_gm (i := 1248) rfl rfl), (fun _ _ => am_gm (i := 49) rfl rfl)⟩
set_option maxRecDepth 100000 in
theorem am_mo_Model_part : am_mok (am_m 69) ∨ (am_m 69).2.2.2.2.1 = 13 := Or.inl ⟨am_gm (i := 1234) rfl rfl, am_gm (i := 91) rfl rfl, (fun h => Bool.noConfusion h), (fun _ => am_gm (i := 1232) rfl rfl), (fun _ _ => am_gm (i := 1233) rfl rfl)⟩
set_option maxRecDepth 100000 in
theorem am_mo_Model_ink : am_mok (am_m 70) ∨ (am_m 70).2.2.2.2.1 = 13 := Or.inl ⟨am_gm (i := 1257) rfl rfl, am_gm (i := 91) rfl rfl, (fun h => Bool.noConfusion h), (fun _ => am_gm (i := 1256) rfl rfl), (fun _ _ => am_gm (i := 50) rfl rfl)⟩
set_option maxRecDepth 100000 in
theorem am_mo_Model_inkNumber : am_mok (am_m 71) ∨ (am_m 71).2.2.2.2.1 = 13 := Or.inl ⟨am_gm (i := 1269) rfl rfl, am_gm (i := 91) rfl rfl, (fun h => Bool.noConfusion h), (fun _ => am_gm (i := 1268) rfl rfl), (fun _ _ => am_gm (i := 53) rfl rfl)⟩
set_option maxRecDepth 100000 in
theorem am_mo_Model_inkLetters : am_mok (am_m 72) ∨ (am_m 72).2.2.2.2.1 = 13 := Or.inl ⟨am_gm (i := 1265) rfl rfl, am_gm (i := 91) rfl rfl, (fun h => Bool.noConfusion h), (fun _ => am_gm (i := 1264) rfl rfl), (fun _ _ => am_gm (i := 52) rfl rfl)⟩
set_option maxRecDepth 100000 in
theorem am_mo_Model_inkPart : am_mok (am_m 73) ∨ (am_m 73).2.2.2.2.1 = 13 := Or.inl ⟨am_gm (i := 1261) rfl rfl, am_gm (i := 91) rfl rfl, (fun h => Bool.noConfusion h), (fun _ => am_gm (i := 1260) rfl rfl), (fun _ _ => am_gm (i := 51) rfl rfl)⟩
set_option maxRecDepth 100000 in
theorem am_mo_Model_write : am_mok (am_m 74) ∨ (am_m 74).2.2.2.2.1 = 13 := Or.inl ⟨am_gm (i := 1253) rfl rfl, am_gm (i := 91) rfl rfl, (fun h => Bool.noConfusion h), (fun _ => am_gm (i := 1251) rfl rfl), (fun _ _ => am_gm (i := 1252) rfl rfl)⟩
set_option maxRecDepth 100000 in
theorem am_mo_Model_out : am_mok (am_m 75) ∨ (am_m 75).2.2.2.2.1 = 13 := Or.inl ⟨am_gm (i := 1273) rfl rfl, am_gm (i := 91) rfl rfl, (fun h => Bool.noConfusion h), (fun _ => am_gm (i := 1271) rfl rfl), (fun _ _ => am_gm (i := 1272) rfl rfl)⟩
set_option maxRecDepth 100000 in
theorem am_mo_Model_way : am_mok (am_m 76) ∨ (am_m 76).2.2.2.2.1 = 13 := Or.inl ⟨am_gm (i := 1277) rfl rfl, am_gm (i := 91) rfl rfl, (fun h => Bool.noConfusion h), (fun _ => am_gm (i := 1275) rfl rfl), (fun _ _ => am_gm (i := 1276) rfl rfl)⟩
set_option maxRecDepth 100000 in
theorem am_mo_Model_sign : am_mok (am_m 77) ∨ (am_m 77).2.2.2.2.1 = 13 := Or.inl ⟨am_gm (i := 1292) rfl rfl, am_gm (i := 91) rfl rfl, (fun _ => am_gm (i := 1291) rfl rfl), (fun h => Bool.noConfusion h), (fun h => Bool.noConfusion h)⟩
set_option maxRecDepth 100000 in
theorem am_mo_Model_filled : am_mok (am_m 78) ∨ (am_m 78).2.2.2.2.1 = 13 := Or.inl ⟨am_gm (i := 1302) rfl rfl, am_gm (i := 91) rfl rfl, (fun _ => am_gm (i := 1301) rfl rfl), (fun h => Bool.noConfusion h), (fun h => Bool.noConfusion h)⟩
set_option maxRecDepth 100000 in
theorem am_mo_Model_lettersIn : am_mok (am_m 79) ∨ (am_m 79).2.2.2.2.1 = 13 := Or.inl ⟨am_gm (i := 1299) rfl rfl, am_gm (i := 91) rfl rfl, (fun _ => am_gm (i := 1298) rfl rfl), (fun h => Bool.noConfusion h), (fun h => Bool.noConfusion h)⟩
set_option maxRecDepth 100000 in
theorem am_mo_Model_held : am_mok (am_m 80) ∨ (am_m 80).2.2.2.2.1 = 13 := Or.inl ⟨am_gm (i := 1296) rfl rfl, am_gm (i := 91) rfl rfl, (fun h => Bool.noConfusion h), (fun _ => am_gm (i := 1295) rfl rfl), (fun _ _ => am_gm (i := 56) rfl rfl)⟩
set_option maxRecDepth 100000 in
theorem am_mo_Model_compare : am_mok (am_m 81) ∨ (am_m 81).2.2.2.2.1 = 13 := Or.inl ⟨am_gm (i := 1289) rfl rfl, am_gm (i := 91) rfl rfl, (fun h => Bool.noConfusion h), (fun _ => am_gm (i := 1288) rfl rfl), (fun _ _ => am_gm (i := 55) rfl rfl)⟩
set_option maxRecDepth 100000 in
theorem am_mo_Model_compared : am_mok (am_m 82) ∨ (am_m 82).2.2.2.2.1 = 13 := Or.inl ⟨am_gm (i := 1285) rfl rfl, am_gm (i := 91) rfl rfl, (fun h => Bool.noConfusion h), (fun _ => am_gm (i := 1284) rfl rfl), (fun _ _ => am_gm (i := 54) rfl rfl)⟩
set_option maxRecDepth 100000 in
theorem am_mo_Model_sorts : am_mok (am_m 83) ∨ (am_m 83).2.2.2.2.1 = 13 := Or.inl ⟨am_gm (i := 1281) rfl rfl, am_gm (i := 91) rfl rfl, (fun h => Bool.noConfusion h), (fun _ => am_gm (i := 1279) rfl rfl), (fun _ _ => am_gm (i := 1280) rfl rfl)⟩
set_option maxRecDepth 100000 in
theorem am_mo_Model_shelf : am_mok (am_m 84) ∨ (am_m 84).2.2.2.2.1 = 13 := Or.inl ⟨am_gm (i := 1306) rfl rfl, am_gm (i := 91) rfl rfl, (fun h => Bool.noConfusion h), (fun _ => am_gm (i := 1304) rfl rfl), (fun _ _ => am_gm (i := 1305) rfl rfl)⟩
set_option maxRecDepth 100000 in
theorem am_mo_Model_volumeOf : am_mok (am_m 85) ∨ (am_m 85).2.2.2.2.1 = 13 := Or.inl ⟨am_gm (i := 1314) rfl rfl, am_gm (i := 91) rfl rfl, (fun h => Bool.noConfusion h), (fun _ => am_gm (i := 1313) rfl rfl), (fun _ _ => am_gm (i := 57) rfl rfl)⟩
set_option maxRecDepth 100000 in
theorem am_mo_Model_book : am_mok (am_m 86) ∨ (am_m 86).2.2.2.2.1 = 13 := Or.inl ⟨am_gm (i := 1310) rfl rfl, am_gm (i := 91) rfl rfl, (fun h => Bool.noConfusion h), (fun _ => am_gm (i := 1308) rfl rfl), (fun _ _ => am_gm (i := 1309) rfl rfl)⟩
set_option maxRecDepth 100000 in
theorem am_mo_Model_of : am_mok (am_m 87) ∨ (am_m 87).2.2.2.2.1 = 13 := Or.inl ⟨am_gm (i := 1334) rfl rfl, am_gm (i := 91) rfl rfl, (fun h => Bool.noConfusion h), (fun _ => am_gm (i := 1333) rfl rfl), (fun _ _ => am_gm (i := 61) rfl rfl)⟩
set_option maxRecDepth 100000 in
theorem am_mo_Model_placeOf : am_mok (am_m 88) ∨ (am_m 88).2.2.2.2.1 = 13 := Or.inl ⟨am_gm (i := 1338) rfl rfl, am_gm (i := 91) rfl rfl, (fun h => Bool.noConfusion h), (fun _ => am_gm (i := 1337) rfl rfl), (fun _ _ => am_gm (i := 62) rfl rfl)⟩
set_option maxRecDepth 100000 in
theorem am_mo_Model_leaves : am_mok (am_m 89) ∨ (am_m 89).2.2.2.2.1 = 13 := Or.inl ⟨am_gm (i := 1346) rfl rfl, am_gm (i := 91) rfl rfl, (fun h => Bool.noConfusion h), (fun _ => am_gm (i := 1345) rfl rfl), (fun _ _ => am_gm (i := 64) rfl rfl)⟩
set_option maxRecDepth 100000 in
theorem am_mo_Model_comes : am_mok (am_m 90) ∨ (am_m 90).2.2.2.2.1 = 13 := Or.inl ⟨am_gm (i := 1342) rfl rfl, am_gm (i := 91) rfl rfl, (fun h => Bool.noConfusion h), (fun _ => am_gm (i := 1341) rfl rfl), (fun _ _ => am_gm (i := 63) rfl rfl)⟩
set_option maxRecDepth 100000 in
theorem am_mo_Model_isHigh : am_mok (am_m 91) ∨ (am_m 91).2.2.2.2.1 = 13 := Or.inl ⟨am_gm (i := 1330) rfl rfl, am_gm (i := 91) rfl rfl, (fun h => Bool.noConfusion h), (fun _ => am_gm (i := 1329) rfl rfl), (fun _ _ => am_gm (i := 60) rfl rfl)⟩
set_option maxRecDepth 100000 in
theorem am_mo_Model_stand : am_mok (am_m 92) ∨ (am_m 92).2.2.2.2.1 = 13 := Or.inl ⟨am_gm (i := 1318) rfl rfl, am_gm (i := 91) rfl rfl, (fun h => Bool.noConfusion h), (fun _ => am_gm (i := 1316) rfl rfl), (fun _ _ => am_gm (i := 1317) rfl rfl)⟩
set_option maxRecDepth 100000 in
theorem am_mo_Model_dummy : am_mok (am_m 93) ∨ (am_m 93).2.2.2.2.1 = 13 := Or.inl ⟨am_gm (i := 1350) rfl rfl, am_gm (i := 91) rfl rfl, (fun h => Bool.noConfusion h), (fun _ => am_gm (i := 1348) rfl rfl), (fun _ _ => am_gm (i := 1349) rfl rfl)⟩
set_option maxRecDepth 100000 in
theorem am_mo_Model_off : am_mok (am_m 94) ∨ (am_m 94).2.2.2.2.1 = 13 := Or.inl ⟨am_gm (i := 1354) rfl rfl, am_gm (i := 91) rfl rfl, (fun h => Bool.noConfusion h), (fun _ => am_gm (i := 1352) rfl rfl), (fun _ _ => am_gm (i := 1353) rfl rfl)⟩
set_option maxRecDepth 100000 in
theorem am_mo_Model_tell : am_mok (am_m 95) ∨ (am_m 95).2.2.2.2.1 = 13 := Or.inl ⟨am_gm (i := 1358) rfl rfl, am_gm (i := 91) rfl rfl, (fun h => Bool.noConfusion h), (fun _ => am_gm (i := 1356) rfl rfl), (fun _ _ => am_gm (i := 1357) rfl rfl)⟩
set_option maxRecDepth 100000 in
theorem am_mo_Model_place : am_mok (am_m 96) ∨ (am_m 96).2.2.2.2.1 = 13 := Or.inl ⟨am_gm (i := 1362) rfl rfl, am_gm (i := 91) rfl rfl, (fun h => Bool.noConfusion h), (fun _ => am_gm (i := 1360) rfl rfl), (fun _ _ => am_gm (i := 1361) rfl rfl)⟩
set_option maxRecDepth 100000 in
theorem am_mo_Model_wide : am_mok (am_m 97) ∨ (am_m 97).2.2.2.2.1 = 13 := Or.inl ⟨am_gm (i := 1378) rfl rfl, am_gm (i := 91) rfl rfl, (fun h => Bool.noConfusion h), (fun _ => am_gm (i := 1377) rfl rfl), (fun _ _ => am_gm (i := 67) rfl rfl)⟩
set_option maxRecDepth 100000 in
theorem am_mo_Model_markOf : am_mok (am_m 98) ∨ (am_m 98).2.2.2.2.1 = 13 := Or.inl ⟨am_gm (i := 1391) rfl rfl, am_gm (i := 91) rfl rfl, (fun h => Bool.noConfusion h), (fun _ => am_gm (i := 1390) rfl rfl), (fun _ _ => am_gm (i := 69) rfl rfl)⟩
set_option maxRecDepth 100000 in
theorem am_mo_Model_plainRoom : am_mok (am_m 99) ∨ (am_m 99).2.2.2.2.1 = 13 := Or.inl ⟨am_gm (i := 1374) rfl rfl, am_gm (i := 91) rfl rfl, (fun h => Bool.noConfusion h), (fun _ => am_gm (i := 1373) rfl rfl), (fun _ _ => am_gm (i := 66) rfl rfl)⟩
set_option maxRecDepth 100000 in
theorem am_mo_Model_growing : am_mok (am_m 100) ∨ (am_m 100).2.2.2.2.1 = 13 := Or.inl ⟨am_gm (i := 1382) rfl rfl, am_gm (i := 91) rfl rfl, (fun h => Bool.noConfusion h), (fun _ => am_gm (i := 1381) rfl rfl), (fun _ _ => am_gm (i := 68) rfl rfl)⟩
set_option maxRecDepth 100000 in
theorem am_mo_Model_roomIn : am_mok (am_m 101) ∨ (am_m 101).2.2.2.2.1 = 13 := Or.inl ⟨am_gm (i := 1370) rfl rfl, am_gm (i := 91) rfl rfl, (fun h => Bool.noConfusion h), (fun _ => am_gm (i := 1369) rfl rfl), (fun _ _ => am_gm (i := 65) rfl rfl)⟩
set_option maxRecDepth 100000 in
theorem am_mo_Model_room : am_mok (am_m 102) ∨ (am_m 102).2.2.2.2.1 = 13 := Or.inl ⟨am_gm (i := 1366) rfl rfl, am_gm (i := 91) rfl rfl, (fun h => Bool.noConfusion h), (fun _ => am_gm (i := 1364) rfl rfl), (fun _ _ => am_gm (i := 1365) rfl rfl)⟩
set_option maxRecDepth 100000 in
theorem am_mo_Model_run : am_mok (am_m 103) ∨ (am_m 103).2.2.2.2.1 = 13 := Or.inl ⟨am_gm (i := 1387) rfl rfl, am_gm (i := 91) rfl rfl, (fun h => Bool.noConfusion h), (fun _ => am_gm (i := 1385) rfl rfl), (fun _ _ => am_gm (i := 1386) rfl rfl)⟩
set_option maxRecDepth 100000 in
theorem am_mo_Model_seenAt : am_mok (am_m 104) ∨ (am_m 104).2.2.2.2.1 = 13 := Or.inl ⟨am_gm (i := 1407) rfl rfl, am_gm (i := 91) rfl rfl, (fun h => Bool.noConfusion h), (fun _ => am_gm (i := 1406) rfl rfl), (fun _ _ => am_gm (i := 71) rfl rfl)⟩
set_option maxRecDepth 100000 in
theorem am_mo_Model_many : am_mok (am_m 105) ∨ (am_m 105).2.2.2.2.1 = 13 := Or.inl ⟨am_gm (i := 1403) rfl rfl, am_gm (i := 91) rfl rfl, (fun h => Bool.noConfusion h), (fun _ => am_gm (i := 1402) rfl rfl), (fun _ _ => am_gm (i := 70) rfl rfl)⟩
set_option maxRecDepth 100000 in
theorem am_mo_Model_seen : am_mok (am_m 106) ∨ (am_m 106).2.2.2.2.1 = 13 := Or.inl ⟨am_gm (i := 1395) rfl rfl, am_gm (i := 91) rfl rfl, (fun h => Bool.noConfusion h), (fun _ => am_gm (i := 1393) rfl rfl), (fun _ _ => am_gm (i := 1394) rfl rfl)⟩
set_option maxRecDepth 100000 in
theorem am_mo_Model_read : am_mok (am_m 107) ∨ (am_m 107).2.2.2.2.1 = 13 := Or.inl ⟨am_gm (i := 1399) rfl rfl, am_gm (i := 91) rfl rfl, (fun h => Bool.noConfusion h), (fun _ => am_gm (i := 1397) rfl rfl), (fun _ _ => am_gm (i := 1398) rfl rfl)⟩
set_option maxRecDepth 100000 in
theorem am_mo_Model_rights : am_mok (am_m 108) ∨ (am_m 108).2.2.2.2.1 = 13 := Or.inl ⟨am_gm (i := 1415) rfl rfl, am_gm (i := 91) rfl rfl, (fun h => Bool.noConfusion h), (fun _ => am_gm (i := 1414) rfl rfl), (fun _ _ => am_gm (i := 72) rfl rfl)⟩
set_option maxRecDepth 100000 in
theorem am_mo_Model_order : am_mok (am_m 109) ∨ (am_m 109).2.2.2.2.1 = 13 := Or.inl ⟨am_gm (i := 1411) rfl rfl, am_gm (i := 91) rfl rfl, (fun h => Bool.noConfusion h), (fun _ => am_gm (i := 1409) rfl rfl), (fun _ _ => am_gm (i := 1410) rfl rfl)⟩
set_option maxRecDepth 100000 in
theorem am_mo_Model_fewest : am_mok (am_m 110) ∨ (am_m 110).2.2.2.2.1 = 13 := Or.inl ⟨am_gm (i := 1419) rfl rfl, am_gm (i := 91) rfl rfl, (fun h => Bool.noConfusion h), (fun _ => am_gm (i := 1417) rfl rfl), (fun _ _ => am_gm (i := 1418) rfl rfl)⟩
set_option maxRecDepth 100000 in
theorem am_mo_Model_move : am_mok (am_m 111) ∨ (am_m 111).2.2.2.2.1 = 13 := Or.inl ⟨am_gm (i := 1423) rfl rfl, am_gm (i := 91) rfl rfl, (fun h => Bool.noConfusion h), (fun _ => am_gm (i := 1421) rfl rfl), (fun _ _ => am_gm (i := 1422) rfl rfl)⟩
set_option maxRecDepth 100000 in
theorem am_mo_Model_where : am_mok (am_m 112) ∨ (am_m 112).2.2.2.2.1 = 13 := Or.inl ⟨am_gm (i := 1427) rfl rfl, am_gm (i := 91) rfl rfl, (fun h => Bool.noConfusion h), (fun _ => am_gm (i := 1425) rfl rfl), (fun _ _ => am_gm (i := 1426) rfl rfl)⟩
set_option maxRecDepth 100000 in
theorem am_mo_Model_between : am_mok (am_m 113) ∨ (am_m 113).2.2.2.2.1 = 13 := Or.inl ⟨am_gm (i := 1431) rfl rfl, am_gm (i := 91) rfl rfl, (fun h => Bool.noConfusion h), (fun _ => am_gm (i := 1429) rfl rfl), (fun _ _ => am_gm (i := 1430) rfl rfl)⟩
set_option maxRecDepth 100000 in
theorem am_mo_Model_often : am_mok (am_m 114) ∨ (am_m 114).2.2.2.2.1 = 13 := Or.inl ⟨am_gm (i := 1440) rfl rfl, am_gm (i := 91) rfl rfl, (fun h => Bool.noConfusion h), (fun _ => am_gm (i := 1439) rfl rfl), (fun _ _ => am_gm (i := 73) rfl rfl)⟩
set_option maxRecDepth 100000 in
theorem am_mo_Model_done : am_mok (am_m 115) ∨ (am_m 115).2.2.2.2.1 = 13 := Or.inl ⟨am_gm (i := 1436) rfl rfl, am_gm (i := 91) rfl rfl, (fun h => Bool.noConfusion h), (fun _ => am_gm (i := 1434) rfl rfl), (fun _ _ => am_gm (i := 1435) rfl rfl)⟩
set_option maxRecDepth 100000 in
theorem am_mo_Model_list : am_mok (am_m 116) ∨ (am_m 116).2.2.2.2.1 = 13 := Or.inl ⟨am_gm (i := 1444) rfl rfl, am_gm (i := 91) rfl rfl, (fun h => Bool.noConfusion h), (fun _ => am_gm (i := 1442) rfl rfl), (fun _ _ => am_gm (i := 1443) rfl rfl)⟩
set_option maxRecDepth 100000 in
theorem am_mo_Model_forget : am_mok (am_m 117) ∨ (am_m 117).2.2.2.2.1 = 13 := Or.inl ⟨am_gm (i := 1448) rfl rfl, am_gm (i := 91) rfl rfl, (fun h => Bool.noConfusion h), (fun _ => am_gm (i := 1446) rfl rfl), (fun _ _ => am_gm (i := 1447) rfl rfl)⟩
set_option maxRecDepth 100000 in
theorem am_mo_Model_listed : am_mok (am_m 118) ∨ (am_m 118).2.2.2.2.1 = 13 := Or.inl ⟨am_gm (i := 1452) rfl rfl, am_gm (i := 91) rfl rfl, (fun h => Bool.noConfusion h), (fun _ => am_gm (i := 1450) rfl rfl), (fun _ _ => am_gm (i := 1451) rfl rfl)⟩
set_option maxRecDepth 100000 in
theorem am_mo_Model_found : am_mok (am_m 119) ∨ (am_m 119).2.2.2.2.1 = 13 := Or.inl ⟨am_gm (i := 1456) rfl rfl, am_gm (i := 91) rfl rfl, (fun h => Bool.noConfusion h), (fun _ => am_gm (i := 1454) rfl rfl), (fun _ _ => am_gm (i := 1455) rfl rfl)⟩
set_option maxRecDepth 100000 in
theorem am_mo_Model_check : am_mok (am_m 120) ∨ (am_m 120).2.2.2.2.1 = 13 := Or.inl ⟨am_gm (i := 1460) rfl rfl, am_gm (i := 91) rfl rfl, (fun h => Bool.noConfusion h), (fun _ => am_gm (i := 1458) rfl rfl), (fun _ _ => am_gm (i := 1459) rfl rfl)⟩
set_option maxRecDepth 100000 in
theorem am_mo_Model_grow : am_mok (am_m 121) ∨ (am_m 121).2.2.2.2.1 = 13 := Or.inl ⟨am_gm (i := 1464) rfl rfl, am_gm (i := 91) rfl rfl, (fun h => Bool.noConfusion h), (fun _ => am_gm (i := 1462) rfl rfl), (fun _ _ => am_gm (i := 1463) rfl rfl)⟩
set_option maxRecDepth 100000 in
theorem am_mo_Model_full : am_mok (am_m 122) ∨ (am_m 122).2.2.2.2.1 = 13 := Or.inl ⟨am_gm (i := 1468) rfl rfl, am_gm (i := 91) rfl rfl, (fun h => Bool.noConfusion h), (fun _ => am_gm (i := 1466) rfl rfl), (fun _ _ => am_gm (i := 1467) rfl rfl)⟩
set_option maxRecDepth 100000 in
theorem am_mo_Model_isOneWork : am_mok (am_m 123) ∨ (am_m 123).2.2.2.2.1 = 13 := Or.inl ⟨am_gm (i := 1484) rfl rfl, am_gm (i := 91) rfl rfl, (fun h => Bool.noConfusion h), (fun _ => am_gm (i := 1483) rfl rfl), (fun _ _ => am_gm (i := 76) rfl rfl)⟩
set_option maxRecDepth 100000 in
theorem am_mo_Model_gathers : am_mok (am_m 124) ∨ (am_m 124).2.2.2.2.1 = 13 := Or.inl ⟨am_gm (i := 1476) rfl rfl, am_gm (i := 91) rfl rfl, (fun h => Bool.noConfusion h), (fun _ => am_gm (i := 1475) rfl rfl), (fun _ _ => am_gm (i := 74) rfl rfl)⟩
set_option maxRecDepth 100000 in
theorem am_mo_Model_partings : am_mok (am_m 125) ∨ (am_m 125).2.2.2.2.1 = 13 := Or.inl ⟨am_gm (i := 1480) rfl rfl, am_gm (i := 91) rfl rfl, (fun h => Bool.noConfusion h), (fun _ => am_gm (i := 1479) rfl rfl), (fun _ _ => am_gm (i := 75) rfl rfl)⟩
set_option maxRecDepth 100000 in
theorem am_mo_Model_tries : am_mok (am_m 126) ∨ (am_m 126).2.2.2.2.1 = 13 := Or.inl ⟨am_gm (i := 1488) rfl rfl, am_gm (i := 91) rfl rfl, (fun h => Bool.noConfusion h), (fun _ => am_gm (i := 1487) rfl rfl), (fun _ _ => am_gm (i := 77) rfl rfl)⟩
set_option maxRecDepth 100000 in
theorem am_mo_Model_shift : am_mok (am_m 127) ∨ (am_m 127).2.2.2.2.1 = 13 := Or.inl ⟨am_gm (i := 1472) rfl rfl, am_gm (i := 91) rfl rfl, (fun h => Bool.noConfusion h), (fun _ => am_gm (i := 1470) rfl rfl), (fun _ _ => am_gm (i := 1471) rfl rfl)⟩
set_option maxRecDepth 100000 in
theorem am_mo_Model_plan : am_mok (am_m 128) ∨ (am_m 128).2.2.2.2.1 = 13 := Or.inl ⟨am_gm (i := 1493) rfl rfl, am_gm (i := 91) rfl rfl, (fun h => Bool.noConfusion h), (fun _ => am_gm (i := 1491) rfl rfl), (fun _ _ => am_gm (i := 1492) rfl rfl)⟩
set_option maxRecDepth 100000 in
theorem am_mo_Model_lift : am_mok (am_m 129) ∨ (am_m 129).2.2.2.2.1 = 13 := Or.inl ⟨am_gm (i := 1497) rfl rfl, am_gm (i := 91) rfl rfl, (fun h => Bool.noConfusion h), (fun _ => am_gm (i := 1495) rfl rfl), (fun _ _ => am_gm (i := 1496) rfl rfl)⟩
set_option maxRecDepth 100000 in
theorem am_mo_Model_image : am_mok (am_m 130) ∨ (am_m 130).2.2.2.2.1 = 13 := Or.inl ⟨am_gm (i := 1501) rfl rfl, am_gm (i := 91) rfl rfl, (fun h => Bool.noConfusion h), (fun _ => am_gm (i := 1499) rfl rfl), (fun _ _ => am_gm (i := 1500) rfl rfl)⟩
set_option maxRecDepth 100000 in
theorem am_mo_Model_again : am_mok (am_m 131) ∨ (am_m 131).2.2.2.2.1 = 13 := Or.inl ⟨am_gm (i := 1505) rfl rfl, am_gm (i := 91) rfl rfl, (fun h => Bool.noConfusion h), (fun _ => am_gm (i := 1503) rfl rfl), (fun _ _ => am_gm (i := 1504) rfl rfl)⟩
set_option maxRecDepth 100000 in
theorem am_mo_ByteRow_init : am_mok (am_m 132) ∨ (am_m 132).2.2.2.2.1 = 13 := Or.inl ⟨am_gm (i := 113) rfl rfl, am_gm (i := 81) rfl rfl, (fun h => Bool.noConfusion h), (fun _ => am_gm (i := 112) rfl rfl), (fun _ h => absurd rfl h)⟩
set_option maxRecDepth 100000 in
theorem am_mo_ByteRow_add : am_mok (am_m 133) ∨ (am_m 133).2.2.2.2.1 = 13 := Or.inl ⟨am_gm (i := 444) rfl rfl, am_gm (i := 81) rfl rfl, (fun h => Bool.noConfusion h), (fun _ => am_gm (i := 442) rfl rfl), (fun _ _ => am_gm (i := 443) rfl rfl)⟩
set_option maxRecDepth 100000 in
theorem am_mo_ByteRow_addNumber : am_mok (am_m 134) ∨ (am_m 134).2.2.2.2.1 = 13 := Or.inl ⟨am_gm (i := 440) rfl rfl, am_gm (i := 81) rfl rfl, (fun h => Bool.noConfusion h), (fun _ => am_gm (i := 438) rfl rfl), (fun _ _ => am_gm (i := 439) rfl rfl)⟩
set_option maxRecDepth 100000 in
theorem am_mo_ByteRow_addDigits : am_mok (am_m 135) ∨ (am_m 135).2.2.2.2.1 = 13 := Or.inl ⟨am_gm (i := 598) rfl rfl, am_gm (i := 81) rfl rfl, (fun h => Bool.noConfusion h), (fun _ => am_gm (i := 596) rfl rfl), (fun _ _ => am_gm (i := 597) rfl rfl)⟩
set_option maxRecDepth 100000 in
theorem am_mo_ByteRow_byteAt : am_mok (am_m 136) ∨ (am_m 136).2.2.2.2.1 = 13 := Or.inl ⟨am_gm (i := 618) rfl rfl, am_gm (i := 81) rfl rfl, (fun h => Bool.noConfusion h), (fun _ => am_gm (i := 616) rfl rfl), (fun _ _ => am_gm (i := 617) rfl rfl)⟩
set_option maxRecDepth 100000 in
theorem am_mo_Catalogue_init : am_mok (am_m 137) ∨ (am_m 137).2.2.2.2.1 = 13 := Or.inl ⟨am_gm (i := 263) rfl rfl, am_gm (i := 87) rfl rfl, (fun h => Bool.noConfusion h), (fun _ => am_gm (i := 262) rfl rfl), (fun _ h => absurd rfl h)⟩
set_option maxRecDepth 100000 in
theorem am_mo_Catalogue_isMark : am_mok (am_m 138) ∨ (am_m 138).2.2.2.2.1 = 13 := Or.inl ⟨am_gm (i := 875) rfl rfl, am_gm (i := 87) rfl rfl, (fun _ => am_gm (i := 874) rfl rfl), (fun h => Bool.noConfusion h), (fun h => Bool.noConfusion h)⟩
set_option maxRecDepth 100000 in
theorem am_mo_Catalogue_shelfOf : am_mok (am_m 139) ∨ (am_m 139).2.2.2.2.1 = 13 := Or.inl ⟨am_gm (i := 883) rfl rfl, am_gm (i := 87) rfl rfl, (fun h => Bool.noConfusion h), (fun _ => am_gm (i := 881) rfl rfl), (fun _ _ => am_gm (i := 882) rfl rfl)⟩
set_option maxRecDepth 100000 in
theorem am_mo_Catalogue_enter : am_mok (am_m 140) ∨ (am_m 140).2.2.2.2.1 = 13 := Or.inl ⟨am_gm (i := 907) rfl rfl, am_gm (i := 87) rfl rfl, (fun h => Bool.noConfusion h), (fun _ => am_gm (i := 905) rfl rfl), (fun _ _ => am_gm (i := 906) rfl rfl)⟩
set_option maxRecDepth 100000 in
theorem am_mo_Catalogue_strike : am_mok (am_m 141) ∨ (am_m 141).2.2.2.2.1 = 13 := Or.inl ⟨am_gm (i := 915) rfl rfl, am_gm (i := 87) rfl rfl, (fun h => Bool.noConfusion h), (fun _ => am_gm (i := 913) rfl rfl), (fun _ _ => am_gm (i := 914) rfl rfl)⟩
set_option maxRecDepth 100000 in
theorem am_mo_Catalogue_isRead : am_mok (am_m 142) ∨ (am_m 142).2.2.2.2.1 = 13 := Or.inl ⟨am_gm (i := 887) rfl rfl, am_gm (i := 87) rfl rfl, (fun h => Bool.noConfusion h), (fun _ => am_gm (i := 885) rfl rfl), (fun _ _ => am_gm (i := 886) rfl rfl)⟩
set_option maxRecDepth 100000 in
theorem am_mo_Catalogue_timesRead : am_mok (am_m 143) ∨ (am_m 143).2.2.2.2.1 = 13 := Or.inl ⟨am_gm (i := 891) rfl rfl, am_gm (i := 87) rfl rfl, (fun h => Bool.noConfusion h), (fun _ => am_gm (i := 890) rfl rfl), (fun _ _ => am_gm (i := 22) rfl rfl)⟩
set_option maxRecDepth 100000 in
theorem am_mo_Catalogue_isGone : am_mok (am_m 144) ∨ (am_m 144).2.2.2.2.1 = 13 := Or.inl ⟨am_gm (i := 879) rfl rfl, am_gm (i := 87) rfl rfl, (fun h => Bool.noConfusion h), (fun _ => am_gm (i := 878) rfl rfl), (fun _ _ => am_gm (i := 21) rfl rfl)⟩
set_option maxRecDepth 100000 in
theorem am_mo_Catalogue_countGone : am_mok (am_m 145) ∨ (am_m 145).2.2.2.2.1 = 13 := Or.inl ⟨am_gm (i := 899) rfl rfl, am_gm (i := 87) rfl rfl, (fun h => Bool.noConfusion h), (fun _ => am_gm (i := 897) rfl rfl), (fun _ _ => am_gm (i := 898) rfl rfl)⟩
set_option maxRecDepth 100000 in
theorem am_mo_Catalogue_keepReading : am_mok (am_m 146) ∨ (am_m 146).2.2.2.2.1 = 13 := Or.inl ⟨am_gm (i := 867) rfl rfl, am_gm (i := 87) rfl rfl, (fun h => Bool.noConfusion h), (fun _ => am_gm (i := 865) rfl rfl), (fun _ _ => am_gm (i := 866) rfl rfl)⟩
set_option maxRecDepth 100000 in
theorem am_mo_Catalogue_traceMark : am_mok (am_m 147) ∨ (am_m 147).2.2.2.2.1 = 13 := Or.inl ⟨am_gm (i := 872) rfl rfl, am_gm (i := 87) rfl rfl, (fun h => Bool.noConfusion h), (fun _ => am_gm (i := 871) rfl rfl), (fun _ _ => am_gm (i := 20) rfl rfl)⟩
set_option maxRecDepth 100000 in
theorem am_mo_Catalogue_isSuch : am_mok (am_m 148) ∨ (am_m 148).2.2.2.2.1 = 13 := Or.inl ⟨am_gm (i := 929) rfl rfl, am_gm (i := 87) rfl rfl, (fun h => Bool.noConfusion h), (fun _ => am_gm (i := 927) rfl rfl), (fun _ _ => am_gm (i := 928) rfl rfl)⟩
set_option maxRecDepth 100000 in
theorem am_mo_Catalogue_become : am_mok (am_m 149) ∨ (am_m 149).2.2.2.2.1 = 13 := Or.inl ⟨am_gm (i := 1043) rfl rfl, am_gm (i := 87) rfl rfl, (fun h => Bool.noConfusion h), (fun _ => am_gm (i := 1041) rfl rfl), (fun _ _ => am_gm (i := 1042) rfl rfl)⟩
set_option maxRecDepth 100000 in
theorem am_mo_Growths_init : am_mok (am_m 150) ∨ (am_m 150).2.2.2.2.1 = 13 := Or.inl ⟨am_gm (i := 286) rfl rfl, am_gm (i := 88) rfl rfl, (fun h => Bool.noConfusion h), (fun _ => am_gm (i := 285) rfl rfl), (fun _ h => absurd rfl h)⟩
set_option maxRecDepth 100000 in
theorem am_mo_Growths_make : am_mok (am_m 151) ∨ (am_m 151).2.2.2.2.1 = 13 := Or.inl ⟨am_gm (i := 941) rfl rfl, am_gm (i := 88) rfl rfl, (fun h => Bool.noConfusion h), (fun _ => am_gm (i := 939) rfl rfl), (fun _ _ => am_gm (i := 940) rfl rfl)⟩
set_option maxRecDepth 100000 in
theorem am_mo_Growths_countBooks : am_mok (am_m 152) ∨ (am_m 152).2.2.2.2.1 = 13 := Or.inl ⟨am_gm (i := 745) rfl rfl, am_gm (i := 88) rfl rfl, (fun h => Bool.noConfusion h), (fun _ => am_gm (i := 743) rfl rfl), (fun _ _ => am_gm (i := 744) rfl rfl)⟩
set_option maxRecDepth 100000 in
theorem am_mo_Growths_isOf : am_mok (am_m 153) ∨ (am_m 153).2.2.2.2.1 = 13 := Or.inl ⟨am_gm (i := 750) rfl rfl, am_gm (i := 88) rfl rfl, (fun h => Bool.noConfusion h), (fun _ => am_gm (i := 749) rfl rfl), (fun _ _ => am_gm (i := 16) rfl rfl)⟩
set_option maxRecDepth 100000 in
theorem am_mo_Growths_lossOf : am_mok (am_m 154) ∨ (am_m 154).2.2.2.2.1 = 13 := Or.inl ⟨am_gm (i := 767) rfl rfl, am_gm (i := 88) rfl rfl, (fun h => Bool.noConfusion h), (fun _ => am_gm (i := 765) rfl rfl), (fun _ _ => am_gm (i := 766) rfl rfl)⟩
set_option maxRecDepth 100000 in
theorem am_mo_Growths_become : am_mok (am_m 155) ∨ (am_m 155).2.2.2.2.1 = 13 := Or.inl ⟨am_gm (i := 1048) rfl rfl, am_gm (i := 88) rfl rfl, (fun h => Bool.noConfusion h), (fun _ => am_gm (i := 1046) rfl rfl), (fun _ _ => am_gm (i := 1047) rfl rfl)⟩
set_option maxRecDepth 100000 in
theorem am_mo_Marks_init : am_mok (am_m 156) ∨ (am_m 156).2.2.2.2.1 = 13 := Or.inl ⟨am_gm (i := 166) rfl rfl, am_gm (i := 84) rfl rfl, (fun h => Bool.noConfusion h), (fun _ => am_gm (i := 165) rfl rfl), (fun _ h => absurd rfl h)⟩
set_option maxRecDepth 100000 in
theorem am_mo_Marks_has : am_mok (am_m 157) ∨ (am_m 157).2.2.2.2.1 = 13 := Or.inl ⟨am_gm (i := 527) rfl rfl, am_gm (i := 84) rfl rfl, (fun h => Bool.noConfusion h), (fun _ => am_gm (i := 525) rfl rfl), (fun _ _ => am_gm (i := 526) rfl rfl)⟩
set_option maxRecDepth 100000 in
theorem am_mo_Marks_lengthOf : am_mok (am_m 158) ∨ (am_m 158).2.2.2.2.1 = 13 := Or.inl ⟨am_gm (i := 523) rfl rfl, am_gm (i := 84) rfl rfl, (fun h => Bool.noConfusion h), (fun _ => am_gm (i := 521) rfl rfl), (fun _ _ => am_gm (i := 522) rfl rfl)⟩
set_option maxRecDepth 100000 in
theorem am_mo_Marks_partOf : am_mok (am_m 159) ∨ (am_m 159).2.2.2.2.1 = 13 := Or.inl ⟨am_gm (i := 535) rfl rfl, am_gm (i := 84) rfl rfl, (fun h => Bool.noConfusion h), (fun _ => am_gm (i := 533) rfl rfl), (fun _ _ => am_gm (i := 534) rfl rfl)⟩
set_option maxRecDepth 100000 in
theorem am_mo_Marks_numberOf : am_mok (am_m 160) ∨ (am_m 160).2.2.2.2.1 = 13 := Or.inl ⟨am_gm (i := 519) rfl rfl, am_gm (i := 84) rfl rfl, (fun h => Bool.noConfusion h), (fun _ => am_gm (i := 517) rfl rfl), (fun _ _ => am_gm (i := 518) rfl rfl)⟩
set_option maxRecDepth 100000 in
theorem am_mo_Marks_beginsWith : am_mok (am_m 161) ∨ (am_m 161).2.2.2.2.1 = 13 := Or.inl ⟨am_gm (i := 531) rfl rfl, am_gm (i := 84) rfl rfl, (fun h => Bool.noConfusion h), (fun _ => am_gm (i := 530) rfl rfl), (fun _ _ => am_gm (i := 12) rfl rfl)⟩
set_option maxRecDepth 100000 in
theorem am_mo_Marks_make : am_mok (am_m 162) ∨ (am_m 162).2.2.2.2.1 = 13 := Or.inl ⟨am_gm (i := 539) rfl rfl, am_gm (i := 84) rfl rfl, (fun h => Bool.noConfusion h), (fun _ => am_gm (i := 537) rfl rfl), (fun _ _ => am_gm (i := 538) rfl rfl)⟩
set_option maxRecDepth 100000 in
theorem am_mo_Marks_compare : am_mok (am_m 163) ∨ (am_m 163).2.2.2.2.1 = 13 := Or.inl ⟨am_gm (i := 630) rfl rfl, am_gm (i := 84) rfl rfl, (fun h => Bool.noConfusion h), (fun _ => am_gm (i := 628) rfl rfl), (fun _ _ => am_gm (i := 629) rfl rfl)⟩
set_option maxRecDepth 100000 in
theorem am_mo_Marks_volumeOf : am_mok (am_m 164) ∨ (am_m 164).2.2.2.2.1 = 13 := Or.inl ⟨am_gm (i := 691) rfl rfl, am_gm (i := 84) rfl rfl, (fun h => Bool.noConfusion h), (fun _ => am_gm (i := 689) rfl rfl), (fun _ _ => am_gm (i := 690) rfl rfl)⟩
set_option maxRecDepth 100000 in
theorem am_mo_Marks_areOfOneWork : am_mok (am_m 165) ∨ (am_m 165).2.2.2.2.1 = 13 := Or.inl ⟨am_gm (i := 978) rfl rfl, am_gm (i := 84) rfl rfl, (fun h => Bool.noConfusion h), (fun _ => am_gm (i := 976) rfl rfl), (fun _ _ => am_gm (i := 977) rfl rfl)⟩
set_option maxRecDepth 100000 in
theorem am_mo_Marks_lengthOfWork : am_mok (am_m 166) ∨ (am_m 166).2.2.2.2.1 = 13 := Or.inl ⟨am_gm (i := 982) rfl rfl, am_gm (i := 84) rfl rfl, (fun h => Bool.noConfusion h), (fun _ => am_gm (i := 981) rfl rfl), (fun _ _ => am_gm (i := 27) rfl rfl)⟩
set_option maxRecDepth 100000 in
theorem am_mo_Marks_spell : am_mok (am_m 167) ∨ (am_m 167).2.2.2.2.1 = 13 := Or.inl ⟨am_gm (i := 578) rfl rfl, am_gm (i := 84) rfl rfl, (fun h => Bool.noConfusion h), (fun _ => am_gm (i := 576) rfl rfl), (fun _ _ => am_gm (i := 577) rfl rfl)⟩
set_option maxRecDepth 100000 in
theorem am_mo_Marks_become : am_mok (am_m 168) ∨ (am_m 168).2.2.2.2.1 = 13 := Or.inl ⟨am_gm (i := 1029) rfl rfl, am_gm (i := 84) rfl rfl, (fun h => Bool.noConfusion h), (fun _ => am_gm (i := 1027) rfl rfl), (fun _ _ => am_gm (i := 1028) rfl rfl)⟩
set_option maxRecDepth 100000 in
theorem am_mo_Part_of : am_mok (am_m 169) ∨ (am_m 169).2.2.2.2.1 = 13 := Or.inl ⟨am_gm (i := 485) rfl rfl, am_gm (i := 92) rfl rfl, (fun _ => am_gm (i := 484) rfl rfl), (fun h => Bool.noConfusion h), (fun h => Bool.noConfusion h)⟩
set_option maxRecDepth 100000 in
theorem am_mo_Part_kindOf : am_mok (am_m 170) ∨ (am_m 170).2.2.2.2.1 = 13 := Or.inl ⟨am_gm (i := 512) rfl rfl, am_gm (i := 92) rfl rfl, (fun _ => am_gm (i := 511) rfl rfl), (fun h => Bool.noConfusion h), (fun h => Bool.noConfusion h)⟩
set_option maxRecDepth 100000 in
theorem am_mo_Part_valueOf : am_mok (am_m 171) ∨ (am_m 171).2.2.2.2.1 = 13 := Or.inl ⟨am_gm (i := 562) rfl rfl, am_gm (i := 92) rfl rfl, (fun _ => am_gm (i := 561) rfl rfl), (fun h => Bool.noConfusion h), (fun h => Bool.noConfusion h)⟩
set_option maxRecDepth 100000 in
theorem am_mo_Part_digitsOf : am_mok (am_m 172) ∨ (am_m 172).2.2.2.2.1 = 13 := Or.inl ⟨am_gm (i := 566) rfl rfl, am_gm (i := 92) rfl rfl, (fun _ => am_gm (i := 565) rfl rfl), (fun h => Bool.noConfusion h), (fun h => Bool.noConfusion h)⟩
set_option maxRecDepth 100000 in
theorem am_mo_Part_placesOf : am_mok (am_m 173) ∨ (am_m 173).2.2.2.2.1 = 13 := Or.inl ⟨am_gm (i := 570) rfl rfl, am_gm (i := 92) rfl rfl, (fun _ => am_gm (i := 569) rfl rfl), (fun h => Bool.noConfusion h), (fun h => Bool.noConfusion h)⟩
set_option maxRecDepth 100000 in
theorem am_mo_Part_compare : am_mok (am_m 174) ∨ (am_m 174).2.2.2.2.1 = 13 := Or.inl ⟨am_gm (i := 634) rfl rfl, am_gm (i := 92) rfl rfl, (fun _ => am_gm (i := 633) rfl rfl), (fun h => Bool.noConfusion h), (fun h => Bool.noConfusion h)⟩
set_option maxRecDepth 100000 in
theorem am_mo_Part_wordKey : am_mok (am_m 175) ∨ (am_m 175).2.2.2.2.1 = 13 := Or.inl ⟨am_gm (i := 640) rfl rfl, am_gm (i := 92) rfl rfl, (fun _ => am_gm (i := 639) rfl rfl), (fun h => Bool.noConfusion h), (fun h => Bool.noConfusion h)⟩
set_option maxRecDepth 100000 in
theorem am_mo_Part_digitKey : am_mok (am_m 176) ∨ (am_m 176).2.2.2.2.1 = 13 := Or.inl ⟨am_gm (i := 643) rfl rfl, am_gm (i := 92) rfl rfl, (fun _ => am_gm (i := 642) rfl rfl), (fun h => Bool.noConfusion h), (fun h => Bool.noConfusion h)⟩
set_option maxRecDepth 100000 in
theorem am_mo_Part_spell : am_mok (am_m 177) ∨ (am_m 177).2.2.2.2.1 = 13 := Or.inl ⟨am_gm (i := 583) rfl rfl, am_gm (i := 92) rfl rfl, (fun _ => am_gm (i := 582) rfl rfl), (fun h => Bool.noConfusion h), (fun h => Bool.noConfusion h)⟩
set_option maxRecDepth 100000 in
theorem am_mo_Part_spellLetters : am_mok (am_m 178) ∨ (am_m 178).2.2.2.2.1 = 13 := Or.inl ⟨am_gm (i := 588) rfl rfl, am_gm (i := 92) rfl rfl, (fun _ => am_gm (i := 587) rfl rfl), (fun h => Bool.noConfusion h), (fun h => Bool.noConfusion h)⟩
set_option maxRecDepth 100000 in
theorem am_mo_Part_spellDigits : am_mok (am_m 179) ∨ (am_m 179).2.2.2.2.1 = 13 := Or.inl ⟨am_gm (i := 605) rfl rfl, am_gm (i := 92) rfl rfl, (fun _ => am_gm (i := 604) rfl rfl), (fun h => Bool.noConfusion h), (fun h => Bool.noConfusion h)⟩
set_option maxRecDepth 100000 in
theorem am_mo_Part_spellNumber : am_mok (am_m 180) ∨ (am_m 180).2.2.2.2.1 = 13 := Or.inl ⟨am_gm (i := 610) rfl rfl, am_gm (i := 92) rfl rfl, (fun _ => am_gm (i := 609) rfl rfl), (fun h => Bool.noConfusion h), (fun h => Bool.noConfusion h)⟩
set_option maxRecDepth 100000 in
theorem am_mo_Part_lengthOfNumber : am_mok (am_m 181) ∨ (am_m 181).2.2.2.2.1 = 13 := Or.inl ⟨am_gm (i := 592) rfl rfl, am_gm (i := 92) rfl rfl, (fun _ => am_gm (i := 591) rfl rfl), (fun h => Bool.noConfusion h), (fun h => Bool.noConfusion h)⟩
set_option maxRecDepth 100000 in
theorem am_mo_Reading_init : am_mok (am_m 182) ∨ (am_m 182).2.2.2.2.1 = 13 := Or.inl ⟨am_gm (i := 242) rfl rfl, am_gm (i := 86) rfl rfl, (fun h => Bool.noConfusion h), (fun _ => am_gm (i := 241) rfl rfl), (fun _ h => absurd rfl h)⟩
set_option maxRecDepth 100000 in
theorem am_mo_Reading_isThere : am_mok (am_m 183) ∨ (am_m 183).2.2.2.2.1 = 13 := Or.inl ⟨am_gm (i := 551) rfl rfl, am_gm (i := 86) rfl rfl, (fun h => Bool.noConfusion h), (fun _ => am_gm (i := 549) rfl rfl), (fun _ _ => am_gm (i := 550) rfl rfl)⟩
set_option maxRecDepth 100000 in
theorem am_mo_Reading_begin : am_mok (am_m 184) ∨ (am_m 184).2.2.2.2.1 = 13 := Or.inl ⟨am_gm (i := 775) rfl rfl, am_gm (i := 86) rfl rfl, (fun h => Bool.noConfusion h), (fun _ => am_gm (i := 773) rfl rfl), (fun _ _ => am_gm (i := 774) rfl rfl)⟩
set_option maxRecDepth 100000 in
theorem am_mo_Reading_end : am_mok (am_m 185) ∨ (am_m 185).2.2.2.2.1 = 13 := Or.inl ⟨am_gm (i := 895) rfl rfl, am_gm (i := 86) rfl rfl, (fun h => Bool.noConfusion h), (fun _ => am_gm (i := 893) rfl rfl), (fun _ _ => am_gm (i := 894) rfl rfl)⟩
set_option maxRecDepth 100000 in
theorem am_mo_Reading_add : am_mok (am_m 186) ∨ (am_m 186).2.2.2.2.1 = 13 := Or.inl ⟨am_gm (i := 783) rfl rfl, am_gm (i := 86) rfl rfl, (fun h => Bool.noConfusion h), (fun _ => am_gm (i := 781) rfl rfl), (fun _ _ => am_gm (i := 782) rfl rfl)⟩
set_option maxRecDepth 100000 in
theorem am_mo_Reading_markAt : am_mok (am_m 187) ∨ (am_m 187).2.2.2.2.1 = 13 := Or.inl ⟨am_gm (i := 795) rfl rfl, am_gm (i := 86) rfl rfl, (fun h => Bool.noConfusion h), (fun _ => am_gm (i := 793) rfl rfl), (fun _ _ => am_gm (i := 794) rfl rfl)⟩
set_option maxRecDepth 100000 in
theorem am_mo_Reading_shiftOne : am_mok (am_m 188) ∨ (am_m 188).2.2.2.2.1 = 13 := Or.inl ⟨am_gm (i := 838) rfl rfl, am_gm (i := 86) rfl rfl, (fun h => Bool.noConfusion h), (fun _ => am_gm (i := 836) rfl rfl), (fun _ _ => am_gm (i := 837) rfl rfl)⟩
set_option maxRecDepth 100000 in
theorem am_mo_Reading_become : am_mok (am_m 189) ∨ (am_m 189).2.2.2.2.1 = 13 := Or.inl ⟨am_gm (i := 1039) rfl rfl, am_gm (i := 86) rfl rfl, (fun h => Bool.noConfusion h), (fun _ => am_gm (i := 1037) rfl rfl), (fun _ _ => am_gm (i := 1038) rfl rfl)⟩
set_option maxRecDepth 100000 in
theorem am_mo_Sequence_init : am_mok (am_m 190) ∨ (am_m 190).2.2.2.2.1 = 13 := Or.inl ⟨am_gm (i := 343) rfl rfl, am_gm (i := 89) rfl rfl, (fun h => Bool.noConfusion h), (fun _ => am_gm (i := 342) rfl rfl), (fun _ h => absurd rfl h)⟩
set_option maxRecDepth 100000 in
theorem am_mo_Sequence_study : am_mok (am_m 191) ∨ (am_m 191).2.2.2.2.1 = 13 := Or.inl ⟨am_gm (i := 803) rfl rfl, am_gm (i := 89) rfl rfl, (fun h => Bool.noConfusion h), (fun _ => am_gm (i := 801) rfl rfl), (fun _ _ => am_gm (i := 802) rfl rfl)⟩
set_option maxRecDepth 100000 in
theorem am_mo_Sequence_longestFrom : am_mok (am_m 192) ∨ (am_m 192).2.2.2.2.1 = 13 := Or.inl ⟨am_gm (i := 808) rfl rfl, am_gm (i := 89) rfl rfl, (fun h => Bool.noConfusion h), (fun _ => am_gm (i := 807) rfl rfl), (fun _ _ => am_gm (i := 17) rfl rfl)⟩
set_option maxRecDepth 100000 in
theorem am_mo_Sequence_follows : am_mok (am_m 193) ∨ (am_m 193).2.2.2.2.1 = 13 := Or.inl ⟨am_gm (i := 811) rfl rfl, am_gm (i := 89) rfl rfl, (fun _ => am_gm (i := 810) rfl rfl), (fun h => Bool.noConfusion h), (fun h => Bool.noConfusion h)⟩
set_option maxRecDepth 100000 in
theorem am_mo_Sequence_chooseRights : am_mok (am_m 194) ∨ (am_m 194).2.2.2.2.1 = 13 := Or.inl ⟨am_gm (i := 818) rfl rfl, am_gm (i := 89) rfl rfl, (fun h => Bool.noConfusion h), (fun _ => am_gm (i := 817) rfl rfl), (fun _ _ => am_gm (i := 18) rfl rfl)⟩
set_option maxRecDepth 100000 in
theorem am_mo_Sequence_placeOf : am_mok (am_m 195) ∨ (am_m 195).2.2.2.2.1 = 13 := Or.inl ⟨am_gm (i := 822) rfl rfl, am_gm (i := 89) rfl rfl, (fun h => Bool.noConfusion h), (fun _ => am_gm (i := 820) rfl rfl), (fun _ _ => am_gm (i := 821) rfl rfl)⟩
set_option maxRecDepth 100000 in
theorem am_mo_Sequence_newPlaceOf : am_mok (am_m 196) ∨ (am_m 196).2.2.2.2.1 = 13 := Or.inl ⟨am_gm (i := 834) rfl rfl, am_gm (i := 89) rfl rfl, (fun h => Bool.noConfusion h), (fun _ => am_gm (i := 832) rfl rfl), (fun _ _ => am_gm (i := 833) rfl rfl)⟩
set_option maxRecDepth 100000 in
theorem am_mo_Shifter_init : am_mok (am_m 197) ∨ (am_m 197).2.2.2.2.1 = 13 := Or.inl ⟨am_gm (i := 363) rfl rfl, am_gm (i := 90) rfl rfl, (fun h => Bool.noConfusion h), (fun _ => am_gm (i := 362) rfl rfl), (fun _ h => absurd rfl h)⟩
set_option maxRecDepth 100000 in
theorem am_mo_Shifter_makePlan : am_mok (am_m 198) ∨ (am_m 198).2.2.2.2.1 = 13 := Or.inl ⟨am_gm (i := 961) rfl rfl, am_gm (i := 90) rfl rfl, (fun h => Bool.noConfusion h), (fun _ => am_gm (i := 959) rfl rfl), (fun _ _ => am_gm (i := 960) rfl rfl)⟩
set_option maxRecDepth 100000 in
theorem am_mo_Shifter_gather : am_mok (am_m 199) ∨ (am_m 199).2.2.2.2.1 = 13 := Or.inl ⟨am_gm (i := 965) rfl rfl, am_gm (i := 90) rfl rfl, (fun h => Bool.noConfusion h), (fun _ => am_gm (i := 964) rfl rfl), (fun _ _ => am_gm (i := 25) rfl rfl)⟩
set_option maxRecDepth 100000 in
theorem am_mo_Shifter_findEnds : am_mok (am_m 200) ∨ (am_m 200).2.2.2.2.1 = 13 := Or.inl ⟨am_gm (i := 972) rfl rfl, am_gm (i := 90) rfl rfl, (fun h => Bool.noConfusion h), (fun _ => am_gm (i := 971) rfl rfl), (fun _ _ => am_gm (i := 26) rfl rfl)⟩
set_option maxRecDepth 100000 in
theorem am_mo_Shifter_markEnds : am_mok (am_m 201) ∨ (am_m 201).2.2.2.2.1 = 13 := Or.inl ⟨am_gm (i := 986) rfl rfl, am_gm (i := 90) rfl rfl, (fun h => Bool.noConfusion h), (fun _ => am_gm (i := 985) rfl rfl), (fun _ _ => am_gm (i := 28) rfl rfl)⟩
set_option maxRecDepth 100000 in
theorem am_mo_Shifter_fill : am_mok (am_m 202) ∨ (am_m 202).2.2.2.2.1 = 13 := Or.inl ⟨am_gm (i := 991) rfl rfl, am_gm (i := 90) rfl rfl, (fun h => Bool.noConfusion h), (fun _ => am_gm (i := 990) rfl rfl), (fun _ _ => am_gm (i := 29) rfl rfl)⟩
set_option maxRecDepth 100000 in
theorem am_mo_Shifter_keepPlan : am_mok (am_m 203) ∨ (am_m 203).2.2.2.2.1 = 13 := Or.inl ⟨am_gm (i := 995) rfl rfl, am_gm (i := 90) rfl rfl, (fun h => Bool.noConfusion h), (fun _ => am_gm (i := 994) rfl rfl), (fun _ _ => am_gm (i := 30) rfl rfl)⟩
set_option maxRecDepth 100000 in
theorem am_mo_Shifter_dropPlan : am_mok (am_m 204) ∨ (am_m 204).2.2.2.2.1 = 13 := Or.inl ⟨am_gm (i := 1057) rfl rfl, am_gm (i := 90) rfl rfl, (fun h => Bool.noConfusion h), (fun _ => am_gm (i := 1055) rfl rfl), (fun _ _ => am_gm (i := 1056) rfl rfl)⟩
set_option maxRecDepth 100000 in
theorem am_mo_Shifter_endOf : am_mok (am_m 205) ∨ (am_m 205).2.2.2.2.1 = 13 := Or.inl ⟨am_gm (i := 1003) rfl rfl, am_gm (i := 90) rfl rfl, (fun h => Bool.noConfusion h), (fun _ => am_gm (i := 1001) rfl rfl), (fun _ _ => am_gm (i := 1002) rfl rfl)⟩
set_option maxRecDepth 100000 in
theorem am_mo_Shifter_carryOut : am_mok (am_m 206) ∨ (am_m 206).2.2.2.2.1 = 13 := Or.inl ⟨am_gm (i := 1011) rfl rfl, am_gm (i := 90) rfl rfl, (fun h => Bool.noConfusion h), (fun _ => am_gm (i := 1009) rfl rfl), (fun _ _ => am_gm (i := 1010) rfl rfl)⟩
set_option maxRecDepth 100000 in
theorem am_mo_Shifter_isAsThen : am_mok (am_m 207) ∨ (am_m 207).2.2.2.2.1 = 13 := Or.inl ⟨am_gm (i := 1015) rfl rfl, am_gm (i := 90) rfl rfl, (fun h => Bool.noConfusion h), (fun _ => am_gm (i := 1014) rfl rfl), (fun _ _ => am_gm (i := 31) rfl rfl)⟩
set_option maxRecDepth 100000 in
theorem am_mo_Stacks_init : am_mok (am_m 208) ∨ (am_m 208).2.2.2.2.1 = 13 := Or.inl ⟨am_gm (i := 183) rfl rfl, am_gm (i := 85) rfl rfl, (fun h => Bool.noConfusion h), (fun _ => am_gm (i := 182) rfl rfl), (fun _ h => absurd rfl h)⟩
set_option maxRecDepth 100000 in
theorem am_mo_Stacks_hasShelf : am_mok (am_m 209) ∨ (am_m 209).2.2.2.2.1 = 13 := Or.inl ⟨am_gm (i := 668) rfl rfl, am_gm (i := 85) rfl rfl, (fun h => Bool.noConfusion h), (fun _ => am_gm (i := 666) rfl rfl), (fun _ _ => am_gm (i := 667) rfl rfl)⟩
set_option maxRecDepth 100000 in
theorem am_mo_Stacks_hasBook : am_mok (am_m 210) ∨ (am_m 210).2.2.2.2.1 = 13 := Or.inl ⟨am_gm (i := 687) rfl rfl, am_gm (i := 85) rfl rfl, (fun h => Bool.noConfusion h), (fun _ => am_gm (i := 685) rfl rfl), (fun _ _ => am_gm (i := 686) rfl rfl)⟩
set_option maxRecDepth 100000 in
theorem am_mo_Stacks_isHigh : am_mok (am_m 211) ∨ (am_m 211).2.2.2.2.1 = 13 := Or.inl ⟨am_gm (i := 709) rfl rfl, am_gm (i := 85) rfl rfl, (fun h => Bool.noConfusion h), (fun _ => am_gm (i := 707) rfl rfl), (fun _ _ => am_gm (i := 708) rfl rfl)⟩
set_option maxRecDepth 100000 in
theorem am_mo_Stacks_widthOf : am_mok (am_m 212) ∨ (am_m 212).2.2.2.2.1 = 13 := Or.inl ⟨am_gm (i := 759) rfl rfl, am_gm (i := 85) rfl rfl, (fun h => Bool.noConfusion h), (fun _ => am_gm (i := 757) rfl rfl), (fun _ _ => am_gm (i := 758) rfl rfl)⟩
set_option maxRecDepth 100000 in
theorem am_mo_Stacks_hasPlace : am_mok (am_m 213) ∨ (am_m 213).2.2.2.2.1 = 13 := Or.inl ⟨am_gm (i := 664) rfl rfl, am_gm (i := 85) rfl rfl, (fun h => Bool.noConfusion h), (fun _ => am_gm (i := 663) rfl rfl), (fun _ _ => am_gm (i := 14) rfl rfl)⟩
set_option maxRecDepth 100000 in
theorem am_mo_Stacks_thingAt : am_mok (am_m 214) ∨ (am_m 214).2.2.2.2.1 = 13 := Or.inl ⟨am_gm (i := 705) rfl rfl, am_gm (i := 85) rfl rfl, (fun h => Bool.noConfusion h), (fun _ => am_gm (i := 703) rfl rfl), (fun _ _ => am_gm (i := 704) rfl rfl)⟩
set_option maxRecDepth 100000 in
theorem am_mo_Stacks_isFree : am_mok (am_m 215) ∨ (am_m 215).2.2.2.2.1 = 13 := Or.inl ⟨am_gm (i := 701) rfl rfl, am_gm (i := 85) rfl rfl, (fun h => Bool.noConfusion h), (fun _ => am_gm (i := 699) rfl rfl), (fun _ _ => am_gm (i := 700) rfl rfl)⟩
set_option maxRecDepth 100000 in
theorem am_mo_Stacks_setThing : am_mok (am_m 216) ∨ (am_m 216).2.2.2.2.1 = 13 := Or.inl ⟨am_gm (i := 660) rfl rfl, am_gm (i := 85) rfl rfl, (fun h => Bool.noConfusion h), (fun _ => am_gm (i := 659) rfl rfl), (fun _ _ => am_gm (i := 13) rfl rfl)⟩
set_option maxRecDepth 100000 in
theorem am_mo_Stacks_bookOf : am_mok (am_m 217) ∨ (am_m 217).2.2.2.2.1 = 13 := Or.inl ⟨am_gm (i := 683) rfl rfl, am_gm (i := 85) rfl rfl, (fun _ => am_gm (i := 682) rfl rfl), (fun h => Bool.noConfusion h), (fun h => Bool.noConfusion h)⟩
set_option maxRecDepth 100000 in
theorem am_mo_Stacks_markOf : am_mok (am_m 218) ∨ (am_m 218).2.2.2.2.1 = 13 := Or.inl ⟨am_gm (i := 779) rfl rfl, am_gm (i := 85) rfl rfl, (fun h => Bool.noConfusion h), (fun _ => am_gm (i := 777) rfl rfl), (fun _ _ => am_gm (i := 778) rfl rfl)⟩
set_option maxRecDepth 100000 in
theorem am_mo_Stacks_widthTaken : am_mok (am_m 219) ∨ (am_m 219).2.2.2.2.1 = 13 := Or.inl ⟨am_gm (i := 763) rfl rfl, am_gm (i := 85) rfl rfl, (fun h => Bool.noConfusion h), (fun _ => am_gm (i := 761) rfl rfl), (fun _ _ => am_gm (i := 762) rfl rfl)⟩
set_option maxRecDepth 100000 in
theorem am_mo_Stacks_makeShelf : am_mok (am_m 220) ∨ (am_m 220).2.2.2.2.1 = 13 := Or.inl ⟨am_gm (i := 652) rfl rfl, am_gm (i := 85) rfl rfl, (fun h => Bool.noConfusion h), (fun _ => am_gm (i := 650) rfl rfl), (fun _ _ => am_gm (i := 651) rfl rfl)⟩
set_option maxRecDepth 100000 in
theorem am_mo_Stacks_clearShelf : am_mok (am_m 221) ∨ (am_m 221).2.2.2.2.1 = 13 := Or.inl ⟨am_gm (i := 656) rfl rfl, am_gm (i := 85) rfl rfl, (fun h => Bool.noConfusion h), (fun _ => am_gm (i := 654) rfl rfl), (fun _ _ => am_gm (i := 655) rfl rfl)⟩
set_option maxRecDepth 100000 in
theorem am_mo_Stacks_makeBook : am_mok (am_m 222) ∨ (am_m 222).2.2.2.2.1 = 13 := Or.inl ⟨am_gm (i := 676) rfl rfl, am_gm (i := 85) rfl rfl, (fun h => Bool.noConfusion h), (fun _ => am_gm (i := 674) rfl rfl), (fun _ _ => am_gm (i := 675) rfl rfl)⟩
set_option maxRecDepth 100000 in
theorem am_mo_Stacks_notePlace : am_mok (am_m 223) ∨ (am_m 223).2.2.2.2.1 = 13 := Or.inl ⟨am_gm (i := 680) rfl rfl, am_gm (i := 85) rfl rfl, (fun h => Bool.noConfusion h), (fun _ => am_gm (i := 679) rfl rfl), (fun _ _ => am_gm (i := 15) rfl rfl)⟩
set_option maxRecDepth 100000 in
theorem am_mo_Stacks_takeThing : am_mok (am_m 224) ∨ (am_m 224).2.2.2.2.1 = 13 := Or.inl ⟨am_gm (i := 717) rfl rfl, am_gm (i := 85) rfl rfl, (fun h => Bool.noConfusion h), (fun _ => am_gm (i := 715) rfl rfl), (fun _ _ => am_gm (i := 716) rfl rfl)⟩
set_option maxRecDepth 100000 in
theorem am_mo_Stacks_putThing : am_mok (am_m 225) ∨ (am_m 225).2.2.2.2.1 = 13 := Or.inl ⟨am_gm (i := 713) rfl rfl, am_gm (i := 85) rfl rfl, (fun h => Bool.noConfusion h), (fun _ => am_gm (i := 711) rfl rfl), (fun _ _ => am_gm (i := 712) rfl rfl)⟩
set_option maxRecDepth 100000 in
theorem am_mo_Stacks_roomNow : am_mok (am_m 226) ∨ (am_m 226).2.2.2.2.1 = 13 := Or.inl ⟨am_gm (i := 755) rfl rfl, am_gm (i := 85) rfl rfl, (fun h => Bool.noConfusion h), (fun _ => am_gm (i := 753) rfl rfl), (fun _ _ => am_gm (i := 754) rfl rfl)⟩
set_option maxRecDepth 100000 in
theorem am_mo_Stacks_become : am_mok (am_m 227) ∨ (am_m 227).2.2.2.2.1 = 13 := Or.inl ⟨am_gm (i := 1034) rfl rfl, am_gm (i := 85) rfl rfl, (fun h => Bool.noConfusion h), (fun _ => am_gm (i := 1032) rfl rfl), (fun _ _ => am_gm (i := 1033) rfl rfl)⟩
set_option maxRecDepth 100000 in
theorem am_mo_State_init : am_mok (am_m 228) ∨ (am_m 228).2.2.2.2.1 = 13 := Or.inl ⟨am_gm (i := 160) rfl rfl, am_gm (i := 83) rfl rfl, (fun h => Bool.noConfusion h), (fun _ => am_gm (i := 159) rfl rfl), (fun _ h => absurd rfl h)⟩
set_option maxRecDepth 100000 in
theorem am_mo_State_compare : am_mok (am_m 229) ∨ (am_m 229).2.2.2.2.1 = 13 := Or.inl ⟨am_gm (i := 853) rfl rfl, am_gm (i := 83) rfl rfl, (fun h => Bool.noConfusion h), (fun _ => am_gm (i := 851) rfl rfl), (fun _ _ => am_gm (i := 852) rfl rfl)⟩
set_option maxRecDepth 100000 in
theorem am_mo_State_become : am_mok (am_m 230) ∨ (am_m 230).2.2.2.2.1 = 13 := Or.inl ⟨am_gm (i := 1025) rfl rfl, am_gm (i := 83) rfl rfl, (fun h => Bool.noConfusion h), (fun _ => am_gm (i := 1023) rfl rfl), (fun _ _ => am_gm (i := 1024) rfl rfl)⟩
set_option maxRecDepth 100000 in
theorem am_mo_TextReader_init : am_mok (am_m 231) ∨ (am_m 231).2.2.2.2.1 = 13 := Or.inl ⟨am_gm (i := 107) rfl rfl, am_gm (i := 80) rfl rfl, (fun h => Bool.noConfusion h), (fun _ => am_gm (i := 106) rfl rfl), (fun _ h => absurd rfl h)⟩
set_option maxRecDepth 100000 in
theorem am_mo_TextReader_faultOf : am_mok (am_m 232) ∨ (am_m 232).2.2.2.2.1 = 13 := Or.inl ⟨am_gm (i := 452) rfl rfl, am_gm (i := 80) rfl rfl, (fun h => Bool.noConfusion h), (fun _ => am_gm (i := 450) rfl rfl), (fun _ _ => am_gm (i := 451) rfl rfl)⟩
set_option maxRecDepth 100000 in
theorem am_mo_TextReader_next : am_mok (am_m 233) ∨ (am_m 233).2.2.2.2.1 = 13 := Or.inl ⟨am_gm (i := 460) rfl rfl, am_gm (i := 80) rfl rfl, (fun h => Bool.noConfusion h), (fun _ => am_gm (i := 459) rfl rfl), (fun _ _ => am_gm (i := 1) rfl rfl)⟩
set_option maxRecDepth 100000 in
theorem am_mo_TextReader_isLetter : am_mok (am_m 234) ∨ (am_m 234).2.2.2.2.1 = 13 := Or.inl ⟨am_gm (i := 474) rfl rfl, am_gm (i := 80) rfl rfl, (fun _ => am_gm (i := 473) rfl rfl), (fun h => Bool.noConfusion h), (fun h => Bool.noConfusion h)⟩
set_option maxRecDepth 100000 in
theorem am_mo_TextReader_isDigit : am_mok (am_m 235) ∨ (am_m 235).2.2.2.2.1 = 13 := Or.inl ⟨am_gm (i := 463) rfl rfl, am_gm (i := 80) rfl rfl, (fun _ => am_gm (i := 462) rfl rfl), (fun h => Bool.noConfusion h), (fun h => Bool.noConfusion h)⟩
set_option maxRecDepth 100000 in
theorem am_mo_TextReader_isJoined : am_mok (am_m 236) ∨ (am_m 236).2.2.2.2.1 = 13 := Or.inl ⟨am_gm (i := 456) rfl rfl, am_gm (i := 80) rfl rfl, (fun h => Bool.noConfusion h), (fun _ => am_gm (i := 455) rfl rfl), (fun _ _ => am_gm (i := 0) rfl rfl)⟩
set_option maxRecDepth 100000 in
theorem am_mo_TextReader_takeBlank : am_mok (am_m 237) ∨ (am_m 237).2.2.2.2.1 = 13 := Or.inl ⟨am_gm (i := 467) rfl rfl, am_gm (i := 80) rfl rfl, (fun h => Bool.noConfusion h), (fun _ => am_gm (i := 466) rfl rfl), (fun _ _ => am_gm (i := 2) rfl rfl)⟩
set_option maxRecDepth 100000 in
theorem am_mo_TextReader_takePart : am_mok (am_m 238) ∨ (am_m 238).2.2.2.2.1 = 13 := Or.inl ⟨am_gm (i := 471) rfl rfl, am_gm (i := 80) rfl rfl, (fun h => Bool.noConfusion h), (fun _ => am_gm (i := 470) rfl rfl), (fun _ _ => am_gm (i := 3) rfl rfl)⟩
set_option maxRecDepth 100000 in
theorem am_mo_TextReader_keep : am_mok (am_m 239) ∨ (am_m 239).2.2.2.2.1 = 13 := Or.inl ⟨am_gm (i := 482) rfl rfl, am_gm (i := 80) rfl rfl, (fun h => Bool.noConfusion h), (fun _ => am_gm (i := 481) rfl rfl), (fun _ _ => am_gm (i := 5) rfl rfl)⟩
set_option maxRecDepth 100000 in
theorem am_mo_TextReader_takeLetters : am_mok (am_m 240) ∨ (am_m 240).2.2.2.2.1 = 13 := Or.inl ⟨am_gm (i := 478) rfl rfl, am_gm (i := 80) rfl rfl, (fun h => Bool.noConfusion h), (fun _ => am_gm (i := 477) rfl rfl), (fun _ _ => am_gm (i := 4) rfl rfl)⟩
set_option maxRecDepth 100000 in
theorem am_mo_TextReader_takeWhole : am_mok (am_m 241) ∨ (am_m 241).2.2.2.2.1 = 13 := Or.inl ⟨am_gm (i := 489) rfl rfl, am_gm (i := 80) rfl rfl, (fun h => Bool.noConfusion h), (fun _ => am_gm (i := 488) rfl rfl), (fun _ _ => am_gm (i := 6) rfl rfl)⟩
set_option maxRecDepth 100000 in
theorem am_mo_TextReader_takePoint : am_mok (am_m 242) ∨ (am_m 242).2.2.2.2.1 = 13 := Or.inl ⟨am_gm (i := 497) rfl rfl, am_gm (i := 80) rfl rfl, (fun h => Bool.noConfusion h), (fun _ => am_gm (i := 496) rfl rfl), (fun _ _ => am_gm (i := 8) rfl rfl)⟩
set_option maxRecDepth 100000 in
theorem am_mo_TextReader_takeFraction : am_mok (am_m 243) ∨ (am_m 243).2.2.2.2.1 = 13 := Or.inl ⟨am_gm (i := 501) rfl rfl, am_gm (i := 80) rfl rfl, (fun h => Bool.noConfusion h), (fun _ => am_gm (i := 500) rfl rfl), (fun _ _ => am_gm (i := 9) rfl rfl)⟩
set_option maxRecDepth 100000 in
theorem am_mo_TextReader_takeYear : am_mok (am_m 244) ∨ (am_m 244).2.2.2.2.1 = 13 := Or.inl ⟨am_gm (i := 505) rfl rfl, am_gm (i := 80) rfl rfl, (fun h => Bool.noConfusion h), (fun _ => am_gm (i := 504) rfl rfl), (fun _ _ => am_gm (i := 10) rfl rfl)⟩
set_option maxRecDepth 100000 in
theorem am_mo_TextReader_takeNumber : am_mok (am_m 245) ∨ (am_m 245).2.2.2.2.1 = 13 := Or.inl ⟨am_gm (i := 509) rfl rfl, am_gm (i := 80) rfl rfl, (fun h => Bool.noConfusion h), (fun _ => am_gm (i := 508) rfl rfl), (fun _ _ => am_gm (i := 11) rfl rfl)⟩
set_option maxRecDepth 100000 in
theorem am_mo_TextReader_takeDigits : am_mok (am_m 246) ∨ (am_m 246).2.2.2.2.1 = 13 := Or.inl ⟨am_gm (i := 493) rfl rfl, am_gm (i := 80) rfl rfl, (fun h => Bool.noConfusion h), (fun _ => am_gm (i := 492) rfl rfl), (fun _ _ => am_gm (i := 7) rfl rfl)⟩
theorem am_mo_CartLaw_law : am_mok (am_m 247) ∨ (am_m 247).2.2.2.2.1 = 13 := Or.inr rfl
set_option maxRecDepth 100000 in
theorem am_mo_Integer_compare : am_mok (am_m 248) ∨ (am_m 248).2.2.2.2.1 = 13 := Or.inl ⟨am_gm (i := 637) rfl rfl, am_gm (i := 93) rfl rfl, (fun _ => am_gm (i := 636) rfl rfl), (fun h => Bool.noConfusion h), (fun h => Bool.noConfusion h)⟩
theorem am_mo_all : ∀ y, y < 249 → am_mok (am_m y) ∨ (am_m y).2.2.2.2.1 = 13 := fun y h => match y, h with
  | 0, _ => am_mo_Cart_init
  | 1, _ => am_mo_Cart_feed
  | 2, _ => am_mo_Cart_mark
  | 3, _ => am_mo_Cart_withinText
  | 4, _ => am_mo_Cart_fault
  | 5, _ => am_mo_Cart_count
  | 6, _ => am_mo_Cart_part
  | 7, _ => am_mo_Cart_write
  | 8, _ => am_mo_Cart_out
  | 9, _ => am_mo_Cart_way
  | 10, _ => am_mo_Cart_sorts
  | 11, _ => am_mo_Cart_shelf
  | 12, _ => am_mo_Cart_book
  | 13, _ => am_mo_Cart_stand
  | 14, _ => am_mo_Cart_dummy
  | 15, _ => am_mo_Cart_off
  | 16, _ => am_mo_Cart_tell
  | 17, _ => am_mo_Cart_place
  | 18, _ => am_mo_Cart_room
  | 19, _ => am_mo_Cart_run
  | 20, _ => am_mo_Cart_seen
  | 21, _ => am_mo_Cart_read
  | 22, _ => am_mo_Cart_order
  | 23, _ => am_mo_Cart_fewest
  | 24, _ => am_mo_Cart_move
  | 25, _ => am_mo_Cart_where
  | 26, _ => am_mo_Cart_isInOrder
  | 27, _ => am_mo_Cart_between
  | 28, _ => am_mo_Cart_done
  | 29, _ => am_mo_Cart_list
  | 30, _ => am_mo_Cart_forget
  | 31, _ => am_mo_Cart_listed
  | 32, _ => am_mo_Cart_found
  | 33, _ => am_mo_Cart_check
  | 34, _ => am_mo_Cart_grow
  | 35, _ => am_mo_Cart_full
  | 36, _ => am_mo_Cart_firstFullYear
  | 37, _ => am_mo_Cart_shift
  | 38, _ => am_mo_Cart_isFloor
  | 39, _ => am_mo_Cart_plan
  | 40, _ => am_mo_Cart_lift
  | 41, _ => am_mo_Cart_image
  | 42, _ => am_mo_Cart_again
  | 43, _ => am_mo_Model_init
  | 44, _ => am_mo_Model_isIn
  | 45, _ => am_mo_Model_isMark
  | 46, _ => am_mo_Model_isShelf
  | 47, _ => am_mo_Model_isBook
  | 48, _ => am_mo_Model_feed
  | 49, _ => am_mo_Model_here
  | 50, _ => am_mo_Model_isDigit
  | 51, _ => am_mo_Model_isLetter
  | 52, _ => am_mo_Model_begins
  | 53, _ => am_mo_Model_number
  | 54, _ => am_mo_Model_isValue
  | 55, _ => am_mo_Model_fraction
  | 56, _ => am_mo_Model_letters
  | 57, _ => am_mo_Model_whole
  | 58, _ => am_mo_Model_year
  | 59, _ => am_mo_Model_counted
  | 60, _ => am_mo_Model_pointed
  | 61, _ => am_mo_Model_nextPart
  | 62, _ => am_mo_Model_isText
  | 63, _ => am_mo_Model_isMade
  | 64, _ => am_mo_Model_mark
  | 65, _ => am_mo_Model_fault
  | 66, _ => am_mo_Model_count
  | 67, _ => am_mo_Model_partsOf
  | 68, _ => am_mo_Model_partOf
  | 69, _ => am_mo_Model_part
  | 70, _ => am_mo_Model_ink
  | 71, _ => am_mo_Model_inkNumber
  | 72, _ => am_mo_Model_inkLetters
  | 73, _ => am_mo_Model_inkPart
  | 74, _ => am_mo_Model_write
  | 75, _ => am_mo_Model_out
  | 76, _ => am_mo_Model_way
  | 77, _ => am_mo_Model_sign
  | 78, _ => am_mo_Model_filled
  | 79, _ => am_mo_Model_lettersIn
  | 80, _ => am_mo_Model_held
  | 81, _ => am_mo_Model_compare
  | 82, _ => am_mo_Model_compared
  | 83, _ => am_mo_Model_sorts
  | 84, _ => am_mo_Model_shelf
  | 85, _ => am_mo_Model_volumeOf
  | 86, _ => am_mo_Model_book
  | 87, _ => am_mo_Model_of
  | 88, _ => am_mo_Model_placeOf
  | 89, _ => am_mo_Model_leaves
  | 90, _ => am_mo_Model_comes
  | 91, _ => am_mo_Model_isHigh
  | 92, _ => am_mo_Model_stand
  | 93, _ => am_mo_Model_dummy
  | 94, _ => am_mo_Model_off
  | 95, _ => am_mo_Model_tell
  | 96, _ => am_mo_Model_place
  | 97, _ => am_mo_Model_wide
  | 98, _ => am_mo_Model_markOf
  | 99, _ => am_mo_Model_plainRoom
  | 100, _ => am_mo_Model_growing
  | 101, _ => am_mo_Model_roomIn
  | 102, _ => am_mo_Model_room
  | 103, _ => am_mo_Model_run
  | 104, _ => am_mo_Model_seenAt
  | 105, _ => am_mo_Model_many
  | 106, _ => am_mo_Model_seen
  | 107, _ => am_mo_Model_read
  | 108, _ => am_mo_Model_rights
  | 109, _ => am_mo_Model_order
  | 110, _ => am_mo_Model_fewest
  | 111, _ => am_mo_Model_move
  | 112, _ => am_mo_Model_where
  | 113, _ => am_mo_Model_between
  | 114, _ => am_mo_Model_often
  | 115, _ => am_mo_Model_done
  | 116, _ => am_mo_Model_list
  | 117, _ => am_mo_Model_forget
  | 118, _ => am_mo_Model_listed
  | 119, _ => am_mo_Model_found
  | 120, _ => am_mo_Model_check
  | 121, _ => am_mo_Model_grow
  | 122, _ => am_mo_Model_full
  | 123, _ => am_mo_Model_isOneWork
  | 124, _ => am_mo_Model_gathers
  | 125, _ => am_mo_Model_partings
  | 126, _ => am_mo_Model_tries
  | 127, _ => am_mo_Model_shift
  | 128, _ => am_mo_Model_plan
  | 129, _ => am_mo_Model_lift
  | 130, _ => am_mo_Model_image
  | 131, _ => am_mo_Model_again
  | 132, _ => am_mo_ByteRow_init
  | 133, _ => am_mo_ByteRow_add
  | 134, _ => am_mo_ByteRow_addNumber
  | 135, _ => am_mo_ByteRow_addDigits
  | 136, _ => am_mo_ByteRow_byteAt
  | 137, _ => am_mo_Catalogue_init
  | 138, _ => am_mo_Catalogue_isMark
  | 139, _ => am_mo_Catalogue_shelfOf
  | 140, _ => am_mo_Catalogue_enter
  | 141, _ => am_mo_Catalogue_strike
  | 142, _ => am_mo_Catalogue_isRead
  | 143, _ => am_mo_Catalogue_timesRead
  | 144, _ => am_mo_Catalogue_isGone
  | 145, _ => am_mo_Catalogue_countGone
  | 146, _ => am_mo_Catalogue_keepReading
  | 147, _ => am_mo_Catalogue_traceMark
  | 148, _ => am_mo_Catalogue_isSuch
  | 149, _ => am_mo_Catalogue_become
  | 150, _ => am_mo_Growths_init
  | 151, _ => am_mo_Growths_make
  | 152, _ => am_mo_Growths_countBooks
  | 153, _ => am_mo_Growths_isOf
  | 154, _ => am_mo_Growths_lossOf
  | 155, _ => am_mo_Growths_become
  | 156, _ => am_mo_Marks_init
  | 157, _ => am_mo_Marks_has
  | 158, _ => am_mo_Marks_lengthOf
  | 159, _ => am_mo_Marks_partOf
  | 160, _ => am_mo_Marks_numberOf
  | 161, _ => am_mo_Marks_beginsWith
  | 162, _ => am_mo_Marks_make
  | 163, _ => am_mo_Marks_compare
  | 164, _ => am_mo_Marks_volumeOf
  | 165, _ => am_mo_Marks_areOfOneWork
  | 166, _ => am_mo_Marks_lengthOfWork
  | 167, _ => am_mo_Marks_spell
  | 168, _ => am_mo_Marks_become
  | 169, _ => am_mo_Part_of
  | 170, _ => am_mo_Part_kindOf
  | 171, _ => am_mo_Part_valueOf
  | 172, _ => am_mo_Part_digitsOf
  | 173, _ => am_mo_Part_placesOf
  | 174, _ => am_mo_Part_compare
  | 175, _ => am_mo_Part_wordKey
  | 176, _ => am_mo_Part_digitKey
  | 177, _ => am_mo_Part_spell
  | 178, _ => am_mo_Part_spellLetters
  | 179, _ => am_mo_Part_spellDigits
  | 180, _ => am_mo_Part_spellNumber
  | 181, _ => am_mo_Part_lengthOfNumber
  | 182, _ => am_mo_Reading_init
  | 183, _ => am_mo_Reading_isThere
  | 184, _ => am_mo_Reading_begin
  | 185, _ => am_mo_Reading_end
  | 186, _ => am_mo_Reading_add
  | 187, _ => am_mo_Reading_markAt
  | 188, _ => am_mo_Reading_shiftOne
  | 189, _ => am_mo_Reading_become
  | 190, _ => am_mo_Sequence_init
  | 191, _ => am_mo_Sequence_study
  | 192, _ => am_mo_Sequence_longestFrom
  | 193, _ => am_mo_Sequence_follows
  | 194, _ => am_mo_Sequence_chooseRights
  | 195, _ => am_mo_Sequence_placeOf
  | 196, _ => am_mo_Sequence_newPlaceOf
  | 197, _ => am_mo_Shifter_init
  | 198, _ => am_mo_Shifter_makePlan
  | 199, _ => am_mo_Shifter_gather
  | 200, _ => am_mo_Shifter_findEnds
  | 201, _ => am_mo_Shifter_markEnds
  | 202, _ => am_mo_Shifter_fill
  | 203, _ => am_mo_Shifter_keepPlan
  | 204, _ => am_mo_Shifter_dropPlan
  | 205, _ => am_mo_Shifter_endOf
  | 206, _ => am_mo_Shifter_carryOut
  | 207, _ => am_mo_Shifter_isAsThen
  | 208, _ => am_mo_Stacks_init
  | 209, _ => am_mo_Stacks_hasShelf
  | 210, _ => am_mo_Stacks_hasBook
  | 211, _ => am_mo_Stacks_isHigh
  | 212, _ => am_mo_Stacks_widthOf
  | 213, _ => am_mo_Stacks_hasPlace
  | 214, _ => am_mo_Stacks_thingAt
  | 215, _ => am_mo_Stacks_isFree
  | 216, _ => am_mo_Stacks_setThing
  | 217, _ => am_mo_Stacks_bookOf
  | 218, _ => am_mo_Stacks_markOf
  | 219, _ => am_mo_Stacks_widthTaken
  | 220, _ => am_mo_Stacks_makeShelf
  | 221, _ => am_mo_Stacks_clearShelf
  | 222, _ => am_mo_Stacks_makeBook
  | 223, _ => am_mo_Stacks_notePlace
  | 224, _ => am_mo_Stacks_takeThing
  | 225, _ => am_mo_Stacks_putThing
  | 226, _ => am_mo_Stacks_roomNow
  | 227, _ => am_mo_Stacks_become
  | 228, _ => am_mo_State_init
  | 229, _ => am_mo_State_compare
  | 230, _ => am_mo_State_become
  | 231, _ => am_mo_TextReader_init
  | 232, _ => am_mo_TextReader_faultOf
  | 233, _ => am_mo_TextReader_next
  | 234, _ => am_mo_TextReader_isLetter
  | 235, _ => am_mo_TextReader_isDigit
  | 236, _ => am_mo_TextReader_isJoined
  | 237, _ => am_mo_TextReader_takeBlank
  | 238, _ => am_mo_TextReader_takePart
  | 239, _ => am_mo_TextReader_keep
  | 240, _ => am_mo_TextReader_takeLetters
  | 241, _ => am_mo_TextReader_takeWhole
  | 242, _ => am_mo_TextReader_takePoint
  | 243, _ => am_mo_TextReader_takeFraction
  | 244, _ => am_mo_TextReader_takeYear
  | 245, _ => am_mo_TextReader_takeNumber
  | 246, _ => am_mo_TextReader_takeDigits
  | 247, _ => am_mo_CartLaw_law
  | 248, _ => am_mo_Integer_compare
  | n + 249, h => absurd h (by omega)
def am_cok (q : vw_C) : Prop := (∀ w ∈ u_ws q.1 q.2.1 q.2.2, w ∈ am_good) ∧ Cond.instantiable q.1 q.2.2 ∈ am_good ∧ Cond.initialized q.1 ∈ am_good ∧ (∀ a, a < q.2.2 → ∀ b, b < q.2.2 → a ≠ b → (q.2.1 a).2.1 ≠ (q.2.1 b).2.1)
theorem am_gl {ws : List Cond} (ps : List Nat) (hp : ws = ps.filterMap (fun i => lw_tbl[i]?)) (h : ws.all goodWord = true) : ∀ w ∈ ws, w ∈ am_good := by
  intro w hw
  have h1 := List.all_eq_true.mp h w hw
  rw [hp] at hw
  obtain ⟨i, -, hi⟩ := List.mem_filterMap.mp hw
  exact am_gm hi h1
set_option maxRecDepth 100000 in
theorem am_co_0 : am_cok (am_vc 0) := ⟨am_gl [122, 124] rfl rfl, am_gm (i := 110) rfl rfl, am_gm (i := 81) rfl rfl, nmX0⟩
set_option maxRecDepth 100000 in
theorem am_co_1 : am_cok (am_vc 1) := ⟨am_gl [271, 273, 275, 277, 279] rfl rfl, am_gm (i := 260) rfl rfl, am_gm (i := 87) rfl rfl, nmX1⟩
set_option maxRecDepth 100000 in
theorem am_co_2 : am_cok (am_vc 2) := ⟨am_gl [295, 297, 299, 301, 303, 305] rfl rfl, am_gm (i := 283) rfl rfl, am_gm (i := 88) rfl rfl, nmX2⟩
set_option maxRecDepth 100000 in
theorem am_co_3 : am_cok (am_vc 3) := ⟨am_gl [172, 174, 176] rfl rfl, am_gm (i := 163) rfl rfl, am_gm (i := 84) rfl rfl, nmX3⟩
set_option maxRecDepth 100000 in
theorem am_co_4 : am_cok (am_vc 4) := ⟨am_gl [252, 254, 256] rfl rfl, am_gm (i := 239) rfl rfl, am_gm (i := 86) rfl rfl, nmX5⟩
set_option maxRecDepth 100000 in
theorem am_co_5 : am_cok (am_vc 5) := ⟨am_gl [350, 352, 354, 356] rfl rfl, am_gm (i := 340) rfl rfl, am_gm (i := 89) rfl rfl, nmX6⟩
set_option maxRecDepth 100000 in
theorem am_co_6 : am_cok (am_vc 6) := ⟨am_gl [380, 382, 384, 386, 388, 390, 392, 394, 396, 398, 400, 402, 404, 406, 408] rfl rfl, am_gm (i := 360) rfl rfl, am_gm (i := 90) rfl rfl, nmX7⟩
set_option maxRecDepth 100000 in
theorem am_co_7 : am_cok (am_vc 7) := ⟨am_gl [211, 213, 215, 217, 219, 221, 223, 225, 227, 229, 231, 233, 235] rfl rfl, am_gm (i := 180) rfl rfl, am_gm (i := 85) rfl rfl, nmX8⟩
set_option maxRecDepth 100000 in
theorem am_co_8 : am_cok (am_vc 8) := ⟨am_gl [325, 327, 329, 331, 333, 335] rfl rfl, am_gm (i := 157) rfl rfl, am_gm (i := 83) rfl rfl, nmX9⟩
set_option maxRecDepth 100000 in
theorem am_co_9 : am_cok (am_vc 9) := ⟨am_gl [138, 140, 142, 144, 146, 148, 150] rfl rfl, am_gm (i := 104) rfl rfl, am_gm (i := 80) rfl rfl, nmX10⟩
set_option maxRecDepth 100000 in
theorem am_co_10 : am_cok (am_vc 10) := ⟨am_gl [418, 420, 422, 424, 426, 428, 430] rfl rfl, am_gm (i := 96) rfl rfl, am_gm (i := 79) rfl rfl, nmX11⟩
set_option maxRecDepth 100000 in
theorem am_co_11 : am_cok (am_vc 11) := ⟨am_gl [1094, 1096, 1098, 1100, 1102, 1104, 1106, 1108, 1110, 1112, 1114, 1116, 1118, 1120, 1122, 1124, 1126, 1128, 1130, 1132, 1134, 1136, 1138, 1140, 1142, 1144, 1146, 1148, 1150] rfl rfl, am_gm (i := 1059) rfl rfl, am_gm (i := 91) rfl rfl, nmX12⟩
theorem am_co_all : ∀ c, c < 12 → am_cok (am_vc c) := fun c h => match c, h with
  | 0, _ => am_co_0
  | 1, _ => am_co_1
  | 2, _ => am_co_2
  | 3, _ => am_co_3
  | 4, _ => am_co_4
  | 5, _ => am_co_5
  | 6, _ => am_co_6
  | 7, _ => am_co_7
  | 8, _ => am_co_8
  | 9, _ => am_co_9
  | 10, _ => am_co_10
  | 11, _ => am_co_11
  | n + 12, h => absurd h (by omega)
def am_tyc (c : Nat) : Nat → FieldType := match c with
  | 0 => tyX0
  | 1 => tyX1
  | 2 => tyX2
  | 3 => tyX3
  | 4 => tyX5
  | 5 => tyX6
  | 6 => tyX7
  | 7 => tyX8
  | 8 => tyX9
  | 9 => tyX10
  | 10 => tyX11
  | _ => tyX12
theorem am_ty_all : ∀ c, c < 12 → ∀ k, k < (am_vc c).2.2 → parseFieldDescriptor (am_T c k).2.2.1 = some (am_tyc c k) := fun c h => match c, h with
  | 0, _ => tyX0_ok
  | 1, _ => tyX1_ok
  | 2, _ => tyX2_ok
  | 3, _ => tyX3_ok
  | 4, _ => tyX5_ok
  | 5, _ => tyX6_ok
  | 6, _ => tyX7_ok
  | 7, _ => tyX8_ok
  | 8, _ => tyX9_ok
  | 9, _ => tyX10_ok
  | 10, _ => tyX11_ok
  | 11, _ => tyX12_ok
  | n + 12, h => absurd h (by omega)
set_option maxRecDepth 100000 in
theorem am_objw : Cond.instanceMethod objectInit ∈ am_good ∧ Cond.code objectInit ⟨#[0xb1]⟩ 1 none ∈ am_good := ⟨am_gm (i := 101) rfl rfl, am_gm (i := 102) rfl rfl⟩
set_option maxRecDepth 100000 in
theorem am_acw : Cond.native arraycopyName ∈ am_good ∧ Cond.static arraycopyName ∈ am_good ∧ Cond.initialized "java/lang/System" ∈ am_good := ⟨am_gm (i := 841) rfl rfl, am_gm (i := 840) rfl rfl, am_gm (i := 94) rfl rfl⟩
set_option maxRecDepth 100000 in
theorem am_arw : Cond.arrayClass .int ∈ am_good ∧ Cond.arrayClass .long ∈ am_good ∧ Cond.arrayClass .byte ∈ am_good ∧ Cond.arrayClass .boolean ∈ am_good := ⟨am_gm (i := 127) rfl rfl, am_gm (i := 153) rfl rfl, am_gm (i := 1154) rfl rfl, am_gm (i := 1153) rfl rfl⟩
set_option maxRecDepth 100000 in
theorem am_aow : Cond.arrayOver (.object RX9) ∈ lw_tbl := List.mem_of_getElem? (i := 338) rfl
set_option maxRecDepth 100000 in
theorem am_lsw_w : Cond.laysStatic RX11 "TENS" "[I" ∈ lw_tbl ∧ Cond.initialized RX11 ∈ lw_tbl := ⟨List.mem_of_getElem? (i := 594) rfl, List.mem_of_getElem? (i := 79) rfl⟩
