/-! What the program's entries link, and the tables' words of it. -/
def xgw (w : Cond) : Bool := goodWord w || ((match w with | .fieldLinkNest .. => true | .methodLinkNest .. => true | _ => false) || (w.faceAtom && w.onTables))
theorem xgw_ok {w : Cond} {s U : State} {a a' : Array Value} (hg : xgw w = true) (hW : s.WarmedH U.vm) (h : w.before a s = true) : w.before a' U = true := by
  unfold xgw at hg
  rw [Bool.or_eq_true, Bool.or_eq_true] at hg
  rcases hg with hg | hg | hg
  · exact word_at hW (good_of_word hg) h
  · split at hg
    · exact va_Nw.use rfl (va_Nw.warmF hW (va_Nw.of rfl h))
    · exact va_Nw.use rfl (va_Nw.warmM hW (va_Nw.of rfl h))
    · cases hg
  · rw [Bool.and_eq_true] at hg
    exact va_tabs hg.2 (rfl : (s.setVm U.vm).vm = U.vm) (Cond.faceAtom_setVm hW.alike w hg.1 h)
def xwc (L : List Cond) (hs : List Nat) : Bool := Nat.beq L.length hs.length && (L.zip hs).all (fun q => decide (lw_tbl[q.2]? = some q.1) && xgw q.1)
theorem xwc_ok {L : List Cond} {hs : List Nat} (h : xwc L hs = true) : ∀ w ∈ L, w ∈ lw_tbl ∧ xgw w = true := by
  unfold xwc at h
  rw [Bool.and_eq_true] at h
  have hl := Nat.eq_of_beq_eq_true h.1
  intro w hw
  obtain ⟨i, hi, rfl⟩ := List.mem_iff_getElem.mp hw
  have h1 := List.all_eq_true.mp h.2 (L[i], hs[i]'(by omega)) (List.mem_iff_getElem.mpr ⟨i, by simp; omega, by simp⟩)
  rw [Bool.and_eq_true] at h1
  exact ⟨List.mem_of_getElem? (of_decide_eq_true h1.1), h1.2⟩
def xGW (s : State) : Prop := ∀ w ∈ lw_tbl, xgw w = true → ∀ a, w.before a s = true
theorem xGW.at {s : State} {L : List Cond} (h : xGW s) (hL : ∀ w ∈ L, w ∈ lw_tbl ∧ xgw w = true) {w : Cond} (hw : w ∈ L) (a : Array Value) : w.before a s = true := h w (hL w hw).1 (hL w hw).2 a
theorem xGW.move {s U : State} (h : xGW s) (hW : s.WarmedH U.vm) : xGW U := fun w hw hg _ => xgw_ok hg hW (h w hw hg #[])
def xcT (a : Nat) : vw_C := xcl.getD a ("", xT0, 0)
def xflW (q : Nat × Nat × Nat × Nat × Bool) : Cond := bif q.2.2.2.2 then .fieldLinkNest (xcn q.1) q.2.1 ((xcT q.2.2.1).2.1 q.2.2.2.1).1 ((xcT q.2.2.1).2.1 q.2.2.2.1).2.1 ((xcT q.2.2.1).2.1 q.2.2.2.1).2.2.1 "RoverLocator" else .fieldLink (xcn q.1) q.2.1 ((xcT q.2.2.1).2.1 q.2.2.2.1).1 ((xcT q.2.2.1).2.1 q.2.2.2.1).2.1 ((xcT q.2.2.1).2.1 q.2.2.2.1).2.2.1
def xfl_0 : List (Nat × Nat × Nat × Nat × Bool) := [(0, 11, 0, 0, false), (0, 17, 0, 1, false), (0, 21, 0, 2, false), (1, 9, 1, 0, false), (1, 15, 1, 1, false), (1, 18, 1, 2, false), (1, 44, 6, 0, true), (1, 50, 6, 3, true), (1, 57, 6, 1, true), (1, 61, 7, 0, true), (1, 69, 7, 2, true), (1, 79, 7, 1, true), (1, 90, 7, 3, true), (2, 9, 2, 0, false), (2, 15, 2, 1, false), (2, 18, 2, 2, false), (2, 22, 2, 3, false), (2, 25, 2, 4, false), (3, 9, 3, 0, false), (3, 15, 3, 1, false), (3, 33, 2, 1, true), (3, 36, 2, 0, true), (4, 9, 4, 0, false), (4, 15, 4, 1, false), (4, 18, 6, 0, true), (4, 30, 6, 3, true), (5, 9, 5, 0, false), (5, 15, 5, 1, false), (5, 18, 5, 2, false), (5, 21, 5, 3, false), (5, 25, 6, 0, true), (5, 37, 6, 2, true), (5, 67, 8, 0, true), (5, 74, 8, 3, true), (6, 12, 6, 0, false), (6, 21, 6, 1, false), (6, 28, 6, 2, false), (6, 32, 6, 3, false), (6, 36, 6, 4, false), (6, 40, 6, 5, false)]
def xfl_1 : List (Nat × Nat × Nat × Nat × Bool) := [(6, 43, 6, 6, false), (6, 46, 6, 7, false), (7, 9, 7, 0, false), (7, 15, 7, 1, false), (7, 18, 7, 2, false), (7, 22, 7, 3, false), (8, 9, 8, 0, false), (8, 15, 8, 1, false), (8, 18, 8, 2, false), (8, 21, 8, 3, false), (8, 25, 8, 4, false), (8, 38, 7, 0, true), (8, 48, 7, 1, true), (9, 9, 9, 0, false), (9, 38, 2, 3, true), (10, 10, 10, 0, false), (10, 16, 10, 1, false), (10, 19, 10, 2, false), (10, 26, 10, 3, false), (10, 33, 10, 4, false), (10, 37, 10, 5, false), (10, 44, 10, 6, false), (10, 51, 10, 7, false), (10, 58, 10, 8, false), (10, 65, 10, 9, false), (10, 69, 6, 0, true), (10, 73, 6, 3, true), (10, 92, 3, 1, true), (10, 127, 6, 4, true), (10, 157, 2, 2, true), (10, 162, 2, 3, true), (10, 170, 6, 1, true), (10, 174, 7, 0, true), (10, 190, 7, 1, true), (10, 193, 7, 2, true), (10, 196, 7, 3, true), (10, 211, 2, 1, true), (10, 214, 2, 0, true), (10, 224, 6, 2, true), (10, 251, 4, 0, true)]
def xfl_2 : List (Nat × Nat × Nat × Nat × Bool) := [(10, 257, 4, 1, true), (10, 278, 8, 1, true), (10, 281, 8, 2, true), (10, 291, 8, 3, true), (10, 300, 5, 0, true), (10, 310, 5, 3, true), (10, 316, 9, 0, true), (10, 328, 6, 5, true), (10, 353, 6, 6, true), (10, 356, 6, 7, true), (10, 359, 0, 2, true), (11, 7, 11, 1, false), (11, 13, 11, 2, false), (11, 16, 11, 3, false), (11, 19, 11, 4, false), (11, 22, 11, 5, false), (11, 25, 11, 6, false), (11, 29, 11, 7, false), (11, 32, 11, 11, false), (11, 35, 11, 14, false), (11, 39, 11, 15, false), (11, 42, 11, 16, false), (11, 45, 11, 17, false), (11, 48, 11, 18, false), (11, 51, 11, 21, false), (11, 54, 11, 22, false), (11, 57, 11, 24, false), (11, 60, 11, 25, false), (11, 63, 11, 30, false), (11, 66, 11, 31, false), (11, 69, 11, 32, false), (11, 72, 11, 33, false), (11, 75, 11, 34, false), (11, 78, 11, 35, false), (11, 81, 11, 36, false), (11, 84, 11, 37, false), (11, 87, 11, 38, false), (11, 93, 11, 0, false), (11, 141, 11, 8, false), (11, 146, 11, 19, false)]
def xfl_3 : List (Nat × Nat × Nat × Nat × Bool) := [(11, 149, 11, 20, false), (11, 162, 11, 9, false), (11, 165, 11, 23, false), (11, 169, 11, 12, false), (11, 183, 11, 26, false), (11, 186, 11, 27, false), (11, 189, 11, 28, false), (11, 192, 11, 29, false), (11, 208, 11, 10, false), (11, 282, 11, 13, false), (11, 291, 11, 39, false), (11, 294, 11, 42, false), (11, 297, 11, 40, false), (11, 312, 11, 41, false)]
def xfl : List (Nat × Nat × Nat × Nat × Bool) := xfl_0 ++ xfl_1 ++ xfl_2 ++ xfl_3
set_option maxRecDepth 100000 in
theorem xfl_w0 : ∀ w ∈ xfl_0.map xflW, w ∈ lw_tbl ∧ xgw w = true := xwc_ok (hs := [247, 248, 249, 279, 280, 281, 202, 212, 204, 149, 157, 153, 160, 118, 121, 124, 126, 129, 264, 265, 122, 119, 296, 298, 200, 211, 311, 313, 314, 315, 201, 207, 178, 184, 198, 203, 206, 209, 213, 215]) (by decide +kernel)
set_option maxRecDepth 100000 in
theorem xfl_w1 : ∀ w ∈ xfl_1.map xflW, w ∈ lw_tbl ∧ xgw w = true := xwc_ok (hs := [217, 219, 148, 152, 156, 159, 177, 179, 181, 183, 186, 150, 154, 332, 127, 357, 358, 359, 360, 361, 362, 363, 364, 365, 366, 199, 210, 266, 214, 125, 128, 205, 151, 155, 158, 161, 123, 120, 208, 297]) (by decide +kernel)
set_option maxRecDepth 100000 in
theorem xfl_w2 : ∀ w ∈ xfl_2.map xflW, w ∈ lw_tbl ∧ xgw w = true := xwc_ok (hs := [299, 180, 182, 185, 312, 316, 333, 216, 218, 220, 250, 1156, 1157, 1158, 1159, 1160, 1161, 1162, 1166, 1169, 1170, 1171, 1172, 1173, 1176, 1177, 1179, 1180, 1185, 1186, 1187, 1188, 1189, 1190, 1191, 1192, 1193, 1155, 1163, 1174]) (by decide +kernel)
set_option maxRecDepth 100000 in
theorem xfl_w3 : ∀ w ∈ xfl_3.map xflW, w ∈ lw_tbl ∧ xgw w = true := xwc_ok (hs := [1175, 1164, 1178, 1167, 1181, 1182, 1183, 1184, 1165, 1168, 1194, 1197, 1195, 1196]) (by decide +kernel)
theorem xfl_w : ∀ q ∈ xfl, xflW q ∈ lw_tbl ∧ xgw (xflW q) = true := by
  intro q hq
  simp only [xfl, List.mem_append] at hq
  rcases hq with ((hq | hq) | hq) | hq
  · exact xfl_w0 _ (List.mem_map.mpr ⟨q, hq, rfl⟩)
  · exact xfl_w1 _ (List.mem_map.mpr ⟨q, hq, rfl⟩)
  · exact xfl_w2 _ (List.mem_map.mpr ⟨q, hq, rfl⟩)
  · exact xfl_w3 _ (List.mem_map.mpr ⟨q, hq, rfl⟩)
set_option maxRecDepth 100000 in
theorem xfl_b : ∀ q ∈ xfl, q.2.2.1 < 12 ∧ q.2.2.2.1 < (xcT q.2.2.1).2.2 := by decide +kernel
set_option maxRecDepth 100000 in
theorem xcl_w0 : ∀ w ∈ u_ws "RoverLocator$Changes" xT0 3, w ∈ lw_tbl ∧ xgw w = true := xwc_ok (hs := [251, 253, 255]) (by decide +kernel)
set_option maxRecDepth 100000 in
theorem xcl_w1 : ∀ w ∈ u_ws "RoverLocator$Filter" xT1 3, w ∈ lw_tbl ∧ xgw w = true := xwc_ok (hs := [282, 284, 286]) (by decide +kernel)
set_option maxRecDepth 100000 in
theorem xcl_w2 : ∀ w ∈ u_ws "RoverLocator$Grid" xT2 5, w ∈ lw_tbl ∧ xgw w = true := xwc_ok (hs := [130, 132, 134, 136, 138]) (by decide +kernel)
set_option maxRecDepth 100000 in
theorem xcl_w3 : ∀ w ∈ u_ws "RoverLocator$MapText" xT3 2, w ∈ lw_tbl ∧ xgw w = true := xwc_ok (hs := [267, 269]) (by decide +kernel)
set_option maxRecDepth 100000 in
theorem xcl_w4 : ∀ w ∈ u_ws "RoverLocator$Ranking" xT4 2, w ∈ lw_tbl ∧ xgw w = true := xwc_ok (hs := [300, 302]) (by decide +kernel)
set_option maxRecDepth 100000 in
theorem xcl_w5 : ∀ w ∈ u_ws "RoverLocator$Rows" xT5 4, w ∈ lw_tbl ∧ xgw w = true := xwc_ok (hs := [317, 319, 321, 323]) (by decide +kernel)
set_option maxRecDepth 100000 in
theorem xcl_w6 : ∀ w ∈ u_ws "RoverLocator$State" xT6 8, w ∈ lw_tbl ∧ xgw w = true := xwc_ok (hs := [221, 223, 225, 227, 229, 231, 233, 235]) (by decide +kernel)
set_option maxRecDepth 100000 in
theorem xcl_w7 : ∀ w ∈ u_ws "RoverLocator$Tables" xT7 4, w ∈ lw_tbl ∧ xgw w = true := xwc_ok (hs := [162, 164, 166, 168]) (by decide +kernel)
set_option maxRecDepth 100000 in
theorem xcl_w8 : ∀ w ∈ u_ws "RoverLocator$Trail" xT8 5, w ∈ lw_tbl ∧ xgw w = true := xwc_ok (hs := [187, 189, 191, 193, 195]) (by decide +kernel)
set_option maxRecDepth 100000 in
theorem xcl_w9 : ∀ w ∈ u_ws "RoverLocator$Ways" xT9 1, w ∈ lw_tbl ∧ xgw w = true := xwc_ok (hs := [334]) (by decide +kernel)
set_option maxRecDepth 100000 in
theorem xcl_w10 : ∀ w ∈ u_ws "RoverLocator" xT10 10, w ∈ lw_tbl ∧ xgw w = true := xwc_ok (hs := [367, 369, 371, 373, 375, 377, 379, 381, 383, 385]) (by decide +kernel)
set_option maxRecDepth 100000 in
theorem xcl_w11 : ∀ w ∈ u_ws "RoverLocatorModel" xT11 43, w ∈ lw_tbl ∧ xgw w = true := xwc_ok (hs := [1198, 1200, 1202, 1204, 1206, 1208, 1210, 1212, 1214, 1216, 1218, 1220, 1222, 1224, 1226, 1228, 1230, 1232, 1234, 1236, 1238, 1240, 1242, 1244, 1246, 1248, 1250, 1252, 1254, 1256, 1258, 1260, 1262, 1264, 1266, 1268, 1270, 1272, 1274, 1276, 1278, 1280, 1282]) (by decide +kernel)
theorem xcl_in (a : Nat) (h : a < 12) : ∀ w ∈ u_ws (xcT a).1 (xcT a).2.1 (xcT a).2.2, w ∈ lw_tbl ∧ xgw w = true := by
  match a, h with
  | 0, _ => exact xcl_w0
  | 1, _ => exact xcl_w1
  | 2, _ => exact xcl_w2
  | 3, _ => exact xcl_w3
  | 4, _ => exact xcl_w4
  | 5, _ => exact xcl_w5
  | 6, _ => exact xcl_w6
  | 7, _ => exact xcl_w7
  | 8, _ => exact xcl_w8
  | 9, _ => exact xcl_w9
  | 10, _ => exact xcl_w10
  | 11, _ => exact xcl_w11
  | n + 12, h => omega
set_option maxRecDepth 100000 in
theorem xcl_ty : ∀ a, a < 12 → ∀ k, k < (xcT a).2.2 → parseFieldDescriptor ((xcT a).2.1 k).2.2.1 = some (xfty a k) := by decide +kernel
set_option maxRecDepth 100000 in
theorem xcl_nm : ∀ a, a < 12 → ∀ i, i < (xcT a).2.2 → ∀ j, j < (xcT a).2.2 → i ≠ j → ((xcT a).2.1 i).2.1 ≠ ((xcT a).2.1 j).2.1 := by decide +kernel
theorem xcl_at : ∀ a, a < 12 → xcl[a]? = some ((xcT a).1, (xcT a).2.1, (xcT a).2.2) := by
  intro a h
  match a, h with
  | 0, _ => rfl
  | 1, _ => rfl
  | 2, _ => rfl
  | 3, _ => rfl
  | 4, _ => rfl
  | 5, _ => rfl
  | 6, _ => rfl
  | 7, _ => rfl
  | 8, _ => rfl
  | 9, _ => rfl
  | 10, _ => rfl
  | 11, _ => rfl
  | n + 12, h => omega
set_option maxRecDepth 100000 in
theorem xcl_df : ∀ a, a < 12 → (xdef a).length = (xcT a).2.2 ∧ ∀ j, j < (xcT a).2.2 → (xdef a)[j]? = some (defaultValue (xfty a j)) := by decide +kernel
def xcw (k : Nat) : Cond := match xHh k with | [] => .code (xY k) (xB k) (xNl k) (xRet k) | hh => .codeWith (xY k) (xB k) (xNl k) (xRet k) (hh.map (fun h => (h.1, h.2.1, h.2.2.1, h.2.2.2.1)))
def xall_0 : List (Nat) := [0, 1, 2, 3, 4, 5, 6, 7, 8, 9, 10, 11, 12, 13, 14, 15, 16, 17, 18, 19, 20, 21, 22, 23, 24, 25, 26, 27, 28, 29, 30, 31]
def xall_1 : List (Nat) := [32, 33, 34, 35, 36, 37, 38, 39, 40, 41, 42, 43, 44, 45, 46, 47, 48, 49, 50, 51, 52, 53, 54, 55, 56, 57, 58, 59, 60, 61, 62, 63]
def xall_2 : List (Nat) := [64, 65, 66, 67, 68, 69, 70, 71, 72, 73, 74, 75, 76, 77, 78, 79, 80, 81, 82, 83, 84, 85, 86, 87, 88, 89, 90, 91, 92, 93, 94, 95]
def xall_3 : List (Nat) := [96, 97, 98, 99, 100, 101, 102, 103, 104, 105, 106, 107, 108, 109, 110, 111, 112, 113, 114, 115, 116, 117, 118, 119, 120, 121, 122, 123, 124, 125, 126, 127]
def xall_4 : List (Nat) := [128, 129, 130, 131, 132, 133, 134, 135, 136, 137, 138, 139, 140, 141, 142, 143, 144, 145, 146, 147, 148, 149, 150, 151, 152, 153, 154, 155, 156, 157, 158, 159]
def xall_5 : List (Nat) := [160, 161, 162, 163, 164, 165, 166, 167, 168, 169, 170, 171, 172, 173, 174, 175, 176, 177, 178, 179, 180, 181, 182, 183, 184, 185, 186, 187, 188, 189, 190, 191]
def xall_6 : List (Nat) := [192, 193, 194, 195, 196, 197, 198, 199, 200, 201, 202, 203, 204, 205, 206, 207, 208, 209, 210, 211, 212, 213, 214, 215, 216, 217, 218, 219, 220, 221, 222, 223]
def xall_7 : List (Nat) := [224, 225, 226, 227, 228, 229, 230, 231, 232, 233, 234, 235, 236, 237, 238, 239, 240, 241, 242, 243, 244, 245, 246, 247, 248, 249, 250, 251, 252, 253, 254, 255]
def xall : List (Nat) := xall_0 ++ xall_1 ++ xall_2 ++ xall_3 ++ xall_4 ++ xall_5 ++ xall_6 ++ xall_7
set_option maxRecDepth 100000 in
theorem xall_w0 : ∀ w ∈ xall_0.map xcw, w ∈ lw_tbl ∧ xgw w = true := xwc_ok (hs := [242, 399, 1109, 277, 340, 476, 480, 492, 499, 830, 472, 349, 355, 104, 407, 344, 670, 117, 503, 433, 654, 649, 109, 113, 488, 484, 765, 262, 531, 603, 623, 634]) (by decide +kernel)
set_option maxRecDepth 100000 in
theorem xall_w1 : ∀ w ∈ xall_1.map xcw, w ∈ lw_tbl ∧ xgw w = true := xwc_ok (hs := [637, 640, 645, 789, 294, 861, 309, 918, 926, 935, 960, 964, 967, 971, 983, 989, 98, 403, 454, 146, 414, 1062, 1078, 1082, 175, 419, 819, 429, 815, 841, 931, 940]) (by decide +kernel)
set_option maxRecDepth 100000 in
theorem xall_w2 : ∀ w ∈ xall_2.map xcw, w ∈ lw_tbl ∧ xgw w = true := xwc_ok (hs := [975, 330, 1011, 1018, 1022, 1036, 90, 528, 630, 391, 662, 697, 716, 724, 736, 747, 754, 761, 773, 785, 395, 798, 806, 826, 850, 857, 869, 438, 450, 467, 876, 886]) (by decide +kernel)
set_option maxRecDepth 100000 in
theorem xall_w3 : ∀ w ∈ xall_3.map xcw, w ∈ lw_tbl ∧ xgw w = true := xwc_ok (hs := [909, 948, 955, 996, 1003, 1031, 1043, 510, 1051, 1073, 1089, 514, 1096, 1104, 518, 1116, 425, 810, 836, 1066, 666, 708, 1007, 913, 703, 700, 776, 727, 739, 1054, 1058, 443]) (by decide +kernel)
set_option maxRecDepth 100000 in
theorem xall_w4 : ∀ w ∈ xall_4.map xcw, w ∈ lw_tbl ∧ xgw w = true := xwc_ok (hs := [462, 1122, 1288, 1299, 1350, 1295, 1135, 1346, 1139, 1392, 1357, 1334, 1330, 1385, 1400, 1396, 1147, 1143, 1131, 1127, 1424, 1446, 1434, 1154, 1430, 1454, 1420, 1442, 1450, 1292, 1310, 1307]) (by decide +kernel)
set_option maxRecDepth 100000 in
theorem xall_w5 : ∀ w ∈ xall_5.map xcw, w ∈ lw_tbl ∧ xgw w = true := xwc_ok (hs := [1303, 1338, 1342, 1354, 1361, 1365, 1369, 1373, 1377, 1381, 1389, 1404, 1408, 1412, 1416, 1438, 1458, 1470, 1466, 1462, 1474, 1478, 1493, 1512, 1508, 1516, 1524, 1520, 1536, 1532, 1528, 1540]) (by decide +kernel)
set_option maxRecDepth 100000 in
theorem xall_w6 : ∀ w ∈ xall_6.map xcw, w ∈ lw_tbl ∧ xgw w = true := xwc_ok (hs := [1552, 1548, 1544, 1556, 1568, 1564, 1560, 1572, 1576, 1580, 1588, 1593, 1584, 1597, 1601, 1605, 1609, 1322, 1326, 1318, 1314, 1613, 1617, 1621, 1485, 1482, 1500, 1497, 458, 506, 923, 522]) (by decide +kernel)
set_option maxRecDepth 100000 in
theorem xall_w7 : ∀ w ∈ xall_7.map xcw, w ∈ lw_tbl ∧ xgw w = true := xwc_ok (hs := [626, 657, 693, 712, 720, 732, 743, 750, 757, 769, 781, 794, 802, 822, 846, 853, 865, 872, 881, 905, 944, 951, 992, 999, 1027, 1039, 1047, 1069, 1085, 1092, 1100, 1112]) (by decide +kernel)
theorem xall_w : ∀ q ∈ xall, xcw q ∈ lw_tbl ∧ xgw (xcw q) = true := by
  intro q hq
  simp only [xall, List.mem_append] at hq
  rcases hq with ((((((hq | hq) | hq) | hq) | hq) | hq) | hq) | hq
  · exact xall_w0 _ (List.mem_map.mpr ⟨q, hq, rfl⟩)
  · exact xall_w1 _ (List.mem_map.mpr ⟨q, hq, rfl⟩)
  · exact xall_w2 _ (List.mem_map.mpr ⟨q, hq, rfl⟩)
  · exact xall_w3 _ (List.mem_map.mpr ⟨q, hq, rfl⟩)
  · exact xall_w4 _ (List.mem_map.mpr ⟨q, hq, rfl⟩)
  · exact xall_w5 _ (List.mem_map.mpr ⟨q, hq, rfl⟩)
  · exact xall_w6 _ (List.mem_map.mpr ⟨q, hq, rfl⟩)
  · exact xall_w7 _ (List.mem_map.mpr ⟨q, hq, rfl⟩)
theorem xall_in : ∀ k, k < 256 → k ∈ xall := by decide +kernel
set_option maxRecDepth 100000 in
theorem xm_f1 : ∀ k, k < 257 → (xY k).cls = xcn (xK k) ∧ (xY k).cls ≠ "java/lang/invoke/MethodHandle" ∧ (xY k).cls ≠ "java/lang/invoke/VarHandle" := by decide +kernel
set_option maxRecDepth 100000 in
theorem xm_f2 : ∀ k, k < 257 → (parseMethodDescriptor (xY k).desc).map (fun d => d.parameters.length) = some (xNa k) := by decide +kernel
set_option maxRecDepth 100000 in
theorem xm_f3 : ∀ k, k < 256 → plainFor (xY k) = true := by decide +kernel
def xini_0 : List (Nat) := [0, 1, 2, 3, 4, 5, 6, 7, 8, 9, 10, 11, 12, 13, 14, 15]
def xini : List (Nat) := xini_0
set_option maxRecDepth 100000 in
theorem xini_w0 : ∀ w ∈ xini_0.map (fun c => Cond.initialized (xcn c)), w ∈ lw_tbl ∧ xgw w = true := xwc_ok (hs := [67, 69, 64, 68, 70, 71, 63, 65, 66, 72, 62, 73, 61, 83, 84, 81]) (by decide +kernel)
theorem xini_w : ∀ q ∈ xini, (fun c => Cond.initialized (xcn c)) q ∈ lw_tbl ∧ xgw ((fun c => Cond.initialized (xcn c)) q) = true := by
  intro q hq
  simp only [xini, List.mem_append] at hq
  exact xini_w0 _ (List.mem_map.mpr ⟨q, hq, rfl⟩)
set_option maxRecDepth 100000 in
theorem xini_k : ∀ k, k < 257 → xK k ∈ xini := by decide +kernel
def xmlW (q : Nat × Nat × Nat) : Cond := .methodLink (xcn q.1) q.2.1 (xY q.2.2)
def xml_0 : List (Nat × Nat × Nat) := [(0, 25, 49), (1, 22, 15), (1, 28, 17), (1, 32, 11), (1, 36, 6), (1, 40, 7), (1, 53, 25), (1, 66, 19), (1, 82, 18), (1, 86, 8), (1, 93, 4), (1, 97, 5), (1, 101, 221), (1, 108, 12), (2, 28, 22), (2, 37, 17), (2, 41, 15), (2, 45, 23), (2, 49, 24), (3, 19, 32), (3, 23, 33), (3, 29, 21), (3, 39, 22), (3, 42, 17), (3, 46, 18), (4, 24, 15), (5, 31, 15), (5, 41, 58), (5, 46, 222), (5, 52, 40), (5, 56, 62), (5, 60, 41), (5, 64, 63), (5, 71, 17), (5, 77, 25), (5, 87, 43), (5, 91, 46), (5, 95, 20), (5, 98, 47), (5, 102, 44)]
def xml_1 : List (Nat × Nat × Nat) := [(5, 106, 45), (5, 110, 221), (5, 114, 64), (5, 118, 220), (6, 11, 13), (6, 20, 51), (6, 49, 14), (6, 53, 52), (6, 56, 57), (6, 65, 15), (6, 69, 220), (8, 34, 58), (8, 43, 15), (8, 51, 18), (8, 55, 62), (8, 59, 63), (8, 63, 25), (9, 15, 15), (9, 22, 17), (9, 26, 67), (9, 30, 68), (9, 34, 24), (10, 25, 0), (10, 77, 4), (10, 81, 28), (10, 95, 29), (10, 104, 30), (10, 108, 31), (10, 114, 1), (10, 118, 34), (10, 122, 20), (10, 130, 112), (10, 133, 19), (10, 136, 116), (10, 139, 17), (10, 144, 21), (10, 148, 22), (10, 151, 121), (10, 154, 117), (10, 165, 123)]
def xml_2 : List (Nat × Nat × Nat) := [(10, 179, 120), (10, 187, 124), (10, 199, 26), (10, 204, 122), (10, 207, 25), (10, 219, 35), (10, 228, 59), (10, 233, 113), (10, 236, 50), (10, 239, 9), (10, 245, 114), (10, 248, 37), (10, 254, 15), (10, 260, 127), (10, 265, 128), (10, 271, 10), (10, 275, 58), (10, 294, 119), (10, 297, 39), (10, 306, 42), (10, 313, 118), (10, 319, 69), (10, 322, 66), (10, 331, 125), (10, 334, 126), (10, 338, 53), (10, 341, 115), (10, 344, 18), (10, 347, 54), (10, 350, 55), (10, 366, 2), (10, 369, 49), (10, 374, 5), (10, 378, 60), (10, 382, 11), (10, 386, 61), (10, 390, 16), (11, 90, 147), (11, 96, 134), (11, 100, 136)]
def xml_3 : List (Nat × Nat × Nat) := [(11, 104, 141), (11, 108, 142), (11, 112, 144), (11, 121, 146), (11, 124, 145), (11, 128, 151), (11, 132, 139), (11, 135, 143), (11, 152, 148), (11, 155, 152), (11, 158, 149), (11, 172, 153), (11, 175, 133), (11, 179, 131), (11, 195, 158), (11, 198, 159), (11, 202, 212), (11, 205, 140), (11, 211, 135), (11, 214, 132), (11, 217, 138), (11, 220, 137), (11, 223, 154), (11, 225, 150), (11, 228, 155), (11, 231, 156), (11, 234, 177), (11, 237, 178), (11, 242, 217), (11, 249, 219), (11, 255, 183), (11, 259, 186), (11, 262, 188), (11, 266, 189), (11, 269, 192), (11, 272, 193), (11, 275, 197), (11, 278, 196), (11, 285, 202), (11, 288, 203)]
def xml_4 : List (Nat × Nat × Nat) := [(11, 300, 209), (11, 304, 210), (11, 308, 211), (12, 7, 71), (12, 17, 72), (12, 21, 74), (12, 27, 75), (12, 31, 76), (12, 34, 77), (12, 38, 78), (12, 41, 79), (12, 44, 80), (12, 47, 81), (12, 50, 82), (12, 53, 83), (12, 56, 85), (12, 59, 86), (12, 62, 87), (12, 66, 88), (12, 69, 89), (12, 72, 90), (12, 75, 94), (12, 78, 95), (12, 83, 96), (12, 87, 97), (12, 90, 98), (12, 93, 99), (12, 97, 100), (12, 100, 101), (12, 103, 102), (12, 106, 104), (12, 109, 105), (12, 112, 106), (12, 115, 108), (12, 118, 109), (12, 121, 111), (12, 124, 70), (12, 127, 129), (12, 128, 223), (12, 133, 157)]
def xml_5 : List (Nat × Nat × Nat) := [(12, 134, 224), (12, 137, 160), (12, 138, 130), (12, 141, 73), (12, 144, 161), (12, 145, 225), (12, 148, 162), (12, 149, 226), (12, 152, 163), (12, 153, 227), (12, 155, 164), (12, 156, 228), (12, 159, 165), (12, 160, 229), (12, 162, 166), (12, 163, 230), (12, 165, 167), (12, 166, 231), (12, 168, 168), (12, 169, 232), (12, 171, 169), (12, 172, 233), (12, 174, 170), (12, 175, 234), (12, 177, 171), (12, 178, 84), (12, 181, 172), (12, 182, 235), (12, 184, 173), (12, 185, 236), (12, 187, 174), (12, 188, 237), (12, 190, 175), (12, 191, 238), (12, 193, 176), (12, 194, 239), (12, 196, 179), (12, 197, 240), (12, 199, 180), (12, 200, 91)]
def xml_6 : List (Nat × Nat × Nat) := [(12, 203, 181), (12, 204, 92), (12, 207, 182), (12, 208, 93), (12, 211, 184), (12, 212, 241), (12, 214, 185), (12, 215, 242), (12, 217, 187), (12, 218, 243), (12, 220, 190), (12, 221, 244), (12, 223, 191), (12, 224, 245), (12, 226, 194), (12, 227, 246), (12, 229, 195), (12, 230, 247), (12, 232, 198), (12, 233, 248), (12, 235, 199), (12, 236, 249), (12, 238, 200), (12, 239, 103), (12, 242, 201), (12, 243, 250), (12, 245, 204), (12, 246, 251), (12, 248, 205), (12, 249, 252), (12, 251, 206), (12, 252, 107), (12, 255, 207), (12, 256, 253), (12, 258, 208), (12, 259, 254), (12, 261, 213), (12, 262, 110), (12, 265, 214), (12, 266, 255)]
def xml_7 : List (Nat × Nat × Nat) := [(12, 268, 215), (13, 122, 216), (14, 59, 218)]
def xml : List (Nat × Nat × Nat) := xml_0 ++ xml_1 ++ xml_2 ++ xml_3 ++ xml_4 ++ xml_5 ++ xml_6 ++ xml_7
set_option maxRecDepth 100000 in
theorem xml_w0 : ∀ w ∈ xml_0.map xmlW, w ∈ lw_tbl ∧ xgw w = true := xwc_ok (hs := [400, 341, 345, 346, 477, 489, 481, 493, 500, 496, 831, 473, 504, 352, 106, 114, 434, 110, 485, 635, 638, 646, 650, 790, 791, 862, 919, 920, 921, 924, 928, 932, 937, 927, 936, 961, 980, 985, 986, 965]) (by decide +kernel)
set_option maxRecDepth 100000 in
theorem xml_w1 : ∀ w ∈ xml_1.map xmlW, w ∈ lw_tbl ∧ xgw w = true := xwc_ok (hs := [968, 979, 972, 984, 102, 144, 404, 411, 416, 455, 456, 816, 842, 843, 976, 977, 978, 1012, 1014, 1015, 1019, 1023, 240, 337, 529, 601, 620, 631, 396, 642, 651, 422, 430, 663, 687, 689, 690, 698, 705, 725]) (by decide +kernel)
set_option maxRecDepth 100000 in
theorem xml_w2 : ∀ w ∈ xml_2.map xmlW, w ∈ lw_tbl ∧ xgw w = true := xwc_ok (hs := [701, 737, 762, 774, 778, 787, 426, 807, 451, 827, 833, 858, 439, 441, 460, 469, 877, 910, 915, 957, 1004, 1033, 1008, 1052, 1056, 1059, 1063, 1074, 1075, 1079, 1106, 519, 811, 812, 837, 838, 667, 1124, 1132, 1136]) (by decide +kernel)
set_option maxRecDepth 100000 in
theorem xml_w3 : ∀ w ∈ xml_3.map xmlW, w ∈ lw_tbl ∧ xgw w = true := xwc_ok (hs := [1382, 1397, 1144, 1128, 1140, 1151, 1331, 1393, 1421, 1427, 1443, 1451, 1293, 1296, 1308, 1304, 1311, 1327, 1343, 1347, 1355, 1390, 1417, 1431, 1439, 1447, 1467, 1463, 1480, 1495, 1509, 1521, 1533, 1529, 1549, 1545, 1561, 1565, 1585, 1590]) (by decide +kernel)
set_option maxRecDepth 100000 in
theorem xml_w4 : ∀ w ∈ xml_4.map xmlW, w ∈ lw_tbl ∧ xgw w = true := xwc_ok (hs := [1319, 1323, 1315, 525, 627, 659, 694, 713, 721, 733, 744, 751, 758, 770, 782, 795, 803, 823, 847, 854, 866, 873, 883, 906, 945, 952, 993, 1000, 1028, 1040, 1048, 1070, 1086, 1093, 1101, 1113, 88, 1120, 520, 1289]) (by decide +kernel)
set_option maxRecDepth 100000 in
theorem xml_w5 : ∀ w ∈ xml_5.map xmlW, w ∈ lw_tbl ∧ xgw w = true := xwc_ok (hs := [624, 1300, 1285, 388, 1335, 655, 1339, 691, 1351, 710, 1358, 718, 1362, 730, 1366, 741, 1370, 748, 1374, 755, 1378, 767, 1386, 779, 1401, 392, 1405, 792, 1409, 800, 1413, 820, 1435, 844, 1455, 851, 1459, 863, 1471, 435]) (by decide +kernel)
set_option maxRecDepth 100000 in
theorem xml_w6 : ∀ w ∈ xml_6.map xmlW, w ∈ lw_tbl ∧ xgw w = true := xwc_ok (hs := [1475, 447, 1490, 464, 1505, 870, 1513, 879, 1517, 903, 1525, 942, 1537, 949, 1541, 990, 1553, 997, 1557, 1025, 1569, 1037, 1573, 507, 1577, 1045, 1581, 1067, 1594, 1083, 1598, 511, 1602, 1090, 1606, 1098, 1610, 515, 1614, 1110]) (by decide +kernel)
set_option maxRecDepth 100000 in
theorem xml_w7 : ∀ w ∈ xml_7.map xmlW, w ∈ lw_tbl ∧ xgw w = true := xwc_ok (hs := [1618, 1483, 1498]) (by decide +kernel)
theorem xml_w : ∀ q ∈ xml, xmlW q ∈ lw_tbl ∧ xgw (xmlW q) = true := by
  intro q hq
  simp only [xml, List.mem_append] at hq
  rcases hq with ((((((hq | hq) | hq) | hq) | hq) | hq) | hq) | hq
  · exact xml_w0 _ (List.mem_map.mpr ⟨q, hq, rfl⟩)
  · exact xml_w1 _ (List.mem_map.mpr ⟨q, hq, rfl⟩)
  · exact xml_w2 _ (List.mem_map.mpr ⟨q, hq, rfl⟩)
  · exact xml_w3 _ (List.mem_map.mpr ⟨q, hq, rfl⟩)
  · exact xml_w4 _ (List.mem_map.mpr ⟨q, hq, rfl⟩)
  · exact xml_w5 _ (List.mem_map.mpr ⟨q, hq, rfl⟩)
  · exact xml_w6 _ (List.mem_map.mpr ⟨q, hq, rfl⟩)
  · exact xml_w7 _ (List.mem_map.mpr ⟨q, hq, rfl⟩)
def xmnW (q : Nat × Nat × Nat) : Cond := .methodLinkNest (xcn q.1) q.2.1 (xY q.2.2) "RoverLocator"
def xmn_0 : List (Nat × Nat × Nat) := [(0, 24, 48), (6, 27, 56), (10, 9, 48), (10, 32, 27), (10, 43, 3), (10, 50, 36), (10, 57, 38), (10, 64, 65)]
def xmn : List (Nat × Nat × Nat) := xmn_0
set_option maxRecDepth 100000 in
theorem xmn_w0 : ∀ w ∈ xmn_0.map xmnW, w ∈ lw_tbl ∧ xgw w = true := xwc_ok (hs := [246, 173, 96, 260, 275, 292, 307, 328]) (by decide +kernel)
theorem xmn_w : ∀ q ∈ xmn, xmnW q ∈ lw_tbl ∧ xgw (xmnW q) = true := by
  intro q hq
  simp only [xmn, List.mem_append] at hq
  exact xmn_w0 _ (List.mem_map.mpr ⟨q, hq, rfl⟩)
def xvm_0 : List (Nat) := [1, 2, 4, 5, 6, 7, 8, 9, 10, 11, 12, 14, 15, 16, 17, 18, 19, 20, 21, 22, 23, 24, 25, 26, 30, 31, 34, 37, 39, 41, 42, 43, 45, 46, 47, 49, 50, 52, 53, 54]
def xvm_1 : List (Nat) := [55, 57, 58, 59, 60, 61, 62, 63, 64, 66, 67, 68, 69, 71, 72, 73, 74, 75, 76, 77, 78, 79, 80, 81, 82, 83, 84, 85, 86, 87, 88, 89, 90, 91, 92, 93, 94, 95, 96, 97]
def xvm_2 : List (Nat) := [98, 99, 100, 101, 102, 103, 104, 105, 106, 107, 108, 109, 110, 111, 112, 113, 114, 115, 116, 117, 118, 119, 130, 131, 132, 134, 135, 136, 139, 140, 141, 142, 143, 144, 145, 146, 147, 148, 149, 150]
def xvm_3 : List (Nat) := [151, 152, 153, 154, 155, 156, 157, 159, 160, 161, 162, 163, 164, 165, 166, 167, 168, 169, 170, 171, 172, 173, 174, 175, 176, 177, 178, 179, 180, 181, 182, 183, 184, 185, 186, 187, 188, 189, 190, 191]
def xvm_4 : List (Nat) := [192, 193, 194, 195, 196, 197, 198, 199, 200, 201, 202, 203, 204, 205, 206, 207, 208, 209, 210, 211, 212, 213, 214, 215]
def xvm : List (Nat) := xvm_0 ++ xvm_1 ++ xvm_2 ++ xvm_3 ++ xvm_4
set_option maxRecDepth 100000 in
theorem xvm_w0 : ∀ w ∈ xvm_0.map (fun k => Cond.instanceMethod (xY k)), w ∈ lw_tbl ∧ xgw w = true := xwc_ok (hs := [397, 1107, 338, 474, 479, 491, 498, 828, 470, 347, 354, 405, 342, 668, 115, 501, 431, 652, 647, 107, 112, 486, 482, 763, 621, 632, 643, 859, 916, 934, 958, 963, 970, 982, 988, 401, 452, 412, 1060, 1076]) (by decide +kernel)
set_option maxRecDepth 100000 in
theorem xvm_w1 : ∀ w ∈ xvm_1.map (fun k => Cond.instanceMethod (xY k)), w ∈ lw_tbl ∧ xgw w = true := xwc_ok (hs := [1080, 417, 817, 427, 813, 839, 929, 938, 973, 1009, 1017, 1021, 1034, 526, 628, 389, 660, 695, 714, 722, 734, 745, 752, 759, 771, 783, 393, 796, 804, 824, 848, 855, 867, 436, 448, 465, 874, 884, 907, 946]) (by decide +kernel)
set_option maxRecDepth 100000 in
theorem xvm_w2 : ∀ w ∈ xvm_2.map (fun k => Cond.instanceMethod (xY k)), w ∈ lw_tbl ∧ xgw w = true := xwc_ok (hs := [953, 994, 1001, 1029, 1041, 508, 1049, 1071, 1087, 512, 1094, 1102, 516, 1114, 424, 809, 835, 1065, 665, 707, 1006, 912, 1286, 1298, 1349, 1134, 1345, 1138, 1333, 1329, 1384, 1399, 1395, 1146, 1142, 1130, 1126, 1423, 1445, 1433]) (by decide +kernel)
set_option maxRecDepth 100000 in
theorem xvm_w3 : ∀ w ∈ xvm_3.map (fun k => Cond.instanceMethod (xY k)), w ∈ lw_tbl ∧ xgw w = true := xwc_ok (hs := [1153, 1429, 1453, 1419, 1441, 1449, 1290, 1306, 1301, 1336, 1340, 1352, 1359, 1363, 1367, 1371, 1375, 1379, 1387, 1402, 1406, 1410, 1414, 1436, 1456, 1469, 1465, 1460, 1472, 1476, 1491, 1511, 1506, 1514, 1523, 1518, 1535, 1531, 1526, 1538]) (by decide +kernel)
set_option maxRecDepth 100000 in
theorem xvm_w4 : ∀ w ∈ xvm_4.map (fun k => Cond.instanceMethod (xY k)), w ∈ lw_tbl ∧ xgw w = true := xwc_ok (hs := [1551, 1547, 1542, 1554, 1567, 1563, 1558, 1570, 1574, 1578, 1587, 1592, 1582, 1595, 1599, 1603, 1607, 1321, 1325, 1317, 1313, 1611, 1615, 1619]) (by decide +kernel)
theorem xvm_w : ∀ q ∈ xvm, (fun k => Cond.instanceMethod (xY k)) q ∈ lw_tbl ∧ xgw ((fun k => Cond.instanceMethod (xY k)) q) = true := by
  intro q hq
  simp only [xvm, List.mem_append] at hq
  rcases hq with (((hq | hq) | hq) | hq) | hq
  · exact xvm_w0 _ (List.mem_map.mpr ⟨q, hq, rfl⟩)
  · exact xvm_w1 _ (List.mem_map.mpr ⟨q, hq, rfl⟩)
  · exact xvm_w2 _ (List.mem_map.mpr ⟨q, hq, rfl⟩)
  · exact xvm_w3 _ (List.mem_map.mpr ⟨q, hq, rfl⟩)
  · exact xvm_w4 _ (List.mem_map.mpr ⟨q, hq, rfl⟩)
def xvs_0 : List (Nat) := [1, 2, 4, 5, 6, 7, 8, 9, 10, 11, 12, 14, 15, 16, 17, 18, 19, 20, 21, 22, 23, 24, 25, 26, 30, 31, 34, 37, 39, 41, 42, 43, 45, 46, 47, 49, 50, 52, 53, 54]
def xvs_1 : List (Nat) := [55, 57, 58, 59, 60, 61, 62, 63, 64, 66, 67, 68, 69, 71, 72, 73, 74, 75, 76, 77, 78, 79, 80, 81, 82, 83, 84, 85, 86, 87, 88, 89, 90, 91, 92, 93, 94, 95, 96, 97]
def xvs_2 : List (Nat) := [98, 99, 100, 101, 102, 103, 104, 105, 106, 107, 108, 109, 110, 111, 112, 113, 114, 115, 116, 117, 118, 119, 130, 131, 132, 134, 135, 136, 139, 140, 141, 142, 143, 144, 145, 146, 147, 148, 149, 150]
def xvs_3 : List (Nat) := [151, 152, 153, 154, 155, 156, 157, 159, 160, 161, 162, 163, 164, 165, 166, 167, 168, 169, 170, 171, 172, 173, 174, 175, 176, 177, 178, 179, 180, 181, 182, 183, 184, 185, 186, 187, 188, 189, 190, 191]
def xvs_4 : List (Nat) := [192, 193, 194, 195, 196, 197, 198, 199, 200, 201, 202, 203, 204, 205, 206, 207, 208, 209, 210, 211, 212, 213, 214, 215]
def xvs : List (Nat) := xvs_0 ++ xvs_1 ++ xvs_2 ++ xvs_3 ++ xvs_4
set_option maxRecDepth 100000 in
theorem xvs_w0 : ∀ w ∈ xvs_0.map (fun k => Cond.selects (xY k).cls (xY k) (xY k)), w ∈ lw_tbl ∧ xgw w = true := xwc_ok (hs := [398, 1108, 339, 475, 3, 4, 5, 829, 471, 348, 1, 406, 343, 669, 116, 502, 432, 653, 648, 108, 0, 487, 483, 764, 622, 633, 644, 860, 917, 12, 959, 13, 14, 15, 16, 402, 453, 413, 1061, 1077]) (by decide +kernel)
set_option maxRecDepth 100000 in
theorem xvs_w1 : ∀ w ∈ xvs_1.map (fun k => Cond.selects (xY k).cls (xY k) (xY k)), w ∈ lw_tbl ∧ xgw w = true := xwc_ok (hs := [1081, 418, 818, 428, 814, 840, 930, 939, 974, 1010, 18, 19, 1035, 527, 629, 390, 661, 696, 715, 723, 735, 746, 753, 760, 772, 784, 394, 797, 805, 825, 849, 856, 868, 437, 449, 466, 875, 885, 908, 947]) (by decide +kernel)
set_option maxRecDepth 100000 in
theorem xvs_w2 : ∀ w ∈ xvs_2.map (fun k => Cond.selects (xY k).cls (xY k) (xY k)), w ∈ lw_tbl ∧ xgw w = true := xwc_ok (hs := [954, 995, 1002, 1030, 1042, 509, 1050, 1072, 1088, 513, 1095, 1103, 517, 1115, 2, 9, 10, 20, 7, 8, 17, 11, 1287, 28, 37, 23, 36, 24, 35, 34, 38, 40, 39, 26, 25, 22, 21, 42, 46, 44]) (by decide +kernel)
set_option maxRecDepth 100000 in
theorem xvs_w3 : ∀ w ∈ xvs_3.map (fun k => Cond.selects (xY k).cls (xY k) (xY k)), w ∈ lw_tbl ∧ xgw w = true := xwc_ok (hs := [27, 43, 48, 41, 45, 47, 1291, 29, 1302, 1337, 1341, 1353, 1360, 1364, 1368, 1372, 1376, 1380, 1388, 1403, 1407, 1411, 1415, 1437, 1457, 50, 49, 1461, 1473, 1477, 1492, 51, 1507, 1515, 52, 1519, 54, 53, 1527, 1539]) (by decide +kernel)
set_option maxRecDepth 100000 in
theorem xvs_w4 : ∀ w ∈ xvs_4.map (fun k => Cond.selects (xY k).cls (xY k) (xY k)), w ∈ lw_tbl ∧ xgw w = true := xwc_ok (hs := [56, 55, 1543, 1555, 58, 57, 1559, 1571, 1575, 1579, 59, 60, 1583, 1596, 1600, 1604, 1608, 32, 33, 31, 30, 1612, 1616, 1620]) (by decide +kernel)
theorem xvs_w : ∀ q ∈ xvs, (fun k => Cond.selects (xY k).cls (xY k) (xY k)) q ∈ lw_tbl ∧ xgw ((fun k => Cond.selects (xY k).cls (xY k) (xY k)) q) = true := by
  intro q hq
  simp only [xvs, List.mem_append] at hq
  rcases hq with (((hq | hq) | hq) | hq) | hq
  · exact xvs_w0 _ (List.mem_map.mpr ⟨q, hq, rfl⟩)
  · exact xvs_w1 _ (List.mem_map.mpr ⟨q, hq, rfl⟩)
  · exact xvs_w2 _ (List.mem_map.mpr ⟨q, hq, rfl⟩)
  · exact xvs_w3 _ (List.mem_map.mpr ⟨q, hq, rfl⟩)
  · exact xvs_w4 _ (List.mem_map.mpr ⟨q, hq, rfl⟩)
def xsm_0 : List (Nat) := [28, 29, 32, 33, 35, 40, 44, 120, 121, 122, 123, 124, 125, 126, 127, 128, 133, 137, 138, 158, 216, 217, 218, 219, 220, 221, 222, 223, 224, 225, 226, 227, 228, 229, 230, 231, 232, 233, 234, 235]
def xsm_1 : List (Nat) := [236, 237, 238, 239, 240, 241, 242, 243, 244, 245, 246, 247, 248, 249, 250, 251, 252, 253, 254, 255]
def xsm : List (Nat) := xsm_0 ++ xsm_1
set_option maxRecDepth 100000 in
theorem xsm_w0 : ∀ w ∈ xsm_0.map (fun k => Cond.static (xY k)), w ∈ lw_tbl ∧ xgw w = true := xwc_ok (hs := [530, 602, 636, 639, 788, 925, 966, 702, 699, 775, 726, 738, 1053, 1057, 442, 461, 1294, 1391, 1356, 1309, 1484, 1481, 1499, 1496, 457, 505, 922, 521, 625, 656, 692, 711, 719, 731, 742, 749, 756, 768, 780, 793]) (by decide +kernel)
set_option maxRecDepth 100000 in
theorem xsm_w1 : ∀ w ∈ xsm_1.map (fun k => Cond.static (xY k)), w ∈ lw_tbl ∧ xgw w = true := xwc_ok (hs := [801, 821, 845, 852, 864, 871, 880, 904, 943, 950, 991, 998, 1026, 1038, 1046, 1068, 1084, 1091, 1099, 1111]) (by decide +kernel)
theorem xsm_w : ∀ q ∈ xsm, (fun k => Cond.static (xY k)) q ∈ lw_tbl ∧ xgw ((fun k => Cond.static (xY k)) q) = true := by
  intro q hq
  simp only [xsm, List.mem_append] at hq
  rcases hq with hq | hq
  · exact xsm_w0 _ (List.mem_map.mpr ⟨q, hq, rfl⟩)
  · exact xsm_w1 _ (List.mem_map.mpr ⟨q, hq, rfl⟩)
def xim_0 : List (Nat) := [0, 3, 13, 27, 36, 38, 48, 51, 56, 65, 70, 129]
def xim : List (Nat) := xim_0
set_option maxRecDepth 100000 in
theorem xim_w0 : ∀ w ∈ xim_0.map (fun k => Cond.instanceMethod (xY k)), w ∈ lw_tbl ∧ xgw w = true := xwc_ok (hs := [241, 276, 103, 261, 293, 308, 97, 145, 174, 329, 89, 1121]) (by decide +kernel)
theorem xim_w : ∀ q ∈ xim, (fun k => Cond.instanceMethod (xY k)) q ∈ lw_tbl ∧ xgw ((fun k => Cond.instanceMethod (xY k)) q) = true := by
  intro q hq
  simp only [xim, List.mem_append] at hq
  exact xim_w0 _ (List.mem_map.mpr ⟨q, hq, rfl⟩)
set_option maxRecDepth 100000 in
theorem xmb : (∀ k ∈ xvm, k < 256 ∧ xHh k = [] ∧ xK k < 12 ∧ k ∈ xvs) ∧ (∀ k ∈ xsm, k < 256) ∧ (∀ k ∈ xim, k < 256 ∧ xHh k = [] ∧ (xY k).name = "<init>" ∧ xRet k = none) := by decide +kernel
def xmoW (q : Nat × Nat) : Cond := .methodLink (xcn q.1) q.2 objectInit
def xmo_0 : List (Nat × Nat) := [(0, 3), (1, 3), (2, 3), (3, 3), (4, 3), (5, 3), (6, 3), (7, 3), (8, 3), (9, 3), (10, 1), (11, 1)]
def xmo : List (Nat × Nat) := xmo_0
set_option maxRecDepth 100000 in
theorem xmo_w0 : ∀ w ∈ xmo_0.map xmoW, w ∈ lw_tbl ∧ xgw w = true := xwc_ok (hs := [243, 278, 105, 263, 295, 310, 99, 147, 176, 331, 91, 1123]) (by decide +kernel)
theorem xmo_w : ∀ q ∈ xmo, xmoW q ∈ lw_tbl ∧ xgw (xmoW q) = true := by
  intro q hq
  simp only [xmo, List.mem_append] at hq
  exact xmo_w0 _ (List.mem_map.mpr ⟨q, hq, rfl⟩)
set_option maxRecDepth 100000 in
theorem xoi_w : ∀ w ∈ [Cond.instanceMethod objectInit, Cond.code objectInit ⟨#[0xb1]⟩ 1 none], w ∈ lw_tbl ∧ xgw w = true := xwc_ok (hs := [92, 93]) (by decide +kernel)
def xny (a : Nat) : MethodName := match a with | 0 => arraycopyName | 1 => ⟨"java/lang/Double", "doubleToRawLongBits", "(D)J"⟩ | _ => ⟨"java/lang/Float", "floatToRawIntBits", "(F)I"⟩
def xnatW (q : Nat × Nat × Nat) : Cond := .methodLink (xcn q.1) q.2.1 (xny q.2.2)
def xnat_0 : List (Nat × Nat × Nat) := [(2, 31, 0), (5, 81, 0), (6, 59, 0), (7, 25, 0), (8, 28, 0), (13, 134, 1), (14, 74, 2)]
def xnat : List (Nat × Nat × Nat) := xnat_0
set_option maxRecDepth 100000 in
theorem xnat_w0 : ∀ w ∈ xnat_0.map xnatW, w ∈ lw_tbl ∧ xgw w = true := xwc_ok (hs := [408, 941, 421, 415, 420, 1486, 1501]) (by decide +kernel)
theorem xnat_w : ∀ q ∈ xnat, xnatW q ∈ lw_tbl ∧ xgw (xnatW q) = true := by
  intro q hq
  simp only [xnat, List.mem_append] at hq
  exact xnat_w0 _ (List.mem_map.mpr ⟨q, hq, rfl⟩)
set_option maxRecDepth 100000 in
theorem xnn_n : ∀ w ∈ [0, 1, 2].map (fun a => Cond.native (xny a)), w ∈ lw_tbl ∧ xgw w = true := xwc_ok (hs := [410, 1488, 1503]) (by decide +kernel)
set_option maxRecDepth 100000 in
theorem xnn_s : ∀ w ∈ [0, 1, 2].map (fun a => Cond.static (xny a)), w ∈ lw_tbl ∧ xgw w = true := xwc_ok (hs := [409, 1487, 1502]) (by decide +kernel)
set_option maxRecDepth 100000 in
theorem xnn_i : ∀ w ∈ [0, 1, 2].map (fun a => Cond.initialized (xny a).cls), w ∈ lw_tbl ∧ xgw w = true := xwc_ok (hs := [79, 83, 84]) (by decide +kernel)
def xnlW (q : Nat × Nat × Nat) : Cond := .classLink (xcn q.1) q.2.1 (xcT q.2.2).1
def xnl_0 : List (Nat × Nat × Nat) := [(0, 9, 6), (6, 9, 2), (6, 18, 7), (6, 25, 8), (10, 7, 6), (10, 23, 0), (10, 30, 3), (10, 41, 1), (10, 48, 4), (10, 55, 5), (10, 62, 9), (12, 8, 10), (12, 125, 11)]
def xnl : List (Nat × Nat × Nat) := xnl_0
set_option maxRecDepth 100000 in
theorem xnl_w0 : ∀ w ∈ xnl_0.map xnlW, w ∈ lw_tbl ∧ xgw w = true := xwc_ok (hs := [244, 100, 142, 171, 94, 238, 258, 273, 290, 305, 326, 86, 1118]) (by decide +kernel)
theorem xnl_w : ∀ q ∈ xnl, xnlW q ∈ lw_tbl ∧ xgw (xnlW q) = true := by
  intro q hq
  simp only [xnl, List.mem_append] at hq
  exact xnl_w0 _ (List.mem_map.mpr ⟨q, hq, rfl⟩)
theorem xnl_b : ∀ q ∈ xnl, q.2.2 < 12 := by decide +kernel
set_option maxRecDepth 100000 in
theorem xci_w : ∀ w ∈ (List.range 12).map (fun a => Cond.instantiable (xcT a).1 (xcT a).2.2), w ∈ lw_tbl ∧ xgw w = true := xwc_ok (hs := [239, 274, 101, 259, 291, 306, 95, 143, 172, 327, 87, 1119]) (by decide +kernel)
def xanW (q : Nat × Nat) : Cond := .classLink (xcn q.1) q.2 "RoverLocator$State"
def xan_0 : List (Nat × Nat) := [(0, 9)]
def xan : List (Nat × Nat) := xan_0
set_option maxRecDepth 100000 in
theorem xan_w0 : ∀ w ∈ xan_0.map xanW, w ∈ lw_tbl ∧ xgw w = true := xwc_ok (hs := [244]) (by decide +kernel)
theorem xan_w : ∀ q ∈ xan, xanW q ∈ lw_tbl ∧ xgw (xanW q) = true := by
  intro q hq
  simp only [xan, List.mem_append] at hq
  exact xan_w0 _ (List.mem_map.mpr ⟨q, hq, rfl⟩)
set_option maxRecDepth 100000 in
theorem xar_w : ∀ w ∈ [Cond.arrayClass .int, Cond.arrayClass .long, Cond.arrayClass .char], w ∈ lw_tbl ∧ xgw w = true := xwc_ok (hs := [141, 289, 272]) (by decide +kernel)
def xklW (q : Nat × Nat × Nat) : Cond := match xnth xcon q.2.2 with | some (.int v) => .constant (xcn q.1) q.2.1 v | some (.long v) => .constantLong (xcn q.1) q.2.1 v | some (.float v) => .constantFloat (xcn q.1) q.2.1 v | some (.double v) => .constantDouble (xcn q.1) q.2.1 v | _ => .tt
def xkl_0 : List (Nat × Nat × Nat) := [(1, 73, 0), (1, 75, 1), (1, 77, 2), (1, 107, 3), (1, 111, 4), (9, 21, 3), (10, 223, 3), (10, 258, 5), (10, 264, 6), (10, 269, 4), (10, 326, 2), (10, 407, 7), (10, 408, 8), (10, 410, 9), (10, 412, 10), (10, 414, 11), (11, 116, 2), (11, 118, 3), (11, 119, 4), (11, 139, 0), (11, 144, 12), (11, 240, 5), (11, 248, 6), (11, 281, 7), (13, 137, 13), (14, 77, 14)]
def xkl : List (Nat × Nat × Nat) := xkl_0
set_option maxRecDepth 100000 in
theorem xkl_w0 : ∀ w ∈ xkl_0.map xklW, w ∈ lw_tbl ∧ xgw w = true := xwc_ok (hs := [494, 495, 350, 351, 356, 1013, 799, 440, 459, 468, 1044, 1055, 444, 445, 446, 463, 1148, 1149, 1150, 1425, 1426, 1479, 1494, 1589, 1489, 1504]) (by decide +kernel)
theorem xkl_w : ∀ q ∈ xkl, xklW q ∈ lw_tbl ∧ xgw (xklW q) = true := by
  intro q hq
  simp only [xkl, List.mem_append] at hq
  exact xkl_w0 _ (List.mem_map.mpr ⟨q, hq, rfl⟩)
/-- an entry links what the tables say -/
def xlnk (k : Nat) (e : XEn) : Bool := match e with
  | (i, _, a, b) => match i with
    | .getfield ix => decide ((xK k, ix, a, b, true) ∈ xfl) || decide ((xK k, ix, a, b, false) ∈ xfl)
    | .putfield ix => (decide ((xK k, ix, a, b, false) ∈ xfl) && (decide (((xcT a).2.1 b).2.2.2 = false) || (decide ((xY k).name = "<init>") && decide (((xcT a).2.1 b).1 = xcn (xK k))))) || (decide ((xK k, ix, a, b, true) ∈ xfl) && decide (((xcT a).2.1 b).2.2.2 = false))
    | .invokevirtual ix => decide ((xK k, ix, a) ∈ xml) && decide (a ∈ xvm)
    | .invokestatic ix => (match b with | 0 => decide ((xK k, ix, a) ∈ xml) && decide (a ∈ xsm) | 1 => decide ((xK k, ix, a) ∈ xnat) && decide (a < 3) | _ => true)
    | .invokespecial ix => (match b with | 0 => decide ((xK k, ix, a) ∈ xml) && decide (a ∈ xim) | 1 => decide ((xK k, ix, a) ∈ xmn) && decide (a ∈ xim) | 2 => decide ((xK k, ix) ∈ xmo) | _ => true)
    | .new ix => (match b with | 0 => decide ((xK k, ix, a) ∈ xnl) | _ => true)
    | .newarray t => decide (newarray.typeOf t = xat a) && (decide (100 ≤ a) && decide (a < 103))
    | .anewarray ix => decide ((xK k, ix) ∈ xan)
    | .ldc ix => (decide ((xK k, ix, a) ∈ xkl) && (match xnth xcon a with | some (.int _) => true | some (.float _) => true | _ => false)) || decide (a = 999)
    | .ldc_w ix => (decide ((xK k, ix, a) ∈ xkl) && (match xnth xcon a with | some (.int _) => true | some (.float _) => true | _ => false)) || decide (a = 999)
    | .ldc2_w ix => decide ((xK k, ix, a) ∈ xkl) && (match xnth xcon a with | some (.long _) => true | some (.double _) => true | _ => false)
    | _ => true
def xent (k pc : Nat) (e : XEn) : Bool := decide (decode (xB k) pc = .ok (e.1, e.2.1)) && (xlen e.1 e.2.1 && ((match xoff e.1 with | some o => decide ((pc : Int) + o = (e.2.2.1 : Int)) | none => true) && xlnk k e))
def xentR (lo n : Nat) : Bool := (List.range n).all (fun k => (List.range (xSz (lo + k))).all (fun pc => match xcode (lo + k) pc with | some e => xent (lo + k) pc e | none => true))
