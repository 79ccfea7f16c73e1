noncomputable section
/-! What the program's entries link, and the tables' words of it. -/
def xgw (w : Cond) : Bool := goodWord w || ((match w with | .fieldLinkNest .. => true | .methodLinkNest .. => true | _ => false) || (w.faceAtom && w.onTables))
theorem xgw_ok {w : Cond} {s U : State} {a a' : Array Value} (hg : xgw w = true) (hW : s.WarmedH U.vm) (h : w.before a s = true) : w.before a' U = true := by
  unfold xgw at hg
  rw [Bool.or_eq_true, Bool.or_eq_true] at hg
  rcases hg with hg | hg | hg
  · exact word_at hW (good_of_word hg) h
  · split at hg
    · exact va_Nw.use rfl (va_Nw.warmF hW (va_Nw.of rfl h))
    · exact va_Nw.use rfl (va_Nw.warmM hW (va_Nw.of rfl h))
    · cases hg
  · rw [Bool.and_eq_true] at hg
    exact va_tabs hg.2 (rfl : (s.setVm U.vm).vm = U.vm) (Cond.faceAtom_setVm hW.alike w hg.1 h)
def xwc (L : List Cond) (hs : List Nat) : Bool := Nat.beq L.length hs.length && (L.zip hs).all (fun q => decide (lw_tbl[q.2]? = some q.1) && xgw q.1)
theorem xwc_ok {L : List Cond} {hs : List Nat} (h : xwc L hs = true) : ∀ w ∈ L, w ∈ lw_tbl ∧ xgw w = true := by
  unfold xwc at h
  rw [Bool.and_eq_true] at h
  have hl := Nat.eq_of_beq_eq_true h.1
  intro w hw
  obtain ⟨i, hi, rfl⟩ := List.mem_iff_getElem.mp hw
  have h1 := List.all_eq_true.mp h.2 (L[i], hs[i]'(by omega)) (List.mem_iff_getElem.mpr ⟨i, by simp; omega, by simp⟩)
  rw [Bool.and_eq_true] at h1
  exact ⟨List.mem_of_getElem? (of_decide_eq_true h1.1), h1.2⟩
/-- the words of a list stand in the table, each so many rows behind the one before -/
def xSk : List Cond → List Nat → List Cond → Prop
  | T, g :: gs, w :: ws => ∃ t, T.drop g = w :: t ∧ xSk t gs ws
  | _, _, [] => True
  | _, [], _ :: _ => False
theorem xSk_n {T : List Cond} : xSk T [] [] := trivial
theorem xSk_c {T t : List Cond} {g : Nat} {gs : List Nat} {w : Cond} {ws : List Cond} (h : T.drop g = w :: t) (h2 : xSk t gs ws) : xSk T (g :: gs) (w :: ws) := ⟨t, h, h2⟩
theorem xSk_in : (gs : List Nat) → (T ws : List Cond) → xSk T gs ws → ∀ w ∈ ws, w ∈ T
  | g :: gs, T, w :: ws, ⟨t, h, h2⟩, x, hx => by
    have ht : ∀ y ∈ t, y ∈ T := fun y hy => List.mem_of_mem_drop (h ▸ List.mem_cons_of_mem w hy : y ∈ T.drop g)
    rcases List.mem_cons.mp hx with rfl | hx
    · exact List.mem_of_mem_drop (h ▸ List.mem_cons_self : x ∈ T.drop g)
    · exact ht x (xSk_in gs t ws h2 x hx)
  | _, _, [], _, _, hx => absurd hx List.not_mem_nil
  | [], _, _ :: _, h, _, _ => False.elim h
theorem xSk_ok {L : List Cond} {gs : List Nat} (h : xSk lw_tbl gs L) (h2 : L.all xgw = true) : ∀ w ∈ L, w ∈ lw_tbl ∧ xgw w = true := fun w hw => ⟨xSk_in gs lw_tbl L h w hw, List.all_eq_true.mp h2 w hw⟩
def xGW (s : State) : Prop := ∀ w ∈ lw_tbl, xgw w = true → ∀ a, w.before a s = true
theorem xGW.at {s : State} {L : List Cond} (h : xGW s) (hL : ∀ w ∈ L, w ∈ lw_tbl ∧ xgw w = true) {w : Cond} (hw : w ∈ L) (a : Array Value) : w.before a s = true := h w (hL w hw).1 (hL w hw).2 a
theorem xGW.move {s U : State} (h : xGW s) (hW : s.WarmedH U.vm) : xGW U := fun w hw hg _ => xgw_ok hg hW (h w hw hg #[])
def xcT (a : Nat) : vw_C := xcl.getD a ("", xT0, 0)
def xflW (q : Nat × Nat × Nat × Nat × Bool) : Cond := bif q.2.2.2.2 then .fieldLinkNest (xcn q.1) q.2.1 ((xcT q.2.2.1).2.1 q.2.2.2.1).1 ((xcT q.2.2.1).2.1 q.2.2.2.1).2.1 ((xcT q.2.2.1).2.1 q.2.2.2.1).2.2.1 "RoverLocator" else .fieldLink (xcn q.1) q.2.1 ((xcT q.2.2.1).2.1 q.2.2.2.1).1 ((xcT q.2.2.1).2.1 q.2.2.2.1).2.1 ((xcT q.2.2.1).2.1 q.2.2.2.1).2.2.1
def xfl_0 : List (Nat × Nat × Nat × Nat × Bool) := [(2, 9, 2, 0, false), (3, 36, 2, 0, true), (10, 214, 2, 0, true), (2, 15, 2, 1, false), (3, 33, 2, 1, true), (10, 211, 2, 1, true), (2, 18, 2, 2, false), (10, 157, 2, 2, true), (2, 22, 2, 3, false), (9, 38, 2, 3, true), (10, 162, 2, 3, true), (2, 25, 2, 4, false), (7, 9, 7, 0, false), (1, 61, 7, 0, true), (8, 38, 7, 0, true), (10, 174, 7, 0, true), (7, 15, 7, 1, false), (1, 79, 7, 1, true), (8, 48, 7, 1, true), (10, 190, 7, 1, true), (7, 18, 7, 2, false), (1, 69, 7, 2, true), (10, 193, 7, 2, true), (7, 22, 7, 3, false), (1, 90, 7, 3, true), (10, 196, 7, 3, true), (8, 9, 8, 0, false), (5, 67, 8, 0, true), (8, 15, 8, 1, false), (10, 278, 8, 1, true), (8, 18, 8, 2, false), (10, 281, 8, 2, true), (8, 21, 8, 3, false), (5, 74, 8, 3, true), (10, 291, 8, 3, true), (8, 25, 8, 4, false), (6, 12, 6, 0, false), (10, 69, 6, 0, true), (4, 18, 6, 0, true), (5, 25, 6, 0, true)]
def xfl_1 : List (Nat × Nat × Nat × Nat × Bool) := [(1, 44, 6, 0, true), (6, 21, 6, 1, false), (1, 57, 6, 1, true), (10, 170, 6, 1, true), (6, 28, 6, 2, false), (5, 37, 6, 2, true), (10, 224, 6, 2, true), (6, 32, 6, 3, false), (10, 73, 6, 3, true), (4, 30, 6, 3, true), (1, 50, 6, 3, true), (6, 36, 6, 4, false), (10, 127, 6, 4, true), (6, 40, 6, 5, false), (10, 328, 6, 5, true), (6, 43, 6, 6, false), (10, 353, 6, 6, true), (6, 46, 6, 7, false), (10, 356, 6, 7, true), (0, 11, 0, 0, false), (0, 17, 0, 1, false), (0, 21, 0, 2, false), (10, 359, 0, 2, true), (3, 9, 3, 0, false), (3, 15, 3, 1, false), (10, 92, 3, 1, true), (1, 9, 1, 0, false), (1, 15, 1, 1, false), (1, 18, 1, 2, false), (4, 9, 4, 0, false), (10, 251, 4, 0, true), (4, 15, 4, 1, false), (10, 257, 4, 1, true), (5, 9, 5, 0, false), (10, 300, 5, 0, true), (5, 15, 5, 1, false), (5, 18, 5, 2, false), (5, 21, 5, 3, false), (10, 310, 5, 3, true), (9, 9, 9, 0, false)]
def xfl_2 : List (Nat × Nat × Nat × Nat × Bool) := [(10, 316, 9, 0, true), (10, 10, 10, 0, false), (10, 16, 10, 1, false), (10, 19, 10, 2, false), (10, 26, 10, 3, false), (10, 33, 10, 4, false), (10, 37, 10, 5, false), (10, 44, 10, 6, false), (10, 51, 10, 7, false), (10, 58, 10, 8, false), (10, 65, 10, 9, false), (11, 93, 11, 0, false), (11, 7, 11, 1, false), (11, 13, 11, 2, false), (11, 16, 11, 3, false), (11, 19, 11, 4, false), (11, 22, 11, 5, false), (11, 25, 11, 6, false), (11, 29, 11, 7, false), (11, 141, 11, 8, false), (11, 162, 11, 9, false), (11, 208, 11, 10, false), (11, 32, 11, 11, false), (11, 169, 11, 12, false), (11, 282, 11, 13, false), (11, 35, 11, 14, false), (11, 39, 11, 15, false), (11, 42, 11, 16, false), (11, 45, 11, 17, false), (11, 48, 11, 18, false), (11, 146, 11, 19, false), (11, 149, 11, 20, false), (11, 51, 11, 21, false), (11, 54, 11, 22, false), (11, 165, 11, 23, false), (11, 57, 11, 24, false), (11, 60, 11, 25, false), (11, 183, 11, 26, false), (11, 186, 11, 27, false), (11, 189, 11, 28, false)]
def xfl_3 : List (Nat × Nat × Nat × Nat × Bool) := [(11, 192, 11, 29, false), (11, 63, 11, 30, false), (11, 66, 11, 31, false), (11, 69, 11, 32, false), (11, 72, 11, 33, false), (11, 75, 11, 34, false), (11, 78, 11, 35, false), (11, 81, 11, 36, false), (11, 84, 11, 37, false), (11, 87, 11, 38, false), (11, 291, 11, 39, false), (11, 297, 11, 40, false), (11, 312, 11, 41, false), (11, 294, 11, 42, false)]
def xfl : List (Nat × Nat × Nat × Nat × Bool) := xfl_0 ++ xfl_1 ++ xfl_2 ++ xfl_3
set_option maxRecDepth 100000 in
theorem xfl_w0 : ∀ w ∈ xfl_0.map xflW, w ∈ lw_tbl ∧ xgw w = true := xSk_ok (gs := [118, 0, 0, 0, 0, 0, 0, 0, 0, 0, 0, 0, 18, 0, 0, 0, 0, 0, 0, 0, 0, 0, 0, 0, 0, 0, 15, 0, 0, 0, 0, 0, 0, 0, 0, 0, 11, 0, 0, 0]) ((xSk_c rfl (xSk_c rfl (xSk_c rfl (xSk_c rfl (xSk_c rfl (xSk_c rfl (xSk_c rfl (xSk_c rfl (xSk_c rfl (xSk_c rfl (xSk_c rfl (xSk_c rfl (xSk_c rfl (xSk_c rfl (xSk_c rfl (xSk_c rfl (xSk_c rfl (xSk_c rfl (xSk_c rfl (xSk_c rfl (xSk_c rfl (xSk_c rfl (xSk_c rfl (xSk_c rfl (xSk_c rfl (xSk_c rfl (xSk_c rfl (xSk_c rfl (xSk_c rfl (xSk_c rfl (xSk_c rfl (xSk_c rfl (xSk_c rfl (xSk_c rfl (xSk_c rfl (xSk_c rfl (xSk_c rfl (xSk_c rfl (xSk_c rfl (xSk_c rfl xSk_n))))))))))))))))))))))))))))))))))))))))) (by decide +kernel)
set_option maxRecDepth 100000 in
theorem xfl_w1 : ∀ w ∈ xfl_1.map xflW, w ∈ lw_tbl ∧ xgw w = true := xSk_ok (gs := [202, 0, 0, 0, 0, 0, 0, 0, 0, 0, 0, 0, 0, 0, 0, 0, 0, 0, 0, 26, 0, 0, 0, 13, 0, 0, 12, 0, 0, 14, 0, 0, 0, 11, 0, 0, 0, 0, 0, 15]) ((xSk_c rfl (xSk_c rfl (xSk_c rfl (xSk_c rfl (xSk_c rfl (xSk_c rfl (xSk_c rfl (xSk_c rfl (xSk_c rfl (xSk_c rfl (xSk_c rfl (xSk_c rfl (xSk_c rfl (xSk_c rfl (xSk_c rfl (xSk_c rfl (xSk_c rfl (xSk_c rfl (xSk_c rfl (xSk_c rfl (xSk_c rfl (xSk_c rfl (xSk_c rfl (xSk_c rfl (xSk_c rfl (xSk_c rfl (xSk_c rfl (xSk_c rfl (xSk_c rfl (xSk_c rfl (xSk_c rfl (xSk_c rfl (xSk_c rfl (xSk_c rfl (xSk_c rfl (xSk_c rfl (xSk_c rfl (xSk_c rfl (xSk_c rfl (xSk_c rfl xSk_n))))))))))))))))))))))))))))))))))))))))) (by decide +kernel)
set_option maxRecDepth 100000 in
theorem xfl_w2 : ∀ w ∈ xfl_2.map xflW, w ∈ lw_tbl ∧ xgw w = true := xSk_ok (gs := [333, 23, 0, 0, 0, 0, 0, 0, 0, 0, 0, 788, 0, 0, 0, 0, 0, 0, 0, 0, 0, 0, 0, 0, 0, 0, 0, 0, 0, 0, 0, 0, 0, 0, 0, 0, 0, 0, 0, 0]) ((xSk_c rfl (xSk_c rfl (xSk_c rfl (xSk_c rfl (xSk_c rfl (xSk_c rfl (xSk_c rfl (xSk_c rfl (xSk_c rfl (xSk_c rfl (xSk_c rfl (xSk_c rfl (xSk_c rfl (xSk_c rfl (xSk_c rfl (xSk_c rfl (xSk_c rfl (xSk_c rfl (xSk_c rfl (xSk_c rfl (xSk_c rfl (xSk_c rfl (xSk_c rfl (xSk_c rfl (xSk_c rfl (xSk_c rfl (xSk_c rfl (xSk_c rfl (xSk_c rfl (xSk_c rfl (xSk_c rfl (xSk_c rfl (xSk_c rfl (xSk_c rfl (xSk_c rfl (xSk_c rfl (xSk_c rfl (xSk_c rfl (xSk_c rfl (xSk_c rfl xSk_n))))))))))))))))))))))))))))))))))))))))) (by decide +kernel)
set_option maxRecDepth 100000 in
theorem xfl_w3 : ∀ w ∈ xfl_3.map xflW, w ∈ lw_tbl ∧ xgw w = true := xSk_ok (gs := [1184, 0, 0, 0, 0, 0, 0, 0, 0, 0, 0, 0, 0, 0]) ((xSk_c rfl (xSk_c rfl (xSk_c rfl (xSk_c rfl (xSk_c rfl (xSk_c rfl (xSk_c rfl (xSk_c rfl (xSk_c rfl (xSk_c rfl (xSk_c rfl (xSk_c rfl (xSk_c rfl (xSk_c rfl xSk_n))))))))))))))) (by decide +kernel)
theorem xfl_w : ∀ q ∈ xfl, xflW q ∈ lw_tbl ∧ xgw (xflW q) = true := by
  intro q hq
  simp only [xfl, List.mem_append] at hq
  rcases hq with ((hq | hq) | hq) | hq
  · exact xfl_w0 _ (List.mem_map.mpr ⟨q, hq, rfl⟩)
  · exact xfl_w1 _ (List.mem_map.mpr ⟨q, hq, rfl⟩)
  · exact xfl_w2 _ (List.mem_map.mpr ⟨q, hq, rfl⟩)
  · exact xfl_w3 _ (List.mem_map.mpr ⟨q, hq, rfl⟩)
set_option maxRecDepth 100000 in
theorem xfl_b : ∀ q ∈ xfl, q.2.2.1 < 12 ∧ q.2.2.2.1 < (xcT q.2.2.1).2.2 := by decide +kernel
set_option maxRecDepth 100000 in
theorem xcl_w0 : ∀ w ∈ u_ws "RoverLocator$Changes" xT0 3, w ∈ lw_tbl ∧ xgw w = true := xwc_ok (hs := [251, 253, 255]) (by decide +kernel)
set_option maxRecDepth 100000 in
theorem xcl_w1 : ∀ w ∈ u_ws "RoverLocator$Filter" xT1 3, w ∈ lw_tbl ∧ xgw w = true := xwc_ok (hs := [282, 284, 286]) (by decide +kernel)
set_option maxRecDepth 100000 in
theorem xcl_w2 : ∀ w ∈ u_ws "RoverLocator$Grid" xT2 5, w ∈ lw_tbl ∧ xgw w = true := xSk_ok (gs := [130, 1, 1, 1, 1]) ((xSk_c rfl (xSk_c rfl (xSk_c rfl (xSk_c rfl (xSk_c rfl xSk_n)))))) (by decide +kernel)
set_option maxRecDepth 100000 in
theorem xcl_w3 : ∀ w ∈ u_ws "RoverLocator$MapText" xT3 2, w ∈ lw_tbl ∧ xgw w = true := xwc_ok (hs := [267, 269]) (by decide +kernel)
set_option maxRecDepth 100000 in
theorem xcl_w4 : ∀ w ∈ u_ws "RoverLocator$Ranking" xT4 2, w ∈ lw_tbl ∧ xgw w = true := xwc_ok (hs := [300, 302]) (by decide +kernel)
set_option maxRecDepth 100000 in
theorem xcl_w5 : ∀ w ∈ u_ws "RoverLocator$Rows" xT5 4, w ∈ lw_tbl ∧ xgw w = true := xSk_ok (gs := [317, 1, 1, 1]) ((xSk_c rfl (xSk_c rfl (xSk_c rfl (xSk_c rfl xSk_n))))) (by decide +kernel)
set_option maxRecDepth 100000 in
theorem xcl_w6 : ∀ w ∈ u_ws "RoverLocator$State" xT6 8, w ∈ lw_tbl ∧ xgw w = true := xSk_ok (gs := [221, 1, 1, 1, 1, 1, 1, 1]) ((xSk_c rfl (xSk_c rfl (xSk_c rfl (xSk_c rfl (xSk_c rfl (xSk_c rfl (xSk_c rfl (xSk_c rfl xSk_n))))))))) (by decide +kernel)
set_option maxRecDepth 100000 in
theorem xcl_w7 : ∀ w ∈ u_ws "RoverLocator$Tables" xT7 4, w ∈ lw_tbl ∧ xgw w = true := xSk_ok (gs := [162, 1, 1, 1]) ((xSk_c rfl (xSk_c rfl (xSk_c rfl (xSk_c rfl xSk_n))))) (by decide +kernel)
set_option maxRecDepth 100000 in
theorem xcl_w8 : ∀ w ∈ u_ws "RoverLocator$Trail" xT8 5, w ∈ lw_tbl ∧ xgw w = true := xSk_ok (gs := [187, 1, 1, 1, 1]) ((xSk_c rfl (xSk_c rfl (xSk_c rfl (xSk_c rfl (xSk_c rfl xSk_n)))))) (by decide +kernel)
set_option maxRecDepth 100000 in
theorem xcl_w9 : ∀ w ∈ u_ws "RoverLocator$Ways" xT9 1, w ∈ lw_tbl ∧ xgw w = true := xwc_ok (hs := [334]) (by decide +kernel)
set_option maxRecDepth 100000 in
theorem xcl_w10 : ∀ w ∈ u_ws "RoverLocator" xT10 10, w ∈ lw_tbl ∧ xgw w = true := xSk_ok (gs := [367, 1, 1, 1, 1, 1, 1, 1, 1, 1]) ((xSk_c rfl (xSk_c rfl (xSk_c rfl (xSk_c rfl (xSk_c rfl (xSk_c rfl (xSk_c rfl (xSk_c rfl (xSk_c rfl (xSk_c rfl xSk_n))))))))))) (by decide +kernel)
set_option maxRecDepth 100000 in
theorem xcl_w11 : ∀ w ∈ u_ws "RoverLocatorModel" xT11 43, w ∈ lw_tbl ∧ xgw w = true := xSk_ok (gs := [1198, 1, 1, 1, 1, 1, 1, 1, 1, 1, 1, 1, 1, 1, 1, 1, 1, 1, 1, 1, 1, 1, 1, 1, 1, 1, 1, 1, 1, 1, 1, 1, 1, 1, 1, 1, 1, 1, 1, 1, 1, 1, 1]) ((xSk_c rfl (xSk_c rfl (xSk_c rfl (xSk_c rfl (xSk_c rfl (xSk_c rfl (xSk_c rfl (xSk_c rfl (xSk_c rfl (xSk_c rfl (xSk_c rfl (xSk_c rfl (xSk_c rfl (xSk_c rfl (xSk_c rfl (xSk_c rfl (xSk_c rfl (xSk_c rfl (xSk_c rfl (xSk_c rfl (xSk_c rfl (xSk_c rfl (xSk_c rfl (xSk_c rfl (xSk_c rfl (xSk_c rfl (xSk_c rfl (xSk_c rfl (xSk_c rfl (xSk_c rfl (xSk_c rfl (xSk_c rfl (xSk_c rfl (xSk_c rfl (xSk_c rfl (xSk_c rfl (xSk_c rfl (xSk_c rfl (xSk_c rfl (xSk_c rfl (xSk_c rfl (xSk_c rfl (xSk_c rfl xSk_n)))))))))))))))))))))))))))))))))))))))))))) (by decide +kernel)
theorem xcl_in (a : Nat) (h : a < 12) : ∀ w ∈ u_ws (xcT a).1 (xcT a).2.1 (xcT a).2.2, w ∈ lw_tbl ∧ xgw w = true := by
  match a, h with
  | 0, _ => exact xcl_w0
  | 1, _ => exact xcl_w1
  | 2, _ => exact xcl_w2
  | 3, _ => exact xcl_w3
  | 4, _ => exact xcl_w4
  | 5, _ => exact xcl_w5
  | 6, _ => exact xcl_w6
  | 7, _ => exact xcl_w7
  | 8, _ => exact xcl_w8
  | 9, _ => exact xcl_w9
  | 10, _ => exact xcl_w10
  | 11, _ => exact xcl_w11
  | n + 12, h => omega
set_option maxRecDepth 100000 in
theorem xcl_ty : ∀ a, a < 12 → ∀ k, k < (xcT a).2.2 → parseFieldDescriptor ((xcT a).2.1 k).2.2.1 = some (xfty a k) := by decide +kernel
set_option maxRecDepth 100000 in
theorem xcl_nm2 : ∀ a, a < 12 → ∀ i, i < (xcT a).2.2 → ∀ j, j < i → ((xcT a).2.1 i).2.1 ≠ ((xcT a).2.1 j).2.1 := by decide +kernel
theorem xcl_nm : ∀ a, a < 12 → ∀ i, i < (xcT a).2.2 → ∀ j, j < (xcT a).2.2 → i ≠ j → ((xcT a).2.1 i).2.1 ≠ ((xcT a).2.1 j).2.1 := by
  intro a ha i hi j hj h
  rcases Nat.lt_or_gt_of_ne h with h2 | h2
  · exact fun e => xcl_nm2 a ha j hj i h2 e.symm
  · exact xcl_nm2 a ha i hi j h2
theorem xcl_at : ∀ a, a < 12 → xcl[a]? = some ((xcT a).1, (xcT a).2.1, (xcT a).2.2) := by
  intro a h
  match a, h with
  | 0, _ => rfl
  | 1, _ => rfl
  | 2, _ => rfl
  | 3, _ => rfl
  | 4, _ => rfl
  | 5, _ => rfl
  | 6, _ => rfl
  | 7, _ => rfl
  | 8, _ => rfl
  | 9, _ => rfl
  | 10, _ => rfl
  | 11, _ => rfl
  | n + 12, h => omega
set_option maxRecDepth 100000 in
theorem xcl_df : ∀ a, a < 12 → (xdef a).length = (xcT a).2.2 ∧ ∀ j, j < (xcT a).2.2 → (xdef a)[j]? = some (defaultValue (xfty a j)) := by decide +kernel
def xcw (k : Nat) : Cond := match xHh k with | [] => .code (xY k) (xB k) (xNl k) (xRet k) | hh => .codeWith (xY k) (xB k) (xNl k) (xRet k) (hh.map (fun h => (h.1, h.2.1, h.2.2.1, h.2.2.2.1)))
def xall_0 : List (Nat) := [70, 48, 13, 22, 23, 17, 51, 56, 0, 27, 3, 36, 38, 65, 4, 15, 11, 12, 73, 84, 1, 49, 14, 52, 57, 112, 59, 19, 91, 127, 92, 50]
def xall_1 : List (Nat) := [220, 128, 93, 10, 5, 6, 25, 24, 7, 8, 18, 221, 103, 107, 110, 223, 71, 28, 29, 30, 224, 72, 31, 32, 33, 34, 21, 20, 225, 74, 116, 16]
def xall_2 : List (Nat) := [226, 75, 121, 120, 117, 227, 76, 228, 77, 123, 229, 78, 124, 230, 79, 231, 80, 232, 81, 26, 233, 82, 122, 234, 83, 35, 235, 85, 236, 86, 113, 60]
def xall_3 : List (Nat) := [58, 237, 87, 9, 114, 61, 238, 88, 239, 89, 37, 240, 90, 241, 94, 242, 95, 243, 96, 119, 39, 222, 40, 62, 41, 63, 244, 97, 245, 98, 42, 43]
def xall_4 : List (Nat) := [44, 45, 64, 46, 47, 246, 99, 247, 100, 118, 66, 67, 68, 248, 101, 69, 249, 102, 250, 104, 125, 126, 53, 115, 251, 105, 54, 55, 252, 106, 253, 108]
def xall_5 : List (Nat) := [254, 109, 2, 255, 111, 129, 147, 146, 134, 136, 145, 144, 151, 130, 157, 133, 131, 160, 159, 158, 212, 211, 209, 210, 140, 139, 161, 162, 135, 132, 163, 138]
def xall_6 : List (Nat) := [164, 165, 166, 167, 168, 169, 141, 170, 137, 143, 142, 171, 172, 173, 174, 154, 148, 152, 150, 175, 155, 149, 156, 153, 176, 179, 178, 177, 180, 181, 217, 216]
def xall_7 : List (Nat) := [182, 219, 218, 184, 183, 185, 187, 186, 190, 189, 188, 191, 194, 193, 192, 195, 198, 197, 196, 199, 200, 201, 204, 202, 203, 205, 206, 207, 208, 213, 214, 215]
def xall : List (Nat) := xall_0 ++ xall_1 ++ xall_2 ++ xall_3 ++ xall_4 ++ xall_5 ++ xall_6 ++ xall_7
set_option maxRecDepth 100000 in
theorem xall_w0 : ∀ w ∈ xall_0.map xcw, w ∈ lw_tbl ∧ xgw w = true := xSk_ok (gs := [90, 7, 5, 4, 3, 3, 28, 28, 66, 19, 14, 16, 14, 20, 9, 3, 4, 5, 35, 3, 3, 3, 3, 6, 4, 5, 3, 3, 4, 4, 6, 3]) ((xSk_c rfl (xSk_c rfl (xSk_c rfl (xSk_c rfl (xSk_c rfl (xSk_c rfl (xSk_c rfl (xSk_c rfl (xSk_c rfl (xSk_c rfl (xSk_c rfl (xSk_c rfl (xSk_c rfl (xSk_c rfl (xSk_c rfl (xSk_c rfl (xSk_c rfl (xSk_c rfl (xSk_c rfl (xSk_c rfl (xSk_c rfl (xSk_c rfl (xSk_c rfl (xSk_c rfl (xSk_c rfl (xSk_c rfl (xSk_c rfl (xSk_c rfl (xSk_c rfl (xSk_c rfl (xSk_c rfl (xSk_c rfl xSk_n))))))))))))))))))))))))))))))))) (by decide +kernel)
set_option maxRecDepth 100000 in
theorem xall_w1 : ∀ w ∈ xall_1.map xcw, w ∈ lw_tbl ∧ xgw w = true := xSk_ok (gs := [458, 3, 4, 4, 3, 3, 3, 3, 3, 6, 3, 2, 3, 3, 3, 3, 5, 2, 71, 19, 2, 3, 3, 2, 2, 4, 3, 4, 2, 4, 3, 3]) ((xSk_c rfl (xSk_c rfl (xSk_c rfl (xSk_c rfl (xSk_c rfl (xSk_c rfl (xSk_c rfl (xSk_c rfl (xSk_c rfl (xSk_c rfl (xSk_c rfl (xSk_c rfl (xSk_c rfl (xSk_c rfl (xSk_c rfl (xSk_c rfl (xSk_c rfl (xSk_c rfl (xSk_c rfl (xSk_c rfl (xSk_c rfl (xSk_c rfl (xSk_c rfl (xSk_c rfl (xSk_c rfl (xSk_c rfl (xSk_c rfl (xSk_c rfl (xSk_c rfl (xSk_c rfl (xSk_c rfl (xSk_c rfl xSk_n))))))))))))))))))))))))))))))))) (by decide +kernel)
set_option maxRecDepth 100000 in
theorem xall_w2 : ∀ w ∈ xall_2.map xcw, w ∈ lw_tbl ∧ xgw w = true := xSk_ok (gs := [693, 3, 2, 2, 4, 3, 3, 3, 3, 2, 4, 3, 2, 3, 3, 2, 3, 2, 3, 3, 3, 3, 2, 4, 3, 3, 4, 3, 3, 3, 3, 4]) ((xSk_c rfl (xSk_c rfl (xSk_c rfl (xSk_c rfl (xSk_c rfl (xSk_c rfl (xSk_c rfl (xSk_c rfl (xSk_c rfl (xSk_c rfl (xSk_c rfl (xSk_c rfl (xSk_c rfl (xSk_c rfl (xSk_c rfl (xSk_c rfl (xSk_c rfl (xSk_c rfl (xSk_c rfl (xSk_c rfl (xSk_c rfl (xSk_c rfl (xSk_c rfl (xSk_c rfl (xSk_c rfl (xSk_c rfl (xSk_c rfl (xSk_c rfl (xSk_c rfl (xSk_c rfl (xSk_c rfl (xSk_c rfl xSk_n))))))))))))))))))))))))))))))))) (by decide +kernel)
set_option maxRecDepth 100000 in
theorem xall_w3 : ∀ w ∈ xall_3.map xcw, w ∈ lw_tbl ∧ xgw w = true := xSk_ok (gs := [819, 2, 3, 3, 5, 4, 4, 3, 2, 3, 3, 3, 3, 2, 3, 4, 4, 18, 3, 3, 4, 4, 2, 4, 3, 4, 3, 3, 2, 3, 4, 3]) ((xSk_c rfl (xSk_c rfl (xSk_c rfl (xSk_c rfl (xSk_c rfl (xSk_c rfl (xSk_c rfl (xSk_c rfl (xSk_c rfl (xSk_c rfl (xSk_c rfl (xSk_c rfl (xSk_c rfl (xSk_c rfl (xSk_c rfl (xSk_c rfl (xSk_c rfl (xSk_c rfl (xSk_c rfl (xSk_c rfl (xSk_c rfl (xSk_c rfl (xSk_c rfl (xSk_c rfl (xSk_c rfl (xSk_c rfl (xSk_c rfl (xSk_c rfl (xSk_c rfl (xSk_c rfl (xSk_c rfl (xSk_c rfl xSk_n))))))))))))))))))))))))))))))))) (by decide +kernel)
set_option maxRecDepth 100000 in
theorem xall_w4 : ∀ w ∈ xall_4.map xcw, w ∈ lw_tbl ∧ xgw w = true := xSk_ok (gs := [967, 3, 3, 7, 5, 2, 3, 2, 3, 3, 3, 6, 3, 4, 3, 4, 2, 3, 3, 3, 2, 3, 3, 3, 2, 3, 4, 3, 2, 3, 2, 3]) ((xSk_c rfl (xSk_c rfl (xSk_c rfl (xSk_c rfl (xSk_c rfl (xSk_c rfl (xSk_c rfl (xSk_c rfl (xSk_c rfl (xSk_c rfl (xSk_c rfl (xSk_c rfl (xSk_c rfl (xSk_c rfl (xSk_c rfl (xSk_c rfl (xSk_c rfl (xSk_c rfl (xSk_c rfl (xSk_c rfl (xSk_c rfl (xSk_c rfl (xSk_c rfl (xSk_c rfl (xSk_c rfl (xSk_c rfl (xSk_c rfl (xSk_c rfl (xSk_c rfl (xSk_c rfl (xSk_c rfl (xSk_c rfl xSk_n))))))))))))))))))))))))))))))))) (by decide +kernel)
set_option maxRecDepth 100000 in
theorem xall_w5 : ∀ w ∈ xall_5.map xcw, w ∈ lw_tbl ∧ xgw w = true := xSk_ok (gs := [1100, 3, 4, 2, 3, 5, 4, 3, 3, 3, 3, 3, 6, 133, 3, 2, 3, 3, 3, 2, 3, 3, 3, 3, 3, 3, 3, 3, 3, 3, 3, 2]) ((xSk_c rfl (xSk_c rfl (xSk_c rfl (xSk_c rfl (xSk_c rfl (xSk_c rfl (xSk_c rfl (xSk_c rfl (xSk_c rfl (xSk_c rfl (xSk_c rfl (xSk_c rfl (xSk_c rfl (xSk_c rfl (xSk_c rfl (xSk_c rfl (xSk_c rfl (xSk_c rfl (xSk_c rfl (xSk_c rfl (xSk_c rfl (xSk_c rfl (xSk_c rfl (xSk_c rfl (xSk_c rfl (xSk_c rfl (xSk_c rfl (xSk_c rfl (xSk_c rfl (xSk_c rfl (xSk_c rfl (xSk_c rfl xSk_n))))))))))))))))))))))))))))))))) (by decide +kernel)
set_option maxRecDepth 100000 in
theorem xall_w6 : ∀ w ∈ xall_6.map xcw, w ∈ lw_tbl ∧ xgw w = true := xSk_ok (gs := [1361, 3, 3, 3, 3, 3, 3, 3, 2, 3, 3, 3, 3, 3, 3, 3, 3, 5, 3, 3, 3, 3, 3, 3, 3, 3, 3, 3, 3, 3, 3, 2]) ((xSk_c rfl (xSk_c rfl (xSk_c rfl (xSk_c rfl (xSk_c rfl (xSk_c rfl (xSk_c rfl (xSk_c rfl (xSk_c rfl (xSk_c rfl (xSk_c rfl (xSk_c rfl (xSk_c rfl (xSk_c rfl (xSk_c rfl (xSk_c rfl (xSk_c rfl (xSk_c rfl (xSk_c rfl (xSk_c rfl (xSk_c rfl (xSk_c rfl (xSk_c rfl (xSk_c rfl (xSk_c rfl (xSk_c rfl (xSk_c rfl (xSk_c rfl (xSk_c rfl (xSk_c rfl (xSk_c rfl (xSk_c rfl xSk_n))))))))))))))))))))))))))))))))) (by decide +kernel)
set_option maxRecDepth 100000 in
theorem xall_w7 : ∀ w ∈ xall_7.map xcw, w ∈ lw_tbl ∧ xgw w = true := xSk_ok (gs := [1493, 3, 2, 7, 3, 3, 3, 3, 3, 3, 3, 3, 3, 3, 3, 3, 3, 3, 3, 3, 3, 3, 3, 3, 4, 3, 3, 3, 3, 3, 3, 3]) ((xSk_c rfl (xSk_c rfl (xSk_c rfl (xSk_c rfl (xSk_c rfl (xSk_c rfl (xSk_c rfl (xSk_c rfl (xSk_c rfl (xSk_c rfl (xSk_c rfl (xSk_c rfl (xSk_c rfl (xSk_c rfl (xSk_c rfl (xSk_c rfl (xSk_c rfl (xSk_c rfl (xSk_c rfl (xSk_c rfl (xSk_c rfl (xSk_c rfl (xSk_c rfl (xSk_c rfl (xSk_c rfl (xSk_c rfl (xSk_c rfl (xSk_c rfl (xSk_c rfl (xSk_c rfl (xSk_c rfl (xSk_c rfl xSk_n))))))))))))))))))))))))))))))))) (by decide +kernel)
theorem xall_w : ∀ q ∈ xall, xcw q ∈ lw_tbl ∧ xgw (xcw q) = true := by
  intro q hq
  simp only [xall, List.mem_append] at hq
  rcases hq with ((((((hq | hq) | hq) | hq) | hq) | hq) | hq) | hq
  · exact xall_w0 _ (List.mem_map.mpr ⟨q, hq, rfl⟩)
  · exact xall_w1 _ (List.mem_map.mpr ⟨q, hq, rfl⟩)
  · exact xall_w2 _ (List.mem_map.mpr ⟨q, hq, rfl⟩)
  · exact xall_w3 _ (List.mem_map.mpr ⟨q, hq, rfl⟩)
  · exact xall_w4 _ (List.mem_map.mpr ⟨q, hq, rfl⟩)
  · exact xall_w5 _ (List.mem_map.mpr ⟨q, hq, rfl⟩)
  · exact xall_w6 _ (List.mem_map.mpr ⟨q, hq, rfl⟩)
  · exact xall_w7 _ (List.mem_map.mpr ⟨q, hq, rfl⟩)
def xmemN (k : Nat) : List Nat → Bool
  | [] => false
  | a :: l => bif Nat.beq a k then true else xmemN k l
theorem xmemN_ok {k : Nat} : ∀ {l : List Nat}, xmemN k l = true → k ∈ l
  | a :: l, h => by
    unfold xmemN at h
    cases hb : Nat.beq a k with
    | true => rw [Nat.eq_of_beq_eq_true hb]; exact List.mem_cons_self
    | false => rw [hb] at h; exact List.mem_cons_of_mem _ (xmemN_ok h)
  | [], h => by cases h
set_option maxRecDepth 100000 in
theorem xall_m : (List.range 256).all (fun k => xmemN k xall) = true := by decide +kernel
theorem xall_in : ∀ k, k < 256 → k ∈ xall := fun k h => xmemN_ok (List.all_eq_true.mp xall_m k (List.mem_range.mpr h))
def xini_0 : List (Nat) := [12, 10, 6, 2, 7, 8, 0, 3, 1, 4, 5, 9, 11, 15, 13, 14]
def xini : List (Nat) := xini_0
set_option maxRecDepth 100000 in
theorem xini_w0 : ∀ w ∈ xini_0.map (fun c => Cond.initialized (xcn c)), w ∈ lw_tbl ∧ xgw w = true := xSk_ok (gs := [61, 0, 0, 0, 0, 0, 0, 0, 0, 0, 0, 0, 0, 7, 1, 0]) ((xSk_c rfl (xSk_c rfl (xSk_c rfl (xSk_c rfl (xSk_c rfl (xSk_c rfl (xSk_c rfl (xSk_c rfl (xSk_c rfl (xSk_c rfl (xSk_c rfl (xSk_c rfl (xSk_c rfl (xSk_c rfl (xSk_c rfl (xSk_c rfl xSk_n))))))))))))))))) (by decide +kernel)
theorem xini_w : ∀ q ∈ xini, (fun c => Cond.initialized (xcn c)) q ∈ lw_tbl ∧ xgw ((fun c => Cond.initialized (xcn c)) q) = true := by
  intro q hq
  simp only [xini, List.mem_append] at hq
  exact xini_w0 _ (List.mem_map.mpr ⟨q, hq, rfl⟩)
set_option maxRecDepth 100000 in
theorem xini_k : ∀ k, k < 257 → xK k ∈ xini := by decide +kernel
theorem xmemR {lo n k : Nat} {l : List Nat} (e : l = (List.range n).map (fun i => lo + i)) (h1 : lo ≤ k) (h2 : k < lo + n) : k ∈ l := e ▸ List.mem_map.mpr ⟨k - lo, List.mem_range.mpr (by omega), by omega⟩
def xdl : List String := ["()V", "(LRoverLocator$State;)V", "(LRoverLocator$Grid;[I)V", "(LRoverLocator$State;I[I)V", "(LRoverLocator$State;I)V", "(LRoverLocator$State;[II)J", "(LRoverLocator$State;I)I", "(LRoverLocator$State;I)J", "([II)V", "(I)I", "(LRoverLocator$Grid;)V", "()I", "(I)Z", "(II)V", "(III)V", "(II)I", "(III)I", "(I)V", "(II)Z", "(C)I", "(LRoverLocator$Grid;I)I", "(LRoverLocator$State;I)Z", "(LRoverLocator$State;II)V", "(LRoverLocator$State;)J", "(LRoverLocator$State;III)I", "(LRoverLocator$State;III)J", "(LRoverLocator$State;)I", "(LRoverLocator$State;II)I", "(LRoverLocator$Tables;)V", "(LRoverLocator$Trail;)V", "(ILRoverLocator$Tables;)V", "(ILRoverLocator$Grid;LRoverLocator$Tables;)V", "(LRoverLocator$Grid;III)J", "(LRoverLocator$Grid;I)V", "(LRoverLocator$Grid;I)Z", "(LRoverLocator$Grid;II)I", "(IZ)Z", "()J", "(I)J", "(D)J", "(F)I", "(III)Z", "([IIIII)I", "([I)V", "()Z", "(III)J", "([I[I)V", "(I[I)I", "([IIZ)V", "(D)Z", "(F)Z", "(JJ)J", "(LRoverLocator;I[J)I", "(LRoverLocator;[J)I", "(LRoverLocator;IZ[J)I", "(LRoverLocator;II[J)I", "(LRoverLocator;III[J)I", "([I)Z"]
def xds (i : Nat) : String := xdl.getD i ""
def xdn (i : Nat) : Nat := ([0, 1, 2, 3, 2, 3, 2, 2, 2, 1, 1, 0, 1, 2, 3, 2, 3, 1, 2, 1, 2, 2, 3, 1, 4, 4, 1, 3, 1, 1, 2, 3, 4, 2, 2, 3, 2, 0, 1, 1, 1, 3, 5, 1, 0, 3, 2, 2, 3, 1, 1, 2, 3, 2, 4, 4, 5, 1] : List Nat).getD i 0
def xdch (i : Nat) : List Char := ([['(', ')', 'V'], ['(', 'L', 'R', 'o', 'v', 'e', 'r', 'L', 'o', 'c', 'a', 't', 'o', 'r', '$', 'S', 't', 'a', 't', 'e', ';', ')', 'V'], ['(', 'L', 'R', 'o', 'v', 'e', 'r', 'L', 'o', 'c', 'a', 't', 'o', 'r', '$', 'G', 'r', 'i', 'd', ';', '[', 'I', ')', 'V'], ['(', 'L', 'R', 'o', 'v', 'e', 'r', 'L', 'o', 'c', 'a', 't', 'o', 'r', '$', 'S', 't', 'a', 't', 'e', ';', 'I', '[', 'I', ')', 'V'], ['(', 'L', 'R', 'o', 'v', 'e', 'r', 'L', 'o', 'c', 'a', 't', 'o', 'r', '$', 'S', 't', 'a', 't', 'e', ';', 'I', ')', 'V'], ['(', 'L', 'R', 'o', 'v', 'e', 'r', 'L', 'o', 'c', 'a', 't', 'o', 'r', '$', 'S', 't', 'a', 't', 'e', ';', '[', 'I', 'I', ')', 'J'], ['(', 'L', 'R', 'o', 'v', 'e', 'r', 'L', 'o', 'c', 'a', 't', 'o', 'r', '$', 'S', 't', 'a', 't', 'e', ';', 'I', ')', 'I'], ['(', 'L', 'R', 'o', 'v', 'e', 'r', 'L', 'o', 'c', 'a', 't', 'o', 'r', '$', 'S', 't', 'a', 't', 'e', ';', 'I', ')', 'J'], ['(', '[', 'I', 'I', ')', 'V'], ['(', 'I', ')', 'I'], ['(', 'L', 'R', 'o', 'v', 'e', 'r', 'L', 'o', 'c', 'a', 't', 'o', 'r', '$', 'G', 'r', 'i', 'd', ';', ')', 'V'], ['(', ')', 'I'], ['(', 'I', ')', 'Z'], ['(', 'I', 'I', ')', 'V'], ['(', 'I', 'I', 'I', ')', 'V'], ['(', 'I', 'I', ')', 'I'], ['(', 'I', 'I', 'I', ')', 'I'], ['(', 'I', ')', 'V'], ['(', 'I', 'I', ')', 'Z'], ['(', 'C', ')', 'I'], ['(', 'L', 'R', 'o', 'v', 'e', 'r', 'L', 'o', 'c', 'a', 't', 'o', 'r', '$', 'G', 'r', 'i', 'd', ';', 'I', ')', 'I'], ['(', 'L', 'R', 'o', 'v', 'e', 'r', 'L', 'o', 'c', 'a', 't', 'o', 'r', '$', 'S', 't', 'a', 't', 'e', ';', 'I', ')', 'Z'], ['(', 'L', 'R', 'o', 'v', 'e', 'r', 'L', 'o', 'c', 'a', 't', 'o', 'r', '$', 'S', 't', 'a', 't', 'e', ';', 'I', 'I', ')', 'V'], ['(', 'L', 'R', 'o', 'v', 'e', 'r', 'L', 'o', 'c', 'a', 't', 'o', 'r', '$', 'S', 't', 'a', 't', 'e', ';', ')', 'J'], ['(', 'L', 'R', 'o', 'v', 'e', 'r', 'L', 'o', 'c', 'a', 't', 'o', 'r', '$', 'S', 't', 'a', 't', 'e', ';', 'I', 'I', 'I', ')', 'I'], ['(', 'L', 'R', 'o', 'v', 'e', 'r', 'L', 'o', 'c', 'a', 't', 'o', 'r', '$', 'S', 't', 'a', 't', 'e', ';', 'I', 'I', 'I', ')', 'J'], ['(', 'L', 'R', 'o', 'v', 'e', 'r', 'L', 'o', 'c', 'a', 't', 'o', 'r', '$', 'S', 't', 'a', 't', 'e', ';', ')', 'I'], ['(', 'L', 'R', 'o', 'v', 'e', 'r', 'L', 'o', 'c', 'a', 't', 'o', 'r', '$', 'S', 't', 'a', 't', 'e', ';', 'I', 'I', ')', 'I'], ['(', 'L', 'R', 'o', 'v', 'e', 'r', 'L', 'o', 'c', 'a', 't', 'o', 'r', '$', 'T', 'a', 'b', 'l', 'e', 's', ';', ')', 'V'], ['(', 'L', 'R', 'o', 'v', 'e', 'r', 'L', 'o', 'c', 'a', 't', 'o', 'r', '$', 'T', 'r', 'a', 'i', 'l', ';', ')', 'V'], ['(', 'I', 'L', 'R', 'o', 'v', 'e', 'r', 'L', 'o', 'c', 'a', 't', 'o', 'r', '$', 'T', 'a', 'b', 'l', 'e', 's', ';', ')', 'V'], ['(', 'I', 'L', 'R', 'o', 'v', 'e', 'r', 'L', 'o', 'c', 'a', 't', 'o', 'r', '$', 'G', 'r', 'i', 'd', ';', 'L', 'R', 'o', 'v', 'e', 'r', 'L', 'o', 'c', 'a', 't', 'o', 'r', '$', 'T', 'a', 'b', 'l', 'e', 's', ';', ')', 'V'], ['(', 'L', 'R', 'o', 'v', 'e', 'r', 'L', 'o', 'c', 'a', 't', 'o', 'r', '$', 'G', 'r', 'i', 'd', ';', 'I', 'I', 'I', ')', 'J'], ['(', 'L', 'R', 'o', 'v', 'e', 'r', 'L', 'o', 'c', 'a', 't', 'o', 'r', '$', 'G', 'r', 'i', 'd', ';', 'I', ')', 'V'], ['(', 'L', 'R', 'o', 'v', 'e', 'r', 'L', 'o', 'c', 'a', 't', 'o', 'r', '$', 'G', 'r', 'i', 'd', ';', 'I', ')', 'Z'], ['(', 'L', 'R', 'o', 'v', 'e', 'r', 'L', 'o', 'c', 'a', 't', 'o', 'r', '$', 'G', 'r', 'i', 'd', ';', 'I', 'I', ')', 'I'], ['(', 'I', 'Z', ')', 'Z'], ['(', ')', 'J'], ['(', 'I', ')', 'J'], ['(', 'D', ')', 'J'], ['(', 'F', ')', 'I'], ['(', 'I', 'I', 'I', ')', 'Z'], ['(', '[', 'I', 'I', 'I', 'I', 'I', ')', 'I'], ['(', '[', 'I', ')', 'V'], ['(', ')', 'Z'], ['(', 'I', 'I', 'I', ')', 'J'], ['(', '[', 'I', '[', 'I', ')', 'V'], ['(', 'I', '[', 'I', ')', 'I'], ['(', '[', 'I', 'I', 'Z', ')', 'V'], ['(', 'D', ')', 'Z'], ['(', 'F', ')', 'Z'], ['(', 'J', 'J', ')', 'J'], ['(', 'L', 'R', 'o', 'v', 'e', 'r', 'L', 'o', 'c', 'a', 't', 'o', 'r', ';', 'I', '[', 'J', ')', 'I'], ['(', 'L', 'R', 'o', 'v', 'e', 'r', 'L', 'o', 'c', 'a', 't', 'o', 'r', ';', '[', 'J', ')', 'I'], ['(', 'L', 'R', 'o', 'v', 'e', 'r', 'L', 'o', 'c', 'a', 't', 'o', 'r', ';', 'I', 'Z', '[', 'J', ')', 'I'], ['(', 'L', 'R', 'o', 'v', 'e', 'r', 'L', 'o', 'c', 'a', 't', 'o', 'r', ';', 'I', 'I', '[', 'J', ')', 'I'], ['(', 'L', 'R', 'o', 'v', 'e', 'r', 'L', 'o', 'c', 'a', 't', 'o', 'r', ';', 'I', 'I', 'I', '[', 'J', ')', 'I'], ['(', '[', 'I', ')', 'Z']] : List (List Char)).getD i []
theorem xdch_n : ∀ x ∈ ([] : List Nat), xds x = String.ofList (xdch x) := fun _ h => absurd h List.not_mem_nil
theorem xdch_c {a : Nat} {l : List Nat} (h : xds a = String.ofList (xdch a)) (t : ∀ x ∈ l, xds x = String.ofList (xdch x)) : ∀ x ∈ a :: l, xds x = String.ofList (xdch x) := fun x hx => (List.mem_cons.mp hx).elim (fun e => e ▸ h) (t x)
set_option maxRecDepth 100000 in
theorem xdch_e : ∀ k ∈ ([0, 1, 2, 3, 4, 5, 6, 7, 8, 9, 10, 11, 12, 13, 14, 15, 16, 17, 18, 19, 20, 21, 22, 23, 24, 25, 26, 27, 28, 29, 30, 31, 32, 33, 34, 35, 36, 37, 38, 39, 40, 41, 42, 43, 44, 45, 46, 47, 48, 49, 50, 51, 52, 53, 54, 55, 56, 57] : List Nat), xds k = String.ofList (xdch k) := xdch_c rfl (xdch_c rfl (xdch_c rfl (xdch_c rfl (xdch_c rfl (xdch_c rfl (xdch_c rfl (xdch_c rfl (xdch_c rfl (xdch_c rfl (xdch_c rfl (xdch_c rfl (xdch_c rfl (xdch_c rfl (xdch_c rfl (xdch_c rfl (xdch_c rfl (xdch_c rfl (xdch_c rfl (xdch_c rfl (xdch_c rfl (xdch_c rfl (xdch_c rfl (xdch_c rfl (xdch_c rfl (xdch_c rfl (xdch_c rfl (xdch_c rfl (xdch_c rfl (xdch_c rfl (xdch_c rfl (xdch_c rfl (xdch_c rfl (xdch_c rfl (xdch_c rfl (xdch_c rfl (xdch_c rfl (xdch_c rfl (xdch_c rfl (xdch_c rfl (xdch_c rfl (xdch_c rfl (xdch_c rfl (xdch_c rfl (xdch_c rfl (xdch_c rfl (xdch_c rfl (xdch_c rfl (xdch_c rfl (xdch_c rfl (xdch_c rfl (xdch_c rfl (xdch_c rfl (xdch_c rfl (xdch_c rfl (xdch_c rfl (xdch_c rfl (xdch_c rfl (xdch_n))))))))))))))))))))))))))))))))))))))))))))))))))))))))))
set_option maxRecDepth 100000 in
theorem xds_q : ∀ i, i < 58 → (parseMethodDescriptor (String.ofList (xdch i))).map (fun d => d.parameters.length) = some (xdn i) := by
  unfold parseMethodDescriptor
  simp only [String.toList_ofList]
  decide +kernel
theorem xds_p : ∀ i, i < 58 → (parseMethodDescriptor (xds i)).map (fun d => d.parameters.length) = some (xdn i) := fun i h => (xdch_e i (xmemR (lo := 0) (n := 58) rfl (by omega) (by omega))) ▸ xds_q i h
def xmP (k : Nat) : Prop := ∃ i, i < 58 ∧ ((xY k).cls, (xY k).desc, xNa k) = (xcn (xK k), xds i, xdn i)
theorem xAd_n {P : Nat → Prop} : ∀ x ∈ ([] : List Nat), P x := fun _ h => absurd h List.not_mem_nil
theorem xAd_c {a : Nat} {l : List Nat} (i : Nat) (hi : Nat.blt i 58 = true) (h : ((xY a).cls, (xY a).desc, xNa a) = (xcn (xK a), xds i, xdn i)) (t : ∀ x ∈ l, xmP x) : ∀ x ∈ a :: l, xmP x := fun x hx => (List.mem_cons.mp hx).elim (fun e => e ▸ ⟨i, Nat.le_of_ble_eq_true hi, h⟩) (t x)
set_option maxRecDepth 100000 in
theorem xmp_0 : ∀ k ∈ ([0, 1, 2, 3, 4, 5, 6, 7, 8, 9, 10, 11, 12, 13, 14, 15, 16, 17, 18, 19, 20, 21, 22, 23, 24, 25, 26, 27, 28, 29, 30, 31] : List Nat), xmP k := xAd_c 0 rfl rfl (xAd_c 1 rfl rfl (xAd_c 1 rfl rfl (xAd_c 0 rfl rfl (xAd_c 2 rfl rfl (xAd_c 3 rfl rfl (xAd_c 4 rfl rfl (xAd_c 1 rfl rfl (xAd_c 5 rfl rfl (xAd_c 6 rfl rfl (xAd_c 7 rfl rfl (xAd_c 8 rfl rfl (xAd_c 9 rfl rfl (xAd_c 0 rfl rfl (xAd_c 10 rfl rfl (xAd_c 11 rfl rfl (xAd_c 12 rfl rfl (xAd_c 12 rfl rfl (xAd_c 9 rfl rfl (xAd_c 11 rfl rfl (xAd_c 11 rfl rfl (xAd_c 13 rfl rfl (xAd_c 0 rfl rfl (xAd_c 14 rfl rfl (xAd_c 15 rfl rfl (xAd_c 16 rfl rfl (xAd_c 9 rfl rfl (xAd_c 0 rfl rfl (xAd_c 12 rfl rfl (xAd_c 9 rfl rfl (xAd_c 17 rfl rfl (xAd_c 11 rfl rfl (xAd_n))))))))))))))))))))))))))))))))
set_option maxRecDepth 100000 in
theorem xmp_1 : ∀ k ∈ ([32, 33, 34, 35, 36, 37, 38, 39, 40, 41, 42, 43, 44, 45, 46, 47, 48, 49, 50, 51, 52, 53, 54, 55, 56, 57, 58, 59, 60, 61, 62, 63] : List Nat), xmP k := xAd_c 18 rfl rfl (xAd_c 19 rfl rfl (xAd_c 10 rfl rfl (xAd_c 20 rfl rfl (xAd_c 0 rfl rfl (xAd_c 1 rfl rfl (xAd_c 0 rfl rfl (xAd_c 1 rfl rfl (xAd_c 21 rfl rfl (xAd_c 22 rfl rfl (xAd_c 23 rfl rfl (xAd_c 4 rfl rfl (xAd_c 24 rfl rfl (xAd_c 25 rfl rfl (xAd_c 26 rfl rfl (xAd_c 27 rfl rfl (xAd_c 0 rfl rfl (xAd_c 1 rfl rfl (xAd_c 11 rfl rfl (xAd_c 0 rfl rfl (xAd_c 28 rfl rfl (xAd_c 9 rfl rfl (xAd_c 9 rfl rfl (xAd_c 15 rfl rfl (xAd_c 0 rfl rfl (xAd_c 29 rfl rfl (xAd_c 11 rfl rfl (xAd_c 17 rfl rfl (xAd_c 30 rfl rfl (xAd_c 31 rfl rfl (xAd_c 12 rfl rfl (xAd_c 15 rfl rfl (xAd_n))))))))))))))))))))))))))))))))
set_option maxRecDepth 100000 in
theorem xmp_2 : ∀ k ∈ ([64, 65, 66, 67, 68, 69, 70, 71, 72, 73, 74, 75, 76, 77, 78, 79, 80, 81, 82, 83, 84, 85, 86, 87, 88, 89, 90, 91, 92, 93, 94, 95] : List Nat), xmP k := xAd_c 32 rfl rfl (xAd_c 0 rfl rfl (xAd_c 33 rfl rfl (xAd_c 34 rfl rfl (xAd_c 35 rfl rfl (xAd_c 20 rfl rfl (xAd_c 0 rfl rfl (xAd_c 9 rfl rfl (xAd_c 11 rfl rfl (xAd_c 11 rfl rfl (xAd_c 36 rfl rfl (xAd_c 15 rfl rfl (xAd_c 15 rfl rfl (xAd_c 16 rfl rfl (xAd_c 16 rfl rfl (xAd_c 9 rfl rfl (xAd_c 9 rfl rfl (xAd_c 15 rfl rfl (xAd_c 16 rfl rfl (xAd_c 9 rfl rfl (xAd_c 11 rfl rfl (xAd_c 9 rfl rfl (xAd_c 9 rfl rfl (xAd_c 12 rfl rfl (xAd_c 9 rfl rfl (xAd_c 9 rfl rfl (xAd_c 9 rfl rfl (xAd_c 37 rfl rfl (xAd_c 11 rfl rfl (xAd_c 11 rfl rfl (xAd_c 9 rfl rfl (xAd_c 9 rfl rfl (xAd_n))))))))))))))))))))))))))))))))
set_option maxRecDepth 100000 in
theorem xmp_3 : ∀ k ∈ ([96, 97, 98, 99, 100, 101, 102, 103, 104, 105, 106, 107, 108, 109, 110, 111, 112, 113, 114, 115, 116, 117, 118, 119, 120, 121, 122, 123, 124, 125, 126, 127] : List Nat), xmP k := xAd_c 38 rfl rfl (xAd_c 11 rfl rfl (xAd_c 9 rfl rfl (xAd_c 37 rfl rfl (xAd_c 15 rfl rfl (xAd_c 15 rfl rfl (xAd_c 9 rfl rfl (xAd_c 9 rfl rfl (xAd_c 9 rfl rfl (xAd_c 11 rfl rfl (xAd_c 9 rfl rfl (xAd_c 11 rfl rfl (xAd_c 9 rfl rfl (xAd_c 11 rfl rfl (xAd_c 11 rfl rfl (xAd_c 11 rfl rfl (xAd_c 0 rfl rfl (xAd_c 17 rfl rfl (xAd_c 13 rfl rfl (xAd_c 0 rfl rfl (xAd_c 17 rfl rfl (xAd_c 17 rfl rfl (xAd_c 13 rfl rfl (xAd_c 0 rfl rfl (xAd_c 12 rfl rfl (xAd_c 17 rfl rfl (xAd_c 17 rfl rfl (xAd_c 17 rfl rfl (xAd_c 13 rfl rfl (xAd_c 9 rfl rfl (xAd_c 15 rfl rfl (xAd_c 39 rfl rfl (xAd_n))))))))))))))))))))))))))))))))
set_option maxRecDepth 100000 in
theorem xmp_4 : ∀ k ∈ ([128, 129, 130, 131, 132, 133, 134, 135, 136, 137, 138, 139, 140, 141, 142, 143, 144, 145, 146, 147, 148, 149, 150, 151, 152, 153, 154, 155, 156, 157, 158, 159] : List Nat), xmP k := xAd_c 40 rfl rfl (xAd_c 0 rfl rfl (xAd_c 11 rfl rfl (xAd_c 9 rfl rfl (xAd_c 12 rfl rfl (xAd_c 41 rfl rfl (xAd_c 11 rfl rfl (xAd_c 12 rfl rfl (xAd_c 12 rfl rfl (xAd_c 12 rfl rfl (xAd_c 12 rfl rfl (xAd_c 11 rfl rfl (xAd_c 11 rfl rfl (xAd_c 15 rfl rfl (xAd_c 16 rfl rfl (xAd_c 42 rfl rfl (xAd_c 37 rfl rfl (xAd_c 43 rfl rfl (xAd_c 0 rfl rfl (xAd_c 0 rfl rfl (xAd_c 17 rfl rfl (xAd_c 8 rfl rfl (xAd_c 11 rfl rfl (xAd_c 17 rfl rfl (xAd_c 17 rfl rfl (xAd_c 17 rfl rfl (xAd_c 17 rfl rfl (xAd_c 12 rfl rfl (xAd_c 17 rfl rfl (xAd_c 9 rfl rfl (xAd_c 9 rfl rfl (xAd_c 44 rfl rfl (xAd_n))))))))))))))))))))))))))))))))
set_option maxRecDepth 100000 in
theorem xmp_5 : ∀ k ∈ ([160, 161, 162, 163, 164, 165, 166, 167, 168, 169, 170, 171, 172, 173, 174, 175, 176, 177, 178, 179, 180, 181, 182, 183, 184, 185, 186, 187, 188, 189, 190, 191] : List Nat), xmP k := xAd_c 11 rfl rfl (xAd_c 11 rfl rfl (xAd_c 36 rfl rfl (xAd_c 15 rfl rfl (xAd_c 15 rfl rfl (xAd_c 16 rfl rfl (xAd_c 16 rfl rfl (xAd_c 9 rfl rfl (xAd_c 9 rfl rfl (xAd_c 15 rfl rfl (xAd_c 16 rfl rfl (xAd_c 9 rfl rfl (xAd_c 11 rfl rfl (xAd_c 9 rfl rfl (xAd_c 9 rfl rfl (xAd_c 12 rfl rfl (xAd_c 9 rfl rfl (xAd_c 9 rfl rfl (xAd_c 9 rfl rfl (xAd_c 9 rfl rfl (xAd_c 9 rfl rfl (xAd_c 37 rfl rfl (xAd_c 11 rfl rfl (xAd_c 38 rfl rfl (xAd_c 11 rfl rfl (xAd_c 9 rfl rfl (xAd_c 44 rfl rfl (xAd_c 9 rfl rfl (xAd_c 45 rfl rfl (xAd_c 0 rfl rfl (xAd_c 38 rfl rfl (xAd_c 11 rfl rfl (xAd_n))))))))))))))))))))))))))))))))
set_option maxRecDepth 100000 in
theorem xmp_6 : ∀ k ∈ ([192, 193, 194, 195, 196, 197, 198, 199, 200, 201, 202, 203, 204, 205, 206, 207, 208, 209, 210, 211, 212, 213, 214, 215, 216, 217, 218, 219, 220, 221, 222, 223] : List Nat), xmP k := xAd_c 0 rfl rfl (xAd_c 0 rfl rfl (xAd_c 9 rfl rfl (xAd_c 37 rfl rfl (xAd_c 17 rfl rfl (xAd_c 15 rfl rfl (xAd_c 15 rfl rfl (xAd_c 15 rfl rfl (xAd_c 9 rfl rfl (xAd_c 9 rfl rfl (xAd_c 9 rfl rfl (xAd_c 0 rfl rfl (xAd_c 9 rfl rfl (xAd_c 11 rfl rfl (xAd_c 9 rfl rfl (xAd_c 11 rfl rfl (xAd_c 9 rfl rfl (xAd_c 46 rfl rfl (xAd_c 47 rfl rfl (xAd_c 48 rfl rfl (xAd_c 0 rfl rfl (xAd_c 11 rfl rfl (xAd_c 11 rfl rfl (xAd_c 11 rfl rfl (xAd_c 49 rfl rfl (xAd_c 39 rfl rfl (xAd_c 50 rfl rfl (xAd_c 40 rfl rfl (xAd_c 15 rfl rfl (xAd_c 51 rfl rfl (xAd_c 15 rfl rfl (xAd_c 52 rfl rfl (xAd_n))))))))))))))))))))))))))))))))
set_option maxRecDepth 100000 in
theorem xmp_7 : ∀ k ∈ ([224, 225, 226, 227, 228, 229, 230, 231, 232, 233, 234, 235, 236, 237, 238, 239, 240, 241, 242, 243, 244, 245, 246, 247, 248, 249, 250, 251, 252, 253, 254, 255] : List Nat), xmP k := xAd_c 53 rfl rfl (xAd_c 54 rfl rfl (xAd_c 55 rfl rfl (xAd_c 55 rfl rfl (xAd_c 56 rfl rfl (xAd_c 56 rfl rfl (xAd_c 52 rfl rfl (xAd_c 52 rfl rfl (xAd_c 55 rfl rfl (xAd_c 56 rfl rfl (xAd_c 52 rfl rfl (xAd_c 52 rfl rfl (xAd_c 52 rfl rfl (xAd_c 52 rfl rfl (xAd_c 52 rfl rfl (xAd_c 52 rfl rfl (xAd_c 52 rfl rfl (xAd_c 52 rfl rfl (xAd_c 52 rfl rfl (xAd_c 52 rfl rfl (xAd_c 53 rfl rfl (xAd_c 52 rfl rfl (xAd_c 53 rfl rfl (xAd_c 55 rfl rfl (xAd_c 55 rfl rfl (xAd_c 52 rfl rfl (xAd_c 52 rfl rfl (xAd_c 53 rfl rfl (xAd_c 52 rfl rfl (xAd_c 52 rfl rfl (xAd_c 53 rfl rfl (xAd_c 53 rfl rfl (xAd_n))))))))))))))))))))))))))))))))
set_option maxRecDepth 100000 in
theorem xmp_8 : ∀ k ∈ ([256] : List Nat), xmP k := xAd_c 57 rfl rfl (xAd_n)
theorem xmp (k : Nat) (h : k < 257) : xmP k := by
  have hk : (0 ≤ k ∧ k < 32) ∨ (32 ≤ k ∧ k < 64) ∨ (64 ≤ k ∧ k < 96) ∨ (96 ≤ k ∧ k < 128) ∨ (128 ≤ k ∧ k < 160) ∨ (160 ≤ k ∧ k < 192) ∨ (192 ≤ k ∧ k < 224) ∨ (224 ≤ k ∧ k < 256) ∨ (256 ≤ k ∧ k < 257) := by omega
  rcases hk with hk | hk | hk | hk | hk | hk | hk | hk | hk
  · exact xmp_0 k (xmemR (lo := 0) (n := 32) rfl hk.1 (by omega))
  · exact xmp_1 k (xmemR (lo := 32) (n := 32) rfl hk.1 (by omega))
  · exact xmp_2 k (xmemR (lo := 64) (n := 32) rfl hk.1 (by omega))
  · exact xmp_3 k (xmemR (lo := 96) (n := 32) rfl hk.1 (by omega))
  · exact xmp_4 k (xmemR (lo := 128) (n := 32) rfl hk.1 (by omega))
  · exact xmp_5 k (xmemR (lo := 160) (n := 32) rfl hk.1 (by omega))
  · exact xmp_6 k (xmemR (lo := 192) (n := 32) rfl hk.1 (by omega))
  · exact xmp_7 k (xmemR (lo := 224) (n := 32) rfl hk.1 (by omega))
  · exact xmp_8 k (xmemR (lo := 256) (n := 1) rfl hk.1 (by omega))
theorem xcn_ne : ∀ c ∈ xini, xcn c ≠ "java/lang/invoke/MethodHandle" ∧ xcn c ≠ "java/lang/invoke/VarHandle" := by decide +kernel
theorem xm_f1 : ∀ k, k < 257 → (xY k).cls = xcn (xK k) ∧ (xY k).cls ≠ "java/lang/invoke/MethodHandle" ∧ (xY k).cls ≠ "java/lang/invoke/VarHandle" := by
  intro k hk
  obtain ⟨i, _, h⟩ := xmp k hk
  have e : (xY k).cls = xcn (xK k) := congrArg (fun q : String × String × Nat => q.1) h
  exact ⟨e, e ▸ xcn_ne _ (xini_k k hk)⟩
theorem xm_f2 : ∀ k, k < 257 → (parseMethodDescriptor (xY k).desc).map (fun d => d.parameters.length) = some (xNa k) := by
  intro k hk
  obtain ⟨i, hi, h⟩ := xmp k hk
  have e1 : (xY k).desc = xds i := congrArg (fun q : String × String × Nat => q.2.1) h
  have e2 : xNa k = xdn i := congrArg (fun q : String × String × Nat => q.2.2) h
  rw [e1, e2]
  exact xds_p i hi
set_option maxRecDepth 100000 in
theorem xcn_pl : ∀ c, c < 12 → plainName (xcn c) = true := by decide +kernel
set_option maxRecDepth 100000 in
theorem xK_12 : (List.range 256).all (fun k => Nat.blt (xK k) 12 || plainFor (xY k)) = true := by decide +kernel
theorem xm_f3 : ∀ k, k < 256 → plainFor (xY k) = true := by
  intro k hk
  rcases (Bool.or_eq_true _ _).mp (List.all_eq_true.mp xK_12 k (List.mem_range.mpr hk)) with h | h
  · exact plainFor_of_name (by rw [(xm_f1 k (by omega)).1]; exact xcn_pl _ (Nat.le_of_ble_eq_true h))
  · exact h
def xmlW (q : Nat × Nat × Nat) : Cond := .methodLink (xcn q.1) q.2.1 (xY q.2.2)
def xml_0 : List (Nat × Nat × Nat) := [(12, 124, 70), (6, 11, 13), (2, 28, 22), (2, 45, 23), (2, 37, 17), (6, 20, 51), (10, 25, 0), (10, 77, 4), (1, 22, 15), (1, 28, 17), (1, 32, 11), (1, 108, 12), (12, 138, 73), (12, 175, 84), (10, 114, 1), (0, 25, 49), (6, 49, 14), (6, 53, 52), (6, 56, 57), (10, 130, 112), (10, 228, 59), (10, 133, 19), (2, 41, 15), (12, 197, 91), (10, 254, 15), (10, 260, 127), (12, 201, 92), (10, 236, 50), (6, 65, 15), (6, 69, 220), (10, 265, 128), (12, 205, 93), (10, 271, 10), (1, 97, 5), (1, 36, 6), (1, 53, 25), (2, 49, 24), (1, 40, 7), (1, 66, 19), (1, 86, 8)]
def xml_1 : List (Nat × Nat × Nat) := [(1, 82, 18), (1, 101, 221), (12, 239, 103), (12, 252, 107), (12, 262, 110), (10, 369, 49), (12, 128, 223), (12, 7, 71), (10, 81, 28), (10, 95, 29), (10, 104, 30), (12, 134, 224), (12, 17, 72), (10, 108, 31), (3, 19, 32), (3, 23, 33), (10, 118, 34), (3, 29, 21), (3, 39, 22), (10, 122, 20), (12, 142, 225), (12, 21, 74), (10, 136, 116), (10, 390, 16), (10, 139, 17), (10, 144, 21), (10, 148, 22), (12, 146, 226), (12, 27, 75), (10, 151, 121), (10, 179, 120), (10, 154, 117), (12, 150, 227), (12, 31, 76), (12, 153, 228), (12, 34, 77), (10, 165, 123), (12, 157, 229), (12, 38, 78), (10, 187, 124)]
def xml_2 : List (Nat × Nat × Nat) := [(12, 160, 230), (12, 41, 79), (12, 163, 231), (12, 44, 80), (12, 166, 232), (12, 47, 81), (10, 199, 26), (12, 169, 233), (12, 50, 82), (10, 204, 122), (10, 207, 25), (12, 172, 234), (12, 53, 83), (10, 219, 35), (3, 42, 17), (3, 46, 18), (12, 179, 235), (12, 56, 85), (12, 182, 236), (12, 59, 86), (10, 233, 113), (10, 374, 5), (10, 378, 60), (8, 34, 58), (12, 185, 237), (12, 62, 87), (10, 239, 9), (1, 93, 4), (10, 245, 114), (10, 382, 11), (10, 386, 61), (8, 43, 15), (8, 51, 18), (12, 188, 238), (12, 66, 88), (12, 191, 239), (12, 69, 89), (10, 248, 37), (4, 24, 15), (12, 194, 240)]
def xml_3 : List (Nat × Nat × Nat) := [(12, 72, 90), (12, 209, 241), (12, 75, 94), (10, 275, 58), (12, 212, 242), (12, 78, 95), (12, 215, 243), (12, 83, 96), (10, 294, 119), (10, 297, 39), (5, 31, 15), (5, 41, 58), (5, 46, 222), (5, 52, 40), (5, 71, 17), (5, 56, 62), (5, 60, 41), (5, 77, 25), (5, 64, 63), (12, 218, 244), (12, 87, 97), (12, 224, 245), (12, 90, 98), (10, 306, 42), (5, 87, 43), (5, 102, 44), (5, 106, 45), (5, 114, 64), (8, 55, 62), (8, 59, 63), (8, 63, 25), (5, 110, 221), (5, 91, 46), (5, 118, 220), (5, 95, 20), (5, 98, 47), (12, 227, 246), (12, 93, 99), (12, 230, 247), (12, 97, 100)]
def xml_4 : List (Nat × Nat × Nat) := [(10, 313, 118), (10, 322, 66), (9, 15, 15), (9, 22, 17), (9, 26, 67), (9, 30, 68), (9, 34, 24), (12, 233, 248), (12, 100, 101), (10, 319, 69), (12, 236, 249), (12, 103, 102), (12, 243, 250), (12, 106, 104), (10, 331, 125), (10, 334, 126), (10, 338, 53), (10, 341, 115), (12, 246, 251), (12, 109, 105), (10, 344, 18), (10, 347, 54), (10, 350, 55), (12, 249, 252), (12, 112, 106), (12, 256, 253), (12, 115, 108), (12, 259, 254), (12, 118, 109), (10, 366, 2), (12, 266, 255), (12, 121, 111), (12, 127, 129), (11, 90, 147), (11, 121, 146), (11, 96, 134), (11, 100, 136), (11, 124, 145), (11, 112, 144), (11, 128, 151)]
def xml_5 : List (Nat × Nat × Nat) := [(12, 221, 130), (12, 133, 157), (11, 175, 133), (11, 179, 131), (12, 137, 160), (11, 198, 159), (11, 195, 158), (11, 202, 212), (11, 308, 211), (11, 300, 209), (11, 304, 210), (11, 205, 140), (11, 132, 139), (12, 141, 161), (12, 145, 162), (11, 211, 135), (11, 214, 132), (12, 149, 163), (11, 217, 138), (12, 152, 164), (12, 156, 165), (12, 159, 166), (12, 162, 167), (12, 165, 168), (12, 168, 169), (11, 104, 141), (12, 171, 170), (11, 220, 137), (11, 135, 143), (11, 108, 142), (12, 174, 171), (12, 178, 172), (12, 181, 173), (12, 184, 174), (11, 223, 154), (11, 152, 148), (11, 155, 152), (11, 225, 150), (12, 187, 175), (11, 228, 155)]
def xml_6 : List (Nat × Nat × Nat) := [(11, 158, 149), (11, 231, 156), (11, 172, 153), (12, 190, 176), (12, 193, 179), (11, 237, 178), (11, 234, 177), (12, 196, 180), (12, 200, 181), (11, 242, 217), (13, 122, 216), (12, 204, 182), (11, 249, 219), (14, 59, 218), (12, 208, 184), (11, 255, 183), (12, 211, 185), (12, 214, 187), (11, 259, 186), (12, 217, 190), (11, 266, 189), (11, 262, 188), (12, 220, 191), (12, 226, 194), (11, 272, 193), (11, 269, 192), (12, 229, 195), (12, 232, 198), (11, 275, 197), (11, 278, 196), (12, 235, 199), (12, 238, 200), (12, 242, 201), (12, 245, 204), (11, 285, 202), (11, 288, 203), (12, 248, 205), (12, 251, 206), (12, 255, 207), (12, 258, 208)]
def xml_7 : List (Nat × Nat × Nat) := [(12, 261, 213), (12, 265, 214), (12, 268, 215)]
def xml : List (Nat × Nat × Nat) := xml_0 ++ xml_1 ++ xml_2 ++ xml_3 ++ xml_4 ++ xml_5 ++ xml_6 ++ xml_7
set_option maxRecDepth 100000 in
theorem xml_w0 : ∀ w ∈ xml_0.map xmlW, w ∈ lw_tbl ∧ xgw w = true := xSk_ok (gs := [88, 13, 3, 3, 3, 29, 95, 96, 3, 3, 0, 5, 35, 3, 3, 3, 3, 6, 4, 5, 3, 3, 3, 0, 3, 1, 5, 3, 3, 0, 3, 3, 4, 3, 3, 3, 3, 3, 3, 2]) ((xSk_c rfl (xSk_c rfl (xSk_c rfl (xSk_c rfl (xSk_c rfl (xSk_c rfl (xSk_c rfl (xSk_c rfl (xSk_c rfl (xSk_c rfl (xSk_c rfl (xSk_c rfl (xSk_c rfl (xSk_c rfl (xSk_c rfl (xSk_c rfl (xSk_c rfl (xSk_c rfl (xSk_c rfl (xSk_c rfl (xSk_c rfl (xSk_c rfl (xSk_c rfl (xSk_c rfl (xSk_c rfl (xSk_c rfl (xSk_c rfl (xSk_c rfl (xSk_c rfl (xSk_c rfl (xSk_c rfl (xSk_c rfl (xSk_c rfl (xSk_c rfl (xSk_c rfl (xSk_c rfl (xSk_c rfl (xSk_c rfl (xSk_c rfl (xSk_c rfl xSk_n))))))))))))))))))))))))))))))))))))))))) (by decide +kernel)
set_option maxRecDepth 100000 in
theorem xml_w1 : ∀ w ∈ xml_1.map xmlW, w ∈ lw_tbl ∧ xgw w = true := xSk_ok (gs := [500, 3, 2, 3, 3, 3, 0, 4, 3, 71, 18, 3, 2, 3, 3, 2, 3, 3, 3, 0, 3, 3, 3, 3, 19, 1, 0, 0, 2, 3, 2, 3, 4, 2, 4, 2, 3, 4, 2, 3]) ((xSk_c rfl (xSk_c rfl (xSk_c rfl (xSk_c rfl (xSk_c rfl (xSk_c rfl (xSk_c rfl (xSk_c rfl (xSk_c rfl (xSk_c rfl (xSk_c rfl (xSk_c rfl (xSk_c rfl (xSk_c rfl (xSk_c rfl (xSk_c rfl (xSk_c rfl (xSk_c rfl (xSk_c rfl (xSk_c rfl (xSk_c rfl (xSk_c rfl (xSk_c rfl (xSk_c rfl (xSk_c rfl (xSk_c rfl (xSk_c rfl (xSk_c rfl (xSk_c rfl (xSk_c rfl (xSk_c rfl (xSk_c rfl (xSk_c rfl (xSk_c rfl (xSk_c rfl (xSk_c rfl (xSk_c rfl (xSk_c rfl (xSk_c rfl (xSk_c rfl xSk_n))))))))))))))))))))))))))))))))))))))))) (by decide +kernel)
set_option maxRecDepth 100000 in
theorem xml_w2 : ∀ w ∈ xml_2.map xmlW, w ∈ lw_tbl ∧ xgw w = true := xSk_ok (gs := [741, 2, 3, 2, 3, 2, 3, 4, 2, 3, 3, 0, 2, 4, 2, 0, 0, 2, 4, 2, 3, 3, 0, 3, 3, 2, 3, 3, 1, 3, 0, 3, 0, 0, 2, 3, 2, 3, 3, 0]) ((xSk_c rfl (xSk_c rfl (xSk_c rfl (xSk_c rfl (xSk_c rfl (xSk_c rfl (xSk_c rfl (xSk_c rfl (xSk_c rfl (xSk_c rfl (xSk_c rfl (xSk_c rfl (xSk_c rfl (xSk_c rfl (xSk_c rfl (xSk_c rfl (xSk_c rfl (xSk_c rfl (xSk_c rfl (xSk_c rfl (xSk_c rfl (xSk_c rfl (xSk_c rfl (xSk_c rfl (xSk_c rfl (xSk_c rfl (xSk_c rfl (xSk_c rfl (xSk_c rfl (xSk_c rfl (xSk_c rfl (xSk_c rfl (xSk_c rfl (xSk_c rfl (xSk_c rfl (xSk_c rfl (xSk_c rfl (xSk_c rfl (xSk_c rfl (xSk_c rfl xSk_n))))))))))))))))))))))))))))))))))))))))) (by decide +kernel)
set_option maxRecDepth 100000 in
theorem xml_w3 : ∀ w ∈ xml_3.map xmlW, w ∈ lw_tbl ∧ xgw w = true := xSk_ok (gs := [866, 3, 2, 3, 1, 3, 19, 2, 3, 4, 3, 0, 0, 2, 2, 0, 3, 3, 0, 4, 2, 3, 2, 4, 3, 3, 2, 3, 3, 0, 0, 0, 0, 3, 0, 0, 3, 2, 3, 2]) ((xSk_c rfl (xSk_c rfl (xSk_c rfl (xSk_c rfl (xSk_c rfl (xSk_c rfl (xSk_c rfl (xSk_c rfl (xSk_c rfl (xSk_c rfl (xSk_c rfl (xSk_c rfl (xSk_c rfl (xSk_c rfl (xSk_c rfl (xSk_c rfl (xSk_c rfl (xSk_c rfl (xSk_c rfl (xSk_c rfl (xSk_c rfl (xSk_c rfl (xSk_c rfl (xSk_c rfl (xSk_c rfl (xSk_c rfl (xSk_c rfl (xSk_c rfl (xSk_c rfl (xSk_c rfl (xSk_c rfl (xSk_c rfl (xSk_c rfl (xSk_c rfl (xSk_c rfl (xSk_c rfl (xSk_c rfl (xSk_c rfl (xSk_c rfl (xSk_c rfl xSk_n))))))))))))))))))))))))))))))))))))))))) (by decide +kernel)
set_option maxRecDepth 100000 in
theorem xml_w4 : ∀ w ∈ xml_4.map xmlW, w ∈ lw_tbl ∧ xgw w = true := xSk_ok (gs := [1004, 3, 3, 1, 0, 3, 3, 1, 2, 4, 3, 2, 4, 2, 3, 3, 2, 3, 3, 2, 3, 0, 3, 3, 2, 3, 2, 4, 2, 4, 3, 2, 6, 3, 3, 3, 3, 3, 3, 6]) ((xSk_c rfl (xSk_c rfl (xSk_c rfl (xSk_c rfl (xSk_c rfl (xSk_c rfl (xSk_c rfl (xSk_c rfl (xSk_c rfl (xSk_c rfl (xSk_c rfl (xSk_c rfl (xSk_c rfl (xSk_c rfl (xSk_c rfl (xSk_c rfl (xSk_c rfl (xSk_c rfl (xSk_c rfl (xSk_c rfl (xSk_c rfl (xSk_c rfl (xSk_c rfl (xSk_c rfl (xSk_c rfl (xSk_c rfl (xSk_c rfl (xSk_c rfl (xSk_c rfl (xSk_c rfl (xSk_c rfl (xSk_c rfl (xSk_c rfl (xSk_c rfl (xSk_c rfl (xSk_c rfl (xSk_c rfl (xSk_c rfl (xSk_c rfl (xSk_c rfl xSk_n))))))))))))))))))))))))))))))))))))))))) (by decide +kernel)
set_option maxRecDepth 100000 in
theorem xml_w5 : ∀ w ∈ xml_5.map xmlW, w ∈ lw_tbl ∧ xgw w = true := xSk_ok (gs := [1285, 3, 3, 2, 3, 3, 3, 2, 3, 3, 3, 3, 3, 3, 3, 3, 3, 3, 3, 2, 3, 3, 3, 3, 3, 3, 3, 3, 2, 3, 3, 3, 3, 3, 3, 3, 5, 3, 3, 3]) ((xSk_c rfl (xSk_c rfl (xSk_c rfl (xSk_c rfl (xSk_c rfl (xSk_c rfl (xSk_c rfl (xSk_c rfl (xSk_c rfl (xSk_c rfl (xSk_c rfl (xSk_c rfl (xSk_c rfl (xSk_c rfl (xSk_c rfl (xSk_c rfl (xSk_c rfl (xSk_c rfl (xSk_c rfl (xSk_c rfl (xSk_c rfl (xSk_c rfl (xSk_c rfl (xSk_c rfl (xSk_c rfl (xSk_c rfl (xSk_c rfl (xSk_c rfl (xSk_c rfl (xSk_c rfl (xSk_c rfl (xSk_c rfl (xSk_c rfl (xSk_c rfl (xSk_c rfl (xSk_c rfl (xSk_c rfl (xSk_c rfl (xSk_c rfl (xSk_c rfl xSk_n))))))))))))))))))))))))))))))))))))))))) (by decide +kernel)
set_option maxRecDepth 100000 in
theorem xml_w6 : ∀ w ∈ xml_6.map xmlW, w ∈ lw_tbl ∧ xgw w = true := xSk_ok (gs := [1443, 3, 3, 3, 3, 3, 3, 3, 3, 4, 2, 6, 4, 2, 6, 3, 3, 3, 3, 3, 3, 3, 3, 3, 3, 3, 3, 3, 3, 3, 3, 3, 3, 3, 3, 4, 3, 3, 3, 3]) ((xSk_c rfl (xSk_c rfl (xSk_c rfl (xSk_c rfl (xSk_c rfl (xSk_c rfl (xSk_c rfl (xSk_c rfl (xSk_c rfl (xSk_c rfl (xSk_c rfl (xSk_c rfl (xSk_c rfl (xSk_c rfl (xSk_c rfl (xSk_c rfl (xSk_c rfl (xSk_c rfl (xSk_c rfl (xSk_c rfl (xSk_c rfl (xSk_c rfl (xSk_c rfl (xSk_c rfl (xSk_c rfl (xSk_c rfl (xSk_c rfl (xSk_c rfl (xSk_c rfl (xSk_c rfl (xSk_c rfl (xSk_c rfl (xSk_c rfl (xSk_c rfl (xSk_c rfl (xSk_c rfl (xSk_c rfl (xSk_c rfl (xSk_c rfl (xSk_c rfl xSk_n))))))))))))))))))))))))))))))))))))))))) (by decide +kernel)
set_option maxRecDepth 100000 in
theorem xml_w7 : ∀ w ∈ xml_7.map xmlW, w ∈ lw_tbl ∧ xgw w = true := xSk_ok (gs := [1610, 3, 3]) ((xSk_c rfl (xSk_c rfl (xSk_c rfl xSk_n)))) (by decide +kernel)
theorem xml_w : ∀ q ∈ xml, xmlW q ∈ lw_tbl ∧ xgw (xmlW q) = true := by
  intro q hq
  simp only [xml, List.mem_append] at hq
  rcases hq with ((((((hq | hq) | hq) | hq) | hq) | hq) | hq) | hq
  · exact xml_w0 _ (List.mem_map.mpr ⟨q, hq, rfl⟩)
  · exact xml_w1 _ (List.mem_map.mpr ⟨q, hq, rfl⟩)
  · exact xml_w2 _ (List.mem_map.mpr ⟨q, hq, rfl⟩)
  · exact xml_w3 _ (List.mem_map.mpr ⟨q, hq, rfl⟩)
  · exact xml_w4 _ (List.mem_map.mpr ⟨q, hq, rfl⟩)
  · exact xml_w5 _ (List.mem_map.mpr ⟨q, hq, rfl⟩)
  · exact xml_w6 _ (List.mem_map.mpr ⟨q, hq, rfl⟩)
  · exact xml_w7 _ (List.mem_map.mpr ⟨q, hq, rfl⟩)
def xmnW (q : Nat × Nat × Nat) : Cond := .methodLinkNest (xcn q.1) q.2.1 (xY q.2.2) "RoverLocator"
def xmn_0 : List (Nat × Nat × Nat) := [(10, 9, 48), (6, 27, 56), (0, 24, 48), (10, 32, 27), (10, 43, 3), (10, 50, 36), (10, 57, 38), (10, 64, 65)]
def xmn : List (Nat × Nat × Nat) := xmn_0
set_option maxRecDepth 100000 in
theorem xmn_w0 : ∀ w ∈ xmn_0.map xmnW, w ∈ lw_tbl ∧ xgw w = true := xSk_ok (gs := [96, 76, 72, 13, 14, 16, 14, 20]) ((xSk_c rfl (xSk_c rfl (xSk_c rfl (xSk_c rfl (xSk_c rfl (xSk_c rfl (xSk_c rfl (xSk_c rfl xSk_n))))))))) (by decide +kernel)
theorem xmn_w : ∀ q ∈ xmn, xmnW q ∈ lw_tbl ∧ xgw (xmnW q) = true := by
  intro q hq
  simp only [xmn, List.mem_append] at hq
  exact xmn_w0 _ (List.mem_map.mpr ⟨q, hq, rfl⟩)
def xvm_0 : List (Nat) := [22, 23, 17, 4, 15, 11, 12, 73, 84, 1, 49, 14, 52, 57, 112, 59, 19, 91, 92, 50, 93, 10, 5, 6, 25, 24, 7, 8, 18, 103, 107, 110, 71, 30, 72, 31, 34, 21, 20, 74]
def xvm_1 : List (Nat) := [116, 16, 75, 117, 76, 77, 78, 79, 80, 81, 26, 82, 83, 85, 86, 113, 60, 58, 87, 9, 114, 61, 88, 89, 37, 90, 94, 95, 96, 119, 39, 62, 41, 63, 97, 98, 42, 43, 45, 64]
def xvm_2 : List (Nat) := [46, 47, 99, 100, 118, 66, 67, 68, 101, 69, 102, 104, 53, 115, 105, 54, 55, 106, 108, 109, 2, 111, 147, 146, 134, 136, 145, 144, 151, 130, 157, 131, 160, 159, 212, 211, 209, 210, 140, 139]
def xvm_3 : List (Nat) := [161, 162, 135, 132, 163, 164, 165, 166, 167, 168, 169, 141, 170, 143, 142, 171, 172, 173, 174, 154, 148, 152, 150, 175, 155, 149, 156, 153, 176, 179, 178, 177, 180, 181, 182, 184, 183, 185, 187, 186]
def xvm_4 : List (Nat) := [190, 189, 188, 191, 194, 193, 192, 195, 198, 197, 196, 199, 200, 201, 204, 202, 203, 205, 206, 207, 208, 213, 214, 215]
def xvm : List (Nat) := xvm_0 ++ xvm_1 ++ xvm_2 ++ xvm_3 ++ xvm_4
set_option maxRecDepth 100000 in
theorem xvm_w0 : ∀ w ∈ xvm_0.map (fun k => Cond.instanceMethod (xY k)), w ∈ lw_tbl ∧ xgw w = true := xSk_ok (gs := [107, 4, 2, 222, 3, 4, 6, 34, 3, 3, 3, 3, 6, 4, 6, 2, 3, 4, 11, 3, 12, 4, 3, 4, 2, 3, 4, 6, 2, 6, 3, 3, 9, 94, 6, 3, 10, 3, 4, 7]) ((xSk_c rfl (xSk_c rfl (xSk_c rfl (xSk_c rfl (xSk_c rfl (xSk_c rfl (xSk_c rfl (xSk_c rfl (xSk_c rfl (xSk_c rfl (xSk_c rfl (xSk_c rfl (xSk_c rfl (xSk_c rfl (xSk_c rfl (xSk_c rfl (xSk_c rfl (xSk_c rfl (xSk_c rfl (xSk_c rfl (xSk_c rfl (xSk_c rfl (xSk_c rfl (xSk_c rfl (xSk_c rfl (xSk_c rfl (xSk_c rfl (xSk_c rfl (xSk_c rfl (xSk_c rfl (xSk_c rfl (xSk_c rfl (xSk_c rfl (xSk_c rfl (xSk_c rfl (xSk_c rfl (xSk_c rfl (xSk_c rfl (xSk_c rfl (xSk_c rfl xSk_n))))))))))))))))))))))))))))))))))))))))) (by decide +kernel)
set_option maxRecDepth 100000 in
theorem xvm_w1 : ∀ w ∈ xvm_1.map (fun k => Cond.instanceMethod (xY k)), w ∈ lw_tbl ∧ xgw w = true := xSk_ok (gs := [665, 2, 26, 11, 6, 7, 11, 10, 6, 6, 3, 7, 11, 12, 7, 4, 3, 3, 6, 3, 6, 3, 8, 6, 3, 7, 6, 9, 22, 4, 3, 12, 4, 3, 7, 6, 4, 4, 6, 2]) ((xSk_c rfl (xSk_c rfl (xSk_c rfl (xSk_c rfl (xSk_c rfl (xSk_c rfl (xSk_c rfl (xSk_c rfl (xSk_c rfl (xSk_c rfl (xSk_c rfl (xSk_c rfl (xSk_c rfl (xSk_c rfl (xSk_c rfl (xSk_c rfl (xSk_c rfl (xSk_c rfl (xSk_c rfl (xSk_c rfl (xSk_c rfl (xSk_c rfl (xSk_c rfl (xSk_c rfl (xSk_c rfl (xSk_c rfl (xSk_c rfl (xSk_c rfl (xSk_c rfl (xSk_c rfl (xSk_c rfl (xSk_c rfl (xSk_c rfl (xSk_c rfl (xSk_c rfl (xSk_c rfl (xSk_c rfl (xSk_c rfl (xSk_c rfl (xSk_c rfl xSk_n))))))))))))))))))))))))))))))))))))))))) (by decide +kernel)
set_option maxRecDepth 100000 in
theorem xvm_w2 : ∀ w ∈ xvm_2.map (fun k => Cond.instanceMethod (xY k)), w ∈ lw_tbl ∧ xgw w = true := xSk_ok (gs := [982, 5, 5, 6, 4, 2, 7, 3, 7, 4, 6, 7, 10, 4, 5, 4, 3, 6, 6, 7, 4, 6, 11, 3, 3, 3, 3, 3, 6, 132, 3, 7, 2, 4, 6, 3, 3, 3, 3, 3]) ((xSk_c rfl (xSk_c rfl (xSk_c rfl (xSk_c rfl (xSk_c rfl (xSk_c rfl (xSk_c rfl (xSk_c rfl (xSk_c rfl (xSk_c rfl (xSk_c rfl (xSk_c rfl (xSk_c rfl (xSk_c rfl (xSk_c rfl (xSk_c rfl (xSk_c rfl (xSk_c rfl (xSk_c rfl (xSk_c rfl (xSk_c rfl (xSk_c rfl (xSk_c rfl (xSk_c rfl (xSk_c rfl (xSk_c rfl (xSk_c rfl (xSk_c rfl (xSk_c rfl (xSk_c rfl (xSk_c rfl (xSk_c rfl (xSk_c rfl (xSk_c rfl (xSk_c rfl (xSk_c rfl (xSk_c rfl (xSk_c rfl (xSk_c rfl (xSk_c rfl xSk_n))))))))))))))))))))))))))))))))))))))))) (by decide +kernel)
set_option maxRecDepth 100000 in
theorem xvm_w3 : ∀ w ∈ xvm_3.map (fun k => Cond.instanceMethod (xY k)), w ∈ lw_tbl ∧ xgw w = true := xSk_ok (gs := [1336, 3, 4, 3, 2, 6, 3, 3, 3, 3, 3, 4, 2, 7, 3, 2, 3, 3, 3, 4, 3, 5, 3, 2, 4, 3, 3, 3, 2, 3, 4, 3, 2, 3, 14, 14, 4, 2, 3, 4]) ((xSk_c rfl (xSk_c rfl (xSk_c rfl (xSk_c rfl (xSk_c rfl (xSk_c rfl (xSk_c rfl (xSk_c rfl (xSk_c rfl (xSk_c rfl (xSk_c rfl (xSk_c rfl (xSk_c rfl (xSk_c rfl (xSk_c rfl (xSk_c rfl (xSk_c rfl (xSk_c rfl (xSk_c rfl (xSk_c rfl (xSk_c rfl (xSk_c rfl (xSk_c rfl (xSk_c rfl (xSk_c rfl (xSk_c rfl (xSk_c rfl (xSk_c rfl (xSk_c rfl (xSk_c rfl (xSk_c rfl (xSk_c rfl (xSk_c rfl (xSk_c rfl (xSk_c rfl (xSk_c rfl (xSk_c rfl (xSk_c rfl (xSk_c rfl (xSk_c rfl xSk_n))))))))))))))))))))))))))))))))))))))))) (by decide +kernel)
set_option maxRecDepth 100000 in
theorem xvm_w4 : ∀ w ∈ xvm_4.map (fun k => Cond.instanceMethod (xY k)), w ∈ lw_tbl ∧ xgw w = true := xSk_ok (gs := [1526, 4, 3, 2, 3, 4, 3, 2, 3, 4, 3, 2, 3, 3, 3, 4, 4, 2, 3, 3, 3, 3, 3, 3]) ((xSk_c rfl (xSk_c rfl (xSk_c rfl (xSk_c rfl (xSk_c rfl (xSk_c rfl (xSk_c rfl (xSk_c rfl (xSk_c rfl (xSk_c rfl (xSk_c rfl (xSk_c rfl (xSk_c rfl (xSk_c rfl (xSk_c rfl (xSk_c rfl (xSk_c rfl (xSk_c rfl (xSk_c rfl (xSk_c rfl (xSk_c rfl (xSk_c rfl (xSk_c rfl (xSk_c rfl xSk_n))))))))))))))))))))))))) (by decide +kernel)
theorem xvm_w : ∀ q ∈ xvm, (fun k => Cond.instanceMethod (xY k)) q ∈ lw_tbl ∧ xgw ((fun k => Cond.instanceMethod (xY k)) q) = true := by
  intro q hq
  simp only [xvm, List.mem_append] at hq
  rcases hq with (((hq | hq) | hq) | hq) | hq
  · exact xvm_w0 _ (List.mem_map.mpr ⟨q, hq, rfl⟩)
  · exact xvm_w1 _ (List.mem_map.mpr ⟨q, hq, rfl⟩)
  · exact xvm_w2 _ (List.mem_map.mpr ⟨q, hq, rfl⟩)
  · exact xvm_w3 _ (List.mem_map.mpr ⟨q, hq, rfl⟩)
  · exact xvm_w4 _ (List.mem_map.mpr ⟨q, hq, rfl⟩)
def xvs_0 : List (Nat) := [23, 12, 112, 6, 7, 8, 116, 117, 113, 114, 119, 41, 43, 45, 46, 47, 118, 67, 68, 115, 147, 146, 134, 136, 145, 144, 151, 131, 159, 212, 211, 209, 210, 140, 139, 135, 132, 141, 143, 142]
def xvs_1 : List (Nat) := [154, 148, 152, 150, 155, 149, 156, 153, 178, 177, 183, 186, 189, 188, 193, 192, 197, 196, 202, 203, 22, 17, 4, 15, 11, 73, 84, 1, 49, 14, 52, 57, 59, 19, 91, 92, 50, 93, 10, 5]
def xvs_2 : List (Nat) := [25, 24, 18, 103, 107, 110, 71, 30, 72, 31, 34, 21, 20, 74, 16, 75, 76, 77, 78, 79, 80, 81, 26, 82, 83, 85, 86, 60, 58, 87, 9, 61, 88, 89, 37, 90, 94, 95, 96, 39]
def xvs_3 : List (Nat) := [62, 63, 97, 98, 42, 64, 99, 100, 66, 101, 69, 102, 104, 53, 105, 54, 55, 106, 108, 109, 2, 111, 130, 157, 160, 161, 162, 163, 164, 165, 166, 167, 168, 169, 170, 171, 172, 173, 174, 175]
def xvs_4 : List (Nat) := [176, 179, 180, 181, 182, 184, 185, 187, 190, 191, 194, 195, 198, 199, 200, 201, 204, 205, 206, 207, 208, 213, 214, 215]
def xvs : List (Nat) := xvs_0 ++ xvs_1 ++ xvs_2 ++ xvs_3 ++ xvs_4
set_option maxRecDepth 100000 in
theorem xvs_w0 : ∀ w ∈ xvs_0.map (fun k => Cond.selects (xY k).cls (xY k) (xY k)), w ∈ lw_tbl ∧ xgw w = true := xSk_ok (gs := [0, 0, 0, 0, 0, 0, 1, 0, 0, 0, 0, 0, 0, 0, 0, 0, 0, 0, 0, 0, 0, 0, 0, 0, 0, 0, 0, 0, 0, 0, 0, 0, 0, 0, 0, 0, 0, 0, 0, 0]) ((xSk_c rfl (xSk_c rfl (xSk_c rfl (xSk_c rfl (xSk_c rfl (xSk_c rfl (xSk_c rfl (xSk_c rfl (xSk_c rfl (xSk_c rfl (xSk_c rfl (xSk_c rfl (xSk_c rfl (xSk_c rfl (xSk_c rfl (xSk_c rfl (xSk_c rfl (xSk_c rfl (xSk_c rfl (xSk_c rfl (xSk_c rfl (xSk_c rfl (xSk_c rfl (xSk_c rfl (xSk_c rfl (xSk_c rfl (xSk_c rfl (xSk_c rfl (xSk_c rfl (xSk_c rfl (xSk_c rfl (xSk_c rfl (xSk_c rfl (xSk_c rfl (xSk_c rfl (xSk_c rfl (xSk_c rfl (xSk_c rfl (xSk_c rfl (xSk_c rfl xSk_n))))))))))))))))))))))))))))))))))))))))) (by decide +kernel)
set_option maxRecDepth 100000 in
theorem xvs_w1 : ∀ w ∈ xvs_1.map (fun k => Cond.selects (xY k).cls (xY k) (xY k)), w ∈ lw_tbl ∧ xgw w = true := xSk_ok (gs := [41, 0, 0, 0, 0, 0, 0, 0, 0, 0, 0, 0, 0, 0, 0, 0, 0, 0, 0, 0, 47, 7, 222, 3, 4, 41, 3, 3, 3, 3, 6, 4, 9, 3, 4, 11, 3, 12, 4, 3]) ((xSk_c rfl (xSk_c rfl (xSk_c rfl (xSk_c rfl (xSk_c rfl (xSk_c rfl (xSk_c rfl (xSk_c rfl (xSk_c rfl (xSk_c rfl (xSk_c rfl (xSk_c rfl (xSk_c rfl (xSk_c rfl (xSk_c rfl (xSk_c rfl (xSk_c rfl (xSk_c rfl (xSk_c rfl (xSk_c rfl (xSk_c rfl (xSk_c rfl (xSk_c rfl (xSk_c rfl (xSk_c rfl (xSk_c rfl (xSk_c rfl (xSk_c rfl (xSk_c rfl (xSk_c rfl (xSk_c rfl (xSk_c rfl (xSk_c rfl (xSk_c rfl (xSk_c rfl (xSk_c rfl (xSk_c rfl (xSk_c rfl (xSk_c rfl (xSk_c rfl xSk_n))))))))))))))))))))))))))))))))))))))))) (by decide +kernel)
set_option maxRecDepth 100000 in
theorem xvs_w2 : ∀ w ∈ xvs_2.map (fun k => Cond.selects (xY k).cls (xY k) (xY k)), w ∈ lw_tbl ∧ xgw w = true := xSk_ok (gs := [483, 3, 14, 6, 3, 3, 9, 94, 6, 3, 10, 3, 4, 7, 7, 26, 18, 7, 11, 10, 6, 6, 3, 7, 11, 12, 7, 8, 3, 6, 3, 10, 8, 6, 3, 7, 6, 9, 22, 8]) ((xSk_c rfl (xSk_c rfl (xSk_c rfl (xSk_c rfl (xSk_c rfl (xSk_c rfl (xSk_c rfl (xSk_c rfl (xSk_c rfl (xSk_c rfl (xSk_c rfl (xSk_c rfl (xSk_c rfl (xSk_c rfl (xSk_c rfl (xSk_c rfl (xSk_c rfl (xSk_c rfl (xSk_c rfl (xSk_c rfl (xSk_c rfl (xSk_c rfl (xSk_c rfl (xSk_c rfl (xSk_c rfl (xSk_c rfl (xSk_c rfl (xSk_c rfl (xSk_c rfl (xSk_c rfl (xSk_c rfl (xSk_c rfl (xSk_c rfl (xSk_c rfl (xSk_c rfl (xSk_c rfl (xSk_c rfl (xSk_c rfl (xSk_c rfl (xSk_c rfl xSk_n))))))))))))))))))))))))))))))))))))))))) (by decide +kernel)
set_option maxRecDepth 100000 in
theorem xvs_w3 : ∀ w ∈ xvs_3.map (fun k => Cond.selects (xY k).cls (xY k) (xY k)), w ∈ lw_tbl ∧ xgw w = true := xSk_ok (gs := [930, 8, 7, 6, 4, 14, 20, 6, 7, 19, 4, 6, 7, 10, 10, 4, 3, 6, 6, 7, 4, 6, 171, 3, 10, 34, 3, 11, 6, 3, 3, 3, 3, 3, 7, 14, 3, 3, 3, 21]) ((xSk_c rfl (xSk_c rfl (xSk_c rfl (xSk_c rfl (xSk_c rfl (xSk_c rfl (xSk_c rfl (xSk_c rfl (xSk_c rfl (xSk_c rfl (xSk_c rfl (xSk_c rfl (xSk_c rfl (xSk_c rfl (xSk_c rfl (xSk_c rfl (xSk_c rfl (xSk_c rfl (xSk_c rfl (xSk_c rfl (xSk_c rfl (xSk_c rfl (xSk_c rfl (xSk_c rfl (xSk_c rfl (xSk_c rfl (xSk_c rfl (xSk_c rfl (xSk_c rfl (xSk_c rfl (xSk_c rfl (xSk_c rfl (xSk_c rfl (xSk_c rfl (xSk_c rfl (xSk_c rfl (xSk_c rfl (xSk_c rfl (xSk_c rfl (xSk_c rfl xSk_n))))))))))))))))))))))))))))))))))))))))) (by decide +kernel)
set_option maxRecDepth 100000 in
theorem xvs_w4 : ∀ w ∈ xvs_4.map (fun k => Cond.selects (xY k).cls (xY k) (xY k)), w ∈ lw_tbl ∧ xgw w = true := xSk_ok (gs := [1457, 3, 11, 3, 14, 14, 7, 3, 7, 11, 3, 11, 3, 11, 3, 3, 3, 12, 3, 3, 3, 3, 3, 3]) ((xSk_c rfl (xSk_c rfl (xSk_c rfl (xSk_c rfl (xSk_c rfl (xSk_c rfl (xSk_c rfl (xSk_c rfl (xSk_c rfl (xSk_c rfl (xSk_c rfl (xSk_c rfl (xSk_c rfl (xSk_c rfl (xSk_c rfl (xSk_c rfl (xSk_c rfl (xSk_c rfl (xSk_c rfl (xSk_c rfl (xSk_c rfl (xSk_c rfl (xSk_c rfl (xSk_c rfl xSk_n))))))))))))))))))))))))) (by decide +kernel)
theorem xvs_w : ∀ q ∈ xvs, (fun k => Cond.selects (xY k).cls (xY k) (xY k)) q ∈ lw_tbl ∧ xgw ((fun k => Cond.selects (xY k).cls (xY k) (xY k)) q) = true := by
  intro q hq
  simp only [xvs, List.mem_append] at hq
  rcases hq with (((hq | hq) | hq) | hq) | hq
  · exact xvs_w0 _ (List.mem_map.mpr ⟨q, hq, rfl⟩)
  · exact xvs_w1 _ (List.mem_map.mpr ⟨q, hq, rfl⟩)
  · exact xvs_w2 _ (List.mem_map.mpr ⟨q, hq, rfl⟩)
  · exact xvs_w3 _ (List.mem_map.mpr ⟨q, hq, rfl⟩)
  · exact xvs_w4 _ (List.mem_map.mpr ⟨q, hq, rfl⟩)
def xsm_0 : List (Nat) := [127, 220, 128, 221, 223, 28, 29, 224, 32, 33, 225, 226, 121, 120, 227, 228, 123, 229, 124, 230, 231, 232, 233, 122, 234, 35, 235, 236, 237, 238, 239, 240, 241, 242, 243, 222, 40, 244, 245, 44]
def xsm_1 : List (Nat) := [246, 247, 248, 249, 250, 125, 126, 251, 252, 253, 254, 255, 133, 158, 138, 137, 217, 216, 219, 218]
def xsm : List (Nat) := xsm_0 ++ xsm_1
set_option maxRecDepth 100000 in
theorem xsm_w0 : ∀ w ∈ xsm_0.map (fun k => Cond.static (xY k)), w ∈ lw_tbl ∧ xgw w = true := xSk_ok (gs := [442, 14, 3, 43, 15, 8, 71, 22, 10, 2, 16, 35, 6, 2, 8, 7, 6, 4, 6, 3, 6, 6, 11, 6, 4, 7, 4, 7, 19, 23, 6, 11, 6, 8, 23, 17, 2, 17, 6, 15]) ((xSk_c rfl (xSk_c rfl (xSk_c rfl (xSk_c rfl (xSk_c rfl (xSk_c rfl (xSk_c rfl (xSk_c rfl (xSk_c rfl (xSk_c rfl (xSk_c rfl (xSk_c rfl (xSk_c rfl (xSk_c rfl (xSk_c rfl (xSk_c rfl (xSk_c rfl (xSk_c rfl (xSk_c rfl (xSk_c rfl (xSk_c rfl (xSk_c rfl (xSk_c rfl (xSk_c rfl (xSk_c rfl (xSk_c rfl (xSk_c rfl (xSk_c rfl (xSk_c rfl (xSk_c rfl (xSk_c rfl (xSk_c rfl (xSk_c rfl (xSk_c rfl (xSk_c rfl (xSk_c rfl (xSk_c rfl (xSk_c rfl (xSk_c rfl (xSk_c rfl xSk_n))))))))))))))))))))))))))))))))))))))))) (by decide +kernel)
set_option maxRecDepth 100000 in
theorem xsm_w1 : ∀ w ∈ xsm_1.map (fun k => Cond.static (xY k)), w ∈ lw_tbl ∧ xgw w = true := xSk_ok (gs := [991, 6, 27, 11, 7, 6, 3, 10, 15, 6, 7, 11, 182, 14, 46, 34, 89, 2, 11, 2]) ((xSk_c rfl (xSk_c rfl (xSk_c rfl (xSk_c rfl (xSk_c rfl (xSk_c rfl (xSk_c rfl (xSk_c rfl (xSk_c rfl (xSk_c rfl (xSk_c rfl (xSk_c rfl (xSk_c rfl (xSk_c rfl (xSk_c rfl (xSk_c rfl (xSk_c rfl (xSk_c rfl (xSk_c rfl (xSk_c rfl xSk_n))))))))))))))))))))) (by decide +kernel)
theorem xsm_w : ∀ q ∈ xsm, (fun k => Cond.static (xY k)) q ∈ lw_tbl ∧ xgw ((fun k => Cond.static (xY k)) q) = true := by
  intro q hq
  simp only [xsm, List.mem_append] at hq
  rcases hq with hq | hq
  · exact xsm_w0 _ (List.mem_map.mpr ⟨q, hq, rfl⟩)
  · exact xsm_w1 _ (List.mem_map.mpr ⟨q, hq, rfl⟩)
def xim_0 : List (Nat) := [70, 48, 13, 51, 56, 0, 27, 3, 36, 38, 65, 129]
def xim : List (Nat) := xim_0
set_option maxRecDepth 100000 in
theorem xim_w0 : ∀ w ∈ xim_0.map (fun k => Cond.instanceMethod (xY k)), w ∈ lw_tbl ∧ xgw w = true := xSk_ok (gs := [89, 7, 5, 41, 28, 66, 19, 14, 16, 14, 20, 791]) ((xSk_c rfl (xSk_c rfl (xSk_c rfl (xSk_c rfl (xSk_c rfl (xSk_c rfl (xSk_c rfl (xSk_c rfl (xSk_c rfl (xSk_c rfl (xSk_c rfl (xSk_c rfl xSk_n))))))))))))) (by decide +kernel)
theorem xim_w : ∀ q ∈ xim, (fun k => Cond.instanceMethod (xY k)) q ∈ lw_tbl ∧ xgw ((fun k => Cond.instanceMethod (xY k)) q) = true := by
  intro q hq
  simp only [xim, List.mem_append] at hq
  exact xim_w0 _ (List.mem_map.mpr ⟨q, hq, rfl⟩)
set_option maxRecDepth 100000 in
theorem xmb : (∀ k ∈ xvm, k < 256 ∧ xHh k = [] ∧ xK k < 12 ∧ k ∈ xvs) ∧ (∀ k ∈ xsm, k < 256) ∧ (∀ k ∈ xim, k < 256 ∧ xHh k = [] ∧ (xY k).name = "<init>" ∧ xRet k = none) := by decide +kernel
def xmoW (q : Nat × Nat) : Cond := .methodLink (xcn q.1) q.2 objectInit
def xmo_0 : List (Nat × Nat) := [(10, 1), (6, 3), (2, 3), (7, 3), (8, 3), (0, 3), (3, 3), (1, 3), (4, 3), (5, 3), (9, 3), (11, 1)]
def xmo : List (Nat × Nat) := xmo_0
set_option maxRecDepth 100000 in
theorem xmo_w0 : ∀ w ∈ xmo_0.map xmoW, w ∈ lw_tbl ∧ xgw w = true := xSk_ok (gs := [91, 7, 5, 41, 28, 66, 19, 14, 16, 14, 20, 791]) ((xSk_c rfl (xSk_c rfl (xSk_c rfl (xSk_c rfl (xSk_c rfl (xSk_c rfl (xSk_c rfl (xSk_c rfl (xSk_c rfl (xSk_c rfl (xSk_c rfl (xSk_c rfl xSk_n))))))))))))) (by decide +kernel)
theorem xmo_w : ∀ q ∈ xmo, xmoW q ∈ lw_tbl ∧ xgw (xmoW q) = true := by
  intro q hq
  simp only [xmo, List.mem_append] at hq
  exact xmo_w0 _ (List.mem_map.mpr ⟨q, hq, rfl⟩)
set_option maxRecDepth 100000 in
theorem xoi_w : ∀ w ∈ [Cond.instanceMethod objectInit, Cond.code objectInit ⟨#[0xb1]⟩ 1 none], w ∈ lw_tbl ∧ xgw w = true := xwc_ok (hs := [92, 93]) (by decide +kernel)
def xny (a : Nat) : MethodName := match a with | 0 => arraycopyName | 1 => ⟨"java/lang/Double", "doubleToRawLongBits", "(D)J"⟩ | _ => ⟨"java/lang/Float", "floatToRawIntBits", "(F)I"⟩
def xnatW (q : Nat × Nat × Nat) : Cond := .methodLink (xcn q.1) q.2.1 (xny q.2.2)
def xnat_0 : List (Nat × Nat × Nat) := [(2, 31, 0), (7, 25, 0), (8, 28, 0), (6, 59, 0), (5, 81, 0), (13, 134, 1), (14, 74, 2)]
def xnat : List (Nat × Nat × Nat) := xnat_0
set_option maxRecDepth 100000 in
theorem xnat_w0 : ∀ w ∈ xnat_0.map xnatW, w ∈ lw_tbl ∧ xgw w = true := xSk_ok (gs := [408, 6, 4, 0, 519, 544, 14]) ((xSk_c rfl (xSk_c rfl (xSk_c rfl (xSk_c rfl (xSk_c rfl (xSk_c rfl (xSk_c rfl xSk_n)))))))) (by decide +kernel)
theorem xnat_w : ∀ q ∈ xnat, xnatW q ∈ lw_tbl ∧ xgw (xnatW q) = true := by
  intro q hq
  simp only [xnat, List.mem_append] at hq
  exact xnat_w0 _ (List.mem_map.mpr ⟨q, hq, rfl⟩)
set_option maxRecDepth 100000 in
theorem xnn_n : ∀ w ∈ [0, 1, 2].map (fun a => Cond.native (xny a)), w ∈ lw_tbl ∧ xgw w = true := xwc_ok (hs := [410, 1488, 1503]) (by decide +kernel)
set_option maxRecDepth 100000 in
theorem xnn_s : ∀ w ∈ [0, 1, 2].map (fun a => Cond.static (xny a)), w ∈ lw_tbl ∧ xgw w = true := xwc_ok (hs := [409, 1487, 1502]) (by decide +kernel)
set_option maxRecDepth 100000 in
theorem xnn_i : ∀ w ∈ [0, 1, 2].map (fun a => Cond.initialized (xny a).cls), w ∈ lw_tbl ∧ xgw w = true := xwc_ok (hs := [79, 83, 84]) (by decide +kernel)
def xnlW (q : Nat × Nat × Nat) : Cond := .classLink (xcn q.1) q.2.1 (xcT q.2.2).1
def xnl_0 : List (Nat × Nat × Nat) := [(12, 8, 10), (10, 7, 6), (6, 9, 2), (6, 18, 7), (6, 25, 8), (10, 23, 0), (0, 9, 6), (10, 30, 3), (10, 41, 1), (10, 48, 4), (10, 55, 5), (10, 62, 9), (12, 125, 11)]
def xnl : List (Nat × Nat × Nat) := xnl_0
set_option maxRecDepth 100000 in
theorem xnl_w0 : ∀ w ∈ xnl_0.map xnlW, w ∈ lw_tbl ∧ xgw w = true := xSk_ok (gs := [86, 7, 5, 41, 28, 66, 5, 13, 14, 16, 14, 20, 791]) ((xSk_c rfl (xSk_c rfl (xSk_c rfl (xSk_c rfl (xSk_c rfl (xSk_c rfl (xSk_c rfl (xSk_c rfl (xSk_c rfl (xSk_c rfl (xSk_c rfl (xSk_c rfl (xSk_c rfl xSk_n)))))))))))))) (by decide +kernel)
theorem xnl_w : ∀ q ∈ xnl, xnlW q ∈ lw_tbl ∧ xgw (xnlW q) = true := by
  intro q hq
  simp only [xnl, List.mem_append] at hq
  exact xnl_w0 _ (List.mem_map.mpr ⟨q, hq, rfl⟩)
theorem xnl_b : ∀ q ∈ xnl, q.2.2 < 12 := by decide +kernel
set_option maxRecDepth 100000 in
theorem xci_w : ∀ w ∈ (List.range 12).map (fun a => Cond.instantiable (xcT a).1 (xcT a).2.2), w ∈ lw_tbl ∧ xgw w = true := xwc_ok (hs := [239, 274, 101, 259, 291, 306, 95, 143, 172, 327, 87, 1119]) (by decide +kernel)
def xanW (q : Nat × Nat) : Cond := .classLink (xcn q.1) q.2 "RoverLocator$State"
def xan_0 : List (Nat × Nat) := [(0, 9)]
def xan : List (Nat × Nat) := xan_0
set_option maxRecDepth 100000 in
theorem xan_w0 : ∀ w ∈ xan_0.map xanW, w ∈ lw_tbl ∧ xgw w = true := xSk_ok (gs := [244]) ((xSk_c rfl xSk_n)) (by decide +kernel)
theorem xan_w : ∀ q ∈ xan, xanW q ∈ lw_tbl ∧ xgw (xanW q) = true := by
  intro q hq
  simp only [xan, List.mem_append] at hq
  exact xan_w0 _ (List.mem_map.mpr ⟨q, hq, rfl⟩)
set_option maxRecDepth 100000 in
theorem xar_w : ∀ w ∈ [Cond.arrayClass .int, Cond.arrayClass .long, Cond.arrayClass .char], w ∈ lw_tbl ∧ xgw w = true := xwc_ok (hs := [141, 289, 272]) (by decide +kernel)
def xklW (q : Nat × Nat × Nat) : Cond := match xnth xcon q.2.2 with | some (.int v) => .constant (xcn q.1) q.2.1 v | some (.long v) => .constantLong (xcn q.1) q.2.1 v | some (.float v) => .constantFloat (xcn q.1) q.2.1 v | some (.double v) => .constantDouble (xcn q.1) q.2.1 v | _ => .tt
def xkl_0 : List (Nat × Nat × Nat) := [(1, 77, 2), (1, 107, 3), (1, 111, 4), (10, 258, 5), (10, 408, 8), (10, 410, 9), (10, 412, 10), (10, 264, 6), (10, 414, 11), (10, 269, 4), (1, 73, 0), (1, 75, 1), (10, 223, 3), (9, 21, 3), (10, 326, 2), (10, 407, 7), (11, 116, 2), (11, 118, 3), (11, 119, 4), (11, 139, 0), (11, 144, 12), (11, 240, 5), (13, 137, 13), (11, 248, 6), (14, 77, 14), (11, 281, 7)]
def xkl : List (Nat × Nat × Nat) := xkl_0
set_option maxRecDepth 100000 in
theorem xkl_w0 : ∀ w ∈ xkl_0.map xklW, w ∈ lw_tbl ∧ xgw w = true := xSk_ok (gs := [350, 0, 4, 83, 3, 0, 0, 12, 3, 4, 25, 0, 303, 213, 30, 10, 92, 0, 0, 274, 0, 52, 9, 4, 9, 84]) ((xSk_c rfl (xSk_c rfl (xSk_c rfl (xSk_c rfl (xSk_c rfl (xSk_c rfl (xSk_c rfl (xSk_c rfl (xSk_c rfl (xSk_c rfl (xSk_c rfl (xSk_c rfl (xSk_c rfl (xSk_c rfl (xSk_c rfl (xSk_c rfl (xSk_c rfl (xSk_c rfl (xSk_c rfl (xSk_c rfl (xSk_c rfl (xSk_c rfl (xSk_c rfl (xSk_c rfl (xSk_c rfl (xSk_c rfl xSk_n))))))))))))))))))))))))))) (by decide +kernel)
theorem xkl_w : ∀ q ∈ xkl, xklW q ∈ lw_tbl ∧ xgw (xklW q) = true := by
  intro q hq
  simp only [xkl, List.mem_append] at hq
  exact xkl_w0 _ (List.mem_map.mpr ⟨q, hq, rfl⟩)
/-- an entry links what the tables say -/
def xlnk (k : Nat) (e : XEn) : Bool := match e with
  | (i, _, a, b) => match i with
    | .getfield ix => decide ((xK k, ix, a, b, true) ∈ xfl) || decide ((xK k, ix, a, b, false) ∈ xfl)
    | .putfield ix => (decide ((xK k, ix, a, b, false) ∈ xfl) && (decide (((xcT a).2.1 b).2.2.2 = false) || (decide ((xY k).name = "<init>") && decide (((xcT a).2.1 b).1 = xcn (xK k))))) || (decide ((xK k, ix, a, b, true) ∈ xfl) && decide (((xcT a).2.1 b).2.2.2 = false))
    | .invokevirtual ix => decide ((xK k, ix, a) ∈ xml) && decide (a ∈ xvm)
    | .invokestatic ix => (match b with | 0 => decide ((xK k, ix, a) ∈ xml) && decide (a ∈ xsm) | 1 => decide ((xK k, ix, a) ∈ xnat) && decide (a < 3) | _ => true)
    | .invokespecial ix => (match b with | 0 => decide ((xK k, ix, a) ∈ xml) && decide (a ∈ xim) | 1 => decide ((xK k, ix, a) ∈ xmn) && decide (a ∈ xim) | 2 => decide ((xK k, ix) ∈ xmo) | _ => true)
    | .new ix => (match b with | 0 => decide ((xK k, ix, a) ∈ xnl) | _ => true)
    | .newarray t => decide (newarray.typeOf t = xat a) && (decide (100 ≤ a) && decide (a < 103))
    | .anewarray ix => decide ((xK k, ix) ∈ xan)
    | .ldc ix => (decide ((xK k, ix, a) ∈ xkl) && (match xnth xcon a with | some (.int _) => true | some (.float _) => true | _ => false)) || decide (a = 999)
    | .ldc_w ix => (decide ((xK k, ix, a) ∈ xkl) && (match xnth xcon a with | some (.int _) => true | some (.float _) => true | _ => false)) || decide (a = 999)
    | .ldc2_w ix => decide ((xK k, ix, a) ∈ xkl) && (match xnth xcon a with | some (.long _) => true | some (.double _) => true | _ => false)
    | _ => true
def xent (k pc : Nat) (e : XEn) : Bool := decide (decode (xB k) pc = .ok (e.1, e.2.1)) && (xlen e.1 e.2.1 && ((match xoff e.1 with | some o => decide ((pc : Int) + o = (e.2.2.1 : Int)) | none => true) && xlnk k e))
def xentR (lo n : Nat) : Bool := (List.range n).all (fun k => (List.range (xSz (lo + k))).all (fun pc => match xcode (lo + k) pc with | some e => xent (lo + k) pc e | none => true))
end
