noncomputable section
/-! Worlds of a fixed shape, with whole numbers. -/
abbrev zM : Type := Nat → Nat → Int
/-- what a slot is: an int, a long, a reference -/
abbrev zK : Type := Bool ⊕ Nat
abbrev zS : Type := Nat × Nat × (Nat → zK)
def zval (k : zK) (x : Int) : Value := match k with
  | .inl false => .int (Int32.ofInt x)
  | .inl true => .long (Int64.ofInt x)
  | .inr r => .ref r
def zI : Nat → zK := fun _ => .inl false
def zJ : Nat → zK := fun _ => .inl true
def zkl (l : List zK) (j : Nat) : zK := l.getD j (.inl false)
def zcell (s : zS) (f : Nat → Int) : XE := (s.1, (List.range s.2.1).map (fun j => zval (s.2.2 j) (f j)))
def zsh (q : Nat) : zS := bif Nat.blt q 69 then (bif Nat.blt q 34 then (bif Nat.blt q 17 then (bif Nat.blt q 8 then (bif Nat.blt q 4 then (bif Nat.blt q 2 then (bif Nat.blt q 1 then ((10, 10, zkl [.inr 1, .inr 13, .inl false, .inr 25, .inr 99, .inl false, .inr 101, .inr 105, .inr 108, .inr 113])) else ((6, 8, zkl [.inr 2, .inr 6, .inr 9, .inr 12, .inl false, .inl false, .inl false, .inl false]))) else (bif Nat.blt q 3 then ((2, 5, zkl [.inl false, .inl false, .inr 3, .inr 4, .inr 5])) else ((100, 36, zI)))) else (bif Nat.blt q 6 then (bif Nat.blt q 5 then ((100, 36, zI)) else ((100, 144, zI))) else (bif Nat.blt q 7 then ((7, 4, zkl [.inr 7, .inr 8, .inl false, .inl false])) else ((100, 4, zI))))) else (bif Nat.blt q 12 then (bif Nat.blt q 10 then (bif Nat.blt q 9 then ((100, 16, zI)) else ((8, 5, zkl [.inl false, .inl false, .inl false, .inr 10, .inr 11]))) else (bif Nat.blt q 11 then ((100, 8, zI)) else ((100, 288, zI)))) else (bif Nat.blt q 14 then (bif Nat.blt q 13 then ((100, 36, zI)) else ((6, 8, zkl [.inr 14, .inr 18, .inr 21, .inr 24, .inl false, .inl false, .inl false, .inl false]))) else (bif Nat.blt q 15 then ((2, 5, zkl [.inl false, .inl false, .inr 15, .inr 16, .inr 17])) else (bif Nat.blt q 16 then ((100, 36, zI)) else ((100, 36, zI))))))) else (bif Nat.blt q 25 then (bif Nat.blt q 21 then (bif Nat.blt q 19 then (bif Nat.blt q 18 then ((100, 144, zI)) else ((7, 4, zkl [.inr 19, .inr 20, .inl false, .inl false]))) else (bif Nat.blt q 20 then ((100, 4, zI)) else ((100, 16, zI)))) else (bif Nat.blt q 23 then (bif Nat.blt q 22 then ((8, 5, zkl [.inl false, .inl false, .inl false, .inr 22, .inr 23])) else ((100, 8, zI))) else (bif Nat.blt q 24 then ((100, 288, zI)) else ((100, 36, zI))))) else (bif Nat.blt q 29 then (bif Nat.blt q 27 then (bif Nat.blt q 26 then ((0, 3, zkl [.inr 26, .inl false, .inl false])) else ((103, 6, zkl [.inr 27, .inr 39, .inr 51, .inr 63, .inr 75, .inr 87]))) else (bif Nat.blt q 28 then ((6, 8, zkl [.inr 28, .inr 32, .inr 35, .inr 38, .inl false, .inl false, .inl false, .inl false])) else ((2, 5, zkl [.inl false, .inl false, .inr 29, .inr 30, .inr 31])))) else (bif Nat.blt q 31 then (bif Nat.blt q 30 then ((100, 36, zI)) else ((100, 36, zI))) else (bif Nat.blt q 32 then ((100, 144, zI)) else (bif Nat.blt q 33 then ((7, 4, zkl [.inr 33, .inr 34, .inl false, .inl false])) else ((100, 4, zI)))))))) else (bif Nat.blt q 51 then (bif Nat.blt q 42 then (bif Nat.blt q 38 then (bif Nat.blt q 36 then (bif Nat.blt q 35 then ((100, 16, zI)) else ((8, 5, zkl [.inl false, .inl false, .inl false, .inr 36, .inr 37]))) else (bif Nat.blt q 37 then ((100, 8, zI)) else ((100, 288, zI)))) else (bif Nat.blt q 40 then (bif Nat.blt q 39 then ((100, 36, zI)) else ((6, 8, zkl [.inr 40, .inr 44, .inr 47, .inr 50, .inl false, .inl false, .inl false, .inl false]))) else (bif Nat.blt q 41 then ((2, 5, zkl [.inl false, .inl false, .inr 41, .inr 42, .inr 43])) else ((100, 36, zI))))) else (bif Nat.blt q 46 then (bif Nat.blt q 44 then (bif Nat.blt q 43 then ((100, 36, zI)) else ((100, 144, zI))) else (bif Nat.blt q 45 then ((7, 4, zkl [.inr 45, .inr 46, .inl false, .inl false])) else ((100, 4, zI)))) else (bif Nat.blt q 48 then (bif Nat.blt q 47 then ((100, 16, zI)) else ((8, 5, zkl [.inl false, .inl false, .inl false, .inr 48, .inr 49]))) else (bif Nat.blt q 49 then ((100, 8, zI)) else (bif Nat.blt q 50 then ((100, 288, zI)) else ((100, 36, zI))))))) else (bif Nat.blt q 60 then (bif Nat.blt q 55 then (bif Nat.blt q 53 then (bif Nat.blt q 52 then ((6, 8, zkl [.inr 52, .inr 56, .inr 59, .inr 62, .inl false, .inl false, .inl false, .inl false])) else ((2, 5, zkl [.inl false, .inl false, .inr 53, .inr 54, .inr 55]))) else (bif Nat.blt q 54 then ((100, 36, zI)) else ((100, 36, zI)))) else (bif Nat.blt q 57 then (bif Nat.blt q 56 then ((100, 144, zI)) else ((7, 4, zkl [.inr 57, .inr 58, .inl false, .inl false]))) else (bif Nat.blt q 58 then ((100, 4, zI)) else (bif Nat.blt q 59 then ((100, 16, zI)) else ((8, 5, zkl [.inl false, .inl false, .inl false, .inr 60, .inr 61])))))) else (bif Nat.blt q 64 then (bif Nat.blt q 62 then (bif Nat.blt q 61 then ((100, 8, zI)) else ((100, 288, zI))) else (bif Nat.blt q 63 then ((100, 36, zI)) else ((6, 8, zkl [.inr 64, .inr 68, .inr 71, .inr 74, .inl false, .inl false, .inl false, .inl false])))) else (bif Nat.blt q 66 then (bif Nat.blt q 65 then ((2, 5, zkl [.inl false, .inl false, .inr 65, .inr 66, .inr 67])) else ((100, 36, zI))) else (bif Nat.blt q 67 then ((100, 36, zI)) else (bif Nat.blt q 68 then ((100, 144, zI)) else ((7, 4, zkl [.inr 69, .inr 70, .inl false, .inl false]))))))))) else (bif Nat.blt q 103 then (bif Nat.blt q 86 then (bif Nat.blt q 77 then (bif Nat.blt q 73 then (bif Nat.blt q 71 then (bif Nat.blt q 70 then ((100, 4, zI)) else ((100, 16, zI))) else (bif Nat.blt q 72 then ((8, 5, zkl [.inl false, .inl false, .inl false, .inr 72, .inr 73])) else ((100, 8, zI)))) else (bif Nat.blt q 75 then (bif Nat.blt q 74 then ((100, 288, zI)) else ((100, 36, zI))) else (bif Nat.blt q 76 then ((6, 8, zkl [.inr 76, .inr 80, .inr 83, .inr 86, .inl false, .inl false, .inl false, .inl false])) else ((2, 5, zkl [.inl false, .inl false, .inr 77, .inr 78, .inr 79]))))) else (bif Nat.blt q 81 then (bif Nat.blt q 79 then (bif Nat.blt q 78 then ((100, 36, zI)) else ((100, 36, zI))) else (bif Nat.blt q 80 then ((100, 144, zI)) else ((7, 4, zkl [.inr 81, .inr 82, .inl false, .inl false])))) else (bif Nat.blt q 83 then (bif Nat.blt q 82 then ((100, 4, zI)) else ((100, 16, zI))) else (bif Nat.blt q 84 then ((8, 5, zkl [.inl false, .inl false, .inl false, .inr 84, .inr 85])) else (bif Nat.blt q 85 then ((100, 8, zI)) else ((100, 288, zI))))))) else (bif Nat.blt q 94 then (bif Nat.blt q 90 then (bif Nat.blt q 88 then (bif Nat.blt q 87 then ((100, 36, zI)) else ((6, 8, zkl [.inr 88, .inr 92, .inr 95, .inr 98, .inl false, .inl false, .inl false, .inl false]))) else (bif Nat.blt q 89 then ((2, 5, zkl [.inl false, .inl false, .inr 89, .inr 90, .inr 91])) else ((100, 36, zI)))) else (bif Nat.blt q 92 then (bif Nat.blt q 91 then ((100, 36, zI)) else ((100, 144, zI))) else (bif Nat.blt q 93 then ((7, 4, zkl [.inr 93, .inr 94, .inl false, .inl false])) else ((100, 4, zI))))) else (bif Nat.blt q 98 then (bif Nat.blt q 96 then (bif Nat.blt q 95 then ((100, 16, zI)) else ((8, 5, zkl [.inl false, .inl false, .inl false, .inr 96, .inr 97]))) else (bif Nat.blt q 97 then ((100, 8, zI)) else ((100, 288, zI)))) else (bif Nat.blt q 100 then (bif Nat.blt q 99 then ((100, 36, zI)) else ((3, 2, zkl [.inr 100, .inl false]))) else (bif Nat.blt q 101 then ((102, 45, zI)) else (bif Nat.blt q 102 then ((1, 3, zkl [.inr 102, .inr 103, .inr 104])) else ((101, 36, zJ)))))))) else (bif Nat.blt q 120 then (bif Nat.blt q 111 then (bif Nat.blt q 107 then (bif Nat.blt q 105 then (bif Nat.blt q 104 then ((101, 36, zJ)) else ((100, 36, zI))) else (bif Nat.blt q 106 then ((4, 2, zkl [.inr 106, .inr 107])) else ((100, 36, zI)))) else (bif Nat.blt q 109 then (bif Nat.blt q 108 then ((100, 36, zI)) else ((5, 4, zkl [.inr 109, .inr 110, .inr 111, .inr 112]))) else (bif Nat.blt q 110 then ((101, 36, zJ)) else ((101, 36, zJ))))) else (bif Nat.blt q 115 then (bif Nat.blt q 113 then (bif Nat.blt q 112 then ((101, 324, zJ)) else ((100, 9, zI))) else (bif Nat.blt q 114 then ((9, 1, zkl [.inr 114])) else ((100, 36, zI)))) else (bif Nat.blt q 117 then (bif Nat.blt q 116 then ((11, 43, zkl [.inl false, .inr 116, .inr 117, .inr 118, .inr 119, .inr 120, .inl false, .inl false, .inl false, .inl false, .inl false, .inl false, .inl false, .inl false, .inr 121, .inr 122, .inr 123, .inr 124, .inr 125, .inl false, .inl false, .inl false, .inr 126, .inl false, .inr 127, .inr 128, .inl false, .inl false, .inl false, .inl false, .inl false, .inr 129, .inr 130, .inr 131, .inr 132, .inr 133, .inr 134, .inr 135, .inr 136, .inl false, .inl false, .inl false, .inl false])) else ((100, 36, zI))) else (bif Nat.blt q 118 then ((100, 36, zI)) else (bif Nat.blt q 119 then ((100, 4, zI)) else ((100, 16, zI))))))) else (bif Nat.blt q 129 then (bif Nat.blt q 124 then (bif Nat.blt q 122 then (bif Nat.blt q 121 then ((100, 36, zI)) else ((101, 36, zJ))) else (bif Nat.blt q 123 then ((101, 36, zJ)) else ((100, 8, zI)))) else (bif Nat.blt q 126 then (bif Nat.blt q 125 then ((100, 32, zI)) else ((100, 288, zI))) else (bif Nat.blt q 127 then ((100, 36, zI)) else (bif Nat.blt q 128 then ((100, 45, zI)) else ((100, 36, zI)))))) else (bif Nat.blt q 133 then (bif Nat.blt q 131 then (bif Nat.blt q 130 then ((100, 36, zI)) else ((101, 36, zJ))) else (bif Nat.blt q 132 then ((101, 36, zJ)) else ((101, 324, zJ)))) else (bif Nat.blt q 135 then (bif Nat.blt q 134 then ((100, 9, zI)) else ((100, 36, zI))) else (bif Nat.blt q 136 then ((100, 3072, zI)) else (bif Nat.blt q 137 then ((100, 512, zI)) else ((101, 1, zJ)))))))))
def zcnt : Nat := 138
def zheap (M : zM) : List XE := (List.range zcnt).map (fun q => zcell (zsh q) (M q))
def zup (M : zM) (q j : Nat) (x : Int) : zM := fun q' j' => if q' = q ∧ j' = j then x else M q' j'
def zcp (M : zM) (q0 q1 sp dp n : Nat) : zM := fun q' j' => if q' = q1 ∧ dp ≤ j' ∧ j' < dp + n then M q0 (sp + (j' - dp)) else M q' j'
def zIs (q c l : Nat) (K : Nat → zK) : Prop := q < zcnt ∧ zsh q = (c, l, K) ∧ l ≤ 4096
def zSt (a : Nat) : Prop := a = 1 ∨ a = 13 ∨ a = 27 ∨ a = 39 ∨ a = 51 ∨ a = 63 ∨ a = 75 ∨ a = 87
theorem zst_0 {a : Nat} (h : zSt a) : zIs a 6 8 (zkl [.inr (a + 1), .inr (a + 5), .inr (a + 8), .inr (a + 11), .inl false, .inl false, .inl false, .inl false]) := by
  rcases h with rfl | rfl | rfl | rfl | rfl | rfl | rfl | rfl
  all_goals exact ⟨by decide, rfl, by decide⟩
theorem zst_1 {a : Nat} (h : zSt a) : zIs (a + 1) 2 5 (zkl [.inl false, .inl false, .inr (a + 2), .inr (a + 3), .inr (a + 4)]) := by
  rcases h with rfl | rfl | rfl | rfl | rfl | rfl | rfl | rfl
  all_goals exact ⟨by decide, rfl, by decide⟩
theorem zst_2 {a : Nat} (h : zSt a) : zIs (a + 2) 100 36 zI := by
  rcases h with rfl | rfl | rfl | rfl | rfl | rfl | rfl | rfl
  all_goals exact ⟨by decide, rfl, by decide⟩
theorem zst_3 {a : Nat} (h : zSt a) : zIs (a + 3) 100 36 zI := by
  rcases h with rfl | rfl | rfl | rfl | rfl | rfl | rfl | rfl
  all_goals exact ⟨by decide, rfl, by decide⟩
theorem zst_4 {a : Nat} (h : zSt a) : zIs (a + 4) 100 144 zI := by
  rcases h with rfl | rfl | rfl | rfl | rfl | rfl | rfl | rfl
  all_goals exact ⟨by decide, rfl, by decide⟩
theorem zst_5 {a : Nat} (h : zSt a) : zIs (a + 5) 7 4 (zkl [.inr (a + 6), .inr (a + 7), .inl false, .inl false]) := by
  rcases h with rfl | rfl | rfl | rfl | rfl | rfl | rfl | rfl
  all_goals exact ⟨by decide, rfl, by decide⟩
theorem zst_6 {a : Nat} (h : zSt a) : zIs (a + 6) 100 4 zI := by
  rcases h with rfl | rfl | rfl | rfl | rfl | rfl | rfl | rfl
  all_goals exact ⟨by decide, rfl, by decide⟩
theorem zst_7 {a : Nat} (h : zSt a) : zIs (a + 7) 100 16 zI := by
  rcases h with rfl | rfl | rfl | rfl | rfl | rfl | rfl | rfl
  all_goals exact ⟨by decide, rfl, by decide⟩
theorem zst_8 {a : Nat} (h : zSt a) : zIs (a + 8) 8 5 (zkl [.inl false, .inl false, .inl false, .inr (a + 9), .inr (a + 10)]) := by
  rcases h with rfl | rfl | rfl | rfl | rfl | rfl | rfl | rfl
  all_goals exact ⟨by decide, rfl, by decide⟩
theorem zst_9 {a : Nat} (h : zSt a) : zIs (a + 9) 100 8 zI := by
  rcases h with rfl | rfl | rfl | rfl | rfl | rfl | rfl | rfl
  all_goals exact ⟨by decide, rfl, by decide⟩
theorem zst_10 {a : Nat} (h : zSt a) : zIs (a + 10) 100 288 zI := by
  rcases h with rfl | rfl | rfl | rfl | rfl | rfl | rfl | rfl
  all_goals exact ⟨by decide, rfl, by decide⟩
theorem zst_11 {a : Nat} (h : zSt a) : zIs (a + 11) 100 36 zI := by
  rcases h with rfl | rfl | rfl | rfl | rfl | rfl | rfl | rfl
  all_goals exact ⟨by decide, rfl, by decide⟩
theorem zis_0 : zIs 0 10 10 (zkl [.inr 1, .inr 13, .inl false, .inr 25, .inr 99, .inl false, .inr 101, .inr 105, .inr 108, .inr 113]) := ⟨by decide, rfl, by decide⟩
theorem zis_25 : zIs 25 0 3 (zkl [.inr 26, .inl false, .inl false]) := ⟨by decide, rfl, by decide⟩
theorem zis_26 : zIs 26 103 6 (zkl [.inr 27, .inr 39, .inr 51, .inr 63, .inr 75, .inr 87]) := ⟨by decide, rfl, by decide⟩
theorem zis_99 : zIs 99 3 2 (zkl [.inr 100, .inl false]) := ⟨by decide, rfl, by decide⟩
theorem zis_100 : zIs 100 102 45 zI := ⟨by decide, rfl, by decide⟩
theorem zis_101 : zIs 101 1 3 (zkl [.inr 102, .inr 103, .inr 104]) := ⟨by decide, rfl, by decide⟩
theorem zis_102 : zIs 102 101 36 zJ := ⟨by decide, rfl, by decide⟩
theorem zis_103 : zIs 103 101 36 zJ := ⟨by decide, rfl, by decide⟩
theorem zis_104 : zIs 104 100 36 zI := ⟨by decide, rfl, by decide⟩
theorem zis_105 : zIs 105 4 2 (zkl [.inr 106, .inr 107]) := ⟨by decide, rfl, by decide⟩
theorem zis_106 : zIs 106 100 36 zI := ⟨by decide, rfl, by decide⟩
theorem zis_107 : zIs 107 100 36 zI := ⟨by decide, rfl, by decide⟩
theorem zis_108 : zIs 108 5 4 (zkl [.inr 109, .inr 110, .inr 111, .inr 112]) := ⟨by decide, rfl, by decide⟩
theorem zis_109 : zIs 109 101 36 zJ := ⟨by decide, rfl, by decide⟩
theorem zis_110 : zIs 110 101 36 zJ := ⟨by decide, rfl, by decide⟩
theorem zis_111 : zIs 111 101 324 zJ := ⟨by decide, rfl, by decide⟩
theorem zis_112 : zIs 112 100 9 zI := ⟨by decide, rfl, by decide⟩
theorem zis_113 : zIs 113 9 1 (zkl [.inr 114]) := ⟨by decide, rfl, by decide⟩
theorem zis_114 : zIs 114 100 36 zI := ⟨by decide, rfl, by decide⟩
theorem zis_115 : zIs 115 11 43 (zkl [.inl false, .inr 116, .inr 117, .inr 118, .inr 119, .inr 120, .inl false, .inl false, .inl false, .inl false, .inl false, .inl false, .inl false, .inl false, .inr 121, .inr 122, .inr 123, .inr 124, .inr 125, .inl false, .inl false, .inl false, .inr 126, .inl false, .inr 127, .inr 128, .inl false, .inl false, .inl false, .inl false, .inl false, .inr 129, .inr 130, .inr 131, .inr 132, .inr 133, .inr 134, .inr 135, .inr 136, .inl false, .inl false, .inl false, .inl false]) := ⟨by decide, rfl, by decide⟩
theorem zis_116 : zIs 116 100 36 zI := ⟨by decide, rfl, by decide⟩
theorem zis_117 : zIs 117 100 36 zI := ⟨by decide, rfl, by decide⟩
theorem zis_118 : zIs 118 100 4 zI := ⟨by decide, rfl, by decide⟩
theorem zis_119 : zIs 119 100 16 zI := ⟨by decide, rfl, by decide⟩
theorem zis_120 : zIs 120 100 36 zI := ⟨by decide, rfl, by decide⟩
theorem zis_121 : zIs 121 101 36 zJ := ⟨by decide, rfl, by decide⟩
theorem zis_122 : zIs 122 101 36 zJ := ⟨by decide, rfl, by decide⟩
theorem zis_123 : zIs 123 100 8 zI := ⟨by decide, rfl, by decide⟩
theorem zis_124 : zIs 124 100 32 zI := ⟨by decide, rfl, by decide⟩
theorem zis_125 : zIs 125 100 288 zI := ⟨by decide, rfl, by decide⟩
theorem zis_126 : zIs 126 100 36 zI := ⟨by decide, rfl, by decide⟩
theorem zis_127 : zIs 127 100 45 zI := ⟨by decide, rfl, by decide⟩
theorem zis_128 : zIs 128 100 36 zI := ⟨by decide, rfl, by decide⟩
theorem zis_129 : zIs 129 100 36 zI := ⟨by decide, rfl, by decide⟩
theorem zis_130 : zIs 130 101 36 zJ := ⟨by decide, rfl, by decide⟩
theorem zis_131 : zIs 131 101 36 zJ := ⟨by decide, rfl, by decide⟩
theorem zis_132 : zIs 132 101 324 zJ := ⟨by decide, rfl, by decide⟩
theorem zis_133 : zIs 133 100 9 zI := ⟨by decide, rfl, by decide⟩
theorem zis_134 : zIs 134 100 36 zI := ⟨by decide, rfl, by decide⟩
theorem zis_135 : zIs 135 100 3072 zI := ⟨by decide, rfl, by decide⟩
theorem zis_136 : zIs 136 100 512 zI := ⟨by decide, rfl, by decide⟩
theorem zis_137 : zIs 137 101 1 zJ := ⟨by decide, rfl, by decide⟩
theorem zheap_at {M : zM} {q c l : Nat} {K : Nat → zK} (h : zIs q c l K) : xnth (zheap M) q = some (c, (List.range l).map (fun j => zval (K j) (M q j))) := by
  rw [xnth_eq]
  unfold zheap
  rw [List.getElem?_map, List.getElem?_range h.1]
  show some (zcell (zsh q) (M q)) = _
  rw [h.2.1]
  rfl
theorem zslot_at {f : Nat → Int} {K : Nat → zK} {l j : Nat} (h : j < l) : xnth ((List.range l).map (fun j => zval (K j) (f j))) j = some (zval (K j) (f j)) := by
  rw [xnth_eq, List.getElem?_map, List.getElem?_range h]
  rfl
theorem zslot_len {f : Nat → Int} {K : Nat → zK} {l : Nat} : ((List.range l).map (fun j => zval (K j) (f j))).length = l := by rw [List.length_map, List.length_range]
theorem zmap_set {α : Type} {F G : Nat → α} {l j : Nat} {v : α} (h : ∀ i, i < l → G i = if i = j then v else F i) : (List.range l).map G = ((List.range l).map F).set j v := by
  apply List.ext_getElem
  · simp
  · intro i h1 h2
    have hi : i < l := by simpa using h1
    rw [List.getElem_set]
    simp only [List.getElem_map, List.getElem_range]
    rw [h i hi]
    by_cases hij : i = j
    · rw [if_pos hij, if_pos hij.symm]
    · rw [if_neg hij, if_neg (Ne.symm hij)]
theorem zheap_set {M M' : zM} {q c l : Nat} {K : Nat → zK} {vs : List Value} (h : zIs q c l K) (h1 : ∀ q', q' ≠ q → M' q' = M q') (h2 : (List.range l).map (fun j => zval (K j) (M' q j)) = vs) : zheap M' = (zheap M).set q (c, vs) := by
  unfold zheap
  refine zmap_set (fun i _ => ?_)
  by_cases hi : i = q
  · subst hi
    rw [if_pos rfl]
    show zcell (zsh i) (M' i) = _
    rw [h.2.1, ← h2]
    rfl
  · rw [if_neg hi, h1 i hi]
theorem zheap_up {M : zM} {q c l j : Nat} {K : Nat → zK} {x : Int} (h : zIs q c l K) : zheap (zup M q j x) = (zheap M).set q (c, ((List.range l).map (fun j => zval (K j) (M q j))).set j (zval (K j) x)) := by
  refine zheap_set h (fun q' hq => ?_) ?_
  · funext j'
    unfold zup
    rw [if_neg (fun e => hq e.1)]
  · refine zmap_set (fun i _ => ?_)
    unfold zup
    by_cases hi : i = j
    · subst hi
      rw [if_pos ⟨rfl, rfl⟩, if_pos rfl]
    · rw [if_neg (fun e => hi e.2), if_neg hi]
theorem zheap_cp {M : zM} {q0 q1 c l0 l1 sp dp n : Nat} {K : Nat → zK} (h1 : zIs q1 c l1 K) (hK : K = zI ∨ K = zJ) (g1 : sp + n ≤ l0) (g2 : dp + n ≤ l1) : zheap (zcp M q0 q1 sp dp n) = (zheap M).set q1 (c, xcpy ((List.range l0).map (fun j => zval (K j) (M q0 j))) ((List.range l1).map (fun j => zval (K j) (M q1 j))) sp dp n) := by
  have hk : ∀ i j, K i = K j := by rcases hK with rfl | rfl <;> exact fun _ _ => rfl
  refine zheap_set h1 (fun q' hq => ?_) ?_
  · funext j'
    unfold zcp
    rw [if_neg (fun e => hq e.1)]
  · apply List.ext_getElem?
    intro i
    rw [xcpy_at (by rw [zslot_len]; exact g1) (by rw [zslot_len]; exact g2)]
    by_cases hi : i < l1
    · rw [← xnth_eq, zslot_at hi]
      unfold zcp
      by_cases hin : dp ≤ i ∧ i < dp + n
      · rw [if_pos ⟨rfl, hin⟩, if_pos hin, ← xnth_eq, zslot_at (by omega), hk i (sp + (i - dp))]
      · rw [if_neg (fun e => hin e.2), if_neg hin, ← xnth_eq, zslot_at hi]
    · rw [if_neg (by omega), List.getElem?_eq_none (by rw [zslot_len]; omega), List.getElem?_eq_none (by rw [zslot_len]; omega)]
/-! Runs of a frame. -/
def zL (ls ρ : XL) : Prop := ∀ p ∈ ρ, xgl ls p.1 = some p.2
def zW (f : XC → XS) (k N : Nat) (c : XC) (Q : XO → XW → Prop) : Prop := ∃ n c1 z o σ, n ≤ N ∧ xpow f n c c1 ∧ f c1 = some (.inr z) ∧ xfin2 k z = some (o, σ) ∧ Q o σ
def zG (f : XC → XS) (k N pc : Nat) (ρ : XL) (st : List Value) (cu su : Nat) (b : Bool) (M : zM) (Q : XO → XW → Prop) : Prop := ∀ ls, zL ls ρ → zW f k N (pc, ls, st, cu, su, (b, zheap M)) Q
theorem zW_step {f : XC → XS} {k N : Nat} {c c1 : XC} {Q : XO → XW → Prop} (h : f c = some (.inl c1)) (h1 : zW f k N c1 Q) : zW f k (N + 1) c Q := by
  obtain ⟨n, c2, z, o, σ, hn, hp, hz, hf, hq⟩ := h1
  exact ⟨n + 1, c2, z, o, σ, by omega, ⟨c1, h, hp⟩, hz, hf, hq⟩
theorem zW_mono {f : XC → XS} {k N N' : Nat} {c : XC} {Q : XO → XW → Prop} (h : N ≤ N') (h1 : zW f k N c Q) : zW f k N' c Q := by
  obtain ⟨n, c2, z, o, σ, hn, h2⟩ := h1
  exact ⟨n, c2, z, o, σ, by omega, h2⟩
theorem zG_mono {f : XC → XS} {k N N' pc : Nat} {ρ : XL} {st : List Value} {cu su : Nat} {b : Bool} {M : zM} {Q : XO → XW → Prop} (h : N ≤ N') (h1 : zG f k N pc ρ st cu su b M Q) : zG f k N' pc ρ st cu su b M Q := fun ls hl => zW_mono h (h1 ls hl)
theorem zG_sub {f : XC → XS} {k N pc : Nat} {ρ ρ' : XL} {st : List Value} {cu su : Nat} {b : Bool} {M : zM} {Q : XO → XW → Prop} (h : ∀ p ∈ ρ', p ∈ ρ) (h1 : zG f k N pc ρ' st cu su b M Q) : zG f k N pc ρ st cu su b M Q := fun ls hl => h1 ls (fun p hp => hl p (h p hp))
theorem zmem {ρ : XL} {p : Nat × Value} (i : Nat) (h : ρ[i]? = some p) : p ∈ ρ := List.mem_of_getElem? h
def zmk1 (j : Nat) (v : Value) (ρ : XL) : XL := (j, v) :: ρ.filter (xk1 j)
def zmk2 (j : Nat) (v : Value) (ρ : XL) : XL := (j, v) :: ρ.filter (xk2 j)
theorem zgl_filter {q : Nat × Value → Bool} : ∀ {ls : XL} {j : Nat} {v : Value}, xgl ls j = some v → q (j, v) = true → xgl (ls.filter q) j = some v
  | [], _, _, h, _ => by cases h
  | (i, u) :: r, j, v, h, hq => by
    have h1 : (bif Nat.beq i j then some u else xgl r j) = some v := h
    clear h
    rw [List.filter_cons]
    cases hb : Nat.beq i j with
    | true =>
      rw [hb, cond_true] at h1
      have hu := Option.some.inj h1
      have hi := Nat.eq_of_beq_eq_true hb
      rw [hi, hu, if_pos hq]
      show (bif Nat.beq j j then some v else _) = some v
      rw [Nat.beq_refl, cond_true]
    | false =>
      rw [hb, cond_false] at h1
      have ih := zgl_filter h1 hq
      split
      · show (bif Nat.beq i j then some u else xgl (r.filter q) j) = some v
        rw [hb, cond_false]
        exact ih
      · exact ih
theorem zxk1_ne {j : Nat} {p : Nat × Value} (h : xk1 j p = true) : Nat.beq j p.1 = false := by
  unfold xk1 at h
  rw [Bool.and_eq_true] at h
  have h1 := h.1
  cases hb : Nat.beq j p.1 with
  | false => rfl
  | true =>
    have e := Nat.eq_of_beq_eq_true hb
    rw [← e, Nat.beq_refl] at h1
    cases h1
theorem zxk2_ne {j : Nat} {p : Nat × Value} (h : xk2 j p = true) : Nat.beq j p.1 = false := by
  unfold xk2 at h
  rw [Bool.and_eq_true] at h
  have h1 := h.1
  cases hb : Nat.beq j p.1 with
  | false => rfl
  | true =>
    have e := Nat.eq_of_beq_eq_true hb
    rw [← e, Nat.beq_refl] at h1
    cases h1
theorem zL_1 {ls ρ : XL} {j : Nat} {v : Value} (h : zL ls ρ) : zL (xs1 ls j v) (zmk1 j v ρ) := by
  intro p hp
  rcases List.mem_cons.mp hp with rfl | hp
  · show (bif Nat.beq j j then some v else _) = some v
    rw [Nat.beq_refl, cond_true]
  · obtain ⟨hp, hq⟩ := List.mem_filter.mp hp
    show (bif Nat.beq j p.1 then some v else xgl (ls.filter (xk1 j)) p.1) = some p.2
    rw [zxk1_ne hq, cond_false]
    exact zgl_filter (h p hp) hq
theorem zL_2 {ls ρ : XL} {j : Nat} {v : Value} (h : zL ls ρ) : zL (xs2 ls j v) (zmk2 j v ρ) := by
  intro p hp
  rcases List.mem_cons.mp hp with rfl | hp
  · show (bif Nat.beq j j then some v else _) = some v
    rw [Nat.beq_refl, cond_true]
  · obtain ⟨hp, hq⟩ := List.mem_filter.mp hp
    show (bif Nat.beq j p.1 then some v else xgl (ls.filter (xk2 j)) p.1) = some p.2
    rw [zxk2_ne hq, cond_false]
    exact zgl_filter (h p hp) hq
theorem zL_f1 {ls ρ : XL} {j : Nat} (h : zL ls ρ) : zL (ls.filter (xk1 j)) (ρ.filter (xk1 j)) := by
  intro p hp
  obtain ⟨hp, hq⟩ := List.mem_filter.mp hp
  exact zgl_filter (h p hp) hq
end
noncomputable section
/-! One lemma an instruction, over worlds of a fixed shape. -/
def zr32 (x : Int) : Prop := -2147483648 ≤ x ∧ x ≤ 2147483647
def zr64 (x : Int) : Prop := -9223372036854775808 ≤ x ∧ x ≤ 9223372036854775807
theorem zt32 {x : Int} (h : zr32 x) : (Int32.ofInt x).toInt = x := Int32.toInt_ofInt_of_le (by have := h.1; omega) (by have := h.2; omega)
theorem zt64 {x : Int} (h : zr64 x) : (Int64.ofInt x).toInt = x := Int64.toInt_ofInt_of_le (by have := h.1; omega) (by have := h.2; omega)
theorem zlt32 {x y : Int} (hx : zr32 x) (hy : zr32 y) : Int32.ofInt x < Int32.ofInt y ↔ x < y := by rw [Int32.lt_iff_toInt_lt, zt32 hx, zt32 hy]
theorem zle32 {x y : Int} (hx : zr32 x) (hy : zr32 y) : Int32.ofInt x ≤ Int32.ofInt y ↔ x ≤ y := by rw [Int32.le_iff_toInt_le, zt32 hx, zt32 hy]
theorem zeq32 {x y : Int} (hx : zr32 x) (hy : zr32 y) : Int32.ofInt x = Int32.ofInt y ↔ x = y := by rw [← Int32.toInt_inj, zt32 hx, zt32 hy]
theorem zlt64 {x y : Int} (hx : zr64 x) (hy : zr64 y) : Int64.ofInt x < Int64.ofInt y ↔ x < y := by rw [Int64.lt_iff_toInt_lt, zt64 hx, zt64 hy]
theorem zeq64 {x y : Int} (hx : zr64 x) (hy : zr64 y) : Int64.ofInt x = Int64.ofInt y ↔ x = y := by rw [← Int64.toInt_inj, zt64 hx, zt64 hy]
theorem znat32 {x : Int} (h : 0 ≤ x) : Int32.ofInt x = Int32.ofNat x.toNat := by rw [← Int32.ofInt_eq_ofNat, Int.toNat_of_nonneg h]
theorem znat64 {x : Int} (h : 0 ≤ x) : Int64.ofInt x = Int64.ofNat x.toNat := by rw [← Int64.ofInt_eq_ofNat, Int.toNat_of_nonneg h]
theorem zdiv32 {x y : Int} (hx : 0 ≤ x ∧ x ≤ 2147483647) (hy : 0 < y ∧ y ≤ 2147483647) : Int32.ofInt x / Int32.ofInt y = Int32.ofInt (x / y) := by
  rw [znat32 hx.1, znat32 (by omega : 0 ≤ y), znat32 (Int.ediv_nonneg hx.1 (by omega)), ← y_div32 (by omega) (by omega)]
  congr 1
  have h1 : ((x / y).toNat : Int) = x / y := Int.toNat_of_nonneg (Int.ediv_nonneg hx.1 (by omega))
  have h2 : ((x.toNat / y.toNat : Nat) : Int) = x / y := by rw [Int.natCast_ediv, Int.toNat_of_nonneg hx.1, Int.toNat_of_nonneg (by omega : 0 ≤ y)]
  omega
theorem zrem32 {x y : Int} (hx : 0 ≤ x ∧ x ≤ 2147483647) (hy : 0 < y ∧ y ≤ 2147483647) : Int32.ofInt x - Int32.ofInt x / Int32.ofInt y * Int32.ofInt y = Int32.ofInt (x % y) := by
  rw [zdiv32 hx hy, ← Int32.ofInt_mul, ← Int32.ofInt_sub]
  congr 1
  have := Int.mul_ediv_add_emod x y
  have h2 := Int.mul_comm y (x / y)
  omega
theorem zdiv64 {x y : Int} (hx : 0 ≤ x ∧ x ≤ 9223372036854775807) (hy : 0 < y ∧ y ≤ 9223372036854775807) : Int64.ofInt x / Int64.ofInt y = Int64.ofInt (x / y) := by
  rw [znat64 hx.1, znat64 (by omega : 0 ≤ y), znat64 (Int.ediv_nonneg hx.1 (by omega)), ← y_div64 (by omega) (by omega)]
  congr 1
  have h1 : ((x / y).toNat : Int) = x / y := Int.toNat_of_nonneg (Int.ediv_nonneg hx.1 (by omega))
  have h2 : ((x.toNat / y.toNat : Nat) : Int) = x / y := by rw [Int.natCast_ediv, Int.toNat_of_nonneg hx.1, Int.toNat_of_nonneg (by omega : 0 ≤ y)]
  omega
theorem zrem64 {x y : Int} (hx : 0 ≤ x ∧ x ≤ 9223372036854775807) (hy : 0 < y ∧ y ≤ 9223372036854775807) : Int64.ofInt x - Int64.ofInt x / Int64.ofInt y * Int64.ofInt y = Int64.ofInt (x % y) := by
  rw [zdiv64 hx hy, ← Int64.ofInt_mul, ← Int64.ofInt_sub]
  congr 1
  have := Int.mul_ediv_add_emod x y
  have h2 := Int.mul_comm y (x / y)
  omega
theorem znz32 {y : Int} (hy : 0 < y ∧ y ≤ 2147483647) : ¬ Int32.ofInt y = 0 := by
  intro e
  have e : Int32.ofInt y = Int32.ofInt 0 := e
  rw [zeq32 ⟨by omega, hy.2⟩ ⟨by decide, by decide⟩] at e
  omega
theorem znz64 {y : Int} (hy : 0 < y ∧ y ≤ 9223372036854775807) : ¬ Int64.ofInt y = 0 := by
  intro e
  have e : Int64.ofInt y = Int64.ofInt 0 := e
  rw [zeq64 ⟨by omega, hy.2⟩ ⟨by decide, by decide⟩] at e
  omega
theorem zi2l {x : Int} (h : zr32 x) : (Int32.ofInt x).toInt64 = Int64.ofInt x := by
  apply Int64.toInt_inj.mp
  rw [Int32.toInt_toInt64, zt32 h, zt64 ⟨by have := h.1; omega, by have := h.2; omega⟩]
/-- how an int compares -/
def zcd (cd : Jvm.ClassFile.Cond) (x y : Int) : Prop := match cd with
  | .eq => x = y
  | .ne => ¬ x = y
  | .lt => x < y
  | .ge => ¬ x < y
  | .gt => y < x
  | .le => ¬ y < x
theorem zcmp_e (cd : Jvm.ClassFile.Cond) {x y : Int} (hx : zr32 x) (hy : zr32 y) : y_cmp (y_cd cd) (Int32.ofInt x) (Int32.ofInt y) = true ↔ zcd cd x y := by
  cases cd with
  | eq => show decide _ = true ↔ x = y; rw [decide_eq_true_iff, zeq32 hx hy]
  | ne => show (!decide _) = true ↔ ¬ x = y; rw [← decide_not, decide_eq_true_iff, zeq32 hx hy]
  | lt => show decide _ = true ↔ x < y; rw [decide_eq_true_iff, zlt32 hx hy]
  | ge => show decide _ = true ↔ ¬ x < y; rw [decide_eq_true_iff, zle32 hy hx]; omega
  | gt => show decide _ = true ↔ y < x; rw [decide_eq_true_iff, zlt32 hy hx]
  | le => show decide _ = true ↔ ¬ y < x; rw [decide_eq_true_iff, zle32 hx hy]; omega
theorem zlcmp_e (cd : Jvm.ClassFile.Cond) {x y : Int} (hx : zr64 x) (hy : zr64 y) : y_cmp (y_cd cd) (lg_cmp (Int64.ofInt x) (Int64.ofInt y)) 0 = true ↔ zcd cd x y := by
  have h1 := zlt64 hx hy
  have h2 := zlt64 hy hx
  by_cases a : x < y
  · rw [y_cm1 (h1.mpr a)]
    cases cd with
    | eq => show false = true ↔ x = y; simp; omega
    | ne => show true = true ↔ ¬ x = y; simp; omega
    | lt => show true = true ↔ x < y; simp; omega
    | ge => show false = true ↔ ¬ x < y; simp; omega
    | gt => show false = true ↔ y < x; simp; omega
    | le => show true = true ↔ ¬ y < x; simp; omega
  · by_cases c : y < x
    · rw [y_cm2 (h2.mpr c)]
      cases cd with
      | eq => show false = true ↔ x = y; simp; omega
      | ne => show true = true ↔ ¬ x = y; simp; omega
      | lt => show false = true ↔ x < y; simp; omega
      | ge => show true = true ↔ ¬ x < y; simp; omega
      | gt => show true = true ↔ y < x; simp; omega
      | le => show false = true ↔ ¬ y < x; simp; omega
    · rw [y_cm3 (fun h => a (h1.mp h)) (fun h => c (h2.mp h))]
      cases cd with
      | eq => show true = true ↔ x = y; simp; omega
      | ne => show false = true ↔ ¬ x = y; simp; omega
      | lt => show false = true ↔ x < y; simp; omega
      | ge => show true = true ↔ ¬ x < y; simp; omega
      | gt => show false = true ↔ y < x; simp; omega
      | le => show true = true ↔ ¬ y < x; simp; omega
section ZST
variable {xrec : Nat → List Value → XW → Option (XO × XW)} {xs : List Int32} {k N pc pc' len a b cu su q : Nat} {i : Instr} {ρ ρ' : XL} {st st' : List Value} {w : Bool} {M : zM} {Q : XO → XW → Prop}
theorem zg_op (hc : xcode k pc = some (i, len, a, b)) (hp : xpl i = true) (ho : ∀ ls, zL ls ρ → ∃ ls', xop i pc a (xNl k) ls st = some (pc', ls', st') ∧ zL ls' ρ') (hn : zG (xstep xrec xs k) k N (pc') ρ' st' cu su w M Q) : zG (xstep xrec xs k) k (N + 1) (pc) ρ st cu su w M Q := by
  intro ls hl
  obtain ⟨ls', h1, h2⟩ := ho ls hl
  exact zW_step (xstep_op hc hp h1) (hn ls' h2)
theorem zg_op0 (hc : xcode k pc = some (i, len, a, b)) (hp : xpl i = true) (ho : ∀ nl ls, xop i pc a nl ls st = some (pc', ls, st')) (hn : zG (xstep xrec xs k) k N (pc') ρ st' cu su w M Q) : zG (xstep xrec xs k) k (N + 1) (pc) ρ st cu su w M Q := zg_op hc hp (fun ls hl => ⟨ls, ho _ ls, hl⟩) hn
theorem zg_st (h : ∀ ls, xstep xrec xs k (pc, ls, st, cu, su, (w, zheap M)) = some (.inl (pc', ls, st', cu, su, (w, zheap M)))) (hn : zG (xstep xrec xs k) k N (pc') ρ st' cu su w M Q) : zG (xstep xrec xs k) k (N + 1) (pc) ρ st cu su w M Q := fun ls hl => zW_step (h ls) (hn ls hl)
theorem zz_iconst {c : Int} (hc : xcode k pc = some (.iconst c, len, a, b)) (hn : zG (xstep xrec xs k) k N (pc + 1) ρ (.int (Int32.ofInt c) :: st) cu su w M Q) : zG (xstep xrec xs k) k (N + 1) (pc) ρ st cu su w M Q := zg_op0 hc rfl (fun _ _ => rfl) hn
theorem zz_bipush {c x : Int} (hc : xcode k pc = some (.bipush c, len, a, b)) (hv : (Int8.ofInt c).toInt32 = Int32.ofInt x) (hn : zG (xstep xrec xs k) k N (pc + 2) ρ (.int (Int32.ofInt x) :: st) cu su w M Q) : zG (xstep xrec xs k) k (N + 1) (pc) ρ st cu su w M Q := by rw [← hv] at hn; exact zg_op0 hc rfl (fun _ _ => rfl) hn
theorem zz_sipush {c x : Int} (hc : xcode k pc = some (.sipush c, len, a, b)) (hv : (Int16.ofInt c).toInt32 = Int32.ofInt x) (hn : zG (xstep xrec xs k) k N (pc + 3) ρ (.int (Int32.ofInt x) :: st) cu su w M Q) : zG (xstep xrec xs k) k (N + 1) (pc) ρ st cu su w M Q := by rw [← hv] at hn; exact zg_op0 hc rfl (fun _ _ => rfl) hn
theorem zz_lconst {c : Fin 2} {x : Int} (hc : xcode k pc = some (.lconst c, len, a, b)) (hv : Int64.ofNat c = Int64.ofInt x) (hn : zG (xstep xrec xs k) k N (pc + 1) ρ (.long (Int64.ofInt x) :: st) cu su w M Q) : zG (xstep xrec xs k) k (N + 1) (pc) ρ st cu su w M Q := by rw [← hv] at hn; exact zg_op0 hc rfl (fun _ _ => rfl) hn
theorem zz_ldc {ix : Nat} {v : Value} (hc : xcode k pc = some (.ldc ix, len, a, b)) (hv : xnth xcon a = some v) (hn : zG (xstep xrec xs k) k N (pc + 2) ρ (v :: st) cu su w M Q) : zG (xstep xrec xs k) k (N + 1) (pc) ρ st cu su w M Q := zg_st (fun ls => by unfold xstep; dsimp only; rw [hc]; dsimp only; rw [hv]) hn
theorem zz_ldc_w {ix : Nat} {v : Value} (hc : xcode k pc = some (.ldc_w ix, len, a, b)) (hv : xnth xcon a = some v) (hn : zG (xstep xrec xs k) k N (pc + 3) ρ (v :: st) cu su w M Q) : zG (xstep xrec xs k) k (N + 1) (pc) ρ st cu su w M Q := zg_st (fun ls => by unfold xstep; dsimp only; rw [hc]; dsimp only; rw [hv]) hn
theorem zz_ldc2_w {ix : Nat} {v : Value} (hc : xcode k pc = some (.ldc2_w ix, len, a, b)) (hv : xnth xcon a = some v) (hn : zG (xstep xrec xs k) k N (pc + 3) ρ (v :: st) cu su w M Q) : zG (xstep xrec xs k) k (N + 1) (pc) ρ st cu su w M Q := zg_st (fun ls => by unfold xstep; dsimp only; rw [hc]; dsimp only; rw [hv]) hn
theorem zz_iload_n {jj : Fin 4} {x} (hc : xcode k pc = some (.iload_n jj, len, a, b)) (hm : (jj.val, Value.int x) ∈ ρ) (hn : zG (xstep xrec xs k) k N (pc + 1) ρ (.int x :: st) cu su w M Q) : zG (xstep xrec xs k) k (N + 1) (pc) ρ st cu su w M Q := zg_op hc rfl (fun ls hl => ⟨ls, by have h := hl _ hm; dsimp only at h; unfold xop; dsimp only; rw [h], hl⟩) hn
theorem zz_iload {j : Nat} {x} (hc : xcode k pc = some (.iload j, len, a, b)) (hm : (j, Value.int x) ∈ ρ) (hn : zG (xstep xrec xs k) k N (pc + 2) ρ (.int x :: st) cu su w M Q) : zG (xstep xrec xs k) k (N + 1) (pc) ρ st cu su w M Q := zg_op hc rfl (fun ls hl => ⟨ls, by have h := hl _ hm; dsimp only at h; unfold xop; dsimp only; rw [h], hl⟩) hn
theorem zz_lload_n {jj : Fin 4} {x} (hc : xcode k pc = some (.lload_n jj, len, a, b)) (hm : (jj.val, Value.long x) ∈ ρ) (hn : zG (xstep xrec xs k) k N (pc + 1) ρ (.long x :: st) cu su w M Q) : zG (xstep xrec xs k) k (N + 1) (pc) ρ st cu su w M Q := zg_op hc rfl (fun ls hl => ⟨ls, by have h := hl _ hm; dsimp only at h; unfold xop; dsimp only; rw [h], hl⟩) hn
theorem zz_lload {j : Nat} {x} (hc : xcode k pc = some (.lload j, len, a, b)) (hm : (j, Value.long x) ∈ ρ) (hn : zG (xstep xrec xs k) k N (pc + 2) ρ (.long x :: st) cu su w M Q) : zG (xstep xrec xs k) k (N + 1) (pc) ρ st cu su w M Q := zg_op hc rfl (fun ls hl => ⟨ls, by have h := hl _ hm; dsimp only at h; unfold xop; dsimp only; rw [h], hl⟩) hn
theorem zz_aload_n {jj : Fin 4} {x} (hc : xcode k pc = some (.aload_n jj, len, a, b)) (hm : (jj.val, Value.ref x) ∈ ρ) (hn : zG (xstep xrec xs k) k N (pc + 1) ρ (.ref x :: st) cu su w M Q) : zG (xstep xrec xs k) k (N + 1) (pc) ρ st cu su w M Q := zg_op hc rfl (fun ls hl => ⟨ls, by have h := hl _ hm; dsimp only at h; unfold xop; dsimp only; rw [h], hl⟩) hn
theorem zz_aload {j : Nat} {x} (hc : xcode k pc = some (.aload j, len, a, b)) (hm : (j, Value.ref x) ∈ ρ) (hn : zG (xstep xrec xs k) k N (pc + 2) ρ (.ref x :: st) cu su w M Q) : zG (xstep xrec xs k) k (N + 1) (pc) ρ st cu su w M Q := zg_op hc rfl (fun ls hl => ⟨ls, by have h := hl _ hm; dsimp only at h; unfold xop; dsimp only; rw [h], hl⟩) hn
theorem zz_dload_n {jj : Fin 4} {x} (hc : xcode k pc = some (.dload_n jj, len, a, b)) (hm : (jj.val, Value.double x) ∈ ρ) (hn : zG (xstep xrec xs k) k N (pc + 1) ρ (.double x :: st) cu su w M Q) : zG (xstep xrec xs k) k (N + 1) (pc) ρ st cu su w M Q := zg_op hc rfl (fun ls hl => ⟨ls, by have h := hl _ hm; dsimp only at h; unfold xop; dsimp only; rw [h], hl⟩) hn
theorem zz_dload {j : Nat} {x} (hc : xcode k pc = some (.dload j, len, a, b)) (hm : (j, Value.double x) ∈ ρ) (hn : zG (xstep xrec xs k) k N (pc + 2) ρ (.double x :: st) cu su w M Q) : zG (xstep xrec xs k) k (N + 1) (pc) ρ st cu su w M Q := zg_op hc rfl (fun ls hl => ⟨ls, by have h := hl _ hm; dsimp only at h; unfold xop; dsimp only; rw [h], hl⟩) hn
theorem zz_fload_n {jj : Fin 4} {x} (hc : xcode k pc = some (.fload_n jj, len, a, b)) (hm : (jj.val, Value.float x) ∈ ρ) (hn : zG (xstep xrec xs k) k N (pc + 1) ρ (.float x :: st) cu su w M Q) : zG (xstep xrec xs k) k (N + 1) (pc) ρ st cu su w M Q := zg_op hc rfl (fun ls hl => ⟨ls, by have h := hl _ hm; dsimp only at h; unfold xop; dsimp only; rw [h], hl⟩) hn
theorem zz_fload {j : Nat} {x} (hc : xcode k pc = some (.fload j, len, a, b)) (hm : (j, Value.float x) ∈ ρ) (hn : zG (xstep xrec xs k) k N (pc + 2) ρ (.float x :: st) cu su w M Q) : zG (xstep xrec xs k) k (N + 1) (pc) ρ st cu su w M Q := zg_op hc rfl (fun ls hl => ⟨ls, by have h := hl _ hm; dsimp only at h; unfold xop; dsimp only; rw [h], hl⟩) hn
theorem zz_istore_n {jj : Fin 4} {x} (hc : xcode k pc = some (.istore_n jj, len, a, b)) (hl : Nat.blt jj.val (xNl k) = true) (hn : zG (xstep xrec xs k) k N (pc + 1) (zmk1 jj.val (.int x) ρ) st cu su w M Q) : zG (xstep xrec xs k) k (N + 1) (pc) ρ (.int x :: st) cu su w M Q := zg_op hc rfl (fun ls h => ⟨_, by unfold xop; dsimp only; rw [if_pos (y_blt_t hl)], zL_1 h⟩) hn
theorem zz_istore {j : Nat} {x} (hc : xcode k pc = some (.istore j, len, a, b)) (hl : Nat.blt j (xNl k) = true) (hn : zG (xstep xrec xs k) k N (pc + 2) (zmk1 j (.int x) ρ) st cu su w M Q) : zG (xstep xrec xs k) k (N + 1) (pc) ρ (.int x :: st) cu su w M Q := zg_op hc rfl (fun ls h => ⟨_, by unfold xop; dsimp only; rw [if_pos (y_blt_t hl)], zL_1 h⟩) hn
theorem zz_astore_n {jj : Fin 4} {x} (hc : xcode k pc = some (.astore_n jj, len, a, b)) (hl : Nat.blt jj.val (xNl k) = true) (hn : zG (xstep xrec xs k) k N (pc + 1) (zmk1 jj.val (.ref x) ρ) st cu su w M Q) : zG (xstep xrec xs k) k (N + 1) (pc) ρ (.ref x :: st) cu su w M Q := zg_op hc rfl (fun ls h => ⟨_, by unfold xop; dsimp only; rw [if_pos (y_blt_t hl)], zL_1 h⟩) hn
theorem zz_astore {j : Nat} {x} (hc : xcode k pc = some (.astore j, len, a, b)) (hl : Nat.blt j (xNl k) = true) (hn : zG (xstep xrec xs k) k N (pc + 2) (zmk1 j (.ref x) ρ) st cu su w M Q) : zG (xstep xrec xs k) k (N + 1) (pc) ρ (.ref x :: st) cu su w M Q := zg_op hc rfl (fun ls h => ⟨_, by unfold xop; dsimp only; rw [if_pos (y_blt_t hl)], zL_1 h⟩) hn
theorem zz_lstore_n {jj : Fin 4} {x} (hc : xcode k pc = some (.lstore_n jj, len, a, b)) (hl : Nat.blt (jj.val + 1) (xNl k) = true) (hn : zG (xstep xrec xs k) k N (pc + 1) (zmk2 jj.val (.long x) ρ) st cu su w M Q) : zG (xstep xrec xs k) k (N + 1) (pc) ρ (.long x :: st) cu su w M Q := zg_op hc rfl (fun ls h => ⟨_, by unfold xop; dsimp only; rw [if_pos (y_blt_t hl)], zL_2 h⟩) hn
theorem zz_lstore {j : Nat} {x} (hc : xcode k pc = some (.lstore j, len, a, b)) (hl : Nat.blt (j + 1) (xNl k) = true) (hn : zG (xstep xrec xs k) k N (pc + 2) (zmk2 j (.long x) ρ) st cu su w M Q) : zG (xstep xrec xs k) k (N + 1) (pc) ρ (.long x :: st) cu su w M Q := zg_op hc rfl (fun ls h => ⟨_, by unfold xop; dsimp only; rw [if_pos (y_blt_t hl)], zL_2 h⟩) hn
theorem zz_dstore_n {jj : Fin 4} {x} (hc : xcode k pc = some (.dstore_n jj, len, a, b)) (hl : Nat.blt (jj.val + 1) (xNl k) = true) (hn : zG (xstep xrec xs k) k N (pc + 1) (zmk2 jj.val (.double x) ρ) st cu su w M Q) : zG (xstep xrec xs k) k (N + 1) (pc) ρ (.double x :: st) cu su w M Q := zg_op hc rfl (fun ls h => ⟨_, by unfold xop; dsimp only; rw [if_pos (y_blt_t hl)], zL_2 h⟩) hn
theorem zz_dstore {j : Nat} {x} (hc : xcode k pc = some (.dstore j, len, a, b)) (hl : Nat.blt (j + 1) (xNl k) = true) (hn : zG (xstep xrec xs k) k N (pc + 2) (zmk2 j (.double x) ρ) st cu su w M Q) : zG (xstep xrec xs k) k (N + 1) (pc) ρ (.double x :: st) cu su w M Q := zg_op hc rfl (fun ls h => ⟨_, by unfold xop; dsimp only; rw [if_pos (y_blt_t hl)], zL_2 h⟩) hn
theorem zz_fstore_n {jj : Fin 4} {x} (hc : xcode k pc = some (.fstore_n jj, len, a, b)) (hl : Nat.blt jj.val (xNl k) = true) (hn : zG (xstep xrec xs k) k N (pc + 1) (zmk1 jj.val (.float x) ρ) st cu su w M Q) : zG (xstep xrec xs k) k (N + 1) (pc) ρ (.float x :: st) cu su w M Q := zg_op hc rfl (fun ls h => ⟨_, by unfold xop; dsimp only; rw [if_pos (y_blt_t hl)], zL_1 h⟩) hn
theorem zz_fstore {j : Nat} {x} (hc : xcode k pc = some (.fstore j, len, a, b)) (hl : Nat.blt j (xNl k) = true) (hn : zG (xstep xrec xs k) k N (pc + 2) (zmk1 j (.float x) ρ) st cu su w M Q) : zG (xstep xrec xs k) k (N + 1) (pc) ρ (.float x :: st) cu su w M Q := zg_op hc rfl (fun ls h => ⟨_, by unfold xop; dsimp only; rw [if_pos (y_blt_t hl)], zL_1 h⟩) hn
theorem zz_iinc {j : Nat} {x c : Int} (hc : xcode k pc = some (.iinc j c, len, a, b)) (hm : (j, Value.int (Int32.ofInt x)) ∈ ρ) (hl : Nat.blt j (xNl k) = true) (hn : zG (xstep xrec xs k) k N (pc + 3) (zmk1 j (.int (Int32.ofInt (x + c))) ρ) st cu su w M Q) : zG (xstep xrec xs k) k (N + 1) (pc) ρ st cu su w M Q := zg_op hc rfl (fun ls h => ⟨_, by have h2 := h _ hm; dsimp only at h2; unfold xop; dsimp only; rw [h2]; dsimp only; rw [if_pos (y_blt_t hl), ← Int32.ofInt_add], zL_1 h⟩) hn
theorem zz_iadd {x y : Int} (hc : xcode k pc = some (.iadd, len, a, b)) (hn : zG (xstep xrec xs k) k N (pc + 1) ρ (.int (Int32.ofInt (x + y)) :: st) cu su w M Q) : zG (xstep xrec xs k) k (N + 1) (pc) ρ (.int (Int32.ofInt y) :: .int (Int32.ofInt x) :: st) cu su w M Q := by rw [Int32.ofInt_add] at hn; exact zg_op0 hc rfl (fun _ _ => rfl) hn
theorem zz_isub {x y : Int} (hc : xcode k pc = some (.isub, len, a, b)) (hn : zG (xstep xrec xs k) k N (pc + 1) ρ (.int (Int32.ofInt (x - y)) :: st) cu su w M Q) : zG (xstep xrec xs k) k (N + 1) (pc) ρ (.int (Int32.ofInt y) :: .int (Int32.ofInt x) :: st) cu su w M Q := by rw [Int32.ofInt_sub] at hn; exact zg_op0 hc rfl (fun _ _ => rfl) hn
theorem zz_imul {x y : Int} (hc : xcode k pc = some (.imul, len, a, b)) (hn : zG (xstep xrec xs k) k N (pc + 1) ρ (.int (Int32.ofInt (x * y)) :: st) cu su w M Q) : zG (xstep xrec xs k) k (N + 1) (pc) ρ (.int (Int32.ofInt y) :: .int (Int32.ofInt x) :: st) cu su w M Q := by rw [Int32.ofInt_mul] at hn; exact zg_op0 hc rfl (fun _ _ => rfl) hn
theorem zz_ladd {x y : Int} (hc : xcode k pc = some (.ladd, len, a, b)) (hn : zG (xstep xrec xs k) k N (pc + 1) ρ (.long (Int64.ofInt (x + y)) :: st) cu su w M Q) : zG (xstep xrec xs k) k (N + 1) (pc) ρ (.long (Int64.ofInt y) :: .long (Int64.ofInt x) :: st) cu su w M Q := by rw [Int64.ofInt_add] at hn; exact zg_op0 hc rfl (fun _ _ => rfl) hn
theorem zz_lsub {x y : Int} (hc : xcode k pc = some (.lsub, len, a, b)) (hn : zG (xstep xrec xs k) k N (pc + 1) ρ (.long (Int64.ofInt (x - y)) :: st) cu su w M Q) : zG (xstep xrec xs k) k (N + 1) (pc) ρ (.long (Int64.ofInt y) :: .long (Int64.ofInt x) :: st) cu su w M Q := by rw [Int64.ofInt_sub] at hn; exact zg_op0 hc rfl (fun _ _ => rfl) hn
theorem zz_lmul {x y : Int} (hc : xcode k pc = some (.lmul, len, a, b)) (hn : zG (xstep xrec xs k) k N (pc + 1) ρ (.long (Int64.ofInt (x * y)) :: st) cu su w M Q) : zG (xstep xrec xs k) k (N + 1) (pc) ρ (.long (Int64.ofInt y) :: .long (Int64.ofInt x) :: st) cu su w M Q := by rw [Int64.ofInt_mul] at hn; exact zg_op0 hc rfl (fun _ _ => rfl) hn
theorem zz_idiv {x y : Int} (hc : xcode k pc = some (.idiv, len, a, b)) (hx : 0 ≤ x ∧ x ≤ 2147483647) (hy : 0 < y ∧ y ≤ 2147483647) (hn : zG (xstep xrec xs k) k N (pc + 1) ρ (.int (Int32.ofInt (x / y)) :: st) cu su w M Q) : zG (xstep xrec xs k) k (N + 1) (pc) ρ (.int (Int32.ofInt y) :: .int (Int32.ofInt x) :: st) cu su w M Q := by rw [← zdiv32 hx hy] at hn; exact zg_op0 hc rfl (fun _ _ => by unfold xop; dsimp only; rw [if_neg (znz32 hy)]) hn
theorem zz_irem {x y : Int} (hc : xcode k pc = some (.irem, len, a, b)) (hx : 0 ≤ x ∧ x ≤ 2147483647) (hy : 0 < y ∧ y ≤ 2147483647) (hn : zG (xstep xrec xs k) k N (pc + 1) ρ (.int (Int32.ofInt (x % y)) :: st) cu su w M Q) : zG (xstep xrec xs k) k (N + 1) (pc) ρ (.int (Int32.ofInt y) :: .int (Int32.ofInt x) :: st) cu su w M Q := by rw [← zrem32 hx hy] at hn; exact zg_op0 hc rfl (fun _ _ => by unfold xop; dsimp only; rw [if_neg (znz32 hy)]) hn
theorem zz_ldiv {x y : Int} (hc : xcode k pc = some (.ldiv, len, a, b)) (hx : 0 ≤ x ∧ x ≤ 9223372036854775807) (hy : 0 < y ∧ y ≤ 9223372036854775807) (hn : zG (xstep xrec xs k) k N (pc + 1) ρ (.long (Int64.ofInt (x / y)) :: st) cu su w M Q) : zG (xstep xrec xs k) k (N + 1) (pc) ρ (.long (Int64.ofInt y) :: .long (Int64.ofInt x) :: st) cu su w M Q := by rw [← zdiv64 hx hy] at hn; exact zg_op0 hc rfl (fun _ _ => by unfold xop; dsimp only; rw [if_neg (znz64 hy)]) hn
theorem zz_lrem {x y : Int} (hc : xcode k pc = some (.lrem, len, a, b)) (hx : 0 ≤ x ∧ x ≤ 9223372036854775807) (hy : 0 < y ∧ y ≤ 9223372036854775807) (hn : zG (xstep xrec xs k) k N (pc + 1) ρ (.long (Int64.ofInt (x % y)) :: st) cu su w M Q) : zG (xstep xrec xs k) k (N + 1) (pc) ρ (.long (Int64.ofInt y) :: .long (Int64.ofInt x) :: st) cu su w M Q := by rw [← zrem64 hx hy] at hn; exact zg_op0 hc rfl (fun _ _ => by unfold xop; dsimp only; rw [if_neg (znz64 hy)]) hn
theorem zz_iand {x y z : Int} (hc : xcode k pc = some (.iand, len, a, b)) (hz : (Int32.ofInt x &&& Int32.ofInt y) = Int32.ofInt z) (hn : zG (xstep xrec xs k) k N (pc + 1) ρ (.int (Int32.ofInt z) :: st) cu su w M Q) : zG (xstep xrec xs k) k (N + 1) (pc) ρ (.int (Int32.ofInt y) :: .int (Int32.ofInt x) :: st) cu su w M Q := by rw [← hz] at hn; exact zg_op0 hc rfl (fun _ _ => rfl) hn
theorem zz_ior {x y z : Int} (hc : xcode k pc = some (.ior, len, a, b)) (hz : (Int32.ofInt x ||| Int32.ofInt y) = Int32.ofInt z) (hn : zG (xstep xrec xs k) k N (pc + 1) ρ (.int (Int32.ofInt z) :: st) cu su w M Q) : zG (xstep xrec xs k) k (N + 1) (pc) ρ (.int (Int32.ofInt y) :: .int (Int32.ofInt x) :: st) cu su w M Q := by rw [← hz] at hn; exact zg_op0 hc rfl (fun _ _ => rfl) hn
theorem zz_ishl {x y z : Int} (hc : xcode k pc = some (.ishl, len, a, b)) (hz : (Int32.ofInt x <<< (Int32.ofInt y &&& 31)) = Int32.ofInt z) (hn : zG (xstep xrec xs k) k N (pc + 1) ρ (.int (Int32.ofInt z) :: st) cu su w M Q) : zG (xstep xrec xs k) k (N + 1) (pc) ρ (.int (Int32.ofInt y) :: .int (Int32.ofInt x) :: st) cu su w M Q := by rw [← hz] at hn; exact zg_op0 hc rfl (fun _ _ => rfl) hn
theorem zz_iushr {x y z : Int} (hc : xcode k pc = some (.iushr, len, a, b)) (hz : ((Int32.ofInt x).toUInt32 >>> ((Int32.ofInt y).toUInt32 &&& Int32.toUInt32 31)).toInt32 = Int32.ofInt z) (hn : zG (xstep xrec xs k) k N (pc + 1) ρ (.int (Int32.ofInt z) :: st) cu su w M Q) : zG (xstep xrec xs k) k (N + 1) (pc) ρ (.int (Int32.ofInt y) :: .int (Int32.ofInt x) :: st) cu su w M Q := by rw [← hz] at hn; exact zg_op0 hc rfl (fun _ _ => rfl) hn
theorem zz_i2l {x : Int} (hc : xcode k pc = some (.i2l, len, a, b)) (hx : zr32 x) (hn : zG (xstep xrec xs k) k N (pc + 1) ρ (.long (Int64.ofInt x) :: st) cu su w M Q) : zG (xstep xrec xs k) k (N + 1) (pc) ρ (.int (Int32.ofInt x) :: st) cu su w M Q := by rw [← zi2l hx] at hn; exact zg_op0 hc rfl (fun _ _ => rfl) hn
theorem zz_l2i {x : Int} (hc : xcode k pc = some (.l2i, len, a, b)) (hn : zG (xstep xrec xs k) k N (pc + 1) ρ (.int (Int32.ofInt x) :: st) cu su w M Q) : zG (xstep xrec xs k) k (N + 1) (pc) ρ (.long (Int64.ofInt x) :: st) cu su w M Q := by rw [← Int64.toInt32_ofInt] at hn; exact zg_op0 hc rfl (fun _ _ => rfl) hn
theorem zi2c {x : Int} (hx : 0 ≤ x ∧ x ≤ 65535) : ((Int32.ofInt x).toUInt32 % 65536).toInt32 = Int32.ofInt x := by rw [znat32 hx.1, y_i2c_e, Nat.mod_eq_of_lt (by omega)]
theorem zz_i2c {x : Int} (hc : xcode k pc = some (.i2c, len, a, b)) (hx : 0 ≤ x ∧ x ≤ 65535) (hn : zG (xstep xrec xs k) k N (pc + 1) ρ (.int (Int32.ofInt x) :: st) cu su w M Q) : zG (xstep xrec xs k) k (N + 1) (pc) ρ (.int (Int32.ofInt x) :: st) cu su w M Q := by rw [← zi2c hx] at hn; exact zg_op0 hc rfl (fun _ _ => rfl) hn
theorem zz_dup_i {x} (hc : xcode k pc = some (.dup, len, a, b)) (hn : zG (xstep xrec xs k) k N (pc + 1) ρ (.int x :: .int x :: st) cu su w M Q) : zG (xstep xrec xs k) k (N + 1) (pc) ρ (.int x :: st) cu su w M Q := zg_op0 hc rfl (fun _ _ => rfl) hn
theorem zz_dup_r {x} (hc : xcode k pc = some (.dup, len, a, b)) (hn : zG (xstep xrec xs k) k N (pc + 1) ρ (.ref x :: .ref x :: st) cu su w M Q) : zG (xstep xrec xs k) k (N + 1) (pc) ρ (.ref x :: st) cu su w M Q := zg_op0 hc rfl (fun _ _ => rfl) hn
theorem zz_dup2_ir {x y} (hc : xcode k pc = some (.dup2, len, a, b)) (hn : zG (xstep xrec xs k) k N (pc + 1) ρ (.int y :: .ref x :: .int y :: .ref x :: st) cu su w M Q) : zG (xstep xrec xs k) k (N + 1) (pc) ρ (.int y :: .ref x :: st) cu su w M Q := zg_op0 hc rfl (fun _ _ => rfl) hn
theorem zz_dup2_j {x} (hc : xcode k pc = some (.dup2, len, a, b)) (hn : zG (xstep xrec xs k) k N (pc + 1) ρ (.long x :: .long x :: st) cu su w M Q) : zG (xstep xrec xs k) k (N + 1) (pc) ρ (.long x :: st) cu su w M Q := zg_op0 hc rfl (fun _ _ => rfl) hn
theorem zz_pop2 {x} (hc : xcode k pc = some (.pop2, len, a, b)) (hn : zG (xstep xrec xs k) k N (pc + 1) ρ st cu su w M Q) : zG (xstep xrec xs k) k (N + 1) (pc) ρ (.long x :: st) cu su w M Q := zg_op0 hc rfl (fun _ _ => rfl) hn
theorem zz_pop {x} (hc : xcode k pc = some (.pop, len, a, b)) (hn : zG (xstep xrec xs k) k N (pc + 1) ρ st cu su w M Q) : zG (xstep xrec xs k) k (N + 1) (pc) ρ (.int x :: st) cu su w M Q := zg_op0 hc rfl (fun _ _ => rfl) hn
theorem zz_goto {o : Int} (hc : xcode k pc = some (.goto o, len, a, b)) (hn : zG (xstep xrec xs k) k N (a) ρ st cu su w M Q) : zG (xstep xrec xs k) k (N + 1) (pc) ρ st cu su w M Q := zg_op0 hc rfl (fun _ _ => rfl) hn
theorem zz_ifnull {o : Int} {x} (hc : xcode k pc = some (.ifnull o, len, a, b)) (hn : zG (xstep xrec xs k) k N (pc + 3) ρ st cu su w M Q) : zG (xstep xrec xs k) k (N + 1) (pc) ρ (.ref x :: st) cu su w M Q := zg_op0 hc rfl (fun _ _ => rfl) hn
theorem zz_if {cd : Jvm.ClassFile.Cond} {o x : Int} (hc : xcode k pc = some (.ifCond cd o, len, a, b)) (hx : zr32 x) (ht : zcd cd x 0 → zG (xstep xrec xs k) k N (a) ρ st cu su w M Q) (hf : ¬ zcd cd x 0 → zG (xstep xrec xs k) k N (pc + 3) ρ st cu su w M Q) : zG (xstep xrec xs k) k (N + 1) (pc) ρ (.int (Int32.ofInt x) :: st) cu su w M Q := by
  have h0 : y_cmp (y_cd cd) (Int32.ofInt x) 0 = true ↔ zcd cd x 0 := zcmp_e cd hx (y := 0) ⟨by decide, by decide⟩
  by_cases h : zcd cd x 0
  · refine zg_op0 hc rfl (fun nl ls => ?_) (ht h)
    rw [y_if_e2, if_pos (h0.mpr h)]
  · refine zg_op0 hc rfl (fun nl ls => ?_) (hf h)
    rw [y_if_e2, if_neg (fun e => h (h0.mp e))]
theorem zz_icmp {cd : Jvm.ClassFile.Cond} {o x y : Int} (hc : xcode k pc = some (.if_icmp cd o, len, a, b)) (hx : zr32 x) (hy : zr32 y) (ht : zcd cd x y → zG (xstep xrec xs k) k N (a) ρ st cu su w M Q) (hf : ¬ zcd cd x y → zG (xstep xrec xs k) k N (pc + 3) ρ st cu su w M Q) : zG (xstep xrec xs k) k (N + 1) (pc) ρ (.int (Int32.ofInt y) :: .int (Int32.ofInt x) :: st) cu su w M Q := by
  have h0 := zcmp_e cd hx hy
  by_cases h : zcd cd x y
  · refine zg_op0 hc rfl (fun nl ls => ?_) (ht h)
    rw [y_icmp_e2, if_pos (h0.mpr h)]
  · refine zg_op0 hc rfl (fun nl ls => ?_) (hf h)
    rw [y_icmp_e2, if_neg (fun e => h (h0.mp e))]
theorem zz_lcmp {cd : Jvm.ClassFile.Cond} {o x y : Int} {len2 a2 b2 : Nat} (hc : xcode k pc = some (.lcmp, len, a, b)) (hc2 : xcode k (pc + 1) = some (.ifCond cd o, len2, a2, b2)) (hx : zr64 x) (hy : zr64 y) (ht : zcd cd x y → zG (xstep xrec xs k) k N (a2) ρ st cu su w M Q) (hf : ¬ zcd cd x y → zG (xstep xrec xs k) k N (pc + 4) ρ st cu su w M Q) : zG (xstep xrec xs k) k (N + 2) (pc) ρ (.long (Int64.ofInt y) :: .long (Int64.ofInt x) :: st) cu su w M Q := by
  have h0 := zlcmp_e cd hx hy
  refine zg_op0 hc rfl (fun _ _ => rfl) (?_ : zG (xstep xrec xs k) k (N + 1) (pc + 1) ρ (.int (lg_cmp (Int64.ofInt x) (Int64.ofInt y)) :: st) cu su w M Q)
  by_cases h : zcd cd x y
  · refine zg_op0 hc2 rfl (fun nl ls => ?_) (ht h)
    rw [y_if_e2, if_pos (h0.mpr h)]
  · refine zg_op0 hc2 rfl (fun nl ls => ?_) (hf h)
    rw [y_if_e2, if_neg (fun e => h (h0.mp e))]
theorem zz_getI {l : Nat} {K : Nat → zK} {ix : Nat} (hc : xcode k pc = some (.getfield ix, len, a, b)) (hs : zIs q a l K) (hb : b < l) (hk : K b = .inl false) (hn : zG (xstep xrec xs k) k N (pc + 3) ρ (.int (Int32.ofInt (M q b)) :: st) cu su w M Q) : zG (xstep xrec xs k) k (N + 1) (pc) ρ (.ref q :: st) cu su w M Q := zg_st (fun ls => (xs_getf hc (zheap_at hs) (zslot_at hb)).trans (by rw [hk]; rfl)) hn
theorem zz_getR {l r : Nat} {K : Nat → zK} {ix : Nat} (hc : xcode k pc = some (.getfield ix, len, a, b)) (hs : zIs q a l K) (hb : b < l) (hk : K b = .inr r) (hn : zG (xstep xrec xs k) k N (pc + 3) ρ (.ref r :: st) cu su w M Q) : zG (xstep xrec xs k) k (N + 1) (pc) ρ (.ref q :: st) cu su w M Q := zg_st (fun ls => (xs_getf hc (zheap_at hs) (zslot_at hb)).trans (by rw [hk]; rfl)) hn
theorem zg_w {M' : zM} (h : ∀ ls, xstep xrec xs k (pc, ls, st, cu, su, (w, zheap M)) = some (.inl (pc', ls, st', cu, su, (w, zheap M')))) (hn : zG (xstep xrec xs k) k N (pc') ρ st' cu su w M' Q) : zG (xstep xrec xs k) k (N + 1) (pc) ρ st cu su w M Q := fun ls hl => zW_step (h ls) (hn ls hl)
theorem zz_putI {l : Nat} {K : Nat → zK} {ix : Nat} {x : Int} (hc : xcode k pc = some (.putfield ix, len, a, b)) (hs : zIs q a l K) (hb : b < l) (hk : K b = .inl false) (hf : xfty a b = .int) (hn : zG (xstep xrec xs k) k N (pc + 3) ρ st cu su w (zup M q b x) Q) : zG (xstep xrec xs k) k (N + 1) (pc) ρ (.int (Int32.ofInt x) :: .ref q :: st) cu su w M Q := zg_w (fun ls => (xs_putf hc (zheap_at hs) (by rw [hf]; rfl) (by rw [zslot_len]; exact hb)).trans (by rw [zheap_up hs, hk]; rfl)) hn
theorem zz_putZ {l : Nat} {K : Nat → zK} {ix : Nat} {x : Int} (hc : xcode k pc = some (.putfield ix, len, a, b)) (hs : zIs q a l K) (hb : b < l) (hk : K b = .inl false) (hf : xfty a b = .boolean) (hx : x = 0 ∨ x = 1) (hn : zG (xstep xrec xs k) k N (pc + 3) ρ st cu su w (zup M q b x) Q) : zG (xstep xrec xs k) k (N + 1) (pc) ρ (.int (Int32.ofInt x) :: .ref q :: st) cu su w M Q := zg_w (fun ls => (xs_putf hc (zheap_at hs) (by rw [hf]; rcases hx with rfl | rfl <;> rfl) (by rw [zslot_len]; exact hb)).trans (by rw [zheap_up hs, hk]; rfl)) hn
theorem zxin {j : Int} {l : Nat} (h : 0 ≤ j ∧ j < l) (hl : l ≤ 4096) : xin (Int32.ofInt j) l = true ∧ (Int32.ofInt j).toNatClampNeg = j.toNat ∧ j.toNat < l := by
  have hj : j.toNat < l := by omega
  rw [znat32 h.1]
  exact ⟨y_xin hj hl, y_tnc hj hl, hj⟩
theorem zz_iald {l : Nat} {j : Int} (hc : xcode k pc = some (.iaload, len, a, b)) (hs : zIs q 100 l zI) (hj : 0 ≤ j ∧ j < (l : Int)) (hn : zG (xstep xrec xs k) k N (pc + 1) ρ (.int (Int32.ofInt (M q j.toNat)) :: st) cu su w M Q) : zG (xstep xrec xs k) k (N + 1) (pc) ρ (.int (Int32.ofInt j) :: .ref q :: st) cu su w M Q := by obtain ⟨h1, h2, h3⟩ := zxin hj hs.2.2; exact zg_st (fun ls => xs_iald hc (zheap_at hs) (by rw [zslot_len]; exact h1) (by rw [h2]; exact zslot_at h3)) hn
theorem zz_cald {l : Nat} {j : Int} (hc : xcode k pc = some (.caload, len, a, b)) (hs : zIs q 102 l zI) (hj : 0 ≤ j ∧ j < (l : Int)) (hn : zG (xstep xrec xs k) k N (pc + 1) ρ (.int (Int32.ofInt (M q j.toNat)) :: st) cu su w M Q) : zG (xstep xrec xs k) k (N + 1) (pc) ρ (.int (Int32.ofInt j) :: .ref q :: st) cu su w M Q := by obtain ⟨h1, h2, h3⟩ := zxin hj hs.2.2; exact zg_st (fun ls => xs_cald hc (zheap_at hs) (by rw [zslot_len]; exact h1) (by rw [h2]; exact zslot_at h3)) hn
theorem zz_lald {l : Nat} {j : Int} (hc : xcode k pc = some (.laload, len, a, b)) (hs : zIs q 101 l zJ) (hj : 0 ≤ j ∧ j < (l : Int)) (hn : zG (xstep xrec xs k) k N (pc + 1) ρ (.long (Int64.ofInt (M q j.toNat)) :: st) cu su w M Q) : zG (xstep xrec xs k) k (N + 1) (pc) ρ (.int (Int32.ofInt j) :: .ref q :: st) cu su w M Q := by obtain ⟨h1, h2, h3⟩ := zxin hj hs.2.2; exact zg_st (fun ls => xs_lald hc (zheap_at hs) (by rw [zslot_len]; exact h1) (by rw [h2]; exact zslot_at h3)) hn
theorem zz_iast {l : Nat} {j x : Int} (hc : xcode k pc = some (.iastore, len, a, b)) (hs : zIs q 100 l zI) (hj : 0 ≤ j ∧ j < (l : Int)) (hn : zG (xstep xrec xs k) k N (pc + 1) ρ st cu su w (zup M q j.toNat x) Q) : zG (xstep xrec xs k) k (N + 1) (pc) ρ (.int (Int32.ofInt x) :: .int (Int32.ofInt j) :: .ref q :: st) cu su w M Q := by obtain ⟨h1, h2, h3⟩ := zxin hj hs.2.2; exact zg_w (fun ls => (xs_iast hc (zheap_at hs) (by rw [zslot_len]; exact h1)).trans (by rw [zheap_up hs, h2]; rfl)) hn
theorem zz_last {l : Nat} {j x : Int} (hc : xcode k pc = some (.lastore, len, a, b)) (hs : zIs q 101 l zJ) (hj : 0 ≤ j ∧ j < (l : Int)) (hn : zG (xstep xrec xs k) k N (pc + 1) ρ st cu su w (zup M q j.toNat x) Q) : zG (xstep xrec xs k) k (N + 1) (pc) ρ (.long (Int64.ofInt x) :: .int (Int32.ofInt j) :: .ref q :: st) cu su w M Q := by obtain ⟨h1, h2, h3⟩ := zxin hj hs.2.2; exact zg_w (fun ls => (xs_last hc (zheap_at hs) (by rw [zslot_len]; exact h1)).trans (by rw [zheap_up hs, h2]; rfl)) hn
theorem zz_cast {l : Nat} {j x : Int} (hc : xcode k pc = some (.castore, len, a, b)) (hs : zIs q 102 l zI) (hj : 0 ≤ j ∧ j < (l : Int)) (hx : 0 ≤ x ∧ x ≤ 65535) (hn : zG (xstep xrec xs k) k N (pc + 1) ρ st cu su w (zup M q j.toNat x) Q) : zG (xstep xrec xs k) k (N + 1) (pc) ρ (.int (Int32.ofInt x) :: .int (Int32.ofInt j) :: .ref q :: st) cu su w M Q := by obtain ⟨h1, h2, h3⟩ := zxin hj hs.2.2; exact zg_w (fun ls => (xs_cast hc (zheap_at hs) (by rw [zslot_len]; exact h1) (by rw [znat32 hx.1]; exact y_char (by omega))).trans (by rw [zheap_up hs, h2]; rfl)) hn
theorem zz_aald {l r : Nat} {K : Nat → zK} {j : Int} (hc : xcode k pc = some (.aaload, len, a, b)) (hs : zIs q 103 l K) (hj : 0 ≤ j ∧ j < (l : Int)) (hk : K j.toNat = .inr r) (hn : zG (xstep xrec xs k) k N (pc + 1) ρ (.ref r :: st) cu su w M Q) : zG (xstep xrec xs k) k (N + 1) (pc) ρ (.int (Int32.ofInt j) :: .ref q :: st) cu su w M Q := by obtain ⟨h1, h2, h3⟩ := zxin hj hs.2.2; exact zg_st (fun ls => xs_aald hc (zheap_at hs) (by rw [zslot_len]; exact h1) (by rw [h2, zslot_at h3, hk]; rfl)) hn
theorem zz_alen {c l : Nat} {K : Nat → zK} (hc : xcode k pc = some (.arraylength, len, a, b)) (hs : zIs q c l K) (hq : 100 ≤ c) (hn : zG (xstep xrec xs k) k N (pc + 1) ρ (.int (Int32.ofInt l) :: st) cu su w M Q) : zG (xstep xrec xs k) k (N + 1) (pc) ρ (.ref q :: st) cu su w M Q := zg_st (fun ls => by
  unfold xstep; dsimp only; rw [hc]; dsimp only; rw [zheap_at hs]; dsimp only
  rw [show Nat.ble 100 c = true from Nat.ble_eq_true_of_le hq, cond_true, zslot_len, Int32.ofInt_eq_ofNat]) hn
theorem zz_acpy {c l0 l1 q0 : Nat} {K : Nat → zK} {ix : Nat} {sp dp n : Int} (hc : xcode k pc = some (.invokestatic ix, len, 0, 1)) (hst : (Nat.ble 1 (xFr k) && Nat.ble 38 (xLo k)) = true) (hr : Nat.ble (xcat st) 8 = true) (hs0 : zIs q0 c l0 K) (hs1 : zIs q c l1 K) (hK : (c = 100 ∧ K = zI) ∨ (c = 101 ∧ K = zJ)) (h0 : 0 < l0) (h1 : 0 ≤ sp) (h2 : 0 ≤ dp) (h3 : 0 ≤ n) (g1 : sp + n ≤ l0) (g2 : dp + n ≤ l1) (hn : zG (xstep xrec xs k) k N (pc + 3) ρ st cu su w (zcp M q0 q sp.toNat dp.toNat n.toNat) Q) : zG (xstep xrec xs k) k (N + 1) (pc) ρ (.int (Int32.ofInt n) :: .int (Int32.ofInt dp) :: .ref q :: .int (Int32.ofInt sp) :: .ref q0 :: st) cu su w M Q := by
  have hfa : xfa c ((List.range l0).map (fun j => zval (K j) (M q0 j))) = true := by
    unfold xfa
    refine List.all_eq_true.mpr (fun v hv => ?_)
    obtain ⟨i, -, rfl⟩ := List.mem_map.mp hv
    rcases hK with ⟨rfl, rfl⟩ | ⟨rfl, rfl⟩ <;> rfl
  refine zg_w (fun ls => ?_) hn
  rw [znat32 h1, znat32 h2, znat32 h3, zheap_cp hs1 (hK.imp (fun h => h.2) (fun h => h.2)) (l0 := l0) (by omega) (by omega)]
  exact xs_acpy hc (zheap_at hs0) (zheap_at hs1) (by rcases hK with ⟨rfl, _⟩ | ⟨rfl, _⟩ <;> decide) hfa (by rw [zslot_len]; exact h0) (by rw [zslot_len]; exact hs0.2.2) (by rw [zslot_len]; exact hs1.2.2) (by rw [zslot_len]; omega) (by rw [zslot_len]; omega) hst (xble hr)
theorem zz_raw_iand {x y : Int} (hc : xcode k pc = some (.iand, len, a, b)) (hn : ∀ z : Int, (Int32.ofInt x &&& Int32.ofInt y) = Int32.ofInt z → zG (xstep xrec xs k) k N (pc + 1) ρ (.int (Int32.ofInt z) :: st) cu su w M Q) : zG (xstep xrec xs k) k (N + 1) (pc) ρ (.int (Int32.ofInt y) :: .int (Int32.ofInt x) :: st) cu su w M Q := zz_iand hc (Int32.ofInt_toInt _).symm (hn _ (Int32.ofInt_toInt _).symm)
theorem zz_raw_ior {x y : Int} (hc : xcode k pc = some (.ior, len, a, b)) (hn : ∀ z : Int, (Int32.ofInt x ||| Int32.ofInt y) = Int32.ofInt z → zG (xstep xrec xs k) k N (pc + 1) ρ (.int (Int32.ofInt z) :: st) cu su w M Q) : zG (xstep xrec xs k) k (N + 1) (pc) ρ (.int (Int32.ofInt y) :: .int (Int32.ofInt x) :: st) cu su w M Q := zz_ior hc (Int32.ofInt_toInt _).symm (hn _ (Int32.ofInt_toInt _).symm)
theorem zz_raw_ishl {x y : Int} (hc : xcode k pc = some (.ishl, len, a, b)) (hn : ∀ z : Int, (Int32.ofInt x <<< (Int32.ofInt y &&& 31)) = Int32.ofInt z → zG (xstep xrec xs k) k N (pc + 1) ρ (.int (Int32.ofInt z) :: st) cu su w M Q) : zG (xstep xrec xs k) k (N + 1) (pc) ρ (.int (Int32.ofInt y) :: .int (Int32.ofInt x) :: st) cu su w M Q := zz_ishl hc (Int32.ofInt_toInt _).symm (hn _ (Int32.ofInt_toInt _).symm)
theorem zz_raw_iushr {x y : Int} (hc : xcode k pc = some (.iushr, len, a, b)) (hn : ∀ z : Int, ((Int32.ofInt x).toUInt32 >>> ((Int32.ofInt y).toUInt32 &&& Int32.toUInt32 31)).toInt32 = Int32.ofInt z → zG (xstep xrec xs k) k N (pc + 1) ρ (.int (Int32.ofInt z) :: st) cu su w M Q) : zG (xstep xrec xs k) k (N + 1) (pc) ρ (.int (Int32.ofInt y) :: .int (Int32.ofInt x) :: st) cu su w M Q := zz_iushr hc (Int32.ofInt_toInt _).symm (hn _ (Int32.ofInt_toInt _).symm)
def z_sw (pc : Nat) (d hi : Int) (offs : Array Int) (ts : List Nat) (dd : Nat) : Bool := decide (ts = offs.toList.map (fun o => ((pc : Int) + o).toNat)) && (offs.toList.all (fun o => decide (0 ≤ (pc : Int) + o)) && (decide (0 ≤ (pc : Int) + d ∧ ((pc : Int) + d).toNat = dd) && (decide ((offs.size : Int) = hi + 1) && Nat.ble offs.size 4096)))
theorem z_sw_e {x d hi : Int} {offs : Array Int} {ts : List Nat} {dd nl : Nat} {ls : XL} {r : List Value} (hx : zr32 x) (h : z_sw pc d hi offs ts dd = true) : xop (.tableswitch d 0 hi offs) pc a nl ls (.int (Int32.ofInt x) :: r) = some ((if x < 0 then dd else y_nth dd ts x.toNat), ls, r) := by
  unfold z_sw at h
  obtain ⟨h1, h⟩ := xand h
  obtain ⟨h2, h⟩ := xand h
  obtain ⟨h3, h⟩ := xand h
  obtain ⟨h4, h5⟩ := xand h
  have h1 := xdb h1
  have h4 := xdb h4
  have h5 := xble h5
  by_cases hn : x < 0
  · rw [if_pos hn]
    have e : Int32.ofInt x = Int32.ofNat (x + 4294967296).toNat := by
      apply Int32.toInt_inj.mp
      have := hx.1
      rw [zt32 hx, y_ti32]
      omega
    rw [e, y_tsw_e pc a nl ls r d hi offs ts dd _ (by have := hx.1; omega) h1 h2 (xdb h3) h4 h5, y_nth_e, List.getD_eq_getElem?_getD, List.getElem?_eq_none]
    · rfl
    · rw [h1, List.length_map, Array.length_toList]
      have := hx.1
      omega
  · rw [if_neg hn, znat32 (by omega), y_tsw_e pc a nl ls r d hi offs ts dd _ (by have := hx.2; omega) h1 h2 (xdb h3) h4 h5]
theorem zz_sw3 {x d hi : Int} {offs : Array Int} {t0 t1 t2 td : Nat} (hc : xcode k pc = some (.tableswitch d 0 hi offs, len, a, b)) (hx : zr32 x) (hst : z_sw pc d hi offs [t0, t1, t2] td = true) (a0 : x = 0 → zG (xstep xrec xs k) k N (t0) ρ st cu su w M Q) (a1 : x = 1 → zG (xstep xrec xs k) k N (t1) ρ st cu su w M Q) (a2 : x = 2 → zG (xstep xrec xs k) k N (t2) ρ st cu su w M Q) (ad : (x < 0 ∨ 2 < x) → zG (xstep xrec xs k) k N (td) ρ st cu su w M Q) : zG (xstep xrec xs k) k (N + 1) (pc) ρ (.int (Int32.ofInt x) :: st) cu su w M Q := by
  by_cases h0 : x = 0
  · exact zg_op0 hc rfl (fun nl ls => (z_sw_e hx hst).trans (by rw [h0]; rfl)) (a0 h0)
  by_cases h1 : x = 1
  · exact zg_op0 hc rfl (fun nl ls => (z_sw_e hx hst).trans (by rw [h1]; rfl)) (a1 h1)
  by_cases h2 : x = 2
  · exact zg_op0 hc rfl (fun nl ls => (z_sw_e hx hst).trans (by rw [h2]; rfl)) (a2 h2)
  refine zg_op0 hc rfl (fun nl ls => (z_sw_e hx hst).trans ?_) (ad (by omega))
  by_cases hneg : x < 0
  · rw [if_pos hneg]
  · rw [if_neg hneg, y_nth_e, List.getD_eq_getElem?_getD, List.getElem?_eq_none (by show 3 ≤ x.toNat; omega)]
    rfl
theorem zz_sw4 {x d hi : Int} {offs : Array Int} {t0 t1 t2 t3 td : Nat} (hc : xcode k pc = some (.tableswitch d 0 hi offs, len, a, b)) (hx : zr32 x) (hst : z_sw pc d hi offs [t0, t1, t2, t3] td = true) (a0 : x = 0 → zG (xstep xrec xs k) k N (t0) ρ st cu su w M Q) (a1 : x = 1 → zG (xstep xrec xs k) k N (t1) ρ st cu su w M Q) (a2 : x = 2 → zG (xstep xrec xs k) k N (t2) ρ st cu su w M Q) (a3 : x = 3 → zG (xstep xrec xs k) k N (t3) ρ st cu su w M Q) (ad : (x < 0 ∨ 3 < x) → zG (xstep xrec xs k) k N (td) ρ st cu su w M Q) : zG (xstep xrec xs k) k (N + 1) (pc) ρ (.int (Int32.ofInt x) :: st) cu su w M Q := by
  by_cases h0 : x = 0
  · exact zg_op0 hc rfl (fun nl ls => (z_sw_e hx hst).trans (by rw [h0]; rfl)) (a0 h0)
  by_cases h1 : x = 1
  · exact zg_op0 hc rfl (fun nl ls => (z_sw_e hx hst).trans (by rw [h1]; rfl)) (a1 h1)
  by_cases h2 : x = 2
  · exact zg_op0 hc rfl (fun nl ls => (z_sw_e hx hst).trans (by rw [h2]; rfl)) (a2 h2)
  by_cases h3 : x = 3
  · exact zg_op0 hc rfl (fun nl ls => (z_sw_e hx hst).trans (by rw [h3]; rfl)) (a3 h3)
  refine zg_op0 hc rfl (fun nl ls => (z_sw_e hx hst).trans ?_) (ad (by omega))
  by_cases hneg : x < 0
  · rw [if_pos hneg]
  · rw [if_neg hneg, y_nth_e, List.getD_eq_getElem?_getD, List.getElem?_eq_none (by show 4 ≤ x.toNat; omega)]
    rfl
theorem zz_sw7 {x d hi : Int} {offs : Array Int} {t0 t1 t2 t3 t4 t5 t6 td : Nat} (hc : xcode k pc = some (.tableswitch d 0 hi offs, len, a, b)) (hx : zr32 x) (hst : z_sw pc d hi offs [t0, t1, t2, t3, t4, t5, t6] td = true) (a0 : x = 0 → zG (xstep xrec xs k) k N (t0) ρ st cu su w M Q) (a1 : x = 1 → zG (xstep xrec xs k) k N (t1) ρ st cu su w M Q) (a2 : x = 2 → zG (xstep xrec xs k) k N (t2) ρ st cu su w M Q) (a3 : x = 3 → zG (xstep xrec xs k) k N (t3) ρ st cu su w M Q) (a4 : x = 4 → zG (xstep xrec xs k) k N (t4) ρ st cu su w M Q) (a5 : x = 5 → zG (xstep xrec xs k) k N (t5) ρ st cu su w M Q) (a6 : x = 6 → zG (xstep xrec xs k) k N (t6) ρ st cu su w M Q) (ad : (x < 0 ∨ 6 < x) → zG (xstep xrec xs k) k N (td) ρ st cu su w M Q) : zG (xstep xrec xs k) k (N + 1) (pc) ρ (.int (Int32.ofInt x) :: st) cu su w M Q := by
  by_cases h0 : x = 0
  · exact zg_op0 hc rfl (fun nl ls => (z_sw_e hx hst).trans (by rw [h0]; rfl)) (a0 h0)
  by_cases h1 : x = 1
  · exact zg_op0 hc rfl (fun nl ls => (z_sw_e hx hst).trans (by rw [h1]; rfl)) (a1 h1)
  by_cases h2 : x = 2
  · exact zg_op0 hc rfl (fun nl ls => (z_sw_e hx hst).trans (by rw [h2]; rfl)) (a2 h2)
  by_cases h3 : x = 3
  · exact zg_op0 hc rfl (fun nl ls => (z_sw_e hx hst).trans (by rw [h3]; rfl)) (a3 h3)
  by_cases h4 : x = 4
  · exact zg_op0 hc rfl (fun nl ls => (z_sw_e hx hst).trans (by rw [h4]; rfl)) (a4 h4)
  by_cases h5 : x = 5
  · exact zg_op0 hc rfl (fun nl ls => (z_sw_e hx hst).trans (by rw [h5]; rfl)) (a5 h5)
  by_cases h6 : x = 6
  · exact zg_op0 hc rfl (fun nl ls => (z_sw_e hx hst).trans (by rw [h6]; rfl)) (a6 h6)
  refine zg_op0 hc rfl (fun nl ls => (z_sw_e hx hst).trans ?_) (ad (by omega))
  by_cases hneg : x < 0
  · rw [if_pos hneg]
  · rw [if_neg hneg, y_nth_e, List.getD_eq_getElem?_getD, List.getElem?_eq_none (by show 7 ≤ x.toNat; omega)]
    rfl
noncomputable def zb (p : Prop) : Int := @ite _ p (Classical.propDecidable p) 1 0
theorem zb_t {p : Prop} (h : p) : zb p = 1 := if_pos h
theorem zb_f {p : Prop} (h : ¬ p) : zb p = 0 := if_neg h
theorem zb_01 (p : Prop) : zb p = 0 ∨ zb p = 1 := by
  by_cases h : p
  · exact Or.inr (zb_t h)
  · exact Or.inl (zb_f h)
theorem zb_c {p q : Prop} (h : p ↔ q) : zb p = zb q := by rw [show p = q from propext h]
theorem zz_ifbne {o : Int} {p : Prop} (hc : xcode k pc = some (.ifCond .ne o, len, a, b)) (ht : p → zG (xstep xrec xs k) k N (a) ρ st cu su w M Q) (hf : ¬ p → zG (xstep xrec xs k) k N (pc + 3) ρ st cu su w M Q) : zG (xstep xrec xs k) k (N + 1) (pc) ρ (.int (Int32.ofInt (zb p)) :: st) cu su w M Q := zz_if hc (by rcases zb_01 p with h | h <;> rw [h] <;> exact ⟨by decide, by decide⟩) (fun h => ht (Classical.byContradiction fun hp => h (zb_f hp))) (fun h => hf (fun hp => h (by show ¬ zb p = 0; rw [zb_t hp]; decide)))
theorem zz_ifbeq {o : Int} {p : Prop} (hc : xcode k pc = some (.ifCond .eq o, len, a, b)) (ht : ¬ p → zG (xstep xrec xs k) k N (a) ρ st cu su w M Q) (hf : ¬ ¬ p → zG (xstep xrec xs k) k N (pc + 3) ρ st cu su w M Q) : zG (xstep xrec xs k) k (N + 1) (pc) ρ (.int (Int32.ofInt (zb p)) :: st) cu su w M Q := zz_if hc (by rcases zb_01 p with h | h <;> rw [h] <;> exact ⟨by decide, by decide⟩) (fun h => ht (fun hp => by have h : zb p = 0 := h; rw [zb_t hp] at h; cases h)) (fun h => hf (fun hp => h (zb_f hp)))
theorem zG_ro (h : ρ = ρ') (hn : zG (xstep xrec xs k) k N (pc) ρ' st cu su w M Q) : zG (xstep xrec xs k) k N (pc) ρ st cu su w M Q := by rw [h]; exact hn
theorem zm_as {m : zM} (h : ∀ M', M' = m → zG (xstep xrec xs k) k N (pc) ρ st cu su w M' Q) : zG (xstep xrec xs k) k N (pc) ρ st cu su w m Q := h m rfl
theorem zz_or (c : Prop) (h1 : c → zG (xstep xrec xs k) k N (pc) ρ st cu su w M Q) (h2 : ¬ c → zG (xstep xrec xs k) k N (pc) ρ st cu su w M Q) : zG (xstep xrec xs k) k N (pc) ρ st cu su w M Q := by
  by_cases h : c
  · exact h1 h
  · exact h2 h
theorem zz_ireturn {x} (hc : xcode k pc = some (.ireturn, len, a, b)) (hr : xRet k = some .int) (h1 : cu ≤ xMc k) (h2 : su ≤ xMs k) (hq : Q (.inl (some (.int x))) (w, zheap M)) : zG (xstep xrec xs k) k N (pc) ρ [.int x] cu su w M Q := fun ls hl => ⟨0, _, ((pc, ls, [.int x], cu, su, (w, zheap M)), none), _, _, Nat.zero_le _, rfl, (by unfold xstep; dsimp only; rw [hc]), xs_fin (c := (pc, ls, [.int x], cu, su, (w, zheap M))) hc (by rw [hr]; rfl) h1 h2 (by unfold xfin; dsimp only; rw [hr]), hq⟩
theorem zz_lreturn {x} (hc : xcode k pc = some (.lreturn, len, a, b)) (hr : xRet k = some .long) (h1 : cu ≤ xMc k) (h2 : su ≤ xMs k) (hq : Q (.inl (some (.long x))) (w, zheap M)) : zG (xstep xrec xs k) k N (pc) ρ [.long x] cu su w M Q := fun ls hl => ⟨0, _, ((pc, ls, [.long x], cu, su, (w, zheap M)), none), _, _, Nat.zero_le _, rfl, (by unfold xstep; dsimp only; rw [hc]), xs_fin (c := (pc, ls, [.long x], cu, su, (w, zheap M))) hc (by rw [hr]; rfl) h1 h2 (by unfold xfin; dsimp only; rw [hr]), hq⟩
theorem zz_zreturn {x : Int} (hc : xcode k pc = some (.ireturn, len, a, b)) (hr : xRet k = some .boolean) (h1 : cu ≤ xMc k) (h2 : su ≤ xMs k) (hx : x = 0 ∨ x = 1) (hq : Q (.inl (some (.int (Int32.ofInt x)))) (w, zheap M)) : zG (xstep xrec xs k) k N (pc) ρ [.int (Int32.ofInt x)] cu su w M Q := fun ls hl => ⟨0, _, ((pc, ls, [.int (Int32.ofInt x)], cu, su, (w, zheap M)), none), _, _, Nat.zero_le _, rfl, (by unfold xstep; dsimp only; rw [hc]), xs_fin (c := (pc, ls, [.int (Int32.ofInt x)], cu, su, (w, zheap M))) (o := .inl (some (.int (Int32.ofInt x)))) hc (by rw [hr]; rfl) h1 h2 (by unfold xfin; dsimp only; rw [hr]; rcases hx with rfl | rfl <;> rfl), hq⟩
theorem zz_return (hc : xcode k pc = some (.return_, len, a, b)) (hr : xRet k = none) (h1 : cu ≤ xMc k) (h2 : su ≤ xMs k) (hq : Q (.inl none) (w, zheap M)) : zG (xstep xrec xs k) k N (pc) ρ [] cu su w M Q := fun ls hl => ⟨0, _, ((pc, ls, [], cu, su, (w, zheap M)), none), _, _, Nat.zero_le _, rfl, (by unfold xstep; dsimp only; rw [hc]), xs_fin (c := (pc, ls, [], cu, su, (w, zheap M))) hc (by rw [hr]; rfl) h1 h2 (by unfold xfin; dsimp only; rw [hr]), hq⟩
theorem zz_thr {ix : Nat} (hc : xcode k pc = some (.new ix, len, a, b + 1)) (hst : (Nat.ble 6 (xFr k) && Nat.ble 90 (xLo k)) = true) (hr : Nat.ble (xcat st) 8 = true) (h1 : cu + 1 ≤ xMc k) (h2 : su + 6 ≤ xMs k) (hq : Q (.inr a) (false, zheap M)) : zG (xstep xrec xs k) k N (pc) ρ st cu su w M Q := by
  obtain ⟨s1, s2⟩ := xand hst
  have h3 : Nat.ble (xcat st + 82) (xLo k) = true := Nat.ble_eq_true_of_le (by have := xble s2; have := xble hr; omega)
  refine fun ls hl => ⟨0, _, ((pc, ls, st, cu, su, (w, zheap M)), some a), _, _, Nat.zero_le _, rfl, ?_, ?_, hq⟩
  · unfold xstep; dsimp only; rw [hc]; dsimp only
    rw [s1, h3, show Nat.ble (cu + 1) (xMc k) = true from Nat.ble_eq_true_of_le h1, show Nat.ble (su + 6) (xMs k) = true from Nat.ble_eq_true_of_le h2]
    rfl
  · unfold xfin2
    dsimp only
    rw [show Nat.ble cu (xMc k) = true from Nat.ble_eq_true_of_le (by omega), show Nat.ble su (xMs k) = true from Nat.ble_eq_true_of_le (by omega)]
    rfl
/-- behind a call -/
theorem zg_call {as : List Value} {o : XO} {w' : Bool} {M' : zM} {st0 : List Value} (hx : ∀ ls, xstep xrec xs k (pc, ls, st0, cu, su, (w, zheap M)) = xback k a pc ls st cu su (xrec a as (w, zheap M))) (hr : xrec a as (w, zheap M) = some (o, (w', zheap M'))) (h1 : cu + xMc a ≤ xMc k) (h2 : su + xMs a ≤ xMs k)
    (hv : ∀ v, o = .inl (some v) → zG (xstep xrec xs k) k N (pc + 3) ρ (v :: st) (cu + xMc a) (su + xMs a) w' M' Q) (hz : o = .inl none → zG (xstep xrec xs k) k N (pc + 3) ρ st (cu + xMc a) (su + xMs a) w' M' Q)
    (he : ∀ E, o = .inr E → xhnd (xHh k) pc E = none → Q (.inr E) (false, zheap M')) (hh : ∀ E h t j, o = .inr E → xhnd (xHh k) pc E = some h → xh2 k h = some (t, j) → zG (xstep xrec xs k) k N (t) (ρ.filter (xk1 j)) [] (cu + xMc a) (su + xMs a) w' M' Q) (hhc : ∀ E h, xhnd (xHh k) pc E = some h → ∃ t j, xh2 k h = some (t, j)) : zG (xstep xrec xs k) k (N + 1) (pc) ρ st0 cu su w M Q := by
  intro ls hl
  have hx := hx ls
  rw [hr] at hx
  rcases o with (_ | v) | E
  · exact zW_step (hx.trans rfl) (hz rfl ls hl)
  · exact zW_step (hx.trans rfl) (hv v rfl ls hl)
  · cases hq : xhnd (xHh k) pc E with
    | none =>
      refine ⟨0, _, ((pc, ls, st, cu + xMc a, su + xMs a, (w', zheap M')), some E), _, _, Nat.zero_le _, rfl, ?_, ?_, he E rfl hq⟩
      · rw [hx]
        unfold xback
        dsimp only
        rw [hq]
      · unfold xfin2
        dsimp only
        rw [show Nat.ble (cu + xMc a) (xMc k) = true from Nat.ble_eq_true_of_le h1, show Nat.ble (su + xMs a) (xMs k) = true from Nat.ble_eq_true_of_le h2]
        rfl
    | some h =>
      obtain ⟨t, j, ht⟩ := hhc E h hq
      refine zW_step ?_ (hh E h t j rfl hq ht (ls.filter (xk1 j)) (zL_f1 hl))
      rw [hx]
      unfold xback
      dsimp only
      rw [hq]
      dsimp only
      unfold xh2 at ht
      split at ht
      · next j0 e0 hc0 =>
        rw [hc0]
        dsimp only
        cases hb : Nat.blt j0 (xNl k) with
        | false => rw [hb] at ht; cases ht
        | true =>
          rw [hb, cond_true] at ht
          cases ht
          rfl
      · next j0 e0 hc0 =>
        rw [hc0]
        dsimp only
        cases hb : Nat.blt j0 (xNl k) with
        | false => rw [hb] at ht; cases ht
        | true =>
          rw [hb, cond_true] at ht
          cases ht
          rfl
      · cases ht
/-- what a call asks of the tables -/
def z_rm (k a : Nat) (st : List Value) (cu su : Nat) : Bool := y_rst k a && (Nat.ble (xcat st) 8 && (Nat.ble (cu + xMc a) (xMc k) && Nat.ble (su + xMs a) (xMs k)))
theorem z_rm_e (h : z_rm k a st cu su = true) : xroom k a st cu su = true ∧ cu + xMc a ≤ xMc k ∧ su + xMs a ≤ xMs k := by
  unfold z_rm y_rst at h
  obtain ⟨h1, h⟩ := xand h
  obtain ⟨h2, h⟩ := xand h
  obtain ⟨h3, h4⟩ := xand h
  obtain ⟨h5, h6⟩ := xand h1
  refine ⟨?_, xble h3, xble h4⟩
  unfold xroom
  rw [h2, h5, h6, h3, h4]
  rfl
/-- a call that returns a value -/
theorem zz_call_v {as st0 : List Value} {v : Value} {w' : Bool} {M' : zM} (hx : ∀ ls, xroom k a st cu su = true → xstep xrec xs k (pc, ls, st0, cu, su, (w, zheap M)) = xback k a pc ls st cu su (xrec a as (w, zheap M))) (hrm : z_rm k a st cu su = true) (hr : xrec a as (w, zheap M) = some (.inl (some v), (w', zheap M'))) (hn : zG (xstep xrec xs k) k N (pc + 3) ρ (v :: st) (cu + xMc a) (su + xMs a) w' M' Q) : zG (xstep xrec xs k) k (N + 1) (pc) ρ st0 cu su w M Q := by
  obtain ⟨g0, g1, g2⟩ := z_rm_e hrm
  intro ls hl
  have hx := hx ls g0
  rw [hr] at hx
  exact zW_step (hx.trans rfl) (hn ls hl)
theorem zz_call_0 {as st0 : List Value} {w' : Bool} {M' : zM} (hx : ∀ ls, xroom k a st cu su = true → xstep xrec xs k (pc, ls, st0, cu, su, (w, zheap M)) = xback k a pc ls st cu su (xrec a as (w, zheap M))) (hrm : z_rm k a st cu su = true) (hr : xrec a as (w, zheap M) = some (.inl none, (w', zheap M'))) (hn : zG (xstep xrec xs k) k N (pc + 3) ρ st (cu + xMc a) (su + xMs a) w' M' Q) : zG (xstep xrec xs k) k (N + 1) (pc) ρ st0 cu su w M Q := by
  obtain ⟨g0, g1, g2⟩ := z_rm_e hrm
  intro ls hl
  have hx := hx ls g0
  rw [hr] at hx
  exact zW_step (hx.trans rfl) (hn ls hl)
/-- a call that throws, no handler here -/
theorem zz_call_e {as st0 : List Value} {E : Nat} {w' : Bool} {M' : zM} (hx : ∀ ls, xroom k a st cu su = true → xstep xrec xs k (pc, ls, st0, cu, su, (w, zheap M)) = xback k a pc ls st cu su (xrec a as (w, zheap M))) (hrm : z_rm k a st cu su = true) (hh : xhnd (xHh k) pc E = none) (hr : xrec a as (w, zheap M) = some (.inr E, (w', zheap M'))) (hq : Q (.inr E) (false, zheap M')) : zG (xstep xrec xs k) k N (pc) ρ st0 cu su w M Q := by
  obtain ⟨g0, g1, g2⟩ := z_rm_e hrm
  intro ls hl
  have hx := hx ls g0
  rw [hr] at hx
  refine ⟨0, _, ((pc, ls, st, cu + xMc a, su + xMs a, (w', zheap M')), some E), _, _, Nat.zero_le _, rfl, ?_, ?_, hq⟩
  · rw [hx]
    unfold xback
    dsimp only
    rw [hh]
  · unfold xfin2
    dsimp only
    rw [show Nat.ble (cu + xMc a) (xMc k) = true from Nat.ble_eq_true_of_le g1, show Nat.ble (su + xMs a) (xMs k) = true from Nat.ble_eq_true_of_le g2]
    rfl
theorem zz_calS {as : List Value} {st0 : List Value} {ix : Nat} (hc : xcode k pc = some (.invokestatic ix, len, a, 0)) (hs : xsplit (xNa a) st0 [] = some (as, st)) (ls : XL) (hr : xroom k a st cu su = true) : xstep xrec xs k (pc, ls, st0, cu, su, (w, zheap M)) = xback k a pc ls st cu su (xrec a as (w, zheap M)) := xs_calS hc hs hr
theorem zz_calI {as : List Value} {st0 : List Value} {ix : Nat} (hb : b = 0 ∨ b = 1) (hc : xcode k pc = some (.invokespecial ix, len, a, b)) (hs : xsplit (xNa a) st0 [] = some (as, .ref q :: st)) (ls : XL) (hr : xroom k a st cu su = true) : xstep xrec xs k (pc, ls, st0, cu, su, (w, zheap M)) = xback k a pc ls st cu su (xrec a (.ref q :: as) (w, zheap M)) := xs_calI hb hc hs hr
theorem zz_calV {as : List Value} {st0 : List Value} {ix l : Nat} {K : Nat → zK} (hc : xcode k pc = some (.invokevirtual ix, len, a, b)) (hs : xsplit (xNa a) st0 [] = some (as, .ref q :: st)) (hi : zIs q (xK a) l K) (ls : XL) (hr : xroom k a st cu su = true) : xstep xrec xs k (pc, ls, st0, cu, su, (w, zheap M)) = xback k a pc ls st cu su (xrec a (.ref q :: as) (w, zheap M)) := xs_calV hc hs (zheap_at hi) rfl hr
end ZST
/-- a method's run -/
theorem zrun_e {xs : List Int32} {d k N : Nat} {av : List Value} {w : Bool} {M : zM} {Q : XO → XW → Prop} (hN : N < 1048576) (ha : Nat.ble (xcat av) (xNl k) = true) (h : zG (xstep (xrun2 xs d) xs k) k N 0 (lv_args 0 av) [] 0 0 w M Q) (hu : zL (lv_args 0 av) (lv_args 0 av)) : ∃ o σ, xrun2 xs (d + 1) k av (w, zheap M) = some (o, σ) ∧ Q o σ := by
  obtain ⟨n, c1, z, o, σ, hn, hp, hz, hf, hq⟩ := h _ hu
  refine ⟨o, σ, ?_, hq⟩
  show xone xs (xrun2 xs d) 20 k av (w, zheap M) = some (o, σ)
  unfold xone
  rw [ha, cond_true]
  have hx : xit (xstep (xrun2 xs d) xs k) 20 (0, lv_args 0 av, [], 0, 0, (w, zheap M)) = some (.inr z) := by
    refine xit_inr 20 n _ c1 ?_ hp hz
    have : (2 : Nat) ^ 20 = 1048576 := by decide +kernel
    omega
  generalize xit (xstep (xrun2 xs d) xs k) 20 (0, lv_args 0 av, [], 0, 0, (w, zheap M)) = R at hx ⊢
  subst hx
  exact hf
theorem zlv_ge : ∀ (vs : List Value) (n : Nat) (p : Nat × Value), p ∈ lv_args n vs → n ≤ p.1
  | [], _, _, h => by cases h
  | v :: vs, n, p, h => by
    rcases List.mem_cons.mp h with rfl | h
    · exact Nat.le_refl _
    · have := zlv_ge vs _ p h
      split at this <;> omega
theorem zL_args : ∀ (vs : List Value) (n : Nat), zL (lv_args n vs) (lv_args n vs)
  | [], _, _, h => by cases h
  | v :: vs, n, p, h => by
    rcases List.mem_cons.mp h with rfl | h
    · show (bif Nat.beq n n then some v else _) = some v
      rw [Nat.beq_refl, cond_true]
    · have h1 := zlv_ge vs _ p h
      have h2 : Nat.beq n p.1 = false := by
        cases hb : Nat.beq n p.1 with
        | false => rfl
        | true => have := Nat.eq_of_beq_eq_true hb; split at h1 <;> omega
      show (bif Nat.beq n p.1 then some v else xgl (lv_args _ vs) p.1) = some p.2
      rw [h2, cond_false]
      exact zL_args vs _ p h
/-- a method's run, with its answer -/
theorem zrun_v {xs : List Int32} {d k N : Nat} {av : List Value} {w w' : Bool} {M M' : zM} {out : XO} (hN : Nat.blt N 1048576 = true) (ha : Nat.ble (xcat av) (xNl k) = true) (h : zG (xstep (xrun2 xs d) xs k) k N 0 (lv_args 0 av) [] 0 0 w M (fun o σ => o = out ∧ σ = (w', zheap M'))) : xrun2 xs (d + 1) k av (w, zheap M) = some (out, (w', zheap M')) := by
  obtain ⟨o, σ, h1, h2, h3⟩ := zrun_e (y_blt_t hN) ha h (zL_args av 0)
  rw [h1, h2, h3]
end
noncomputable section
/-! The grid of a state block. -/
def zsz (M : zM) (a : Nat) : Int := M (a + 1) 0 * M (a + 1) 1
def zfree (M : zM) (a : Nat) (c : Int) : Prop := 0 ≤ c ∧ c < M (a + 1) 0 * M (a + 1) 1 ∧ ¬ M (a + 2) c.toNat = -1
/-- the grid: its sizes, marks, costs -/
def zGr (M : zM) (a : Nat) : Prop := (1 ≤ M (a + 1) 0 ∧ M (a + 1) 0 ≤ 6) ∧ (1 ≤ M (a + 1) 1 ∧ M (a + 1) 1 ≤ 6) ∧ (∀ c : Nat, c < 36 → -1 ≤ M (a + 2) c ∧ M (a + 2) c ≤ 3)
theorem zmul6 {x y : Int} (hx : 1 ≤ x ∧ x ≤ 6) (hy : 1 ≤ y ∧ y ≤ 6) : 1 ≤ x * y ∧ x * y ≤ 36 := by
  have h : x = 1 ∨ x = 2 ∨ x = 3 ∨ x = 4 ∨ x = 5 ∨ x = 6 := by omega
  rcases h with rfl | rfl | rfl | rfl | rfl | rfl <;> omega
theorem zGr.sz {M : zM} {a : Nat} (h : zGr M a) : 1 ≤ M (a + 1) 0 * M (a + 1) 1 ∧ M (a + 1) 0 * M (a + 1) 1 ≤ 36 := zmul6 h.1 h.2.1
theorem zq_i {e e' : Int} (h : e = e') : (Sum.inl (some (Value.int (Int32.ofInt e))) : XO) = .inl (some (.int (Int32.ofInt e'))) := by rw [h]
theorem zq_j {e e' : Int} (h : e = e') : (Sum.inl (some (Value.long (Int64.ofInt e))) : XO) = .inl (some (.long (Int64.ofInt e'))) := by rw [h]
theorem sp_size {xs : List Int32} {d : Nat} {w : Bool} {M : zM} {a : Nat} (ha : zSt a) : xrun2 xs (d + 1) 15 [.ref (a + 1)] (w, zheap M) = some (.inl (some (.int (Int32.ofInt (zsz M a)))), (w, zheap M)) := by
  exact zrun_v (N := 5) (by decide) rfl (zz_aload_n (pc := 0) xf_15_0 (zmem 0 rfl) (zz_getI (pc := 1) xf_15_1 (zst_1 ha) (by decide +kernel) rfl (zz_aload_n (pc := 4) xf_15_4 (zmem 0 rfl) (zz_getI (pc := 5) xf_15_5 (zst_1 ha) (by decide +kernel) rfl (zz_imul (pc := 8) xf_15_8 (zz_ireturn (pc := 9) xf_15_9 rfl (by decide +kernel) (by decide +kernel) (by exact ⟨rfl, rfl⟩)))))))
theorem sp_has {xs : List Int32} {d : Nat} {w : Bool} {M : zM} {a : Nat} (ha : zSt a) {c : Int} (hc : zr32 c) (hg : zGr M a) : xrun2 xs (d + 1) 16 [.ref (a + 1), .int (Int32.ofInt c)] (w, zheap M) = some (.inl (some (.int (Int32.ofInt (zb (0 ≤ c ∧ c < zsz M a))))), (w, zheap M)) := by
  unfold zr32 at hc
  obtain ⟨⟨g1, g2⟩, ⟨g3, g4⟩, g5⟩ := id hg
  obtain ⟨g6, g7⟩ := hg.sz
  exact zrun_v (N := 11) (by decide) rfl (zz_iload_n (pc := 0) xf_16_0 (zmem 1 rfl) (zz_if (pc := 1) xf_16_1 (by unfold zr32; omega) (fun (zc1 : c < 0) => zz_iconst (pc := 21) xf_16_21 (zz_zreturn (pc := 22) xf_16_22 rfl (by decide +kernel) (by decide +kernel) (by decide) (by first | exact ⟨zq_i (zb_f (by unfold zsz; omega)).symm, rfl⟩ | exact ⟨zq_i (zb_t (by unfold zsz; omega)).symm, rfl⟩))) (fun (zc2 : ¬ (c < 0)) => zz_iload_n (pc := 4) xf_16_4 (zmem 1 rfl) (zz_aload_n (pc := 5) xf_16_5 (zmem 0 rfl) (zz_getI (pc := 6) xf_16_6 (zst_1 ha) (by decide +kernel) rfl (zz_aload_n (pc := 9) xf_16_9 (zmem 0 rfl) (zz_getI (pc := 10) xf_16_10 (zst_1 ha) (by decide +kernel) rfl (zz_imul (pc := 13) xf_16_13 (zz_icmp (pc := 14) xf_16_14 (by unfold zr32; omega) (by unfold zr32; omega) (fun (zc3 : ¬ (c < ((M (a + 1) 0) * (M (a + 1) 1)))) => zz_iconst (pc := 21) xf_16_21 (zz_zreturn (pc := 22) xf_16_22 rfl (by decide +kernel) (by decide +kernel) (by decide) (by first | exact ⟨zq_i (zb_f (by unfold zsz; omega)).symm, rfl⟩ | exact ⟨zq_i (zb_t (by unfold zsz; omega)).symm, rfl⟩))) (fun zc40 => have zc4 : c < ((M (a + 1) 0) * (M (a + 1) 1)) := Classical.not_not.mp zc40; zz_iconst (pc := 17) xf_16_17 (zz_goto (pc := 18) xf_16_18 (zz_zreturn (pc := 22) xf_16_22 rfl (by decide +kernel) (by decide +kernel) (by decide) (by first | exact ⟨zq_i (zb_f (by unfold zsz; omega)).symm, rfl⟩ | exact ⟨zq_i (zb_t (by unfold zsz; omega)).symm, rfl⟩)))))))))))))
theorem sp_isFree {xs : List Int32} {d : Nat} {w : Bool} {M : zM} {a : Nat} (ha : zSt a) {c : Int} (hc : zr32 c) (hg : zGr M a) : xrun2 xs (d + 1) 17 [.ref (a + 1), .int (Int32.ofInt c)] (w, zheap M) = some (.inl (some (.int (Int32.ofInt (zb (zfree M a c))))), (w, zheap M)) := by
  unfold zr32 at hc
  obtain ⟨⟨g1, g2⟩, ⟨g3, g4⟩, g5⟩ := id hg
  obtain ⟨g6, g7⟩ := hg.sz
  have g8 := g5 c.toNat
  exact zrun_v (N := 17) (by decide) rfl (zz_iload_n (pc := 0) xf_17_0 (zmem 1 rfl) (zz_if (pc := 1) xf_17_1 (by unfold zr32; omega) (fun (zc1 : c < 0) => zz_iconst (pc := 31) xf_17_31 (zz_zreturn (pc := 32) xf_17_32 rfl (by decide +kernel) (by decide +kernel) (by decide) (by first | exact ⟨zq_i (zb_f (by unfold zfree; omega)).symm, rfl⟩ | exact ⟨zq_i (zb_t (by unfold zfree; omega)).symm, rfl⟩))) (fun (zc2 : ¬ (c < 0)) => zz_iload_n (pc := 4) xf_17_4 (zmem 1 rfl) (zz_aload_n (pc := 5) xf_17_5 (zmem 0 rfl) (zz_getI (pc := 6) xf_17_6 (zst_1 ha) (by decide +kernel) rfl (zz_aload_n (pc := 9) xf_17_9 (zmem 0 rfl) (zz_getI (pc := 10) xf_17_10 (zst_1 ha) (by decide +kernel) rfl (zz_imul (pc := 13) xf_17_13 (zz_icmp (pc := 14) xf_17_14 (by unfold zr32; omega) (by unfold zr32; omega) (fun (zc3 : ¬ (c < ((M (a + 1) 0) * (M (a + 1) 1)))) => zz_iconst (pc := 31) xf_17_31 (zz_zreturn (pc := 32) xf_17_32 rfl (by decide +kernel) (by decide +kernel) (by decide) (by first | exact ⟨zq_i (zb_f (by unfold zfree; omega)).symm, rfl⟩ | exact ⟨zq_i (zb_t (by unfold zfree; omega)).symm, rfl⟩))) (fun zc40 => have zc4 : c < ((M (a + 1) 0) * (M (a + 1) 1)) := Classical.not_not.mp zc40; zz_aload_n (pc := 17) xf_17_17 (zmem 0 rfl) (zz_getR (pc := 18) xf_17_18 (zst_1 ha) (by decide +kernel) rfl (zz_iload_n (pc := 21) xf_17_21 (zmem 1 rfl) (zz_iald (pc := 22) xf_17_22 (zst_2 ha) (by omega) (zz_iconst (pc := 23) xf_17_23 (zz_icmp (pc := 24) xf_17_24 (by unfold zr32; omega) ⟨by decide, by decide⟩ (fun (zc5 : (M (a + 2) c.toNat) = (-1)) => zz_iconst (pc := 31) xf_17_31 (zz_zreturn (pc := 32) xf_17_32 rfl (by decide +kernel) (by decide +kernel) (by decide) (by first | exact ⟨zq_i (zb_f (by unfold zfree; omega)).symm, rfl⟩ | exact ⟨zq_i (zb_t (by unfold zfree; omega)).symm, rfl⟩))) (fun (zc6 : ¬ ((M (a + 2) c.toNat) = (-1))) => zz_iconst (pc := 27) xf_17_27 (zz_goto (pc := 28) xf_17_28 (zz_zreturn (pc := 32) xf_17_32 rfl (by decide +kernel) (by decide +kernel) (by decide) (by first | exact ⟨zq_i (zb_f (by unfold zfree; omega)).symm, rfl⟩ | exact ⟨zq_i (zb_t (by unfold zfree; omega)).symm, rfl⟩)))))))))))))))))))
theorem zfree_b {M : zM} {a : Nat} {c : Int} (hg : zGr M a) (h : zfree M a c) : 0 ≤ c ∧ c < ((36 : Nat) : Int) := by
  have h1 := hg.sz
  unfold zfree at h
  omega
noncomputable def zmark (M : zM) (a : Nat) (c : Int) : Int := @ite _ (zfree M a c) (Classical.propDecidable _) (M (a + 2) c.toNat) 0
theorem zmark_t {M : zM} {a : Nat} {c : Int} (h : zfree M a c) : zmark M a c = M (a + 2) c.toNat := if_pos h
theorem zmark_f {M : zM} {a : Nat} {c : Int} (h : ¬ zfree M a c) : zmark M a c = 0 := if_neg h
theorem sp_markOf {xs : List Int32} {d : Nat} {w : Bool} {M : zM} {a : Nat} (ha : zSt a) {c : Int} (hc : zr32 c) (hg : zGr M a) : xrun2 xs (d + 2) 18 [.ref (a + 1), .int (Int32.ofInt c)] (w, zheap M) = some (.inl (some (.int (Int32.ofInt (zmark M a c)))), (w, zheap M)) := by
  obtain ⟨⟨g1, g2⟩, ⟨g3, g4⟩, g5⟩ := id hg
  obtain ⟨g6, g7⟩ := hg.sz
  exact zrun_v (N := 9) (by decide) rfl (zz_aload_n (pc := 0) xf_18_0 (zmem 0 rfl) (zz_iload_n (pc := 1) xf_18_1 (zmem 1 rfl) (zz_call_v (pc := 2) (cu := 0) (su := 0) (fun ls hr => zz_calV xf_18_2 rfl (zst_1 ha) ls hr) rfl (sp_isFree (d := d) ha hc hg) (zz_ifbeq (pc := 5) xf_18_5 (fun (zc1 : ¬ (zfree M a c)) => zz_iconst (pc := 17) xf_18_17 (zz_ireturn (pc := 18) xf_18_18 rfl (by decide +kernel) (by decide +kernel) (by first | exact ⟨zq_i (zmark_t (by assumption)).symm, rfl⟩ | exact ⟨zq_i (zmark_f (by assumption)).symm, rfl⟩))) (fun zc20 => have zc2 : zfree M a c := Classical.not_not.mp zc20; zz_aload_n (pc := 8) xf_18_8 (zmem 0 rfl) (zz_getR (pc := 9) xf_18_9 (zst_1 ha) (by decide +kernel) rfl (zz_iload_n (pc := 12) xf_18_12 (zmem 1 rfl) (zz_iald (pc := 13) xf_18_13 (zst_2 ha) (zfree_b hg (by assumption)) (zz_goto (pc := 14) xf_18_14 (zz_ireturn (pc := 18) xf_18_18 rfl (by decide +kernel) (by decide +kernel) (by first | exact ⟨zq_i (zmark_t (by assumption)).symm, rfl⟩ | exact ⟨zq_i (zmark_f (by assumption)).symm, rfl⟩)))))))))))
/-- how many of the first n are so -/
noncomputable def zcount (P : Nat → Prop) : Nat → Int
  | 0 => 0
  | n + 1 => zcount P n + zb (P n)
theorem zcount_b (P : Nat → Prop) : ∀ n, 0 ≤ zcount P n ∧ zcount P n ≤ n
  | 0 => ⟨Int.le_refl _, Int.le_refl _⟩
  | n + 1 => by
    have h := zcount_b P n
    show 0 ≤ zcount P n + zb (P n) ∧ zcount P n + zb (P n) ≤ ((n + 1 : Nat) : Int)
    rcases zb_01 (P n) with e | e <;> rw [e] <;> omega
theorem zcount_t {P : Nat → Prop} {i : Int} (h0 : 0 ≤ i) (h : P i.toNat) : zcount P (i + 1).toNat = zcount P i.toNat + 1 := by
  rw [show (i + 1).toNat = i.toNat + 1 by omega]
  show zcount P i.toNat + zb (P i.toNat) = _
  rw [zb_t h]
theorem zcount_f {P : Nat → Prop} {i : Int} (h0 : 0 ≤ i) (h : ¬ P i.toNat) : zcount P (i + 1).toNat = zcount P i.toNat := by
  rw [show (i + 1).toNat = i.toNat + 1 by omega]
  show zcount P i.toNat + zb (P i.toNat) = _
  rw [zb_f h, Int.add_zero]
/-- the cell of a number -/
def zfreeN (M : zM) (a : Nat) (j : Nat) : Prop := zfree M a (j : Int)
noncomputable def zmany (M : zM) (a : Nat) : Int := zcount (zfreeN M a) (zsz M a).toNat
theorem zfreeN_i {M : zM} {a : Nat} {i : Int} (h : 0 ≤ i) : zfreeN M a i.toNat ↔ zfree M a i := by
  unfold zfreeN
  rw [Int.toNat_of_nonneg h]
theorem zl_freeCells_9 {xs : List Int32} {d : Nat} {w : Bool} {M : zM} {a : Nat} (ha : zSt a) (hg : zGr M a)  : ∀ (zn : Nat) (s v i : Int), (s = zsz M a) → (v = zcount (zfreeN M a) i.toNat) → (0 ≤ i ∧ i ≤ zsz M a) → zsz M a - i ≤ (zn : Int) → zG (xstep (xrun2 xs (d + 1)) xs 19) 19 (zn * 10 + 10) 9 [(0, .ref (a + 1)), (1, .int (Int32.ofInt s)), (2, .int (Int32.ofInt v)), (3, .int (Int32.ofInt i))] [] 0 0 w M (fun o σ => o = (.inl (some (.int (Int32.ofInt (zmany M a)))) : XO) ∧ σ = (w, zheap M)) := by
  intro zn
  induction zn with
  | zero =>
    intro s v i hs hv hi hm
    obtain ⟨⟨g1, g2⟩, ⟨g3, g4⟩, g5⟩ := id hg
    obtain ⟨g6, g7⟩ := hg.sz
    have hz : zsz M a = M (a + 1) 0 * M (a + 1) 1 := rfl
    exact zG_mono (N := 0 + 10) (by omega) (zz_iload_n (pc := 9) xf_19_9 (zmem 3 rfl) (zz_iload_n (pc := 10) xf_19_10 (zmem 1 rfl) (zz_icmp (pc := 11) xf_19_11 (by unfold zr32; omega) (by unfold zr32; omega) (fun (zc1 : ¬ (i < s)) => zz_iload_n (pc := 31) xf_19_31 (zmem 2 rfl) (zz_ireturn (pc := 32) xf_19_32 rfl (by decide +kernel) (by decide +kernel) (by exact ⟨zq_i (by rw [hv, show i = zsz M a by omega]; rfl), rfl⟩))) (fun zc20 => have zc2 : i < s := Classical.not_not.mp zc20; zz_aload_n (pc := 14) xf_19_14 (zmem 0 rfl) (zz_iload_n (pc := 15) xf_19_15 (zmem 3 rfl) (zz_call_v (pc := 16) (cu := 0) (su := 0) (fun ls hr => zz_calV xf_19_16 rfl (zst_1 ha) ls hr) rfl (sp_isFree (d := d) ha (by unfold zr32; omega) hg) (zz_ifbeq (pc := 19) xf_19_19 (fun (zc3 : ¬ (zfree M a i)) => zz_iinc (pc := 25) xf_19_25 (zmem 3 rfl) (by decide +kernel) (zG_ro (ρ' := [(3, .int (Int32.ofInt (i + 1))), (0, .ref (a + 1)), (1, .int (Int32.ofInt s)), (2, .int (Int32.ofInt v))]) rfl (zz_goto (pc := 28) xf_19_28 ((by exfalso; omega))))) (fun zc40 => have zc4 : zfree M a i := Classical.not_not.mp zc40; zz_iinc (pc := 22) xf_19_22 (zmem 2 rfl) (by decide +kernel) (zG_ro (ρ' := [(2, .int (Int32.ofInt (v + 1))), (0, .ref (a + 1)), (1, .int (Int32.ofInt s)), (3, .int (Int32.ofInt i))]) rfl (zz_iinc (pc := 25) xf_19_25 (zmem 3 rfl) (by decide +kernel) (zG_ro (ρ' := [(3, .int (Int32.ofInt (i + 1))), (2, .int (Int32.ofInt (v + 1))), (0, .ref (a + 1)), (1, .int (Int32.ofInt s))]) rfl (zz_goto (pc := 28) xf_19_28 ((by exfalso; omega))))))))))))))
  | succ zn ih =>
    intro s v i hs hv hi hm
    obtain ⟨⟨g1, g2⟩, ⟨g3, g4⟩, g5⟩ := id hg
    obtain ⟨g6, g7⟩ := hg.sz
    have hz : zsz M a = M (a + 1) 0 * M (a + 1) 1 := rfl
    exact zG_mono (N := zn * 10 + 10 + 10) (by omega) (zz_iload_n (pc := 9) xf_19_9 (zmem 3 rfl) (zz_iload_n (pc := 10) xf_19_10 (zmem 1 rfl) (zz_icmp (pc := 11) xf_19_11 (by unfold zr32; omega) (by unfold zr32; omega) (fun (zc1 : ¬ (i < s)) => zz_iload_n (pc := 31) xf_19_31 (zmem 2 rfl) (zz_ireturn (pc := 32) xf_19_32 rfl (by decide +kernel) (by decide +kernel) (by exact ⟨zq_i (by rw [hv, show i = zsz M a by omega]; rfl), rfl⟩))) (fun zc20 => have zc2 : i < s := Classical.not_not.mp zc20; zz_aload_n (pc := 14) xf_19_14 (zmem 0 rfl) (zz_iload_n (pc := 15) xf_19_15 (zmem 3 rfl) (zz_call_v (pc := 16) (cu := 0) (su := 0) (fun ls hr => zz_calV xf_19_16 rfl (zst_1 ha) ls hr) rfl (sp_isFree (d := d) ha (by unfold zr32; omega) hg) (zz_ifbeq (pc := 19) xf_19_19 (fun (zc3 : ¬ (zfree M a i)) => zz_iinc (pc := 25) xf_19_25 (zmem 3 rfl) (by decide +kernel) (zG_ro (ρ' := [(3, .int (Int32.ofInt (i + 1))), (0, .ref (a + 1)), (1, .int (Int32.ofInt s)), (2, .int (Int32.ofInt v))]) rfl (zz_goto (pc := 28) xf_19_28 (zG_mono (N := zn * 10 + 10) (by omega) (zG_sub (List.forall_mem_cons.mpr ⟨zmem 1 rfl, (List.forall_mem_cons.mpr ⟨zmem 2 rfl, (List.forall_mem_cons.mpr ⟨zmem 3 rfl, (List.forall_mem_cons.mpr ⟨zmem 0 rfl, (fun p hp => absurd hp List.not_mem_nil)⟩)⟩)⟩)⟩) (ih s v (i + 1)  hs (by rw [hv]; first | exact (zcount_t hi.1 ((zfreeN_i hi.1).mpr (by assumption))).symm | exact (zcount_f hi.1 (fun h => absurd ((zfreeN_i hi.1).mp h) (by assumption))).symm) (by omega) (by omega))))))) (fun zc40 => have zc4 : zfree M a i := Classical.not_not.mp zc40; zz_iinc (pc := 22) xf_19_22 (zmem 2 rfl) (by decide +kernel) (zG_ro (ρ' := [(2, .int (Int32.ofInt (v + 1))), (0, .ref (a + 1)), (1, .int (Int32.ofInt s)), (3, .int (Int32.ofInt i))]) rfl (zz_iinc (pc := 25) xf_19_25 (zmem 3 rfl) (by decide +kernel) (zG_ro (ρ' := [(3, .int (Int32.ofInt (i + 1))), (2, .int (Int32.ofInt (v + 1))), (0, .ref (a + 1)), (1, .int (Int32.ofInt s))]) rfl (zz_goto (pc := 28) xf_19_28 (zG_mono (N := zn * 10 + 10) (by omega) (zG_sub (List.forall_mem_cons.mpr ⟨zmem 2 rfl, (List.forall_mem_cons.mpr ⟨zmem 3 rfl, (List.forall_mem_cons.mpr ⟨zmem 1 rfl, (List.forall_mem_cons.mpr ⟨zmem 0 rfl, (fun p hp => absurd hp List.not_mem_nil)⟩)⟩)⟩)⟩) (ih s (v + 1) (i + 1)  hs (by rw [hv]; first | exact (zcount_t hi.1 ((zfreeN_i hi.1).mpr (by assumption))).symm | exact (zcount_f hi.1 (fun h => absurd ((zfreeN_i hi.1).mp h) (by assumption))).symm) (by omega) (by omega))))))))))))))))
theorem sp_freeCells {xs : List Int32} {d : Nat} {w : Bool} {M : zM} {a : Nat} (ha : zSt a) (hg : zGr M a) : xrun2 xs (d + 2) 19 [.ref (a + 1)] (w, zheap M) = some (.inl (some (.int (Int32.ofInt (zmany M a)))), (w, zheap M)) := by
  obtain ⟨⟨g1, g2⟩, ⟨g3, g4⟩, g5⟩ := id hg
  obtain ⟨g6, g7⟩ := hg.sz
  have hz : zsz M a = M (a + 1) 0 * M (a + 1) 1 := rfl
  exact zrun_v (N := 377) (by decide) rfl (zz_aload_n (pc := 0) xf_19_0 (zmem 0 rfl) (zz_call_v (pc := 1) (cu := 0) (su := 0) (fun ls hr => zz_calV xf_19_1 rfl (zst_1 ha) ls hr) rfl (sp_size (d := d) ha) (zz_istore_n (pc := 4) xf_19_4 (by decide +kernel) (zG_ro (ρ' := [(1, .int (Int32.ofInt (zsz M a))), (0, .ref (a + 1))]) rfl (zz_iconst (pc := 5) xf_19_5 (zz_istore_n (pc := 6) xf_19_6 (by decide +kernel) (zG_ro (ρ' := [(2, .int (Int32.ofInt (0))), (1, .int (Int32.ofInt (zsz M a))), (0, .ref (a + 1))]) rfl (zz_iconst (pc := 7) xf_19_7 (zz_istore_n (pc := 8) xf_19_8 (by decide +kernel) (zG_ro (ρ' := [(3, .int (Int32.ofInt (0))), (2, .int (Int32.ofInt (0))), (1, .int (Int32.ofInt (zsz M a))), (0, .ref (a + 1))]) rfl (zG_mono (N := 370) (by omega) (zG_sub (List.forall_mem_cons.mpr ⟨zmem 3 rfl, (List.forall_mem_cons.mpr ⟨zmem 2 rfl, (List.forall_mem_cons.mpr ⟨zmem 1 rfl, (List.forall_mem_cons.mpr ⟨zmem 0 rfl, (fun p hp => absurd hp List.not_mem_nil)⟩)⟩)⟩)⟩) (zl_freeCells_9 ha hg 36 _ _ _ rfl rfl (by omega) (by omega))))))))))))))
/-- the first of k from i on that is so, else e -/
noncomputable def zfirst (P : Nat → Prop) (e : Int) : Nat → Nat → Int
  | _, 0 => e
  | i, k + 1 => @ite _ (P i) (Classical.propDecidable _) (i : Int) (zfirst P e (i + 1) k)
noncomputable def zlow (M : zM) (a : Nat) : Int := zfirst (zfreeN M a) 0 0 (zsz M a).toNat
theorem zfirst_t {P : Nat → Prop} {e i n : Int} (h0 : 0 ≤ i) (hn : i < n) (h : P i.toNat) : zfirst P e i.toNat (n - i).toNat = i := by
  rw [show (n - i).toNat = (n - i - 1).toNat + 1 by omega]
  unfold zfirst
  rw [if_pos h]
  omega
theorem zfirst_f {P : Nat → Prop} {e i n : Int} (h0 : 0 ≤ i) (hn : i < n) (h : ¬ P i.toNat) : zfirst P e i.toNat (n - i).toNat = zfirst P e (i + 1).toNat (n - (i + 1)).toNat := by
  rw [show (n - i).toNat = (n - (i + 1)).toNat + 1 by omega, show (i + 1).toNat = i.toNat + 1 by omega]
  show (@ite _ (P i.toNat) (Classical.propDecidable _) (i.toNat : Int) (zfirst P e (i.toNat + 1) (n - (i + 1)).toNat)) = _
  rw [if_neg h]
theorem zfirst_0 {P : Nat → Prop} {e i n : Int} (hn : n ≤ i) : zfirst P e i.toNat (n - i).toNat = e := by
  rw [show (n - i).toNat = 0 by omega]
  rfl
theorem zl_lowestFree_7 {xs : List Int32} {d : Nat} {w : Bool} {M : zM} {a : Nat} (ha : zSt a) (hg : zGr M a)  : ∀ (zn : Nat) (s i : Int), (s = zsz M a) → (zlow M a = zfirst (zfreeN M a) 0 i.toNat (zsz M a - i).toNat) → (0 ≤ i ∧ i ≤ zsz M a) → zsz M a - i ≤ (zn : Int) → zG (xstep (xrun2 xs (d + 1)) xs 20) 20 (zn * 9 + 9) 7 [(0, .ref (a + 1)), (1, .int (Int32.ofInt s)), (2, .int (Int32.ofInt i))] [] 0 0 w M (fun o σ => o = (.inl (some (.int (Int32.ofInt (zlow M a)))) : XO) ∧ σ = (w, zheap M)) := by
  intro zn
  induction zn with
  | zero =>
    intro s i hs hv hi hm
    obtain ⟨⟨g1, g2⟩, ⟨g3, g4⟩, g5⟩ := id hg
    obtain ⟨g6, g7⟩ := hg.sz
    have hz : zsz M a = M (a + 1) 0 * M (a + 1) 1 := rfl
    exact zG_mono (N := 0 + 9) (by omega) (zz_iload_n (pc := 7) xf_20_7 (zmem 2 rfl) (zz_iload_n (pc := 8) xf_20_8 (zmem 1 rfl) (zz_icmp (pc := 9) xf_20_9 (by unfold zr32; omega) (by unfold zr32; omega) (fun (zc1 : ¬ (i < s)) => zz_iconst (pc := 28) xf_20_28 (zz_ireturn (pc := 29) xf_20_29 rfl (by decide +kernel) (by decide +kernel) (by first | exact ⟨zq_i (by rw [hv]; exact (zfirst_t hi.1 (by omega) ((zfreeN_i hi.1).mpr (by assumption))).symm), rfl⟩ | exact ⟨zq_i (by rw [hv]; exact (zfirst_0 (by omega)).symm), rfl⟩))) (fun zc20 => have zc2 : i < s := Classical.not_not.mp zc20; zz_aload_n (pc := 12) xf_20_12 (zmem 0 rfl) (zz_iload_n (pc := 13) xf_20_13 (zmem 2 rfl) (zz_call_v (pc := 14) (cu := 0) (su := 0) (fun ls hr => zz_calV xf_20_14 rfl (zst_1 ha) ls hr) rfl (sp_isFree (d := d) ha (by unfold zr32; omega) hg) (zz_ifbeq (pc := 17) xf_20_17 (fun (zc3 : ¬ (zfree M a i)) => zz_iinc (pc := 22) xf_20_22 (zmem 2 rfl) (by decide +kernel) (zG_ro (ρ' := [(2, .int (Int32.ofInt (i + 1))), (0, .ref (a + 1)), (1, .int (Int32.ofInt s))]) rfl (zz_goto (pc := 25) xf_20_25 ((by exfalso; omega))))) (fun zc40 => have zc4 : zfree M a i := Classical.not_not.mp zc40; zz_iload_n (pc := 20) xf_20_20 (zmem 2 rfl) (zz_ireturn (pc := 21) xf_20_21 rfl (by decide +kernel) (by decide +kernel) (by first | exact ⟨zq_i (by rw [hv]; exact (zfirst_t hi.1 (by omega) ((zfreeN_i hi.1).mpr (by assumption))).symm), rfl⟩ | exact ⟨zq_i (by rw [hv]; exact (zfirst_0 (by omega)).symm), rfl⟩))))))))))
  | succ zn ih =>
    intro s i hs hv hi hm
    obtain ⟨⟨g1, g2⟩, ⟨g3, g4⟩, g5⟩ := id hg
    obtain ⟨g6, g7⟩ := hg.sz
    have hz : zsz M a = M (a + 1) 0 * M (a + 1) 1 := rfl
    exact zG_mono (N := zn * 9 + 9 + 9) (by omega) (zz_iload_n (pc := 7) xf_20_7 (zmem 2 rfl) (zz_iload_n (pc := 8) xf_20_8 (zmem 1 rfl) (zz_icmp (pc := 9) xf_20_9 (by unfold zr32; omega) (by unfold zr32; omega) (fun (zc1 : ¬ (i < s)) => zz_iconst (pc := 28) xf_20_28 (zz_ireturn (pc := 29) xf_20_29 rfl (by decide +kernel) (by decide +kernel) (by first | exact ⟨zq_i (by rw [hv]; exact (zfirst_t hi.1 (by omega) ((zfreeN_i hi.1).mpr (by assumption))).symm), rfl⟩ | exact ⟨zq_i (by rw [hv]; exact (zfirst_0 (by omega)).symm), rfl⟩))) (fun zc20 => have zc2 : i < s := Classical.not_not.mp zc20; zz_aload_n (pc := 12) xf_20_12 (zmem 0 rfl) (zz_iload_n (pc := 13) xf_20_13 (zmem 2 rfl) (zz_call_v (pc := 14) (cu := 0) (su := 0) (fun ls hr => zz_calV xf_20_14 rfl (zst_1 ha) ls hr) rfl (sp_isFree (d := d) ha (by unfold zr32; omega) hg) (zz_ifbeq (pc := 17) xf_20_17 (fun (zc3 : ¬ (zfree M a i)) => zz_iinc (pc := 22) xf_20_22 (zmem 2 rfl) (by decide +kernel) (zG_ro (ρ' := [(2, .int (Int32.ofInt (i + 1))), (0, .ref (a + 1)), (1, .int (Int32.ofInt s))]) rfl (zz_goto (pc := 25) xf_20_25 (zG_mono (N := zn * 9 + 9) (by omega) (zG_sub (List.forall_mem_cons.mpr ⟨zmem 1 rfl, (List.forall_mem_cons.mpr ⟨zmem 2 rfl, (List.forall_mem_cons.mpr ⟨zmem 0 rfl, (fun p hp => absurd hp List.not_mem_nil)⟩)⟩)⟩) (ih s (i + 1)  hs (by rw [hv]; exact zfirst_f hi.1 (by omega) (fun h => absurd ((zfreeN_i hi.1).mp h) (by assumption))) (by omega) (by omega))))))) (fun zc40 => have zc4 : zfree M a i := Classical.not_not.mp zc40; zz_iload_n (pc := 20) xf_20_20 (zmem 2 rfl) (zz_ireturn (pc := 21) xf_20_21 rfl (by decide +kernel) (by decide +kernel) (by first | exact ⟨zq_i (by rw [hv]; exact (zfirst_t hi.1 (by omega) ((zfreeN_i hi.1).mpr (by assumption))).symm), rfl⟩ | exact ⟨zq_i (by rw [hv]; exact (zfirst_0 (by omega)).symm), rfl⟩))))))))))
theorem sp_lowestFree {xs : List Int32} {d : Nat} {w : Bool} {M : zM} {a : Nat} (ha : zSt a) (hg : zGr M a) : xrun2 xs (d + 2) 20 [.ref (a + 1)] (w, zheap M) = some (.inl (some (.int (Int32.ofInt (zlow M a)))), (w, zheap M)) := by
  obtain ⟨⟨g1, g2⟩, ⟨g3, g4⟩, g5⟩ := id hg
  obtain ⟨g6, g7⟩ := hg.sz
  have hz : zsz M a = M (a + 1) 0 * M (a + 1) 1 := rfl
  exact zrun_v (N := 338) (by decide) rfl (zz_aload_n (pc := 0) xf_20_0 (zmem 0 rfl) (zz_call_v (pc := 1) (cu := 0) (su := 0) (fun ls hr => zz_calV xf_20_1 rfl (zst_1 ha) ls hr) rfl (sp_size (d := d) ha) (zz_istore_n (pc := 4) xf_20_4 (by decide +kernel) (zG_ro (ρ' := [(1, .int (Int32.ofInt (zsz M a))), (0, .ref (a + 1))]) rfl (zz_iconst (pc := 5) xf_20_5 (zz_istore_n (pc := 6) xf_20_6 (by decide +kernel) (zG_ro (ρ' := [(2, .int (Int32.ofInt (0))), (1, .int (Int32.ofInt (zsz M a))), (0, .ref (a + 1))]) rfl (zG_mono (N := 333) (by omega) (zG_sub (List.forall_mem_cons.mpr ⟨zmem 2 rfl, (List.forall_mem_cons.mpr ⟨zmem 1 rfl, (List.forall_mem_cons.mpr ⟨zmem 0 rfl, (fun p hp => absurd hp List.not_mem_nil)⟩)⟩)⟩) (zl_lowestFree_7 ha hg 36 _ _ rfl (by unfold zlow; rw [Int.sub_zero]; rfl) (by omega) (by omega)))))))))))
theorem sp_neighbor {xs : List Int32} {d : Nat} {w : Bool} {M : zM} {a : Nat} (ha : zSt a) {c e : Int} (hc : 0 ≤ c ∧ c < 36) (he : 0 ≤ e ∧ e < 4) : xrun2 xs (d + 1) 24 [.ref (a + 1), .int (Int32.ofInt c), .int (Int32.ofInt e)] (w, zheap M) = some (.inl (some (.int (Int32.ofInt (M (a + 4) (c * 4 + e).toNat)))), (w, zheap M)) := by
  exact zrun_v (N := 8) (by decide) rfl (zz_aload_n (pc := 0) xf_24_0 (zmem 0 rfl) (zz_getR (pc := 1) xf_24_1 (zst_1 ha) (by decide +kernel) rfl (zz_iload_n (pc := 4) xf_24_4 (zmem 1 rfl) (zz_iconst (pc := 5) xf_24_5 (zz_imul (pc := 6) xf_24_6 (zz_iload_n (pc := 7) xf_24_7 (zmem 2 rfl) (zz_iadd (pc := 8) xf_24_8 (zz_iald (pc := 9) xf_24_9 (zst_4 ha) (by omega) (zz_ireturn (pc := 10) xf_24_10 rfl (by decide +kernel) (by decide +kernel) (by exact ⟨rfl, rfl⟩))))))))))
def ztarget (M : zM) (a : Nat) (c e y : Int) : Int := if y = 0 then M (a + 4) (c * 4 + e).toNat else if y = 1 then M (a + 4) (c * 4 + (e + 3) % 4).toNat else if y = 2 then M (a + 4) (c * 4 + (e + 1) % 4).toNat else c
theorem sp_target {xs : List Int32} {d : Nat} {w : Bool} {M : zM} {a : Nat} (ha : zSt a) {c e y : Int} (hc : 0 ≤ c ∧ c < 36) (he : 0 ≤ e ∧ e < 4) (hy : zr32 y) : xrun2 xs (d + 2) 25 [.ref (a + 1), .int (Int32.ofInt c), .int (Int32.ofInt e), .int (Int32.ofInt y)] (w, zheap M) = some (.inl (some (.int (Int32.ofInt (ztarget M a c e y)))), (w, zheap M)) := by
  exact zrun_v (N := 10) (by decide) rfl (zz_iload_n (pc := 0) xf_25_0 (zmem 3 rfl) (zz_sw3 (pc := 1) xf_25_1 hy (by decide +kernel) (fun (zc1 : y = 0) => zz_aload_n (pc := 28) xf_25_28 (zmem 0 rfl) (zz_iload_n (pc := 29) xf_25_29 (zmem 1 rfl) (zz_iload_n (pc := 30) xf_25_30 (zmem 2 rfl) (zz_call_v (pc := 31) (cu := 0) (su := 0) (fun ls hr => zz_calV xf_25_31 rfl (zst_1 ha) ls hr) rfl (sp_neighbor (d := d) ha (by omega) (by omega)) (zz_ireturn (pc := 34) xf_25_34 rfl (by decide +kernel) (by decide +kernel) (by refine ⟨zq_i ?_, rfl⟩; unfold ztarget; (repeat' split) <;> first | rfl | omega)))))) (fun (zc2 : y = 1) => zz_aload_n (pc := 35) xf_25_35 (zmem 0 rfl) (zz_iload_n (pc := 36) xf_25_36 (zmem 1 rfl) (zz_iload_n (pc := 37) xf_25_37 (zmem 2 rfl) (zz_iconst (pc := 38) xf_25_38 (zz_iadd (pc := 39) xf_25_39 (zz_iconst (pc := 40) xf_25_40 (zz_irem (pc := 41) xf_25_41 (by omega) (by omega) (zz_call_v (pc := 42) (cu := 0) (su := 0) (fun ls hr => zz_calV xf_25_42 rfl (zst_1 ha) ls hr) rfl (sp_neighbor (d := d) ha (by omega) (by omega)) (zz_ireturn (pc := 45) xf_25_45 rfl (by decide +kernel) (by decide +kernel) (by refine ⟨zq_i ?_, rfl⟩; unfold ztarget; (repeat' split) <;> first | rfl | omega)))))))))) (fun (zc3 : y = 2) => zz_aload_n (pc := 46) xf_25_46 (zmem 0 rfl) (zz_iload_n (pc := 47) xf_25_47 (zmem 1 rfl) (zz_iload_n (pc := 48) xf_25_48 (zmem 2 rfl) (zz_iconst (pc := 49) xf_25_49 (zz_iadd (pc := 50) xf_25_50 (zz_iconst (pc := 51) xf_25_51 (zz_irem (pc := 52) xf_25_52 (by omega) (by omega) (zz_call_v (pc := 53) (cu := 0) (su := 0) (fun ls hr => zz_calV xf_25_53 rfl (zst_1 ha) ls hr) rfl (sp_neighbor (d := d) ha (by omega) (by omega)) (zz_ireturn (pc := 56) xf_25_56 rfl (by decide +kernel) (by decide +kernel) (by refine ⟨zq_i ?_, rfl⟩; unfold ztarget; (repeat' split) <;> first | rfl | omega)))))))))) (fun (zc4 : y < 0 ∨ 2 < y) => zz_iload_n (pc := 57) xf_25_57 (zmem 1 rfl) (zz_ireturn (pc := 58) xf_25_58 rfl (by decide +kernel) (by decide +kernel) (by refine ⟨zq_i ?_, rfl⟩; unfold ztarget; (repeat' split) <;> first | rfl | omega)))))
end
noncomputable section
/-! Rows that are filled one place after another; tables of a state block. -/
def ztab (M : zM) (q n : Nat) (F : Nat → Int) : zM := fun q' j => if q' = q ∧ j < n then F j else M q' j
theorem ztab_0 {M : zM} {q : Nat} {F : Nat → Int} : ztab M q 0 F = M := by
  funext q' j
  unfold ztab
  rw [if_neg (fun h => Nat.not_lt_zero _ h.2)]
theorem ztab_s {M : zM} {q n : Nat} {F : Nat → Int} {x : Int} (h : x = F n) : zup (ztab M q n F) q n x = ztab M q (n + 1) F := by
  funext q' j
  unfold zup ztab
  by_cases h1 : q' = q ∧ j = n
  · rw [if_pos h1, if_pos ⟨h1.1, by omega⟩, h, h1.2]
  · rw [if_neg h1]
    by_cases h2 : q' = q ∧ j < n
    · rw [if_pos h2, if_pos ⟨h2.1, by omega⟩]
    · rw [if_neg h2, if_neg (fun h3 => h2 ⟨h3.1, by have := h3.2; have : ¬ j = n := fun e => h1 ⟨h3.1, e⟩; omega⟩)]
theorem ztab_o {M : zM} {q n q' j : Nat} {F : Nat → Int} (h : ¬ q' = q) : ztab M q n F q' j = M q' j := if_neg (fun e => h e.1)
theorem ztab_i {M : zM} {q n j : Nat} {F : Nat → Int} (h : j < n) : ztab M q n F q j = F j := if_pos ⟨rfl, h⟩
theorem ztab_g {M : zM} {q n j : Nat} {F : Nat → Int} (h : n ≤ j) : ztab M q n F q j = M q j := if_neg (fun e => by have := e.2; omega)
theorem zup_i {M : zM} {q j : Nat} {x : Int} : zup M q j x q j = x := if_pos ⟨rfl, rfl⟩
theorem zup_o {M : zM} {q j q' j' : Nat} {x : Int} (h : ¬ (q' = q ∧ j' = j)) : zup M q j x q' j' = M q' j' := if_neg h
/-- the sum of the first n -/
def zsum (F : Nat → Int) : Nat → Int
  | 0 => 0
  | n + 1 => zsum F n + F n
theorem zsum_s {F : Nat → Int} {i : Int} (h : 0 ≤ i) : zsum F (i + 1).toNat = zsum F i.toNat + F i.toNat := by
  rw [show (i + 1).toNat = i.toNat + 1 by omega]
  rfl
theorem zsum_b {F : Nat → Int} {l u : Int} : ∀ n, (∀ j, j < n → l ≤ F j ∧ F j ≤ u) → l * n ≤ zsum F n ∧ zsum F n ≤ u * n
  | 0, _ => by show l * ((0 : Nat) : Int) ≤ 0 ∧ (0 : Int) ≤ u * ((0 : Nat) : Int); simp
  | n + 1, h => by
    have h1 := zsum_b n (fun j hj => h j (by omega))
    have h2 := h n (by omega)
    show l * ((n + 1 : Nat) : Int) ≤ zsum F n + F n ∧ zsum F n + F n ≤ u * ((n + 1 : Nat) : Int)
    rw [Int.natCast_add, Int.mul_add, Int.mul_add]
    have e : ((1 : Nat) : Int) = 1 := rfl
    rw [e, Int.mul_one, Int.mul_one]
    omega
/-- the numbers of moving, seeing, carrying away -/
def zTb (M : zM) (a : Nat) : Prop := (∀ j : Nat, j < 4 → 0 ≤ M (a + 6) j ∧ M (a + 6) j ≤ 16) ∧ (∀ j : Nat, j < 16 → 0 ≤ M (a + 7) j ∧ M (a + 7) j ≤ 100) ∧ (0 ≤ M (a + 5) 2 ∧ M (a + 5) 2 ≤ 100) ∧ (0 ≤ M (a + 5) 3 ∧ M (a + 5) 3 ≤ 100)
theorem zsumI_s {G : Int → Int} {i : Int} (h : 0 ≤ i) : zsum (fun j => G (j : Int)) (i + 1).toNat = zsum (fun j => G (j : Int)) i.toNat + G i := by
  rw [zsum_s h]
  show zsum (fun j => G (j : Int)) i.toNat + G (i.toNat : Int) = _
  rw [Int.toNat_of_nonneg h]
/-- the sum of a mark's numbers; the first so many of them -/
def zss (M : zM) (a : Nat) (k : Int) (n : Nat) : Int := zsum (fun j => (fun i : Int => M (a + 7) (k * 4 + i).toNat) (j : Int)) n
theorem zss_b {M : zM} {a : Nat} {k : Int} (ht : zTb M a) (hk : 0 ≤ k ∧ k < 4) {n : Nat} (hn : n ≤ 4) : 0 ≤ zss M a k n ∧ zss M a k n ≤ 400 := by
  have h := zsum_b (F := fun j => (fun i : Int => M (a + 7) (k * 4 + i).toNat) (j : Int)) (l := 0) (u := 100) n (fun j hj => ht.2.1 _ (by omega))
  unfold zss
  omega
def zms (M : zM) (a : Nat) (n : Nat) : Int := zsum (fun j => (fun i : Int => M (a + 6) i.toNat) (j : Int)) n
theorem zms_b {M : zM} {a : Nat} (ht : zTb M a) {n : Nat} (hn : n ≤ 4) : 0 ≤ zms M a n ∧ zms M a n ≤ 64 := by
  have h := zsum_b (F := fun j => (fun i : Int => M (a + 6) i.toNat) (j : Int)) (l := 0) (u := 16) n (fun j hj => ht.1 _ (by omega))
  unfold zms
  omega
theorem zl_sensorSum_4 {xs : List Int32} {d : Nat} {w : Bool} {M : zM} {a : Nat} (ha : zSt a) {k : Int} (hk : 0 ≤ k ∧ k < 4) (ht : zTb M a)  : ∀ (zn : Nat) (s i : Int), (s = zss M a k i.toNat) → (0 ≤ i ∧ i ≤ 4) → 4 - i ≤ (zn : Int) → zG (xstep (xrun2 xs (d + 0)) xs 54) 54 (zn * 16 + 16) 4 [(0, .ref (a + 5)), (1, .int (Int32.ofInt k)), (2, .int (Int32.ofInt s)), (3, .int (Int32.ofInt i))] [] 0 0 w M (fun o σ => o = (.inl (some (.int (Int32.ofInt (zss M a k 4)))) : XO) ∧ σ = (w, zheap M)) := by
  intro zn
  induction zn with
  | zero =>
    intro s i hs hi hm
    exact zG_mono (N := 0 + 16) (by omega) (zz_iload_n (pc := 4) xf_54_4 (zmem 3 rfl) (zz_iconst (pc := 5) xf_54_5 (zz_icmp (pc := 6) xf_54_6 (by unfold zr32; omega) ⟨by decide, by decide⟩ (fun (zc1 : ¬ (i < (4))) => zz_iload_n (pc := 28) xf_54_28 (zmem 2 rfl) (zz_ireturn (pc := 29) xf_54_29 rfl (by decide +kernel) (by decide +kernel) (by exact ⟨zq_i (by rw [hs, show i = 4 by omega]; rfl), rfl⟩))) (fun zc20 => have zc2 : i < (4) := Classical.not_not.mp zc20; zz_iload_n (pc := 9) xf_54_9 (zmem 2 rfl) (zz_aload_n (pc := 10) xf_54_10 (zmem 0 rfl) (zz_getR (pc := 11) xf_54_11 (zst_5 ha) (by decide +kernel) rfl (zz_iload_n (pc := 14) xf_54_14 (zmem 1 rfl) (zz_iconst (pc := 15) xf_54_15 (zz_imul (pc := 16) xf_54_16 (zz_iload_n (pc := 17) xf_54_17 (zmem 3 rfl) (zz_iadd (pc := 18) xf_54_18 (zz_iald (pc := 19) xf_54_19 (zst_7 ha) (by omega) (zz_iadd (pc := 20) xf_54_20 (zz_istore_n (pc := 21) xf_54_21 (by decide +kernel) (zG_ro (ρ' := [(2, .int (Int32.ofInt (s + (M (a + 7) ((k * (4)) + i).toNat)))), (0, .ref (a + 5)), (1, .int (Int32.ofInt k)), (3, .int (Int32.ofInt i))]) rfl (zz_iinc (pc := 22) xf_54_22 (zmem 3 rfl) (by decide +kernel) (zG_ro (ρ' := [(3, .int (Int32.ofInt (i + 1))), (2, .int (Int32.ofInt (s + (M (a + 7) ((k * (4)) + i).toNat)))), (0, .ref (a + 5)), (1, .int (Int32.ofInt k))]) rfl (zz_goto (pc := 25) xf_54_25 ((by exfalso; omega))))))))))))))))))))
  | succ zn ih =>
    intro s i hs hi hm
    exact zG_mono (N := zn * 16 + 16 + 16) (by omega) (zz_iload_n (pc := 4) xf_54_4 (zmem 3 rfl) (zz_iconst (pc := 5) xf_54_5 (zz_icmp (pc := 6) xf_54_6 (by unfold zr32; omega) ⟨by decide, by decide⟩ (fun (zc1 : ¬ (i < (4))) => zz_iload_n (pc := 28) xf_54_28 (zmem 2 rfl) (zz_ireturn (pc := 29) xf_54_29 rfl (by decide +kernel) (by decide +kernel) (by exact ⟨zq_i (by rw [hs, show i = 4 by omega]; rfl), rfl⟩))) (fun zc20 => have zc2 : i < (4) := Classical.not_not.mp zc20; zz_iload_n (pc := 9) xf_54_9 (zmem 2 rfl) (zz_aload_n (pc := 10) xf_54_10 (zmem 0 rfl) (zz_getR (pc := 11) xf_54_11 (zst_5 ha) (by decide +kernel) rfl (zz_iload_n (pc := 14) xf_54_14 (zmem 1 rfl) (zz_iconst (pc := 15) xf_54_15 (zz_imul (pc := 16) xf_54_16 (zz_iload_n (pc := 17) xf_54_17 (zmem 3 rfl) (zz_iadd (pc := 18) xf_54_18 (zz_iald (pc := 19) xf_54_19 (zst_7 ha) (by omega) (zz_iadd (pc := 20) xf_54_20 (zz_istore_n (pc := 21) xf_54_21 (by decide +kernel) (zG_ro (ρ' := [(2, .int (Int32.ofInt (s + (M (a + 7) ((k * (4)) + i).toNat)))), (0, .ref (a + 5)), (1, .int (Int32.ofInt k)), (3, .int (Int32.ofInt i))]) rfl (zz_iinc (pc := 22) xf_54_22 (zmem 3 rfl) (by decide +kernel) (zG_ro (ρ' := [(3, .int (Int32.ofInt (i + 1))), (2, .int (Int32.ofInt (s + (M (a + 7) ((k * (4)) + i).toNat)))), (0, .ref (a + 5)), (1, .int (Int32.ofInt k))]) rfl (zz_goto (pc := 25) xf_54_25 (zG_mono (N := zn * 16 + 16) (by omega) (zG_sub (List.forall_mem_cons.mpr ⟨zmem 2 rfl, (List.forall_mem_cons.mpr ⟨zmem 3 rfl, (List.forall_mem_cons.mpr ⟨zmem 1 rfl, (List.forall_mem_cons.mpr ⟨zmem 0 rfl, (fun p hp => absurd hp List.not_mem_nil)⟩)⟩)⟩)⟩) (ih (s + (M (a + 7) ((k * (4)) + i).toNat)) (i + 1)  (by rw [hs]; exact (zsumI_s (G := fun i : Int => M (a + 7) (k * 4 + i).toNat) hi.1).symm) (by omega) (by omega))))))))))))))))))))))
theorem sp_sensorSum {xs : List Int32} {d : Nat} {w : Bool} {M : zM} {a : Nat} (ha : zSt a) {k : Int} (hk : 0 ≤ k ∧ k < 4) (ht : zTb M a) : xrun2 xs (d + 1) 54 [.ref (a + 5), .int (Int32.ofInt k)] (w, zheap M) = some (.inl (some (.int (Int32.ofInt (zss M a k 4)))), (w, zheap M)) := by
  exact zrun_v (N := 84) (by decide) rfl (zz_iconst (pc := 0) xf_54_0 (zz_istore_n (pc := 1) xf_54_1 (by decide +kernel) (zG_ro (ρ' := [(2, .int (Int32.ofInt (0))), (0, .ref (a + 5)), (1, .int (Int32.ofInt k))]) rfl (zz_iconst (pc := 2) xf_54_2 (zz_istore_n (pc := 3) xf_54_3 (by decide +kernel) (zG_ro (ρ' := [(3, .int (Int32.ofInt (0))), (2, .int (Int32.ofInt (0))), (0, .ref (a + 5)), (1, .int (Int32.ofInt k))]) rfl (zG_mono (N := 80) (by omega) (zG_sub (List.forall_mem_cons.mpr ⟨zmem 2 rfl, (List.forall_mem_cons.mpr ⟨zmem 3 rfl, (List.forall_mem_cons.mpr ⟨zmem 1 rfl, (List.forall_mem_cons.mpr ⟨zmem 0 rfl, (fun p hp => absurd hp List.not_mem_nil)⟩)⟩)⟩)⟩) (zl_sensorSum_4 ha hk ht 4 _ _ rfl (by omega) (by omega))))))))))
/-- which of the four cases of a move a drawn number means; which mark is seen -/
noncomputable def zway (M : zM) (a : Nat) (r : Int) : Int := zfirst (fun j => r < zms M a (j + 1)) 3 0 3
noncomputable def zseen (M : zM) (a : Nat) (k r : Int) : Int := zfirst (fun j => r < zss M a k (j + 1)) k 0 4
theorem zl_wayBelow_4 {xs : List Int32} {d : Nat} {w : Bool} {M : zM} {a : Nat} (ha : zSt a) {r : Int} (hr : zr32 r) (ht : zTb M a)  : ∀ (zn : Nat) (s i : Int), (s = zms M a i.toNat) → (zway M a r = zfirst (fun j => r < zms M a (j + 1)) 3 i.toNat (3 - i).toNat) → (0 ≤ i ∧ i ≤ 3) → 3 - i ≤ (zn : Int) → zG (xstep (xrun2 xs (d + 0)) xs 53) 53 (zn * 15 + 15) 4 [(0, .ref (a + 5)), (1, .int (Int32.ofInt r)), (2, .int (Int32.ofInt s)), (3, .int (Int32.ofInt i))] [] 0 0 w M (fun o σ => o = (.inl (some (.int (Int32.ofInt (zway M a r)))) : XO) ∧ σ = (w, zheap M)) := by
  intro zn
  induction zn with
  | zero =>
    intro s i hs hv hi hm
    have hs2 : i < 3 → s + M (a + 6) i.toNat = zms M a (i.toNat + 1) := fun _ => by rw [hs, ← show (i + 1).toNat = i.toNat + 1 by omega]; exact (zsumI_s (G := fun i : Int => M (a + 6) i.toNat) hi.1).symm
    have b2 : i < 3 → 0 ≤ zms M a (i.toNat + 1) ∧ zms M a (i.toNat + 1) ≤ 64 := fun _ => zms_b ht (by omega)
    exact zG_mono (N := 0 + 15) (by omega) (zz_iload_n (pc := 4) xf_53_4 (zmem 3 rfl) (zz_iconst (pc := 5) xf_53_5 (zz_icmp (pc := 6) xf_53_6 (by unfold zr32; omega) ⟨by decide, by decide⟩ (fun (zc1 : ¬ (i < (3))) => zz_iconst (pc := 31) xf_53_31 (zz_ireturn (pc := 32) xf_53_32 rfl (by decide +kernel) (by decide +kernel) (by first | exact ⟨zq_i (by rw [hv]; exact (zfirst_t hi.1 (by omega) (show r < zms M a (i.toNat + 1) by omega)).symm), rfl⟩ | exact ⟨zq_i (by rw [hv]; exact (zfirst_0 (by omega)).symm), rfl⟩))) (fun zc20 => have zc2 : i < (3) := Classical.not_not.mp zc20; zz_iload_n (pc := 9) xf_53_9 (zmem 2 rfl) (zz_aload_n (pc := 10) xf_53_10 (zmem 0 rfl) (zz_getR (pc := 11) xf_53_11 (zst_5 ha) (by decide +kernel) rfl (zz_iload_n (pc := 14) xf_53_14 (zmem 3 rfl) (zz_iald (pc := 15) xf_53_15 (zst_6 ha) (by omega) (zz_iadd (pc := 16) xf_53_16 (zz_istore_n (pc := 17) xf_53_17 (by decide +kernel) (zG_ro (ρ' := [(2, .int (Int32.ofInt (s + (M (a + 6) i.toNat)))), (0, .ref (a + 5)), (1, .int (Int32.ofInt r)), (3, .int (Int32.ofInt i))]) rfl (zz_iload_n (pc := 18) xf_53_18 (zmem 0 rfl) (zz_iload_n (pc := 19) xf_53_19 (zmem 2 rfl) (zz_icmp (pc := 20) xf_53_20 (by unfold zr32; omega) hr (fun (zc3 : ¬ (r < (s + (M (a + 6) i.toNat)))) => zz_iinc (pc := 25) xf_53_25 (zmem 3 rfl) (by decide +kernel) (zG_ro (ρ' := [(3, .int (Int32.ofInt (i + 1))), (2, .int (Int32.ofInt (s + (M (a + 6) i.toNat)))), (0, .ref (a + 5)), (1, .int (Int32.ofInt r))]) rfl (zz_goto (pc := 28) xf_53_28 ((by exfalso; omega))))) (fun zc40 => have zc4 : r < (s + (M (a + 6) i.toNat)) := Classical.not_not.mp zc40; zz_iload_n (pc := 23) xf_53_23 (zmem 3 rfl) (zz_ireturn (pc := 24) xf_53_24 rfl (by decide +kernel) (by decide +kernel) (by first | exact ⟨zq_i (by rw [hv]; exact (zfirst_t hi.1 (by omega) (show r < zms M a (i.toNat + 1) by omega)).symm), rfl⟩ | exact ⟨zq_i (by rw [hv]; exact (zfirst_0 (by omega)).symm), rfl⟩)))))))))))))))))
  | succ zn ih =>
    intro s i hs hv hi hm
    have hs2 : i < 3 → s + M (a + 6) i.toNat = zms M a (i.toNat + 1) := fun _ => by rw [hs, ← show (i + 1).toNat = i.toNat + 1 by omega]; exact (zsumI_s (G := fun i : Int => M (a + 6) i.toNat) hi.1).symm
    have b2 : i < 3 → 0 ≤ zms M a (i.toNat + 1) ∧ zms M a (i.toNat + 1) ≤ 64 := fun _ => zms_b ht (by omega)
    exact zG_mono (N := zn * 15 + 15 + 15) (by omega) (zz_iload_n (pc := 4) xf_53_4 (zmem 3 rfl) (zz_iconst (pc := 5) xf_53_5 (zz_icmp (pc := 6) xf_53_6 (by unfold zr32; omega) ⟨by decide, by decide⟩ (fun (zc1 : ¬ (i < (3))) => zz_iconst (pc := 31) xf_53_31 (zz_ireturn (pc := 32) xf_53_32 rfl (by decide +kernel) (by decide +kernel) (by first | exact ⟨zq_i (by rw [hv]; exact (zfirst_t hi.1 (by omega) (show r < zms M a (i.toNat + 1) by omega)).symm), rfl⟩ | exact ⟨zq_i (by rw [hv]; exact (zfirst_0 (by omega)).symm), rfl⟩))) (fun zc20 => have zc2 : i < (3) := Classical.not_not.mp zc20; zz_iload_n (pc := 9) xf_53_9 (zmem 2 rfl) (zz_aload_n (pc := 10) xf_53_10 (zmem 0 rfl) (zz_getR (pc := 11) xf_53_11 (zst_5 ha) (by decide +kernel) rfl (zz_iload_n (pc := 14) xf_53_14 (zmem 3 rfl) (zz_iald (pc := 15) xf_53_15 (zst_6 ha) (by omega) (zz_iadd (pc := 16) xf_53_16 (zz_istore_n (pc := 17) xf_53_17 (by decide +kernel) (zG_ro (ρ' := [(2, .int (Int32.ofInt (s + (M (a + 6) i.toNat)))), (0, .ref (a + 5)), (1, .int (Int32.ofInt r)), (3, .int (Int32.ofInt i))]) rfl (zz_iload_n (pc := 18) xf_53_18 (zmem 0 rfl) (zz_iload_n (pc := 19) xf_53_19 (zmem 2 rfl) (zz_icmp (pc := 20) xf_53_20 (by unfold zr32; omega) hr (fun (zc3 : ¬ (r < (s + (M (a + 6) i.toNat)))) => zz_iinc (pc := 25) xf_53_25 (zmem 3 rfl) (by decide +kernel) (zG_ro (ρ' := [(3, .int (Int32.ofInt (i + 1))), (2, .int (Int32.ofInt (s + (M (a + 6) i.toNat)))), (0, .ref (a + 5)), (1, .int (Int32.ofInt r))]) rfl (zz_goto (pc := 28) xf_53_28 (zG_mono (N := zn * 15 + 15) (by omega) (zG_sub (List.forall_mem_cons.mpr ⟨zmem 2 rfl, (List.forall_mem_cons.mpr ⟨zmem 3 rfl, (List.forall_mem_cons.mpr ⟨zmem 1 rfl, (List.forall_mem_cons.mpr ⟨zmem 0 rfl, (fun p hp => absurd hp List.not_mem_nil)⟩)⟩)⟩)⟩) (ih (s + (M (a + 6) i.toNat)) (i + 1)  (by rw [hs2 (by omega), show (i + 1).toNat = i.toNat + 1 by omega]) (by rw [hv]; exact zfirst_f hi.1 (by omega) (show ¬ r < zms M a (i.toNat + 1) by omega)) (by omega) (by omega))))))) (fun zc40 => have zc4 : r < (s + (M (a + 6) i.toNat)) := Classical.not_not.mp zc40; zz_iload_n (pc := 23) xf_53_23 (zmem 3 rfl) (zz_ireturn (pc := 24) xf_53_24 rfl (by decide +kernel) (by decide +kernel) (by first | exact ⟨zq_i (by rw [hv]; exact (zfirst_t hi.1 (by omega) (show r < zms M a (i.toNat + 1) by omega)).symm), rfl⟩ | exact ⟨zq_i (by rw [hv]; exact (zfirst_0 (by omega)).symm), rfl⟩)))))))))))))))))
theorem sp_wayBelow {xs : List Int32} {d : Nat} {w : Bool} {M : zM} {a : Nat} (ha : zSt a) {r : Int} (hr : zr32 r) (ht : zTb M a) : xrun2 xs (d + 1) 53 [.ref (a + 5), .int (Int32.ofInt r)] (w, zheap M) = some (.inl (some (.int (Int32.ofInt (zway M a r)))), (w, zheap M)) := by
  exact zrun_v (N := 64) (by decide) rfl (zz_iconst (pc := 0) xf_53_0 (zz_istore_n (pc := 1) xf_53_1 (by decide +kernel) (zG_ro (ρ' := [(2, .int (Int32.ofInt (0))), (0, .ref (a + 5)), (1, .int (Int32.ofInt r))]) rfl (zz_iconst (pc := 2) xf_53_2 (zz_istore_n (pc := 3) xf_53_3 (by decide +kernel) (zG_ro (ρ' := [(3, .int (Int32.ofInt (0))), (2, .int (Int32.ofInt (0))), (0, .ref (a + 5)), (1, .int (Int32.ofInt r))]) rfl (zG_mono (N := 60) (by omega) (zG_sub (List.forall_mem_cons.mpr ⟨zmem 2 rfl, (List.forall_mem_cons.mpr ⟨zmem 3 rfl, (List.forall_mem_cons.mpr ⟨zmem 1 rfl, (List.forall_mem_cons.mpr ⟨zmem 0 rfl, (fun p hp => absurd hp List.not_mem_nil)⟩)⟩)⟩)⟩) (zl_wayBelow_4 ha hr ht 3 _ _ rfl rfl (by omega) (by omega))))))))))
theorem zl_seenBelow_5 {xs : List Int32} {d : Nat} {w : Bool} {M : zM} {a : Nat} (ha : zSt a) {k r : Int} (hk : 0 ≤ k ∧ k < 4) (hr : zr32 r) (ht : zTb M a)  : ∀ (zn : Nat) (s i : Int), (s = zss M a k i.toNat) → (zseen M a k r = zfirst (fun j => r < zss M a k (j + 1)) k i.toNat (4 - i).toNat) → (0 ≤ i ∧ i ≤ 4) → 4 - i ≤ (zn : Int) → zG (xstep (xrun2 xs (d + 0)) xs 55) 55 (zn * 19 + 19) 5 [(0, .ref (a + 5)), (1, .int (Int32.ofInt k)), (2, .int (Int32.ofInt r)), (3, .int (Int32.ofInt s)), (4, .int (Int32.ofInt i))] [] 0 0 w M (fun o σ => o = (.inl (some (.int (Int32.ofInt (zseen M a k r)))) : XO) ∧ σ = (w, zheap M)) := by
  intro zn
  induction zn with
  | zero =>
    intro s i hs hv hi hm
    have hs2 : i < 4 → s + M (a + 7) (k * 4 + i).toNat = zss M a k (i.toNat + 1) := fun _ => by rw [hs, ← show (i + 1).toNat = i.toNat + 1 by omega]; exact (zsumI_s (G := fun i : Int => M (a + 7) (k * 4 + i).toNat) hi.1).symm
    have b2 : i < 4 → 0 ≤ zss M a k (i.toNat + 1) ∧ zss M a k (i.toNat + 1) ≤ 400 := fun _ => zss_b ht hk (by omega)
    exact zG_mono (N := 0 + 19) (by omega) (zz_iload (pc := 5) xf_55_5 (zmem 4 rfl) (zz_iconst (pc := 7) xf_55_7 (zz_icmp (pc := 8) xf_55_8 (by unfold zr32; omega) ⟨by decide, by decide⟩ (fun (zc1 : ¬ (i < (4))) => zz_iload_n (pc := 39) xf_55_39 (zmem 1 rfl) (zz_ireturn (pc := 40) xf_55_40 rfl (by decide +kernel) (by decide +kernel) (by first | exact ⟨zq_i (by rw [hv]; exact (zfirst_t hi.1 (by omega) (show r < zss M a k (i.toNat + 1) by omega)).symm), rfl⟩ | exact ⟨zq_i (by rw [hv]; exact (zfirst_0 (by omega)).symm), rfl⟩))) (fun zc20 => have zc2 : i < (4) := Classical.not_not.mp zc20; zz_iload_n (pc := 11) xf_55_11 (zmem 3 rfl) (zz_aload_n (pc := 12) xf_55_12 (zmem 0 rfl) (zz_getR (pc := 13) xf_55_13 (zst_5 ha) (by decide +kernel) rfl (zz_iload_n (pc := 16) xf_55_16 (zmem 1 rfl) (zz_iconst (pc := 17) xf_55_17 (zz_imul (pc := 18) xf_55_18 (zz_iload (pc := 19) xf_55_19 (zmem 4 rfl) (zz_iadd (pc := 21) xf_55_21 (zz_iald (pc := 22) xf_55_22 (zst_7 ha) (by omega) (zz_iadd (pc := 23) xf_55_23 (zz_istore_n (pc := 24) xf_55_24 (by decide +kernel) (zG_ro (ρ' := [(3, .int (Int32.ofInt (s + (M (a + 7) ((k * (4)) + i).toNat)))), (0, .ref (a + 5)), (1, .int (Int32.ofInt k)), (2, .int (Int32.ofInt r)), (4, .int (Int32.ofInt i))]) rfl (zz_iload_n (pc := 25) xf_55_25 (zmem 0 rfl) (zz_iload_n (pc := 26) xf_55_26 (zmem 3 rfl) (zz_icmp (pc := 27) xf_55_27 (by unfold zr32; omega) hr (fun (zc3 : ¬ (r < (s + (M (a + 7) ((k * (4)) + i).toNat)))) => zz_iinc (pc := 33) xf_55_33 (zmem 4 rfl) (by decide +kernel) (zG_ro (ρ' := [(4, .int (Int32.ofInt (i + 1))), (3, .int (Int32.ofInt (s + (M (a + 7) ((k * (4)) + i).toNat)))), (0, .ref (a + 5)), (1, .int (Int32.ofInt k)), (2, .int (Int32.ofInt r))]) rfl (zz_goto (pc := 36) xf_55_36 ((by exfalso; omega))))) (fun zc40 => have zc4 : r < (s + (M (a + 7) ((k * (4)) + i).toNat)) := Classical.not_not.mp zc40; zz_iload (pc := 30) xf_55_30 (zmem 4 rfl) (zz_ireturn (pc := 32) xf_55_32 rfl (by decide +kernel) (by decide +kernel) (by first | exact ⟨zq_i (by rw [hv]; exact (zfirst_t hi.1 (by omega) (show r < zss M a k (i.toNat + 1) by omega)).symm), rfl⟩ | exact ⟨zq_i (by rw [hv]; exact (zfirst_0 (by omega)).symm), rfl⟩)))))))))))))))))))))
  | succ zn ih =>
    intro s i hs hv hi hm
    have hs2 : i < 4 → s + M (a + 7) (k * 4 + i).toNat = zss M a k (i.toNat + 1) := fun _ => by rw [hs, ← show (i + 1).toNat = i.toNat + 1 by omega]; exact (zsumI_s (G := fun i : Int => M (a + 7) (k * 4 + i).toNat) hi.1).symm
    have b2 : i < 4 → 0 ≤ zss M a k (i.toNat + 1) ∧ zss M a k (i.toNat + 1) ≤ 400 := fun _ => zss_b ht hk (by omega)
    exact zG_mono (N := zn * 19 + 19 + 19) (by omega) (zz_iload (pc := 5) xf_55_5 (zmem 4 rfl) (zz_iconst (pc := 7) xf_55_7 (zz_icmp (pc := 8) xf_55_8 (by unfold zr32; omega) ⟨by decide, by decide⟩ (fun (zc1 : ¬ (i < (4))) => zz_iload_n (pc := 39) xf_55_39 (zmem 1 rfl) (zz_ireturn (pc := 40) xf_55_40 rfl (by decide +kernel) (by decide +kernel) (by first | exact ⟨zq_i (by rw [hv]; exact (zfirst_t hi.1 (by omega) (show r < zss M a k (i.toNat + 1) by omega)).symm), rfl⟩ | exact ⟨zq_i (by rw [hv]; exact (zfirst_0 (by omega)).symm), rfl⟩))) (fun zc20 => have zc2 : i < (4) := Classical.not_not.mp zc20; zz_iload_n (pc := 11) xf_55_11 (zmem 3 rfl) (zz_aload_n (pc := 12) xf_55_12 (zmem 0 rfl) (zz_getR (pc := 13) xf_55_13 (zst_5 ha) (by decide +kernel) rfl (zz_iload_n (pc := 16) xf_55_16 (zmem 1 rfl) (zz_iconst (pc := 17) xf_55_17 (zz_imul (pc := 18) xf_55_18 (zz_iload (pc := 19) xf_55_19 (zmem 4 rfl) (zz_iadd (pc := 21) xf_55_21 (zz_iald (pc := 22) xf_55_22 (zst_7 ha) (by omega) (zz_iadd (pc := 23) xf_55_23 (zz_istore_n (pc := 24) xf_55_24 (by decide +kernel) (zG_ro (ρ' := [(3, .int (Int32.ofInt (s + (M (a + 7) ((k * (4)) + i).toNat)))), (0, .ref (a + 5)), (1, .int (Int32.ofInt k)), (2, .int (Int32.ofInt r)), (4, .int (Int32.ofInt i))]) rfl (zz_iload_n (pc := 25) xf_55_25 (zmem 0 rfl) (zz_iload_n (pc := 26) xf_55_26 (zmem 3 rfl) (zz_icmp (pc := 27) xf_55_27 (by unfold zr32; omega) hr (fun (zc3 : ¬ (r < (s + (M (a + 7) ((k * (4)) + i).toNat)))) => zz_iinc (pc := 33) xf_55_33 (zmem 4 rfl) (by decide +kernel) (zG_ro (ρ' := [(4, .int (Int32.ofInt (i + 1))), (3, .int (Int32.ofInt (s + (M (a + 7) ((k * (4)) + i).toNat)))), (0, .ref (a + 5)), (1, .int (Int32.ofInt k)), (2, .int (Int32.ofInt r))]) rfl (zz_goto (pc := 36) xf_55_36 (zG_mono (N := zn * 19 + 19) (by omega) (zG_sub (List.forall_mem_cons.mpr ⟨zmem 2 rfl, (List.forall_mem_cons.mpr ⟨zmem 3 rfl, (List.forall_mem_cons.mpr ⟨zmem 4 rfl, (List.forall_mem_cons.mpr ⟨zmem 1 rfl, (List.forall_mem_cons.mpr ⟨zmem 0 rfl, (fun p hp => absurd hp List.not_mem_nil)⟩)⟩)⟩)⟩)⟩) (ih (s + (M (a + 7) ((k * (4)) + i).toNat)) (i + 1)  (by rw [hs2 (by omega), show (i + 1).toNat = i.toNat + 1 by omega]) (by rw [hv]; exact zfirst_f hi.1 (by omega) (show ¬ r < zss M a k (i.toNat + 1) by omega)) (by omega) (by omega))))))) (fun zc40 => have zc4 : r < (s + (M (a + 7) ((k * (4)) + i).toNat)) := Classical.not_not.mp zc40; zz_iload (pc := 30) xf_55_30 (zmem 4 rfl) (zz_ireturn (pc := 32) xf_55_32 rfl (by decide +kernel) (by decide +kernel) (by first | exact ⟨zq_i (by rw [hv]; exact (zfirst_t hi.1 (by omega) (show r < zss M a k (i.toNat + 1) by omega)).symm), rfl⟩ | exact ⟨zq_i (by rw [hv]; exact (zfirst_0 (by omega)).symm), rfl⟩)))))))))))))))))))))
theorem sp_seenBelow {xs : List Int32} {d : Nat} {w : Bool} {M : zM} {a : Nat} (ha : zSt a) {k r : Int} (hk : 0 ≤ k ∧ k < 4) (hr : zr32 r) (ht : zTb M a) : xrun2 xs (d + 1) 55 [.ref (a + 5), .int (Int32.ofInt k), .int (Int32.ofInt r)] (w, zheap M) = some (.inl (some (.int (Int32.ofInt (zseen M a k r)))), (w, zheap M)) := by
  exact zrun_v (N := 99) (by decide) rfl (zz_iconst (pc := 0) xf_55_0 (zz_istore_n (pc := 1) xf_55_1 (by decide +kernel) (zG_ro (ρ' := [(3, .int (Int32.ofInt (0))), (0, .ref (a + 5)), (1, .int (Int32.ofInt k)), (2, .int (Int32.ofInt r))]) rfl (zz_iconst (pc := 2) xf_55_2 (zz_istore (pc := 3) xf_55_3 (by decide +kernel) (zG_ro (ρ' := [(4, .int (Int32.ofInt (0))), (3, .int (Int32.ofInt (0))), (0, .ref (a + 5)), (1, .int (Int32.ofInt k)), (2, .int (Int32.ofInt r))]) rfl (zG_mono (N := 95) (by omega) (zG_sub (List.forall_mem_cons.mpr ⟨zmem 2 rfl, (List.forall_mem_cons.mpr ⟨zmem 3 rfl, (List.forall_mem_cons.mpr ⟨zmem 4 rfl, (List.forall_mem_cons.mpr ⟨zmem 1 rfl, (List.forall_mem_cons.mpr ⟨zmem 0 rfl, (fun p hp => absurd hp List.not_mem_nil)⟩)⟩)⟩)⟩)⟩) (zl_seenBelow_5 ha hk hr ht 4 _ _ rfl rfl (by omega) (by omega))))))))))
end
noncomputable section
/-! Rows; how weights are scaled. -/
abbrev zF : Type := Nat → Int
def zrup (F : zF) (j : Nat) (x : Int) : zF := fun i => if i = j then x else F i
/-- the place of the greatest of the first n + 1, of several the first -/
def zbestf (F : zF) : Nat → Nat
  | 0 => 0
  | n + 1 => if F (zbestf F n) < F (n + 1) then n + 1 else zbestf F n
theorem zbestf_le (F : zF) : ∀ n, zbestf F n ≤ n
  | 0 => Nat.le_refl 0
  | n + 1 => by
    have h := zbestf_le F n
    unfold zbestf
    split <;> omega
def zbest (F : zF) (n : Nat) : Nat := zbestf F (n - 1)
theorem zbest_lt (F : zF) {n : Nat} (h : 0 < n) : zbest F n < n := by
  have := zbestf_le F (n - 1)
  unfold zbest
  omega
theorem zbestf_i {F : zF} {i : Int} (h : 1 ≤ i) : zbestf F i.toNat = if F (zbestf F (i - 1).toNat) < F i.toNat then i.toNat else zbestf F (i - 1).toNat := by
  rw [show i.toNat = (i - 1).toNat + 1 by omega]
  rfl
/-- so many more are given to the greatest rests -/
def zadd (n : Nat) : Nat → zF × zF → zF × zF
  | 0, p => p
  | k + 1, p => zadd n k (zrup p.1 (zbest p.2 n) (p.1 (zbest p.2 n) + 1), zrup p.2 (zbest p.2 n) (-1))
/-- a weight's share, and what is left -/
def zshare (W : zF) (n : Nat) : zF := fun j => W j * 1000000 / zsum W n
def zleft (W : zF) (n : Nat) : zF := fun j => W j * 1000000 % zsum W n
/-- how many are still to be given -/
def zlack (W : zF) (n : Nat) : Nat := (1000000 - zsum (zshare W n) n).toNat
def zscale (W : zF) (n : Nat) : zF := (zadd n (zlack W n) (zshare W n, zleft W n)).1
theorem zsum_mul (F : zF) (c : Int) : ∀ n, zsum (fun j => F j * c) n = zsum F n * c
  | 0 => (Int.zero_mul c).symm
  | n + 1 => by
    show zsum (fun j => F j * c) n + F n * c = (zsum F n + F n) * c
    rw [zsum_mul F c n, Int.add_mul]
theorem zsum_add (F K : zF) : ∀ n, zsum (fun j => F j + K j) n = zsum F n + zsum K n
  | 0 => rfl
  | n + 1 => by
    show zsum (fun j => F j + K j) n + (F n + K n) = zsum F n + F n + (zsum K n + K n)
    rw [zsum_add F K n]
    omega
theorem zsum_c {F K : zF} : ∀ n, (∀ j, j < n → F j = K j) → zsum F n = zsum K n
  | 0, _ => rfl
  | n + 1, h => by
    show zsum F n + F n = zsum K n + K n
    rw [zsum_c n (fun j hj => h j (by omega)), h n (by omega)]
theorem zsum_nn {F : zF} : ∀ n, (∀ j, j < n → 0 ≤ F j) → 0 ≤ zsum F n
  | 0, _ => Int.le_refl 0
  | n + 1, h => by
    have h1 := zsum_nn n (fun j hj => h j (by omega))
    have h2 := h n (by omega)
    show 0 ≤ zsum F n + F n
    omega
theorem zsum_ge {F : zF} : ∀ n, (∀ j, j < n → 0 ≤ F j) → ∀ j, j < n → F j ≤ zsum F n
  | 0, _, j, hj => absurd hj (Nat.not_lt_zero j)
  | n + 1, h, j, hj => by
    have h1 := zsum_nn n (fun j hj => h j (by omega))
    have h2 := h n (by omega)
    show F j ≤ zsum F n + F n
    by_cases e : j = n
    · subst e; omega
    · have := zsum_ge n (fun j hj => h j (by omega)) j (by omega)
      omega
/-- the shares' sum: at most a million, less than n below it -/
theorem zshare_sum {W : zF} {n : Nat} (hW : ∀ j, j < n → 0 ≤ W j) (hs : 0 < zsum W n) : zsum (zshare W n) n ≤ 1000000 ∧ 1000000 < zsum (zshare W n) n + n ∨ n = 0 := by
  by_cases hn : n = 0
  · exact Or.inr hn
  · refine Or.inl ?_
    have h1 : zsum (fun j => W j * 1000000) n = zsum W n * 1000000 := zsum_mul W 1000000 n
    have h2 : zsum (fun j => W j * 1000000) n = zsum (fun j => zshare W n j * zsum W n + zleft W n j) n := zsum_c n (fun j _ => by
      show W j * 1000000 = W j * 1000000 / zsum W n * zsum W n + W j * 1000000 % zsum W n
      have := Int.mul_ediv_add_emod (W j * 1000000) (zsum W n)
      have h := Int.mul_comm (zsum W n) (W j * 1000000 / zsum W n)
      omega)
    rw [h1, zsum_add, zsum_mul] at h2
    have h3 : 0 ≤ zsum (zleft W n) n := zsum_nn n (fun j _ => Int.emod_nonneg _ (by omega))
    have h4 : zsum (zleft W n) n ≤ (zsum W n - 1) * n := (zsum_b (l := 0) n (fun j _ => ⟨Int.emod_nonneg _ (by omega), by have := Int.emod_lt_of_pos (W j * 1000000) hs; show W j * 1000000 % zsum W n ≤ _; omega⟩)).2
    generalize zsum W n = S at *
    generalize zsum (zshare W n) n = T at *
    generalize zsum (zleft W n) n = U at *
    constructor
    · by_cases h : T ≤ 1000000
      · exact h
      · exfalso
        have h5 : (1000001 : Int) * S ≤ T * S := Int.mul_le_mul_of_nonneg_right (by omega) (by omega)
        omega
    · by_cases h : 1000000 < T + n
      · exact h
      · exfalso
        have h5 : (T + n) * S ≤ 1000000 * S := Int.mul_le_mul_of_nonneg_right (by omega) (by omega)
        rw [Int.add_mul] at h5
        have h6 : (S - 1) * (n : Int) = S * n - n := by rw [Int.sub_mul, Int.one_mul]
        have h7 : (n : Int) * S = S * n := Int.mul_comm _ _
        omega
theorem zl_greatestRemainder_4 {xs : List Int32} {d : Nat} {w : Bool} {M : zM} {n : Int} (hn : 1 ≤ n ∧ n ≤ 36) (hr : ∀ j : Nat, (j : Int) < n → zr64 (M 103 j))  : ∀ (zn : Nat) (b i : Int), (b = ((zbestf (M 103) (i - 1).toNat : Nat) : Int)) → (1 ≤ i ∧ i ≤ n) → n - i ≤ (zn : Int) → zG (xstep (xrun2 xs (d + 0)) xs 12) 12 (zn * 17 + 17) 4 [(0, .ref 101), (1, .int (Int32.ofInt n)), (2, .int (Int32.ofInt b)), (3, .int (Int32.ofInt i))] [] 0 0 w M (fun o σ => o = (.inl (some (.int (Int32.ofInt ((zbest (M 103) n.toNat : Nat) : Int)))) : XO) ∧ σ = (w, zheap M)) := by
  intro zn
  induction zn with
  | zero =>
    intro b i hb hi hm
    have hbl := zbestf_le (M 103) (i - 1).toNat
    exact zG_mono (N := 0 + 17) (by omega) (zz_iload_n (pc := 4) xf_12_4 (zmem 3 rfl) (zz_iload_n (pc := 5) xf_12_5 (zmem 1 rfl) (zz_icmp (pc := 6) xf_12_6 (by unfold zr32; omega) (by unfold zr32; omega) (fun (zc1 : ¬ (i < n)) => zz_iload_n (pc := 33) xf_12_33 (zmem 2 rfl) (zz_ireturn (pc := 34) xf_12_34 rfl (by decide +kernel) (by decide +kernel) (by exact ⟨zq_i (by rw [hb]; unfold zbest; rw [show (i - 1).toNat = n.toNat - 1 by omega]), rfl⟩))) (fun zc20 => have zc2 : i < n := Classical.not_not.mp zc20; zz_aload_n (pc := 9) xf_12_9 (zmem 0 rfl) (zz_getR (pc := 10) xf_12_10 zis_101 (by decide +kernel) rfl (zz_iload_n (pc := 13) xf_12_13 (zmem 3 rfl) (zz_lald (pc := 14) xf_12_14 zis_103 (by omega) (zz_aload_n (pc := 15) xf_12_15 (zmem 0 rfl) (zz_getR (pc := 16) xf_12_16 zis_101 (by decide +kernel) rfl (zz_iload_n (pc := 19) xf_12_19 (zmem 2 rfl) (zz_lald (pc := 20) xf_12_20 zis_103 (by omega) (zz_lcmp (pc := 21) xf_12_21 xf_12_22 (hr _ (by omega)) (hr _ (by omega)) (fun (zc3 : ¬ ((M 103 b.toNat) < (M 103 i.toNat))) => zz_iinc (pc := 27) xf_12_27 (zmem 3 rfl) (by decide +kernel) (zG_ro (ρ' := [(3, .int (Int32.ofInt (i + 1))), (0, .ref 101), (1, .int (Int32.ofInt n)), (2, .int (Int32.ofInt b))]) rfl (zz_goto (pc := 30) xf_12_30 ((by exfalso; omega))))) (fun zc40 => have zc4 : (M 103 b.toNat) < (M 103 i.toNat) := Classical.not_not.mp zc40; zz_iload_n (pc := 25) xf_12_25 (zmem 3 rfl) (zz_istore_n (pc := 26) xf_12_26 (by decide +kernel) (zG_ro (ρ' := [(2, .int (Int32.ofInt i)), (0, .ref 101), (1, .int (Int32.ofInt n)), (3, .int (Int32.ofInt i))]) rfl (zz_iinc (pc := 27) xf_12_27 (zmem 3 rfl) (by decide +kernel) (zG_ro (ρ' := [(3, .int (Int32.ofInt (i + 1))), (2, .int (Int32.ofInt i)), (0, .ref 101), (1, .int (Int32.ofInt n))]) rfl (zz_goto (pc := 30) xf_12_30 ((by exfalso; omega))))))))))))))))))))
  | succ zn ih =>
    intro b i hb hi hm
    have hbl := zbestf_le (M 103) (i - 1).toNat
    exact zG_mono (N := zn * 17 + 17 + 0 + 17) (by omega) (zz_iload_n (pc := 4) xf_12_4 (zmem 3 rfl) (zz_iload_n (pc := 5) xf_12_5 (zmem 1 rfl) (zz_icmp (pc := 6) xf_12_6 (by unfold zr32; omega) (by unfold zr32; omega) (fun (zc1 : ¬ (i < n)) => zz_iload_n (pc := 33) xf_12_33 (zmem 2 rfl) (zz_ireturn (pc := 34) xf_12_34 rfl (by decide +kernel) (by decide +kernel) (by exact ⟨zq_i (by rw [hb]; unfold zbest; rw [show (i - 1).toNat = n.toNat - 1 by omega]), rfl⟩))) (fun zc20 => have zc2 : i < n := Classical.not_not.mp zc20; zz_aload_n (pc := 9) xf_12_9 (zmem 0 rfl) (zz_getR (pc := 10) xf_12_10 zis_101 (by decide +kernel) rfl (zz_iload_n (pc := 13) xf_12_13 (zmem 3 rfl) (zz_lald (pc := 14) xf_12_14 zis_103 (by omega) (zz_aload_n (pc := 15) xf_12_15 (zmem 0 rfl) (zz_getR (pc := 16) xf_12_16 zis_101 (by decide +kernel) rfl (zz_iload_n (pc := 19) xf_12_19 (zmem 2 rfl) (zz_lald (pc := 20) xf_12_20 zis_103 (by omega) (zz_lcmp (pc := 21) xf_12_21 xf_12_22 (hr _ (by omega)) (hr _ (by omega)) (fun (zc3 : ¬ ((M 103 b.toNat) < (M 103 i.toNat))) => zz_iinc (pc := 27) xf_12_27 (zmem 3 rfl) (by decide +kernel) (zG_ro (ρ' := [(3, .int (Int32.ofInt (i + 1))), (0, .ref 101), (1, .int (Int32.ofInt n)), (2, .int (Int32.ofInt b))]) rfl (zz_goto (pc := 30) xf_12_30 (zG_mono (N := zn * 17 + 17) (by omega) (zG_sub (List.forall_mem_cons.mpr ⟨zmem 1 rfl, (List.forall_mem_cons.mpr ⟨zmem 2 rfl, (List.forall_mem_cons.mpr ⟨zmem 3 rfl, (List.forall_mem_cons.mpr ⟨zmem 0 rfl, (fun p hp => absurd hp List.not_mem_nil)⟩)⟩)⟩)⟩) (ih b (i + 1)  (by rw [show i + 1 - 1 = i by omega, zbestf_i hi.1]; subst hb; rw [Int.toNat_natCast] at *; split <;> omega) (by omega) (by omega))))))) (fun zc40 => have zc4 : (M 103 b.toNat) < (M 103 i.toNat) := Classical.not_not.mp zc40; zz_iload_n (pc := 25) xf_12_25 (zmem 3 rfl) (zz_istore_n (pc := 26) xf_12_26 (by decide +kernel) (zG_ro (ρ' := [(2, .int (Int32.ofInt i)), (0, .ref 101), (1, .int (Int32.ofInt n)), (3, .int (Int32.ofInt i))]) rfl (zz_iinc (pc := 27) xf_12_27 (zmem 3 rfl) (by decide +kernel) (zG_ro (ρ' := [(3, .int (Int32.ofInt (i + 1))), (2, .int (Int32.ofInt i)), (0, .ref 101), (1, .int (Int32.ofInt n))]) rfl (zz_goto (pc := 30) xf_12_30 (zG_mono (N := zn * 17 + 17) (by omega) (zG_sub (List.forall_mem_cons.mpr ⟨zmem 2 rfl, (List.forall_mem_cons.mpr ⟨zmem 3 rfl, (List.forall_mem_cons.mpr ⟨zmem 1 rfl, (List.forall_mem_cons.mpr ⟨zmem 0 rfl, (fun p hp => absurd hp List.not_mem_nil)⟩)⟩)⟩)⟩) (ih i (i + 1)  (by rw [show i + 1 - 1 = i by omega, zbestf_i hi.1]; subst hb; rw [Int.toNat_natCast] at *; split <;> omega) (by omega) (by omega))))))))))))))))))))))
theorem sp_greatestRemainder {xs : List Int32} {d : Nat} {w : Bool} {M : zM} {n : Int} (hn : 1 ≤ n ∧ n ≤ 36) (hr : ∀ j : Nat, (j : Int) < n → zr64 (M 103 j)) : xrun2 xs (d + 1) 12 [.ref 101, .int (Int32.ofInt n)] (w, zheap M) = some (.inl (some (.int (Int32.ofInt ((zbest (M 103) n.toNat : Nat) : Int)))), (w, zheap M)) := by
  exact zrun_v (N := 633) (by decide) rfl (zz_iconst (pc := 0) xf_12_0 (zz_istore_n (pc := 1) xf_12_1 (by decide +kernel) (zG_ro (ρ' := [(2, .int (Int32.ofInt (0))), (0, .ref 101), (1, .int (Int32.ofInt n))]) rfl (zz_iconst (pc := 2) xf_12_2 (zz_istore_n (pc := 3) xf_12_3 (by decide +kernel) (zG_ro (ρ' := [(3, .int (Int32.ofInt (1))), (2, .int (Int32.ofInt (0))), (0, .ref 101), (1, .int (Int32.ofInt n))]) rfl (zG_mono (N := 629) (by omega) (zG_sub (List.forall_mem_cons.mpr ⟨zmem 2 rfl, (List.forall_mem_cons.mpr ⟨zmem 3 rfl, (List.forall_mem_cons.mpr ⟨zmem 1 rfl, (List.forall_mem_cons.mpr ⟨zmem 0 rfl, (fun p hp => absurd hp List.not_mem_nil)⟩)⟩)⟩)⟩) (zl_greatestRemainder_4 hn hr 36 _ _ rfl (by omega) (by omega))))))))))
theorem zIs_ne {q q' c c' l l' : Nat} {K K' : Nat → zK} (h : zIs q c l K) (h' : zIs q' c' l' K') (hc : c ≠ c') : q ≠ q' := fun e => hc (by
  have h1 := h.2.1
  rw [e, h'.2.1] at h1
  exact (congrArg Prod.fst h1).symm)
theorem zbestf_c {F K : zF} : ∀ n, (∀ j, j ≤ n → F j = K j) → zbestf F n = zbestf K n
  | 0, _ => rfl
  | n + 1, h => by
    have h1 := zbestf_c n (fun j hj => h j (by omega))
    unfold zbestf
    rw [h1, h (n + 1) (Nat.le_refl _), h (zbestf K n) (by have := zbestf_le K n; omega)]
theorem zbest_c {F K : zF} {n : Nat} (h0 : 0 < n) (h : ∀ j, j < n → F j = K j) : zbest F n = zbest K n := zbestf_c _ (fun j hj => h j (by omega))
/-- the two rows that a scaling writes -/
def zrows (M : zM) (q n : Nat) (B R : zF) : zM := ztab (ztab M q n B) 103 n R
theorem zrows_q {M : zM} {q n j : Nat} {B R : zF} (hq : q ≠ 103) (hj : j < n) : zrows M q n B R q j = B j := by
  unfold zrows
  rw [ztab_o hq, ztab_i hj]
theorem zrows_r {M : zM} {q n j : Nat} {B R : zF} (hj : j < n) : zrows M q n B R 103 j = R j := ztab_i hj
theorem zrows_o {M : zM} {q n q' : Nat} {B R : zF} (h1 : q' ≠ q) (h2 : q' ≠ 103) : zrows M q n B R q' = M q' := by
  funext j
  unfold zrows
  rw [ztab_o h2, ztab_o h1]
theorem zrows_up {M : zM} {q n b : Nat} {B R : zF} {x y : Int} (hq : q ≠ 103) (hb : b < n) : zup (zup (zrows M q n B R) q b x) 103 b y = zrows M q n (zrup B b x) (zrup R b y) := by
  funext q' j
  unfold zrows zup ztab zrup
  have hq' : ¬ 103 = q := fun e => hq e.symm
  by_cases h1 : q' = 103
  · subst h1
    by_cases h2 : j = b
    · subst h2
      simp [hb]
    · simp [h2, hq']
  · by_cases h4 : q' = q
    · subst h4
      by_cases h2 : j = b
      · subst h2
        simp [h1, hb]
      · simp [h1, h2]
    · simp [h1, h4]
theorem zrows_s {M : zM} {q n : Nat} {B R : zF} {x y : Int} (hq : q ≠ 103) (hx : x = B n) (hy : y = R n) : zup (zup (zrows M q n B R) q n x) 103 n y = zrows M q (n + 1) B R := by
  funext q' j
  unfold zrows zup ztab
  have hq' : ¬ 103 = q := fun e => hq e.symm
  by_cases h1 : q' = 103
  · subst h1
    by_cases h2 : j = n
    · subst h2
      simp [hy]
    · by_cases h3 : j < n
      · simp [h2, h3, hq', show j < n + 1 by omega]
      · simp [h2, h3, hq', show ¬ j < n + 1 by omega]
  · by_cases h4 : q' = q
    · subst h4
      by_cases h2 : j = n
      · subst h2
        simp [h1, hx]
      · by_cases h3 : j < n
        · simp [h1, h2, h3, show j < n + 1 by omega]
        · simp [h1, h2, h3, show ¬ j < n + 1 by omega]
    · simp [h1, h4]
theorem zrows_0 {M : zM} {q : Nat} {B R : zF} : zrows M q 0 B R = M := by unfold zrows; rw [ztab_0, ztab_0]
/-- the row and the rests of a scaling -/
def zsc (W : zF) (n : Nat) : zF × zF := zadd n (zlack W n) (zshare W n, zleft W n)
def zscM (M : zM) (q n : Nat) : zM := zrows M q n (zsc (M 102) n).1 (zsc (M 102) n).2
theorem zl_scaleInto_97 {xs : List Int32} {d : Nat} {w : Bool}  {M0 : zM} {q : Nat} (hq : zIs q 100 36 zI) {n : Int} (hn : 1 ≤ n ∧ n ≤ 36) (hw : ∀ j : Nat, (j : Int) < n → 0 ≤ M0 102 j ∧ M0 102 j ≤ 9000000000000) (hS : 0 < zsum (M0 102) n.toNat)  : ∀ (zn : Nat) (g k : Int) (B : zF) (R : zF) (M : zM), (M = zrows M0 q n.toNat B R) → (∀ j : Nat, (j : Int) < n → zr64 (R j)) → (zadd n.toNat (1000000 - g).toNat (B, R) = zsc (M0 102) n.toNat) → (0 ≤ g ∧ g ≤ 1000000 ∧ 1000000 - g ≤ n - k ∧ 0 ≤ k) → n - k ≤ (zn : Int) → zG (xstep (xrun2 xs (d + 1)) xs 11) 11 (zn * 25 + 25) 97 [(0, .ref 101), (1, .ref q), (2, .int (Int32.ofInt n)), (5, .int (Int32.ofInt g)), (6, .int (Int32.ofInt k))] [] 0 0 w M (fun o σ => o = (.inl none : XO) ∧ σ = (w, zheap (zscM M0 q n.toNat))) := by
  intro zn
  induction zn with
  | zero =>
    intro g k B R M hM hR hz hg hm
    have hq3 : q ≠ 103 := zIs_ne hq zis_103 (by decide)
    have hn0 : 0 < n.toNat := by omega
    have hbe : zbest (M 103) n.toNat = zbest R n.toNat := zbest_c hn0 (fun j hj => by rw [hM]; exact zrows_r hj)
    have hbl : zbest R n.toNat < n.toNat := zbest_lt R hn0
    have hBr : M q (zbest R n.toNat) = B (zbest R n.toNat) := by rw [hM]; exact zrows_q hq3 hbl
    exact zG_mono (N := 0 + 25) (by omega) (zz_iload (pc := 97) xf_11_97 (zmem 4 rfl) (zz_iload_n (pc := 99) xf_11_99 (zmem 2 rfl) (zz_icmp (pc := 100) xf_11_100 (by unfold zr32; omega) (by unfold zr32; omega) (fun (zc1 : ¬ (k < n)) => zz_return (pc := 144) xf_11_144 rfl (by decide +kernel) (by decide +kernel) (by exact ⟨rfl, by rw [hM, show (1000000 - g).toNat = 0 by omega] at *; unfold zscM; rw [← hz]; rfl⟩)) (fun zc20 => have zc2 : k < n := Classical.not_not.mp zc20; zz_iload (pc := 103) xf_11_103 (zmem 3 rfl) (zz_ldc (pc := 105) (v := .int (Int32.ofInt (1000000))) xf_11_105 (by decide +kernel) (zz_icmp (pc := 107) xf_11_107 (by unfold zr32; omega) ⟨by decide, by decide⟩ (fun (zc3 : ¬ (g < (1000000))) => zz_return (pc := 144) xf_11_144 rfl (by decide +kernel) (by decide +kernel) (by exact ⟨rfl, by rw [hM, show (1000000 - g).toNat = 0 by omega] at *; unfold zscM; rw [← hz]; rfl⟩)) (fun zc40 => have zc4 : g < (1000000) := Classical.not_not.mp zc40; zz_aload_n (pc := 110) xf_11_110 (zmem 0 rfl) (zz_iload_n (pc := 111) xf_11_111 (zmem 2 rfl) (zz_call_v (pc := 112) (cu := 0) (su := 0) (fun ls hr => zz_calV xf_11_112 rfl zis_101 ls hr) rfl (sp_greatestRemainder (d := d) (by omega) (fun j hj => by rw [hM, zrows_r (by omega)]; exact hR j hj)) (zz_istore (pc := 115) xf_11_115 (by decide +kernel) (zG_ro (ρ' := [(7, .int (Int32.ofInt ((zbest (M 103) n.toNat : Nat) : Int))), (0, .ref 101), (1, .ref q), (2, .int (Int32.ofInt n)), (5, .int (Int32.ofInt g)), (6, .int (Int32.ofInt k))]) rfl (zz_aload_n (pc := 117) xf_11_117 (zmem 2 rfl) (zz_iload (pc := 118) xf_11_118 (zmem 0 rfl) (zz_dup2_ir (pc := 120) xf_11_120 (zz_iald (pc := 121) xf_11_121 hq (by rw [hbe]; omega) (zz_iconst (pc := 122) xf_11_122 (zz_iadd (pc := 123) xf_11_123 (zz_iast (pc := 124) xf_11_124 hq (by rw [hbe]; omega) (zm_as (fun zM5 (ezM5 : zM5 = zup M q ((zbest (M 103) n.toNat : Nat) : Int).toNat ((M q ((zbest (M 103) n.toNat : Nat) : Int).toNat) + (1))) => zz_aload_n (pc := 125) xf_11_125 (zmem 1 rfl) (zz_getR (pc := 126) xf_11_126 zis_101 (by decide +kernel) rfl (zz_iload (pc := 129) xf_11_129 (zmem 0 rfl) (zz_ldc2_w (pc := 131) (v := .long (Int64.ofInt (-1))) xf_11_131 (by decide +kernel) (zz_last (pc := 134) xf_11_134 zis_103 (by rw [hbe]; omega) (zm_as (fun zM6 (ezM6 : zM6 = zup zM5 103 ((zbest (M 103) n.toNat : Nat) : Int).toNat (-1)) => zz_iinc (pc := 135) xf_11_135 (zmem 4 rfl) (by decide +kernel) (zG_ro (ρ' := [(5, .int (Int32.ofInt (g + 1))), (7, .int (Int32.ofInt ((zbest (M 103) n.toNat : Nat) : Int))), (0, .ref 101), (1, .ref q), (2, .int (Int32.ofInt n)), (6, .int (Int32.ofInt k))]) rfl (zz_iinc (pc := 138) xf_11_138 (zmem 5 rfl) (by decide +kernel) (zG_ro (ρ' := [(6, .int (Int32.ofInt (k + 1))), (5, .int (Int32.ofInt (g + 1))), (7, .int (Int32.ofInt ((zbest (M 103) n.toNat : Nat) : Int))), (0, .ref 101), (1, .ref q), (2, .int (Int32.ofInt n))]) rfl (zz_goto (pc := 141) xf_11_141 ((by exfalso; omega))))))))))))))))))))))))))))))))
  | succ zn ih =>
    intro g k B R M hM hR hz hg hm
    have hq3 : q ≠ 103 := zIs_ne hq zis_103 (by decide)
    have hn0 : 0 < n.toNat := by omega
    have hbe : zbest (M 103) n.toNat = zbest R n.toNat := zbest_c hn0 (fun j hj => by rw [hM]; exact zrows_r hj)
    have hbl : zbest R n.toNat < n.toNat := zbest_lt R hn0
    have hBr : M q (zbest R n.toNat) = B (zbest R n.toNat) := by rw [hM]; exact zrows_q hq3 hbl
    exact zG_mono (N := zn * 25 + 25 + 0 + 25) (by omega) (zz_iload (pc := 97) xf_11_97 (zmem 4 rfl) (zz_iload_n (pc := 99) xf_11_99 (zmem 2 rfl) (zz_icmp (pc := 100) xf_11_100 (by unfold zr32; omega) (by unfold zr32; omega) (fun (zc1 : ¬ (k < n)) => zz_return (pc := 144) xf_11_144 rfl (by decide +kernel) (by decide +kernel) (by exact ⟨rfl, by rw [hM, show (1000000 - g).toNat = 0 by omega] at *; unfold zscM; rw [← hz]; rfl⟩)) (fun zc20 => have zc2 : k < n := Classical.not_not.mp zc20; zz_iload (pc := 103) xf_11_103 (zmem 3 rfl) (zz_ldc (pc := 105) (v := .int (Int32.ofInt (1000000))) xf_11_105 (by decide +kernel) (zz_icmp (pc := 107) xf_11_107 (by unfold zr32; omega) ⟨by decide, by decide⟩ (fun (zc3 : ¬ (g < (1000000))) => zz_return (pc := 144) xf_11_144 rfl (by decide +kernel) (by decide +kernel) (by exact ⟨rfl, by rw [hM, show (1000000 - g).toNat = 0 by omega] at *; unfold zscM; rw [← hz]; rfl⟩)) (fun zc40 => have zc4 : g < (1000000) := Classical.not_not.mp zc40; zz_aload_n (pc := 110) xf_11_110 (zmem 0 rfl) (zz_iload_n (pc := 111) xf_11_111 (zmem 2 rfl) (zz_call_v (pc := 112) (cu := 0) (su := 0) (fun ls hr => zz_calV xf_11_112 rfl zis_101 ls hr) rfl (sp_greatestRemainder (d := d) (by omega) (fun j hj => by rw [hM, zrows_r (by omega)]; exact hR j hj)) (zz_istore (pc := 115) xf_11_115 (by decide +kernel) (zG_ro (ρ' := [(7, .int (Int32.ofInt ((zbest (M 103) n.toNat : Nat) : Int))), (0, .ref 101), (1, .ref q), (2, .int (Int32.ofInt n)), (5, .int (Int32.ofInt g)), (6, .int (Int32.ofInt k))]) rfl (zz_aload_n (pc := 117) xf_11_117 (zmem 2 rfl) (zz_iload (pc := 118) xf_11_118 (zmem 0 rfl) (zz_dup2_ir (pc := 120) xf_11_120 (zz_iald (pc := 121) xf_11_121 hq (by rw [hbe]; omega) (zz_iconst (pc := 122) xf_11_122 (zz_iadd (pc := 123) xf_11_123 (zz_iast (pc := 124) xf_11_124 hq (by rw [hbe]; omega) (zm_as (fun zM5 (ezM5 : zM5 = zup M q ((zbest (M 103) n.toNat : Nat) : Int).toNat ((M q ((zbest (M 103) n.toNat : Nat) : Int).toNat) + (1))) => zz_aload_n (pc := 125) xf_11_125 (zmem 1 rfl) (zz_getR (pc := 126) xf_11_126 zis_101 (by decide +kernel) rfl (zz_iload (pc := 129) xf_11_129 (zmem 0 rfl) (zz_ldc2_w (pc := 131) (v := .long (Int64.ofInt (-1))) xf_11_131 (by decide +kernel) (zz_last (pc := 134) xf_11_134 zis_103 (by rw [hbe]; omega) (zm_as (fun zM6 (ezM6 : zM6 = zup zM5 103 ((zbest (M 103) n.toNat : Nat) : Int).toNat (-1)) => zz_iinc (pc := 135) xf_11_135 (zmem 4 rfl) (by decide +kernel) (zG_ro (ρ' := [(5, .int (Int32.ofInt (g + 1))), (7, .int (Int32.ofInt ((zbest (M 103) n.toNat : Nat) : Int))), (0, .ref 101), (1, .ref q), (2, .int (Int32.ofInt n)), (6, .int (Int32.ofInt k))]) rfl (zz_iinc (pc := 138) xf_11_138 (zmem 5 rfl) (by decide +kernel) (zG_ro (ρ' := [(6, .int (Int32.ofInt (k + 1))), (5, .int (Int32.ofInt (g + 1))), (7, .int (Int32.ofInt ((zbest (M 103) n.toNat : Nat) : Int))), (0, .ref 101), (1, .ref q), (2, .int (Int32.ofInt n))]) rfl (zz_goto (pc := 141) xf_11_141 (zG_mono (N := zn * 25 + 25) (by omega) (zG_sub (List.forall_mem_cons.mpr ⟨zmem 3 rfl, (List.forall_mem_cons.mpr ⟨zmem 4 rfl, (List.forall_mem_cons.mpr ⟨zmem 5 rfl, (List.forall_mem_cons.mpr ⟨zmem 1 rfl, (List.forall_mem_cons.mpr ⟨zmem 0 rfl, (fun p hp => absurd hp List.not_mem_nil)⟩)⟩)⟩)⟩)⟩) (ih (g + 1) (k + 1) (zrup B (zbest R n.toNat) (B (zbest R n.toNat) + 1)) (zrup R (zbest R n.toNat) (-1)) zM6  (by rw [ezM6, ezM5, hbe, Int.toNat_natCast, hBr, hM]; exact zrows_up hq3 hbl) (fun j hj => by unfold zrup; split; exact ⟨by decide, by decide⟩; exact hR j hj) (by rw [show (1000000 - (g + 1)).toNat = (1000000 - g).toNat - 1 by omega]; rw [show (1000000 - g).toNat = (1000000 - g).toNat - 1 + 1 by omega] at hz; exact hz) (by omega) (by omega))))))))))))))))))))))))))))))))))
theorem zleft_r {W : zF} {n : Nat} (hS : 0 < zsum W n ∧ zsum W n ≤ 1000000000000000) (j : Nat) : zr64 (zleft W n j) := by
  have h1 := Int.emod_nonneg (W j * 1000000) (show zsum W n ≠ 0 by omega)
  have h2 := Int.emod_lt_of_pos (W j * 1000000) hS.1
  unfold zr64 zleft
  omega
theorem zshare_nn {W : zF} {n : Nat} {j : Nat} (hS : 0 < zsum W n) (h : 0 ≤ W j) : 0 ≤ zshare W n j := Int.ediv_nonneg (by omega) (by omega)
theorem zl_scaleInto_40 {xs : List Int32} {d : Nat} {w : Bool}  {M0 : zM} {q : Nat} (hq : zIs q 100 36 zI) {n : Int} (hn : 1 ≤ n ∧ n ≤ 36) (hw : ∀ j : Nat, (j : Int) < n → 0 ≤ M0 102 j ∧ M0 102 j ≤ 9000000000000) (hS : 0 < zsum (M0 102) n.toNat)  : ∀ (zn : Nat) (S g i : Int) (M : zM), (M = zrows M0 q i.toNat (zshare (M0 102) n.toNat) (zleft (M0 102) n.toNat)) → (S = zsum (M0 102) n.toNat) → (g = zsum (zshare (M0 102) n.toNat) i.toNat) → (0 ≤ i ∧ i ≤ n) → n - i ≤ (zn : Int) → zG (xstep (xrun2 xs (d + 1)) xs 11) 11 (zn * 32 + 957) 40 [(0, .ref 101), (1, .ref q), (2, .int (Int32.ofInt n)), (3, .long (Int64.ofInt S)), (5, .int (Int32.ofInt g)), (6, .int (Int32.ofInt i))] [] 0 0 w M (fun o σ => o = (.inl none : XO) ∧ σ = (w, zheap (zscM M0 q n.toNat))) := by
  intro zn
  induction zn with
  | zero =>
    intro S g i M hM hS2 hg hi hm
    have hq3 : q ≠ 103 := zIs_ne hq zis_103 (by decide)
    have hq2 : q ≠ 102 := zIs_ne hq zis_102 (by decide)
    have hW : M 102 = M0 102 := by rw [hM]; exact zrows_o (fun e => hq2 e.symm) (by decide)
    have hwi : i < n → 0 ≤ M 102 i.toNat ∧ M 102 i.toNat ≤ 9000000000000 := fun h => by rw [hW]; exact hw _ (by omega)
    have hSb := (zsum_b (l := 0) (u := 9000000000000) n.toNat (fun j hj => hw j (by omega))).2
    have hsh := zshare_sum (W := M0 102) (n := n.toNat) (fun j hj => (hw j (by omega)).1) hS
    have hgn : 0 ≤ g := by rw [hg]; exact zsum_nn _ (fun j hj => zshare_nn hS (hw j (by omega)).1)
    exact zG_mono (N := 925 + 32) (by omega) (zz_iload (pc := 40) xf_11_40 (zmem 5 rfl) (zz_iload_n (pc := 42) xf_11_42 (zmem 2 rfl) (zz_icmp (pc := 43) xf_11_43 (by unfold zr32; omega) (by unfold zr32; omega) (fun (zc1 : ¬ (i < n)) => zz_iconst (pc := 94) xf_11_94 (zz_istore (pc := 95) xf_11_95 (by decide +kernel) (zG_ro (ρ' := [(6, .int (Int32.ofInt (0))), (0, .ref 101), (1, .ref q), (2, .int (Int32.ofInt n)), (3, .long (Int64.ofInt S)), (5, .int (Int32.ofInt g))]) rfl (zG_mono (N := 925) (by omega) (zG_sub (List.forall_mem_cons.mpr ⟨zmem 1 rfl, (List.forall_mem_cons.mpr ⟨zmem 2 rfl, (List.forall_mem_cons.mpr ⟨zmem 3 rfl, (List.forall_mem_cons.mpr ⟨zmem 5 rfl, (List.forall_mem_cons.mpr ⟨zmem 0 rfl, (fun p hp => absurd hp List.not_mem_nil)⟩)⟩)⟩)⟩)⟩) (zl_scaleInto_97 hq hn hw hS 36 _ _ (zshare (M0 102) n.toNat) (zleft (M0 102) n.toNat) _ (by rw [hM, show i.toNat = n.toNat by omega]) (fun j _ => zleft_r (by omega) j) (by unfold zsc zlack; rw [hg, show i.toNat = n.toNat by omega]) (by have e : i.toNat = n.toNat := (by omega); rw [e] at hg; omega) (by omega))))))) (fun zc20 => have zc2 : i < n := Classical.not_not.mp zc20; zz_aload_n (pc := 46) xf_11_46 (zmem 0 rfl) (zz_getR (pc := 47) xf_11_47 zis_101 (by decide +kernel) rfl (zz_iload (pc := 50) xf_11_50 (zmem 5 rfl) (zz_lald (pc := 52) xf_11_52 zis_102 (by omega) (zz_ldc2_w (pc := 53) (v := .long (Int64.ofInt (1000000))) xf_11_53 (by decide +kernel) (zz_lmul (pc := 56) xf_11_56 (zz_lstore (pc := 57) xf_11_57 (by decide +kernel) (zG_ro (ρ' := [(7, .long (Int64.ofInt ((M 102 i.toNat) * (1000000)))), (0, .ref 101), (1, .ref q), (2, .int (Int32.ofInt n)), (3, .long (Int64.ofInt S)), (5, .int (Int32.ofInt g)), (6, .int (Int32.ofInt i))]) rfl (zz_aload_n (pc := 59) xf_11_59 (zmem 2 rfl) (zz_iload (pc := 60) xf_11_60 (zmem 6 rfl) (zz_lload (pc := 62) xf_11_62 (zmem 0 rfl) (zz_lload_n (pc := 64) xf_11_64 (zmem 4 rfl) (zz_ldiv (pc := 65) xf_11_65 (by omega) (by omega) (zz_l2i (pc := 66) xf_11_66 (zz_iast (pc := 67) xf_11_67 hq (by omega) (zm_as (fun zM3 (ezM3 : zM3 = zup M q i.toNat (((M 102 i.toNat) * (1000000)) / S)) => zz_aload_n (pc := 68) xf_11_68 (zmem 1 rfl) (zz_getR (pc := 69) xf_11_69 zis_101 (by decide +kernel) rfl (zz_iload (pc := 72) xf_11_72 (zmem 6 rfl) (zz_lload (pc := 74) xf_11_74 (zmem 0 rfl) (zz_lload_n (pc := 76) xf_11_76 (zmem 4 rfl) (zz_lrem (pc := 77) xf_11_77 (by omega) (by omega) (zz_last (pc := 78) xf_11_78 zis_103 (by omega) (zm_as (fun zM4 (ezM4 : zM4 = zup zM3 103 i.toNat (((M 102 i.toNat) * (1000000)) % S)) => zz_iload (pc := 79) xf_11_79 (zmem 5 rfl) (zz_aload_n (pc := 81) xf_11_81 (zmem 2 rfl) (zz_iload (pc := 82) xf_11_82 (zmem 6 rfl) (zz_iald (pc := 84) xf_11_84 hq (by omega) (zz_iadd (pc := 85) xf_11_85 (zz_istore (pc := 86) xf_11_86 (by decide +kernel) (zG_ro (ρ' := [(5, .int (Int32.ofInt (g + (zM4 q i.toNat)))), (7, .long (Int64.ofInt ((M 102 i.toNat) * (1000000)))), (0, .ref 101), (1, .ref q), (2, .int (Int32.ofInt n)), (3, .long (Int64.ofInt S)), (6, .int (Int32.ofInt i))]) rfl (zz_iinc (pc := 88) xf_11_88 (zmem 6 rfl) (by decide +kernel) (zG_ro (ρ' := [(6, .int (Int32.ofInt (i + 1))), (5, .int (Int32.ofInt (g + (zM4 q i.toNat)))), (7, .long (Int64.ofInt ((M 102 i.toNat) * (1000000)))), (0, .ref 101), (1, .ref q), (2, .int (Int32.ofInt n)), (3, .long (Int64.ofInt S))]) rfl (zz_goto (pc := 91) xf_11_91 ((by exfalso; omega)))))))))))))))))))))))))))))))))))))))
  | succ zn ih =>
    intro S g i M hM hS2 hg hi hm
    have hq3 : q ≠ 103 := zIs_ne hq zis_103 (by decide)
    have hq2 : q ≠ 102 := zIs_ne hq zis_102 (by decide)
    have hW : M 102 = M0 102 := by rw [hM]; exact zrows_o (fun e => hq2 e.symm) (by decide)
    have hwi : i < n → 0 ≤ M 102 i.toNat ∧ M 102 i.toNat ≤ 9000000000000 := fun h => by rw [hW]; exact hw _ (by omega)
    have hSb := (zsum_b (l := 0) (u := 9000000000000) n.toNat (fun j hj => hw j (by omega))).2
    have hsh := zshare_sum (W := M0 102) (n := n.toNat) (fun j hj => (hw j (by omega)).1) hS
    have hgn : 0 ≤ g := by rw [hg]; exact zsum_nn _ (fun j hj => zshare_nn hS (hw j (by omega)).1)
    exact zG_mono (N := zn * 32 + 957 + 0 + 32) (by omega) (zz_iload (pc := 40) xf_11_40 (zmem 5 rfl) (zz_iload_n (pc := 42) xf_11_42 (zmem 2 rfl) (zz_icmp (pc := 43) xf_11_43 (by unfold zr32; omega) (by unfold zr32; omega) (fun (zc1 : ¬ (i < n)) => zz_iconst (pc := 94) xf_11_94 (zz_istore (pc := 95) xf_11_95 (by decide +kernel) (zG_ro (ρ' := [(6, .int (Int32.ofInt (0))), (0, .ref 101), (1, .ref q), (2, .int (Int32.ofInt n)), (3, .long (Int64.ofInt S)), (5, .int (Int32.ofInt g))]) rfl (zG_mono (N := 925) (by omega) (zG_sub (List.forall_mem_cons.mpr ⟨zmem 1 rfl, (List.forall_mem_cons.mpr ⟨zmem 2 rfl, (List.forall_mem_cons.mpr ⟨zmem 3 rfl, (List.forall_mem_cons.mpr ⟨zmem 5 rfl, (List.forall_mem_cons.mpr ⟨zmem 0 rfl, (fun p hp => absurd hp List.not_mem_nil)⟩)⟩)⟩)⟩)⟩) (zl_scaleInto_97 hq hn hw hS 36 _ _ (zshare (M0 102) n.toNat) (zleft (M0 102) n.toNat) _ (by rw [hM, show i.toNat = n.toNat by omega]) (fun j _ => zleft_r (by omega) j) (by unfold zsc zlack; rw [hg, show i.toNat = n.toNat by omega]) (by have e : i.toNat = n.toNat := (by omega); rw [e] at hg; omega) (by omega))))))) (fun zc20 => have zc2 : i < n := Classical.not_not.mp zc20; zz_aload_n (pc := 46) xf_11_46 (zmem 0 rfl) (zz_getR (pc := 47) xf_11_47 zis_101 (by decide +kernel) rfl (zz_iload (pc := 50) xf_11_50 (zmem 5 rfl) (zz_lald (pc := 52) xf_11_52 zis_102 (by omega) (zz_ldc2_w (pc := 53) (v := .long (Int64.ofInt (1000000))) xf_11_53 (by decide +kernel) (zz_lmul (pc := 56) xf_11_56 (zz_lstore (pc := 57) xf_11_57 (by decide +kernel) (zG_ro (ρ' := [(7, .long (Int64.ofInt ((M 102 i.toNat) * (1000000)))), (0, .ref 101), (1, .ref q), (2, .int (Int32.ofInt n)), (3, .long (Int64.ofInt S)), (5, .int (Int32.ofInt g)), (6, .int (Int32.ofInt i))]) rfl (zz_aload_n (pc := 59) xf_11_59 (zmem 2 rfl) (zz_iload (pc := 60) xf_11_60 (zmem 6 rfl) (zz_lload (pc := 62) xf_11_62 (zmem 0 rfl) (zz_lload_n (pc := 64) xf_11_64 (zmem 4 rfl) (zz_ldiv (pc := 65) xf_11_65 (by omega) (by omega) (zz_l2i (pc := 66) xf_11_66 (zz_iast (pc := 67) xf_11_67 hq (by omega) (zm_as (fun zM3 (ezM3 : zM3 = zup M q i.toNat (((M 102 i.toNat) * (1000000)) / S)) => zz_aload_n (pc := 68) xf_11_68 (zmem 1 rfl) (zz_getR (pc := 69) xf_11_69 zis_101 (by decide +kernel) rfl (zz_iload (pc := 72) xf_11_72 (zmem 6 rfl) (zz_lload (pc := 74) xf_11_74 (zmem 0 rfl) (zz_lload_n (pc := 76) xf_11_76 (zmem 4 rfl) (zz_lrem (pc := 77) xf_11_77 (by omega) (by omega) (zz_last (pc := 78) xf_11_78 zis_103 (by omega) (zm_as (fun zM4 (ezM4 : zM4 = zup zM3 103 i.toNat (((M 102 i.toNat) * (1000000)) % S)) => zz_iload (pc := 79) xf_11_79 (zmem 5 rfl) (zz_aload_n (pc := 81) xf_11_81 (zmem 2 rfl) (zz_iload (pc := 82) xf_11_82 (zmem 6 rfl) (zz_iald (pc := 84) xf_11_84 hq (by omega) (zz_iadd (pc := 85) xf_11_85 (zz_istore (pc := 86) xf_11_86 (by decide +kernel) (zG_ro (ρ' := [(5, .int (Int32.ofInt (g + (zM4 q i.toNat)))), (7, .long (Int64.ofInt ((M 102 i.toNat) * (1000000)))), (0, .ref 101), (1, .ref q), (2, .int (Int32.ofInt n)), (3, .long (Int64.ofInt S)), (6, .int (Int32.ofInt i))]) rfl (zz_iinc (pc := 88) xf_11_88 (zmem 6 rfl) (by decide +kernel) (zG_ro (ρ' := [(6, .int (Int32.ofInt (i + 1))), (5, .int (Int32.ofInt (g + (zM4 q i.toNat)))), (7, .long (Int64.ofInt ((M 102 i.toNat) * (1000000)))), (0, .ref 101), (1, .ref q), (2, .int (Int32.ofInt n)), (3, .long (Int64.ofInt S))]) rfl (zz_goto (pc := 91) xf_11_91 (zG_mono (N := zn * 32 + 957) (by omega) (zG_sub (List.forall_mem_cons.mpr ⟨zmem 3 rfl, (List.forall_mem_cons.mpr ⟨zmem 4 rfl, (List.forall_mem_cons.mpr ⟨zmem 5 rfl, (List.forall_mem_cons.mpr ⟨zmem 6 rfl, (List.forall_mem_cons.mpr ⟨zmem 1 rfl, (List.forall_mem_cons.mpr ⟨zmem 0 rfl, (fun p hp => absurd hp List.not_mem_nil)⟩)⟩)⟩)⟩)⟩)⟩) (ih S (g + (zM4 q i.toNat)) (i + 1) zM4  (by rw [ezM4, ezM3, hW, hS2, hM, show (i + 1).toNat = i.toNat + 1 by omega]; exact zrows_s hq3 rfl rfl) hS2 (by rw [ezM4, zup_o (fun e => hq3 e.1), ezM3, zup_i, hW, hS2, hg]; exact (zsum_s hi.1).symm) (by omega) (by omega)))))))))))))))))))))))))))))))))))))))))
theorem zl_scaleInto_5 {xs : List Int32} {d : Nat} {w : Bool} {M : zM} {q : Nat} (hq : zIs q 100 36 zI) {n : Int} (hn : 1 ≤ n ∧ n ≤ 36) (hw : ∀ j : Nat, (j : Int) < n → 0 ≤ M 102 j ∧ M 102 j ≤ 9000000000000) (hS : 0 < zsum (M 102) n.toNat)  : ∀ (zn : Nat) (s i : Int), (s = zsum (M 102) i.toNat) → (0 ≤ i ∧ i ≤ n) → n - i ≤ (zn : Int) → zG (xstep (xrun2 xs (d + 1)) xs 11) 11 (zn * 12 + 2121) 5 [(0, .ref 101), (1, .ref q), (2, .int (Int32.ofInt n)), (3, .long (Int64.ofInt s)), (5, .int (Int32.ofInt i))] [] 0 0 w M (fun o σ => o = (.inl none : XO) ∧ σ = (w, zheap (zscM M q n.toNat))) := by
  intro zn
  induction zn with
  | zero =>
    intro s i hs hi hm
    have hwi : i < n → 0 ≤ M 102 i.toNat ∧ M 102 i.toNat ≤ 9000000000000 := fun h => hw _ (by omega)
    have hSb := (zsum_b (l := 0) (u := 9000000000000) n.toNat (fun j hj => hw j (by omega))).2
    have hsb := (zsum_b (l := 0) (u := 9000000000000) i.toNat (fun j hj => hw j (by omega)))
    exact zG_mono (N := 2109 + 12) (by omega) (zz_iload (pc := 5) xf_11_5 (zmem 4 rfl) (zz_iload_n (pc := 7) xf_11_7 (zmem 2 rfl) (zz_icmp (pc := 8) xf_11_8 (by unfold zr32; omega) (by unfold zr32; omega) (fun (zc1 : ¬ (i < n)) => zz_lload_n (pc := 27) xf_11_27 (zmem 3 rfl) (zz_lconst (pc := 28) (x := 0) xf_11_28 (by decide +kernel) (zz_lcmp (pc := 29) xf_11_29 xf_11_30 (by unfold zr64; omega) ⟨by decide, by decide⟩ (fun (zc3 : (0) < s) => zz_iconst (pc := 34) xf_11_34 (zz_istore (pc := 35) xf_11_35 (by decide +kernel) (zG_ro (ρ' := [(5, .int (Int32.ofInt (0))), (0, .ref 101), (1, .ref q), (2, .int (Int32.ofInt n)), (3, .long (Int64.ofInt s))]) rfl (zz_iconst (pc := 37) xf_11_37 (zz_istore (pc := 38) xf_11_38 (by decide +kernel) (zG_ro (ρ' := [(6, .int (Int32.ofInt (0))), (5, .int (Int32.ofInt (0))), (0, .ref 101), (1, .ref q), (2, .int (Int32.ofInt n)), (3, .long (Int64.ofInt s))]) rfl (zG_mono (N := 2109) (by omega) (zG_sub (List.forall_mem_cons.mpr ⟨zmem 2 rfl, (List.forall_mem_cons.mpr ⟨zmem 3 rfl, (List.forall_mem_cons.mpr ⟨zmem 4 rfl, (List.forall_mem_cons.mpr ⟨zmem 5 rfl, (List.forall_mem_cons.mpr ⟨zmem 1 rfl, (List.forall_mem_cons.mpr ⟨zmem 0 rfl, (fun p hp => absurd hp List.not_mem_nil)⟩)⟩)⟩)⟩)⟩)⟩) (zl_scaleInto_40 (M0 := M) hq hn hw hS 36 _ _ _ _ zrows_0.symm (by rw [hs, show i.toNat = n.toNat by omega]) rfl (by omega) (by omega)))))))))) (fun (zc4 : ¬ ((0) < s)) => zz_return (pc := 33) xf_11_33 rfl (by decide +kernel) (by decide +kernel) (by exfalso; have e : i.toNat = n.toNat := (by omega); rw [e] at hs; omega))))) (fun zc20 => have zc2 : i < n := Classical.not_not.mp zc20; zz_lload_n (pc := 11) xf_11_11 (zmem 3 rfl) (zz_aload_n (pc := 12) xf_11_12 (zmem 0 rfl) (zz_getR (pc := 13) xf_11_13 zis_101 (by decide +kernel) rfl (zz_iload (pc := 16) xf_11_16 (zmem 4 rfl) (zz_lald (pc := 18) xf_11_18 zis_102 (by omega) (zz_ladd (pc := 19) xf_11_19 (zz_lstore_n (pc := 20) xf_11_20 (by decide +kernel) (zG_ro (ρ' := [(3, .long (Int64.ofInt (s + (M 102 i.toNat)))), (0, .ref 101), (1, .ref q), (2, .int (Int32.ofInt n)), (5, .int (Int32.ofInt i))]) rfl (zz_iinc (pc := 21) xf_11_21 (zmem 4 rfl) (by decide +kernel) (zG_ro (ρ' := [(5, .int (Int32.ofInt (i + 1))), (3, .long (Int64.ofInt (s + (M 102 i.toNat)))), (0, .ref 101), (1, .ref q), (2, .int (Int32.ofInt n))]) rfl (zz_goto (pc := 24) xf_11_24 ((by exfalso; omega))))))))))))))))
  | succ zn ih =>
    intro s i hs hi hm
    have hwi : i < n → 0 ≤ M 102 i.toNat ∧ M 102 i.toNat ≤ 9000000000000 := fun h => hw _ (by omega)
    have hSb := (zsum_b (l := 0) (u := 9000000000000) n.toNat (fun j hj => hw j (by omega))).2
    have hsb := (zsum_b (l := 0) (u := 9000000000000) i.toNat (fun j hj => hw j (by omega)))
    exact zG_mono (N := zn * 12 + 2121 + 0 + 12) (by omega) (zz_iload (pc := 5) xf_11_5 (zmem 4 rfl) (zz_iload_n (pc := 7) xf_11_7 (zmem 2 rfl) (zz_icmp (pc := 8) xf_11_8 (by unfold zr32; omega) (by unfold zr32; omega) (fun (zc1 : ¬ (i < n)) => zz_lload_n (pc := 27) xf_11_27 (zmem 3 rfl) (zz_lconst (pc := 28) (x := 0) xf_11_28 (by decide +kernel) (zz_lcmp (pc := 29) xf_11_29 xf_11_30 (by unfold zr64; omega) ⟨by decide, by decide⟩ (fun (zc3 : (0) < s) => zz_iconst (pc := 34) xf_11_34 (zz_istore (pc := 35) xf_11_35 (by decide +kernel) (zG_ro (ρ' := [(5, .int (Int32.ofInt (0))), (0, .ref 101), (1, .ref q), (2, .int (Int32.ofInt n)), (3, .long (Int64.ofInt s))]) rfl (zz_iconst (pc := 37) xf_11_37 (zz_istore (pc := 38) xf_11_38 (by decide +kernel) (zG_ro (ρ' := [(6, .int (Int32.ofInt (0))), (5, .int (Int32.ofInt (0))), (0, .ref 101), (1, .ref q), (2, .int (Int32.ofInt n)), (3, .long (Int64.ofInt s))]) rfl (zG_mono (N := 2109) (by omega) (zG_sub (List.forall_mem_cons.mpr ⟨zmem 2 rfl, (List.forall_mem_cons.mpr ⟨zmem 3 rfl, (List.forall_mem_cons.mpr ⟨zmem 4 rfl, (List.forall_mem_cons.mpr ⟨zmem 5 rfl, (List.forall_mem_cons.mpr ⟨zmem 1 rfl, (List.forall_mem_cons.mpr ⟨zmem 0 rfl, (fun p hp => absurd hp List.not_mem_nil)⟩)⟩)⟩)⟩)⟩)⟩) (zl_scaleInto_40 (M0 := M) hq hn hw hS 36 _ _ _ _ zrows_0.symm (by rw [hs, show i.toNat = n.toNat by omega]) rfl (by omega) (by omega)))))))))) (fun (zc4 : ¬ ((0) < s)) => zz_return (pc := 33) xf_11_33 rfl (by decide +kernel) (by decide +kernel) (by exfalso; have e : i.toNat = n.toNat := (by omega); rw [e] at hs; omega))))) (fun zc20 => have zc2 : i < n := Classical.not_not.mp zc20; zz_lload_n (pc := 11) xf_11_11 (zmem 3 rfl) (zz_aload_n (pc := 12) xf_11_12 (zmem 0 rfl) (zz_getR (pc := 13) xf_11_13 zis_101 (by decide +kernel) rfl (zz_iload (pc := 16) xf_11_16 (zmem 4 rfl) (zz_lald (pc := 18) xf_11_18 zis_102 (by omega) (zz_ladd (pc := 19) xf_11_19 (zz_lstore_n (pc := 20) xf_11_20 (by decide +kernel) (zG_ro (ρ' := [(3, .long (Int64.ofInt (s + (M 102 i.toNat)))), (0, .ref 101), (1, .ref q), (2, .int (Int32.ofInt n)), (5, .int (Int32.ofInt i))]) rfl (zz_iinc (pc := 21) xf_11_21 (zmem 4 rfl) (by decide +kernel) (zG_ro (ρ' := [(5, .int (Int32.ofInt (i + 1))), (3, .long (Int64.ofInt (s + (M 102 i.toNat)))), (0, .ref 101), (1, .ref q), (2, .int (Int32.ofInt n))]) rfl (zz_goto (pc := 24) xf_11_24 (zG_mono (N := zn * 12 + 2121) (by omega) (zG_sub (List.forall_mem_cons.mpr ⟨zmem 2 rfl, (List.forall_mem_cons.mpr ⟨zmem 3 rfl, (List.forall_mem_cons.mpr ⟨zmem 4 rfl, (List.forall_mem_cons.mpr ⟨zmem 1 rfl, (List.forall_mem_cons.mpr ⟨zmem 0 rfl, (fun p hp => absurd hp List.not_mem_nil)⟩)⟩)⟩)⟩)⟩) (ih (s + (M 102 i.toNat)) (i + 1)  (by rw [hs]; exact (zsum_s hi.1).symm) (by omega) (by omega))))))))))))))))))
theorem sp_scaleInto {xs : List Int32} {d : Nat} {w : Bool} {M : zM} {q : Nat} (hq : zIs q 100 36 zI) {n : Int} (hn : 1 ≤ n ∧ n ≤ 36) (hw : ∀ j : Nat, (j : Int) < n → 0 ≤ M 102 j ∧ M 102 j ≤ 9000000000000) (hS : 0 < zsum (M 102) n.toNat) : xrun2 xs (d + 2) 11 [.ref 101, .ref q, .int (Int32.ofInt n)] (w, zheap M) = some (.inl none, (w, zheap (zscM M q n.toNat))) := by
  exact zrun_v (N := 2557) (by decide) rfl (zz_lconst (pc := 0) (x := 0) xf_11_0 (by decide +kernel) (zz_lstore_n (pc := 1) xf_11_1 (by decide +kernel) (zG_ro (ρ' := [(3, .long (Int64.ofInt (0))), (0, .ref 101), (1, .ref q), (2, .int (Int32.ofInt n))]) rfl (zz_iconst (pc := 2) xf_11_2 (zz_istore (pc := 3) xf_11_3 (by decide +kernel) (zG_ro (ρ' := [(5, .int (Int32.ofInt (0))), (3, .long (Int64.ofInt (0))), (0, .ref 101), (1, .ref q), (2, .int (Int32.ofInt n))]) rfl (zG_mono (N := 2553) (by omega) (zG_sub (List.forall_mem_cons.mpr ⟨zmem 2 rfl, (List.forall_mem_cons.mpr ⟨zmem 3 rfl, (List.forall_mem_cons.mpr ⟨zmem 4 rfl, (List.forall_mem_cons.mpr ⟨zmem 1 rfl, (List.forall_mem_cons.mpr ⟨zmem 0 rfl, (fun p hp => absurd hp List.not_mem_nil)⟩)⟩)⟩)⟩)⟩) (zl_scaleInto_5 hq hn hw hS 36 _ _ rfl (by omega) (by omega))))))))))
end
