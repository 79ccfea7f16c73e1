/-! Worlds of a fixed shape, with whole numbers. -/
abbrev zM : Type := Nat → Nat → Int
/-- what a slot is: an int, a long, a reference -/
abbrev zK : Type := Bool ⊕ Nat
abbrev zS : Type := Nat × Nat × (Nat → zK)
def zval (k : zK) (x : Int) : Value := match k with
  | .inl false => .int (Int32.ofInt x)
  | .inl true => .long (Int64.ofInt x)
  | .inr r => .ref r
def zI : Nat → zK := fun _ => .inl false
def zJ : Nat → zK := fun _ => .inl true
def zkl (l : List zK) (j : Nat) : zK := l.getD j (.inl false)
def zcell (s : zS) (f : Nat → Int) : XE := (s.1, (List.range s.2.1).map (fun j => zval (s.2.2 j) (f j)))
def zsh (q : Nat) : zS := bif Nat.blt q 69 then (bif Nat.blt q 34 then (bif Nat.blt q 17 then (bif Nat.blt q 8 then (bif Nat.blt q 4 then (bif Nat.blt q 2 then (bif Nat.blt q 1 then ((10, 10, zkl [.inr 1, .inr 13, .inl false, .inr 25, .inr 99, .inl false, .inr 101, .inr 105, .inr 108, .inr 113])) else ((6, 8, zkl [.inr 2, .inr 6, .inr 9, .inr 12, .inl false, .inl false, .inl false, .inl false]))) else (bif Nat.blt q 3 then ((2, 5, zkl [.inl false, .inl false, .inr 3, .inr 4, .inr 5])) else ((100, 36, zI)))) else (bif Nat.blt q 6 then (bif Nat.blt q 5 then ((100, 36, zI)) else ((100, 144, zI))) else (bif Nat.blt q 7 then ((7, 4, zkl [.inr 7, .inr 8, .inl false, .inl false])) else ((100, 4, zI))))) else (bif Nat.blt q 12 then (bif Nat.blt q 10 then (bif Nat.blt q 9 then ((100, 16, zI)) else ((8, 5, zkl [.inl false, .inl false, .inl false, .inr 10, .inr 11]))) else (bif Nat.blt q 11 then ((100, 8, zI)) else ((100, 288, zI)))) else (bif Nat.blt q 14 then (bif Nat.blt q 13 then ((100, 36, zI)) else ((6, 8, zkl [.inr 14, .inr 18, .inr 21, .inr 24, .inl false, .inl false, .inl false, .inl false]))) else (bif Nat.blt q 15 then ((2, 5, zkl [.inl false, .inl false, .inr 15, .inr 16, .inr 17])) else (bif Nat.blt q 16 then ((100, 36, zI)) else ((100, 36, zI))))))) else (bif Nat.blt q 25 then (bif Nat.blt q 21 then (bif Nat.blt q 19 then (bif Nat.blt q 18 then ((100, 144, zI)) else ((7, 4, zkl [.inr 19, .inr 20, .inl false, .inl false]))) else (bif Nat.blt q 20 then ((100, 4, zI)) else ((100, 16, zI)))) else (bif Nat.blt q 23 then (bif Nat.blt q 22 then ((8, 5, zkl [.inl false, .inl false, .inl false, .inr 22, .inr 23])) else ((100, 8, zI))) else (bif Nat.blt q 24 then ((100, 288, zI)) else ((100, 36, zI))))) else (bif Nat.blt q 29 then (bif Nat.blt q 27 then (bif Nat.blt q 26 then ((0, 3, zkl [.inr 26, .inl false, .inl false])) else ((103, 6, zkl [.inr 27, .inr 39, .inr 51, .inr 63, .inr 75, .inr 87]))) else (bif Nat.blt q 28 then ((6, 8, zkl [.inr 28, .inr 32, .inr 35, .inr 38, .inl false, .inl false, .inl false, .inl false])) else ((2, 5, zkl [.inl false, .inl false, .inr 29, .inr 30, .inr 31])))) else (bif Nat.blt q 31 then (bif Nat.blt q 30 then ((100, 36, zI)) else ((100, 36, zI))) else (bif Nat.blt q 32 then ((100, 144, zI)) else (bif Nat.blt q 33 then ((7, 4, zkl [.inr 33, .inr 34, .inl false, .inl false])) else ((100, 4, zI)))))))) else (bif Nat.blt q 51 then (bif Nat.blt q 42 then (bif Nat.blt q 38 then (bif Nat.blt q 36 then (bif Nat.blt q 35 then ((100, 16, zI)) else ((8, 5, zkl [.inl false, .inl false, .inl false, .inr 36, .inr 37]))) else (bif Nat.blt q 37 then ((100, 8, zI)) else ((100, 288, zI)))) else (bif Nat.blt q 40 then (bif Nat.blt q 39 then ((100, 36, zI)) else ((6, 8, zkl [.inr 40, .inr 44, .inr 47, .inr 50, .inl false, .inl false, .inl false, .inl false]))) else (bif Nat.blt q 41 then ((2, 5, zkl [.inl false, .inl false, .inr 41, .inr 42, .inr 43])) else ((100, 36, zI))))) else (bif Nat.blt q 46 then (bif Nat.blt q 44 then (bif Nat.blt q 43 then ((100, 36, zI)) else ((100, 144, zI))) else (bif Nat.blt q 45 then ((7, 4, zkl [.inr 45, .inr 46, .inl false, .inl false])) else ((100, 4, zI)))) else (bif Nat.blt q 48 then (bif Nat.blt q 47 then ((100, 16, zI)) else ((8, 5, zkl [.inl false, .inl false, .inl false, .inr 48, .inr 49]))) else (bif Nat.blt q 49 then ((100, 8, zI)) else (bif Nat.blt q 50 then ((100, 288, zI)) else ((100, 36, zI))))))) else (bif Nat.blt q 60 then (bif Nat.blt q 55 then (bif Nat.blt q 53 then (bif Nat.blt q 52 then ((6, 8, zkl [.inr 52, .inr 56, .inr 59, .inr 62, .inl false, .inl false, .inl false, .inl false])) else ((2, 5, zkl [.inl false, .inl false, .inr 53, .inr 54, .inr 55]))) else (bif Nat.blt q 54 then ((100, 36, zI)) else ((100, 36, zI)))) else (bif Nat.blt q 57 then (bif Nat.blt q 56 then ((100, 144, zI)) else ((7, 4, zkl [.inr 57, .inr 58, .inl false, .inl false]))) else (bif Nat.blt q 58 then ((100, 4, zI)) else (bif Nat.blt q 59 then ((100, 16, zI)) else ((8, 5, zkl [.inl false, .inl false, .inl false, .inr 60, .inr 61])))))) else (bif Nat.blt q 64 then (bif Nat.blt q 62 then (bif Nat.blt q 61 then ((100, 8, zI)) else ((100, 288, zI))) else (bif Nat.blt q 63 then ((100, 36, zI)) else ((6, 8, zkl [.inr 64, .inr 68, .inr 71, .inr 74, .inl false, .inl false, .inl false, .inl false])))) else (bif Nat.blt q 66 then (bif Nat.blt q 65 then ((2, 5, zkl [.inl false, .inl false, .inr 65, .inr 66, .inr 67])) else ((100, 36, zI))) else (bif Nat.blt q 67 then ((100, 36, zI)) else (bif Nat.blt q 68 then ((100, 144, zI)) else ((7, 4, zkl [.inr 69, .inr 70, .inl false, .inl false]))))))))) else (bif Nat.blt q 103 then (bif Nat.blt q 86 then (bif Nat.blt q 77 then (bif Nat.blt q 73 then (bif Nat.blt q 71 then (bif Nat.blt q 70 then ((100, 4, zI)) else ((100, 16, zI))) else (bif Nat.blt q 72 then ((8, 5, zkl [.inl false, .inl false, .inl false, .inr 72, .inr 73])) else ((100, 8, zI)))) else (bif Nat.blt q 75 then (bif Nat.blt q 74 then ((100, 288, zI)) else ((100, 36, zI))) else (bif Nat.blt q 76 then ((6, 8, zkl [.inr 76, .inr 80, .inr 83, .inr 86, .inl false, .inl false, .inl false, .inl false])) else ((2, 5, zkl [.inl false, .inl false, .inr 77, .inr 78, .inr 79]))))) else (bif Nat.blt q 81 then (bif Nat.blt q 79 then (bif Nat.blt q 78 then ((100, 36, zI)) else ((100, 36, zI))) else (bif Nat.blt q 80 then ((100, 144, zI)) else ((7, 4, zkl [.inr 81, .inr 82, .inl false, .inl false])))) else (bif Nat.blt q 83 then (bif Nat.blt q 82 then ((100, 4, zI)) else ((100, 16, zI))) else (bif Nat.blt q 84 then ((8, 5, zkl [.inl false, .inl false, .inl false, .inr 84, .inr 85])) else (bif Nat.blt q 85 then ((100, 8, zI)) else ((100, 288, zI))))))) else (bif Nat.blt q 94 then (bif Nat.blt q 90 then (bif Nat.blt q 88 then (bif Nat.blt q 87 then ((100, 36, zI)) else ((6, 8, zkl [.inr 88, .inr 92, .inr 95, .inr 98, .inl false, .inl false, .inl false, .inl false]))) else (bif Nat.blt q 89 then ((2, 5, zkl [.inl false, .inl false, .inr 89, .inr 90, .inr 91])) else ((100, 36, zI)))) else (bif Nat.blt q 92 then (bif Nat.blt q 91 then ((100, 36, zI)) else ((100, 144, zI))) else (bif Nat.blt q 93 then ((7, 4, zkl [.inr 93, .inr 94, .inl false, .inl false])) else ((100, 4, zI))))) else (bif Nat.blt q 98 then (bif Nat.blt q 96 then (bif Nat.blt q 95 then ((100, 16, zI)) else ((8, 5, zkl [.inl false, .inl false, .inl false, .inr 96, .inr 97]))) else (bif Nat.blt q 97 then ((100, 8, zI)) else ((100, 288, zI)))) else (bif Nat.blt q 100 then (bif Nat.blt q 99 then ((100, 36, zI)) else ((3, 2, zkl [.inr 100, .inl false]))) else (bif Nat.blt q 101 then ((102, 45, zI)) else (bif Nat.blt q 102 then ((1, 3, zkl [.inr 102, .inr 103, .inr 104])) else ((101, 36, zJ)))))))) else (bif Nat.blt q 120 then (bif Nat.blt q 111 then (bif Nat.blt q 107 then (bif Nat.blt q 105 then (bif Nat.blt q 104 then ((101, 36, zJ)) else ((100, 36, zI))) else (bif Nat.blt q 106 then ((4, 2, zkl [.inr 106, .inr 107])) else ((100, 36, zI)))) else (bif Nat.blt q 109 then (bif Nat.blt q 108 then ((100, 36, zI)) else ((5, 4, zkl [.inr 109, .inr 110, .inr 111, .inr 112]))) else (bif Nat.blt q 110 then ((101, 36, zJ)) else ((101, 36, zJ))))) else (bif Nat.blt q 115 then (bif Nat.blt q 113 then (bif Nat.blt q 112 then ((101, 324, zJ)) else ((100, 9, zI))) else (bif Nat.blt q 114 then ((9, 1, zkl [.inr 114])) else ((100, 36, zI)))) else (bif Nat.blt q 117 then (bif Nat.blt q 116 then ((11, 43, zkl [.inl false, .inr 116, .inr 117, .inr 118, .inr 119, .inr 120, .inl false, .inl false, .inl false, .inl false, .inl false, .inl false, .inl false, .inl false, .inr 121, .inr 122, .inr 123, .inr 124, .inr 125, .inl false, .inl false, .inl false, .inr 126, .inl false, .inr 127, .inr 128, .inl false, .inl false, .inl false, .inl false, .inl false, .inr 129, .inr 130, .inr 131, .inr 132, .inr 133, .inr 134, .inr 135, .inr 136, .inl false, .inl false, .inl false, .inl false])) else ((100, 36, zI))) else (bif Nat.blt q 118 then ((100, 36, zI)) else (bif Nat.blt q 119 then ((100, 4, zI)) else ((100, 16, zI))))))) else (bif Nat.blt q 129 then (bif Nat.blt q 124 then (bif Nat.blt q 122 then (bif Nat.blt q 121 then ((100, 36, zI)) else ((101, 36, zJ))) else (bif Nat.blt q 123 then ((101, 36, zJ)) else ((100, 8, zI)))) else (bif Nat.blt q 126 then (bif Nat.blt q 125 then ((100, 32, zI)) else ((100, 288, zI))) else (bif Nat.blt q 127 then ((100, 36, zI)) else (bif Nat.blt q 128 then ((100, 45, zI)) else ((100, 36, zI)))))) else (bif Nat.blt q 133 then (bif Nat.blt q 131 then (bif Nat.blt q 130 then ((100, 36, zI)) else ((101, 36, zJ))) else (bif Nat.blt q 132 then ((101, 36, zJ)) else ((101, 324, zJ)))) else (bif Nat.blt q 135 then (bif Nat.blt q 134 then ((100, 9, zI)) else ((100, 36, zI))) else (bif Nat.blt q 136 then ((100, 3072, zI)) else (bif Nat.blt q 137 then ((100, 512, zI)) else ((101, 1, zJ)))))))))
def zcnt : Nat := 138
def zheap (M : zM) : List XE := (List.range zcnt).map (fun q => zcell (zsh q) (M q))
def zup (M : zM) (q j : Nat) (x : Int) : zM := fun q' j' => if q' = q ∧ j' = j then x else M q' j'
def zcp (M : zM) (q0 q1 sp dp n : Nat) : zM := fun q' j' => if q' = q1 ∧ dp ≤ j' ∧ j' < dp + n then M q0 (sp + (j' - dp)) else M q' j'
def zIs (q c l : Nat) (K : Nat → zK) : Prop := q < zcnt ∧ zsh q = (c, l, K) ∧ l ≤ 4096
def zSt (a : Nat) : Prop := a = 1 ∨ a = 13 ∨ a = 27 ∨ a = 39 ∨ a = 51 ∨ a = 63 ∨ a = 75 ∨ a = 87
theorem zst_0 {a : Nat} (h : zSt a) : zIs a 6 8 (zkl [.inr (a + 1), .inr (a + 5), .inr (a + 8), .inr (a + 11), .inl false, .inl false, .inl false, .inl false]) := by
  rcases h with rfl | rfl | rfl | rfl | rfl | rfl | rfl | rfl
  all_goals exact ⟨by decide, rfl, by decide⟩
theorem zst_1 {a : Nat} (h : zSt a) : zIs (a + 1) 2 5 (zkl [.inl false, .inl false, .inr (a + 2), .inr (a + 3), .inr (a + 4)]) := by
  rcases h with rfl | rfl | rfl | rfl | rfl | rfl | rfl | rfl
  all_goals exact ⟨by decide, rfl, by decide⟩
theorem zst_2 {a : Nat} (h : zSt a) : zIs (a + 2) 100 36 zI := by
  rcases h with rfl | rfl | rfl | rfl | rfl | rfl | rfl | rfl
  all_goals exact ⟨by decide, rfl, by decide⟩
theorem zst_3 {a : Nat} (h : zSt a) : zIs (a + 3) 100 36 zI := by
  rcases h with rfl | rfl | rfl | rfl | rfl | rfl | rfl | rfl
  all_goals exact ⟨by decide, rfl, by decide⟩
theorem zst_4 {a : Nat} (h : zSt a) : zIs (a + 4) 100 144 zI := by
  rcases h with rfl | rfl | rfl | rfl | rfl | rfl | rfl | rfl
  all_goals exact ⟨by decide, rfl, by decide⟩
theorem zst_5 {a : Nat} (h : zSt a) : zIs (a + 5) 7 4 (zkl [.inr (a + 6), .inr (a + 7), .inl false, .inl false]) := by
  rcases h with rfl | rfl | rfl | rfl | rfl | rfl | rfl | rfl
  all_goals exact ⟨by decide, rfl, by decide⟩
theorem zst_6 {a : Nat} (h : zSt a) : zIs (a + 6) 100 4 zI := by
  rcases h with rfl | rfl | rfl | rfl | rfl | rfl | rfl | rfl
  all_goals exact ⟨by decide, rfl, by decide⟩
theorem zst_7 {a : Nat} (h : zSt a) : zIs (a + 7) 100 16 zI := by
  rcases h with rfl | rfl | rfl | rfl | rfl | rfl | rfl | rfl
  all_goals exact ⟨by decide, rfl, by decide⟩
theorem zst_8 {a : Nat} (h : zSt a) : zIs (a + 8) 8 5 (zkl [.inl false, .inl false, .inl false, .inr (a + 9), .inr (a + 10)]) := by
  rcases h with rfl | rfl | rfl | rfl | rfl | rfl | rfl | rfl
  all_goals exact ⟨by decide, rfl, by decide⟩
theorem zst_9 {a : Nat} (h : zSt a) : zIs (a + 9) 100 8 zI := by
  rcases h with rfl | rfl | rfl | rfl | rfl | rfl | rfl | rfl
  all_goals exact ⟨by decide, rfl, by decide⟩
theorem zst_10 {a : Nat} (h : zSt a) : zIs (a + 10) 100 288 zI := by
  rcases h with rfl | rfl | rfl | rfl | rfl | rfl | rfl | rfl
  all_goals exact ⟨by decide, rfl, by decide⟩
theorem zst_11 {a : Nat} (h : zSt a) : zIs (a + 11) 100 36 zI := by
  rcases h with rfl | rfl | rfl | rfl | rfl | rfl | rfl | rfl
  all_goals exact ⟨by decide, rfl, by decide⟩
theorem zis_0 : zIs 0 10 10 (zkl [.inr 1, .inr 13, .inl false, .inr 25, .inr 99, .inl false, .inr 101, .inr 105, .inr 108, .inr 113]) := ⟨by decide, rfl, by decide⟩
theorem zis_25 : zIs 25 0 3 (zkl [.inr 26, .inl false, .inl false]) := ⟨by decide, rfl, by decide⟩
theorem zis_26 : zIs 26 103 6 (zkl [.inr 27, .inr 39, .inr 51, .inr 63, .inr 75, .inr 87]) := ⟨by decide, rfl, by decide⟩
theorem zis_99 : zIs 99 3 2 (zkl [.inr 100, .inl false]) := ⟨by decide, rfl, by decide⟩
theorem zis_100 : zIs 100 102 45 zI := ⟨by decide, rfl, by decide⟩
theorem zis_101 : zIs 101 1 3 (zkl [.inr 102, .inr 103, .inr 104]) := ⟨by decide, rfl, by decide⟩
theorem zis_102 : zIs 102 101 36 zJ := ⟨by decide, rfl, by decide⟩
theorem zis_103 : zIs 103 101 36 zJ := ⟨by decide, rfl, by decide⟩
theorem zis_104 : zIs 104 100 36 zI := ⟨by decide, rfl, by decide⟩
theorem zis_105 : zIs 105 4 2 (zkl [.inr 106, .inr 107]) := ⟨by decide, rfl, by decide⟩
theorem zis_106 : zIs 106 100 36 zI := ⟨by decide, rfl, by decide⟩
theorem zis_107 : zIs 107 100 36 zI := ⟨by decide, rfl, by decide⟩
theorem zis_108 : zIs 108 5 4 (zkl [.inr 109, .inr 110, .inr 111, .inr 112]) := ⟨by decide, rfl, by decide⟩
theorem zis_109 : zIs 109 101 36 zJ := ⟨by decide, rfl, by decide⟩
theorem zis_110 : zIs 110 101 36 zJ := ⟨by decide, rfl, by decide⟩
theorem zis_111 : zIs 111 101 324 zJ := ⟨by decide, rfl, by decide⟩
theorem zis_112 : zIs 112 100 9 zI := ⟨by decide, rfl, by decide⟩
theorem zis_113 : zIs 113 9 1 (zkl [.inr 114]) := ⟨by decide, rfl, by decide⟩
theorem zis_114 : zIs 114 100 36 zI := ⟨by decide, rfl, by decide⟩
theorem zis_115 : zIs 115 11 43 (zkl [.inl false, .inr 116, .inr 117, .inr 118, .inr 119, .inr 120, .inl false, .inl false, .inl false, .inl false, .inl false, .inl false, .inl false, .inl false, .inr 121, .inr 122, .inr 123, .inr 124, .inr 125, .inl false, .inl false, .inl false, .inr 126, .inl false, .inr 127, .inr 128, .inl false, .inl false, .inl false, .inl false, .inl false, .inr 129, .inr 130, .inr 131, .inr 132, .inr 133, .inr 134, .inr 135, .inr 136, .inl false, .inl false, .inl false, .inl false]) := ⟨by decide, rfl, by decide⟩
theorem zis_116 : zIs 116 100 36 zI := ⟨by decide, rfl, by decide⟩
theorem zis_117 : zIs 117 100 36 zI := ⟨by decide, rfl, by decide⟩
theorem zis_118 : zIs 118 100 4 zI := ⟨by decide, rfl, by decide⟩
theorem zis_119 : zIs 119 100 16 zI := ⟨by decide, rfl, by decide⟩
theorem zis_120 : zIs 120 100 36 zI := ⟨by decide, rfl, by decide⟩
theorem zis_121 : zIs 121 101 36 zJ := ⟨by decide, rfl, by decide⟩
theorem zis_122 : zIs 122 101 36 zJ := ⟨by decide, rfl, by decide⟩
theorem zis_123 : zIs 123 100 8 zI := ⟨by decide, rfl, by decide⟩
theorem zis_124 : zIs 124 100 32 zI := ⟨by decide, rfl, by decide⟩
theorem zis_125 : zIs 125 100 288 zI := ⟨by decide, rfl, by decide⟩
theorem zis_126 : zIs 126 100 36 zI := ⟨by decide, rfl, by decide⟩
theorem zis_127 : zIs 127 100 45 zI := ⟨by decide, rfl, by decide⟩
theorem zis_128 : zIs 128 100 36 zI := ⟨by decide, rfl, by decide⟩
theorem zis_129 : zIs 129 100 36 zI := ⟨by decide, rfl, by decide⟩
theorem zis_130 : zIs 130 101 36 zJ := ⟨by decide, rfl, by decide⟩
theorem zis_131 : zIs 131 101 36 zJ := ⟨by decide, rfl, by decide⟩
theorem zis_132 : zIs 132 101 324 zJ := ⟨by decide, rfl, by decide⟩
theorem zis_133 : zIs 133 100 9 zI := ⟨by decide, rfl, by decide⟩
theorem zis_134 : zIs 134 100 36 zI := ⟨by decide, rfl, by decide⟩
theorem zis_135 : zIs 135 100 3072 zI := ⟨by decide, rfl, by decide⟩
theorem zis_136 : zIs 136 100 512 zI := ⟨by decide, rfl, by decide⟩
theorem zis_137 : zIs 137 101 1 zJ := ⟨by decide, rfl, by decide⟩
theorem zheap_at {M : zM} {q c l : Nat} {K : Nat → zK} (h : zIs q c l K) : xnth (zheap M) q = some (c, (List.range l).map (fun j => zval (K j) (M q j))) := by
  rw [xnth_eq]
  unfold zheap
  rw [List.getElem?_map, List.getElem?_range h.1]
  show some (zcell (zsh q) (M q)) = _
  rw [h.2.1]
  rfl
theorem zslot_at {f : Nat → Int} {K : Nat → zK} {l j : Nat} (h : j < l) : xnth ((List.range l).map (fun j => zval (K j) (f j))) j = some (zval (K j) (f j)) := by
  rw [xnth_eq, List.getElem?_map, List.getElem?_range h]
  rfl
theorem zslot_len {f : Nat → Int} {K : Nat → zK} {l : Nat} : ((List.range l).map (fun j => zval (K j) (f j))).length = l := by rw [List.length_map, List.length_range]
theorem zmap_set {α : Type} {F G : Nat → α} {l j : Nat} {v : α} (h : ∀ i, i < l → G i = if i = j then v else F i) : (List.range l).map G = ((List.range l).map F).set j v := by
  apply List.ext_getElem
  · simp
  · intro i h1 h2
    have hi : i < l := by simpa using h1
    rw [List.getElem_set]
    simp only [List.getElem_map, List.getElem_range]
    rw [h i hi]
    by_cases hij : i = j
    · rw [if_pos hij, if_pos hij.symm]
    · rw [if_neg hij, if_neg (Ne.symm hij)]
theorem zheap_set {M M' : zM} {q c l : Nat} {K : Nat → zK} {vs : List Value} (h : zIs q c l K) (h1 : ∀ q', q' ≠ q → M' q' = M q') (h2 : (List.range l).map (fun j => zval (K j) (M' q j)) = vs) : zheap M' = (zheap M).set q (c, vs) := by
  unfold zheap
  refine zmap_set (fun i _ => ?_)
  by_cases hi : i = q
  · subst hi
    rw [if_pos rfl]
    show zcell (zsh i) (M' i) = _
    rw [h.2.1, ← h2]
    rfl
  · rw [if_neg hi, h1 i hi]
theorem zheap_up {M : zM} {q c l j : Nat} {K : Nat → zK} {x : Int} (h : zIs q c l K) : zheap (zup M q j x) = (zheap M).set q (c, ((List.range l).map (fun j => zval (K j) (M q j))).set j (zval (K j) x)) := by
  refine zheap_set h (fun q' hq => ?_) ?_
  · funext j'
    unfold zup
    rw [if_neg (fun e => hq e.1)]
  · refine zmap_set (fun i _ => ?_)
    unfold zup
    by_cases hi : i = j
    · subst hi
      rw [if_pos ⟨rfl, rfl⟩, if_pos rfl]
    · rw [if_neg (fun e => hi e.2), if_neg hi]
theorem zheap_cp {M : zM} {q0 q1 c l0 l1 sp dp n : Nat} {K : Nat → zK} (h1 : zIs q1 c l1 K) (hK : K = zI ∨ K = zJ) (g1 : sp + n ≤ l0) (g2 : dp + n ≤ l1) : zheap (zcp M q0 q1 sp dp n) = (zheap M).set q1 (c, xcpy ((List.range l0).map (fun j => zval (K j) (M q0 j))) ((List.range l1).map (fun j => zval (K j) (M q1 j))) sp dp n) := by
  have hk : ∀ i j, K i = K j := by rcases hK with rfl | rfl <;> exact fun _ _ => rfl
  refine zheap_set h1 (fun q' hq => ?_) ?_
  · funext j'
    unfold zcp
    rw [if_neg (fun e => hq e.1)]
  · apply List.ext_getElem?
    intro i
    rw [xcpy_at (by rw [zslot_len]; exact g1) (by rw [zslot_len]; exact g2)]
    by_cases hi : i < l1
    · rw [← xnth_eq, zslot_at hi]
      unfold zcp
      by_cases hin : dp ≤ i ∧ i < dp + n
      · rw [if_pos ⟨rfl, hin⟩, if_pos hin, ← xnth_eq, zslot_at (by omega), hk i (sp + (i - dp))]
      · rw [if_neg (fun e => hin e.2), if_neg hin, ← xnth_eq, zslot_at hi]
    · rw [if_neg (by omega), List.getElem?_eq_none (by rw [zslot_len]; omega), List.getElem?_eq_none (by rw [zslot_len]; omega)]
/-! Runs of a frame. -/
def zL (ls ρ : XL) : Prop := ∀ p ∈ ρ, xgl ls p.1 = some p.2
def zW (f : XC → XS) (k N : Nat) (c : XC) (Q : XO → XW → Prop) : Prop := ∃ n c1 z o σ, n ≤ N ∧ xpow f n c c1 ∧ f c1 = some (.inr z) ∧ xfin2 k z = some (o, σ) ∧ Q o σ
def zG (f : XC → XS) (k N pc : Nat) (ρ : XL) (st : List Value) (cu su : Nat) (b : Bool) (M : zM) (Q : XO → XW → Prop) : Prop := ∀ ls, zL ls ρ → zW f k N (pc, ls, st, cu, su, (b, zheap M)) Q
theorem zW_step {f : XC → XS} {k N : Nat} {c c1 : XC} {Q : XO → XW → Prop} (h : f c = some (.inl c1)) (h1 : zW f k N c1 Q) : zW f k (N + 1) c Q := by
  obtain ⟨n, c2, z, o, σ, hn, hp, hz, hf, hq⟩ := h1
  exact ⟨n + 1, c2, z, o, σ, by omega, ⟨c1, h, hp⟩, hz, hf, hq⟩
theorem zW_mono {f : XC → XS} {k N N' : Nat} {c : XC} {Q : XO → XW → Prop} (h : N ≤ N') (h1 : zW f k N c Q) : zW f k N' c Q := by
  obtain ⟨n, c2, z, o, σ, hn, h2⟩ := h1
  exact ⟨n, c2, z, o, σ, by omega, h2⟩
theorem zG_mono {f : XC → XS} {k N N' pc : Nat} {ρ : XL} {st : List Value} {cu su : Nat} {b : Bool} {M : zM} {Q : XO → XW → Prop} (h : N ≤ N') (h1 : zG f k N pc ρ st cu su b M Q) : zG f k N' pc ρ st cu su b M Q := fun ls hl => zW_mono h (h1 ls hl)
theorem zG_sub {f : XC → XS} {k N pc : Nat} {ρ ρ' : XL} {st : List Value} {cu su : Nat} {b : Bool} {M : zM} {Q : XO → XW → Prop} (h : ∀ p ∈ ρ', p ∈ ρ) (h1 : zG f k N pc ρ' st cu su b M Q) : zG f k N pc ρ st cu su b M Q := fun ls hl => h1 ls (fun p hp => hl p (h p hp))
theorem zmem {ρ : XL} {p : Nat × Value} (i : Nat) (h : ρ[i]? = some p) : p ∈ ρ := List.mem_of_getElem? h
def zmk1 (j : Nat) (v : Value) (ρ : XL) : XL := (j, v) :: ρ.filter (xk1 j)
def zmk2 (j : Nat) (v : Value) (ρ : XL) : XL := (j, v) :: ρ.filter (xk2 j)
theorem zgl_filter {q : Nat × Value → Bool} : ∀ {ls : XL} {j : Nat} {v : Value}, xgl ls j = some v → q (j, v) = true → xgl (ls.filter q) j = some v
  | [], _, _, h, _ => by cases h
  | (i, u) :: r, j, v, h, hq => by
    have h1 : (bif Nat.beq i j then some u else xgl r j) = some v := h
    clear h
    rw [List.filter_cons]
    cases hb : Nat.beq i j with
    | true =>
      rw [hb, cond_true] at h1
      have hu := Option.some.inj h1
      have hi := Nat.eq_of_beq_eq_true hb
      rw [hi, hu, if_pos hq]
      show (bif Nat.beq j j then some v else _) = some v
      rw [Nat.beq_refl, cond_true]
    | false =>
      rw [hb, cond_false] at h1
      have ih := zgl_filter h1 hq
      split
      · show (bif Nat.beq i j then some u else xgl (r.filter q) j) = some v
        rw [hb, cond_false]
        exact ih
      · exact ih
theorem zxk1_ne {j : Nat} {p : Nat × Value} (h : xk1 j p = true) : Nat.beq j p.1 = false := by
  unfold xk1 at h
  rw [Bool.and_eq_true] at h
  have h1 := h.1
  cases hb : Nat.beq j p.1 with
  | false => rfl
  | true =>
    have e := Nat.eq_of_beq_eq_true hb
    rw [← e, Nat.beq_refl] at h1
    cases h1
theorem zxk2_ne {j : Nat} {p : Nat × Value} (h : xk2 j p = true) : Nat.beq j p.1 = false := by
  unfold xk2 at h
  rw [Bool.and_eq_true] at h
  have h1 := h.1
  cases hb : Nat.beq j p.1 with
  | false => rfl
  | true =>
    have e := Nat.eq_of_beq_eq_true hb
    rw [← e, Nat.beq_refl] at h1
    cases h1
theorem zL_1 {ls ρ : XL} {j : Nat} {v : Value} (h : zL ls ρ) : zL (xs1 ls j v) (zmk1 j v ρ) := by
  intro p hp
  rcases List.mem_cons.mp hp with rfl | hp
  · show (bif Nat.beq j j then some v else _) = some v
    rw [Nat.beq_refl, cond_true]
  · obtain ⟨hp, hq⟩ := List.mem_filter.mp hp
    show (bif Nat.beq j p.1 then some v else xgl (ls.filter (xk1 j)) p.1) = some p.2
    rw [zxk1_ne hq, cond_false]
    exact zgl_filter (h p hp) hq
theorem zL_2 {ls ρ : XL} {j : Nat} {v : Value} (h : zL ls ρ) : zL (xs2 ls j v) (zmk2 j v ρ) := by
  intro p hp
  rcases List.mem_cons.mp hp with rfl | hp
  · show (bif Nat.beq j j then some v else _) = some v
    rw [Nat.beq_refl, cond_true]
  · obtain ⟨hp, hq⟩ := List.mem_filter.mp hp
    show (bif Nat.beq j p.1 then some v else xgl (ls.filter (xk2 j)) p.1) = some p.2
    rw [zxk2_ne hq, cond_false]
    exact zgl_filter (h p hp) hq
theorem zL_f1 {ls ρ : XL} {j : Nat} (h : zL ls ρ) : zL (ls.filter (xk1 j)) (ρ.filter (xk1 j)) := by
  intro p hp
  obtain ⟨hp, hq⟩ := List.mem_filter.mp hp
  exact zgl_filter (h p hp) hq
