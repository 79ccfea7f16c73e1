/-! One lemma an instruction, over worlds of a fixed shape. -/
def zr32 (x : Int) : Prop := -2147483648 ≤ x ∧ x ≤ 2147483647
def zr64 (x : Int) : Prop := -9223372036854775808 ≤ x ∧ x ≤ 9223372036854775807
theorem zt32 {x : Int} (h : zr32 x) : (Int32.ofInt x).toInt = x := Int32.toInt_ofInt_of_le (by have := h.1; omega) (by have := h.2; omega)
theorem zt64 {x : Int} (h : zr64 x) : (Int64.ofInt x).toInt = x := Int64.toInt_ofInt_of_le (by have := h.1; omega) (by have := h.2; omega)
theorem zlt32 {x y : Int} (hx : zr32 x) (hy : zr32 y) : Int32.ofInt x < Int32.ofInt y ↔ x < y := by rw [Int32.lt_iff_toInt_lt, zt32 hx, zt32 hy]
theorem zle32 {x y : Int} (hx : zr32 x) (hy : zr32 y) : Int32.ofInt x ≤ Int32.ofInt y ↔ x ≤ y := by rw [Int32.le_iff_toInt_le, zt32 hx, zt32 hy]
theorem zeq32 {x y : Int} (hx : zr32 x) (hy : zr32 y) : Int32.ofInt x = Int32.ofInt y ↔ x = y := by rw [← Int32.toInt_inj, zt32 hx, zt32 hy]
theorem zlt64 {x y : Int} (hx : zr64 x) (hy : zr64 y) : Int64.ofInt x < Int64.ofInt y ↔ x < y := by rw [Int64.lt_iff_toInt_lt, zt64 hx, zt64 hy]
theorem zeq64 {x y : Int} (hx : zr64 x) (hy : zr64 y) : Int64.ofInt x = Int64.ofInt y ↔ x = y := by rw [← Int64.toInt_inj, zt64 hx, zt64 hy]
theorem znat32 {x : Int} (h : 0 ≤ x) : Int32.ofInt x = Int32.ofNat x.toNat := by rw [← Int32.ofInt_eq_ofNat, Int.toNat_of_nonneg h]
theorem znat64 {x : Int} (h : 0 ≤ x) : Int64.ofInt x = Int64.ofNat x.toNat := by rw [← Int64.ofInt_eq_ofNat, Int.toNat_of_nonneg h]
theorem zdiv32 {x y : Int} (hx : 0 ≤ x ∧ x ≤ 2147483647) (hy : 0 < y ∧ y ≤ 2147483647) : Int32.ofInt x / Int32.ofInt y = Int32.ofInt (x / y) := by
  rw [znat32 hx.1, znat32 (by omega : 0 ≤ y), znat32 (Int.ediv_nonneg hx.1 (by omega)), ← y_div32 (by omega) (by omega)]
  congr 1
  have h1 : ((x / y).toNat : Int) = x / y := Int.toNat_of_nonneg (Int.ediv_nonneg hx.1 (by omega))
  have h2 : ((x.toNat / y.toNat : Nat) : Int) = x / y := by rw [Int.natCast_ediv, Int.toNat_of_nonneg hx.1, Int.toNat_of_nonneg (by omega : 0 ≤ y)]
  omega
theorem zrem32 {x y : Int} (hx : 0 ≤ x ∧ x ≤ 2147483647) (hy : 0 < y ∧ y ≤ 2147483647) : Int32.ofInt x - Int32.ofInt x / Int32.ofInt y * Int32.ofInt y = Int32.ofInt (x % y) := by
  rw [zdiv32 hx hy, ← Int32.ofInt_mul, ← Int32.ofInt_sub]
  congr 1
  have := Int.mul_ediv_add_emod x y
  have h2 := Int.mul_comm y (x / y)
  omega
theorem zdiv64 {x y : Int} (hx : 0 ≤ x ∧ x ≤ 9223372036854775807) (hy : 0 < y ∧ y ≤ 9223372036854775807) : Int64.ofInt x / Int64.ofInt y = Int64.ofInt (x / y) := by
  rw [znat64 hx.1, znat64 (by omega : 0 ≤ y), znat64 (Int.ediv_nonneg hx.1 (by omega)), ← y_div64 (by omega) (by omega)]
  congr 1
  have h1 : ((x / y).toNat : Int) = x / y := Int.toNat_of_nonneg (Int.ediv_nonneg hx.1 (by omega))
  have h2 : ((x.toNat / y.toNat : Nat) : Int) = x / y := by rw [Int.natCast_ediv, Int.toNat_of_nonneg hx.1, Int.toNat_of_nonneg (by omega : 0 ≤ y)]
  omega
theorem zrem64 {x y : Int} (hx : 0 ≤ x ∧ x ≤ 9223372036854775807) (hy : 0 < y ∧ y ≤ 9223372036854775807) : Int64.ofInt x - Int64.ofInt x / Int64.ofInt y * Int64.ofInt y = Int64.ofInt (x % y) := by
  rw [zdiv64 hx hy, ← Int64.ofInt_mul, ← Int64.ofInt_sub]
  congr 1
  have := Int.mul_ediv_add_emod x y
  have h2 := Int.mul_comm y (x / y)
  omega
theorem znz32 {y : Int} (hy : 0 < y ∧ y ≤ 2147483647) : ¬ Int32.ofInt y = 0 := by
  intro e
  have e : Int32.ofInt y = Int32.ofInt 0 := e
  rw [zeq32 ⟨by omega, hy.2⟩ ⟨by decide, by decide⟩] at e
  omega
theorem znz64 {y : Int} (hy : 0 < y ∧ y ≤ 9223372036854775807) : ¬ Int64.ofInt y = 0 := by
  intro e
  have e : Int64.ofInt y = Int64.ofInt 0 := e
  rw [zeq64 ⟨by omega, hy.2⟩ ⟨by decide, by decide⟩] at e
  omega
theorem zi2l {x : Int} (h : zr32 x) : (Int32.ofInt x).toInt64 = Int64.ofInt x := by
  apply Int64.toInt_inj.mp
  rw [Int32.toInt_toInt64, zt32 h, zt64 ⟨by have := h.1; omega, by have := h.2; omega⟩]
/-- how an int compares -/
def zcd (cd : Jvm.ClassFile.Cond) (x y : Int) : Prop := match cd with
  | .eq => x = y
  | .ne => ¬ x = y
  | .lt => x < y
  | .ge => ¬ x < y
  | .gt => y < x
  | .le => ¬ y < x
theorem zcmp_e (cd : Jvm.ClassFile.Cond) {x y : Int} (hx : zr32 x) (hy : zr32 y) : y_cmp (y_cd cd) (Int32.ofInt x) (Int32.ofInt y) = true ↔ zcd cd x y := by
  cases cd with
  | eq => show decide _ = true ↔ x = y; rw [decide_eq_true_iff, zeq32 hx hy]
  | ne => show (!decide _) = true ↔ ¬ x = y; rw [← decide_not, decide_eq_true_iff, zeq32 hx hy]
  | lt => show decide _ = true ↔ x < y; rw [decide_eq_true_iff, zlt32 hx hy]
  | ge => show decide _ = true ↔ ¬ x < y; rw [decide_eq_true_iff, zle32 hy hx]; omega
  | gt => show decide _ = true ↔ y < x; rw [decide_eq_true_iff, zlt32 hy hx]
  | le => show decide _ = true ↔ ¬ y < x; rw [decide_eq_true_iff, zle32 hx hy]; omega
theorem zlcmp_e (cd : Jvm.ClassFile.Cond) {x y : Int} (hx : zr64 x) (hy : zr64 y) : y_cmp (y_cd cd) (lg_cmp (Int64.ofInt x) (Int64.ofInt y)) 0 = true ↔ zcd cd x y := by
  have h1 := zlt64 hx hy
  have h2 := zlt64 hy hx
  by_cases a : x < y
  · rw [y_cm1 (h1.mpr a)]
    cases cd with
    | eq => show false = true ↔ x = y; simp; omega
    | ne => show true = true ↔ ¬ x = y; simp; omega
    | lt => show true = true ↔ x < y; simp; omega
    | ge => show false = true ↔ ¬ x < y; simp; omega
    | gt => show false = true ↔ y < x; simp; omega
    | le => show true = true ↔ ¬ y < x; simp; omega
  · by_cases c : y < x
    · rw [y_cm2 (h2.mpr c)]
      cases cd with
      | eq => show false = true ↔ x = y; simp; omega
      | ne => show true = true ↔ ¬ x = y; simp; omega
      | lt => show false = true ↔ x < y; simp; omega
      | ge => show true = true ↔ ¬ x < y; simp; omega
      | gt => show true = true ↔ y < x; simp; omega
      | le => show false = true ↔ ¬ y < x; simp; omega
    · rw [y_cm3 (fun h => a (h1.mp h)) (fun h => c (h2.mp h))]
      cases cd with
      | eq => show true = true ↔ x = y; simp; omega
      | ne => show false = true ↔ ¬ x = y; simp; omega
      | lt => show false = true ↔ x < y; simp; omega
      | ge => show true = true ↔ ¬ x < y; simp; omega
      | gt => show false = true ↔ y < x; simp; omega
      | le => show true = true ↔ ¬ y < x; simp; omega
section ZST
variable {xrec : Nat → List Value → XW → Option (XO × XW)} {xs : List Int32} {k N pc pc' len a b cu su q : Nat} {i : Instr} {ρ ρ' : XL} {st st' : List Value} {w : Bool} {M : zM} {Q : XO → XW → Prop}
theorem zg_op (hc : xcode k pc = some (i, len, a, b)) (hp : xpl i = true) (ho : ∀ ls, zL ls ρ → ∃ ls', xop i pc a (xNl k) ls st = some (pc', ls', st') ∧ zL ls' ρ') (hn : zG (xstep xrec xs k) k N (pc') ρ' st' cu su w M Q) : zG (xstep xrec xs k) k (N + 1) (pc) ρ st cu su w M Q := by
  intro ls hl
  obtain ⟨ls', h1, h2⟩ := ho ls hl
  exact zW_step (xstep_op hc hp h1) (hn ls' h2)
theorem zg_op0 (hc : xcode k pc = some (i, len, a, b)) (hp : xpl i = true) (ho : ∀ nl ls, xop i pc a nl ls st = some (pc', ls, st')) (hn : zG (xstep xrec xs k) k N (pc') ρ st' cu su w M Q) : zG (xstep xrec xs k) k (N + 1) (pc) ρ st cu su w M Q := zg_op hc hp (fun ls hl => ⟨ls, ho _ ls, hl⟩) hn
theorem zg_st (h : ∀ ls, xstep xrec xs k (pc, ls, st, cu, su, (w, zheap M)) = some (.inl (pc', ls, st', cu, su, (w, zheap M)))) (hn : zG (xstep xrec xs k) k N (pc') ρ st' cu su w M Q) : zG (xstep xrec xs k) k (N + 1) (pc) ρ st cu su w M Q := fun ls hl => zW_step (h ls) (hn ls hl)
theorem zz_iconst {c : Int} (hc : xcode k pc = some (.iconst c, len, a, b)) (hn : zG (xstep xrec xs k) k N (pc + 1) ρ (.int (Int32.ofInt c) :: st) cu su w M Q) : zG (xstep xrec xs k) k (N + 1) (pc) ρ st cu su w M Q := zg_op0 hc rfl (fun _ _ => rfl) hn
theorem zz_bipush {c x : Int} (hc : xcode k pc = some (.bipush c, len, a, b)) (hv : (Int8.ofInt c).toInt32 = Int32.ofInt x) (hn : zG (xstep xrec xs k) k N (pc + 2) ρ (.int (Int32.ofInt x) :: st) cu su w M Q) : zG (xstep xrec xs k) k (N + 1) (pc) ρ st cu su w M Q := by rw [← hv] at hn; exact zg_op0 hc rfl (fun _ _ => rfl) hn
theorem zz_sipush {c x : Int} (hc : xcode k pc = some (.sipush c, len, a, b)) (hv : (Int16.ofInt c).toInt32 = Int32.ofInt x) (hn : zG (xstep xrec xs k) k N (pc + 3) ρ (.int (Int32.ofInt x) :: st) cu su w M Q) : zG (xstep xrec xs k) k (N + 1) (pc) ρ st cu su w M Q := by rw [← hv] at hn; exact zg_op0 hc rfl (fun _ _ => rfl) hn
theorem zz_lconst {c : Fin 2} {x : Int} (hc : xcode k pc = some (.lconst c, len, a, b)) (hv : Int64.ofNat c = Int64.ofInt x) (hn : zG (xstep xrec xs k) k N (pc + 1) ρ (.long (Int64.ofInt x) :: st) cu su w M Q) : zG (xstep xrec xs k) k (N + 1) (pc) ρ st cu su w M Q := by rw [← hv] at hn; exact zg_op0 hc rfl (fun _ _ => rfl) hn
theorem zz_ldc {ix : Nat} {v : Value} (hc : xcode k pc = some (.ldc ix, len, a, b)) (hv : xnth xcon a = some v) (hn : zG (xstep xrec xs k) k N (pc + 2) ρ (v :: st) cu su w M Q) : zG (xstep xrec xs k) k (N + 1) (pc) ρ st cu su w M Q := zg_st (fun ls => by unfold xstep; dsimp only; rw [hc]; dsimp only; rw [hv]) hn
theorem zz_ldc_w {ix : Nat} {v : Value} (hc : xcode k pc = some (.ldc_w ix, len, a, b)) (hv : xnth xcon a = some v) (hn : zG (xstep xrec xs k) k N (pc + 3) ρ (v :: st) cu su w M Q) : zG (xstep xrec xs k) k (N + 1) (pc) ρ st cu su w M Q := zg_st (fun ls => by unfold xstep; dsimp only; rw [hc]; dsimp only; rw [hv]) hn
theorem zz_ldc2_w {ix : Nat} {v : Value} (hc : xcode k pc = some (.ldc2_w ix, len, a, b)) (hv : xnth xcon a = some v) (hn : zG (xstep xrec xs k) k N (pc + 3) ρ (v :: st) cu su w M Q) : zG (xstep xrec xs k) k (N + 1) (pc) ρ st cu su w M Q := zg_st (fun ls => by unfold xstep; dsimp only; rw [hc]; dsimp only; rw [hv]) hn
theorem zz_iload_n {jj : Fin 4} {x} (hc : xcode k pc = some (.iload_n jj, len, a, b)) (hm : (jj.val, Value.int x) ∈ ρ) (hn : zG (xstep xrec xs k) k N (pc + 1) ρ (.int x :: st) cu su w M Q) : zG (xstep xrec xs k) k (N + 1) (pc) ρ st cu su w M Q := zg_op hc rfl (fun ls hl => ⟨ls, by have h := hl _ hm; dsimp only at h; unfold xop; dsimp only; rw [h], hl⟩) hn
theorem zz_iload {j : Nat} {x} (hc : xcode k pc = some (.iload j, len, a, b)) (hm : (j, Value.int x) ∈ ρ) (hn : zG (xstep xrec xs k) k N (pc + 2) ρ (.int x :: st) cu su w M Q) : zG (xstep xrec xs k) k (N + 1) (pc) ρ st cu su w M Q := zg_op hc rfl (fun ls hl => ⟨ls, by have h := hl _ hm; dsimp only at h; unfold xop; dsimp only; rw [h], hl⟩) hn
theorem zz_lload_n {jj : Fin 4} {x} (hc : xcode k pc = some (.lload_n jj, len, a, b)) (hm : (jj.val, Value.long x) ∈ ρ) (hn : zG (xstep xrec xs k) k N (pc + 1) ρ (.long x :: st) cu su w M Q) : zG (xstep xrec xs k) k (N + 1) (pc) ρ st cu su w M Q := zg_op hc rfl (fun ls hl => ⟨ls, by have h := hl _ hm; dsimp only at h; unfold xop; dsimp only; rw [h], hl⟩) hn
theorem zz_lload {j : Nat} {x} (hc : xcode k pc = some (.lload j, len, a, b)) (hm : (j, Value.long x) ∈ ρ) (hn : zG (xstep xrec xs k) k N (pc + 2) ρ (.long x :: st) cu su w M Q) : zG (xstep xrec xs k) k (N + 1) (pc) ρ st cu su w M Q := zg_op hc rfl (fun ls hl => ⟨ls, by have h := hl _ hm; dsimp only at h; unfold xop; dsimp only; rw [h], hl⟩) hn
theorem zz_aload_n {jj : Fin 4} {x} (hc : xcode k pc = some (.aload_n jj, len, a, b)) (hm : (jj.val, Value.ref x) ∈ ρ) (hn : zG (xstep xrec xs k) k N (pc + 1) ρ (.ref x :: st) cu su w M Q) : zG (xstep xrec xs k) k (N + 1) (pc) ρ st cu su w M Q := zg_op hc rfl (fun ls hl => ⟨ls, by have h := hl _ hm; dsimp only at h; unfold xop; dsimp only; rw [h], hl⟩) hn
theorem zz_aload {j : Nat} {x} (hc : xcode k pc = some (.aload j, len, a, b)) (hm : (j, Value.ref x) ∈ ρ) (hn : zG (xstep xrec xs k) k N (pc + 2) ρ (.ref x :: st) cu su w M Q) : zG (xstep xrec xs k) k (N + 1) (pc) ρ st cu su w M Q := zg_op hc rfl (fun ls hl => ⟨ls, by have h := hl _ hm; dsimp only at h; unfold xop; dsimp only; rw [h], hl⟩) hn
theorem zz_dload_n {jj : Fin 4} {x} (hc : xcode k pc = some (.dload_n jj, len, a, b)) (hm : (jj.val, Value.double x) ∈ ρ) (hn : zG (xstep xrec xs k) k N (pc + 1) ρ (.double x :: st) cu su w M Q) : zG (xstep xrec xs k) k (N + 1) (pc) ρ st cu su w M Q := zg_op hc rfl (fun ls hl => ⟨ls, by have h := hl _ hm; dsimp only at h; unfold xop; dsimp only; rw [h], hl⟩) hn
theorem zz_dload {j : Nat} {x} (hc : xcode k pc = some (.dload j, len, a, b)) (hm : (j, Value.double x) ∈ ρ) (hn : zG (xstep xrec xs k) k N (pc + 2) ρ (.double x :: st) cu su w M Q) : zG (xstep xrec xs k) k (N + 1) (pc) ρ st cu su w M Q := zg_op hc rfl (fun ls hl => ⟨ls, by have h := hl _ hm; dsimp only at h; unfold xop; dsimp only; rw [h], hl⟩) hn
theorem zz_fload_n {jj : Fin 4} {x} (hc : xcode k pc = some (.fload_n jj, len, a, b)) (hm : (jj.val, Value.float x) ∈ ρ) (hn : zG (xstep xrec xs k) k N (pc + 1) ρ (.float x :: st) cu su w M Q) : zG (xstep xrec xs k) k (N + 1) (pc) ρ st cu su w M Q := zg_op hc rfl (fun ls hl => ⟨ls, by have h := hl _ hm; dsimp only at h; unfold xop; dsimp only; rw [h], hl⟩) hn
theorem zz_fload {j : Nat} {x} (hc : xcode k pc = some (.fload j, len, a, b)) (hm : (j, Value.float x) ∈ ρ) (hn : zG (xstep xrec xs k) k N (pc + 2) ρ (.float x :: st) cu su w M Q) : zG (xstep xrec xs k) k (N + 1) (pc) ρ st cu su w M Q := zg_op hc rfl (fun ls hl => ⟨ls, by have h := hl _ hm; dsimp only at h; unfold xop; dsimp only; rw [h], hl⟩) hn
theorem zz_istore_n {jj : Fin 4} {x} (hc : xcode k pc = some (.istore_n jj, len, a, b)) (hl : Nat.blt jj.val (xNl k) = true) (hn : zG (xstep xrec xs k) k N (pc + 1) (zmk1 jj.val (.int x) ρ) st cu su w M Q) : zG (xstep xrec xs k) k (N + 1) (pc) ρ (.int x :: st) cu su w M Q := zg_op hc rfl (fun ls h => ⟨_, by unfold xop; dsimp only; rw [if_pos (y_blt_t hl)], zL_1 h⟩) hn
theorem zz_istore {j : Nat} {x} (hc : xcode k pc = some (.istore j, len, a, b)) (hl : Nat.blt j (xNl k) = true) (hn : zG (xstep xrec xs k) k N (pc + 2) (zmk1 j (.int x) ρ) st cu su w M Q) : zG (xstep xrec xs k) k (N + 1) (pc) ρ (.int x :: st) cu su w M Q := zg_op hc rfl (fun ls h => ⟨_, by unfold xop; dsimp only; rw [if_pos (y_blt_t hl)], zL_1 h⟩) hn
theorem zz_astore_n {jj : Fin 4} {x} (hc : xcode k pc = some (.astore_n jj, len, a, b)) (hl : Nat.blt jj.val (xNl k) = true) (hn : zG (xstep xrec xs k) k N (pc + 1) (zmk1 jj.val (.ref x) ρ) st cu su w M Q) : zG (xstep xrec xs k) k (N + 1) (pc) ρ (.ref x :: st) cu su w M Q := zg_op hc rfl (fun ls h => ⟨_, by unfold xop; dsimp only; rw [if_pos (y_blt_t hl)], zL_1 h⟩) hn
theorem zz_astore {j : Nat} {x} (hc : xcode k pc = some (.astore j, len, a, b)) (hl : Nat.blt j (xNl k) = true) (hn : zG (xstep xrec xs k) k N (pc + 2) (zmk1 j (.ref x) ρ) st cu su w M Q) : zG (xstep xrec xs k) k (N + 1) (pc) ρ (.ref x :: st) cu su w M Q := zg_op hc rfl (fun ls h => ⟨_, by unfold xop; dsimp only; rw [if_pos (y_blt_t hl)], zL_1 h⟩) hn
theorem zz_lstore_n {jj : Fin 4} {x} (hc : xcode k pc = some (.lstore_n jj, len, a, b)) (hl : Nat.blt (jj.val + 1) (xNl k) = true) (hn : zG (xstep xrec xs k) k N (pc + 1) (zmk2 jj.val (.long x) ρ) st cu su w M Q) : zG (xstep xrec xs k) k (N + 1) (pc) ρ (.long x :: st) cu su w M Q := zg_op hc rfl (fun ls h => ⟨_, by unfold xop; dsimp only; rw [if_pos (y_blt_t hl)], zL_2 h⟩) hn
theorem zz_lstore {j : Nat} {x} (hc : xcode k pc = some (.lstore j, len, a, b)) (hl : Nat.blt (j + 1) (xNl k) = true) (hn : zG (xstep xrec xs k) k N (pc + 2) (zmk2 j (.long x) ρ) st cu su w M Q) : zG (xstep xrec xs k) k (N + 1) (pc) ρ (.long x :: st) cu su w M Q := zg_op hc rfl (fun ls h => ⟨_, by unfold xop; dsimp only; rw [if_pos (y_blt_t hl)], zL_2 h⟩) hn
theorem zz_dstore_n {jj : Fin 4} {x} (hc : xcode k pc = some (.dstore_n jj, len, a, b)) (hl : Nat.blt (jj.val + 1) (xNl k) = true) (hn : zG (xstep xrec xs k) k N (pc + 1) (zmk2 jj.val (.double x) ρ) st cu su w M Q) : zG (xstep xrec xs k) k (N + 1) (pc) ρ (.double x :: st) cu su w M Q := zg_op hc rfl (fun ls h => ⟨_, by unfold xop; dsimp only; rw [if_pos (y_blt_t hl)], zL_2 h⟩) hn
theorem zz_dstore {j : Nat} {x} (hc : xcode k pc = some (.dstore j, len, a, b)) (hl : Nat.blt (j + 1) (xNl k) = true) (hn : zG (xstep xrec xs k) k N (pc + 2) (zmk2 j (.double x) ρ) st cu su w M Q) : zG (xstep xrec xs k) k (N + 1) (pc) ρ (.double x :: st) cu su w M Q := zg_op hc rfl (fun ls h => ⟨_, by unfold xop; dsimp only; rw [if_pos (y_blt_t hl)], zL_2 h⟩) hn
theorem zz_fstore_n {jj : Fin 4} {x} (hc : xcode k pc = some (.fstore_n jj, len, a, b)) (hl : Nat.blt jj.val (xNl k) = true) (hn : zG (xstep xrec xs k) k N (pc + 1) (zmk1 jj.val (.float x) ρ) st cu su w M Q) : zG (xstep xrec xs k) k (N + 1) (pc) ρ (.float x :: st) cu su w M Q := zg_op hc rfl (fun ls h => ⟨_, by unfold xop; dsimp only; rw [if_pos (y_blt_t hl)], zL_1 h⟩) hn
theorem zz_fstore {j : Nat} {x} (hc : xcode k pc = some (.fstore j, len, a, b)) (hl : Nat.blt j (xNl k) = true) (hn : zG (xstep xrec xs k) k N (pc + 2) (zmk1 j (.float x) ρ) st cu su w M Q) : zG (xstep xrec xs k) k (N + 1) (pc) ρ (.float x :: st) cu su w M Q := zg_op hc rfl (fun ls h => ⟨_, by unfold xop; dsimp only; rw [if_pos (y_blt_t hl)], zL_1 h⟩) hn
theorem zz_iinc {j : Nat} {x c : Int} (hc : xcode k pc = some (.iinc j c, len, a, b)) (hm : (j, Value.int (Int32.ofInt x)) ∈ ρ) (hl : Nat.blt j (xNl k) = true) (hn : zG (xstep xrec xs k) k N (pc + 3) (zmk1 j (.int (Int32.ofInt (x + c))) ρ) st cu su w M Q) : zG (xstep xrec xs k) k (N + 1) (pc) ρ st cu su w M Q := zg_op hc rfl (fun ls h => ⟨_, by have h2 := h _ hm; dsimp only at h2; unfold xop; dsimp only; rw [h2]; dsimp only; rw [if_pos (y_blt_t hl), ← Int32.ofInt_add], zL_1 h⟩) hn
theorem zz_iadd {x y : Int} (hc : xcode k pc = some (.iadd, len, a, b)) (hn : zG (xstep xrec xs k) k N (pc + 1) ρ (.int (Int32.ofInt (x + y)) :: st) cu su w M Q) : zG (xstep xrec xs k) k (N + 1) (pc) ρ (.int (Int32.ofInt y) :: .int (Int32.ofInt x) :: st) cu su w M Q := by rw [Int32.ofInt_add] at hn; exact zg_op0 hc rfl (fun _ _ => rfl) hn
theorem zz_isub {x y : Int} (hc : xcode k pc = some (.isub, len, a, b)) (hn : zG (xstep xrec xs k) k N (pc + 1) ρ (.int (Int32.ofInt (x - y)) :: st) cu su w M Q) : zG (xstep xrec xs k) k (N + 1) (pc) ρ (.int (Int32.ofInt y) :: .int (Int32.ofInt x) :: st) cu su w M Q := by rw [Int32.ofInt_sub] at hn; exact zg_op0 hc rfl (fun _ _ => rfl) hn
theorem zz_imul {x y : Int} (hc : xcode k pc = some (.imul, len, a, b)) (hn : zG (xstep xrec xs k) k N (pc + 1) ρ (.int (Int32.ofInt (x * y)) :: st) cu su w M Q) : zG (xstep xrec xs k) k (N + 1) (pc) ρ (.int (Int32.ofInt y) :: .int (Int32.ofInt x) :: st) cu su w M Q := by rw [Int32.ofInt_mul] at hn; exact zg_op0 hc rfl (fun _ _ => rfl) hn
theorem zz_ladd {x y : Int} (hc : xcode k pc = some (.ladd, len, a, b)) (hn : zG (xstep xrec xs k) k N (pc + 1) ρ (.long (Int64.ofInt (x + y)) :: st) cu su w M Q) : zG (xstep xrec xs k) k (N + 1) (pc) ρ (.long (Int64.ofInt y) :: .long (Int64.ofInt x) :: st) cu su w M Q := by rw [Int64.ofInt_add] at hn; exact zg_op0 hc rfl (fun _ _ => rfl) hn
theorem zz_lsub {x y : Int} (hc : xcode k pc = some (.lsub, len, a, b)) (hn : zG (xstep xrec xs k) k N (pc + 1) ρ (.long (Int64.ofInt (x - y)) :: st) cu su w M Q) : zG (xstep xrec xs k) k (N + 1) (pc) ρ (.long (Int64.ofInt y) :: .long (Int64.ofInt x) :: st) cu su w M Q := by rw [Int64.ofInt_sub] at hn; exact zg_op0 hc rfl (fun _ _ => rfl) hn
theorem zz_lmul {x y : Int} (hc : xcode k pc = some (.lmul, len, a, b)) (hn : zG (xstep xrec xs k) k N (pc + 1) ρ (.long (Int64.ofInt (x * y)) :: st) cu su w M Q) : zG (xstep xrec xs k) k (N + 1) (pc) ρ (.long (Int64.ofInt y) :: .long (Int64.ofInt x) :: st) cu su w M Q := by rw [Int64.ofInt_mul] at hn; exact zg_op0 hc rfl (fun _ _ => rfl) hn
theorem zz_idiv {x y : Int} (hc : xcode k pc = some (.idiv, len, a, b)) (hx : 0 ≤ x ∧ x ≤ 2147483647) (hy : 0 < y ∧ y ≤ 2147483647) (hn : zG (xstep xrec xs k) k N (pc + 1) ρ (.int (Int32.ofInt (x / y)) :: st) cu su w M Q) : zG (xstep xrec xs k) k (N + 1) (pc) ρ (.int (Int32.ofInt y) :: .int (Int32.ofInt x) :: st) cu su w M Q := by rw [← zdiv32 hx hy] at hn; exact zg_op0 hc rfl (fun _ _ => by unfold xop; dsimp only; rw [if_neg (znz32 hy)]) hn
theorem zz_irem {x y : Int} (hc : xcode k pc = some (.irem, len, a, b)) (hx : 0 ≤ x ∧ x ≤ 2147483647) (hy : 0 < y ∧ y ≤ 2147483647) (hn : zG (xstep xrec xs k) k N (pc + 1) ρ (.int (Int32.ofInt (x % y)) :: st) cu su w M Q) : zG (xstep xrec xs k) k (N + 1) (pc) ρ (.int (Int32.ofInt y) :: .int (Int32.ofInt x) :: st) cu su w M Q := by rw [← zrem32 hx hy] at hn; exact zg_op0 hc rfl (fun _ _ => by unfold xop; dsimp only; rw [if_neg (znz32 hy)]) hn
theorem zz_ldiv {x y : Int} (hc : xcode k pc = some (.ldiv, len, a, b)) (hx : 0 ≤ x ∧ x ≤ 9223372036854775807) (hy : 0 < y ∧ y ≤ 9223372036854775807) (hn : zG (xstep xrec xs k) k N (pc + 1) ρ (.long (Int64.ofInt (x / y)) :: st) cu su w M Q) : zG (xstep xrec xs k) k (N + 1) (pc) ρ (.long (Int64.ofInt y) :: .long (Int64.ofInt x) :: st) cu su w M Q := by rw [← zdiv64 hx hy] at hn; exact zg_op0 hc rfl (fun _ _ => by unfold xop; dsimp only; rw [if_neg (znz64 hy)]) hn
theorem zz_lrem {x y : Int} (hc : xcode k pc = some (.lrem, len, a, b)) (hx : 0 ≤ x ∧ x ≤ 9223372036854775807) (hy : 0 < y ∧ y ≤ 9223372036854775807) (hn : zG (xstep xrec xs k) k N (pc + 1) ρ (.long (Int64.ofInt (x % y)) :: st) cu su w M Q) : zG (xstep xrec xs k) k (N + 1) (pc) ρ (.long (Int64.ofInt y) :: .long (Int64.ofInt x) :: st) cu su w M Q := by rw [← zrem64 hx hy] at hn; exact zg_op0 hc rfl (fun _ _ => by unfold xop; dsimp only; rw [if_neg (znz64 hy)]) hn
theorem zz_iand {x y z : Int} (hc : xcode k pc = some (.iand, len, a, b)) (hz : (Int32.ofInt x &&& Int32.ofInt y) = Int32.ofInt z) (hn : zG (xstep xrec xs k) k N (pc + 1) ρ (.int (Int32.ofInt z) :: st) cu su w M Q) : zG (xstep xrec xs k) k (N + 1) (pc) ρ (.int (Int32.ofInt y) :: .int (Int32.ofInt x) :: st) cu su w M Q := by rw [← hz] at hn; exact zg_op0 hc rfl (fun _ _ => rfl) hn
theorem zz_ior {x y z : Int} (hc : xcode k pc = some (.ior, len, a, b)) (hz : (Int32.ofInt x ||| Int32.ofInt y) = Int32.ofInt z) (hn : zG (xstep xrec xs k) k N (pc + 1) ρ (.int (Int32.ofInt z) :: st) cu su w M Q) : zG (xstep xrec xs k) k (N + 1) (pc) ρ (.int (Int32.ofInt y) :: .int (Int32.ofInt x) :: st) cu su w M Q := by rw [← hz] at hn; exact zg_op0 hc rfl (fun _ _ => rfl) hn
theorem zz_ishl {x y z : Int} (hc : xcode k pc = some (.ishl, len, a, b)) (hz : (Int32.ofInt x <<< (Int32.ofInt y &&& 31)) = Int32.ofInt z) (hn : zG (xstep xrec xs k) k N (pc + 1) ρ (.int (Int32.ofInt z) :: st) cu su w M Q) : zG (xstep xrec xs k) k (N + 1) (pc) ρ (.int (Int32.ofInt y) :: .int (Int32.ofInt x) :: st) cu su w M Q := by rw [← hz] at hn; exact zg_op0 hc rfl (fun _ _ => rfl) hn
theorem zz_iushr {x y z : Int} (hc : xcode k pc = some (.iushr, len, a, b)) (hz : ((Int32.ofInt x).toUInt32 >>> ((Int32.ofInt y).toUInt32 &&& Int32.toUInt32 31)).toInt32 = Int32.ofInt z) (hn : zG (xstep xrec xs k) k N (pc + 1) ρ (.int (Int32.ofInt z) :: st) cu su w M Q) : zG (xstep xrec xs k) k (N + 1) (pc) ρ (.int (Int32.ofInt y) :: .int (Int32.ofInt x) :: st) cu su w M Q := by rw [← hz] at hn; exact zg_op0 hc rfl (fun _ _ => rfl) hn
theorem zz_i2l {x : Int} (hc : xcode k pc = some (.i2l, len, a, b)) (hx : zr32 x) (hn : zG (xstep xrec xs k) k N (pc + 1) ρ (.long (Int64.ofInt x) :: st) cu su w M Q) : zG (xstep xrec xs k) k (N + 1) (pc) ρ (.int (Int32.ofInt x) :: st) cu su w M Q := by rw [← zi2l hx] at hn; exact zg_op0 hc rfl (fun _ _ => rfl) hn
theorem zz_l2i {x : Int} (hc : xcode k pc = some (.l2i, len, a, b)) (hn : zG (xstep xrec xs k) k N (pc + 1) ρ (.int (Int32.ofInt x) :: st) cu su w M Q) : zG (xstep xrec xs k) k (N + 1) (pc) ρ (.long (Int64.ofInt x) :: st) cu su w M Q := by rw [← Int64.toInt32_ofInt] at hn; exact zg_op0 hc rfl (fun _ _ => rfl) hn
theorem zi2c {x : Int} (hx : 0 ≤ x ∧ x ≤ 65535) : ((Int32.ofInt x).toUInt32 % 65536).toInt32 = Int32.ofInt x := by rw [znat32 hx.1, y_i2c_e, Nat.mod_eq_of_lt (by omega)]
theorem zz_i2c {x : Int} (hc : xcode k pc = some (.i2c, len, a, b)) (hx : 0 ≤ x ∧ x ≤ 65535) (hn : zG (xstep xrec xs k) k N (pc + 1) ρ (.int (Int32.ofInt x) :: st) cu su w M Q) : zG (xstep xrec xs k) k (N + 1) (pc) ρ (.int (Int32.ofInt x) :: st) cu su w M Q := by rw [← zi2c hx] at hn; exact zg_op0 hc rfl (fun _ _ => rfl) hn
theorem zz_dup_i {x} (hc : xcode k pc = some (.dup, len, a, b)) (hn : zG (xstep xrec xs k) k N (pc + 1) ρ (.int x :: .int x :: st) cu su w M Q) : zG (xstep xrec xs k) k (N + 1) (pc) ρ (.int x :: st) cu su w M Q := zg_op0 hc rfl (fun _ _ => rfl) hn
theorem zz_dup_r {x} (hc : xcode k pc = some (.dup, len, a, b)) (hn : zG (xstep xrec xs k) k N (pc + 1) ρ (.ref x :: .ref x :: st) cu su w M Q) : zG (xstep xrec xs k) k (N + 1) (pc) ρ (.ref x :: st) cu su w M Q := zg_op0 hc rfl (fun _ _ => rfl) hn
theorem zz_dup2_ir {x y} (hc : xcode k pc = some (.dup2, len, a, b)) (hn : zG (xstep xrec xs k) k N (pc + 1) ρ (.int y :: .ref x :: .int y :: .ref x :: st) cu su w M Q) : zG (xstep xrec xs k) k (N + 1) (pc) ρ (.int y :: .ref x :: st) cu su w M Q := zg_op0 hc rfl (fun _ _ => rfl) hn
theorem zz_dup2_j {x} (hc : xcode k pc = some (.dup2, len, a, b)) (hn : zG (xstep xrec xs k) k N (pc + 1) ρ (.long x :: .long x :: st) cu su w M Q) : zG (xstep xrec xs k) k (N + 1) (pc) ρ (.long x :: st) cu su w M Q := zg_op0 hc rfl (fun _ _ => rfl) hn
theorem zz_pop2 {x} (hc : xcode k pc = some (.pop2, len, a, b)) (hn : zG (xstep xrec xs k) k N (pc + 1) ρ st cu su w M Q) : zG (xstep xrec xs k) k (N + 1) (pc) ρ (.long x :: st) cu su w M Q := zg_op0 hc rfl (fun _ _ => rfl) hn
theorem zz_pop {x} (hc : xcode k pc = some (.pop, len, a, b)) (hn : zG (xstep xrec xs k) k N (pc + 1) ρ st cu su w M Q) : zG (xstep xrec xs k) k (N + 1) (pc) ρ (.int x :: st) cu su w M Q := zg_op0 hc rfl (fun _ _ => rfl) hn
theorem zz_goto {o : Int} (hc : xcode k pc = some (.goto o, len, a, b)) (hn : zG (xstep xrec xs k) k N (a) ρ st cu su w M Q) : zG (xstep xrec xs k) k (N + 1) (pc) ρ st cu su w M Q := zg_op0 hc rfl (fun _ _ => rfl) hn
theorem zz_ifnull {o : Int} {x} (hc : xcode k pc = some (.ifnull o, len, a, b)) (hn : zG (xstep xrec xs k) k N (pc + 3) ρ st cu su w M Q) : zG (xstep xrec xs k) k (N + 1) (pc) ρ (.ref x :: st) cu su w M Q := zg_op0 hc rfl (fun _ _ => rfl) hn
theorem zz_if {cd : Jvm.ClassFile.Cond} {o x : Int} (hc : xcode k pc = some (.ifCond cd o, len, a, b)) (hx : zr32 x) (ht : zcd cd x 0 → zG (xstep xrec xs k) k N (a) ρ st cu su w M Q) (hf : ¬ zcd cd x 0 → zG (xstep xrec xs k) k N (pc + 3) ρ st cu su w M Q) : zG (xstep xrec xs k) k (N + 1) (pc) ρ (.int (Int32.ofInt x) :: st) cu su w M Q := by
  have h0 : y_cmp (y_cd cd) (Int32.ofInt x) 0 = true ↔ zcd cd x 0 := zcmp_e cd hx (y := 0) ⟨by decide, by decide⟩
  by_cases h : zcd cd x 0
  · refine zg_op0 hc rfl (fun nl ls => ?_) (ht h)
    rw [y_if_e2, if_pos (h0.mpr h)]
  · refine zg_op0 hc rfl (fun nl ls => ?_) (hf h)
    rw [y_if_e2, if_neg (fun e => h (h0.mp e))]
theorem zz_icmp {cd : Jvm.ClassFile.Cond} {o x y : Int} (hc : xcode k pc = some (.if_icmp cd o, len, a, b)) (hx : zr32 x) (hy : zr32 y) (ht : zcd cd x y → zG (xstep xrec xs k) k N (a) ρ st cu su w M Q) (hf : ¬ zcd cd x y → zG (xstep xrec xs k) k N (pc + 3) ρ st cu su w M Q) : zG (xstep xrec xs k) k (N + 1) (pc) ρ (.int (Int32.ofInt y) :: .int (Int32.ofInt x) :: st) cu su w M Q := by
  have h0 := zcmp_e cd hx hy
  by_cases h : zcd cd x y
  · refine zg_op0 hc rfl (fun nl ls => ?_) (ht h)
    rw [y_icmp_e2, if_pos (h0.mpr h)]
  · refine zg_op0 hc rfl (fun nl ls => ?_) (hf h)
    rw [y_icmp_e2, if_neg (fun e => h (h0.mp e))]
theorem zz_lcmp {cd : Jvm.ClassFile.Cond} {o x y : Int} {len2 a2 b2 : Nat} (hc : xcode k pc = some (.lcmp, len, a, b)) (hc2 : xcode k (pc + 1) = some (.ifCond cd o, len2, a2, b2)) (hx : zr64 x) (hy : zr64 y) (ht : zcd cd x y → zG (xstep xrec xs k) k N (a2) ρ st cu su w M Q) (hf : ¬ zcd cd x y → zG (xstep xrec xs k) k N (pc + 4) ρ st cu su w M Q) : zG (xstep xrec xs k) k (N + 2) (pc) ρ (.long (Int64.ofInt y) :: .long (Int64.ofInt x) :: st) cu su w M Q := by
  have h0 := zlcmp_e cd hx hy
  refine zg_op0 hc rfl (fun _ _ => rfl) (?_ : zG (xstep xrec xs k) k (N + 1) (pc + 1) ρ (.int (lg_cmp (Int64.ofInt x) (Int64.ofInt y)) :: st) cu su w M Q)
  by_cases h : zcd cd x y
  · refine zg_op0 hc2 rfl (fun nl ls => ?_) (ht h)
    rw [y_if_e2, if_pos (h0.mpr h)]
  · refine zg_op0 hc2 rfl (fun nl ls => ?_) (hf h)
    rw [y_if_e2, if_neg (fun e => h (h0.mp e))]
theorem zz_getI {l : Nat} {K : Nat → zK} {ix : Nat} (hc : xcode k pc = some (.getfield ix, len, a, b)) (hs : zIs q a l K) (hb : b < l) (hk : K b = .inl false) (hn : zG (xstep xrec xs k) k N (pc + 3) ρ (.int (Int32.ofInt (M q b)) :: st) cu su w M Q) : zG (xstep xrec xs k) k (N + 1) (pc) ρ (.ref q :: st) cu su w M Q := zg_st (fun ls => (xs_getf hc (zheap_at hs) (zslot_at hb)).trans (by rw [hk]; rfl)) hn
theorem zz_getR {l r : Nat} {K : Nat → zK} {ix : Nat} (hc : xcode k pc = some (.getfield ix, len, a, b)) (hs : zIs q a l K) (hb : b < l) (hk : K b = .inr r) (hn : zG (xstep xrec xs k) k N (pc + 3) ρ (.ref r :: st) cu su w M Q) : zG (xstep xrec xs k) k (N + 1) (pc) ρ (.ref q :: st) cu su w M Q := zg_st (fun ls => (xs_getf hc (zheap_at hs) (zslot_at hb)).trans (by rw [hk]; rfl)) hn
theorem zg_w {M' : zM} (h : ∀ ls, xstep xrec xs k (pc, ls, st, cu, su, (w, zheap M)) = some (.inl (pc', ls, st', cu, su, (w, zheap M')))) (hn : zG (xstep xrec xs k) k N (pc') ρ st' cu su w M' Q) : zG (xstep xrec xs k) k (N + 1) (pc) ρ st cu su w M Q := fun ls hl => zW_step (h ls) (hn ls hl)
theorem zz_putI {l : Nat} {K : Nat → zK} {ix : Nat} {x : Int} (hc : xcode k pc = some (.putfield ix, len, a, b)) (hs : zIs q a l K) (hb : b < l) (hk : K b = .inl false) (hf : xfty a b = .int) (hn : zG (xstep xrec xs k) k N (pc + 3) ρ st cu su w (zup M q b x) Q) : zG (xstep xrec xs k) k (N + 1) (pc) ρ (.int (Int32.ofInt x) :: .ref q :: st) cu su w M Q := zg_w (fun ls => (xs_putf hc (zheap_at hs) (by rw [hf]; rfl) (by rw [zslot_len]; exact hb)).trans (by rw [zheap_up hs, hk]; rfl)) hn
theorem zz_putZ {l : Nat} {K : Nat → zK} {ix : Nat} {x : Int} (hc : xcode k pc = some (.putfield ix, len, a, b)) (hs : zIs q a l K) (hb : b < l) (hk : K b = .inl false) (hf : xfty a b = .boolean) (hx : x = 0 ∨ x = 1) (hn : zG (xstep xrec xs k) k N (pc + 3) ρ st cu su w (zup M q b x) Q) : zG (xstep xrec xs k) k (N + 1) (pc) ρ (.int (Int32.ofInt x) :: .ref q :: st) cu su w M Q := zg_w (fun ls => (xs_putf hc (zheap_at hs) (by rw [hf]; rcases hx with rfl | rfl <;> rfl) (by rw [zslot_len]; exact hb)).trans (by rw [zheap_up hs, hk]; rfl)) hn
theorem zxin {j : Int} {l : Nat} (h : 0 ≤ j ∧ j < l) (hl : l ≤ 4096) : xin (Int32.ofInt j) l = true ∧ (Int32.ofInt j).toNatClampNeg = j.toNat ∧ j.toNat < l := by
  have hj : j.toNat < l := by omega
  rw [znat32 h.1]
  exact ⟨y_xin hj hl, y_tnc hj hl, hj⟩
theorem zz_iald {l : Nat} {j : Int} (hc : xcode k pc = some (.iaload, len, a, b)) (hs : zIs q 100 l zI) (hj : 0 ≤ j ∧ j < (l : Int)) (hn : zG (xstep xrec xs k) k N (pc + 1) ρ (.int (Int32.ofInt (M q j.toNat)) :: st) cu su w M Q) : zG (xstep xrec xs k) k (N + 1) (pc) ρ (.int (Int32.ofInt j) :: .ref q :: st) cu su w M Q := by obtain ⟨h1, h2, h3⟩ := zxin hj hs.2.2; exact zg_st (fun ls => xs_iald hc (zheap_at hs) (by rw [zslot_len]; exact h1) (by rw [h2]; exact zslot_at h3)) hn
theorem zz_cald {l : Nat} {j : Int} (hc : xcode k pc = some (.caload, len, a, b)) (hs : zIs q 102 l zI) (hj : 0 ≤ j ∧ j < (l : Int)) (hn : zG (xstep xrec xs k) k N (pc + 1) ρ (.int (Int32.ofInt (M q j.toNat)) :: st) cu su w M Q) : zG (xstep xrec xs k) k (N + 1) (pc) ρ (.int (Int32.ofInt j) :: .ref q :: st) cu su w M Q := by obtain ⟨h1, h2, h3⟩ := zxin hj hs.2.2; exact zg_st (fun ls => xs_cald hc (zheap_at hs) (by rw [zslot_len]; exact h1) (by rw [h2]; exact zslot_at h3)) hn
theorem zz_lald {l : Nat} {j : Int} (hc : xcode k pc = some (.laload, len, a, b)) (hs : zIs q 101 l zJ) (hj : 0 ≤ j ∧ j < (l : Int)) (hn : zG (xstep xrec xs k) k N (pc + 1) ρ (.long (Int64.ofInt (M q j.toNat)) :: st) cu su w M Q) : zG (xstep xrec xs k) k (N + 1) (pc) ρ (.int (Int32.ofInt j) :: .ref q :: st) cu su w M Q := by obtain ⟨h1, h2, h3⟩ := zxin hj hs.2.2; exact zg_st (fun ls => xs_lald hc (zheap_at hs) (by rw [zslot_len]; exact h1) (by rw [h2]; exact zslot_at h3)) hn
theorem zz_iast {l : Nat} {j x : Int} (hc : xcode k pc = some (.iastore, len, a, b)) (hs : zIs q 100 l zI) (hj : 0 ≤ j ∧ j < (l : Int)) (hn : zG (xstep xrec xs k) k N (pc + 1) ρ st cu su w (zup M q j.toNat x) Q) : zG (xstep xrec xs k) k (N + 1) (pc) ρ (.int (Int32.ofInt x) :: .int (Int32.ofInt j) :: .ref q :: st) cu su w M Q := by obtain ⟨h1, h2, h3⟩ := zxin hj hs.2.2; exact zg_w (fun ls => (xs_iast hc (zheap_at hs) (by rw [zslot_len]; exact h1)).trans (by rw [zheap_up hs, h2]; rfl)) hn
theorem zz_last {l : Nat} {j x : Int} (hc : xcode k pc = some (.lastore, len, a, b)) (hs : zIs q 101 l zJ) (hj : 0 ≤ j ∧ j < (l : Int)) (hn : zG (xstep xrec xs k) k N (pc + 1) ρ st cu su w (zup M q j.toNat x) Q) : zG (xstep xrec xs k) k (N + 1) (pc) ρ (.long (Int64.ofInt x) :: .int (Int32.ofInt j) :: .ref q :: st) cu su w M Q := by obtain ⟨h1, h2, h3⟩ := zxin hj hs.2.2; exact zg_w (fun ls => (xs_last hc (zheap_at hs) (by rw [zslot_len]; exact h1)).trans (by rw [zheap_up hs, h2]; rfl)) hn
theorem zz_cast {l : Nat} {j x : Int} (hc : xcode k pc = some (.castore, len, a, b)) (hs : zIs q 102 l zI) (hj : 0 ≤ j ∧ j < (l : Int)) (hx : 0 ≤ x ∧ x ≤ 65535) (hn : zG (xstep xrec xs k) k N (pc + 1) ρ st cu su w (zup M q j.toNat x) Q) : zG (xstep xrec xs k) k (N + 1) (pc) ρ (.int (Int32.ofInt x) :: .int (Int32.ofInt j) :: .ref q :: st) cu su w M Q := by obtain ⟨h1, h2, h3⟩ := zxin hj hs.2.2; exact zg_w (fun ls => (xs_cast hc (zheap_at hs) (by rw [zslot_len]; exact h1) (by rw [znat32 hx.1]; exact y_char (by omega))).trans (by rw [zheap_up hs, h2]; rfl)) hn
theorem zz_aald {l r : Nat} {K : Nat → zK} {j : Int} (hc : xcode k pc = some (.aaload, len, a, b)) (hs : zIs q 103 l K) (hj : 0 ≤ j ∧ j < (l : Int)) (hk : K j.toNat = .inr r) (hn : zG (xstep xrec xs k) k N (pc + 1) ρ (.ref r :: st) cu su w M Q) : zG (xstep xrec xs k) k (N + 1) (pc) ρ (.int (Int32.ofInt j) :: .ref q :: st) cu su w M Q := by obtain ⟨h1, h2, h3⟩ := zxin hj hs.2.2; exact zg_st (fun ls => xs_aald hc (zheap_at hs) (by rw [zslot_len]; exact h1) (by rw [h2, zslot_at h3, hk]; rfl)) hn
theorem zz_alen {c l : Nat} {K : Nat → zK} (hc : xcode k pc = some (.arraylength, len, a, b)) (hs : zIs q c l K) (hq : 100 ≤ c) (hn : zG (xstep xrec xs k) k N (pc + 1) ρ (.int (Int32.ofInt l) :: st) cu su w M Q) : zG (xstep xrec xs k) k (N + 1) (pc) ρ (.ref q :: st) cu su w M Q := zg_st (fun ls => by
  unfold xstep; dsimp only; rw [hc]; dsimp only; rw [zheap_at hs]; dsimp only
  rw [show Nat.ble 100 c = true from Nat.ble_eq_true_of_le hq, cond_true, zslot_len, Int32.ofInt_eq_ofNat]) hn
theorem zz_acpy {c l0 l1 q0 : Nat} {K : Nat → zK} {ix : Nat} {sp dp n : Int} (hc : xcode k pc = some (.invokestatic ix, len, 0, 1)) (hst : (Nat.ble 1 (xFr k) && Nat.ble 38 (xLo k)) = true) (hr : Nat.ble (xcat st) 8 = true) (hs0 : zIs q0 c l0 K) (hs1 : zIs q c l1 K) (hK : (c = 100 ∧ K = zI) ∨ (c = 101 ∧ K = zJ)) (h0 : 0 < l0) (h1 : 0 ≤ sp) (h2 : 0 ≤ dp) (h3 : 0 ≤ n) (g1 : sp + n ≤ l0) (g2 : dp + n ≤ l1) (hn : zG (xstep xrec xs k) k N (pc + 3) ρ st cu su w (zcp M q0 q sp.toNat dp.toNat n.toNat) Q) : zG (xstep xrec xs k) k (N + 1) (pc) ρ (.int (Int32.ofInt n) :: .int (Int32.ofInt dp) :: .ref q :: .int (Int32.ofInt sp) :: .ref q0 :: st) cu su w M Q := by
  have hfa : xfa c ((List.range l0).map (fun j => zval (K j) (M q0 j))) = true := by
    unfold xfa
    refine List.all_eq_true.mpr (fun v hv => ?_)
    obtain ⟨i, -, rfl⟩ := List.mem_map.mp hv
    rcases hK with ⟨rfl, rfl⟩ | ⟨rfl, rfl⟩ <;> rfl
  refine zg_w (fun ls => ?_) hn
  rw [znat32 h1, znat32 h2, znat32 h3, zheap_cp hs1 (hK.imp (fun h => h.2) (fun h => h.2)) (l0 := l0) (by omega) (by omega)]
  exact xs_acpy hc (zheap_at hs0) (zheap_at hs1) (by rcases hK with ⟨rfl, _⟩ | ⟨rfl, _⟩ <;> decide) hfa (by rw [zslot_len]; exact h0) (by rw [zslot_len]; exact hs0.2.2) (by rw [zslot_len]; exact hs1.2.2) (by rw [zslot_len]; omega) (by rw [zslot_len]; omega) hst (xble hr)
theorem zz_raw_iand {x y : Int} (hc : xcode k pc = some (.iand, len, a, b)) (hn : ∀ z : Int, (Int32.ofInt x &&& Int32.ofInt y) = Int32.ofInt z → zG (xstep xrec xs k) k N (pc + 1) ρ (.int (Int32.ofInt z) :: st) cu su w M Q) : zG (xstep xrec xs k) k (N + 1) (pc) ρ (.int (Int32.ofInt y) :: .int (Int32.ofInt x) :: st) cu su w M Q := zz_iand hc (Int32.ofInt_toInt _).symm (hn _ (Int32.ofInt_toInt _).symm)
theorem zz_raw_ior {x y : Int} (hc : xcode k pc = some (.ior, len, a, b)) (hn : ∀ z : Int, (Int32.ofInt x ||| Int32.ofInt y) = Int32.ofInt z → zG (xstep xrec xs k) k N (pc + 1) ρ (.int (Int32.ofInt z) :: st) cu su w M Q) : zG (xstep xrec xs k) k (N + 1) (pc) ρ (.int (Int32.ofInt y) :: .int (Int32.ofInt x) :: st) cu su w M Q := zz_ior hc (Int32.ofInt_toInt _).symm (hn _ (Int32.ofInt_toInt _).symm)
theorem zz_raw_ishl {x y : Int} (hc : xcode k pc = some (.ishl, len, a, b)) (hn : ∀ z : Int, (Int32.ofInt x <<< (Int32.ofInt y &&& 31)) = Int32.ofInt z → zG (xstep xrec xs k) k N (pc + 1) ρ (.int (Int32.ofInt z) :: st) cu su w M Q) : zG (xstep xrec xs k) k (N + 1) (pc) ρ (.int (Int32.ofInt y) :: .int (Int32.ofInt x) :: st) cu su w M Q := zz_ishl hc (Int32.ofInt_toInt _).symm (hn _ (Int32.ofInt_toInt _).symm)
theorem zz_raw_iushr {x y : Int} (hc : xcode k pc = some (.iushr, len, a, b)) (hn : ∀ z : Int, ((Int32.ofInt x).toUInt32 >>> ((Int32.ofInt y).toUInt32 &&& Int32.toUInt32 31)).toInt32 = Int32.ofInt z → zG (xstep xrec xs k) k N (pc + 1) ρ (.int (Int32.ofInt z) :: st) cu su w M Q) : zG (xstep xrec xs k) k (N + 1) (pc) ρ (.int (Int32.ofInt y) :: .int (Int32.ofInt x) :: st) cu su w M Q := zz_iushr hc (Int32.ofInt_toInt _).symm (hn _ (Int32.ofInt_toInt _).symm)
def z_sw (pc : Nat) (d hi : Int) (offs : Array Int) (ts : List Nat) (dd : Nat) : Bool := decide (ts = offs.toList.map (fun o => ((pc : Int) + o).toNat)) && (offs.toList.all (fun o => decide (0 ≤ (pc : Int) + o)) && (decide (0 ≤ (pc : Int) + d ∧ ((pc : Int) + d).toNat = dd) && (decide ((offs.size : Int) = hi + 1) && Nat.ble offs.size 4096)))
theorem z_sw_e {x d hi : Int} {offs : Array Int} {ts : List Nat} {dd nl : Nat} {ls : XL} {r : List Value} (hx : zr32 x) (h : z_sw pc d hi offs ts dd = true) : xop (.tableswitch d 0 hi offs) pc a nl ls (.int (Int32.ofInt x) :: r) = some ((if x < 0 then dd else y_nth dd ts x.toNat), ls, r) := by
  unfold z_sw at h
  obtain ⟨h1, h⟩ := xand h
  obtain ⟨h2, h⟩ := xand h
  obtain ⟨h3, h⟩ := xand h
  obtain ⟨h4, h5⟩ := xand h
  have h1 := xdb h1
  have h4 := xdb h4
  have h5 := xble h5
  by_cases hn : x < 0
  · rw [if_pos hn]
    have e : Int32.ofInt x = Int32.ofNat (x + 4294967296).toNat := by
      apply Int32.toInt_inj.mp
      have := hx.1
      rw [zt32 hx, y_ti32]
      omega
    rw [e, y_tsw_e pc a nl ls r d hi offs ts dd _ (by have := hx.1; omega) h1 h2 (xdb h3) h4 h5, y_nth_e, List.getD_eq_getElem?_getD, List.getElem?_eq_none]
    · rfl
    · rw [h1, List.length_map, Array.length_toList]
      have := hx.1
      omega
  · rw [if_neg hn, znat32 (by omega), y_tsw_e pc a nl ls r d hi offs ts dd _ (by have := hx.2; omega) h1 h2 (xdb h3) h4 h5]
theorem zz_sw3 {x d hi : Int} {offs : Array Int} {t0 t1 t2 td : Nat} (hc : xcode k pc = some (.tableswitch d 0 hi offs, len, a, b)) (hx : zr32 x) (hst : z_sw pc d hi offs [t0, t1, t2] td = true) (a0 : x = 0 → zG (xstep xrec xs k) k N (t0) ρ st cu su w M Q) (a1 : x = 1 → zG (xstep xrec xs k) k N (t1) ρ st cu su w M Q) (a2 : x = 2 → zG (xstep xrec xs k) k N (t2) ρ st cu su w M Q) (ad : (x < 0 ∨ 2 < x) → zG (xstep xrec xs k) k N (td) ρ st cu su w M Q) : zG (xstep xrec xs k) k (N + 1) (pc) ρ (.int (Int32.ofInt x) :: st) cu su w M Q := by
  by_cases h0 : x = 0
  · exact zg_op0 hc rfl (fun nl ls => (z_sw_e hx hst).trans (by rw [h0]; rfl)) (a0 h0)
  by_cases h1 : x = 1
  · exact zg_op0 hc rfl (fun nl ls => (z_sw_e hx hst).trans (by rw [h1]; rfl)) (a1 h1)
  by_cases h2 : x = 2
  · exact zg_op0 hc rfl (fun nl ls => (z_sw_e hx hst).trans (by rw [h2]; rfl)) (a2 h2)
  refine zg_op0 hc rfl (fun nl ls => (z_sw_e hx hst).trans ?_) (ad (by omega))
  by_cases hneg : x < 0
  · rw [if_pos hneg]
  · rw [if_neg hneg, y_nth_e, List.getD_eq_getElem?_getD, List.getElem?_eq_none (by show 3 ≤ x.toNat; omega)]
    rfl
theorem zz_sw4 {x d hi : Int} {offs : Array Int} {t0 t1 t2 t3 td : Nat} (hc : xcode k pc = some (.tableswitch d 0 hi offs, len, a, b)) (hx : zr32 x) (hst : z_sw pc d hi offs [t0, t1, t2, t3] td = true) (a0 : x = 0 → zG (xstep xrec xs k) k N (t0) ρ st cu su w M Q) (a1 : x = 1 → zG (xstep xrec xs k) k N (t1) ρ st cu su w M Q) (a2 : x = 2 → zG (xstep xrec xs k) k N (t2) ρ st cu su w M Q) (a3 : x = 3 → zG (xstep xrec xs k) k N (t3) ρ st cu su w M Q) (ad : (x < 0 ∨ 3 < x) → zG (xstep xrec xs k) k N (td) ρ st cu su w M Q) : zG (xstep xrec xs k) k (N + 1) (pc) ρ (.int (Int32.ofInt x) :: st) cu su w M Q := by
  by_cases h0 : x = 0
  · exact zg_op0 hc rfl (fun nl ls => (z_sw_e hx hst).trans (by rw [h0]; rfl)) (a0 h0)
  by_cases h1 : x = 1
  · exact zg_op0 hc rfl (fun nl ls => (z_sw_e hx hst).trans (by rw [h1]; rfl)) (a1 h1)
  by_cases h2 : x = 2
  · exact zg_op0 hc rfl (fun nl ls => (z_sw_e hx hst).trans (by rw [h2]; rfl)) (a2 h2)
  by_cases h3 : x = 3
  · exact zg_op0 hc rfl (fun nl ls => (z_sw_e hx hst).trans (by rw [h3]; rfl)) (a3 h3)
  refine zg_op0 hc rfl (fun nl ls => (z_sw_e hx hst).trans ?_) (ad (by omega))
  by_cases hneg : x < 0
  · rw [if_pos hneg]
  · rw [if_neg hneg, y_nth_e, List.getD_eq_getElem?_getD, List.getElem?_eq_none (by show 4 ≤ x.toNat; omega)]
    rfl
theorem zz_sw7 {x d hi : Int} {offs : Array Int} {t0 t1 t2 t3 t4 t5 t6 td : Nat} (hc : xcode k pc = some (.tableswitch d 0 hi offs, len, a, b)) (hx : zr32 x) (hst : z_sw pc d hi offs [t0, t1, t2, t3, t4, t5, t6] td = true) (a0 : x = 0 → zG (xstep xrec xs k) k N (t0) ρ st cu su w M Q) (a1 : x = 1 → zG (xstep xrec xs k) k N (t1) ρ st cu su w M Q) (a2 : x = 2 → zG (xstep xrec xs k) k N (t2) ρ st cu su w M Q) (a3 : x = 3 → zG (xstep xrec xs k) k N (t3) ρ st cu su w M Q) (a4 : x = 4 → zG (xstep xrec xs k) k N (t4) ρ st cu su w M Q) (a5 : x = 5 → zG (xstep xrec xs k) k N (t5) ρ st cu su w M Q) (a6 : x = 6 → zG (xstep xrec xs k) k N (t6) ρ st cu su w M Q) (ad : (x < 0 ∨ 6 < x) → zG (xstep xrec xs k) k N (td) ρ st cu su w M Q) : zG (xstep xrec xs k) k (N + 1) (pc) ρ (.int (Int32.ofInt x) :: st) cu su w M Q := by
  by_cases h0 : x = 0
  · exact zg_op0 hc rfl (fun nl ls => (z_sw_e hx hst).trans (by rw [h0]; rfl)) (a0 h0)
  by_cases h1 : x = 1
  · exact zg_op0 hc rfl (fun nl ls => (z_sw_e hx hst).trans (by rw [h1]; rfl)) (a1 h1)
  by_cases h2 : x = 2
  · exact zg_op0 hc rfl (fun nl ls => (z_sw_e hx hst).trans (by rw [h2]; rfl)) (a2 h2)
  by_cases h3 : x = 3
  · exact zg_op0 hc rfl (fun nl ls => (z_sw_e hx hst).trans (by rw [h3]; rfl)) (a3 h3)
  by_cases h4 : x = 4
  · exact zg_op0 hc rfl (fun nl ls => (z_sw_e hx hst).trans (by rw [h4]; rfl)) (a4 h4)
  by_cases h5 : x = 5
  · exact zg_op0 hc rfl (fun nl ls => (z_sw_e hx hst).trans (by rw [h5]; rfl)) (a5 h5)
  by_cases h6 : x = 6
  · exact zg_op0 hc rfl (fun nl ls => (z_sw_e hx hst).trans (by rw [h6]; rfl)) (a6 h6)
  refine zg_op0 hc rfl (fun nl ls => (z_sw_e hx hst).trans ?_) (ad (by omega))
  by_cases hneg : x < 0
  · rw [if_pos hneg]
  · rw [if_neg hneg, y_nth_e, List.getD_eq_getElem?_getD, List.getElem?_eq_none (by show 7 ≤ x.toNat; omega)]
    rfl
noncomputable def zb (p : Prop) : Int := @ite _ p (Classical.propDecidable p) 1 0
theorem zb_t {p : Prop} (h : p) : zb p = 1 := if_pos h
theorem zb_f {p : Prop} (h : ¬ p) : zb p = 0 := if_neg h
theorem zb_01 (p : Prop) : zb p = 0 ∨ zb p = 1 := by
  by_cases h : p
  · exact Or.inr (zb_t h)
  · exact Or.inl (zb_f h)
theorem zb_c {p q : Prop} (h : p ↔ q) : zb p = zb q := by rw [show p = q from propext h]
theorem zz_ifbne {o : Int} {p : Prop} (hc : xcode k pc = some (.ifCond .ne o, len, a, b)) (ht : p → zG (xstep xrec xs k) k N (a) ρ st cu su w M Q) (hf : ¬ p → zG (xstep xrec xs k) k N (pc + 3) ρ st cu su w M Q) : zG (xstep xrec xs k) k (N + 1) (pc) ρ (.int (Int32.ofInt (zb p)) :: st) cu su w M Q := zz_if hc (by rcases zb_01 p with h | h <;> rw [h] <;> exact ⟨by decide, by decide⟩) (fun h => ht (Classical.byContradiction fun hp => h (zb_f hp))) (fun h => hf (fun hp => h (by show ¬ zb p = 0; rw [zb_t hp]; decide)))
theorem zz_ifbeq {o : Int} {p : Prop} (hc : xcode k pc = some (.ifCond .eq o, len, a, b)) (ht : ¬ p → zG (xstep xrec xs k) k N (a) ρ st cu su w M Q) (hf : ¬ ¬ p → zG (xstep xrec xs k) k N (pc + 3) ρ st cu su w M Q) : zG (xstep xrec xs k) k (N + 1) (pc) ρ (.int (Int32.ofInt (zb p)) :: st) cu su w M Q := zz_if hc (by rcases zb_01 p with h | h <;> rw [h] <;> exact ⟨by decide, by decide⟩) (fun h => ht (fun hp => by have h : zb p = 0 := h; rw [zb_t hp] at h; cases h)) (fun h => hf (fun hp => h (zb_f hp)))
theorem zG_ro (h : ρ = ρ') (hn : zG (xstep xrec xs k) k N (pc) ρ' st cu su w M Q) : zG (xstep xrec xs k) k N (pc) ρ st cu su w M Q := by rw [h]; exact hn
theorem zm_as {m : zM} (h : ∀ M', M' = m → zG (xstep xrec xs k) k N (pc) ρ st cu su w M' Q) : zG (xstep xrec xs k) k N (pc) ρ st cu su w m Q := h m rfl
theorem zz_or (c : Prop) (h1 : c → zG (xstep xrec xs k) k N (pc) ρ st cu su w M Q) (h2 : ¬ c → zG (xstep xrec xs k) k N (pc) ρ st cu su w M Q) : zG (xstep xrec xs k) k N (pc) ρ st cu su w M Q := by
  by_cases h : c
  · exact h1 h
  · exact h2 h
theorem zz_ireturn {x} (hc : xcode k pc = some (.ireturn, len, a, b)) (hr : xRet k = some .int) (h1 : cu ≤ xMc k) (h2 : su ≤ xMs k) (hq : Q (.inl (some (.int x))) (w, zheap M)) : zG (xstep xrec xs k) k N (pc) ρ [.int x] cu su w M Q := fun ls hl => ⟨0, _, ((pc, ls, [.int x], cu, su, (w, zheap M)), none), _, _, Nat.zero_le _, rfl, (by unfold xstep; dsimp only; rw [hc]), xs_fin (c := (pc, ls, [.int x], cu, su, (w, zheap M))) hc (by rw [hr]; rfl) h1 h2 (by unfold xfin; dsimp only; rw [hr]), hq⟩
theorem zz_lreturn {x} (hc : xcode k pc = some (.lreturn, len, a, b)) (hr : xRet k = some .long) (h1 : cu ≤ xMc k) (h2 : su ≤ xMs k) (hq : Q (.inl (some (.long x))) (w, zheap M)) : zG (xstep xrec xs k) k N (pc) ρ [.long x] cu su w M Q := fun ls hl => ⟨0, _, ((pc, ls, [.long x], cu, su, (w, zheap M)), none), _, _, Nat.zero_le _, rfl, (by unfold xstep; dsimp only; rw [hc]), xs_fin (c := (pc, ls, [.long x], cu, su, (w, zheap M))) hc (by rw [hr]; rfl) h1 h2 (by unfold xfin; dsimp only; rw [hr]), hq⟩
theorem zz_zreturn {x : Int} (hc : xcode k pc = some (.ireturn, len, a, b)) (hr : xRet k = some .boolean) (h1 : cu ≤ xMc k) (h2 : su ≤ xMs k) (hx : x = 0 ∨ x = 1) (hq : Q (.inl (some (.int (Int32.ofInt x)))) (w, zheap M)) : zG (xstep xrec xs k) k N (pc) ρ [.int (Int32.ofInt x)] cu su w M Q := fun ls hl => ⟨0, _, ((pc, ls, [.int (Int32.ofInt x)], cu, su, (w, zheap M)), none), _, _, Nat.zero_le _, rfl, (by unfold xstep; dsimp only; rw [hc]), xs_fin (c := (pc, ls, [.int (Int32.ofInt x)], cu, su, (w, zheap M))) (o := .inl (some (.int (Int32.ofInt x)))) hc (by rw [hr]; rfl) h1 h2 (by unfold xfin; dsimp only; rw [hr]; rcases hx with rfl | rfl <;> rfl), hq⟩
theorem zz_return (hc : xcode k pc = some (.return_, len, a, b)) (hr : xRet k = none) (h1 : cu ≤ xMc k) (h2 : su ≤ xMs k) (hq : Q (.inl none) (w, zheap M)) : zG (xstep xrec xs k) k N (pc) ρ [] cu su w M Q := fun ls hl => ⟨0, _, ((pc, ls, [], cu, su, (w, zheap M)), none), _, _, Nat.zero_le _, rfl, (by unfold xstep; dsimp only; rw [hc]), xs_fin (c := (pc, ls, [], cu, su, (w, zheap M))) hc (by rw [hr]; rfl) h1 h2 (by unfold xfin; dsimp only; rw [hr]), hq⟩
theorem zz_thr {ix : Nat} (hc : xcode k pc = some (.new ix, len, a, b + 1)) (hst : (Nat.ble 6 (xFr k) && Nat.ble 90 (xLo k)) = true) (hr : Nat.ble (xcat st) 8 = true) (h1 : cu + 1 ≤ xMc k) (h2 : su + 6 ≤ xMs k) (hq : Q (.inr a) (false, zheap M)) : zG (xstep xrec xs k) k N (pc) ρ st cu su w M Q := by
  obtain ⟨s1, s2⟩ := xand hst
  have h3 : Nat.ble (xcat st + 82) (xLo k) = true := Nat.ble_eq_true_of_le (by have := xble s2; have := xble hr; omega)
  refine fun ls hl => ⟨0, _, ((pc, ls, st, cu, su, (w, zheap M)), some a), _, _, Nat.zero_le _, rfl, ?_, ?_, hq⟩
  · unfold xstep; dsimp only; rw [hc]; dsimp only
    rw [s1, h3, show Nat.ble (cu + 1) (xMc k) = true from Nat.ble_eq_true_of_le h1, show Nat.ble (su + 6) (xMs k) = true from Nat.ble_eq_true_of_le h2]
    rfl
  · unfold xfin2
    dsimp only
    rw [show Nat.ble cu (xMc k) = true from Nat.ble_eq_true_of_le (by omega), show Nat.ble su (xMs k) = true from Nat.ble_eq_true_of_le (by omega)]
    rfl
/-- behind a call -/
theorem zg_call {as : List Value} {o : XO} {w' : Bool} {M' : zM} {st0 : List Value} (hx : ∀ ls, xstep xrec xs k (pc, ls, st0, cu, su, (w, zheap M)) = xback k a pc ls st cu su (xrec a as (w, zheap M))) (hr : xrec a as (w, zheap M) = some (o, (w', zheap M'))) (h1 : cu + xMc a ≤ xMc k) (h2 : su + xMs a ≤ xMs k)
    (hv : ∀ v, o = .inl (some v) → zG (xstep xrec xs k) k N (pc + 3) ρ (v :: st) (cu + xMc a) (su + xMs a) w' M' Q) (hz : o = .inl none → zG (xstep xrec xs k) k N (pc + 3) ρ st (cu + xMc a) (su + xMs a) w' M' Q)
    (he : ∀ E, o = .inr E → xhnd (xHh k) pc E = none → Q (.inr E) (false, zheap M')) (hh : ∀ E h t j, o = .inr E → xhnd (xHh k) pc E = some h → xh2 k h = some (t, j) → zG (xstep xrec xs k) k N (t) (ρ.filter (xk1 j)) [] (cu + xMc a) (su + xMs a) w' M' Q) (hhc : ∀ E h, xhnd (xHh k) pc E = some h → ∃ t j, xh2 k h = some (t, j)) : zG (xstep xrec xs k) k (N + 1) (pc) ρ st0 cu su w M Q := by
  intro ls hl
  have hx := hx ls
  rw [hr] at hx
  rcases o with (_ | v) | E
  · exact zW_step (hx.trans rfl) (hz rfl ls hl)
  · exact zW_step (hx.trans rfl) (hv v rfl ls hl)
  · cases hq : xhnd (xHh k) pc E with
    | none =>
      refine ⟨0, _, ((pc, ls, st, cu + xMc a, su + xMs a, (w', zheap M')), some E), _, _, Nat.zero_le _, rfl, ?_, ?_, he E rfl hq⟩
      · rw [hx]
        unfold xback
        dsimp only
        rw [hq]
      · unfold xfin2
        dsimp only
        rw [show Nat.ble (cu + xMc a) (xMc k) = true from Nat.ble_eq_true_of_le h1, show Nat.ble (su + xMs a) (xMs k) = true from Nat.ble_eq_true_of_le h2]
        rfl
    | some h =>
      obtain ⟨t, j, ht⟩ := hhc E h hq
      refine zW_step ?_ (hh E h t j rfl hq ht (ls.filter (xk1 j)) (zL_f1 hl))
      rw [hx]
      unfold xback
      dsimp only
      rw [hq]
      dsimp only
      unfold xh2 at ht
      split at ht
      · next j0 e0 hc0 =>
        rw [hc0]
        dsimp only
        cases hb : Nat.blt j0 (xNl k) with
        | false => rw [hb] at ht; cases ht
        | true =>
          rw [hb, cond_true] at ht
          cases ht
          rfl
      · next j0 e0 hc0 =>
        rw [hc0]
        dsimp only
        cases hb : Nat.blt j0 (xNl k) with
        | false => rw [hb] at ht; cases ht
        | true =>
          rw [hb, cond_true] at ht
          cases ht
          rfl
      · cases ht
/-- what a call asks of the tables -/
def z_rm (k a : Nat) (st : List Value) (cu su : Nat) : Bool := y_rst k a && (Nat.ble (xcat st) 8 && (Nat.ble (cu + xMc a) (xMc k) && Nat.ble (su + xMs a) (xMs k)))
theorem z_rm_e (h : z_rm k a st cu su = true) : xroom k a st cu su = true ∧ cu + xMc a ≤ xMc k ∧ su + xMs a ≤ xMs k := by
  unfold z_rm y_rst at h
  obtain ⟨h1, h⟩ := xand h
  obtain ⟨h2, h⟩ := xand h
  obtain ⟨h3, h4⟩ := xand h
  obtain ⟨h5, h6⟩ := xand h1
  refine ⟨?_, xble h3, xble h4⟩
  unfold xroom
  rw [h2, h5, h6, h3, h4]
  rfl
/-- a call that returns a value -/
theorem zz_call_v {as st0 : List Value} {v : Value} {w' : Bool} {M' : zM} (hx : ∀ ls, xroom k a st cu su = true → xstep xrec xs k (pc, ls, st0, cu, su, (w, zheap M)) = xback k a pc ls st cu su (xrec a as (w, zheap M))) (hrm : z_rm k a st cu su = true) (hr : xrec a as (w, zheap M) = some (.inl (some v), (w', zheap M'))) (hn : zG (xstep xrec xs k) k N (pc + 3) ρ (v :: st) (cu + xMc a) (su + xMs a) w' M' Q) : zG (xstep xrec xs k) k (N + 1) (pc) ρ st0 cu su w M Q := by
  obtain ⟨g0, g1, g2⟩ := z_rm_e hrm
  intro ls hl
  have hx := hx ls g0
  rw [hr] at hx
  exact zW_step (hx.trans rfl) (hn ls hl)
theorem zz_call_0 {as st0 : List Value} {w' : Bool} {M' : zM} (hx : ∀ ls, xroom k a st cu su = true → xstep xrec xs k (pc, ls, st0, cu, su, (w, zheap M)) = xback k a pc ls st cu su (xrec a as (w, zheap M))) (hrm : z_rm k a st cu su = true) (hr : xrec a as (w, zheap M) = some (.inl none, (w', zheap M'))) (hn : zG (xstep xrec xs k) k N (pc + 3) ρ st (cu + xMc a) (su + xMs a) w' M' Q) : zG (xstep xrec xs k) k (N + 1) (pc) ρ st0 cu su w M Q := by
  obtain ⟨g0, g1, g2⟩ := z_rm_e hrm
  intro ls hl
  have hx := hx ls g0
  rw [hr] at hx
  exact zW_step (hx.trans rfl) (hn ls hl)
/-- a call that throws, no handler here -/
theorem zz_call_e {as st0 : List Value} {E : Nat} {w' : Bool} {M' : zM} (hx : ∀ ls, xroom k a st cu su = true → xstep xrec xs k (pc, ls, st0, cu, su, (w, zheap M)) = xback k a pc ls st cu su (xrec a as (w, zheap M))) (hrm : z_rm k a st cu su = true) (hh : xhnd (xHh k) pc E = none) (hr : xrec a as (w, zheap M) = some (.inr E, (w', zheap M'))) (hq : Q (.inr E) (false, zheap M')) : zG (xstep xrec xs k) k N (pc) ρ st0 cu su w M Q := by
  obtain ⟨g0, g1, g2⟩ := z_rm_e hrm
  intro ls hl
  have hx := hx ls g0
  rw [hr] at hx
  refine ⟨0, _, ((pc, ls, st, cu + xMc a, su + xMs a, (w', zheap M')), some E), _, _, Nat.zero_le _, rfl, ?_, ?_, hq⟩
  · rw [hx]
    unfold xback
    dsimp only
    rw [hh]
  · unfold xfin2
    dsimp only
    rw [show Nat.ble (cu + xMc a) (xMc k) = true from Nat.ble_eq_true_of_le g1, show Nat.ble (su + xMs a) (xMs k) = true from Nat.ble_eq_true_of_le g2]
    rfl
theorem zz_calS {as : List Value} {st0 : List Value} {ix : Nat} (hc : xcode k pc = some (.invokestatic ix, len, a, 0)) (hs : xsplit (xNa a) st0 [] = some (as, st)) (ls : XL) (hr : xroom k a st cu su = true) : xstep xrec xs k (pc, ls, st0, cu, su, (w, zheap M)) = xback k a pc ls st cu su (xrec a as (w, zheap M)) := xs_calS hc hs hr
theorem zz_calI {as : List Value} {st0 : List Value} {ix : Nat} (hb : b = 0 ∨ b = 1) (hc : xcode k pc = some (.invokespecial ix, len, a, b)) (hs : xsplit (xNa a) st0 [] = some (as, .ref q :: st)) (ls : XL) (hr : xroom k a st cu su = true) : xstep xrec xs k (pc, ls, st0, cu, su, (w, zheap M)) = xback k a pc ls st cu su (xrec a (.ref q :: as) (w, zheap M)) := xs_calI hb hc hs hr
theorem zz_calV {as : List Value} {st0 : List Value} {ix l : Nat} {K : Nat → zK} (hc : xcode k pc = some (.invokevirtual ix, len, a, b)) (hs : xsplit (xNa a) st0 [] = some (as, .ref q :: st)) (hi : zIs q (xK a) l K) (ls : XL) (hr : xroom k a st cu su = true) : xstep xrec xs k (pc, ls, st0, cu, su, (w, zheap M)) = xback k a pc ls st cu su (xrec a (.ref q :: as) (w, zheap M)) := xs_calV hc hs (zheap_at hi) rfl hr
end ZST
/-- a method's run -/
theorem zrun_e {xs : List Int32} {d k N : Nat} {av : List Value} {w : Bool} {M : zM} {Q : XO → XW → Prop} (hN : N < 1048576) (ha : Nat.ble (xcat av) (xNl k) = true) (h : zG (xstep (xrun2 xs d) xs k) k N 0 (lv_args 0 av) [] 0 0 w M Q) (hu : zL (lv_args 0 av) (lv_args 0 av)) : ∃ o σ, xrun2 xs (d + 1) k av (w, zheap M) = some (o, σ) ∧ Q o σ := by
  obtain ⟨n, c1, z, o, σ, hn, hp, hz, hf, hq⟩ := h _ hu
  refine ⟨o, σ, ?_, hq⟩
  show xone xs (xrun2 xs d) 20 k av (w, zheap M) = some (o, σ)
  unfold xone
  rw [ha, cond_true]
  have hx : xit (xstep (xrun2 xs d) xs k) 20 (0, lv_args 0 av, [], 0, 0, (w, zheap M)) = some (.inr z) := by
    refine xit_inr 20 n _ c1 ?_ hp hz
    have : (2 : Nat) ^ 20 = 1048576 := by decide +kernel
    omega
  generalize xit (xstep (xrun2 xs d) xs k) 20 (0, lv_args 0 av, [], 0, 0, (w, zheap M)) = R at hx ⊢
  subst hx
  exact hf
theorem zlv_ge : ∀ (vs : List Value) (n : Nat) (p : Nat × Value), p ∈ lv_args n vs → n ≤ p.1
  | [], _, _, h => by cases h
  | v :: vs, n, p, h => by
    rcases List.mem_cons.mp h with rfl | h
    · exact Nat.le_refl _
    · have := zlv_ge vs _ p h
      split at this <;> omega
theorem zL_args : ∀ (vs : List Value) (n : Nat), zL (lv_args n vs) (lv_args n vs)
  | [], _, _, h => by cases h
  | v :: vs, n, p, h => by
    rcases List.mem_cons.mp h with rfl | h
    · show (bif Nat.beq n n then some v else _) = some v
      rw [Nat.beq_refl, cond_true]
    · have h1 := zlv_ge vs _ p h
      have h2 : Nat.beq n p.1 = false := by
        cases hb : Nat.beq n p.1 with
        | false => rfl
        | true => have := Nat.eq_of_beq_eq_true hb; split at h1 <;> omega
      show (bif Nat.beq n p.1 then some v else xgl (lv_args _ vs) p.1) = some p.2
      rw [h2, cond_false]
      exact zL_args vs _ p h
/-- a method's run, with its answer -/
theorem zrun_v {xs : List Int32} {d k N : Nat} {av : List Value} {w w' : Bool} {M M' : zM} {out : XO} (hN : Nat.blt N 1048576 = true) (ha : Nat.ble (xcat av) (xNl k) = true) (h : zG (xstep (xrun2 xs d) xs k) k N 0 (lv_args 0 av) [] 0 0 w M (fun o σ => o = out ∧ σ = (w', zheap M'))) : xrun2 xs (d + 1) k av (w, zheap M) = some (out, (w', zheap M')) := by
  obtain ⟨o, σ, h1, h2, h3⟩ := zrun_e (y_blt_t hN) ha h (zL_args av 0)
  rw [h1, h2, h3]
