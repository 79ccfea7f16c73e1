noncomputable section
/-! The law: its script, its calls. -/
def zsx (xs : List Int32) (i : Int) : Int := (xs.getD i.toNat 0).toInt
theorem zsx_r {xs : List Int32} {i : Int} : zr32 (zsx xs i) := by
  unfold zr32 zsx
  have h1 := Int32.le_toInt (xs.getD i.toNat 0)
  have h2 := Int32.toInt_lt (xs.getD i.toNat 0)
  constructor
  · have h3 : (-2 : Int) ^ 31 = -2147483648 := by decide
    omega
  · have h3 : (2 : Int) ^ 31 = 2147483648 := by decide
    omega
theorem zxnth : ∀ (xs : List Int32) (n : Nat), n < xs.length → xnth xs n = some (xs.getD n 0)
  | [], n, h => absurd h (Nat.not_lt_zero n)
  | a :: l, 0, h => rfl
  | a :: l, n + 1, h => by
    show xnth l n = some (l.getD n 0)
    exact zxnth l n (by simpa using h)
theorem zan_63 (x : Int) : 0 ≤ zan x 63 ∧ zan x 63 ≤ 63 := by
  unfold zan
  have h : ((Int32.ofInt x &&& Int32.ofInt 63).toBitVec).toNat ≤ 63 := by
    rw [Int32.toBitVec_and, BitVec.toNat_and]
    exact Nat.and_le_right
  have h2 : (Int32.ofInt x &&& Int32.ofInt 63).toInt = ((Int32.ofInt x &&& Int32.ofInt 63).toBitVec).toNat := BitVec.toInt_eq_toNat_of_lt (by omega)
  rw [h2]
  omega
section ZLAW
variable {xrec : Nat → List Value → XW → Option (XO × XW)} {xs : List Int32} {k N pc len a b cu su : Nat} {ρ : XL} {st : List Value} {w : Bool} {M : zM} {Q : XO → XW → Prop}
theorem zz_sld {j : Int} {q : Nat} (hc : xcode k pc = some (.iaload, len, a, b)) (hj : 0 ≤ j ∧ j < (xs.length : Int)) (hl : xs.length ≤ 4096) (hn : zG (xstep xrec xs k) k N (pc + 1) ρ (.int (Int32.ofInt (zsx xs j)) :: st) cu su w M Q) : zG (xstep xrec xs k) k (N + 1) (pc) ρ (.int (Int32.ofInt j) :: .retAddr q :: st) cu su w M Q := by
  obtain ⟨h1, h2, h3⟩ := zxin hj hl
  refine zg_st (fun ls => ?_) hn
  unfold xstep
  dsimp only
  rw [hc]
  dsimp only
  rw [h1, cond_true, h2, zxnth xs j.toNat (by omega)]
  dsimp only
  unfold zsx
  rw [Int32.ofInt_toInt]
theorem zz_aloadS_n {jj : Fin 4} {x} (hc : xcode k pc = some (.aload_n jj, len, a, b)) (hm : (jj.val, Value.retAddr x) ∈ ρ) (hn : zG (xstep xrec xs k) k N (pc + 1) ρ (.retAddr x :: st) cu su w M Q) : zG (xstep xrec xs k) k (N + 1) (pc) ρ st cu su w M Q := zg_op hc rfl (fun ls hl => ⟨ls, by have h := hl _ hm; dsimp only at h; unfold xop; dsimp only; rw [h], hl⟩) hn
theorem zz_slen {q : Nat} (hc : xcode k pc = some (.arraylength, len, a, b)) (hn : zG (xstep xrec xs k) k N (pc + 1) ρ (.int (Int32.ofInt (xs.length : Int)) :: st) cu su w M Q) : zG (xstep xrec xs k) k (N + 1) (pc) ρ (.retAddr q :: st) cu su w M Q := by
  refine zg_st (fun ls => ?_) hn
  unfold xstep
  dsimp only
  rw [hc]
  dsimp only
  rw [Int32.ofInt_eq_ofNat]
theorem z_rm_i (h : y_rst k a = true) (hs : Nat.ble (xcat st) 8 = true) (h1 : cu + xMc a ≤ xMc k) (h2 : su + xMs a ≤ xMs k) : z_rm k a st cu su = true := by
  unfold z_rm
  rw [h, hs, Nat.ble_eq_true_of_le h1, Nat.ble_eq_true_of_le h2]
  rfl
/-- a call that throws, a handler here -/
theorem zz_call_h {as st0 : List Value} {E h len' a' b' : Nat} {j : Fin 4} {w' : Bool} {M' : zM} (hx : ∀ ls, xroom k a st cu su = true → xstep xrec xs k (pc, ls, st0, cu, su, (w, zheap M)) = xback k a pc ls st cu su (xrec a as (w, zheap M))) (hrm : z_rm k a st cu su = true) (hh : xhnd (xHh k) pc E = some h) (hc : xcode k h = some (.astore_n j, len', a', b')) (hj : Nat.blt j (xNl k) = true) (hr : xrec a as (w, zheap M) = some (.inr E, (w', zheap M'))) (hn : zG (xstep xrec xs k) k N (h + 1) [] [] (cu + xMc a) (su + xMs a) w' M' Q) : zG (xstep xrec xs k) k (N + 1) (pc) ρ st0 cu su w M Q := by
  obtain ⟨g0, g1, g2⟩ := z_rm_e hrm
  intro ls hl
  have hx := hx ls g0
  rw [hr] at hx
  refine zW_step (hx.trans ?_) (hn (ls.filter (xk1 j)) (fun p hp => absurd hp List.not_mem_nil))
  unfold xback
  dsimp only
  rw [hh]
  dsimp only
  rw [hc]
  dsimp only
  rw [hj, cond_true]
theorem zz_call_hw {as st0 : List Value} {E h j len' a' b' : Nat} {w' : Bool} {M' : zM} (hx : ∀ ls, xroom k a st cu su = true → xstep xrec xs k (pc, ls, st0, cu, su, (w, zheap M)) = xback k a pc ls st cu su (xrec a as (w, zheap M))) (hrm : z_rm k a st cu su = true) (hh : xhnd (xHh k) pc E = some h) (hc : xcode k h = some (.astore j, len', a', b')) (hj : Nat.blt j (xNl k) = true) (hr : xrec a as (w, zheap M) = some (.inr E, (w', zheap M'))) (hn : zG (xstep xrec xs k) k N (h + 2) [] [] (cu + xMc a) (su + xMs a) w' M' Q) : zG (xstep xrec xs k) k (N + 1) (pc) ρ st0 cu su w M Q := by
  obtain ⟨g0, g1, g2⟩ := z_rm_e hrm
  intro ls hl
  have hx := hx ls g0
  rw [hr] at hx
  refine zW_step (hx.trans ?_) (hn (ls.filter (xk1 j)) (fun p hp => absurd hp List.not_mem_nil))
  unfold xback
  dsimp only
  rw [hh]
  dsimp only
  rw [hc]
  dsimp only
  rw [hj, cond_true]
theorem zz_sw41 {x d hi : Int} {offs : Array Int} {t0 t1 t2 t3 t4 t5 t6 t7 t8 t9 t10 t11 t12 t13 t14 t15 t16 t17 t18 t19 t20 t21 t22 t23 t24 t25 t26 t27 t28 t29 t30 t31 t32 t33 t34 t35 t36 t37 t38 t39 t40 td : Nat} (hc : xcode k pc = some (.tableswitch d 0 hi offs, len, a, b)) (hx : zr32 x) (hst : z_sw pc d hi offs [t0, t1, t2, t3, t4, t5, t6, t7, t8, t9, t10, t11, t12, t13, t14, t15, t16, t17, t18, t19, t20, t21, t22, t23, t24, t25, t26, t27, t28, t29, t30, t31, t32, t33, t34, t35, t36, t37, t38, t39, t40] td = true) (a0 : x = 0 → zG (xstep xrec xs k) k N (t0) ρ st cu su w M Q) (a1 : x = 1 → zG (xstep xrec xs k) k N (t1) ρ st cu su w M Q) (a2 : x = 2 → zG (xstep xrec xs k) k N (t2) ρ st cu su w M Q) (a3 : x = 3 → zG (xstep xrec xs k) k N (t3) ρ st cu su w M Q) (a4 : x = 4 → zG (xstep xrec xs k) k N (t4) ρ st cu su w M Q) (a5 : x = 5 → zG (xstep xrec xs k) k N (t5) ρ st cu su w M Q) (a6 : x = 6 → zG (xstep xrec xs k) k N (t6) ρ st cu su w M Q) (a7 : x = 7 → zG (xstep xrec xs k) k N (t7) ρ st cu su w M Q) (a8 : x = 8 → zG (xstep xrec xs k) k N (t8) ρ st cu su w M Q) (a9 : x = 9 → zG (xstep xrec xs k) k N (t9) ρ st cu su w M Q) (a10 : x = 10 → zG (xstep xrec xs k) k N (t10) ρ st cu su w M Q) (a11 : x = 11 → zG (xstep xrec xs k) k N (t11) ρ st cu su w M Q) (a12 : x = 12 → zG (xstep xrec xs k) k N (t12) ρ st cu su w M Q) (a13 : x = 13 → zG (xstep xrec xs k) k N (t13) ρ st cu su w M Q) (a14 : x = 14 → zG (xstep xrec xs k) k N (t14) ρ st cu su w M Q) (a15 : x = 15 → zG (xstep xrec xs k) k N (t15) ρ st cu su w M Q) (a16 : x = 16 → zG (xstep xrec xs k) k N (t16) ρ st cu su w M Q) (a17 : x = 17 → zG (xstep xrec xs k) k N (t17) ρ st cu su w M Q) (a18 : x = 18 → zG (xstep xrec xs k) k N (t18) ρ st cu su w M Q) (a19 : x = 19 → zG (xstep xrec xs k) k N (t19) ρ st cu su w M Q) (a20 : x = 20 → zG (xstep xrec xs k) k N (t20) ρ st cu su w M Q) (a21 : x = 21 → zG (xstep xrec xs k) k N (t21) ρ st cu su w M Q) (a22 : x = 22 → zG (xstep xrec xs k) k N (t22) ρ st cu su w M Q) (a23 : x = 23 → zG (xstep xrec xs k) k N (t23) ρ st cu su w M Q) (a24 : x = 24 → zG (xstep xrec xs k) k N (t24) ρ st cu su w M Q) (a25 : x = 25 → zG (xstep xrec xs k) k N (t25) ρ st cu su w M Q) (a26 : x = 26 → zG (xstep xrec xs k) k N (t26) ρ st cu su w M Q) (a27 : x = 27 → zG (xstep xrec xs k) k N (t27) ρ st cu su w M Q) (a28 : x = 28 → zG (xstep xrec xs k) k N (t28) ρ st cu su w M Q) (a29 : x = 29 → zG (xstep xrec xs k) k N (t29) ρ st cu su w M Q) (a30 : x = 30 → zG (xstep xrec xs k) k N (t30) ρ st cu su w M Q) (a31 : x = 31 → zG (xstep xrec xs k) k N (t31) ρ st cu su w M Q) (a32 : x = 32 → zG (xstep xrec xs k) k N (t32) ρ st cu su w M Q) (a33 : x = 33 → zG (xstep xrec xs k) k N (t33) ρ st cu su w M Q) (a34 : x = 34 → zG (xstep xrec xs k) k N (t34) ρ st cu su w M Q) (a35 : x = 35 → zG (xstep xrec xs k) k N (t35) ρ st cu su w M Q) (a36 : x = 36 → zG (xstep xrec xs k) k N (t36) ρ st cu su w M Q) (a37 : x = 37 → zG (xstep xrec xs k) k N (t37) ρ st cu su w M Q) (a38 : x = 38 → zG (xstep xrec xs k) k N (t38) ρ st cu su w M Q) (a39 : x = 39 → zG (xstep xrec xs k) k N (t39) ρ st cu su w M Q) (a40 : x = 40 → zG (xstep xrec xs k) k N (t40) ρ st cu su w M Q) (ad : (x < 0 ∨ 40 < x) → zG (xstep xrec xs k) k N (td) ρ st cu su w M Q) : zG (xstep xrec xs k) k (N + 1) (pc) ρ (.int (Int32.ofInt x) :: st) cu su w M Q := by
  by_cases h0 : x = 0
  · exact zg_op0 hc rfl (fun nl ls => (z_sw_e hx hst).trans (by rw [h0]; rfl)) (a0 h0)
  by_cases h1 : x = 1
  · exact zg_op0 hc rfl (fun nl ls => (z_sw_e hx hst).trans (by rw [h1]; rfl)) (a1 h1)
  by_cases h2 : x = 2
  · exact zg_op0 hc rfl (fun nl ls => (z_sw_e hx hst).trans (by rw [h2]; rfl)) (a2 h2)
  by_cases h3 : x = 3
  · exact zg_op0 hc rfl (fun nl ls => (z_sw_e hx hst).trans (by rw [h3]; rfl)) (a3 h3)
  by_cases h4 : x = 4
  · exact zg_op0 hc rfl (fun nl ls => (z_sw_e hx hst).trans (by rw [h4]; rfl)) (a4 h4)
  by_cases h5 : x = 5
  · exact zg_op0 hc rfl (fun nl ls => (z_sw_e hx hst).trans (by rw [h5]; rfl)) (a5 h5)
  by_cases h6 : x = 6
  · exact zg_op0 hc rfl (fun nl ls => (z_sw_e hx hst).trans (by rw [h6]; rfl)) (a6 h6)
  by_cases h7 : x = 7
  · exact zg_op0 hc rfl (fun nl ls => (z_sw_e hx hst).trans (by rw [h7]; rfl)) (a7 h7)
  by_cases h8 : x = 8
  · exact zg_op0 hc rfl (fun nl ls => (z_sw_e hx hst).trans (by rw [h8]; rfl)) (a8 h8)
  by_cases h9 : x = 9
  · exact zg_op0 hc rfl (fun nl ls => (z_sw_e hx hst).trans (by rw [h9]; rfl)) (a9 h9)
  by_cases h10 : x = 10
  · exact zg_op0 hc rfl (fun nl ls => (z_sw_e hx hst).trans (by rw [h10]; rfl)) (a10 h10)
  by_cases h11 : x = 11
  · exact zg_op0 hc rfl (fun nl ls => (z_sw_e hx hst).trans (by rw [h11]; rfl)) (a11 h11)
  by_cases h12 : x = 12
  · exact zg_op0 hc rfl (fun nl ls => (z_sw_e hx hst).trans (by rw [h12]; rfl)) (a12 h12)
  by_cases h13 : x = 13
  · exact zg_op0 hc rfl (fun nl ls => (z_sw_e hx hst).trans (by rw [h13]; rfl)) (a13 h13)
  by_cases h14 : x = 14
  · exact zg_op0 hc rfl (fun nl ls => (z_sw_e hx hst).trans (by rw [h14]; rfl)) (a14 h14)
  by_cases h15 : x = 15
  · exact zg_op0 hc rfl (fun nl ls => (z_sw_e hx hst).trans (by rw [h15]; rfl)) (a15 h15)
  by_cases h16 : x = 16
  · exact zg_op0 hc rfl (fun nl ls => (z_sw_e hx hst).trans (by rw [h16]; rfl)) (a16 h16)
  by_cases h17 : x = 17
  · exact zg_op0 hc rfl (fun nl ls => (z_sw_e hx hst).trans (by rw [h17]; rfl)) (a17 h17)
  by_cases h18 : x = 18
  · exact zg_op0 hc rfl (fun nl ls => (z_sw_e hx hst).trans (by rw [h18]; rfl)) (a18 h18)
  by_cases h19 : x = 19
  · exact zg_op0 hc rfl (fun nl ls => (z_sw_e hx hst).trans (by rw [h19]; rfl)) (a19 h19)
  by_cases h20 : x = 20
  · exact zg_op0 hc rfl (fun nl ls => (z_sw_e hx hst).trans (by rw [h20]; rfl)) (a20 h20)
  by_cases h21 : x = 21
  · exact zg_op0 hc rfl (fun nl ls => (z_sw_e hx hst).trans (by rw [h21]; rfl)) (a21 h21)
  by_cases h22 : x = 22
  · exact zg_op0 hc rfl (fun nl ls => (z_sw_e hx hst).trans (by rw [h22]; rfl)) (a22 h22)
  by_cases h23 : x = 23
  · exact zg_op0 hc rfl (fun nl ls => (z_sw_e hx hst).trans (by rw [h23]; rfl)) (a23 h23)
  by_cases h24 : x = 24
  · exact zg_op0 hc rfl (fun nl ls => (z_sw_e hx hst).trans (by rw [h24]; rfl)) (a24 h24)
  by_cases h25 : x = 25
  · exact zg_op0 hc rfl (fun nl ls => (z_sw_e hx hst).trans (by rw [h25]; rfl)) (a25 h25)
  by_cases h26 : x = 26
  · exact zg_op0 hc rfl (fun nl ls => (z_sw_e hx hst).trans (by rw [h26]; rfl)) (a26 h26)
  by_cases h27 : x = 27
  · exact zg_op0 hc rfl (fun nl ls => (z_sw_e hx hst).trans (by rw [h27]; rfl)) (a27 h27)
  by_cases h28 : x = 28
  · exact zg_op0 hc rfl (fun nl ls => (z_sw_e hx hst).trans (by rw [h28]; rfl)) (a28 h28)
  by_cases h29 : x = 29
  · exact zg_op0 hc rfl (fun nl ls => (z_sw_e hx hst).trans (by rw [h29]; rfl)) (a29 h29)
  by_cases h30 : x = 30
  · exact zg_op0 hc rfl (fun nl ls => (z_sw_e hx hst).trans (by rw [h30]; rfl)) (a30 h30)
  by_cases h31 : x = 31
  · exact zg_op0 hc rfl (fun nl ls => (z_sw_e hx hst).trans (by rw [h31]; rfl)) (a31 h31)
  by_cases h32 : x = 32
  · exact zg_op0 hc rfl (fun nl ls => (z_sw_e hx hst).trans (by rw [h32]; rfl)) (a32 h32)
  by_cases h33 : x = 33
  · exact zg_op0 hc rfl (fun nl ls => (z_sw_e hx hst).trans (by rw [h33]; rfl)) (a33 h33)
  by_cases h34 : x = 34
  · exact zg_op0 hc rfl (fun nl ls => (z_sw_e hx hst).trans (by rw [h34]; rfl)) (a34 h34)
  by_cases h35 : x = 35
  · exact zg_op0 hc rfl (fun nl ls => (z_sw_e hx hst).trans (by rw [h35]; rfl)) (a35 h35)
  by_cases h36 : x = 36
  · exact zg_op0 hc rfl (fun nl ls => (z_sw_e hx hst).trans (by rw [h36]; rfl)) (a36 h36)
  by_cases h37 : x = 37
  · exact zg_op0 hc rfl (fun nl ls => (z_sw_e hx hst).trans (by rw [h37]; rfl)) (a37 h37)
  by_cases h38 : x = 38
  · exact zg_op0 hc rfl (fun nl ls => (z_sw_e hx hst).trans (by rw [h38]; rfl)) (a38 h38)
  by_cases h39 : x = 39
  · exact zg_op0 hc rfl (fun nl ls => (z_sw_e hx hst).trans (by rw [h39]; rfl)) (a39 h39)
  by_cases h40 : x = 40
  · exact zg_op0 hc rfl (fun nl ls => (z_sw_e hx hst).trans (by rw [h40]; rfl)) (a40 h40)
  have hbig : x < 0 ∨ 40 < x := by omega
  clear h0
  clear h1
  clear h2
  clear h3
  clear h4
  clear h5
  clear h6
  clear h7
  clear h8
  clear h9
  clear h10
  clear h11
  clear h12
  clear h13
  clear h14
  clear h15
  clear h16
  clear h17
  clear h18
  clear h19
  clear h20
  clear h21
  clear h22
  clear h23
  clear h24
  clear h25
  clear h26
  clear h27
  clear h28
  clear h29
  clear h30
  clear h31
  clear h32
  clear h33
  clear h34
  clear h35
  clear h36
  clear h37
  clear h38
  clear h39
  clear h40
  refine zg_op0 hc rfl (fun nl ls => (z_sw_e hx hst).trans ?_) (ad hbig)
  by_cases hneg : x < 0
  · rw [if_pos hneg]
  · rw [if_neg hneg, y_nth_e, List.getD_eq_getElem?_getD, List.getElem?_eq_none (by show 41 ≤ x.toNat; omega)]
    rfl
end ZLAW
/-- what a helper of the law makes of a call's end: its code, what it puts out -/
def zHo (bo : Prop) (hh : List (Nat × Int)) (o : XO) (k out : Int) : Prop := (0 ≤ k ∧ k ≤ 9) ∧ ((∃ E, o = .inr E ∧ (E, k) ∈ hh) ∨ (k = 0 ∧ ((∃ z, zr32 z ∧ o = .inl (some (.int (Int32.ofInt z))) ∧ ((bo ∧ out = if z = 0 then 0 else 1) ∨ (¬ bo ∧ out = z))) ∨ ∃ z, zr64 z ∧ o = .inl (some (.long (Int64.ofInt z))) ∧ out = z)))
theorem zTy_z {v : Value} (h : zTy 0 v) : ∃ z, zr32 z ∧ v = .int (Int32.ofInt z) := by
  rcases h with ⟨_, i, rfl⟩ | ⟨h, _⟩
  · refine ⟨i.toInt, ?_, by rw [Int32.ofInt_toInt]⟩
    have h1 := Int32.le_toInt i
    have h2 := Int32.toInt_lt i
    have h3 : (-2 : Int) ^ 31 = -2147483648 := by decide
    have h4 : (2 : Int) ^ 31 = 2147483648 := by decide
    unfold zr32
    omega
  · exact absurd h (by decide)
theorem zTy_l {v : Value} (h : zTy 1 v) : ∃ z, zr64 z ∧ v = .long (Int64.ofInt z) := by
  rcases h with ⟨h, _⟩ | ⟨_, i, rfl⟩
  · exact absurd h (by decide)
  · refine ⟨i.toInt, ?_, by rw [Int64.ofInt_toInt]⟩
    have h1 := Int64.le_toInt i
    have h2 := Int64.toInt_lt i
    have h3 : (-2 : Int) ^ 63 = -9223372036854775808 := by decide
    have h4 : (2 : Int) ^ 63 = 9223372036854775808 := by decide
    unfold zr64
    omega
def zfun (hh : List (Nat × Int)) : Prop := ∀ p ∈ hh, ∀ q ∈ hh, p.1 = q.1 → p.2 = q.2
theorem zr32_inj {x y : Int} (hx : zr32 x) (hy : zr32 y) (h : Int32.ofInt x = Int32.ofInt y) : x = y := by
  unfold zr32 at hx hy
  have h1 := congrArg Int32.toInt h
  rw [Int32.toInt_ofInt_of_le (by omega) (by omega), Int32.toInt_ofInt_of_le (by omega) (by omega)] at h1
  exact h1
theorem zr64_inj {x y : Int} (hx : zr64 x) (hy : zr64 y) (h : Int64.ofInt x = Int64.ofInt y) : x = y := by
  unfold zr64 at hx hy
  have h1 := congrArg Int64.toInt h
  rw [Int64.toInt_ofInt_of_le (by omega) (by omega), Int64.toInt_ofInt_of_le (by omega) (by omega)] at h1
  exact h1
theorem zagree {bo : Prop} {hh : List (Nat × Int)} {o : XO} {v : Value} {M2 : zM} {k out : Int} (hf : zfun hh) (hp : ∀ p ∈ hh, 1 ≤ p.2) (hA : zAg hh o v M2) (hH : zHo bo hh o k out) : M2 115 0 = k ∧ (k = 0 → (∀ b : Int, zr32 b → v = .int (Int32.ofInt b) → (bo ∧ out = if b = 0 then 0 else 1) ∨ (¬ bo ∧ out = b)) ∧ ∀ b : Int, zr64 b → v = .long (Int64.ofInt b) → out = b) := by
  obtain ⟨_, hH⟩ := hH
  rcases hA with ⟨E, k', e, hm, h0⟩ | ⟨h0, e⟩
  · rcases hH with ⟨E2, e2, hm2⟩ | ⟨_, hH⟩
    · have hE : E = E2 := by rw [e] at e2; exact Sum.inr.inj e2
      subst hE
      have hk : k' = k := hf _ hm _ hm2 rfl
      have := hp _ hm2
      exact ⟨h0.trans hk, fun hk0 => by simp only at this; omega⟩
    · exfalso
      rcases hH with ⟨z, _, e2, _⟩ | ⟨z, _, e2, _⟩ <;> (rw [e] at e2; cases e2)
  · rcases hH with ⟨E2, e2, hm2⟩ | ⟨hk, hH⟩
    · rw [e] at e2
      cases e2
    · refine ⟨h0.trans hk.symm, fun _ => ⟨fun b hb hv => ?_, fun b hb hv => ?_⟩⟩
      · rcases hH with ⟨z, hz, e2, ho⟩ | ⟨z, hz, e2, ho⟩
        · rw [e, hv] at e2
          have h1 := Option.some.inj (Sum.inl.inj e2)
          have h2 : Int32.ofInt b = Int32.ofInt z := by injection h1
          rw [zr32_inj hb hz h2]
          exact ho
        · rw [e, hv] at e2
          have h1 := Option.some.inj (Sum.inl.inj e2)
          cases h1
      · rcases hH with ⟨z, hz, e2, ho⟩ | ⟨z, hz, e2, ho⟩
        · rw [e, hv] at e2
          have h1 := Option.some.inj (Sum.inl.inj e2)
          cases h1
        · rw [e, hv] at e2
          have h1 := Option.some.inj (Sum.inl.inj e2)
          have h2 : Int64.ofInt b = Int64.ofInt z := by injection h1
          rw [zr64_inj hb hz h2]
          exact ho
theorem zhe0_append {xs : List Int32} {D : Nat} {M M1 : zM} {x : Int} (hr : zRun xs D 71 [.ref 0, .int (Int32.ofInt x)] M (.inr 0) M1) : zRun xs (D + 1) 223 [.ref 0, .int (Int32.ofInt x), .ref 137] M (.inl (some (.int (Int32.ofInt 1)))) (M1) := by
  intro w
  obtain ⟨w1, hr⟩ := hr w
  exact ⟨w1, zrun_v (N := 6) (by decide) rfl (zz_aload_n (pc := 0) xf_223_0 (zmem 2 rfl) (zz_iconst (pc := 1) xf_223_1 (zz_aload_n (pc := 2) xf_223_2 (zmem 0 rfl) (zz_iload_n (pc := 3) xf_223_3 (zmem 1 rfl) (zz_call_h (pc := 4) (cu := 0) (su := 0) (fun ls hr => zz_calV xf_223_4 rfl zis_0 ls hr) rfl (by decide +kernel) xf_223_12 (by decide +kernel) (hr) (zm_as (fun zM1 (ezM1 : zM1 = M1) => zz_iconst (pc := 13) xf_223_13 (zz_ireturn (pc := 14) xf_223_14 rfl (by decide +kernel) (by decide +kernel) (by subst_vars; exact ⟨rfl, rfl⟩)))))))))⟩
theorem zhe1_append {xs : List Int32} {D : Nat} {M M1 : zM} {x : Int} (hr : zRun xs D 71 [.ref 0, .int (Int32.ofInt x)] M (.inr 1) M1) : zRun xs (D + 1) 223 [.ref 0, .int (Int32.ofInt x), .ref 137] M (.inl (some (.int (Int32.ofInt 2)))) (M1) := by
  intro w
  obtain ⟨w1, hr⟩ := hr w
  exact ⟨w1, zrun_v (N := 6) (by decide) rfl (zz_aload_n (pc := 0) xf_223_0 (zmem 2 rfl) (zz_iconst (pc := 1) xf_223_1 (zz_aload_n (pc := 2) xf_223_2 (zmem 0 rfl) (zz_iload_n (pc := 3) xf_223_3 (zmem 1 rfl) (zz_call_h (pc := 4) (cu := 0) (su := 0) (fun ls hr => zz_calV xf_223_4 rfl zis_0 ls hr) rfl (by decide +kernel) xf_223_15 (by decide +kernel) (hr) (zm_as (fun zM1 (ezM1 : zM1 = M1) => zz_iconst (pc := 16) xf_223_16 (zz_ireturn (pc := 17) xf_223_17 rfl (by decide +kernel) (by decide +kernel) (by subst_vars; exact ⟨rfl, rfl⟩)))))))))⟩
theorem zhv_append {xs : List Int32} {D : Nat} {M M1 : zM} {x : Int} {z : Int} (hr : zRun xs D 71 [.ref 0, .int (Int32.ofInt x)] M (.inl (some (.int (Int32.ofInt z)))) M1) (hz : zr32 z) : zRun xs (D + 1) 223 [.ref 0, .int (Int32.ofInt x), .ref 137] M (.inl (some (.int (Int32.ofInt 0)))) (zup M1 137 0 z) := by
  intro w
  obtain ⟨w1, hr⟩ := hr w
  exact ⟨w1, zrun_v (N := 9) (by decide) rfl (zz_aload_n (pc := 0) xf_223_0 (zmem 2 rfl) (zz_iconst (pc := 1) xf_223_1 (zz_aload_n (pc := 2) xf_223_2 (zmem 0 rfl) (zz_iload_n (pc := 3) xf_223_3 (zmem 1 rfl) (zz_call_v (pc := 4) (cu := 0) (su := 0) (fun ls hr => zz_calV xf_223_4 rfl zis_0 ls hr) rfl (hr) (zz_i2l (pc := 7) xf_223_7 hz (zz_last (pc := 8) (j := (0)) xf_223_8 zis_137 (by decide) (zm_as (fun zM1 (ezM1 : zM1 = zup M1 137 0 z) => zz_goto (pc := 9) xf_223_9 (zz_iconst (pc := 18) xf_223_18 (zz_ireturn (pc := 19) xf_223_19 rfl (by decide +kernel) (by decide +kernel) (by subst_vars; exact ⟨rfl, rfl⟩))))))))))))⟩
theorem zh_append {xs : List Int32} {D : Nat} {M M1 : zM} {x : Int} {o : XO} (hr : zRun xs D 71 [.ref 0, .int (Int32.ofInt x)] M o M1) (hf : zFo [(0, 1), (1, 2)] 0 o) : ∃ (k : Int) (M2 : zM), zRun xs (D + 1) 223 [.ref 0, .int (Int32.ofInt x), .ref 137] M (.inl (some (.int (Int32.ofInt k)))) M2 ∧ (∀ q : Nat, q < 137 → M2 q = M1 q) ∧ zHo False [(0, 1), (1, 2)] o k (M2 137 0) := by
  rcases hf with ⟨E, rfl, hE⟩ | ⟨x0, rfl, ht⟩
  · have e : E = 0 ∨ E = 1 := by simpa using hE
    rcases e with rfl | rfl
    · exact ⟨1, M1, zhe0_append hr, fun _ _ => rfl, by decide, Or.inl ⟨_, rfl, by decide⟩⟩
    · exact ⟨2, M1, zhe1_append hr, fun _ _ => rfl, by decide, Or.inl ⟨_, rfl, by decide⟩⟩
  · obtain ⟨z, hz, rfl⟩ := zTy_z ht
    exact ⟨0, _, zhv_append hr hz, fun q hq => zup_or (by omega), by decide, Or.inr ⟨rfl, Or.inl ⟨z, hz, rfl, Or.inr ⟨fun h => h, zup_i⟩⟩⟩⟩
theorem zhe0_load {xs : List Int32} {D : Nat} {M M1 : zM} (hr : zRun xs D 72 [.ref 0] M (.inr 0) M1) : zRun xs (D + 1) 224 [.ref 0, .ref 137] M (.inl (some (.int (Int32.ofInt 1)))) (M1) := by
  intro w
  obtain ⟨w1, hr⟩ := hr w
  exact ⟨w1, zrun_v (N := 5) (by decide) rfl (zz_aload_n (pc := 0) xf_224_0 (zmem 1 rfl) (zz_iconst (pc := 1) xf_224_1 (zz_aload_n (pc := 2) xf_224_2 (zmem 0 rfl) (zz_call_h (pc := 3) (cu := 0) (su := 0) (fun ls hr => zz_calV xf_224_3 rfl zis_0 ls hr) rfl (by decide +kernel) xf_224_11 (by decide +kernel) (hr) (zm_as (fun zM1 (ezM1 : zM1 = M1) => zz_iconst (pc := 12) xf_224_12 (zz_ireturn (pc := 13) xf_224_13 rfl (by decide +kernel) (by decide +kernel) (by subst_vars; exact ⟨rfl, rfl⟩))))))))⟩
theorem zhv_load {xs : List Int32} {D : Nat} {M M1 : zM} {z : Int} (hr : zRun xs D 72 [.ref 0] M (.inl (some (.int (Int32.ofInt z)))) M1) (hz : zr32 z) : zRun xs (D + 1) 224 [.ref 0, .ref 137] M (.inl (some (.int (Int32.ofInt 0)))) (zup M1 137 0 z) := by
  intro w
  obtain ⟨w1, hr⟩ := hr w
  exact ⟨w1, zrun_v (N := 8) (by decide) rfl (zz_aload_n (pc := 0) xf_224_0 (zmem 1 rfl) (zz_iconst (pc := 1) xf_224_1 (zz_aload_n (pc := 2) xf_224_2 (zmem 0 rfl) (zz_call_v (pc := 3) (cu := 0) (su := 0) (fun ls hr => zz_calV xf_224_3 rfl zis_0 ls hr) rfl (hr) (zz_i2l (pc := 6) xf_224_6 hz (zz_last (pc := 7) (j := (0)) xf_224_7 zis_137 (by decide) (zm_as (fun zM1 (ezM1 : zM1 = zup M1 137 0 z) => zz_goto (pc := 8) xf_224_8 (zz_iconst (pc := 14) xf_224_14 (zz_ireturn (pc := 15) xf_224_15 rfl (by decide +kernel) (by decide +kernel) (by subst_vars; exact ⟨rfl, rfl⟩)))))))))))⟩
theorem zh_load {xs : List Int32} {D : Nat} {M M1 : zM} {o : XO} (hr : zRun xs D 72 [.ref 0] M o M1) (hf : zFo [(0, 1)] 0 o) : ∃ (k : Int) (M2 : zM), zRun xs (D + 1) 224 [.ref 0, .ref 137] M (.inl (some (.int (Int32.ofInt k)))) M2 ∧ (∀ q : Nat, q < 137 → M2 q = M1 q) ∧ zHo False [(0, 1)] o k (M2 137 0) := by
  rcases hf with ⟨E, rfl, hE⟩ | ⟨x0, rfl, ht⟩
  · have e : E = 0 := by simpa using hE
    subst e
    exact ⟨1, M1, zhe0_load hr, fun _ _ => rfl, by decide, Or.inl ⟨_, rfl, by decide⟩⟩
  · obtain ⟨z, hz, rfl⟩ := zTy_z ht
    exact ⟨0, _, zhv_load hr hz, fun q hq => zup_or (by omega), by decide, Or.inr ⟨rfl, Or.inl ⟨z, hz, rfl, Or.inr ⟨fun h => h, zup_i⟩⟩⟩⟩
theorem zhe2_setWall {xs : List Int32} {D : Nat} {M M1 : zM} {x y : Int} (hr : zRun xs D 74 [.ref 0, .int (Int32.ofInt x), .int (Int32.ofInt y)] M (.inr 2) M1) : zRun xs (D + 1) 225 [.ref 0, .int (Int32.ofInt x), .int (Int32.ofInt y), .ref 137] M (.inl (some (.int (Int32.ofInt 1)))) (M1) := by
  intro w
  obtain ⟨w1, hr⟩ := hr w
  exact ⟨w1, zrun_v (N := 7) (by decide) rfl (zz_aload_n (pc := 0) xf_225_0 (zmem 3 rfl) (zz_iconst (pc := 1) xf_225_1 (zz_aload_n (pc := 2) xf_225_2 (zmem 0 rfl) (zz_iload_n (pc := 3) xf_225_3 (zmem 1 rfl) (zz_iload_n (pc := 4) xf_225_4 (zmem 2 rfl) (zz_call_hw (pc := 5) (cu := 0) (su := 0) (fun ls hr => zz_calV xf_225_5 rfl zis_0 ls hr) rfl (by decide +kernel) xf_225_20 (by decide +kernel) (hr) (zm_as (fun zM1 (ezM1 : zM1 = M1) => zz_iconst (pc := 22) xf_225_22 (zz_ireturn (pc := 23) xf_225_23 rfl (by decide +kernel) (by decide +kernel) (by subst_vars; exact ⟨rfl, rfl⟩))))))))))⟩
theorem zhe1_setWall {xs : List Int32} {D : Nat} {M M1 : zM} {x y : Int} (hr : zRun xs D 74 [.ref 0, .int (Int32.ofInt x), .int (Int32.ofInt y)] M (.inr 1) M1) : zRun xs (D + 1) 225 [.ref 0, .int (Int32.ofInt x), .int (Int32.ofInt y), .ref 137] M (.inl (some (.int (Int32.ofInt 2)))) (M1) := by
  intro w
  obtain ⟨w1, hr⟩ := hr w
  exact ⟨w1, zrun_v (N := 7) (by decide) rfl (zz_aload_n (pc := 0) xf_225_0 (zmem 3 rfl) (zz_iconst (pc := 1) xf_225_1 (zz_aload_n (pc := 2) xf_225_2 (zmem 0 rfl) (zz_iload_n (pc := 3) xf_225_3 (zmem 1 rfl) (zz_iload_n (pc := 4) xf_225_4 (zmem 2 rfl) (zz_call_hw (pc := 5) (cu := 0) (su := 0) (fun ls hr => zz_calV xf_225_5 rfl zis_0 ls hr) rfl (by decide +kernel) xf_225_24 (by decide +kernel) (hr) (zm_as (fun zM1 (ezM1 : zM1 = M1) => zz_iconst (pc := 26) xf_225_26 (zz_ireturn (pc := 27) xf_225_27 rfl (by decide +kernel) (by decide +kernel) (by subst_vars; exact ⟨rfl, rfl⟩))))))))))⟩
theorem zhv_setWall {xs : List Int32} {D : Nat} {M M1 : zM} {x y : Int} {z : Int} (hr : zRun xs D 74 [.ref 0, .int (Int32.ofInt x), .int (Int32.ofInt y)] M (.inl (some (.int (Int32.ofInt z)))) M1) (hz : zr32 z) : zRun xs (D + 1) 225 [.ref 0, .int (Int32.ofInt x), .int (Int32.ofInt y), .ref 137] M (.inl (some (.int (Int32.ofInt 0)))) (zup M1 137 0 (if z = 0 then 0 else 1)) := by
  intro w
  obtain ⟨w1, hr⟩ := hr w
  exact ⟨w1, zrun_v (N := 12) (by decide) rfl (zz_aload_n (pc := 0) xf_225_0 (zmem 3 rfl) (zz_iconst (pc := 1) xf_225_1 (zz_aload_n (pc := 2) xf_225_2 (zmem 0 rfl) (zz_iload_n (pc := 3) xf_225_3 (zmem 1 rfl) (zz_iload_n (pc := 4) xf_225_4 (zmem 2 rfl) (zz_call_v (pc := 5) (cu := 0) (su := 0) (fun ls hr => zz_calV xf_225_5 rfl zis_0 ls hr) rfl (hr) (zz_if (pc := 8) xf_225_8 hz (fun (zc1 : z = 0) => zz_lconst (pc := 15) (x := 0) xf_225_15 (by decide +kernel) (zz_last (pc := 16) (j := (0)) xf_225_16 zis_137 (by decide) (zm_as (fun zM3 (ezM3 : zM3 = zup M1 137 0 (0)) => zz_goto (pc := 17) xf_225_17 (zz_iconst (pc := 28) xf_225_28 (zz_ireturn (pc := 29) xf_225_29 rfl (by decide +kernel) (by decide +kernel) (by first | (exfalso; omega) | (subst_vars; first | (refine ⟨rfl, ?_⟩; rw [if_pos (by assumption)]) | (refine ⟨rfl, ?_⟩; rw [if_neg (by assumption)]) | exact ⟨rfl, rfl⟩)))))))) (fun (zc2 : ¬ (z = 0)) => zz_lconst (pc := 11) (x := 1) xf_225_11 (by decide +kernel) (zz_goto (pc := 12) xf_225_12 (zz_last (pc := 16) (j := (0)) xf_225_16 zis_137 (by decide) (zm_as (fun zM4 (ezM4 : zM4 = zup M1 137 0 (1)) => zz_goto (pc := 17) xf_225_17 (zz_iconst (pc := 28) xf_225_28 (zz_ireturn (pc := 29) xf_225_29 rfl (by decide +kernel) (by decide +kernel) (by first | (exfalso; omega) | (subst_vars; first | (refine ⟨rfl, ?_⟩; rw [if_pos (by assumption)]) | (refine ⟨rfl, ?_⟩; rw [if_neg (by assumption)]) | exact ⟨rfl, rfl⟩))))))))))))))))⟩
theorem zh_setWall {xs : List Int32} {D : Nat} {M M1 : zM} {x y : Int} {o : XO} (hr : zRun xs D 74 [.ref 0, .int (Int32.ofInt x), .int (Int32.ofInt y)] M o M1) (hf : zFo [(2, 1), (1, 2)] 0 o) : ∃ (k : Int) (M2 : zM), zRun xs (D + 1) 225 [.ref 0, .int (Int32.ofInt x), .int (Int32.ofInt y), .ref 137] M (.inl (some (.int (Int32.ofInt k)))) M2 ∧ (∀ q : Nat, q < 137 → M2 q = M1 q) ∧ zHo True [(2, 1), (1, 2)] o k (M2 137 0) := by
  rcases hf with ⟨E, rfl, hE⟩ | ⟨x0, rfl, ht⟩
  · have e : E = 2 ∨ E = 1 := by simpa using hE
    rcases e with rfl | rfl
    · exact ⟨1, M1, zhe2_setWall hr, fun _ _ => rfl, by decide, Or.inl ⟨_, rfl, by decide⟩⟩
    · exact ⟨2, M1, zhe1_setWall hr, fun _ _ => rfl, by decide, Or.inl ⟨_, rfl, by decide⟩⟩
  · obtain ⟨z, hz, rfl⟩ := zTy_z ht
    exact ⟨0, _, zhv_setWall hr hz, fun q hq => zup_or (by omega), by decide, Or.inr ⟨rfl, Or.inl ⟨z, hz, rfl, Or.inl ⟨trivial, zup_i⟩⟩⟩⟩
theorem zhe2_setMark {xs : List Int32} {D : Nat} {M M1 : zM} {x y : Int} (hr : zRun xs D 75 [.ref 0, .int (Int32.ofInt x), .int (Int32.ofInt y)] M (.inr 2) M1) : zRun xs (D + 1) 226 [.ref 0, .int (Int32.ofInt x), .int (Int32.ofInt y), .ref 137] M (.inl (some (.int (Int32.ofInt 1)))) (M1) := by
  intro w
  obtain ⟨w1, hr⟩ := hr w
  exact ⟨w1, zrun_v (N := 7) (by decide) rfl (zz_aload_n (pc := 0) xf_226_0 (zmem 3 rfl) (zz_iconst (pc := 1) xf_226_1 (zz_aload_n (pc := 2) xf_226_2 (zmem 0 rfl) (zz_iload_n (pc := 3) xf_226_3 (zmem 1 rfl) (zz_iload_n (pc := 4) xf_226_4 (zmem 2 rfl) (zz_call_hw (pc := 5) (cu := 0) (su := 0) (fun ls hr => zz_calV xf_226_5 rfl zis_0 ls hr) rfl (by decide +kernel) xf_226_13 (by decide +kernel) (hr) (zm_as (fun zM1 (ezM1 : zM1 = M1) => zz_iconst (pc := 15) xf_226_15 (zz_ireturn (pc := 16) xf_226_16 rfl (by decide +kernel) (by decide +kernel) (by subst_vars; exact ⟨rfl, rfl⟩))))))))))⟩
theorem zhe0_setMark {xs : List Int32} {D : Nat} {M M1 : zM} {x y : Int} (hr : zRun xs D 75 [.ref 0, .int (Int32.ofInt x), .int (Int32.ofInt y)] M (.inr 0) M1) : zRun xs (D + 1) 226 [.ref 0, .int (Int32.ofInt x), .int (Int32.ofInt y), .ref 137] M (.inl (some (.int (Int32.ofInt 2)))) (M1) := by
  intro w
  obtain ⟨w1, hr⟩ := hr w
  exact ⟨w1, zrun_v (N := 7) (by decide) rfl (zz_aload_n (pc := 0) xf_226_0 (zmem 3 rfl) (zz_iconst (pc := 1) xf_226_1 (zz_aload_n (pc := 2) xf_226_2 (zmem 0 rfl) (zz_iload_n (pc := 3) xf_226_3 (zmem 1 rfl) (zz_iload_n (pc := 4) xf_226_4 (zmem 2 rfl) (zz_call_hw (pc := 5) (cu := 0) (su := 0) (fun ls hr => zz_calV xf_226_5 rfl zis_0 ls hr) rfl (by decide +kernel) xf_226_17 (by decide +kernel) (hr) (zm_as (fun zM1 (ezM1 : zM1 = M1) => zz_iconst (pc := 19) xf_226_19 (zz_ireturn (pc := 20) xf_226_20 rfl (by decide +kernel) (by decide +kernel) (by subst_vars; exact ⟨rfl, rfl⟩))))))))))⟩
theorem zhe1_setMark {xs : List Int32} {D : Nat} {M M1 : zM} {x y : Int} (hr : zRun xs D 75 [.ref 0, .int (Int32.ofInt x), .int (Int32.ofInt y)] M (.inr 1) M1) : zRun xs (D + 1) 226 [.ref 0, .int (Int32.ofInt x), .int (Int32.ofInt y), .ref 137] M (.inl (some (.int (Int32.ofInt 3)))) (M1) := by
  intro w
  obtain ⟨w1, hr⟩ := hr w
  exact ⟨w1, zrun_v (N := 7) (by decide) rfl (zz_aload_n (pc := 0) xf_226_0 (zmem 3 rfl) (zz_iconst (pc := 1) xf_226_1 (zz_aload_n (pc := 2) xf_226_2 (zmem 0 rfl) (zz_iload_n (pc := 3) xf_226_3 (zmem 1 rfl) (zz_iload_n (pc := 4) xf_226_4 (zmem 2 rfl) (zz_call_hw (pc := 5) (cu := 0) (su := 0) (fun ls hr => zz_calV xf_226_5 rfl zis_0 ls hr) rfl (by decide +kernel) xf_226_21 (by decide +kernel) (hr) (zm_as (fun zM1 (ezM1 : zM1 = M1) => zz_iconst (pc := 23) xf_226_23 (zz_ireturn (pc := 24) xf_226_24 rfl (by decide +kernel) (by decide +kernel) (by subst_vars; exact ⟨rfl, rfl⟩))))))))))⟩
theorem zhv_setMark {xs : List Int32} {D : Nat} {M M1 : zM} {x y : Int} {z : Int} (hr : zRun xs D 75 [.ref 0, .int (Int32.ofInt x), .int (Int32.ofInt y)] M (.inl (some (.int (Int32.ofInt z)))) M1) (hz : zr32 z) : zRun xs (D + 1) 226 [.ref 0, .int (Int32.ofInt x), .int (Int32.ofInt y), .ref 137] M (.inl (some (.int (Int32.ofInt 0)))) (zup M1 137 0 z) := by
  intro w
  obtain ⟨w1, hr⟩ := hr w
  exact ⟨w1, zrun_v (N := 10) (by decide) rfl (zz_aload_n (pc := 0) xf_226_0 (zmem 3 rfl) (zz_iconst (pc := 1) xf_226_1 (zz_aload_n (pc := 2) xf_226_2 (zmem 0 rfl) (zz_iload_n (pc := 3) xf_226_3 (zmem 1 rfl) (zz_iload_n (pc := 4) xf_226_4 (zmem 2 rfl) (zz_call_v (pc := 5) (cu := 0) (su := 0) (fun ls hr => zz_calV xf_226_5 rfl zis_0 ls hr) rfl (hr) (zz_i2l (pc := 8) xf_226_8 hz (zz_last (pc := 9) (j := (0)) xf_226_9 zis_137 (by decide) (zm_as (fun zM1 (ezM1 : zM1 = zup M1 137 0 z) => zz_goto (pc := 10) xf_226_10 (zz_iconst (pc := 25) xf_226_25 (zz_ireturn (pc := 26) xf_226_26 rfl (by decide +kernel) (by decide +kernel) (by subst_vars; exact ⟨rfl, rfl⟩)))))))))))))⟩
theorem zh_setMark {xs : List Int32} {D : Nat} {M M1 : zM} {x y : Int} {o : XO} (hr : zRun xs D 75 [.ref 0, .int (Int32.ofInt x), .int (Int32.ofInt y)] M o M1) (hf : zFo [(2, 1), (0, 2), (1, 3)] 0 o) : ∃ (k : Int) (M2 : zM), zRun xs (D + 1) 226 [.ref 0, .int (Int32.ofInt x), .int (Int32.ofInt y), .ref 137] M (.inl (some (.int (Int32.ofInt k)))) M2 ∧ (∀ q : Nat, q < 137 → M2 q = M1 q) ∧ zHo False [(2, 1), (0, 2), (1, 3)] o k (M2 137 0) := by
  rcases hf with ⟨E, rfl, hE⟩ | ⟨x0, rfl, ht⟩
  · have e : E = 2 ∨ E = 0 ∨ E = 1 := by simpa using hE
    rcases e with rfl | rfl | rfl
    · exact ⟨1, M1, zhe2_setMark hr, fun _ _ => rfl, by decide, Or.inl ⟨_, rfl, by decide⟩⟩
    · exact ⟨2, M1, zhe0_setMark hr, fun _ _ => rfl, by decide, Or.inl ⟨_, rfl, by decide⟩⟩
    · exact ⟨3, M1, zhe1_setMark hr, fun _ _ => rfl, by decide, Or.inl ⟨_, rfl, by decide⟩⟩
  · obtain ⟨z, hz, rfl⟩ := zTy_z ht
    exact ⟨0, _, zhv_setMark hr hz, fun q hq => zup_or (by omega), by decide, Or.inr ⟨rfl, Or.inl ⟨z, hz, rfl, Or.inr ⟨fun h => h, zup_i⟩⟩⟩⟩
theorem zhe2_setCost {xs : List Int32} {D : Nat} {M M1 : zM} {x y : Int} (hr : zRun xs D 76 [.ref 0, .int (Int32.ofInt x), .int (Int32.ofInt y)] M (.inr 2) M1) : zRun xs (D + 1) 227 [.ref 0, .int (Int32.ofInt x), .int (Int32.ofInt y), .ref 137] M (.inl (some (.int (Int32.ofInt 1)))) (M1) := by
  intro w
  obtain ⟨w1, hr⟩ := hr w
  exact ⟨w1, zrun_v (N := 7) (by decide) rfl (zz_aload_n (pc := 0) xf_227_0 (zmem 3 rfl) (zz_iconst (pc := 1) xf_227_1 (zz_aload_n (pc := 2) xf_227_2 (zmem 0 rfl) (zz_iload_n (pc := 3) xf_227_3 (zmem 1 rfl) (zz_iload_n (pc := 4) xf_227_4 (zmem 2 rfl) (zz_call_hw (pc := 5) (cu := 0) (su := 0) (fun ls hr => zz_calV xf_227_5 rfl zis_0 ls hr) rfl (by decide +kernel) xf_227_13 (by decide +kernel) (hr) (zm_as (fun zM1 (ezM1 : zM1 = M1) => zz_iconst (pc := 15) xf_227_15 (zz_ireturn (pc := 16) xf_227_16 rfl (by decide +kernel) (by decide +kernel) (by subst_vars; exact ⟨rfl, rfl⟩))))))))))⟩
theorem zhe0_setCost {xs : List Int32} {D : Nat} {M M1 : zM} {x y : Int} (hr : zRun xs D 76 [.ref 0, .int (Int32.ofInt x), .int (Int32.ofInt y)] M (.inr 0) M1) : zRun xs (D + 1) 227 [.ref 0, .int (Int32.ofInt x), .int (Int32.ofInt y), .ref 137] M (.inl (some (.int (Int32.ofInt 2)))) (M1) := by
  intro w
  obtain ⟨w1, hr⟩ := hr w
  exact ⟨w1, zrun_v (N := 7) (by decide) rfl (zz_aload_n (pc := 0) xf_227_0 (zmem 3 rfl) (zz_iconst (pc := 1) xf_227_1 (zz_aload_n (pc := 2) xf_227_2 (zmem 0 rfl) (zz_iload_n (pc := 3) xf_227_3 (zmem 1 rfl) (zz_iload_n (pc := 4) xf_227_4 (zmem 2 rfl) (zz_call_hw (pc := 5) (cu := 0) (su := 0) (fun ls hr => zz_calV xf_227_5 rfl zis_0 ls hr) rfl (by decide +kernel) xf_227_17 (by decide +kernel) (hr) (zm_as (fun zM1 (ezM1 : zM1 = M1) => zz_iconst (pc := 19) xf_227_19 (zz_ireturn (pc := 20) xf_227_20 rfl (by decide +kernel) (by decide +kernel) (by subst_vars; exact ⟨rfl, rfl⟩))))))))))⟩
theorem zhe1_setCost {xs : List Int32} {D : Nat} {M M1 : zM} {x y : Int} (hr : zRun xs D 76 [.ref 0, .int (Int32.ofInt x), .int (Int32.ofInt y)] M (.inr 1) M1) : zRun xs (D + 1) 227 [.ref 0, .int (Int32.ofInt x), .int (Int32.ofInt y), .ref 137] M (.inl (some (.int (Int32.ofInt 3)))) (M1) := by
  intro w
  obtain ⟨w1, hr⟩ := hr w
  exact ⟨w1, zrun_v (N := 7) (by decide) rfl (zz_aload_n (pc := 0) xf_227_0 (zmem 3 rfl) (zz_iconst (pc := 1) xf_227_1 (zz_aload_n (pc := 2) xf_227_2 (zmem 0 rfl) (zz_iload_n (pc := 3) xf_227_3 (zmem 1 rfl) (zz_iload_n (pc := 4) xf_227_4 (zmem 2 rfl) (zz_call_hw (pc := 5) (cu := 0) (su := 0) (fun ls hr => zz_calV xf_227_5 rfl zis_0 ls hr) rfl (by decide +kernel) xf_227_21 (by decide +kernel) (hr) (zm_as (fun zM1 (ezM1 : zM1 = M1) => zz_iconst (pc := 23) xf_227_23 (zz_ireturn (pc := 24) xf_227_24 rfl (by decide +kernel) (by decide +kernel) (by subst_vars; exact ⟨rfl, rfl⟩))))))))))⟩
theorem zhv_setCost {xs : List Int32} {D : Nat} {M M1 : zM} {x y : Int} {z : Int} (hr : zRun xs D 76 [.ref 0, .int (Int32.ofInt x), .int (Int32.ofInt y)] M (.inl (some (.int (Int32.ofInt z)))) M1) (hz : zr32 z) : zRun xs (D + 1) 227 [.ref 0, .int (Int32.ofInt x), .int (Int32.ofInt y), .ref 137] M (.inl (some (.int (Int32.ofInt 0)))) (zup M1 137 0 z) := by
  intro w
  obtain ⟨w1, hr⟩ := hr w
  exact ⟨w1, zrun_v (N := 10) (by decide) rfl (zz_aload_n (pc := 0) xf_227_0 (zmem 3 rfl) (zz_iconst (pc := 1) xf_227_1 (zz_aload_n (pc := 2) xf_227_2 (zmem 0 rfl) (zz_iload_n (pc := 3) xf_227_3 (zmem 1 rfl) (zz_iload_n (pc := 4) xf_227_4 (zmem 2 rfl) (zz_call_v (pc := 5) (cu := 0) (su := 0) (fun ls hr => zz_calV xf_227_5 rfl zis_0 ls hr) rfl (hr) (zz_i2l (pc := 8) xf_227_8 hz (zz_last (pc := 9) (j := (0)) xf_227_9 zis_137 (by decide) (zm_as (fun zM1 (ezM1 : zM1 = zup M1 137 0 z) => zz_goto (pc := 10) xf_227_10 (zz_iconst (pc := 25) xf_227_25 (zz_ireturn (pc := 26) xf_227_26 rfl (by decide +kernel) (by decide +kernel) (by subst_vars; exact ⟨rfl, rfl⟩)))))))))))))⟩
theorem zh_setCost {xs : List Int32} {D : Nat} {M M1 : zM} {x y : Int} {o : XO} (hr : zRun xs D 76 [.ref 0, .int (Int32.ofInt x), .int (Int32.ofInt y)] M o M1) (hf : zFo [(2, 1), (0, 2), (1, 3)] 0 o) : ∃ (k : Int) (M2 : zM), zRun xs (D + 1) 227 [.ref 0, .int (Int32.ofInt x), .int (Int32.ofInt y), .ref 137] M (.inl (some (.int (Int32.ofInt k)))) M2 ∧ (∀ q : Nat, q < 137 → M2 q = M1 q) ∧ zHo False [(2, 1), (0, 2), (1, 3)] o k (M2 137 0) := by
  rcases hf with ⟨E, rfl, hE⟩ | ⟨x0, rfl, ht⟩
  · have e : E = 2 ∨ E = 0 ∨ E = 1 := by simpa using hE
    rcases e with rfl | rfl | rfl
    · exact ⟨1, M1, zhe2_setCost hr, fun _ _ => rfl, by decide, Or.inl ⟨_, rfl, by decide⟩⟩
    · exact ⟨2, M1, zhe0_setCost hr, fun _ _ => rfl, by decide, Or.inl ⟨_, rfl, by decide⟩⟩
    · exact ⟨3, M1, zhe1_setCost hr, fun _ _ => rfl, by decide, Or.inl ⟨_, rfl, by decide⟩⟩
  · obtain ⟨z, hz, rfl⟩ := zTy_z ht
    exact ⟨0, _, zhv_setCost hr hz, fun q hq => zup_or (by omega), by decide, Or.inr ⟨rfl, Or.inl ⟨z, hz, rfl, Or.inr ⟨fun h => h, zup_i⟩⟩⟩⟩
theorem zhe0_setMotion {xs : List Int32} {D : Nat} {M M1 : zM} {x y v : Int} (hr : zRun xs D 77 [.ref 0, .int (Int32.ofInt x), .int (Int32.ofInt y), .int (Int32.ofInt v)] M (.inr 0) M1) : zRun xs (D + 1) 228 [.ref 0, .int (Int32.ofInt x), .int (Int32.ofInt y), .int (Int32.ofInt v), .ref 137] M (.inl (some (.int (Int32.ofInt 1)))) (M1) := by
  intro w
  obtain ⟨w1, hr⟩ := hr w
  exact ⟨w1, zrun_v (N := 8) (by decide) rfl (zz_aload (pc := 0) xf_228_0 (zmem 4 rfl) (zz_iconst (pc := 2) xf_228_2 (zz_aload_n (pc := 3) xf_228_3 (zmem 0 rfl) (zz_iload_n (pc := 4) xf_228_4 (zmem 1 rfl) (zz_iload_n (pc := 5) xf_228_5 (zmem 2 rfl) (zz_iload_n (pc := 6) xf_228_6 (zmem 3 rfl) (zz_call_hw (pc := 7) (cu := 0) (su := 0) (fun ls hr => zz_calV xf_228_7 rfl zis_0 ls hr) rfl (by decide +kernel) xf_228_15 (by decide +kernel) (hr) (zm_as (fun zM1 (ezM1 : zM1 = M1) => zz_iconst (pc := 17) xf_228_17 (zz_ireturn (pc := 18) xf_228_18 rfl (by decide +kernel) (by decide +kernel) (by subst_vars; exact ⟨rfl, rfl⟩)))))))))))⟩
theorem zhv_setMotion {xs : List Int32} {D : Nat} {M M1 : zM} {x y v : Int} {z : Int} (hr : zRun xs D 77 [.ref 0, .int (Int32.ofInt x), .int (Int32.ofInt y), .int (Int32.ofInt v)] M (.inl (some (.int (Int32.ofInt z)))) M1) (hz : zr32 z) : zRun xs (D + 1) 228 [.ref 0, .int (Int32.ofInt x), .int (Int32.ofInt y), .int (Int32.ofInt v), .ref 137] M (.inl (some (.int (Int32.ofInt 0)))) (zup M1 137 0 z) := by
  intro w
  obtain ⟨w1, hr⟩ := hr w
  exact ⟨w1, zrun_v (N := 11) (by decide) rfl (zz_aload (pc := 0) xf_228_0 (zmem 4 rfl) (zz_iconst (pc := 2) xf_228_2 (zz_aload_n (pc := 3) xf_228_3 (zmem 0 rfl) (zz_iload_n (pc := 4) xf_228_4 (zmem 1 rfl) (zz_iload_n (pc := 5) xf_228_5 (zmem 2 rfl) (zz_iload_n (pc := 6) xf_228_6 (zmem 3 rfl) (zz_call_v (pc := 7) (cu := 0) (su := 0) (fun ls hr => zz_calV xf_228_7 rfl zis_0 ls hr) rfl (hr) (zz_i2l (pc := 10) xf_228_10 hz (zz_last (pc := 11) (j := (0)) xf_228_11 zis_137 (by decide) (zm_as (fun zM1 (ezM1 : zM1 = zup M1 137 0 z) => zz_goto (pc := 12) xf_228_12 (zz_iconst (pc := 19) xf_228_19 (zz_ireturn (pc := 20) xf_228_20 rfl (by decide +kernel) (by decide +kernel) (by subst_vars; exact ⟨rfl, rfl⟩))))))))))))))⟩
theorem zh_setMotion {xs : List Int32} {D : Nat} {M M1 : zM} {x y v : Int} {o : XO} (hr : zRun xs D 77 [.ref 0, .int (Int32.ofInt x), .int (Int32.ofInt y), .int (Int32.ofInt v)] M o M1) (hf : zFo [(0, 1)] 0 o) : ∃ (k : Int) (M2 : zM), zRun xs (D + 1) 228 [.ref 0, .int (Int32.ofInt x), .int (Int32.ofInt y), .int (Int32.ofInt v), .ref 137] M (.inl (some (.int (Int32.ofInt k)))) M2 ∧ (∀ q : Nat, q < 137 → M2 q = M1 q) ∧ zHo False [(0, 1)] o k (M2 137 0) := by
  rcases hf with ⟨E, rfl, hE⟩ | ⟨x0, rfl, ht⟩
  · have e : E = 0 := by simpa using hE
    subst e
    exact ⟨1, M1, zhe0_setMotion hr, fun _ _ => rfl, by decide, Or.inl ⟨_, rfl, by decide⟩⟩
  · obtain ⟨z, hz, rfl⟩ := zTy_z ht
    exact ⟨0, _, zhv_setMotion hr hz, fun q hq => zup_or (by omega), by decide, Or.inr ⟨rfl, Or.inl ⟨z, hz, rfl, Or.inr ⟨fun h => h, zup_i⟩⟩⟩⟩
theorem zhe2_setSensor {xs : List Int32} {D : Nat} {M M1 : zM} {x y v : Int} (hr : zRun xs D 78 [.ref 0, .int (Int32.ofInt x), .int (Int32.ofInt y), .int (Int32.ofInt v)] M (.inr 2) M1) : zRun xs (D + 1) 229 [.ref 0, .int (Int32.ofInt x), .int (Int32.ofInt y), .int (Int32.ofInt v), .ref 137] M (.inl (some (.int (Int32.ofInt 1)))) (M1) := by
  intro w
  obtain ⟨w1, hr⟩ := hr w
  exact ⟨w1, zrun_v (N := 8) (by decide) rfl (zz_aload (pc := 0) xf_229_0 (zmem 4 rfl) (zz_iconst (pc := 2) xf_229_2 (zz_aload_n (pc := 3) xf_229_3 (zmem 0 rfl) (zz_iload_n (pc := 4) xf_229_4 (zmem 1 rfl) (zz_iload_n (pc := 5) xf_229_5 (zmem 2 rfl) (zz_iload_n (pc := 6) xf_229_6 (zmem 3 rfl) (zz_call_hw (pc := 7) (cu := 0) (su := 0) (fun ls hr => zz_calV xf_229_7 rfl zis_0 ls hr) rfl (by decide +kernel) xf_229_15 (by decide +kernel) (hr) (zm_as (fun zM1 (ezM1 : zM1 = M1) => zz_iconst (pc := 17) xf_229_17 (zz_ireturn (pc := 18) xf_229_18 rfl (by decide +kernel) (by decide +kernel) (by subst_vars; exact ⟨rfl, rfl⟩)))))))))))⟩
theorem zhe0_setSensor {xs : List Int32} {D : Nat} {M M1 : zM} {x y v : Int} (hr : zRun xs D 78 [.ref 0, .int (Int32.ofInt x), .int (Int32.ofInt y), .int (Int32.ofInt v)] M (.inr 0) M1) : zRun xs (D + 1) 229 [.ref 0, .int (Int32.ofInt x), .int (Int32.ofInt y), .int (Int32.ofInt v), .ref 137] M (.inl (some (.int (Int32.ofInt 2)))) (M1) := by
  intro w
  obtain ⟨w1, hr⟩ := hr w
  exact ⟨w1, zrun_v (N := 8) (by decide) rfl (zz_aload (pc := 0) xf_229_0 (zmem 4 rfl) (zz_iconst (pc := 2) xf_229_2 (zz_aload_n (pc := 3) xf_229_3 (zmem 0 rfl) (zz_iload_n (pc := 4) xf_229_4 (zmem 1 rfl) (zz_iload_n (pc := 5) xf_229_5 (zmem 2 rfl) (zz_iload_n (pc := 6) xf_229_6 (zmem 3 rfl) (zz_call_hw (pc := 7) (cu := 0) (su := 0) (fun ls hr => zz_calV xf_229_7 rfl zis_0 ls hr) rfl (by decide +kernel) xf_229_19 (by decide +kernel) (hr) (zm_as (fun zM1 (ezM1 : zM1 = M1) => zz_iconst (pc := 21) xf_229_21 (zz_ireturn (pc := 22) xf_229_22 rfl (by decide +kernel) (by decide +kernel) (by subst_vars; exact ⟨rfl, rfl⟩)))))))))))⟩
theorem zhv_setSensor {xs : List Int32} {D : Nat} {M M1 : zM} {x y v : Int} {z : Int} (hr : zRun xs D 78 [.ref 0, .int (Int32.ofInt x), .int (Int32.ofInt y), .int (Int32.ofInt v)] M (.inl (some (.int (Int32.ofInt z)))) M1) (hz : zr32 z) : zRun xs (D + 1) 229 [.ref 0, .int (Int32.ofInt x), .int (Int32.ofInt y), .int (Int32.ofInt v), .ref 137] M (.inl (some (.int (Int32.ofInt 0)))) (zup M1 137 0 z) := by
  intro w
  obtain ⟨w1, hr⟩ := hr w
  exact ⟨w1, zrun_v (N := 11) (by decide) rfl (zz_aload (pc := 0) xf_229_0 (zmem 4 rfl) (zz_iconst (pc := 2) xf_229_2 (zz_aload_n (pc := 3) xf_229_3 (zmem 0 rfl) (zz_iload_n (pc := 4) xf_229_4 (zmem 1 rfl) (zz_iload_n (pc := 5) xf_229_5 (zmem 2 rfl) (zz_iload_n (pc := 6) xf_229_6 (zmem 3 rfl) (zz_call_v (pc := 7) (cu := 0) (su := 0) (fun ls hr => zz_calV xf_229_7 rfl zis_0 ls hr) rfl (hr) (zz_i2l (pc := 10) xf_229_10 hz (zz_last (pc := 11) (j := (0)) xf_229_11 zis_137 (by decide) (zm_as (fun zM1 (ezM1 : zM1 = zup M1 137 0 z) => zz_goto (pc := 12) xf_229_12 (zz_iconst (pc := 23) xf_229_23 (zz_ireturn (pc := 24) xf_229_24 rfl (by decide +kernel) (by decide +kernel) (by subst_vars; exact ⟨rfl, rfl⟩))))))))))))))⟩
theorem zh_setSensor {xs : List Int32} {D : Nat} {M M1 : zM} {x y v : Int} {o : XO} (hr : zRun xs D 78 [.ref 0, .int (Int32.ofInt x), .int (Int32.ofInt y), .int (Int32.ofInt v)] M o M1) (hf : zFo [(2, 1), (0, 2)] 0 o) : ∃ (k : Int) (M2 : zM), zRun xs (D + 1) 229 [.ref 0, .int (Int32.ofInt x), .int (Int32.ofInt y), .int (Int32.ofInt v), .ref 137] M (.inl (some (.int (Int32.ofInt k)))) M2 ∧ (∀ q : Nat, q < 137 → M2 q = M1 q) ∧ zHo False [(2, 1), (0, 2)] o k (M2 137 0) := by
  rcases hf with ⟨E, rfl, hE⟩ | ⟨x0, rfl, ht⟩
  · have e : E = 2 ∨ E = 0 := by simpa using hE
    rcases e with rfl | rfl
    · exact ⟨1, M1, zhe2_setSensor hr, fun _ _ => rfl, by decide, Or.inl ⟨_, rfl, by decide⟩⟩
    · exact ⟨2, M1, zhe0_setSensor hr, fun _ _ => rfl, by decide, Or.inl ⟨_, rfl, by decide⟩⟩
  · obtain ⟨z, hz, rfl⟩ := zTy_z ht
    exact ⟨0, _, zhv_setSensor hr hz, fun q hq => zup_or (by omega), by decide, Or.inr ⟨rfl, Or.inl ⟨z, hz, rfl, Or.inr ⟨fun h => h, zup_i⟩⟩⟩⟩
theorem zhe0_setRate {xs : List Int32} {D : Nat} {M M1 : zM} {x : Int} (hr : zRun xs D 79 [.ref 0, .int (Int32.ofInt x)] M (.inr 0) M1) : zRun xs (D + 1) 230 [.ref 0, .int (Int32.ofInt x), .ref 137] M (.inl (some (.int (Int32.ofInt 1)))) (M1) := by
  intro w
  obtain ⟨w1, hr⟩ := hr w
  exact ⟨w1, zrun_v (N := 6) (by decide) rfl (zz_aload_n (pc := 0) xf_230_0 (zmem 2 rfl) (zz_iconst (pc := 1) xf_230_1 (zz_aload_n (pc := 2) xf_230_2 (zmem 0 rfl) (zz_iload_n (pc := 3) xf_230_3 (zmem 1 rfl) (zz_call_h (pc := 4) (cu := 0) (su := 0) (fun ls hr => zz_calV xf_230_4 rfl zis_0 ls hr) rfl (by decide +kernel) xf_230_12 (by decide +kernel) (hr) (zm_as (fun zM1 (ezM1 : zM1 = M1) => zz_iconst (pc := 13) xf_230_13 (zz_ireturn (pc := 14) xf_230_14 rfl (by decide +kernel) (by decide +kernel) (by subst_vars; exact ⟨rfl, rfl⟩)))))))))⟩
theorem zhv_setRate {xs : List Int32} {D : Nat} {M M1 : zM} {x : Int} {z : Int} (hr : zRun xs D 79 [.ref 0, .int (Int32.ofInt x)] M (.inl (some (.int (Int32.ofInt z)))) M1) (hz : zr32 z) : zRun xs (D + 1) 230 [.ref 0, .int (Int32.ofInt x), .ref 137] M (.inl (some (.int (Int32.ofInt 0)))) (zup M1 137 0 z) := by
  intro w
  obtain ⟨w1, hr⟩ := hr w
  exact ⟨w1, zrun_v (N := 9) (by decide) rfl (zz_aload_n (pc := 0) xf_230_0 (zmem 2 rfl) (zz_iconst (pc := 1) xf_230_1 (zz_aload_n (pc := 2) xf_230_2 (zmem 0 rfl) (zz_iload_n (pc := 3) xf_230_3 (zmem 1 rfl) (zz_call_v (pc := 4) (cu := 0) (su := 0) (fun ls hr => zz_calV xf_230_4 rfl zis_0 ls hr) rfl (hr) (zz_i2l (pc := 7) xf_230_7 hz (zz_last (pc := 8) (j := (0)) xf_230_8 zis_137 (by decide) (zm_as (fun zM1 (ezM1 : zM1 = zup M1 137 0 z) => zz_goto (pc := 9) xf_230_9 (zz_iconst (pc := 15) xf_230_15 (zz_ireturn (pc := 16) xf_230_16 rfl (by decide +kernel) (by decide +kernel) (by subst_vars; exact ⟨rfl, rfl⟩))))))))))))⟩
theorem zh_setRate {xs : List Int32} {D : Nat} {M M1 : zM} {x : Int} {o : XO} (hr : zRun xs D 79 [.ref 0, .int (Int32.ofInt x)] M o M1) (hf : zFo [(0, 1)] 0 o) : ∃ (k : Int) (M2 : zM), zRun xs (D + 1) 230 [.ref 0, .int (Int32.ofInt x), .ref 137] M (.inl (some (.int (Int32.ofInt k)))) M2 ∧ (∀ q : Nat, q < 137 → M2 q = M1 q) ∧ zHo False [(0, 1)] o k (M2 137 0) := by
  rcases hf with ⟨E, rfl, hE⟩ | ⟨x0, rfl, ht⟩
  · have e : E = 0 := by simpa using hE
    subst e
    exact ⟨1, M1, zhe0_setRate hr, fun _ _ => rfl, by decide, Or.inl ⟨_, rfl, by decide⟩⟩
  · obtain ⟨z, hz, rfl⟩ := zTy_z ht
    exact ⟨0, _, zhv_setRate hr hz, fun q hq => zup_or (by omega), by decide, Or.inr ⟨rfl, Or.inl ⟨z, hz, rfl, Or.inr ⟨fun h => h, zup_i⟩⟩⟩⟩
theorem zhe0_setLimit {xs : List Int32} {D : Nat} {M M1 : zM} {x : Int} (hr : zRun xs D 80 [.ref 0, .int (Int32.ofInt x)] M (.inr 0) M1) : zRun xs (D + 1) 231 [.ref 0, .int (Int32.ofInt x), .ref 137] M (.inl (some (.int (Int32.ofInt 1)))) (M1) := by
  intro w
  obtain ⟨w1, hr⟩ := hr w
  exact ⟨w1, zrun_v (N := 6) (by decide) rfl (zz_aload_n (pc := 0) xf_231_0 (zmem 2 rfl) (zz_iconst (pc := 1) xf_231_1 (zz_aload_n (pc := 2) xf_231_2 (zmem 0 rfl) (zz_iload_n (pc := 3) xf_231_3 (zmem 1 rfl) (zz_call_h (pc := 4) (cu := 0) (su := 0) (fun ls hr => zz_calV xf_231_4 rfl zis_0 ls hr) rfl (by decide +kernel) xf_231_12 (by decide +kernel) (hr) (zm_as (fun zM1 (ezM1 : zM1 = M1) => zz_iconst (pc := 13) xf_231_13 (zz_ireturn (pc := 14) xf_231_14 rfl (by decide +kernel) (by decide +kernel) (by subst_vars; exact ⟨rfl, rfl⟩)))))))))⟩
theorem zhv_setLimit {xs : List Int32} {D : Nat} {M M1 : zM} {x : Int} {z : Int} (hr : zRun xs D 80 [.ref 0, .int (Int32.ofInt x)] M (.inl (some (.int (Int32.ofInt z)))) M1) (hz : zr32 z) : zRun xs (D + 1) 231 [.ref 0, .int (Int32.ofInt x), .ref 137] M (.inl (some (.int (Int32.ofInt 0)))) (zup M1 137 0 z) := by
  intro w
  obtain ⟨w1, hr⟩ := hr w
  exact ⟨w1, zrun_v (N := 9) (by decide) rfl (zz_aload_n (pc := 0) xf_231_0 (zmem 2 rfl) (zz_iconst (pc := 1) xf_231_1 (zz_aload_n (pc := 2) xf_231_2 (zmem 0 rfl) (zz_iload_n (pc := 3) xf_231_3 (zmem 1 rfl) (zz_call_v (pc := 4) (cu := 0) (su := 0) (fun ls hr => zz_calV xf_231_4 rfl zis_0 ls hr) rfl (hr) (zz_i2l (pc := 7) xf_231_7 hz (zz_last (pc := 8) (j := (0)) xf_231_8 zis_137 (by decide) (zm_as (fun zM1 (ezM1 : zM1 = zup M1 137 0 z) => zz_goto (pc := 9) xf_231_9 (zz_iconst (pc := 15) xf_231_15 (zz_ireturn (pc := 16) xf_231_16 rfl (by decide +kernel) (by decide +kernel) (by subst_vars; exact ⟨rfl, rfl⟩))))))))))))⟩
theorem zh_setLimit {xs : List Int32} {D : Nat} {M M1 : zM} {x : Int} {o : XO} (hr : zRun xs D 80 [.ref 0, .int (Int32.ofInt x)] M o M1) (hf : zFo [(0, 1)] 0 o) : ∃ (k : Int) (M2 : zM), zRun xs (D + 1) 231 [.ref 0, .int (Int32.ofInt x), .ref 137] M (.inl (some (.int (Int32.ofInt k)))) M2 ∧ (∀ q : Nat, q < 137 → M2 q = M1 q) ∧ zHo False [(0, 1)] o k (M2 137 0) := by
  rcases hf with ⟨E, rfl, hE⟩ | ⟨x0, rfl, ht⟩
  · have e : E = 0 := by simpa using hE
    subst e
    exact ⟨1, M1, zhe0_setLimit hr, fun _ _ => rfl, by decide, Or.inl ⟨_, rfl, by decide⟩⟩
  · obtain ⟨z, hz, rfl⟩ := zTy_z ht
    exact ⟨0, _, zhv_setLimit hr hz, fun q hq => zup_or (by omega), by decide, Or.inr ⟨rfl, Or.inl ⟨z, hz, rfl, Or.inr ⟨fun h => h, zup_i⟩⟩⟩⟩
theorem zhe2_cell {xs : List Int32} {D : Nat} {M M1 : zM} {x y : Int} (hr : zRun xs D 81 [.ref 0, .int (Int32.ofInt x), .int (Int32.ofInt y)] M (.inr 2) M1) : zRun xs (D + 1) 232 [.ref 0, .int (Int32.ofInt x), .int (Int32.ofInt y), .ref 137] M (.inl (some (.int (Int32.ofInt 1)))) (M1) := by
  intro w
  obtain ⟨w1, hr⟩ := hr w
  exact ⟨w1, zrun_v (N := 7) (by decide) rfl (zz_aload_n (pc := 0) xf_232_0 (zmem 3 rfl) (zz_iconst (pc := 1) xf_232_1 (zz_aload_n (pc := 2) xf_232_2 (zmem 0 rfl) (zz_iload_n (pc := 3) xf_232_3 (zmem 1 rfl) (zz_iload_n (pc := 4) xf_232_4 (zmem 2 rfl) (zz_call_hw (pc := 5) (cu := 0) (su := 0) (fun ls hr => zz_calV xf_232_5 rfl zis_0 ls hr) rfl (by decide +kernel) xf_232_13 (by decide +kernel) (hr) (zm_as (fun zM1 (ezM1 : zM1 = M1) => zz_iconst (pc := 15) xf_232_15 (zz_ireturn (pc := 16) xf_232_16 rfl (by decide +kernel) (by decide +kernel) (by subst_vars; exact ⟨rfl, rfl⟩))))))))))⟩
theorem zhe0_cell {xs : List Int32} {D : Nat} {M M1 : zM} {x y : Int} (hr : zRun xs D 81 [.ref 0, .int (Int32.ofInt x), .int (Int32.ofInt y)] M (.inr 0) M1) : zRun xs (D + 1) 232 [.ref 0, .int (Int32.ofInt x), .int (Int32.ofInt y), .ref 137] M (.inl (some (.int (Int32.ofInt 2)))) (M1) := by
  intro w
  obtain ⟨w1, hr⟩ := hr w
  exact ⟨w1, zrun_v (N := 7) (by decide) rfl (zz_aload_n (pc := 0) xf_232_0 (zmem 3 rfl) (zz_iconst (pc := 1) xf_232_1 (zz_aload_n (pc := 2) xf_232_2 (zmem 0 rfl) (zz_iload_n (pc := 3) xf_232_3 (zmem 1 rfl) (zz_iload_n (pc := 4) xf_232_4 (zmem 2 rfl) (zz_call_hw (pc := 5) (cu := 0) (su := 0) (fun ls hr => zz_calV xf_232_5 rfl zis_0 ls hr) rfl (by decide +kernel) xf_232_17 (by decide +kernel) (hr) (zm_as (fun zM1 (ezM1 : zM1 = M1) => zz_iconst (pc := 19) xf_232_19 (zz_ireturn (pc := 20) xf_232_20 rfl (by decide +kernel) (by decide +kernel) (by subst_vars; exact ⟨rfl, rfl⟩))))))))))⟩
theorem zhv_cell {xs : List Int32} {D : Nat} {M M1 : zM} {x y : Int} {z : Int} (hr : zRun xs D 81 [.ref 0, .int (Int32.ofInt x), .int (Int32.ofInt y)] M (.inl (some (.int (Int32.ofInt z)))) M1) (hz : zr32 z) : zRun xs (D + 1) 232 [.ref 0, .int (Int32.ofInt x), .int (Int32.ofInt y), .ref 137] M (.inl (some (.int (Int32.ofInt 0)))) (zup M1 137 0 z) := by
  intro w
  obtain ⟨w1, hr⟩ := hr w
  exact ⟨w1, zrun_v (N := 10) (by decide) rfl (zz_aload_n (pc := 0) xf_232_0 (zmem 3 rfl) (zz_iconst (pc := 1) xf_232_1 (zz_aload_n (pc := 2) xf_232_2 (zmem 0 rfl) (zz_iload_n (pc := 3) xf_232_3 (zmem 1 rfl) (zz_iload_n (pc := 4) xf_232_4 (zmem 2 rfl) (zz_call_v (pc := 5) (cu := 0) (su := 0) (fun ls hr => zz_calV xf_232_5 rfl zis_0 ls hr) rfl (hr) (zz_i2l (pc := 8) xf_232_8 hz (zz_last (pc := 9) (j := (0)) xf_232_9 zis_137 (by decide) (zm_as (fun zM1 (ezM1 : zM1 = zup M1 137 0 z) => zz_goto (pc := 10) xf_232_10 (zz_iconst (pc := 21) xf_232_21 (zz_ireturn (pc := 22) xf_232_22 rfl (by decide +kernel) (by decide +kernel) (by subst_vars; exact ⟨rfl, rfl⟩)))))))))))))⟩
theorem zh_cell {xs : List Int32} {D : Nat} {M M1 : zM} {x y : Int} {o : XO} (hr : zRun xs D 81 [.ref 0, .int (Int32.ofInt x), .int (Int32.ofInt y)] M o M1) (hf : zFo [(2, 1), (0, 2)] 0 o) : ∃ (k : Int) (M2 : zM), zRun xs (D + 1) 232 [.ref 0, .int (Int32.ofInt x), .int (Int32.ofInt y), .ref 137] M (.inl (some (.int (Int32.ofInt k)))) M2 ∧ (∀ q : Nat, q < 137 → M2 q = M1 q) ∧ zHo False [(2, 1), (0, 2)] o k (M2 137 0) := by
  rcases hf with ⟨E, rfl, hE⟩ | ⟨x0, rfl, ht⟩
  · have e : E = 2 ∨ E = 0 := by simpa using hE
    rcases e with rfl | rfl
    · exact ⟨1, M1, zhe2_cell hr, fun _ _ => rfl, by decide, Or.inl ⟨_, rfl, by decide⟩⟩
    · exact ⟨2, M1, zhe0_cell hr, fun _ _ => rfl, by decide, Or.inl ⟨_, rfl, by decide⟩⟩
  · obtain ⟨z, hz, rfl⟩ := zTy_z ht
    exact ⟨0, _, zhv_cell hr hz, fun q hq => zup_or (by omega), by decide, Or.inr ⟨rfl, Or.inl ⟨z, hz, rfl, Or.inr ⟨fun h => h, zup_i⟩⟩⟩⟩
theorem zhe2_motion {xs : List Int32} {D : Nat} {M M1 : zM} {x y v : Int} (hr : zRun xs D 82 [.ref 0, .int (Int32.ofInt x), .int (Int32.ofInt y), .int (Int32.ofInt v)] M (.inr 2) M1) : zRun xs (D + 1) 233 [.ref 0, .int (Int32.ofInt x), .int (Int32.ofInt y), .int (Int32.ofInt v), .ref 137] M (.inl (some (.int (Int32.ofInt 1)))) (M1) := by
  intro w
  obtain ⟨w1, hr⟩ := hr w
  exact ⟨w1, zrun_v (N := 8) (by decide) rfl (zz_aload (pc := 0) xf_233_0 (zmem 4 rfl) (zz_iconst (pc := 2) xf_233_2 (zz_aload_n (pc := 3) xf_233_3 (zmem 0 rfl) (zz_iload_n (pc := 4) xf_233_4 (zmem 1 rfl) (zz_iload_n (pc := 5) xf_233_5 (zmem 2 rfl) (zz_iload_n (pc := 6) xf_233_6 (zmem 3 rfl) (zz_call_hw (pc := 7) (cu := 0) (su := 0) (fun ls hr => zz_calV xf_233_7 rfl zis_0 ls hr) rfl (by decide +kernel) xf_233_15 (by decide +kernel) (hr) (zm_as (fun zM1 (ezM1 : zM1 = M1) => zz_iconst (pc := 17) xf_233_17 (zz_ireturn (pc := 18) xf_233_18 rfl (by decide +kernel) (by decide +kernel) (by subst_vars; exact ⟨rfl, rfl⟩)))))))))))⟩
theorem zhe0_motion {xs : List Int32} {D : Nat} {M M1 : zM} {x y v : Int} (hr : zRun xs D 82 [.ref 0, .int (Int32.ofInt x), .int (Int32.ofInt y), .int (Int32.ofInt v)] M (.inr 0) M1) : zRun xs (D + 1) 233 [.ref 0, .int (Int32.ofInt x), .int (Int32.ofInt y), .int (Int32.ofInt v), .ref 137] M (.inl (some (.int (Int32.ofInt 2)))) (M1) := by
  intro w
  obtain ⟨w1, hr⟩ := hr w
  exact ⟨w1, zrun_v (N := 8) (by decide) rfl (zz_aload (pc := 0) xf_233_0 (zmem 4 rfl) (zz_iconst (pc := 2) xf_233_2 (zz_aload_n (pc := 3) xf_233_3 (zmem 0 rfl) (zz_iload_n (pc := 4) xf_233_4 (zmem 1 rfl) (zz_iload_n (pc := 5) xf_233_5 (zmem 2 rfl) (zz_iload_n (pc := 6) xf_233_6 (zmem 3 rfl) (zz_call_hw (pc := 7) (cu := 0) (su := 0) (fun ls hr => zz_calV xf_233_7 rfl zis_0 ls hr) rfl (by decide +kernel) xf_233_19 (by decide +kernel) (hr) (zm_as (fun zM1 (ezM1 : zM1 = M1) => zz_iconst (pc := 21) xf_233_21 (zz_ireturn (pc := 22) xf_233_22 rfl (by decide +kernel) (by decide +kernel) (by subst_vars; exact ⟨rfl, rfl⟩)))))))))))⟩
theorem zhv_motion {xs : List Int32} {D : Nat} {M M1 : zM} {x y v : Int} {z : Int} (hr : zRun xs D 82 [.ref 0, .int (Int32.ofInt x), .int (Int32.ofInt y), .int (Int32.ofInt v)] M (.inl (some (.int (Int32.ofInt z)))) M1) (hz : zr32 z) : zRun xs (D + 1) 233 [.ref 0, .int (Int32.ofInt x), .int (Int32.ofInt y), .int (Int32.ofInt v), .ref 137] M (.inl (some (.int (Int32.ofInt 0)))) (zup M1 137 0 z) := by
  intro w
  obtain ⟨w1, hr⟩ := hr w
  exact ⟨w1, zrun_v (N := 11) (by decide) rfl (zz_aload (pc := 0) xf_233_0 (zmem 4 rfl) (zz_iconst (pc := 2) xf_233_2 (zz_aload_n (pc := 3) xf_233_3 (zmem 0 rfl) (zz_iload_n (pc := 4) xf_233_4 (zmem 1 rfl) (zz_iload_n (pc := 5) xf_233_5 (zmem 2 rfl) (zz_iload_n (pc := 6) xf_233_6 (zmem 3 rfl) (zz_call_v (pc := 7) (cu := 0) (su := 0) (fun ls hr => zz_calV xf_233_7 rfl zis_0 ls hr) rfl (hr) (zz_i2l (pc := 10) xf_233_10 hz (zz_last (pc := 11) (j := (0)) xf_233_11 zis_137 (by decide) (zm_as (fun zM1 (ezM1 : zM1 = zup M1 137 0 z) => zz_goto (pc := 12) xf_233_12 (zz_iconst (pc := 23) xf_233_23 (zz_ireturn (pc := 24) xf_233_24 rfl (by decide +kernel) (by decide +kernel) (by subst_vars; exact ⟨rfl, rfl⟩))))))))))))))⟩
theorem zh_motion {xs : List Int32} {D : Nat} {M M1 : zM} {x y v : Int} {o : XO} (hr : zRun xs D 82 [.ref 0, .int (Int32.ofInt x), .int (Int32.ofInt y), .int (Int32.ofInt v)] M o M1) (hf : zFo [(2, 1), (0, 2)] 0 o) : ∃ (k : Int) (M2 : zM), zRun xs (D + 1) 233 [.ref 0, .int (Int32.ofInt x), .int (Int32.ofInt y), .int (Int32.ofInt v), .ref 137] M (.inl (some (.int (Int32.ofInt k)))) M2 ∧ (∀ q : Nat, q < 137 → M2 q = M1 q) ∧ zHo False [(2, 1), (0, 2)] o k (M2 137 0) := by
  rcases hf with ⟨E, rfl, hE⟩ | ⟨x0, rfl, ht⟩
  · have e : E = 2 ∨ E = 0 := by simpa using hE
    rcases e with rfl | rfl
    · exact ⟨1, M1, zhe2_motion hr, fun _ _ => rfl, by decide, Or.inl ⟨_, rfl, by decide⟩⟩
    · exact ⟨2, M1, zhe0_motion hr, fun _ _ => rfl, by decide, Or.inl ⟨_, rfl, by decide⟩⟩
  · obtain ⟨z, hz, rfl⟩ := zTy_z ht
    exact ⟨0, _, zhv_motion hr hz, fun q hq => zup_or (by omega), by decide, Or.inr ⟨rfl, Or.inl ⟨z, hz, rfl, Or.inr ⟨fun h => h, zup_i⟩⟩⟩⟩
theorem zhe2_map {xs : List Int32} {D : Nat} {M M1 : zM} {x : Int} (hr : zRun xs D 83 [.ref 0, .int (Int32.ofInt x)] M (.inr 2) M1) : zRun xs (D + 1) 234 [.ref 0, .int (Int32.ofInt x), .ref 137] M (.inl (some (.int (Int32.ofInt 1)))) (M1) := by
  intro w
  obtain ⟨w1, hr⟩ := hr w
  exact ⟨w1, zrun_v (N := 6) (by decide) rfl (zz_aload_n (pc := 0) xf_234_0 (zmem 2 rfl) (zz_iconst (pc := 1) xf_234_1 (zz_aload_n (pc := 2) xf_234_2 (zmem 0 rfl) (zz_iload_n (pc := 3) xf_234_3 (zmem 1 rfl) (zz_call_h (pc := 4) (cu := 0) (su := 0) (fun ls hr => zz_calV xf_234_4 rfl zis_0 ls hr) rfl (by decide +kernel) xf_234_12 (by decide +kernel) (hr) (zm_as (fun zM1 (ezM1 : zM1 = M1) => zz_iconst (pc := 13) xf_234_13 (zz_ireturn (pc := 14) xf_234_14 rfl (by decide +kernel) (by decide +kernel) (by subst_vars; exact ⟨rfl, rfl⟩)))))))))⟩
theorem zhv_map {xs : List Int32} {D : Nat} {M M1 : zM} {x : Int} {z : Int} (hr : zRun xs D 83 [.ref 0, .int (Int32.ofInt x)] M (.inl (some (.int (Int32.ofInt z)))) M1) (hz : zr32 z) : zRun xs (D + 1) 234 [.ref 0, .int (Int32.ofInt x), .ref 137] M (.inl (some (.int (Int32.ofInt 0)))) (zup M1 137 0 z) := by
  intro w
  obtain ⟨w1, hr⟩ := hr w
  exact ⟨w1, zrun_v (N := 9) (by decide) rfl (zz_aload_n (pc := 0) xf_234_0 (zmem 2 rfl) (zz_iconst (pc := 1) xf_234_1 (zz_aload_n (pc := 2) xf_234_2 (zmem 0 rfl) (zz_iload_n (pc := 3) xf_234_3 (zmem 1 rfl) (zz_call_v (pc := 4) (cu := 0) (su := 0) (fun ls hr => zz_calV xf_234_4 rfl zis_0 ls hr) rfl (hr) (zz_i2l (pc := 7) xf_234_7 hz (zz_last (pc := 8) (j := (0)) xf_234_8 zis_137 (by decide) (zm_as (fun zM1 (ezM1 : zM1 = zup M1 137 0 z) => zz_goto (pc := 9) xf_234_9 (zz_iconst (pc := 15) xf_234_15 (zz_ireturn (pc := 16) xf_234_16 rfl (by decide +kernel) (by decide +kernel) (by subst_vars; exact ⟨rfl, rfl⟩))))))))))))⟩
theorem zh_map {xs : List Int32} {D : Nat} {M M1 : zM} {x : Int} {o : XO} (hr : zRun xs D 83 [.ref 0, .int (Int32.ofInt x)] M o M1) (hf : zFo [(2, 1)] 0 o) : ∃ (k : Int) (M2 : zM), zRun xs (D + 1) 234 [.ref 0, .int (Int32.ofInt x), .ref 137] M (.inl (some (.int (Int32.ofInt k)))) M2 ∧ (∀ q : Nat, q < 137 → M2 q = M1 q) ∧ zHo False [(2, 1)] o k (M2 137 0) := by
  rcases hf with ⟨E, rfl, hE⟩ | ⟨x0, rfl, ht⟩
  · have e : E = 2 := by simpa using hE
    subst e
    exact ⟨1, M1, zhe2_map hr, fun _ _ => rfl, by decide, Or.inl ⟨_, rfl, by decide⟩⟩
  · obtain ⟨z, hz, rfl⟩ := zTy_z ht
    exact ⟨0, _, zhv_map hr hz, fun q hq => zup_or (by omega), by decide, Or.inr ⟨rfl, Or.inl ⟨z, hz, rfl, Or.inr ⟨fun h => h, zup_i⟩⟩⟩⟩
theorem zhe2_place {xs : List Int32} {D : Nat} {M M1 : zM} {x : Int} (hr : zRun xs D 85 [.ref 0, .int (Int32.ofInt x)] M (.inr 2) M1) : zRun xs (D + 1) 235 [.ref 0, .int (Int32.ofInt x), .ref 137] M (.inl (some (.int (Int32.ofInt 1)))) (M1) := by
  intro w
  obtain ⟨w1, hr⟩ := hr w
  exact ⟨w1, zrun_v (N := 6) (by decide) rfl (zz_aload_n (pc := 0) xf_235_0 (zmem 2 rfl) (zz_iconst (pc := 1) xf_235_1 (zz_aload_n (pc := 2) xf_235_2 (zmem 0 rfl) (zz_iload_n (pc := 3) xf_235_3 (zmem 1 rfl) (zz_call_h (pc := 4) (cu := 0) (su := 0) (fun ls hr => zz_calV xf_235_4 rfl zis_0 ls hr) rfl (by decide +kernel) xf_235_12 (by decide +kernel) (hr) (zm_as (fun zM1 (ezM1 : zM1 = M1) => zz_iconst (pc := 13) xf_235_13 (zz_ireturn (pc := 14) xf_235_14 rfl (by decide +kernel) (by decide +kernel) (by subst_vars; exact ⟨rfl, rfl⟩)))))))))⟩
theorem zhe1_place {xs : List Int32} {D : Nat} {M M1 : zM} {x : Int} (hr : zRun xs D 85 [.ref 0, .int (Int32.ofInt x)] M (.inr 1) M1) : zRun xs (D + 1) 235 [.ref 0, .int (Int32.ofInt x), .ref 137] M (.inl (some (.int (Int32.ofInt 2)))) (M1) := by
  intro w
  obtain ⟨w1, hr⟩ := hr w
  exact ⟨w1, zrun_v (N := 6) (by decide) rfl (zz_aload_n (pc := 0) xf_235_0 (zmem 2 rfl) (zz_iconst (pc := 1) xf_235_1 (zz_aload_n (pc := 2) xf_235_2 (zmem 0 rfl) (zz_iload_n (pc := 3) xf_235_3 (zmem 1 rfl) (zz_call_h (pc := 4) (cu := 0) (su := 0) (fun ls hr => zz_calV xf_235_4 rfl zis_0 ls hr) rfl (by decide +kernel) xf_235_15 (by decide +kernel) (hr) (zm_as (fun zM1 (ezM1 : zM1 = M1) => zz_iconst (pc := 16) xf_235_16 (zz_ireturn (pc := 17) xf_235_17 rfl (by decide +kernel) (by decide +kernel) (by subst_vars; exact ⟨rfl, rfl⟩)))))))))⟩
theorem zhv_place {xs : List Int32} {D : Nat} {M M1 : zM} {x : Int} {z : Int} (hr : zRun xs D 85 [.ref 0, .int (Int32.ofInt x)] M (.inl (some (.int (Int32.ofInt z)))) M1) (hz : zr32 z) : zRun xs (D + 1) 235 [.ref 0, .int (Int32.ofInt x), .ref 137] M (.inl (some (.int (Int32.ofInt 0)))) (zup M1 137 0 z) := by
  intro w
  obtain ⟨w1, hr⟩ := hr w
  exact ⟨w1, zrun_v (N := 9) (by decide) rfl (zz_aload_n (pc := 0) xf_235_0 (zmem 2 rfl) (zz_iconst (pc := 1) xf_235_1 (zz_aload_n (pc := 2) xf_235_2 (zmem 0 rfl) (zz_iload_n (pc := 3) xf_235_3 (zmem 1 rfl) (zz_call_v (pc := 4) (cu := 0) (su := 0) (fun ls hr => zz_calV xf_235_4 rfl zis_0 ls hr) rfl (hr) (zz_i2l (pc := 7) xf_235_7 hz (zz_last (pc := 8) (j := (0)) xf_235_8 zis_137 (by decide) (zm_as (fun zM1 (ezM1 : zM1 = zup M1 137 0 z) => zz_goto (pc := 9) xf_235_9 (zz_iconst (pc := 18) xf_235_18 (zz_ireturn (pc := 19) xf_235_19 rfl (by decide +kernel) (by decide +kernel) (by subst_vars; exact ⟨rfl, rfl⟩))))))))))))⟩
theorem zh_place {xs : List Int32} {D : Nat} {M M1 : zM} {x : Int} {o : XO} (hr : zRun xs D 85 [.ref 0, .int (Int32.ofInt x)] M o M1) (hf : zFo [(2, 1), (1, 2)] 0 o) : ∃ (k : Int) (M2 : zM), zRun xs (D + 1) 235 [.ref 0, .int (Int32.ofInt x), .ref 137] M (.inl (some (.int (Int32.ofInt k)))) M2 ∧ (∀ q : Nat, q < 137 → M2 q = M1 q) ∧ zHo False [(2, 1), (1, 2)] o k (M2 137 0) := by
  rcases hf with ⟨E, rfl, hE⟩ | ⟨x0, rfl, ht⟩
  · have e : E = 2 ∨ E = 1 := by simpa using hE
    rcases e with rfl | rfl
    · exact ⟨1, M1, zhe2_place hr, fun _ _ => rfl, by decide, Or.inl ⟨_, rfl, by decide⟩⟩
    · exact ⟨2, M1, zhe1_place hr, fun _ _ => rfl, by decide, Or.inl ⟨_, rfl, by decide⟩⟩
  · obtain ⟨z, hz, rfl⟩ := zTy_z ht
    exact ⟨0, _, zhv_place hr hz, fun q hq => zup_or (by omega), by decide, Or.inr ⟨rfl, Or.inl ⟨z, hz, rfl, Or.inr ⟨fun h => h, zup_i⟩⟩⟩⟩
theorem zhe0_move {xs : List Int32} {D : Nat} {M M1 : zM} {x : Int} (hr : zRun xs D 86 [.ref 0, .int (Int32.ofInt x)] M (.inr 0) M1) : zRun xs (D + 1) 236 [.ref 0, .int (Int32.ofInt x), .ref 137] M (.inl (some (.int (Int32.ofInt 1)))) (M1) := by
  intro w
  obtain ⟨w1, hr⟩ := hr w
  exact ⟨w1, zrun_v (N := 6) (by decide) rfl (zz_aload_n (pc := 0) xf_236_0 (zmem 2 rfl) (zz_iconst (pc := 1) xf_236_1 (zz_aload_n (pc := 2) xf_236_2 (zmem 0 rfl) (zz_iload_n (pc := 3) xf_236_3 (zmem 1 rfl) (zz_call_h (pc := 4) (cu := 0) (su := 0) (fun ls hr => zz_calV xf_236_4 rfl zis_0 ls hr) rfl (by decide +kernel) xf_236_12 (by decide +kernel) (hr) (zm_as (fun zM1 (ezM1 : zM1 = M1) => zz_iconst (pc := 13) xf_236_13 (zz_ireturn (pc := 14) xf_236_14 rfl (by decide +kernel) (by decide +kernel) (by subst_vars; exact ⟨rfl, rfl⟩)))))))))⟩
theorem zhv_move {xs : List Int32} {D : Nat} {M M1 : zM} {x : Int} {z : Int} (hr : zRun xs D 86 [.ref 0, .int (Int32.ofInt x)] M (.inl (some (.int (Int32.ofInt z)))) M1) (hz : zr32 z) : zRun xs (D + 1) 236 [.ref 0, .int (Int32.ofInt x), .ref 137] M (.inl (some (.int (Int32.ofInt 0)))) (zup M1 137 0 z) := by
  intro w
  obtain ⟨w1, hr⟩ := hr w
  exact ⟨w1, zrun_v (N := 9) (by decide) rfl (zz_aload_n (pc := 0) xf_236_0 (zmem 2 rfl) (zz_iconst (pc := 1) xf_236_1 (zz_aload_n (pc := 2) xf_236_2 (zmem 0 rfl) (zz_iload_n (pc := 3) xf_236_3 (zmem 1 rfl) (zz_call_v (pc := 4) (cu := 0) (su := 0) (fun ls hr => zz_calV xf_236_4 rfl zis_0 ls hr) rfl (hr) (zz_i2l (pc := 7) xf_236_7 hz (zz_last (pc := 8) (j := (0)) xf_236_8 zis_137 (by decide) (zm_as (fun zM1 (ezM1 : zM1 = zup M1 137 0 z) => zz_goto (pc := 9) xf_236_9 (zz_iconst (pc := 15) xf_236_15 (zz_ireturn (pc := 16) xf_236_16 rfl (by decide +kernel) (by decide +kernel) (by subst_vars; exact ⟨rfl, rfl⟩))))))))))))⟩
theorem zh_move {xs : List Int32} {D : Nat} {M M1 : zM} {x : Int} {o : XO} (hr : zRun xs D 86 [.ref 0, .int (Int32.ofInt x)] M o M1) (hf : zFo [(0, 1)] 0 o) : ∃ (k : Int) (M2 : zM), zRun xs (D + 1) 236 [.ref 0, .int (Int32.ofInt x), .ref 137] M (.inl (some (.int (Int32.ofInt k)))) M2 ∧ (∀ q : Nat, q < 137 → M2 q = M1 q) ∧ zHo False [(0, 1)] o k (M2 137 0) := by
  rcases hf with ⟨E, rfl, hE⟩ | ⟨x0, rfl, ht⟩
  · have e : E = 0 := by simpa using hE
    subst e
    exact ⟨1, M1, zhe0_move hr, fun _ _ => rfl, by decide, Or.inl ⟨_, rfl, by decide⟩⟩
  · obtain ⟨z, hz, rfl⟩ := zTy_z ht
    exact ⟨0, _, zhv_move hr hz, fun q hq => zup_or (by omega), by decide, Or.inr ⟨rfl, Or.inl ⟨z, hz, rfl, Or.inr ⟨fun h => h, zup_i⟩⟩⟩⟩
theorem zhe0_see {xs : List Int32} {D : Nat} {M M1 : zM} {x : Int} (hr : zRun xs D 87 [.ref 0, .int (Int32.ofInt x)] M (.inr 0) M1) : zRun xs (D + 1) 237 [.ref 0, .int (Int32.ofInt x), .ref 137] M (.inl (some (.int (Int32.ofInt 1)))) (M1) := by
  intro w
  obtain ⟨w1, hr⟩ := hr w
  exact ⟨w1, zrun_v (N := 6) (by decide) rfl (zz_aload_n (pc := 0) xf_237_0 (zmem 2 rfl) (zz_iconst (pc := 1) xf_237_1 (zz_aload_n (pc := 2) xf_237_2 (zmem 0 rfl) (zz_iload_n (pc := 3) xf_237_3 (zmem 1 rfl) (zz_call_h (pc := 4) (cu := 0) (su := 0) (fun ls hr => zz_calV xf_237_4 rfl zis_0 ls hr) rfl (by decide +kernel) xf_237_19 (by decide +kernel) (hr) (zm_as (fun zM1 (ezM1 : zM1 = M1) => zz_iconst (pc := 20) xf_237_20 (zz_ireturn (pc := 21) xf_237_21 rfl (by decide +kernel) (by decide +kernel) (by subst_vars; exact ⟨rfl, rfl⟩)))))))))⟩
theorem zhe1_see {xs : List Int32} {D : Nat} {M M1 : zM} {x : Int} (hr : zRun xs D 87 [.ref 0, .int (Int32.ofInt x)] M (.inr 1) M1) : zRun xs (D + 1) 237 [.ref 0, .int (Int32.ofInt x), .ref 137] M (.inl (some (.int (Int32.ofInt 2)))) (M1) := by
  intro w
  obtain ⟨w1, hr⟩ := hr w
  exact ⟨w1, zrun_v (N := 6) (by decide) rfl (zz_aload_n (pc := 0) xf_237_0 (zmem 2 rfl) (zz_iconst (pc := 1) xf_237_1 (zz_aload_n (pc := 2) xf_237_2 (zmem 0 rfl) (zz_iload_n (pc := 3) xf_237_3 (zmem 1 rfl) (zz_call_h (pc := 4) (cu := 0) (su := 0) (fun ls hr => zz_calV xf_237_4 rfl zis_0 ls hr) rfl (by decide +kernel) xf_237_22 (by decide +kernel) (hr) (zm_as (fun zM1 (ezM1 : zM1 = M1) => zz_iconst (pc := 23) xf_237_23 (zz_ireturn (pc := 24) xf_237_24 rfl (by decide +kernel) (by decide +kernel) (by subst_vars; exact ⟨rfl, rfl⟩)))))))))⟩
theorem zhv_see {xs : List Int32} {D : Nat} {M M1 : zM} {x : Int} {z : Int} (hr : zRun xs D 87 [.ref 0, .int (Int32.ofInt x)] M (.inl (some (.int (Int32.ofInt z)))) M1) (hz : zr32 z) : zRun xs (D + 1) 237 [.ref 0, .int (Int32.ofInt x), .ref 137] M (.inl (some (.int (Int32.ofInt 0)))) (zup M1 137 0 (if z = 0 then 0 else 1)) := by
  intro w
  obtain ⟨w1, hr⟩ := hr w
  exact ⟨w1, zrun_v (N := 11) (by decide) rfl (zz_aload_n (pc := 0) xf_237_0 (zmem 2 rfl) (zz_iconst (pc := 1) xf_237_1 (zz_aload_n (pc := 2) xf_237_2 (zmem 0 rfl) (zz_iload_n (pc := 3) xf_237_3 (zmem 1 rfl) (zz_call_v (pc := 4) (cu := 0) (su := 0) (fun ls hr => zz_calV xf_237_4 rfl zis_0 ls hr) rfl (hr) (zz_if (pc := 7) xf_237_7 hz (fun (zc1 : z = 0) => zz_lconst (pc := 14) (x := 0) xf_237_14 (by decide +kernel) (zz_last (pc := 15) (j := (0)) xf_237_15 zis_137 (by decide) (zm_as (fun zM3 (ezM3 : zM3 = zup M1 137 0 (0)) => zz_goto (pc := 16) xf_237_16 (zz_iconst (pc := 25) xf_237_25 (zz_ireturn (pc := 26) xf_237_26 rfl (by decide +kernel) (by decide +kernel) (by first | (exfalso; omega) | (subst_vars; first | (refine ⟨rfl, ?_⟩; rw [if_pos (by assumption)]) | (refine ⟨rfl, ?_⟩; rw [if_neg (by assumption)]) | exact ⟨rfl, rfl⟩)))))))) (fun (zc2 : ¬ (z = 0)) => zz_lconst (pc := 10) (x := 1) xf_237_10 (by decide +kernel) (zz_goto (pc := 11) xf_237_11 (zz_last (pc := 15) (j := (0)) xf_237_15 zis_137 (by decide) (zm_as (fun zM4 (ezM4 : zM4 = zup M1 137 0 (1)) => zz_goto (pc := 16) xf_237_16 (zz_iconst (pc := 25) xf_237_25 (zz_ireturn (pc := 26) xf_237_26 rfl (by decide +kernel) (by decide +kernel) (by first | (exfalso; omega) | (subst_vars; first | (refine ⟨rfl, ?_⟩; rw [if_pos (by assumption)]) | (refine ⟨rfl, ?_⟩; rw [if_neg (by assumption)]) | exact ⟨rfl, rfl⟩)))))))))))))))⟩
theorem zh_see {xs : List Int32} {D : Nat} {M M1 : zM} {x : Int} {o : XO} (hr : zRun xs D 87 [.ref 0, .int (Int32.ofInt x)] M o M1) (hf : zFo [(0, 1), (1, 2)] 0 o) : ∃ (k : Int) (M2 : zM), zRun xs (D + 1) 237 [.ref 0, .int (Int32.ofInt x), .ref 137] M (.inl (some (.int (Int32.ofInt k)))) M2 ∧ (∀ q : Nat, q < 137 → M2 q = M1 q) ∧ zHo True [(0, 1), (1, 2)] o k (M2 137 0) := by
  rcases hf with ⟨E, rfl, hE⟩ | ⟨x0, rfl, ht⟩
  · have e : E = 0 ∨ E = 1 := by simpa using hE
    rcases e with rfl | rfl
    · exact ⟨1, M1, zhe0_see hr, fun _ _ => rfl, by decide, Or.inl ⟨_, rfl, by decide⟩⟩
    · exact ⟨2, M1, zhe1_see hr, fun _ _ => rfl, by decide, Or.inl ⟨_, rfl, by decide⟩⟩
  · obtain ⟨z, hz, rfl⟩ := zTy_z ht
    exact ⟨0, _, zhv_see hr hz, fun q hq => zup_or (by omega), by decide, Or.inr ⟨rfl, Or.inl ⟨z, hz, rfl, Or.inl ⟨trivial, zup_i⟩⟩⟩⟩
theorem zhe2_belief {xs : List Int32} {D : Nat} {M M1 : zM} {x : Int} (hr : zRun xs D 88 [.ref 0, .int (Int32.ofInt x)] M (.inr 2) M1) : zRun xs (D + 1) 238 [.ref 0, .int (Int32.ofInt x), .ref 137] M (.inl (some (.int (Int32.ofInt 1)))) (M1) := by
  intro w
  obtain ⟨w1, hr⟩ := hr w
  exact ⟨w1, zrun_v (N := 6) (by decide) rfl (zz_aload_n (pc := 0) xf_238_0 (zmem 2 rfl) (zz_iconst (pc := 1) xf_238_1 (zz_aload_n (pc := 2) xf_238_2 (zmem 0 rfl) (zz_iload_n (pc := 3) xf_238_3 (zmem 1 rfl) (zz_call_h (pc := 4) (cu := 0) (su := 0) (fun ls hr => zz_calV xf_238_4 rfl zis_0 ls hr) rfl (by decide +kernel) xf_238_12 (by decide +kernel) (hr) (zm_as (fun zM1 (ezM1 : zM1 = M1) => zz_iconst (pc := 13) xf_238_13 (zz_ireturn (pc := 14) xf_238_14 rfl (by decide +kernel) (by decide +kernel) (by subst_vars; exact ⟨rfl, rfl⟩)))))))))⟩
theorem zhv_belief {xs : List Int32} {D : Nat} {M M1 : zM} {x : Int} {z : Int} (hr : zRun xs D 88 [.ref 0, .int (Int32.ofInt x)] M (.inl (some (.int (Int32.ofInt z)))) M1) (hz : zr32 z) : zRun xs (D + 1) 238 [.ref 0, .int (Int32.ofInt x), .ref 137] M (.inl (some (.int (Int32.ofInt 0)))) (zup M1 137 0 z) := by
  intro w
  obtain ⟨w1, hr⟩ := hr w
  exact ⟨w1, zrun_v (N := 9) (by decide) rfl (zz_aload_n (pc := 0) xf_238_0 (zmem 2 rfl) (zz_iconst (pc := 1) xf_238_1 (zz_aload_n (pc := 2) xf_238_2 (zmem 0 rfl) (zz_iload_n (pc := 3) xf_238_3 (zmem 1 rfl) (zz_call_v (pc := 4) (cu := 0) (su := 0) (fun ls hr => zz_calV xf_238_4 rfl zis_0 ls hr) rfl (hr) (zz_i2l (pc := 7) xf_238_7 hz (zz_last (pc := 8) (j := (0)) xf_238_8 zis_137 (by decide) (zm_as (fun zM1 (ezM1 : zM1 = zup M1 137 0 z) => zz_goto (pc := 9) xf_238_9 (zz_iconst (pc := 15) xf_238_15 (zz_ireturn (pc := 16) xf_238_16 rfl (by decide +kernel) (by decide +kernel) (by subst_vars; exact ⟨rfl, rfl⟩))))))))))))⟩
theorem zh_belief {xs : List Int32} {D : Nat} {M M1 : zM} {x : Int} {o : XO} (hr : zRun xs D 88 [.ref 0, .int (Int32.ofInt x)] M o M1) (hf : zFo [(2, 1)] 0 o) : ∃ (k : Int) (M2 : zM), zRun xs (D + 1) 238 [.ref 0, .int (Int32.ofInt x), .ref 137] M (.inl (some (.int (Int32.ofInt k)))) M2 ∧ (∀ q : Nat, q < 137 → M2 q = M1 q) ∧ zHo False [(2, 1)] o k (M2 137 0) := by
  rcases hf with ⟨E, rfl, hE⟩ | ⟨x0, rfl, ht⟩
  · have e : E = 2 := by simpa using hE
    subst e
    exact ⟨1, M1, zhe2_belief hr, fun _ _ => rfl, by decide, Or.inl ⟨_, rfl, by decide⟩⟩
  · obtain ⟨z, hz, rfl⟩ := zTy_z ht
    exact ⟨0, _, zhv_belief hr hz, fun q hq => zup_or (by omega), by decide, Or.inr ⟨rfl, Or.inl ⟨z, hz, rfl, Or.inr ⟨fun h => h, zup_i⟩⟩⟩⟩
theorem zhe2_ranked {xs : List Int32} {D : Nat} {M M1 : zM} {x : Int} (hr : zRun xs D 89 [.ref 0, .int (Int32.ofInt x)] M (.inr 2) M1) : zRun xs (D + 1) 239 [.ref 0, .int (Int32.ofInt x), .ref 137] M (.inl (some (.int (Int32.ofInt 1)))) (M1) := by
  intro w
  obtain ⟨w1, hr⟩ := hr w
  exact ⟨w1, zrun_v (N := 6) (by decide) rfl (zz_aload_n (pc := 0) xf_239_0 (zmem 2 rfl) (zz_iconst (pc := 1) xf_239_1 (zz_aload_n (pc := 2) xf_239_2 (zmem 0 rfl) (zz_iload_n (pc := 3) xf_239_3 (zmem 1 rfl) (zz_call_h (pc := 4) (cu := 0) (su := 0) (fun ls hr => zz_calV xf_239_4 rfl zis_0 ls hr) rfl (by decide +kernel) xf_239_12 (by decide +kernel) (hr) (zm_as (fun zM1 (ezM1 : zM1 = M1) => zz_iconst (pc := 13) xf_239_13 (zz_ireturn (pc := 14) xf_239_14 rfl (by decide +kernel) (by decide +kernel) (by subst_vars; exact ⟨rfl, rfl⟩)))))))))⟩
theorem zhv_ranked {xs : List Int32} {D : Nat} {M M1 : zM} {x : Int} {z : Int} (hr : zRun xs D 89 [.ref 0, .int (Int32.ofInt x)] M (.inl (some (.int (Int32.ofInt z)))) M1) (hz : zr32 z) : zRun xs (D + 1) 239 [.ref 0, .int (Int32.ofInt x), .ref 137] M (.inl (some (.int (Int32.ofInt 0)))) (zup M1 137 0 z) := by
  intro w
  obtain ⟨w1, hr⟩ := hr w
  exact ⟨w1, zrun_v (N := 9) (by decide) rfl (zz_aload_n (pc := 0) xf_239_0 (zmem 2 rfl) (zz_iconst (pc := 1) xf_239_1 (zz_aload_n (pc := 2) xf_239_2 (zmem 0 rfl) (zz_iload_n (pc := 3) xf_239_3 (zmem 1 rfl) (zz_call_v (pc := 4) (cu := 0) (su := 0) (fun ls hr => zz_calV xf_239_4 rfl zis_0 ls hr) rfl (hr) (zz_i2l (pc := 7) xf_239_7 hz (zz_last (pc := 8) (j := (0)) xf_239_8 zis_137 (by decide) (zm_as (fun zM1 (ezM1 : zM1 = zup M1 137 0 z) => zz_goto (pc := 9) xf_239_9 (zz_iconst (pc := 15) xf_239_15 (zz_ireturn (pc := 16) xf_239_16 rfl (by decide +kernel) (by decide +kernel) (by subst_vars; exact ⟨rfl, rfl⟩))))))))))))⟩
theorem zh_ranked {xs : List Int32} {D : Nat} {M M1 : zM} {x : Int} {o : XO} (hr : zRun xs D 89 [.ref 0, .int (Int32.ofInt x)] M o M1) (hf : zFo [(2, 1)] 0 o) : ∃ (k : Int) (M2 : zM), zRun xs (D + 1) 239 [.ref 0, .int (Int32.ofInt x), .ref 137] M (.inl (some (.int (Int32.ofInt k)))) M2 ∧ (∀ q : Nat, q < 137 → M2 q = M1 q) ∧ zHo False [(2, 1)] o k (M2 137 0) := by
  rcases hf with ⟨E, rfl, hE⟩ | ⟨x0, rfl, ht⟩
  · have e : E = 2 := by simpa using hE
    subst e
    exact ⟨1, M1, zhe2_ranked hr, fun _ _ => rfl, by decide, Or.inl ⟨_, rfl, by decide⟩⟩
  · obtain ⟨z, hz, rfl⟩ := zTy_z ht
    exact ⟨0, _, zhv_ranked hr hz, fun q hq => zup_or (by omega), by decide, Or.inr ⟨rfl, Or.inl ⟨z, hz, rfl, Or.inr ⟨fun h => h, zup_i⟩⟩⟩⟩
theorem zhe0_core {xs : List Int32} {D : Nat} {M M1 : zM} {x : Int} (hr : zRun xs D 90 [.ref 0, .int (Int32.ofInt x)] M (.inr 0) M1) : zRun xs (D + 1) 240 [.ref 0, .int (Int32.ofInt x), .ref 137] M (.inl (some (.int (Int32.ofInt 1)))) (M1) := by
  intro w
  obtain ⟨w1, hr⟩ := hr w
  exact ⟨w1, zrun_v (N := 6) (by decide) rfl (zz_aload_n (pc := 0) xf_240_0 (zmem 2 rfl) (zz_iconst (pc := 1) xf_240_1 (zz_aload_n (pc := 2) xf_240_2 (zmem 0 rfl) (zz_iload_n (pc := 3) xf_240_3 (zmem 1 rfl) (zz_call_h (pc := 4) (cu := 0) (su := 0) (fun ls hr => zz_calV xf_240_4 rfl zis_0 ls hr) rfl (by decide +kernel) xf_240_12 (by decide +kernel) (hr) (zm_as (fun zM1 (ezM1 : zM1 = M1) => zz_iconst (pc := 13) xf_240_13 (zz_ireturn (pc := 14) xf_240_14 rfl (by decide +kernel) (by decide +kernel) (by subst_vars; exact ⟨rfl, rfl⟩)))))))))⟩
theorem zhv_core {xs : List Int32} {D : Nat} {M M1 : zM} {x : Int} {z : Int} (hr : zRun xs D 90 [.ref 0, .int (Int32.ofInt x)] M (.inl (some (.int (Int32.ofInt z)))) M1) (hz : zr32 z) : zRun xs (D + 1) 240 [.ref 0, .int (Int32.ofInt x), .ref 137] M (.inl (some (.int (Int32.ofInt 0)))) (zup M1 137 0 z) := by
  intro w
  obtain ⟨w1, hr⟩ := hr w
  exact ⟨w1, zrun_v (N := 9) (by decide) rfl (zz_aload_n (pc := 0) xf_240_0 (zmem 2 rfl) (zz_iconst (pc := 1) xf_240_1 (zz_aload_n (pc := 2) xf_240_2 (zmem 0 rfl) (zz_iload_n (pc := 3) xf_240_3 (zmem 1 rfl) (zz_call_v (pc := 4) (cu := 0) (su := 0) (fun ls hr => zz_calV xf_240_4 rfl zis_0 ls hr) rfl (hr) (zz_i2l (pc := 7) xf_240_7 hz (zz_last (pc := 8) (j := (0)) xf_240_8 zis_137 (by decide) (zm_as (fun zM1 (ezM1 : zM1 = zup M1 137 0 z) => zz_goto (pc := 9) xf_240_9 (zz_iconst (pc := 15) xf_240_15 (zz_ireturn (pc := 16) xf_240_16 rfl (by decide +kernel) (by decide +kernel) (by subst_vars; exact ⟨rfl, rfl⟩))))))))))))⟩
theorem zh_core {xs : List Int32} {D : Nat} {M M1 : zM} {x : Int} {o : XO} (hr : zRun xs D 90 [.ref 0, .int (Int32.ofInt x)] M o M1) (hf : zFo [(0, 1)] 0 o) : ∃ (k : Int) (M2 : zM), zRun xs (D + 1) 240 [.ref 0, .int (Int32.ofInt x), .ref 137] M (.inl (some (.int (Int32.ofInt k)))) M2 ∧ (∀ q : Nat, q < 137 → M2 q = M1 q) ∧ zHo False [(0, 1)] o k (M2 137 0) := by
  rcases hf with ⟨E, rfl, hE⟩ | ⟨x0, rfl, ht⟩
  · have e : E = 0 := by simpa using hE
    subst e
    exact ⟨1, M1, zhe0_core hr, fun _ _ => rfl, by decide, Or.inl ⟨_, rfl, by decide⟩⟩
  · obtain ⟨z, hz, rfl⟩ := zTy_z ht
    exact ⟨0, _, zhv_core hr hz, fun q hq => zup_or (by omega), by decide, Or.inr ⟨rfl, Or.inl ⟨z, hz, rfl, Or.inr ⟨fun h => h, zup_i⟩⟩⟩⟩
theorem zhe0_steps {xs : List Int32} {D : Nat} {M M1 : zM} {x : Int} (hr : zRun xs D 94 [.ref 0, .int (Int32.ofInt x)] M (.inr 0) M1) : zRun xs (D + 1) 241 [.ref 0, .int (Int32.ofInt x), .ref 137] M (.inl (some (.int (Int32.ofInt 1)))) (M1) := by
  intro w
  obtain ⟨w1, hr⟩ := hr w
  exact ⟨w1, zrun_v (N := 6) (by decide) rfl (zz_aload_n (pc := 0) xf_241_0 (zmem 2 rfl) (zz_iconst (pc := 1) xf_241_1 (zz_aload_n (pc := 2) xf_241_2 (zmem 0 rfl) (zz_iload_n (pc := 3) xf_241_3 (zmem 1 rfl) (zz_call_h (pc := 4) (cu := 0) (su := 0) (fun ls hr => zz_calV xf_241_4 rfl zis_0 ls hr) rfl (by decide +kernel) xf_241_12 (by decide +kernel) (hr) (zm_as (fun zM1 (ezM1 : zM1 = M1) => zz_iconst (pc := 13) xf_241_13 (zz_ireturn (pc := 14) xf_241_14 rfl (by decide +kernel) (by decide +kernel) (by subst_vars; exact ⟨rfl, rfl⟩)))))))))⟩
theorem zhv_steps {xs : List Int32} {D : Nat} {M M1 : zM} {x : Int} {z : Int} (hr : zRun xs D 94 [.ref 0, .int (Int32.ofInt x)] M (.inl (some (.int (Int32.ofInt z)))) M1) (hz : zr32 z) : zRun xs (D + 1) 241 [.ref 0, .int (Int32.ofInt x), .ref 137] M (.inl (some (.int (Int32.ofInt 0)))) (zup M1 137 0 z) := by
  intro w
  obtain ⟨w1, hr⟩ := hr w
  exact ⟨w1, zrun_v (N := 9) (by decide) rfl (zz_aload_n (pc := 0) xf_241_0 (zmem 2 rfl) (zz_iconst (pc := 1) xf_241_1 (zz_aload_n (pc := 2) xf_241_2 (zmem 0 rfl) (zz_iload_n (pc := 3) xf_241_3 (zmem 1 rfl) (zz_call_v (pc := 4) (cu := 0) (su := 0) (fun ls hr => zz_calV xf_241_4 rfl zis_0 ls hr) rfl (hr) (zz_i2l (pc := 7) xf_241_7 hz (zz_last (pc := 8) (j := (0)) xf_241_8 zis_137 (by decide) (zm_as (fun zM1 (ezM1 : zM1 = zup M1 137 0 z) => zz_goto (pc := 9) xf_241_9 (zz_iconst (pc := 15) xf_241_15 (zz_ireturn (pc := 16) xf_241_16 rfl (by decide +kernel) (by decide +kernel) (by subst_vars; exact ⟨rfl, rfl⟩))))))))))))⟩
theorem zh_steps {xs : List Int32} {D : Nat} {M M1 : zM} {x : Int} {o : XO} (hr : zRun xs D 94 [.ref 0, .int (Int32.ofInt x)] M o M1) (hf : zFo [(0, 1)] 0 o) : ∃ (k : Int) (M2 : zM), zRun xs (D + 1) 241 [.ref 0, .int (Int32.ofInt x), .ref 137] M (.inl (some (.int (Int32.ofInt k)))) M2 ∧ (∀ q : Nat, q < 137 → M2 q = M1 q) ∧ zHo False [(0, 1)] o k (M2 137 0) := by
  rcases hf with ⟨E, rfl, hE⟩ | ⟨x0, rfl, ht⟩
  · have e : E = 0 := by simpa using hE
    subst e
    exact ⟨1, M1, zhe0_steps hr, fun _ _ => rfl, by decide, Or.inl ⟨_, rfl, by decide⟩⟩
  · obtain ⟨z, hz, rfl⟩ := zTy_z ht
    exact ⟨0, _, zhv_steps hr hz, fun q hq => zup_or (by omega), by decide, Or.inr ⟨rfl, Or.inl ⟨z, hz, rfl, Or.inr ⟨fun h => h, zup_i⟩⟩⟩⟩
theorem zhe3_step {xs : List Int32} {D : Nat} {M M1 : zM} {x : Int} (hr : zRun xs D 95 [.ref 0, .int (Int32.ofInt x)] M (.inr 3) M1) : zRun xs (D + 1) 242 [.ref 0, .int (Int32.ofInt x), .ref 137] M (.inl (some (.int (Int32.ofInt 1)))) (M1) := by
  intro w
  obtain ⟨w1, hr⟩ := hr w
  exact ⟨w1, zrun_v (N := 6) (by decide) rfl (zz_aload_n (pc := 0) xf_242_0 (zmem 2 rfl) (zz_iconst (pc := 1) xf_242_1 (zz_aload_n (pc := 2) xf_242_2 (zmem 0 rfl) (zz_iload_n (pc := 3) xf_242_3 (zmem 1 rfl) (zz_call_h (pc := 4) (cu := 0) (su := 0) (fun ls hr => zz_calV xf_242_4 rfl zis_0 ls hr) rfl (by decide +kernel) xf_242_12 (by decide +kernel) (hr) (zm_as (fun zM1 (ezM1 : zM1 = M1) => zz_iconst (pc := 13) xf_242_13 (zz_ireturn (pc := 14) xf_242_14 rfl (by decide +kernel) (by decide +kernel) (by subst_vars; exact ⟨rfl, rfl⟩)))))))))⟩
theorem zhv_step {xs : List Int32} {D : Nat} {M M1 : zM} {x : Int} {z : Int} (hr : zRun xs D 95 [.ref 0, .int (Int32.ofInt x)] M (.inl (some (.int (Int32.ofInt z)))) M1) (hz : zr32 z) : zRun xs (D + 1) 242 [.ref 0, .int (Int32.ofInt x), .ref 137] M (.inl (some (.int (Int32.ofInt 0)))) (zup M1 137 0 z) := by
  intro w
  obtain ⟨w1, hr⟩ := hr w
  exact ⟨w1, zrun_v (N := 9) (by decide) rfl (zz_aload_n (pc := 0) xf_242_0 (zmem 2 rfl) (zz_iconst (pc := 1) xf_242_1 (zz_aload_n (pc := 2) xf_242_2 (zmem 0 rfl) (zz_iload_n (pc := 3) xf_242_3 (zmem 1 rfl) (zz_call_v (pc := 4) (cu := 0) (su := 0) (fun ls hr => zz_calV xf_242_4 rfl zis_0 ls hr) rfl (hr) (zz_i2l (pc := 7) xf_242_7 hz (zz_last (pc := 8) (j := (0)) xf_242_8 zis_137 (by decide) (zm_as (fun zM1 (ezM1 : zM1 = zup M1 137 0 z) => zz_goto (pc := 9) xf_242_9 (zz_iconst (pc := 15) xf_242_15 (zz_ireturn (pc := 16) xf_242_16 rfl (by decide +kernel) (by decide +kernel) (by subst_vars; exact ⟨rfl, rfl⟩))))))))))))⟩
theorem zh_step {xs : List Int32} {D : Nat} {M M1 : zM} {x : Int} {o : XO} (hr : zRun xs D 95 [.ref 0, .int (Int32.ofInt x)] M o M1) (hf : zFo [(3, 1)] 0 o) : ∃ (k : Int) (M2 : zM), zRun xs (D + 1) 242 [.ref 0, .int (Int32.ofInt x), .ref 137] M (.inl (some (.int (Int32.ofInt k)))) M2 ∧ (∀ q : Nat, q < 137 → M2 q = M1 q) ∧ zHo False [(3, 1)] o k (M2 137 0) := by
  rcases hf with ⟨E, rfl, hE⟩ | ⟨x0, rfl, ht⟩
  · have e : E = 3 := by simpa using hE
    subst e
    exact ⟨1, M1, zhe3_step hr, fun _ _ => rfl, by decide, Or.inl ⟨_, rfl, by decide⟩⟩
  · obtain ⟨z, hz, rfl⟩ := zTy_z ht
    exact ⟨0, _, zhv_step hr hz, fun q hq => zup_or (by omega), by decide, Or.inr ⟨rfl, Or.inl ⟨z, hz, rfl, Or.inr ⟨fun h => h, zup_i⟩⟩⟩⟩
theorem zhe2_exact {xs : List Int32} {D : Nat} {M M1 : zM} {x : Int} (hr : zRun xs D 96 [.ref 0, .int (Int32.ofInt x)] M (.inr 2) M1) : zRun xs (D + 1) 243 [.ref 0, .int (Int32.ofInt x), .ref 137] M (.inl (some (.int (Int32.ofInt 1)))) (M1) := by
  intro w
  obtain ⟨w1, hr⟩ := hr w
  exact ⟨w1, zrun_v (N := 6) (by decide) rfl (zz_aload_n (pc := 0) xf_243_0 (zmem 2 rfl) (zz_iconst (pc := 1) xf_243_1 (zz_aload_n (pc := 2) xf_243_2 (zmem 0 rfl) (zz_iload_n (pc := 3) xf_243_3 (zmem 1 rfl) (zz_call_h (pc := 4) (cu := 0) (su := 0) (fun ls hr => zz_calV xf_243_4 rfl zis_0 ls hr) rfl (by decide +kernel) xf_243_11 (by decide +kernel) (hr) (zm_as (fun zM1 (ezM1 : zM1 = M1) => zz_iconst (pc := 12) xf_243_12 (zz_ireturn (pc := 13) xf_243_13 rfl (by decide +kernel) (by decide +kernel) (by subst_vars; exact ⟨rfl, rfl⟩)))))))))⟩
theorem zhe1_exact {xs : List Int32} {D : Nat} {M M1 : zM} {x : Int} (hr : zRun xs D 96 [.ref 0, .int (Int32.ofInt x)] M (.inr 1) M1) : zRun xs (D + 1) 243 [.ref 0, .int (Int32.ofInt x), .ref 137] M (.inl (some (.int (Int32.ofInt 2)))) (M1) := by
  intro w
  obtain ⟨w1, hr⟩ := hr w
  exact ⟨w1, zrun_v (N := 6) (by decide) rfl (zz_aload_n (pc := 0) xf_243_0 (zmem 2 rfl) (zz_iconst (pc := 1) xf_243_1 (zz_aload_n (pc := 2) xf_243_2 (zmem 0 rfl) (zz_iload_n (pc := 3) xf_243_3 (zmem 1 rfl) (zz_call_h (pc := 4) (cu := 0) (su := 0) (fun ls hr => zz_calV xf_243_4 rfl zis_0 ls hr) rfl (by decide +kernel) xf_243_14 (by decide +kernel) (hr) (zm_as (fun zM1 (ezM1 : zM1 = M1) => zz_iconst (pc := 15) xf_243_15 (zz_ireturn (pc := 16) xf_243_16 rfl (by decide +kernel) (by decide +kernel) (by subst_vars; exact ⟨rfl, rfl⟩)))))))))⟩
theorem zhv_exact {xs : List Int32} {D : Nat} {M M1 : zM} {x : Int} {z : Int} (hr : zRun xs D 96 [.ref 0, .int (Int32.ofInt x)] M (.inl (some (.long (Int64.ofInt z)))) M1) (hz : zr64 z) : zRun xs (D + 1) 243 [.ref 0, .int (Int32.ofInt x), .ref 137] M (.inl (some (.int (Int32.ofInt 0)))) (zup M1 137 0 z) := by
  intro w
  obtain ⟨w1, hr⟩ := hr w
  exact ⟨w1, zrun_v (N := 8) (by decide) rfl (zz_aload_n (pc := 0) xf_243_0 (zmem 2 rfl) (zz_iconst (pc := 1) xf_243_1 (zz_aload_n (pc := 2) xf_243_2 (zmem 0 rfl) (zz_iload_n (pc := 3) xf_243_3 (zmem 1 rfl) (zz_call_v (pc := 4) (cu := 0) (su := 0) (fun ls hr => zz_calV xf_243_4 rfl zis_0 ls hr) rfl (hr) (zz_last (pc := 7) (j := (0)) xf_243_7 zis_137 (by decide) (zm_as (fun zM1 (ezM1 : zM1 = zup M1 137 0 z) => zz_goto (pc := 8) xf_243_8 (zz_iconst (pc := 17) xf_243_17 (zz_ireturn (pc := 18) xf_243_18 rfl (by decide +kernel) (by decide +kernel) (by subst_vars; exact ⟨rfl, rfl⟩)))))))))))⟩
theorem zh_exact {xs : List Int32} {D : Nat} {M M1 : zM} {x : Int} {o : XO} (hr : zRun xs D 96 [.ref 0, .int (Int32.ofInt x)] M o M1) (hf : zFo [(2, 1), (1, 2)] 1 o) : ∃ (k : Int) (M2 : zM), zRun xs (D + 1) 243 [.ref 0, .int (Int32.ofInt x), .ref 137] M (.inl (some (.int (Int32.ofInt k)))) M2 ∧ (∀ q : Nat, q < 137 → M2 q = M1 q) ∧ zHo False [(2, 1), (1, 2)] o k (M2 137 0) := by
  rcases hf with ⟨E, rfl, hE⟩ | ⟨x0, rfl, ht⟩
  · have e : E = 2 ∨ E = 1 := by simpa using hE
    rcases e with rfl | rfl
    · exact ⟨1, M1, zhe2_exact hr, fun _ _ => rfl, by decide, Or.inl ⟨_, rfl, by decide⟩⟩
    · exact ⟨2, M1, zhe1_exact hr, fun _ _ => rfl, by decide, Or.inl ⟨_, rfl, by decide⟩⟩
  · obtain ⟨z, hz, rfl⟩ := zTy_l ht
    exact ⟨0, _, zhv_exact hr hz, fun q hq => zup_or (by omega), by decide, Or.inr ⟨rfl, Or.inr ⟨z, hz, rfl, zup_i⟩⟩⟩
theorem zhe1_likely {xs : List Int32} {D : Nat} {M M1 : zM} (hr : zRun xs D 97 [.ref 0] M (.inr 1) M1) : zRun xs (D + 1) 244 [.ref 0, .ref 137] M (.inl (some (.int (Int32.ofInt 1)))) (M1) := by
  intro w
  obtain ⟨w1, hr⟩ := hr w
  exact ⟨w1, zrun_v (N := 5) (by decide) rfl (zz_aload_n (pc := 0) xf_244_0 (zmem 1 rfl) (zz_iconst (pc := 1) xf_244_1 (zz_aload_n (pc := 2) xf_244_2 (zmem 0 rfl) (zz_call_h (pc := 3) (cu := 0) (su := 0) (fun ls hr => zz_calV xf_244_3 rfl zis_0 ls hr) rfl (by decide +kernel) xf_244_11 (by decide +kernel) (hr) (zm_as (fun zM1 (ezM1 : zM1 = M1) => zz_iconst (pc := 12) xf_244_12 (zz_ireturn (pc := 13) xf_244_13 rfl (by decide +kernel) (by decide +kernel) (by subst_vars; exact ⟨rfl, rfl⟩))))))))⟩
theorem zhv_likely {xs : List Int32} {D : Nat} {M M1 : zM} {z : Int} (hr : zRun xs D 97 [.ref 0] M (.inl (some (.int (Int32.ofInt z)))) M1) (hz : zr32 z) : zRun xs (D + 1) 244 [.ref 0, .ref 137] M (.inl (some (.int (Int32.ofInt 0)))) (zup M1 137 0 z) := by
  intro w
  obtain ⟨w1, hr⟩ := hr w
  exact ⟨w1, zrun_v (N := 8) (by decide) rfl (zz_aload_n (pc := 0) xf_244_0 (zmem 1 rfl) (zz_iconst (pc := 1) xf_244_1 (zz_aload_n (pc := 2) xf_244_2 (zmem 0 rfl) (zz_call_v (pc := 3) (cu := 0) (su := 0) (fun ls hr => zz_calV xf_244_3 rfl zis_0 ls hr) rfl (hr) (zz_i2l (pc := 6) xf_244_6 hz (zz_last (pc := 7) (j := (0)) xf_244_7 zis_137 (by decide) (zm_as (fun zM1 (ezM1 : zM1 = zup M1 137 0 z) => zz_goto (pc := 8) xf_244_8 (zz_iconst (pc := 14) xf_244_14 (zz_ireturn (pc := 15) xf_244_15 rfl (by decide +kernel) (by decide +kernel) (by subst_vars; exact ⟨rfl, rfl⟩)))))))))))⟩
theorem zh_likely {xs : List Int32} {D : Nat} {M M1 : zM} {o : XO} (hr : zRun xs D 97 [.ref 0] M o M1) (hf : zFo [(1, 1)] 0 o) : ∃ (k : Int) (M2 : zM), zRun xs (D + 1) 244 [.ref 0, .ref 137] M (.inl (some (.int (Int32.ofInt k)))) M2 ∧ (∀ q : Nat, q < 137 → M2 q = M1 q) ∧ zHo False [(1, 1)] o k (M2 137 0) := by
  rcases hf with ⟨E, rfl, hE⟩ | ⟨x0, rfl, ht⟩
  · have e : E = 1 := by simpa using hE
    subst e
    exact ⟨1, M1, zhe1_likely hr, fun _ _ => rfl, by decide, Or.inl ⟨_, rfl, by decide⟩⟩
  · obtain ⟨z, hz, rfl⟩ := zTy_z ht
    exact ⟨0, _, zhv_likely hr hz, fun q hq => zup_or (by omega), by decide, Or.inr ⟨rfl, Or.inl ⟨z, hz, rfl, Or.inr ⟨fun h => h, zup_i⟩⟩⟩⟩
theorem zhe1_path {xs : List Int32} {D : Nat} {M M1 : zM} {x : Int} (hr : zRun xs D 98 [.ref 0, .int (Int32.ofInt x)] M (.inr 1) M1) : zRun xs (D + 1) 245 [.ref 0, .int (Int32.ofInt x), .ref 137] M (.inl (some (.int (Int32.ofInt 1)))) (M1) := by
  intro w
  obtain ⟨w1, hr⟩ := hr w
  exact ⟨w1, zrun_v (N := 6) (by decide) rfl (zz_aload_n (pc := 0) xf_245_0 (zmem 2 rfl) (zz_iconst (pc := 1) xf_245_1 (zz_aload_n (pc := 2) xf_245_2 (zmem 0 rfl) (zz_iload_n (pc := 3) xf_245_3 (zmem 1 rfl) (zz_call_h (pc := 4) (cu := 0) (su := 0) (fun ls hr => zz_calV xf_245_4 rfl zis_0 ls hr) rfl (by decide +kernel) xf_245_12 (by decide +kernel) (hr) (zm_as (fun zM1 (ezM1 : zM1 = M1) => zz_iconst (pc := 13) xf_245_13 (zz_ireturn (pc := 14) xf_245_14 rfl (by decide +kernel) (by decide +kernel) (by subst_vars; exact ⟨rfl, rfl⟩)))))))))⟩
theorem zhe2_path {xs : List Int32} {D : Nat} {M M1 : zM} {x : Int} (hr : zRun xs D 98 [.ref 0, .int (Int32.ofInt x)] M (.inr 2) M1) : zRun xs (D + 1) 245 [.ref 0, .int (Int32.ofInt x), .ref 137] M (.inl (some (.int (Int32.ofInt 2)))) (M1) := by
  intro w
  obtain ⟨w1, hr⟩ := hr w
  exact ⟨w1, zrun_v (N := 6) (by decide) rfl (zz_aload_n (pc := 0) xf_245_0 (zmem 2 rfl) (zz_iconst (pc := 1) xf_245_1 (zz_aload_n (pc := 2) xf_245_2 (zmem 0 rfl) (zz_iload_n (pc := 3) xf_245_3 (zmem 1 rfl) (zz_call_h (pc := 4) (cu := 0) (su := 0) (fun ls hr => zz_calV xf_245_4 rfl zis_0 ls hr) rfl (by decide +kernel) xf_245_15 (by decide +kernel) (hr) (zm_as (fun zM1 (ezM1 : zM1 = M1) => zz_iconst (pc := 16) xf_245_16 (zz_ireturn (pc := 17) xf_245_17 rfl (by decide +kernel) (by decide +kernel) (by subst_vars; exact ⟨rfl, rfl⟩)))))))))⟩
theorem zhv_path {xs : List Int32} {D : Nat} {M M1 : zM} {x : Int} {z : Int} (hr : zRun xs D 98 [.ref 0, .int (Int32.ofInt x)] M (.inl (some (.int (Int32.ofInt z)))) M1) (hz : zr32 z) : zRun xs (D + 1) 245 [.ref 0, .int (Int32.ofInt x), .ref 137] M (.inl (some (.int (Int32.ofInt 0)))) (zup M1 137 0 z) := by
  intro w
  obtain ⟨w1, hr⟩ := hr w
  exact ⟨w1, zrun_v (N := 9) (by decide) rfl (zz_aload_n (pc := 0) xf_245_0 (zmem 2 rfl) (zz_iconst (pc := 1) xf_245_1 (zz_aload_n (pc := 2) xf_245_2 (zmem 0 rfl) (zz_iload_n (pc := 3) xf_245_3 (zmem 1 rfl) (zz_call_v (pc := 4) (cu := 0) (su := 0) (fun ls hr => zz_calV xf_245_4 rfl zis_0 ls hr) rfl (hr) (zz_i2l (pc := 7) xf_245_7 hz (zz_last (pc := 8) (j := (0)) xf_245_8 zis_137 (by decide) (zm_as (fun zM1 (ezM1 : zM1 = zup M1 137 0 z) => zz_goto (pc := 9) xf_245_9 (zz_iconst (pc := 18) xf_245_18 (zz_ireturn (pc := 19) xf_245_19 rfl (by decide +kernel) (by decide +kernel) (by subst_vars; exact ⟨rfl, rfl⟩))))))))))))⟩
theorem zh_path {xs : List Int32} {D : Nat} {M M1 : zM} {x : Int} {o : XO} (hr : zRun xs D 98 [.ref 0, .int (Int32.ofInt x)] M o M1) (hf : zFo [(1, 1), (2, 2)] 0 o) : ∃ (k : Int) (M2 : zM), zRun xs (D + 1) 245 [.ref 0, .int (Int32.ofInt x), .ref 137] M (.inl (some (.int (Int32.ofInt k)))) M2 ∧ (∀ q : Nat, q < 137 → M2 q = M1 q) ∧ zHo False [(1, 1), (2, 2)] o k (M2 137 0) := by
  rcases hf with ⟨E, rfl, hE⟩ | ⟨x0, rfl, ht⟩
  · have e : E = 1 ∨ E = 2 := by simpa using hE
    rcases e with rfl | rfl
    · exact ⟨1, M1, zhe1_path hr, fun _ _ => rfl, by decide, Or.inl ⟨_, rfl, by decide⟩⟩
    · exact ⟨2, M1, zhe2_path hr, fun _ _ => rfl, by decide, Or.inl ⟨_, rfl, by decide⟩⟩
  · obtain ⟨z, hz, rfl⟩ := zTy_z ht
    exact ⟨0, _, zhv_path hr hz, fun q hq => zup_or (by omega), by decide, Or.inr ⟨rfl, Or.inl ⟨z, hz, rfl, Or.inr ⟨fun h => h, zup_i⟩⟩⟩⟩
theorem zhe1_pathWeight {xs : List Int32} {D : Nat} {M M1 : zM} (hr : zRun xs D 99 [.ref 0] M (.inr 1) M1) : zRun xs (D + 1) 246 [.ref 0, .ref 137] M (.inl (some (.int (Int32.ofInt 1)))) (M1) := by
  intro w
  obtain ⟨w1, hr⟩ := hr w
  exact ⟨w1, zrun_v (N := 5) (by decide) rfl (zz_aload_n (pc := 0) xf_246_0 (zmem 1 rfl) (zz_iconst (pc := 1) xf_246_1 (zz_aload_n (pc := 2) xf_246_2 (zmem 0 rfl) (zz_call_h (pc := 3) (cu := 0) (su := 0) (fun ls hr => zz_calV xf_246_3 rfl zis_0 ls hr) rfl (by decide +kernel) xf_246_10 (by decide +kernel) (hr) (zm_as (fun zM1 (ezM1 : zM1 = M1) => zz_iconst (pc := 11) xf_246_11 (zz_ireturn (pc := 12) xf_246_12 rfl (by decide +kernel) (by decide +kernel) (by subst_vars; exact ⟨rfl, rfl⟩))))))))⟩
theorem zhv_pathWeight {xs : List Int32} {D : Nat} {M M1 : zM} {z : Int} (hr : zRun xs D 99 [.ref 0] M (.inl (some (.long (Int64.ofInt z)))) M1) (hz : zr64 z) : zRun xs (D + 1) 246 [.ref 0, .ref 137] M (.inl (some (.int (Int32.ofInt 0)))) (zup M1 137 0 z) := by
  intro w
  obtain ⟨w1, hr⟩ := hr w
  exact ⟨w1, zrun_v (N := 7) (by decide) rfl (zz_aload_n (pc := 0) xf_246_0 (zmem 1 rfl) (zz_iconst (pc := 1) xf_246_1 (zz_aload_n (pc := 2) xf_246_2 (zmem 0 rfl) (zz_call_v (pc := 3) (cu := 0) (su := 0) (fun ls hr => zz_calV xf_246_3 rfl zis_0 ls hr) rfl (hr) (zz_last (pc := 6) (j := (0)) xf_246_6 zis_137 (by decide) (zm_as (fun zM1 (ezM1 : zM1 = zup M1 137 0 z) => zz_goto (pc := 7) xf_246_7 (zz_iconst (pc := 13) xf_246_13 (zz_ireturn (pc := 14) xf_246_14 rfl (by decide +kernel) (by decide +kernel) (by subst_vars; exact ⟨rfl, rfl⟩))))))))))⟩
theorem zh_pathWeight {xs : List Int32} {D : Nat} {M M1 : zM} {o : XO} (hr : zRun xs D 99 [.ref 0] M o M1) (hf : zFo [(1, 1)] 1 o) : ∃ (k : Int) (M2 : zM), zRun xs (D + 1) 246 [.ref 0, .ref 137] M (.inl (some (.int (Int32.ofInt k)))) M2 ∧ (∀ q : Nat, q < 137 → M2 q = M1 q) ∧ zHo False [(1, 1)] o k (M2 137 0) := by
  rcases hf with ⟨E, rfl, hE⟩ | ⟨x0, rfl, ht⟩
  · have e : E = 1 := by simpa using hE
    subst e
    exact ⟨1, M1, zhe1_pathWeight hr, fun _ _ => rfl, by decide, Or.inl ⟨_, rfl, by decide⟩⟩
  · obtain ⟨z, hz, rfl⟩ := zTy_l ht
    exact ⟨0, _, zhv_pathWeight hr hz, fun q hq => zup_or (by omega), by decide, Or.inr ⟨rfl, Or.inr ⟨z, hz, rfl, zup_i⟩⟩⟩
theorem zhe2_wayCost {xs : List Int32} {D : Nat} {M M1 : zM} {x y : Int} (hr : zRun xs D 100 [.ref 0, .int (Int32.ofInt x), .int (Int32.ofInt y)] M (.inr 2) M1) : zRun xs (D + 1) 247 [.ref 0, .int (Int32.ofInt x), .int (Int32.ofInt y), .ref 137] M (.inl (some (.int (Int32.ofInt 1)))) (M1) := by
  intro w
  obtain ⟨w1, hr⟩ := hr w
  exact ⟨w1, zrun_v (N := 7) (by decide) rfl (zz_aload_n (pc := 0) xf_247_0 (zmem 3 rfl) (zz_iconst (pc := 1) xf_247_1 (zz_aload_n (pc := 2) xf_247_2 (zmem 0 rfl) (zz_iload_n (pc := 3) xf_247_3 (zmem 1 rfl) (zz_iload_n (pc := 4) xf_247_4 (zmem 2 rfl) (zz_call_hw (pc := 5) (cu := 0) (su := 0) (fun ls hr => zz_calV xf_247_5 rfl zis_0 ls hr) rfl (by decide +kernel) xf_247_13 (by decide +kernel) (hr) (zm_as (fun zM1 (ezM1 : zM1 = M1) => zz_iconst (pc := 15) xf_247_15 (zz_ireturn (pc := 16) xf_247_16 rfl (by decide +kernel) (by decide +kernel) (by subst_vars; exact ⟨rfl, rfl⟩))))))))))⟩
theorem zhe1_wayCost {xs : List Int32} {D : Nat} {M M1 : zM} {x y : Int} (hr : zRun xs D 100 [.ref 0, .int (Int32.ofInt x), .int (Int32.ofInt y)] M (.inr 1) M1) : zRun xs (D + 1) 247 [.ref 0, .int (Int32.ofInt x), .int (Int32.ofInt y), .ref 137] M (.inl (some (.int (Int32.ofInt 2)))) (M1) := by
  intro w
  obtain ⟨w1, hr⟩ := hr w
  exact ⟨w1, zrun_v (N := 7) (by decide) rfl (zz_aload_n (pc := 0) xf_247_0 (zmem 3 rfl) (zz_iconst (pc := 1) xf_247_1 (zz_aload_n (pc := 2) xf_247_2 (zmem 0 rfl) (zz_iload_n (pc := 3) xf_247_3 (zmem 1 rfl) (zz_iload_n (pc := 4) xf_247_4 (zmem 2 rfl) (zz_call_hw (pc := 5) (cu := 0) (su := 0) (fun ls hr => zz_calV xf_247_5 rfl zis_0 ls hr) rfl (by decide +kernel) xf_247_17 (by decide +kernel) (hr) (zm_as (fun zM1 (ezM1 : zM1 = M1) => zz_iconst (pc := 19) xf_247_19 (zz_ireturn (pc := 20) xf_247_20 rfl (by decide +kernel) (by decide +kernel) (by subst_vars; exact ⟨rfl, rfl⟩))))))))))⟩
theorem zhe3_wayCost {xs : List Int32} {D : Nat} {M M1 : zM} {x y : Int} (hr : zRun xs D 100 [.ref 0, .int (Int32.ofInt x), .int (Int32.ofInt y)] M (.inr 3) M1) : zRun xs (D + 1) 247 [.ref 0, .int (Int32.ofInt x), .int (Int32.ofInt y), .ref 137] M (.inl (some (.int (Int32.ofInt 3)))) (M1) := by
  intro w
  obtain ⟨w1, hr⟩ := hr w
  exact ⟨w1, zrun_v (N := 7) (by decide) rfl (zz_aload_n (pc := 0) xf_247_0 (zmem 3 rfl) (zz_iconst (pc := 1) xf_247_1 (zz_aload_n (pc := 2) xf_247_2 (zmem 0 rfl) (zz_iload_n (pc := 3) xf_247_3 (zmem 1 rfl) (zz_iload_n (pc := 4) xf_247_4 (zmem 2 rfl) (zz_call_hw (pc := 5) (cu := 0) (su := 0) (fun ls hr => zz_calV xf_247_5 rfl zis_0 ls hr) rfl (by decide +kernel) xf_247_21 (by decide +kernel) (hr) (zm_as (fun zM1 (ezM1 : zM1 = M1) => zz_iconst (pc := 23) xf_247_23 (zz_ireturn (pc := 24) xf_247_24 rfl (by decide +kernel) (by decide +kernel) (by subst_vars; exact ⟨rfl, rfl⟩))))))))))⟩
theorem zhv_wayCost {xs : List Int32} {D : Nat} {M M1 : zM} {x y : Int} {z : Int} (hr : zRun xs D 100 [.ref 0, .int (Int32.ofInt x), .int (Int32.ofInt y)] M (.inl (some (.int (Int32.ofInt z)))) M1) (hz : zr32 z) : zRun xs (D + 1) 247 [.ref 0, .int (Int32.ofInt x), .int (Int32.ofInt y), .ref 137] M (.inl (some (.int (Int32.ofInt 0)))) (zup M1 137 0 z) := by
  intro w
  obtain ⟨w1, hr⟩ := hr w
  exact ⟨w1, zrun_v (N := 10) (by decide) rfl (zz_aload_n (pc := 0) xf_247_0 (zmem 3 rfl) (zz_iconst (pc := 1) xf_247_1 (zz_aload_n (pc := 2) xf_247_2 (zmem 0 rfl) (zz_iload_n (pc := 3) xf_247_3 (zmem 1 rfl) (zz_iload_n (pc := 4) xf_247_4 (zmem 2 rfl) (zz_call_v (pc := 5) (cu := 0) (su := 0) (fun ls hr => zz_calV xf_247_5 rfl zis_0 ls hr) rfl (hr) (zz_i2l (pc := 8) xf_247_8 hz (zz_last (pc := 9) (j := (0)) xf_247_9 zis_137 (by decide) (zm_as (fun zM1 (ezM1 : zM1 = zup M1 137 0 z) => zz_goto (pc := 10) xf_247_10 (zz_iconst (pc := 25) xf_247_25 (zz_ireturn (pc := 26) xf_247_26 rfl (by decide +kernel) (by decide +kernel) (by subst_vars; exact ⟨rfl, rfl⟩)))))))))))))⟩
theorem zh_wayCost {xs : List Int32} {D : Nat} {M M1 : zM} {x y : Int} {o : XO} (hr : zRun xs D 100 [.ref 0, .int (Int32.ofInt x), .int (Int32.ofInt y)] M o M1) (hf : zFo [(2, 1), (1, 2), (3, 3)] 0 o) : ∃ (k : Int) (M2 : zM), zRun xs (D + 1) 247 [.ref 0, .int (Int32.ofInt x), .int (Int32.ofInt y), .ref 137] M (.inl (some (.int (Int32.ofInt k)))) M2 ∧ (∀ q : Nat, q < 137 → M2 q = M1 q) ∧ zHo False [(2, 1), (1, 2), (3, 3)] o k (M2 137 0) := by
  rcases hf with ⟨E, rfl, hE⟩ | ⟨x0, rfl, ht⟩
  · have e : E = 2 ∨ E = 1 ∨ E = 3 := by simpa using hE
    rcases e with rfl | rfl | rfl
    · exact ⟨1, M1, zhe2_wayCost hr, fun _ _ => rfl, by decide, Or.inl ⟨_, rfl, by decide⟩⟩
    · exact ⟨2, M1, zhe1_wayCost hr, fun _ _ => rfl, by decide, Or.inl ⟨_, rfl, by decide⟩⟩
    · exact ⟨3, M1, zhe3_wayCost hr, fun _ _ => rfl, by decide, Or.inl ⟨_, rfl, by decide⟩⟩
  · obtain ⟨z, hz, rfl⟩ := zTy_z ht
    exact ⟨0, _, zhv_wayCost hr hz, fun q hq => zup_or (by omega), by decide, Or.inr ⟨rfl, Or.inl ⟨z, hz, rfl, Or.inr ⟨fun h => h, zup_i⟩⟩⟩⟩
theorem zhe2_wayDirection {xs : List Int32} {D : Nat} {M M1 : zM} {x y : Int} (hr : zRun xs D 101 [.ref 0, .int (Int32.ofInt x), .int (Int32.ofInt y)] M (.inr 2) M1) : zRun xs (D + 1) 248 [.ref 0, .int (Int32.ofInt x), .int (Int32.ofInt y), .ref 137] M (.inl (some (.int (Int32.ofInt 1)))) (M1) := by
  intro w
  obtain ⟨w1, hr⟩ := hr w
  exact ⟨w1, zrun_v (N := 7) (by decide) rfl (zz_aload_n (pc := 0) xf_248_0 (zmem 3 rfl) (zz_iconst (pc := 1) xf_248_1 (zz_aload_n (pc := 2) xf_248_2 (zmem 0 rfl) (zz_iload_n (pc := 3) xf_248_3 (zmem 1 rfl) (zz_iload_n (pc := 4) xf_248_4 (zmem 2 rfl) (zz_call_hw (pc := 5) (cu := 0) (su := 0) (fun ls hr => zz_calV xf_248_5 rfl zis_0 ls hr) rfl (by decide +kernel) xf_248_13 (by decide +kernel) (hr) (zm_as (fun zM1 (ezM1 : zM1 = M1) => zz_iconst (pc := 15) xf_248_15 (zz_ireturn (pc := 16) xf_248_16 rfl (by decide +kernel) (by decide +kernel) (by subst_vars; exact ⟨rfl, rfl⟩))))))))))⟩
theorem zhe1_wayDirection {xs : List Int32} {D : Nat} {M M1 : zM} {x y : Int} (hr : zRun xs D 101 [.ref 0, .int (Int32.ofInt x), .int (Int32.ofInt y)] M (.inr 1) M1) : zRun xs (D + 1) 248 [.ref 0, .int (Int32.ofInt x), .int (Int32.ofInt y), .ref 137] M (.inl (some (.int (Int32.ofInt 2)))) (M1) := by
  intro w
  obtain ⟨w1, hr⟩ := hr w
  exact ⟨w1, zrun_v (N := 7) (by decide) rfl (zz_aload_n (pc := 0) xf_248_0 (zmem 3 rfl) (zz_iconst (pc := 1) xf_248_1 (zz_aload_n (pc := 2) xf_248_2 (zmem 0 rfl) (zz_iload_n (pc := 3) xf_248_3 (zmem 1 rfl) (zz_iload_n (pc := 4) xf_248_4 (zmem 2 rfl) (zz_call_hw (pc := 5) (cu := 0) (su := 0) (fun ls hr => zz_calV xf_248_5 rfl zis_0 ls hr) rfl (by decide +kernel) xf_248_17 (by decide +kernel) (hr) (zm_as (fun zM1 (ezM1 : zM1 = M1) => zz_iconst (pc := 19) xf_248_19 (zz_ireturn (pc := 20) xf_248_20 rfl (by decide +kernel) (by decide +kernel) (by subst_vars; exact ⟨rfl, rfl⟩))))))))))⟩
theorem zhe3_wayDirection {xs : List Int32} {D : Nat} {M M1 : zM} {x y : Int} (hr : zRun xs D 101 [.ref 0, .int (Int32.ofInt x), .int (Int32.ofInt y)] M (.inr 3) M1) : zRun xs (D + 1) 248 [.ref 0, .int (Int32.ofInt x), .int (Int32.ofInt y), .ref 137] M (.inl (some (.int (Int32.ofInt 3)))) (M1) := by
  intro w
  obtain ⟨w1, hr⟩ := hr w
  exact ⟨w1, zrun_v (N := 7) (by decide) rfl (zz_aload_n (pc := 0) xf_248_0 (zmem 3 rfl) (zz_iconst (pc := 1) xf_248_1 (zz_aload_n (pc := 2) xf_248_2 (zmem 0 rfl) (zz_iload_n (pc := 3) xf_248_3 (zmem 1 rfl) (zz_iload_n (pc := 4) xf_248_4 (zmem 2 rfl) (zz_call_hw (pc := 5) (cu := 0) (su := 0) (fun ls hr => zz_calV xf_248_5 rfl zis_0 ls hr) rfl (by decide +kernel) xf_248_21 (by decide +kernel) (hr) (zm_as (fun zM1 (ezM1 : zM1 = M1) => zz_iconst (pc := 23) xf_248_23 (zz_ireturn (pc := 24) xf_248_24 rfl (by decide +kernel) (by decide +kernel) (by subst_vars; exact ⟨rfl, rfl⟩))))))))))⟩
theorem zhv_wayDirection {xs : List Int32} {D : Nat} {M M1 : zM} {x y : Int} {z : Int} (hr : zRun xs D 101 [.ref 0, .int (Int32.ofInt x), .int (Int32.ofInt y)] M (.inl (some (.int (Int32.ofInt z)))) M1) (hz : zr32 z) : zRun xs (D + 1) 248 [.ref 0, .int (Int32.ofInt x), .int (Int32.ofInt y), .ref 137] M (.inl (some (.int (Int32.ofInt 0)))) (zup M1 137 0 z) := by
  intro w
  obtain ⟨w1, hr⟩ := hr w
  exact ⟨w1, zrun_v (N := 10) (by decide) rfl (zz_aload_n (pc := 0) xf_248_0 (zmem 3 rfl) (zz_iconst (pc := 1) xf_248_1 (zz_aload_n (pc := 2) xf_248_2 (zmem 0 rfl) (zz_iload_n (pc := 3) xf_248_3 (zmem 1 rfl) (zz_iload_n (pc := 4) xf_248_4 (zmem 2 rfl) (zz_call_v (pc := 5) (cu := 0) (su := 0) (fun ls hr => zz_calV xf_248_5 rfl zis_0 ls hr) rfl (hr) (zz_i2l (pc := 8) xf_248_8 hz (zz_last (pc := 9) (j := (0)) xf_248_9 zis_137 (by decide) (zm_as (fun zM1 (ezM1 : zM1 = zup M1 137 0 z) => zz_goto (pc := 10) xf_248_10 (zz_iconst (pc := 25) xf_248_25 (zz_ireturn (pc := 26) xf_248_26 rfl (by decide +kernel) (by decide +kernel) (by subst_vars; exact ⟨rfl, rfl⟩)))))))))))))⟩
theorem zh_wayDirection {xs : List Int32} {D : Nat} {M M1 : zM} {x y : Int} {o : XO} (hr : zRun xs D 101 [.ref 0, .int (Int32.ofInt x), .int (Int32.ofInt y)] M o M1) (hf : zFo [(2, 1), (1, 2), (3, 3)] 0 o) : ∃ (k : Int) (M2 : zM), zRun xs (D + 1) 248 [.ref 0, .int (Int32.ofInt x), .int (Int32.ofInt y), .ref 137] M (.inl (some (.int (Int32.ofInt k)))) M2 ∧ (∀ q : Nat, q < 137 → M2 q = M1 q) ∧ zHo False [(2, 1), (1, 2), (3, 3)] o k (M2 137 0) := by
  rcases hf with ⟨E, rfl, hE⟩ | ⟨x0, rfl, ht⟩
  · have e : E = 2 ∨ E = 1 ∨ E = 3 := by simpa using hE
    rcases e with rfl | rfl | rfl
    · exact ⟨1, M1, zhe2_wayDirection hr, fun _ _ => rfl, by decide, Or.inl ⟨_, rfl, by decide⟩⟩
    · exact ⟨2, M1, zhe1_wayDirection hr, fun _ _ => rfl, by decide, Or.inl ⟨_, rfl, by decide⟩⟩
    · exact ⟨3, M1, zhe3_wayDirection hr, fun _ _ => rfl, by decide, Or.inl ⟨_, rfl, by decide⟩⟩
  · obtain ⟨z, hz, rfl⟩ := zTy_z ht
    exact ⟨0, _, zhv_wayDirection hr hz, fun q hq => zup_or (by omega), by decide, Or.inr ⟨rfl, Or.inl ⟨z, hz, rfl, Or.inr ⟨fun h => h, zup_i⟩⟩⟩⟩
theorem zhe2_expectedCost {xs : List Int32} {D : Nat} {M M1 : zM} {x : Int} (hr : zRun xs D 102 [.ref 0, .int (Int32.ofInt x)] M (.inr 2) M1) : zRun xs (D + 1) 249 [.ref 0, .int (Int32.ofInt x), .ref 137] M (.inl (some (.int (Int32.ofInt 1)))) (M1) := by
  intro w
  obtain ⟨w1, hr⟩ := hr w
  exact ⟨w1, zrun_v (N := 6) (by decide) rfl (zz_aload_n (pc := 0) xf_249_0 (zmem 2 rfl) (zz_iconst (pc := 1) xf_249_1 (zz_aload_n (pc := 2) xf_249_2 (zmem 0 rfl) (zz_iload_n (pc := 3) xf_249_3 (zmem 1 rfl) (zz_call_h (pc := 4) (cu := 0) (su := 0) (fun ls hr => zz_calV xf_249_4 rfl zis_0 ls hr) rfl (by decide +kernel) xf_249_12 (by decide +kernel) (hr) (zm_as (fun zM1 (ezM1 : zM1 = M1) => zz_iconst (pc := 13) xf_249_13 (zz_ireturn (pc := 14) xf_249_14 rfl (by decide +kernel) (by decide +kernel) (by subst_vars; exact ⟨rfl, rfl⟩)))))))))⟩
theorem zhe1_expectedCost {xs : List Int32} {D : Nat} {M M1 : zM} {x : Int} (hr : zRun xs D 102 [.ref 0, .int (Int32.ofInt x)] M (.inr 1) M1) : zRun xs (D + 1) 249 [.ref 0, .int (Int32.ofInt x), .ref 137] M (.inl (some (.int (Int32.ofInt 2)))) (M1) := by
  intro w
  obtain ⟨w1, hr⟩ := hr w
  exact ⟨w1, zrun_v (N := 6) (by decide) rfl (zz_aload_n (pc := 0) xf_249_0 (zmem 2 rfl) (zz_iconst (pc := 1) xf_249_1 (zz_aload_n (pc := 2) xf_249_2 (zmem 0 rfl) (zz_iload_n (pc := 3) xf_249_3 (zmem 1 rfl) (zz_call_h (pc := 4) (cu := 0) (su := 0) (fun ls hr => zz_calV xf_249_4 rfl zis_0 ls hr) rfl (by decide +kernel) xf_249_15 (by decide +kernel) (hr) (zm_as (fun zM1 (ezM1 : zM1 = M1) => zz_iconst (pc := 16) xf_249_16 (zz_ireturn (pc := 17) xf_249_17 rfl (by decide +kernel) (by decide +kernel) (by subst_vars; exact ⟨rfl, rfl⟩)))))))))⟩
theorem zhv_expectedCost {xs : List Int32} {D : Nat} {M M1 : zM} {x : Int} {z : Int} (hr : zRun xs D 102 [.ref 0, .int (Int32.ofInt x)] M (.inl (some (.int (Int32.ofInt z)))) M1) (hz : zr32 z) : zRun xs (D + 1) 249 [.ref 0, .int (Int32.ofInt x), .ref 137] M (.inl (some (.int (Int32.ofInt 0)))) (zup M1 137 0 z) := by
  intro w
  obtain ⟨w1, hr⟩ := hr w
  exact ⟨w1, zrun_v (N := 9) (by decide) rfl (zz_aload_n (pc := 0) xf_249_0 (zmem 2 rfl) (zz_iconst (pc := 1) xf_249_1 (zz_aload_n (pc := 2) xf_249_2 (zmem 0 rfl) (zz_iload_n (pc := 3) xf_249_3 (zmem 1 rfl) (zz_call_v (pc := 4) (cu := 0) (su := 0) (fun ls hr => zz_calV xf_249_4 rfl zis_0 ls hr) rfl (hr) (zz_i2l (pc := 7) xf_249_7 hz (zz_last (pc := 8) (j := (0)) xf_249_8 zis_137 (by decide) (zm_as (fun zM1 (ezM1 : zM1 = zup M1 137 0 z) => zz_goto (pc := 9) xf_249_9 (zz_iconst (pc := 18) xf_249_18 (zz_ireturn (pc := 19) xf_249_19 rfl (by decide +kernel) (by decide +kernel) (by subst_vars; exact ⟨rfl, rfl⟩))))))))))))⟩
theorem zh_expectedCost {xs : List Int32} {D : Nat} {M M1 : zM} {x : Int} {o : XO} (hr : zRun xs D 102 [.ref 0, .int (Int32.ofInt x)] M o M1) (hf : zFo [(2, 1), (1, 2)] 0 o) : ∃ (k : Int) (M2 : zM), zRun xs (D + 1) 249 [.ref 0, .int (Int32.ofInt x), .ref 137] M (.inl (some (.int (Int32.ofInt k)))) M2 ∧ (∀ q : Nat, q < 137 → M2 q = M1 q) ∧ zHo False [(2, 1), (1, 2)] o k (M2 137 0) := by
  rcases hf with ⟨E, rfl, hE⟩ | ⟨x0, rfl, ht⟩
  · have e : E = 2 ∨ E = 1 := by simpa using hE
    rcases e with rfl | rfl
    · exact ⟨1, M1, zhe2_expectedCost hr, fun _ _ => rfl, by decide, Or.inl ⟨_, rfl, by decide⟩⟩
    · exact ⟨2, M1, zhe1_expectedCost hr, fun _ _ => rfl, by decide, Or.inl ⟨_, rfl, by decide⟩⟩
  · obtain ⟨z, hz, rfl⟩ := zTy_z ht
    exact ⟨0, _, zhv_expectedCost hr hz, fun q hq => zup_or (by omega), by decide, Or.inr ⟨rfl, Or.inl ⟨z, hz, rfl, Or.inr ⟨fun h => h, zup_i⟩⟩⟩⟩
theorem zhe0_drive {xs : List Int32} {D : Nat} {M M1 : zM} {x : Int} (hr : zRun xs D 104 [.ref 0, .int (Int32.ofInt x)] M (.inr 0) M1) : zRun xs (D + 1) 250 [.ref 0, .int (Int32.ofInt x), .ref 137] M (.inl (some (.int (Int32.ofInt 1)))) (M1) := by
  intro w
  obtain ⟨w1, hr⟩ := hr w
  exact ⟨w1, zrun_v (N := 6) (by decide) rfl (zz_aload_n (pc := 0) xf_250_0 (zmem 2 rfl) (zz_iconst (pc := 1) xf_250_1 (zz_aload_n (pc := 2) xf_250_2 (zmem 0 rfl) (zz_iload_n (pc := 3) xf_250_3 (zmem 1 rfl) (zz_call_h (pc := 4) (cu := 0) (su := 0) (fun ls hr => zz_calV xf_250_4 rfl zis_0 ls hr) rfl (by decide +kernel) xf_250_12 (by decide +kernel) (hr) (zm_as (fun zM1 (ezM1 : zM1 = M1) => zz_iconst (pc := 13) xf_250_13 (zz_ireturn (pc := 14) xf_250_14 rfl (by decide +kernel) (by decide +kernel) (by subst_vars; exact ⟨rfl, rfl⟩)))))))))⟩
theorem zhv_drive {xs : List Int32} {D : Nat} {M M1 : zM} {x : Int} {z : Int} (hr : zRun xs D 104 [.ref 0, .int (Int32.ofInt x)] M (.inl (some (.int (Int32.ofInt z)))) M1) (hz : zr32 z) : zRun xs (D + 1) 250 [.ref 0, .int (Int32.ofInt x), .ref 137] M (.inl (some (.int (Int32.ofInt 0)))) (zup M1 137 0 z) := by
  intro w
  obtain ⟨w1, hr⟩ := hr w
  exact ⟨w1, zrun_v (N := 9) (by decide) rfl (zz_aload_n (pc := 0) xf_250_0 (zmem 2 rfl) (zz_iconst (pc := 1) xf_250_1 (zz_aload_n (pc := 2) xf_250_2 (zmem 0 rfl) (zz_iload_n (pc := 3) xf_250_3 (zmem 1 rfl) (zz_call_v (pc := 4) (cu := 0) (su := 0) (fun ls hr => zz_calV xf_250_4 rfl zis_0 ls hr) rfl (hr) (zz_i2l (pc := 7) xf_250_7 hz (zz_last (pc := 8) (j := (0)) xf_250_8 zis_137 (by decide) (zm_as (fun zM1 (ezM1 : zM1 = zup M1 137 0 z) => zz_goto (pc := 9) xf_250_9 (zz_iconst (pc := 15) xf_250_15 (zz_ireturn (pc := 16) xf_250_16 rfl (by decide +kernel) (by decide +kernel) (by subst_vars; exact ⟨rfl, rfl⟩))))))))))))⟩
theorem zh_drive {xs : List Int32} {D : Nat} {M M1 : zM} {x : Int} {o : XO} (hr : zRun xs D 104 [.ref 0, .int (Int32.ofInt x)] M o M1) (hf : zFo [(0, 1)] 0 o) : ∃ (k : Int) (M2 : zM), zRun xs (D + 1) 250 [.ref 0, .int (Int32.ofInt x), .ref 137] M (.inl (some (.int (Int32.ofInt k)))) M2 ∧ (∀ q : Nat, q < 137 → M2 q = M1 q) ∧ zHo False [(0, 1)] o k (M2 137 0) := by
  rcases hf with ⟨E, rfl, hE⟩ | ⟨x0, rfl, ht⟩
  · have e : E = 0 := by simpa using hE
    subst e
    exact ⟨1, M1, zhe0_drive hr, fun _ _ => rfl, by decide, Or.inl ⟨_, rfl, by decide⟩⟩
  · obtain ⟨z, hz, rfl⟩ := zTy_z ht
    exact ⟨0, _, zhv_drive hr hz, fun q hq => zup_or (by omega), by decide, Or.inr ⟨rfl, Or.inl ⟨z, hz, rfl, Or.inr ⟨fun h => h, zup_i⟩⟩⟩⟩
theorem zhe1_sense {xs : List Int32} {D : Nat} {M M1 : zM} (hr : zRun xs D 105 [.ref 0] M (.inr 1) M1) : zRun xs (D + 1) 251 [.ref 0, .ref 137] M (.inl (some (.int (Int32.ofInt 1)))) (M1) := by
  intro w
  obtain ⟨w1, hr⟩ := hr w
  exact ⟨w1, zrun_v (N := 5) (by decide) rfl (zz_aload_n (pc := 0) xf_251_0 (zmem 1 rfl) (zz_iconst (pc := 1) xf_251_1 (zz_aload_n (pc := 2) xf_251_2 (zmem 0 rfl) (zz_call_h (pc := 3) (cu := 0) (su := 0) (fun ls hr => zz_calV xf_251_3 rfl zis_0 ls hr) rfl (by decide +kernel) xf_251_11 (by decide +kernel) (hr) (zm_as (fun zM1 (ezM1 : zM1 = M1) => zz_iconst (pc := 12) xf_251_12 (zz_ireturn (pc := 13) xf_251_13 rfl (by decide +kernel) (by decide +kernel) (by subst_vars; exact ⟨rfl, rfl⟩))))))))⟩
theorem zhv_sense {xs : List Int32} {D : Nat} {M M1 : zM} {z : Int} (hr : zRun xs D 105 [.ref 0] M (.inl (some (.int (Int32.ofInt z)))) M1) (hz : zr32 z) : zRun xs (D + 1) 251 [.ref 0, .ref 137] M (.inl (some (.int (Int32.ofInt 0)))) (zup M1 137 0 z) := by
  intro w
  obtain ⟨w1, hr⟩ := hr w
  exact ⟨w1, zrun_v (N := 8) (by decide) rfl (zz_aload_n (pc := 0) xf_251_0 (zmem 1 rfl) (zz_iconst (pc := 1) xf_251_1 (zz_aload_n (pc := 2) xf_251_2 (zmem 0 rfl) (zz_call_v (pc := 3) (cu := 0) (su := 0) (fun ls hr => zz_calV xf_251_3 rfl zis_0 ls hr) rfl (hr) (zz_i2l (pc := 6) xf_251_6 hz (zz_last (pc := 7) (j := (0)) xf_251_7 zis_137 (by decide) (zm_as (fun zM1 (ezM1 : zM1 = zup M1 137 0 z) => zz_goto (pc := 8) xf_251_8 (zz_iconst (pc := 14) xf_251_14 (zz_ireturn (pc := 15) xf_251_15 rfl (by decide +kernel) (by decide +kernel) (by subst_vars; exact ⟨rfl, rfl⟩)))))))))))⟩
theorem zh_sense {xs : List Int32} {D : Nat} {M M1 : zM} {o : XO} (hr : zRun xs D 105 [.ref 0] M o M1) (hf : zFo [(1, 1)] 0 o) : ∃ (k : Int) (M2 : zM), zRun xs (D + 1) 251 [.ref 0, .ref 137] M (.inl (some (.int (Int32.ofInt k)))) M2 ∧ (∀ q : Nat, q < 137 → M2 q = M1 q) ∧ zHo False [(1, 1)] o k (M2 137 0) := by
  rcases hf with ⟨E, rfl, hE⟩ | ⟨x0, rfl, ht⟩
  · have e : E = 1 := by simpa using hE
    subst e
    exact ⟨1, M1, zhe1_sense hr, fun _ _ => rfl, by decide, Or.inl ⟨_, rfl, by decide⟩⟩
  · obtain ⟨z, hz, rfl⟩ := zTy_z ht
    exact ⟨0, _, zhv_sense hr hz, fun q hq => zup_or (by omega), by decide, Or.inr ⟨rfl, Or.inl ⟨z, hz, rfl, Or.inr ⟨fun h => h, zup_i⟩⟩⟩⟩
theorem zhe2_carry {xs : List Int32} {D : Nat} {M M1 : zM} {x : Int} (hr : zRun xs D 106 [.ref 0, .int (Int32.ofInt x)] M (.inr 2) M1) : zRun xs (D + 1) 252 [.ref 0, .int (Int32.ofInt x), .ref 137] M (.inl (some (.int (Int32.ofInt 1)))) (M1) := by
  intro w
  obtain ⟨w1, hr⟩ := hr w
  exact ⟨w1, zrun_v (N := 6) (by decide) rfl (zz_aload_n (pc := 0) xf_252_0 (zmem 2 rfl) (zz_iconst (pc := 1) xf_252_1 (zz_aload_n (pc := 2) xf_252_2 (zmem 0 rfl) (zz_iload_n (pc := 3) xf_252_3 (zmem 1 rfl) (zz_call_h (pc := 4) (cu := 0) (su := 0) (fun ls hr => zz_calV xf_252_4 rfl zis_0 ls hr) rfl (by decide +kernel) xf_252_12 (by decide +kernel) (hr) (zm_as (fun zM1 (ezM1 : zM1 = M1) => zz_iconst (pc := 13) xf_252_13 (zz_ireturn (pc := 14) xf_252_14 rfl (by decide +kernel) (by decide +kernel) (by subst_vars; exact ⟨rfl, rfl⟩)))))))))⟩
theorem zhe1_carry {xs : List Int32} {D : Nat} {M M1 : zM} {x : Int} (hr : zRun xs D 106 [.ref 0, .int (Int32.ofInt x)] M (.inr 1) M1) : zRun xs (D + 1) 252 [.ref 0, .int (Int32.ofInt x), .ref 137] M (.inl (some (.int (Int32.ofInt 2)))) (M1) := by
  intro w
  obtain ⟨w1, hr⟩ := hr w
  exact ⟨w1, zrun_v (N := 6) (by decide) rfl (zz_aload_n (pc := 0) xf_252_0 (zmem 2 rfl) (zz_iconst (pc := 1) xf_252_1 (zz_aload_n (pc := 2) xf_252_2 (zmem 0 rfl) (zz_iload_n (pc := 3) xf_252_3 (zmem 1 rfl) (zz_call_h (pc := 4) (cu := 0) (su := 0) (fun ls hr => zz_calV xf_252_4 rfl zis_0 ls hr) rfl (by decide +kernel) xf_252_15 (by decide +kernel) (hr) (zm_as (fun zM1 (ezM1 : zM1 = M1) => zz_iconst (pc := 16) xf_252_16 (zz_ireturn (pc := 17) xf_252_17 rfl (by decide +kernel) (by decide +kernel) (by subst_vars; exact ⟨rfl, rfl⟩)))))))))⟩
theorem zhv_carry {xs : List Int32} {D : Nat} {M M1 : zM} {x : Int} {z : Int} (hr : zRun xs D 106 [.ref 0, .int (Int32.ofInt x)] M (.inl (some (.int (Int32.ofInt z)))) M1) (hz : zr32 z) : zRun xs (D + 1) 252 [.ref 0, .int (Int32.ofInt x), .ref 137] M (.inl (some (.int (Int32.ofInt 0)))) (zup M1 137 0 z) := by
  intro w
  obtain ⟨w1, hr⟩ := hr w
  exact ⟨w1, zrun_v (N := 9) (by decide) rfl (zz_aload_n (pc := 0) xf_252_0 (zmem 2 rfl) (zz_iconst (pc := 1) xf_252_1 (zz_aload_n (pc := 2) xf_252_2 (zmem 0 rfl) (zz_iload_n (pc := 3) xf_252_3 (zmem 1 rfl) (zz_call_v (pc := 4) (cu := 0) (su := 0) (fun ls hr => zz_calV xf_252_4 rfl zis_0 ls hr) rfl (hr) (zz_i2l (pc := 7) xf_252_7 hz (zz_last (pc := 8) (j := (0)) xf_252_8 zis_137 (by decide) (zm_as (fun zM1 (ezM1 : zM1 = zup M1 137 0 z) => zz_goto (pc := 9) xf_252_9 (zz_iconst (pc := 18) xf_252_18 (zz_ireturn (pc := 19) xf_252_19 rfl (by decide +kernel) (by decide +kernel) (by subst_vars; exact ⟨rfl, rfl⟩))))))))))))⟩
theorem zh_carry {xs : List Int32} {D : Nat} {M M1 : zM} {x : Int} {o : XO} (hr : zRun xs D 106 [.ref 0, .int (Int32.ofInt x)] M o M1) (hf : zFo [(2, 1), (1, 2)] 0 o) : ∃ (k : Int) (M2 : zM), zRun xs (D + 1) 252 [.ref 0, .int (Int32.ofInt x), .ref 137] M (.inl (some (.int (Int32.ofInt k)))) M2 ∧ (∀ q : Nat, q < 137 → M2 q = M1 q) ∧ zHo False [(2, 1), (1, 2)] o k (M2 137 0) := by
  rcases hf with ⟨E, rfl, hE⟩ | ⟨x0, rfl, ht⟩
  · have e : E = 2 ∨ E = 1 := by simpa using hE
    rcases e with rfl | rfl
    · exact ⟨1, M1, zhe2_carry hr, fun _ _ => rfl, by decide, Or.inl ⟨_, rfl, by decide⟩⟩
    · exact ⟨2, M1, zhe1_carry hr, fun _ _ => rfl, by decide, Or.inl ⟨_, rfl, by decide⟩⟩
  · obtain ⟨z, hz, rfl⟩ := zTy_z ht
    exact ⟨0, _, zhv_carry hr hz, fun q hq => zup_or (by omega), by decide, Or.inr ⟨rfl, Or.inl ⟨z, hz, rfl, Or.inr ⟨fun h => h, zup_i⟩⟩⟩⟩
theorem zhe0_count {xs : List Int32} {D : Nat} {M M1 : zM} {x : Int} (hr : zRun xs D 108 [.ref 0, .int (Int32.ofInt x)] M (.inr 0) M1) : zRun xs (D + 1) 253 [.ref 0, .int (Int32.ofInt x), .ref 137] M (.inl (some (.int (Int32.ofInt 1)))) (M1) := by
  intro w
  obtain ⟨w1, hr⟩ := hr w
  exact ⟨w1, zrun_v (N := 6) (by decide) rfl (zz_aload_n (pc := 0) xf_253_0 (zmem 2 rfl) (zz_iconst (pc := 1) xf_253_1 (zz_aload_n (pc := 2) xf_253_2 (zmem 0 rfl) (zz_iload_n (pc := 3) xf_253_3 (zmem 1 rfl) (zz_call_h (pc := 4) (cu := 0) (su := 0) (fun ls hr => zz_calV xf_253_4 rfl zis_0 ls hr) rfl (by decide +kernel) xf_253_12 (by decide +kernel) (hr) (zm_as (fun zM1 (ezM1 : zM1 = M1) => zz_iconst (pc := 13) xf_253_13 (zz_ireturn (pc := 14) xf_253_14 rfl (by decide +kernel) (by decide +kernel) (by subst_vars; exact ⟨rfl, rfl⟩)))))))))⟩
theorem zhv_count {xs : List Int32} {D : Nat} {M M1 : zM} {x : Int} {z : Int} (hr : zRun xs D 108 [.ref 0, .int (Int32.ofInt x)] M (.inl (some (.int (Int32.ofInt z)))) M1) (hz : zr32 z) : zRun xs (D + 1) 253 [.ref 0, .int (Int32.ofInt x), .ref 137] M (.inl (some (.int (Int32.ofInt 0)))) (zup M1 137 0 z) := by
  intro w
  obtain ⟨w1, hr⟩ := hr w
  exact ⟨w1, zrun_v (N := 9) (by decide) rfl (zz_aload_n (pc := 0) xf_253_0 (zmem 2 rfl) (zz_iconst (pc := 1) xf_253_1 (zz_aload_n (pc := 2) xf_253_2 (zmem 0 rfl) (zz_iload_n (pc := 3) xf_253_3 (zmem 1 rfl) (zz_call_v (pc := 4) (cu := 0) (su := 0) (fun ls hr => zz_calV xf_253_4 rfl zis_0 ls hr) rfl (hr) (zz_i2l (pc := 7) xf_253_7 hz (zz_last (pc := 8) (j := (0)) xf_253_8 zis_137 (by decide) (zm_as (fun zM1 (ezM1 : zM1 = zup M1 137 0 z) => zz_goto (pc := 9) xf_253_9 (zz_iconst (pc := 15) xf_253_15 (zz_ireturn (pc := 16) xf_253_16 rfl (by decide +kernel) (by decide +kernel) (by subst_vars; exact ⟨rfl, rfl⟩))))))))))))⟩
theorem zh_count {xs : List Int32} {D : Nat} {M M1 : zM} {x : Int} {o : XO} (hr : zRun xs D 108 [.ref 0, .int (Int32.ofInt x)] M o M1) (hf : zFo [(0, 1)] 0 o) : ∃ (k : Int) (M2 : zM), zRun xs (D + 1) 253 [.ref 0, .int (Int32.ofInt x), .ref 137] M (.inl (some (.int (Int32.ofInt k)))) M2 ∧ (∀ q : Nat, q < 137 → M2 q = M1 q) ∧ zHo False [(0, 1)] o k (M2 137 0) := by
  rcases hf with ⟨E, rfl, hE⟩ | ⟨x0, rfl, ht⟩
  · have e : E = 0 := by simpa using hE
    subst e
    exact ⟨1, M1, zhe0_count hr, fun _ _ => rfl, by decide, Or.inl ⟨_, rfl, by decide⟩⟩
  · obtain ⟨z, hz, rfl⟩ := zTy_z ht
    exact ⟨0, _, zhv_count hr hz, fun q hq => zup_or (by omega), by decide, Or.inr ⟨rfl, Or.inl ⟨z, hz, rfl, Or.inr ⟨fun h => h, zup_i⟩⟩⟩⟩
theorem zhe1_undo {xs : List Int32} {D : Nat} {M M1 : zM} (hr : zRun xs D 109 [.ref 0] M (.inr 1) M1) : zRun xs (D + 1) 254 [.ref 0, .ref 137] M (.inl (some (.int (Int32.ofInt 1)))) (M1) := by
  intro w
  obtain ⟨w1, hr⟩ := hr w
  exact ⟨w1, zrun_v (N := 5) (by decide) rfl (zz_aload_n (pc := 0) xf_254_0 (zmem 1 rfl) (zz_iconst (pc := 1) xf_254_1 (zz_aload_n (pc := 2) xf_254_2 (zmem 0 rfl) (zz_call_h (pc := 3) (cu := 0) (su := 0) (fun ls hr => zz_calV xf_254_3 rfl zis_0 ls hr) rfl (by decide +kernel) xf_254_11 (by decide +kernel) (hr) (zm_as (fun zM1 (ezM1 : zM1 = M1) => zz_iconst (pc := 12) xf_254_12 (zz_ireturn (pc := 13) xf_254_13 rfl (by decide +kernel) (by decide +kernel) (by subst_vars; exact ⟨rfl, rfl⟩))))))))⟩
theorem zhv_undo {xs : List Int32} {D : Nat} {M M1 : zM} {z : Int} (hr : zRun xs D 109 [.ref 0] M (.inl (some (.int (Int32.ofInt z)))) M1) (hz : zr32 z) : zRun xs (D + 1) 254 [.ref 0, .ref 137] M (.inl (some (.int (Int32.ofInt 0)))) (zup M1 137 0 z) := by
  intro w
  obtain ⟨w1, hr⟩ := hr w
  exact ⟨w1, zrun_v (N := 8) (by decide) rfl (zz_aload_n (pc := 0) xf_254_0 (zmem 1 rfl) (zz_iconst (pc := 1) xf_254_1 (zz_aload_n (pc := 2) xf_254_2 (zmem 0 rfl) (zz_call_v (pc := 3) (cu := 0) (su := 0) (fun ls hr => zz_calV xf_254_3 rfl zis_0 ls hr) rfl (hr) (zz_i2l (pc := 6) xf_254_6 hz (zz_last (pc := 7) (j := (0)) xf_254_7 zis_137 (by decide) (zm_as (fun zM1 (ezM1 : zM1 = zup M1 137 0 z) => zz_goto (pc := 8) xf_254_8 (zz_iconst (pc := 14) xf_254_14 (zz_ireturn (pc := 15) xf_254_15 rfl (by decide +kernel) (by decide +kernel) (by subst_vars; exact ⟨rfl, rfl⟩)))))))))))⟩
theorem zh_undo {xs : List Int32} {D : Nat} {M M1 : zM} {o : XO} (hr : zRun xs D 109 [.ref 0] M o M1) (hf : zFo [(1, 1)] 0 o) : ∃ (k : Int) (M2 : zM), zRun xs (D + 1) 254 [.ref 0, .ref 137] M (.inl (some (.int (Int32.ofInt k)))) M2 ∧ (∀ q : Nat, q < 137 → M2 q = M1 q) ∧ zHo False [(1, 1)] o k (M2 137 0) := by
  rcases hf with ⟨E, rfl, hE⟩ | ⟨x0, rfl, ht⟩
  · have e : E = 1 := by simpa using hE
    subst e
    exact ⟨1, M1, zhe1_undo hr, fun _ _ => rfl, by decide, Or.inl ⟨_, rfl, by decide⟩⟩
  · obtain ⟨z, hz, rfl⟩ := zTy_z ht
    exact ⟨0, _, zhv_undo hr hz, fun q hq => zup_or (by omega), by decide, Or.inr ⟨rfl, Or.inl ⟨z, hz, rfl, Or.inr ⟨fun h => h, zup_i⟩⟩⟩⟩
theorem zhe1_restore {xs : List Int32} {D : Nat} {M M1 : zM} (hr : zRun xs D 111 [.ref 0] M (.inr 1) M1) : zRun xs (D + 1) 255 [.ref 0, .ref 137] M (.inl (some (.int (Int32.ofInt 1)))) (M1) := by
  intro w
  obtain ⟨w1, hr⟩ := hr w
  exact ⟨w1, zrun_v (N := 5) (by decide) rfl (zz_aload_n (pc := 0) xf_255_0 (zmem 1 rfl) (zz_iconst (pc := 1) xf_255_1 (zz_aload_n (pc := 2) xf_255_2 (zmem 0 rfl) (zz_call_h (pc := 3) (cu := 0) (su := 0) (fun ls hr => zz_calV xf_255_3 rfl zis_0 ls hr) rfl (by decide +kernel) xf_255_11 (by decide +kernel) (hr) (zm_as (fun zM1 (ezM1 : zM1 = M1) => zz_iconst (pc := 12) xf_255_12 (zz_ireturn (pc := 13) xf_255_13 rfl (by decide +kernel) (by decide +kernel) (by subst_vars; exact ⟨rfl, rfl⟩))))))))⟩
theorem zhv_restore {xs : List Int32} {D : Nat} {M M1 : zM} {z : Int} (hr : zRun xs D 111 [.ref 0] M (.inl (some (.int (Int32.ofInt z)))) M1) (hz : zr32 z) : zRun xs (D + 1) 255 [.ref 0, .ref 137] M (.inl (some (.int (Int32.ofInt 0)))) (zup M1 137 0 z) := by
  intro w
  obtain ⟨w1, hr⟩ := hr w
  exact ⟨w1, zrun_v (N := 8) (by decide) rfl (zz_aload_n (pc := 0) xf_255_0 (zmem 1 rfl) (zz_iconst (pc := 1) xf_255_1 (zz_aload_n (pc := 2) xf_255_2 (zmem 0 rfl) (zz_call_v (pc := 3) (cu := 0) (su := 0) (fun ls hr => zz_calV xf_255_3 rfl zis_0 ls hr) rfl (hr) (zz_i2l (pc := 6) xf_255_6 hz (zz_last (pc := 7) (j := (0)) xf_255_7 zis_137 (by decide) (zm_as (fun zM1 (ezM1 : zM1 = zup M1 137 0 z) => zz_goto (pc := 8) xf_255_8 (zz_iconst (pc := 14) xf_255_14 (zz_ireturn (pc := 15) xf_255_15 rfl (by decide +kernel) (by decide +kernel) (by subst_vars; exact ⟨rfl, rfl⟩)))))))))))⟩
theorem zh_restore {xs : List Int32} {D : Nat} {M M1 : zM} {o : XO} (hr : zRun xs D 111 [.ref 0] M o M1) (hf : zFo [(1, 1)] 0 o) : ∃ (k : Int) (M2 : zM), zRun xs (D + 1) 255 [.ref 0, .ref 137] M (.inl (some (.int (Int32.ofInt k)))) M2 ∧ (∀ q : Nat, q < 137 → M2 q = M1 q) ∧ zHo False [(1, 1)] o k (M2 137 0) := by
  rcases hf with ⟨E, rfl, hE⟩ | ⟨x0, rfl, ht⟩
  · have e : E = 1 := by simpa using hE
    subst e
    exact ⟨1, M1, zhe1_restore hr, fun _ _ => rfl, by decide, Or.inl ⟨_, rfl, by decide⟩⟩
  · obtain ⟨z, hz, rfl⟩ := zTy_z ht
    exact ⟨0, _, zhv_restore hr hz, fun q hq => zup_or (by omega), by decide, Or.inr ⟨rfl, Or.inl ⟨z, hz, rfl, Or.inr ⟨fun h => h, zup_i⟩⟩⟩⟩
end
