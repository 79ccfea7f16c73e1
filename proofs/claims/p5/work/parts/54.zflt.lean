/-! Floats. -/
def zlor (x y : Int) : Int := (Int64.ofInt x ||| Int64.ofInt y).toInt
def zlshl (x y : Int) : Int := (Int64.ofInt x <<< ((Int32.ofInt y).toInt64 &&& 63)).toInt
section ZFP
variable {xrec : Nat → List Value → XW → Option (XO × XW)} {xs : List Int32} {k N pc pc' len a b cu su q : Nat} {i : Instr} {ρ ρ' : XL} {st st' : List Value} {w : Bool} {M : zM} {Q : XO → XW → Prop}
theorem zz_dadd {x y : UInt64} (hc : xcode k pc = some (.dadd, len, a, b)) (hr : FP.dadd x y &&& 0x7fffffffffffffff ≤ 0x7ff0000000000000) (hn : zG (xstep xrec xs k) k N (pc + 1) ρ (.double (FP.dadd x y) :: st) cu su w M Q) : zG (xstep xrec xs k) k (N + 1) (pc) ρ (.double y :: .double x :: st) cu su w M Q := zg_op0 hc rfl (fun _ _ => by unfold xop; dsimp only; rw [if_pos hr]) hn
theorem zz_dsub {x y : UInt64} (hc : xcode k pc = some (.dsub, len, a, b)) (hr : FP.dsub x y &&& 0x7fffffffffffffff ≤ 0x7ff0000000000000) (hn : zG (xstep xrec xs k) k N (pc + 1) ρ (.double (FP.dsub x y) :: st) cu su w M Q) : zG (xstep xrec xs k) k (N + 1) (pc) ρ (.double y :: .double x :: st) cu su w M Q := zg_op0 hc rfl (fun _ _ => by unfold xop; dsimp only; rw [if_pos hr]) hn
theorem zz_dmul {x y : UInt64} (hc : xcode k pc = some (.dmul, len, a, b)) (hr : FP.dmul x y &&& 0x7fffffffffffffff ≤ 0x7ff0000000000000) (hn : zG (xstep xrec xs k) k N (pc + 1) ρ (.double (FP.dmul x y) :: st) cu su w M Q) : zG (xstep xrec xs k) k (N + 1) (pc) ρ (.double y :: .double x :: st) cu su w M Q := zg_op0 hc rfl (fun _ _ => by unfold xop; dsimp only; rw [if_pos hr]) hn
theorem zz_ddiv {x y : UInt64} (hc : xcode k pc = some (.ddiv, len, a, b)) (hr : FP.ddiv x y &&& 0x7fffffffffffffff ≤ 0x7ff0000000000000) (hn : zG (xstep xrec xs k) k N (pc + 1) ρ (.double (FP.ddiv x y) :: st) cu su w M Q) : zG (xstep xrec xs k) k (N + 1) (pc) ρ (.double y :: .double x :: st) cu su w M Q := zg_op0 hc rfl (fun _ _ => by unfold xop; dsimp only; rw [if_pos hr]) hn
theorem zz_fsub {x y : UInt32} (hc : xcode k pc = some (.fsub, len, a, b)) (hr : FP.fsub x y &&& 0x7fffffff ≤ 0x7f800000) (hn : zG (xstep xrec xs k) k N (pc + 1) ρ (.float (FP.fsub x y) :: st) cu su w M Q) : zG (xstep xrec xs k) k (N + 1) (pc) ρ (.float y :: .float x :: st) cu su w M Q := zg_op0 hc rfl (fun _ _ => by unfold xop; dsimp only; rw [if_pos hr]) hn
theorem zz_fmul {x y : UInt32} (hc : xcode k pc = some (.fmul, len, a, b)) (hr : FP.fmul x y &&& 0x7fffffff ≤ 0x7f800000) (hn : zG (xstep xrec xs k) k N (pc + 1) ρ (.float (FP.fmul x y) :: st) cu su w M Q) : zG (xstep xrec xs k) k (N + 1) (pc) ρ (.float y :: .float x :: st) cu su w M Q := zg_op0 hc rfl (fun _ _ => by unfold xop; dsimp only; rw [if_pos hr]) hn
theorem zz_fdiv {x y : UInt32} (hc : xcode k pc = some (.fdiv, len, a, b)) (hr : FP.fdiv x y &&& 0x7fffffff ≤ 0x7f800000) (hn : zG (xstep xrec xs k) k N (pc + 1) ρ (.float (FP.fdiv x y) :: st) cu su w M Q) : zG (xstep xrec xs k) k (N + 1) (pc) ρ (.float y :: .float x :: st) cu su w M Q := zg_op0 hc rfl (fun _ _ => by unfold xop; dsimp only; rw [if_pos hr]) hn
theorem zz_dcmp {cd : Jvm.ClassFile.Cond} {o} {oo : Int} {x y : UInt64} {len2 a2 b2 : Nat} (hc : xcode k pc = some (.dcmp o, len, a, b)) (hc2 : xcode k (pc + 1) = some (.ifCond cd oo, len2, a2, b2)) (ht : y_cmp (y_cd cd) (Op.cmpValue (FP.dcmp x y) o) 0 = true → zG (xstep xrec xs k) k N (a2) ρ st cu su w M Q) (hf : ¬ y_cmp (y_cd cd) (Op.cmpValue (FP.dcmp x y) o) 0 = true → zG (xstep xrec xs k) k N (pc + 4) ρ st cu su w M Q) : zG (xstep xrec xs k) k (N + 2) (pc) ρ (.double y :: .double x :: st) cu su w M Q := by
  refine zg_op0 hc rfl (fun _ _ => rfl) (?_ : zG (xstep xrec xs k) k (N + 1) (pc + 1) ρ (.int (Op.cmpValue (FP.dcmp x y) o) :: st) cu su w M Q)
  by_cases h : y_cmp (y_cd cd) (Op.cmpValue (FP.dcmp x y) o) 0 = true
  · refine zg_op0 hc2 rfl (fun nl ls => ?_) (ht h)
    rw [y_if_e2, if_pos h]
  · refine zg_op0 hc2 rfl (fun nl ls => ?_) (hf h)
    rw [y_if_e2, if_neg h]
theorem zz_fcmp {cd : Jvm.ClassFile.Cond} {o} {oo : Int} {x y : UInt32} {len2 a2 b2 : Nat} (hc : xcode k pc = some (.fcmp o, len, a, b)) (hc2 : xcode k (pc + 1) = some (.ifCond cd oo, len2, a2, b2)) (ht : y_cmp (y_cd cd) (Op.cmpValue (FP.fcmp x y) o) 0 = true → zG (xstep xrec xs k) k N (a2) ρ st cu su w M Q) (hf : ¬ y_cmp (y_cd cd) (Op.cmpValue (FP.fcmp x y) o) 0 = true → zG (xstep xrec xs k) k N (pc + 4) ρ st cu su w M Q) : zG (xstep xrec xs k) k (N + 2) (pc) ρ (.float y :: .float x :: st) cu su w M Q := by
  refine zg_op0 hc rfl (fun _ _ => rfl) (?_ : zG (xstep xrec xs k) k (N + 1) (pc + 1) ρ (.int (Op.cmpValue (FP.fcmp x y) o) :: st) cu su w M Q)
  by_cases h : y_cmp (y_cd cd) (Op.cmpValue (FP.fcmp x y) o) 0 = true
  · refine zg_op0 hc2 rfl (fun nl ls => ?_) (ht h)
    rw [y_if_e2, if_pos h]
  · refine zg_op0 hc2 rfl (fun nl ls => ?_) (hf h)
    rw [y_if_e2, if_neg h]
theorem zz_dconst0 (hc : xcode k pc = some (.dconst 0, len, a, b)) (hn : zG (xstep xrec xs k) k N (pc + 1) ρ (.double FP.dconst0 :: st) cu su w M Q) : zG (xstep xrec xs k) k (N + 1) (pc) ρ st cu su w M Q := zg_op0 hc rfl (fun _ _ => rfl) hn
theorem zz_dconst1 (hc : xcode k pc = some (.dconst 1, len, a, b)) (hn : zG (xstep xrec xs k) k N (pc + 1) ρ (.double FP.dconst1 :: st) cu su w M Q) : zG (xstep xrec xs k) k (N + 1) (pc) ρ st cu su w M Q := zg_op0 hc rfl (fun _ _ => rfl) hn
theorem zz_fconst0 (hc : xcode k pc = some (.fconst 0, len, a, b)) (hn : zG (xstep xrec xs k) k N (pc + 1) ρ (.float FP.fconst0 :: st) cu su w M Q) : zG (xstep xrec xs k) k (N + 1) (pc) ρ st cu su w M Q := zg_op0 hc rfl (fun _ _ => rfl) hn
theorem zz_fconst1 (hc : xcode k pc = some (.fconst 1, len, a, b)) (hn : zG (xstep xrec xs k) k N (pc + 1) ρ (.float FP.fconst1 :: st) cu su w M Q) : zG (xstep xrec xs k) k (N + 1) (pc) ρ st cu su w M Q := zg_op0 hc rfl (fun _ _ => rfl) hn
theorem zz_fconst2 (hc : xcode k pc = some (.fconst 2, len, a, b)) (hn : zG (xstep xrec xs k) k N (pc + 1) ρ (.float FP.fconst2 :: st) cu su w M Q) : zG (xstep xrec xs k) k (N + 1) (pc) ρ st cu su w M Q := zg_op0 hc rfl (fun _ _ => rfl) hn
theorem zz_i2d {x : Int} (hc : xcode k pc = some (.i2d, len, a, b)) (hn : zG (xstep xrec xs k) k N (pc + 1) ρ (.double (FP.i2d (Int32.ofInt x)) :: st) cu su w M Q) : zG (xstep xrec xs k) k (N + 1) (pc) ρ (.int (Int32.ofInt x) :: st) cu su w M Q := zg_op0 hc rfl (fun _ _ => rfl) hn
theorem zz_i2f {x : Int} (hc : xcode k pc = some (.i2f, len, a, b)) (hn : zG (xstep xrec xs k) k N (pc + 1) ρ (.float (FP.i2f (Int32.ofInt x)) :: st) cu su w M Q) : zG (xstep xrec xs k) k (N + 1) (pc) ρ (.int (Int32.ofInt x) :: st) cu su w M Q := zg_op0 hc rfl (fun _ _ => rfl) hn
theorem zz_d2l {x : UInt64} (hc : xcode k pc = some (.d2l, len, a, b)) (hn : zG (xstep xrec xs k) k N (pc + 1) ρ (.long (Int64.ofInt (FP.d2l x).toInt) :: st) cu su w M Q) : zG (xstep xrec xs k) k (N + 1) (pc) ρ (.double x :: st) cu su w M Q := by rw [Int64.ofInt_toInt] at hn; exact zg_op0 hc rfl (fun _ _ => rfl) hn
theorem zz_f2i {x : UInt32} (hc : xcode k pc = some (.f2i, len, a, b)) (hn : zG (xstep xrec xs k) k N (pc + 1) ρ (.int (Int32.ofInt (FP.f2i x).toInt) :: st) cu su w M Q) : zG (xstep xrec xs k) k (N + 1) (pc) ρ (.float x :: st) cu su w M Q := by rw [Int32.ofInt_toInt] at hn; exact zg_op0 hc rfl (fun _ _ => rfl) hn
theorem zz_zlor {x y : Int} (hc : xcode k pc = some (.lor, len, a, b)) (hn : zG (xstep xrec xs k) k N (pc + 1) ρ (.long (Int64.ofInt (zlor x y)) :: st) cu su w M Q) : zG (xstep xrec xs k) k (N + 1) (pc) ρ (.long (Int64.ofInt y) :: .long (Int64.ofInt x) :: st) cu su w M Q := by unfold zlor at hn; rw [Int64.ofInt_toInt] at hn; exact zg_op0 hc rfl (fun _ _ => rfl) hn
theorem zz_zlshl {x y : Int} (hc : xcode k pc = some (.lshl, len, a, b)) (hn : zG (xstep xrec xs k) k N (pc + 1) ρ (.long (Int64.ofInt (zlshl x y)) :: st) cu su w M Q) : zG (xstep xrec xs k) k (N + 1) (pc) ρ (.int (Int32.ofInt y) :: .long (Int64.ofInt x) :: st) cu su w M Q := by unfold zlshl at hn; rw [Int64.ofInt_toInt] at hn; exact zg_op0 hc rfl (fun _ _ => rfl) hn
end ZFP
/-- no NaN -/
def zRR (f : FP.Core.Fmt) (s : Bool) (d : FP.Core.Datum) : Prop := d = .inf s ∨ ∃ c q, d = .fin s c q ∧ c < 2 ^ f.p ∧ q ≤ f.qmax
def zFm (f : FP.Core.Fmt) : Prop := f.qmin ≤ f.qmax ∧ f.tails < 2 ^ f.p
theorem zfm64 : zFm FP.Core.b64 := by unfold zFm; decide
theorem zfm32 : zFm FP.Core.b32 := by unfold zFm; decide
theorem zbnd {f : FP.Core.Fmt} {s : Bool} {c : Nat} {q : Int} (h : c < 2 ^ f.p) : zRR f s (FP.Core.bound f s c q) := by
  unfold FP.Core.bound
  split
  · next h2 => exact Or.inr ⟨c, q, rfl, h, h2⟩
  · exact Or.inl rfl
theorem zrr {f : FP.Core.Fmt} (hf : zFm f) {s : Bool} {A B : Nat} {e : Int} : zRR f s (FP.Core.roundRatio f s A B e) := by
  unfold FP.Core.roundRatio FP.Core.roundAt FP.Core.settle
  split
  · exact Or.inr ⟨0, f.qmin, rfl, Nat.two_pow_pos _, hf.1⟩
  · split
    · next h => exact zbnd h
    · exact zbnd hf.2
def zv64 (x : UInt64) : FP.Core.Datum := FP.Core.decode FP.Core.b64 x.toNat
def zv32 (x : UInt32) : FP.Core.Datum := FP.Core.decode FP.Core.b32 x.toNat
def zn64 (x : UInt64) : Prop := x.toNat % 9223372036854775808 ≤ 9218868437227405312
def zp64 (x : UInt64) : Prop := x.toNat ≤ 9218868437227405312
def zn32 (x : UInt32) : Prop := x.toNat % 2147483648 ≤ 2139095040
theorem z64_m {r : UInt64} (h : zn64 r) : r &&& 0x7fffffffffffffff ≤ 0x7ff0000000000000 := by
  rw [UInt64.le_iff_toNat_le, UInt64.toNat_and]
  show r.toNat &&& 2 ^ 63 - 1 ≤ 9218868437227405312
  rw [Nat.and_two_pow_sub_one_eq_mod]
  exact h
theorem z32_m {r : UInt32} (h : zn32 r) : r &&& 0x7fffffff ≤ 0x7f800000 := by
  rw [UInt32.le_iff_toNat_le, UInt32.toNat_and]
  show r.toNat &&& 2 ^ 31 - 1 ≤ 2139095040
  rw [Nat.and_two_pow_sub_one_eq_mod]
  exact h
theorem ze64 : FP.Core.b64.exps = 2048 ∧ FP.Core.b64.tails = 4503599627370496 ∧ FP.Core.b64.qmin = -1074 ∧ FP.Core.b64.qmax = 971 ∧ 2 ^ FP.Core.b64.p = 9007199254740992 := by decide
theorem ze32 : FP.Core.b32.exps = 256 ∧ FP.Core.b32.tails = 8388608 ∧ FP.Core.b32.qmin = -149 ∧ FP.Core.b32.qmax = 104 ∧ 2 ^ FP.Core.b32.p = 16777216 := by decide
theorem zenc64 {s : Bool} {d : FP.Core.Datum} (h : zRR FP.Core.b64 s d) : FP.Core.encode FP.Core.b64 d < 18446744073709551616 ∧ FP.Core.encode FP.Core.b64 d % 9223372036854775808 ≤ 9218868437227405312 ∧ (s = false → FP.Core.encode FP.Core.b64 d ≤ 9218868437227405312) := by
  obtain ⟨e1, e2, e3, e4, e5⟩ := ze64
  rcases h with rfl | ⟨c, q, rfl, hc, hq⟩
  · show FP.Core.assemble FP.Core.b64 s (FP.Core.b64.exps - 1) 0 < _ ∧ FP.Core.assemble FP.Core.b64 s (FP.Core.b64.exps - 1) 0 % _ ≤ _ ∧ (s = false → FP.Core.assemble FP.Core.b64 s (FP.Core.b64.exps - 1) 0 ≤ _)
    unfold FP.Core.assemble
    rw [e1, e2]
    cases s <;> decide
  · rw [e5] at hc
    rw [e4] at hq
    show (if c < FP.Core.b64.tails then FP.Core.assemble FP.Core.b64 s 0 c else FP.Core.assemble FP.Core.b64 s ((q - FP.Core.b64.qmin).toNat + 1) (c - FP.Core.b64.tails)) < _ ∧ (if c < FP.Core.b64.tails then FP.Core.assemble FP.Core.b64 s 0 c else FP.Core.assemble FP.Core.b64 s ((q - FP.Core.b64.qmin).toNat + 1) (c - FP.Core.b64.tails)) % _ ≤ _ ∧ (s = false → (if c < FP.Core.b64.tails then FP.Core.assemble FP.Core.b64 s 0 c else FP.Core.assemble FP.Core.b64 s ((q - FP.Core.b64.qmin).toNat + 1) (c - FP.Core.b64.tails)) ≤ _)
    unfold FP.Core.assemble
    rw [e1, e2, e3]
    have hb : s.toNat = 0 ∧ s = false ∨ s.toNat = 1 ∧ s = true := by cases s; exact Or.inl ⟨rfl, rfl⟩; exact Or.inr ⟨rfl, rfl⟩
    have hq2 : (q - -1074).toNat + 1 ≤ 2046 := by omega
    generalize (q - -1074).toNat + 1 = E at hq2 ⊢
    rcases hb with ⟨hb, hs⟩ | ⟨hb, hs⟩ <;> rw [hb] <;> split <;> refine ⟨by omega, by omega, fun h9 => ?_⟩ <;> first | omega | (rw [hs] at h9; cases h9)
theorem zenc32 {s : Bool} {d : FP.Core.Datum} (h : zRR FP.Core.b32 s d) : FP.Core.encode FP.Core.b32 d < 4294967296 ∧ FP.Core.encode FP.Core.b32 d % 2147483648 ≤ 2139095040 := by
  obtain ⟨e1, e2, e3, e4, e5⟩ := ze32
  rcases h with rfl | ⟨c, q, rfl, hc, hq⟩
  · show FP.Core.assemble FP.Core.b32 s (FP.Core.b32.exps - 1) 0 < _ ∧ FP.Core.assemble FP.Core.b32 s (FP.Core.b32.exps - 1) 0 % _ ≤ _
    unfold FP.Core.assemble
    rw [e1, e2]
    cases s <;> decide
  · rw [e5] at hc
    rw [e4] at hq
    show (if c < FP.Core.b32.tails then FP.Core.assemble FP.Core.b32 s 0 c else FP.Core.assemble FP.Core.b32 s ((q - FP.Core.b32.qmin).toNat + 1) (c - FP.Core.b32.tails)) < _ ∧ (if c < FP.Core.b32.tails then FP.Core.assemble FP.Core.b32 s 0 c else FP.Core.assemble FP.Core.b32 s ((q - FP.Core.b32.qmin).toNat + 1) (c - FP.Core.b32.tails)) % _ ≤ _
    unfold FP.Core.assemble
    rw [e1, e2, e3]
    have hb : s.toNat = 0 ∨ s.toNat = 1 := by cases s; exact Or.inl rfl; exact Or.inr rfl
    have hq2 : (q - -149).toNat + 1 ≤ 254 := by omega
    generalize (q - -149).toNat + 1 = E at hq2 ⊢
    rcases hb with hb | hb <;> rw [hb] <;> split <;> exact ⟨by omega, by omega⟩
theorem zn64_of {s : Bool} {d : FP.Core.Datum} (h : zRR FP.Core.b64 s d) : zn64 (UInt64.ofNat (FP.Core.encode FP.Core.b64 d)) := by
  obtain ⟨h1, h2, h3⟩ := zenc64 h
  unfold zn64
  rw [UInt64.toNat_ofNat_of_lt' h1]
  exact h2
theorem zp64_of {d : FP.Core.Datum} (h : zRR FP.Core.b64 false d) : zp64 (UInt64.ofNat (FP.Core.encode FP.Core.b64 d)) := by
  obtain ⟨h1, h2, h3⟩ := zenc64 h
  unfold zp64
  rw [UInt64.toNat_ofNat_of_lt' h1]
  exact h3 rfl
theorem zn32_of {s : Bool} {d : FP.Core.Datum} (h : zRR FP.Core.b32 s d) : zn32 (UInt32.ofNat (FP.Core.encode FP.Core.b32 d)) := by
  obtain ⟨h1, h2⟩ := zenc32 h
  unfold zn32
  rw [UInt32.toNat_ofNat_of_lt' h1]
  exact h2
theorem zn64_v {x : UInt64} (h : zn64 x) : zv64 x ≠ .nan := by
  obtain ⟨e1, e2, e3, e4, e5⟩ := ze64
  unfold zn64 at h
  unfold zv64 FP.Core.decode FP.Core.fieldE FP.Core.fieldT
  rw [e1, e2]
  generalize x.toNat = n at h ⊢
  split
  · split
    · intro e; cases e
    · exfalso; omega
  · split <;> (intro e; cases e)
theorem zn32_v {x : UInt32} (h : zn32 x) : zv32 x ≠ .nan := by
  obtain ⟨e1, e2, e3, e4, e5⟩ := ze32
  unfold zn32 at h
  unfold zv32 FP.Core.decode FP.Core.fieldE FP.Core.fieldT
  rw [e1, e2]
  generalize x.toNat = n at h ⊢
  split
  · split
    · intro e; cases e
    · exfalso; omega
  · split <;> (intro e; cases e)
/-- a number that is not below 0, or the infinity above -/
def zps (d : FP.Core.Datum) : Prop := (∃ c q, d = .fin false c q) ∨ d = .inf false
theorem zp64_v {x : UInt64} (h : zp64 x) : zps (zv64 x) := by
  obtain ⟨e1, e2, e3, e4, e5⟩ := ze64
  unfold zp64 at h
  unfold zv64 FP.Core.decode FP.Core.fieldE FP.Core.fieldT FP.Core.fieldS
  rw [e1, e2]
  generalize x.toNat = n at h ⊢
  have hS : (n / 4503599627370496 / 2048 % 2 == 1) = false := by rw [show n / 4503599627370496 / 2048 % 2 = 0 by omega]; rfl
  rw [hS]
  split
  · split
    · exact Or.inr rfl
    · exfalso; omega
  · split <;> exact Or.inl ⟨_, _, rfl⟩
theorem zp64_n {x : UInt64} (h : zp64 x) : zn64 x := by
  unfold zp64 at h
  unfold zn64
  omega
theorem zps_nn {d : FP.Core.Datum} (h : zps d) : d ≠ .nan := by
  rcases h with ⟨c, q, rfl⟩ | rfl <;> intro e <;> cases e
theorem zround_ps {f : FP.Core.Fmt} (hf : zFm f) {d : FP.Core.Datum} (h : zps d) : zRR f false (FP.Core.round f d) := by
  rcases h with ⟨c, q, rfl⟩ | rfl
  · exact zrr hf
  · exact Or.inl rfl
theorem zround_nn {f : FP.Core.Fmt} (hf : zFm f) {d : FP.Core.Datum} (h : d ≠ .nan) : ∃ s, zRR f s (FP.Core.round f d) := by
  cases d with
  | nan => exact absurd rfl h
  | inf s => exact ⟨s, Or.inl rfl⟩
  | fin s c q => exact ⟨s, zrr hf⟩
theorem zRR_ps {f : FP.Core.Fmt} {d : FP.Core.Datum} (h : zRR f false d) : zps d := by
  rcases h with rfl | ⟨c, q, rfl, _, _⟩
  · exact Or.inr rfl
  · exact Or.inl ⟨_, _, rfl⟩
theorem zps_of {v : Int} (h : 0 ≤ v ∧ v ≤ 2147483647) : zps (FP.Core.ofInt (Int32.ofInt v).toInt) := by
  refine Or.inl ⟨v.natAbs, 0, ?_⟩
  rw [Int32.toInt_ofInt_of_le (by omega) (by omega)]
  unfold FP.Core.ofInt
  rw [decide_eq_false (by omega)]
theorem zps_div {f : FP.Core.Fmt} (hf : zFm f) {x y : FP.Core.Datum} {d : Nat} {r : Int} (h : zps x) (hy : y = .fin false d r) (hd : d ≠ 0) : zRR f false (FP.Core.quotient f x y) := by
  subst hy
  rcases h with ⟨c, q, rfl⟩ | rfl
  · show zRR f false (if d = 0 then _ else FP.Core.roundRatio f (false != false) c d (q - r))
    rw [if_neg hd]
    exact zrr hf
  · exact Or.inl rfl
theorem zps_sq {x : FP.Core.Datum} (h : zps x) : zps (FP.Core.exactProduct x x) := by
  rcases h with ⟨c, q, rfl⟩ | rfl
  · exact Or.inl ⟨_, _, rfl⟩
  · exact Or.inr rfl
theorem zps_add {x y : FP.Core.Datum} (h : zps x) (h' : zps y) : zps (FP.Core.exactSum x y) := by
  rcases h with ⟨c, q, rfl⟩ | rfl
  · rcases h' with ⟨d, r, rfl⟩ | rfl
    · refine Or.inl ⟨(FP.Core.sumUnits false c q false d r (min q r)).natAbs, min q r, ?_⟩
      show FP.Core.Datum.fin (FP.Core.sumSign false false (FP.Core.sumUnits false c q false d r (min q r))) _ _ = _
      have h0 : 0 ≤ FP.Core.sumUnits false c q false d r (min q r) := by
        show 0 ≤ ((FP.Core.inUnits c q (min q r) : Nat) : Int) + ((FP.Core.inUnits d r (min q r) : Nat) : Int)
        omega
      have e : FP.Core.sumSign false false (FP.Core.sumUnits false c q false d r (min q r)) = false := by
        unfold FP.Core.sumSign
        split
        · rfl
        · exact decide_eq_false (by omega)
      rw [e]
    · exact Or.inr rfl
  · rcases h' with ⟨d, r, rfl⟩ | rfl
    · exact Or.inr rfl
    · exact Or.inr rfl
theorem zsub_nn {x y : FP.Core.Datum} {c : Nat} {q : Int} (h : x = .fin false c q) (hy : y ≠ .nan) : FP.Core.exactSum x (FP.Core.negate y) ≠ .nan := by
  subst h
  cases y with
  | nan => exact absurd rfl hy
  | inf s => intro e; cases e
  | fin s d r => intro e; cases e
theorem zsub_nn2 {x y : FP.Core.Datum} {c : Nat} {q : Int} (h : y = .fin false c q) (hx : x ≠ .nan) : FP.Core.exactSum x (FP.Core.negate y) ≠ .nan := by
  subst h
  cases x with
  | nan => exact absurd rfl hx
  | inf s => intro e; cases e
  | fin s d r => intro e; cases e
theorem zmul_nn {x y : FP.Core.Datum} {c : Nat} {q : Int} (h : y = .fin false c q) (hc : c ≠ 0) (hx : x ≠ .nan) : FP.Core.exactProduct x y ≠ .nan := by
  subst h
  cases x with
  | nan => exact absurd rfl hx
  | inf s =>
    show (if c = 0 then FP.Core.Datum.nan else .inf (s != false)) ≠ .nan
    rw [if_neg hc]
    intro e; cases e
  | fin s d r => intro e; cases e
theorem zc64_1 : zv64 FP.dconst1 = .fin false 4503599627370496 (-52) := by decide +kernel
theorem zc64_M : zv64 4696837146684686336 = .fin false 8589934592000000 (-33) := by decide +kernel
theorem zc64_2 : zv64 4611686018427387904 = .fin false 4503599627370496 (-51) := by decide +kernel
theorem zc64_B : zv64 4841369599423283200 = .fin false 4503599627370496 0 := by decide +kernel
theorem zc32_1 : zv32 FP.fconst1 = .fin false 8388608 (-23) := by decide +kernel
theorem zc32_M : zv32 1232348160 = .fin false 16000000 (-4) := by decide +kernel
theorem zc32_2 : zv32 FP.fconst2 = .fin false 8388608 (-22) := by decide +kernel
theorem zc32_B : zv32 1258291200 = .fin false 8388608 0 := by decide +kernel
theorem zn64_mul {x y : UInt64} {c : Nat} {q : Int} (hx : zn64 x) (h : zv64 y = .fin false c q) (hc : c ≠ 0) : zn64 (FP.dmul x y) := by
  obtain ⟨s, h9⟩ := zround_nn zfm64 (zmul_nn h hc (zn64_v hx))
  exact zn64_of h9
theorem zn64_sub {x y : UInt64} {c : Nat} {q : Int} (hx : zn64 x) (h : zv64 y = .fin false c q) : zn64 (FP.dsub x y) := by
  obtain ⟨s, h9⟩ := zround_nn zfm64 (zsub_nn2 h (zn64_v hx))
  exact zn64_of h9
theorem zn64_sub1 {x : UInt64} (hx : zn64 x) : zn64 (FP.dsub FP.dconst1 x) := by
  obtain ⟨s, h9⟩ := zround_nn zfm64 (zsub_nn zc64_1 (zn64_v hx))
  exact zn64_of h9
theorem zp64_i {v : Int} (h : 0 ≤ v ∧ v ≤ 2147483647) : zp64 (FP.i2d (Int32.ofInt v)) := zp64_of (zround_ps zfm64 (zps_of h))
theorem zp64_div {x : UInt64} (h : zp64 x) : zp64 (FP.ddiv x 4696837146684686336) := zp64_of (zps_div zfm64 (zp64_v h) zc64_M (by decide))
theorem zp64_sq {x : UInt64} (h : zp64 x) : zp64 (FP.dmul x x) := zp64_of (zround_ps zfm64 (zps_sq (zp64_v h)))
theorem zp64_add {x y : UInt64} (h : zp64 x) (h' : zp64 y) : zp64 (FP.dadd x y) := zp64_of (zround_ps zfm64 (zps_add (zp64_v h) (zp64_v h')))
theorem zp64_0 : zp64 FP.dconst0 := by unfold zp64; decide
theorem zn32_mul {x y : UInt32} {c : Nat} {q : Int} (hx : zn32 x) (h : zv32 y = .fin false c q) (hc : c ≠ 0) : zn32 (FP.fmul x y) := by
  obtain ⟨s, h9⟩ := zround_nn zfm32 (zmul_nn h hc (zn32_v hx))
  exact zn32_of h9
theorem zn32_sub {x y : UInt32} {c : Nat} {q : Int} (hx : zn32 x) (h : zv32 y = .fin false c q) : zn32 (FP.fsub x y) := by
  obtain ⟨s, h9⟩ := zround_nn zfm32 (zsub_nn2 h (zn32_v hx))
  exact zn32_of h9
theorem zenc32p {d : FP.Core.Datum} (h : zRR FP.Core.b32 false d) : FP.Core.encode FP.Core.b32 d ≤ 2139095040 := by
  obtain ⟨e1, e2, e3, e4, e5⟩ := ze32
  rcases h with rfl | ⟨c, q, rfl, hc, hq⟩
  · show FP.Core.assemble FP.Core.b32 false (FP.Core.b32.exps - 1) 0 ≤ _
    unfold FP.Core.assemble
    rw [e1, e2]
    decide
  · rw [e5] at hc
    rw [e4] at hq
    show (if c < FP.Core.b32.tails then FP.Core.assemble FP.Core.b32 false 0 c else FP.Core.assemble FP.Core.b32 false ((q - FP.Core.b32.qmin).toNat + 1) (c - FP.Core.b32.tails)) ≤ _
    unfold FP.Core.assemble
    rw [e1, e2, e3, show false.toNat = 0 from rfl]
    have hq2 : (q - -149).toNat + 1 ≤ 254 := by omega
    obtain ⟨E, hE⟩ : ∃ E, E = (q - -149).toNat + 1 := ⟨_, rfl⟩
    rw [← hE] at hq2 ⊢
    split <;> omega
theorem zp32_v {x : UInt32} (h : x.toNat ≤ 2139095040) : zps (zv32 x) := by
  obtain ⟨e1, e2, e3, e4, e5⟩ := ze32
  unfold zv32 FP.Core.decode FP.Core.fieldE FP.Core.fieldT FP.Core.fieldS
  rw [e1, e2]
  generalize x.toNat = n at h ⊢
  have hS : (n / 8388608 / 256 % 2 == 1) = false := by rw [show n / 8388608 / 256 % 2 = 0 by omega]; rfl
  rw [hS]
  split
  · split
    · exact Or.inr rfl
    · exfalso; omega
  · split <;> exact Or.inl ⟨_, _, rfl⟩
theorem zp32_i {v : Int} (h : 0 ≤ v ∧ v ≤ 2147483647) : (FP.i2f (Int32.ofInt v)).toNat ≤ 2139095040 := by
  have h1 := zenc32p (zround_ps zfm32 (zps_of h))
  have h2 := (zenc32 (zround_ps zfm32 (zps_of h))).1
  show (UInt32.ofNat (FP.Core.encode FP.Core.b32 (FP.Core.round FP.Core.b32 (FP.Core.ofInt (Int32.ofInt v).toInt)))).toNat ≤ _
  rw [UInt32.toNat_ofNat_of_lt' h2]
  exact h1
theorem zn32_sh {v : Int} (h : 0 ≤ v ∧ v ≤ 2147483647) : zn32 (FP.fdiv (FP.i2f (Int32.ofInt v)) 1232348160) := zn32_of (zps_div zfm32 (zp32_v (zp32_i h)) zc32_M (by decide))
def zbeP (s : UInt64) : Prop := y_cmp (y_cd .ge) (Op.cmpValue (FP.dcmp s FP.dconst1) .g) 0 = true
def zbe (s : UInt64) (e : Int) : Int := zlor (zlshl e 52) (FP.d2l (FP.dmul (FP.dsub s FP.dconst1) 4841369599423283200)).toInt
noncomputable def zbl : Nat → UInt64 → Int → Int
  | 0, s, e => zbe s e
  | k + 1, s, e => @ite _ (zbeP s) (Classical.propDecidable _) (zbe s e) (zbl k (FP.dmul s 4611686018427387904) (e - 1))
noncomputable def zbd (x : UInt64) : Int := @ite _ (y_cmp (y_cd .gt) (Op.cmpValue (FP.dcmp x FP.dconst0) .g) 0 = true) (Classical.propDecidable _) (zbl 1022 x 1023) 0
theorem zbl_t {s : UInt64} {e : Int} (h : zbeP s ∨ e ≤ 1) : zbl (e - 1).toNat s e = zbe s e := by
  by_cases h1 : e ≤ 1
  · rw [show (e - 1).toNat = 0 by omega]
    rfl
  · rw [show (e - 1).toNat = (e - 1).toNat - 1 + 1 by omega]
    exact if_pos (h.resolve_right h1)
theorem zbl_f {s : UInt64} {e : Int} (h : ¬ zbeP s) (h1 : 1 < e) : zbl (e - 1).toNat s e = zbl (e - 1 - 1).toNat (FP.dmul s 4611686018427387904) (e - 1) := by
  rw [show (e - 1).toNat = (e - 1 - 1).toNat + 1 by omega]
  exact if_neg h
theorem zl_bitsOfDouble_15 {xs : List Int32} {d : Nat} {w : Bool} {M : zM} {x : UInt64} (hx : zn64 x)  : ∀ (zn : Nat) (e : Int) (s : UInt64), (zn64 s) → (zbl 1022 x 1023 = zbl (e - 1).toNat s e) → (1 ≤ e ∧ e ≤ 1023) → e ≤ (zn : Int) → zG (xstep (xrun2 xs (d + 0)) xs 127) 127 (zn * 18 + 18) 15 [(2, .double s), (4, .long (Int64.ofInt e))] [] 0 0 w M (fun o σ => o = (.inl (some (.long (Int64.ofInt (zbl 1022 x 1023)))) : XO) ∧ σ = (w, zheap M)) := by
  intro zn
  induction zn with
  | zero =>
    intro e s hs hv he hm
    exact zG_mono (N := 0 + 18) (by omega) (zz_dload_n (pc := 15) (show xcode 127 15 = some (.dload_n 2, 1, 0, 0) from by decide +kernel) (zmem 0 rfl) (zz_dconst1 (pc := 16) (show xcode 127 16 = some (.dconst 1, 1, 0, 0) from by decide +kernel) (zz_dcmp (pc := 17) (show xcode 127 17 = some (.dcmp .g, 1, 0, 0) from by decide +kernel) (show xcode 127 18 = some (.ifCond .ge 25, 3, 43, 0) from by decide +kernel) (fun (zc1 : y_cmp (y_cd .ge) (Op.cmpValue (FP.dcmp s FP.dconst1) .g) 0 = true) => zz_lload (pc := 43) (show xcode 127 43 = some (.lload 4, 2, 0, 0) from by decide +kernel) (zmem 1 rfl) (zz_bipush (pc := 45) (x := 52) (show xcode 127 45 = some (.bipush 52, 2, 0, 0) from by decide +kernel) (by decide +kernel) (zz_zlshl (pc := 47) (show xcode 127 47 = some (.lshl, 1, 0, 0) from by decide +kernel) (zz_dload_n (pc := 48) (show xcode 127 48 = some (.dload_n 2, 1, 0, 0) from by decide +kernel) (zmem 0 rfl) (zz_dconst1 (pc := 49) (show xcode 127 49 = some (.dconst 1, 1, 0, 0) from by decide +kernel) (zz_dsub (pc := 50) (show xcode 127 50 = some (.dsub, 1, 0, 0) from by decide +kernel) (z64_m (zn64_sub hs zc64_1)) (zz_ldc2_w (pc := 51) (v := .double 4841369599423283200) (show xcode 127 51 = some (.ldc2_w 412, 3, 10, 0) from by decide +kernel) (by decide +kernel) (zz_dmul (pc := 54) (show xcode 127 54 = some (.dmul, 1, 0, 0) from by decide +kernel) (z64_m (zn64_mul (zn64_sub hs zc64_1) zc64_B (by decide))) (zz_d2l (pc := 55) (show xcode 127 55 = some (.d2l, 1, 0, 0) from by decide +kernel) (zz_zlor (pc := 56) (show xcode 127 56 = some (.lor, 1, 0, 0) from by decide +kernel) (zz_lreturn (pc := 57) (show xcode 127 57 = some (.lreturn, 1, 0, 0) from by decide +kernel) rfl (by decide +kernel) (by decide +kernel) (by exact ⟨zq_j (by rw [hv]; exact (zbl_t (by first | exact Or.inl (by assumption) | exact Or.inr (by omega))).symm), rfl⟩)))))))))))) (fun (zc2 : ¬ y_cmp (y_cd .ge) (Op.cmpValue (FP.dcmp s FP.dconst1) .g) 0 = true) => zz_lload (pc := 21) (show xcode 127 21 = some (.lload 4, 2, 0, 0) from by decide +kernel) (zmem 1 rfl) (zz_lconst (pc := 23) (x := 1) (show xcode 127 23 = some (.lconst 1, 1, 0, 0) from by decide +kernel) (by decide +kernel) (zz_lcmp (pc := 24) (show xcode 127 24 = some (.lcmp, 1, 0, 0) from by decide +kernel) (show xcode 127 25 = some (.ifCond .le 18, 3, 43, 0) from by decide +kernel) (by unfold zr64; omega) ⟨by decide, by decide⟩ (fun (zc3 : ¬ ((1) < e)) => zz_lload (pc := 43) (show xcode 127 43 = some (.lload 4, 2, 0, 0) from by decide +kernel) (zmem 1 rfl) (zz_bipush (pc := 45) (x := 52) (show xcode 127 45 = some (.bipush 52, 2, 0, 0) from by decide +kernel) (by decide +kernel) (zz_zlshl (pc := 47) (show xcode 127 47 = some (.lshl, 1, 0, 0) from by decide +kernel) (zz_dload_n (pc := 48) (show xcode 127 48 = some (.dload_n 2, 1, 0, 0) from by decide +kernel) (zmem 0 rfl) (zz_dconst1 (pc := 49) (show xcode 127 49 = some (.dconst 1, 1, 0, 0) from by decide +kernel) (zz_dsub (pc := 50) (show xcode 127 50 = some (.dsub, 1, 0, 0) from by decide +kernel) (z64_m (zn64_sub hs zc64_1)) (zz_ldc2_w (pc := 51) (v := .double 4841369599423283200) (show xcode 127 51 = some (.ldc2_w 412, 3, 10, 0) from by decide +kernel) (by decide +kernel) (zz_dmul (pc := 54) (show xcode 127 54 = some (.dmul, 1, 0, 0) from by decide +kernel) (z64_m (zn64_mul (zn64_sub hs zc64_1) zc64_B (by decide))) (zz_d2l (pc := 55) (show xcode 127 55 = some (.d2l, 1, 0, 0) from by decide +kernel) (zz_zlor (pc := 56) (show xcode 127 56 = some (.lor, 1, 0, 0) from by decide +kernel) (zz_lreturn (pc := 57) (show xcode 127 57 = some (.lreturn, 1, 0, 0) from by decide +kernel) rfl (by decide +kernel) (by decide +kernel) (by exact ⟨zq_j (by rw [hv]; exact (zbl_t (by first | exact Or.inl (by assumption) | exact Or.inr (by omega))).symm), rfl⟩)))))))))))) (fun zc40 => have zc4 : (1) < e := Classical.not_not.mp zc40; zz_dload_n (pc := 28) (show xcode 127 28 = some (.dload_n 2, 1, 0, 0) from by decide +kernel) (zmem 0 rfl) (zz_ldc2_w (pc := 29) (v := .double 4611686018427387904) (show xcode 127 29 = some (.ldc2_w 410, 3, 9, 0) from by decide +kernel) (by decide +kernel) (zz_dmul (pc := 32) (show xcode 127 32 = some (.dmul, 1, 0, 0) from by decide +kernel) (z64_m (zn64_mul hs zc64_2 (by decide))) (zz_dstore_n (pc := 33) (show xcode 127 33 = some (.dstore_n 2, 1, 0, 0) from by decide +kernel) (by decide +kernel) (zG_ro (ρ' := [(2, .double (FP.dmul s 4611686018427387904)), (4, .long (Int64.ofInt e))]) rfl (zz_lload (pc := 34) (show xcode 127 34 = some (.lload 4, 2, 0, 0) from by decide +kernel) (zmem 1 rfl) (zz_lconst (pc := 36) (x := 1) (show xcode 127 36 = some (.lconst 1, 1, 0, 0) from by decide +kernel) (by decide +kernel) (zz_lsub (pc := 37) (show xcode 127 37 = some (.lsub, 1, 0, 0) from by decide +kernel) (zz_lstore (pc := 38) (show xcode 127 38 = some (.lstore 4, 2, 0, 0) from by decide +kernel) (by decide +kernel) (zG_ro (ρ' := [(4, .long (Int64.ofInt (e - (1)))), (2, .double (FP.dmul s 4611686018427387904))]) rfl (zz_goto (pc := 40) (show xcode 127 40 = some (.goto (-25), 3, 15, 0) from by decide +kernel) ((by exfalso; omega)))))))))))))))))))
  | succ zn ih =>
    intro e s hs hv he hm
    exact zG_mono (N := zn * 18 + 18 + 0 + 18) (by omega) (zz_dload_n (pc := 15) (show xcode 127 15 = some (.dload_n 2, 1, 0, 0) from by decide +kernel) (zmem 0 rfl) (zz_dconst1 (pc := 16) (show xcode 127 16 = some (.dconst 1, 1, 0, 0) from by decide +kernel) (zz_dcmp (pc := 17) (show xcode 127 17 = some (.dcmp .g, 1, 0, 0) from by decide +kernel) (show xcode 127 18 = some (.ifCond .ge 25, 3, 43, 0) from by decide +kernel) (fun (zc1 : y_cmp (y_cd .ge) (Op.cmpValue (FP.dcmp s FP.dconst1) .g) 0 = true) => zz_lload (pc := 43) (show xcode 127 43 = some (.lload 4, 2, 0, 0) from by decide +kernel) (zmem 1 rfl) (zz_bipush (pc := 45) (x := 52) (show xcode 127 45 = some (.bipush 52, 2, 0, 0) from by decide +kernel) (by decide +kernel) (zz_zlshl (pc := 47) (show xcode 127 47 = some (.lshl, 1, 0, 0) from by decide +kernel) (zz_dload_n (pc := 48) (show xcode 127 48 = some (.dload_n 2, 1, 0, 0) from by decide +kernel) (zmem 0 rfl) (zz_dconst1 (pc := 49) (show xcode 127 49 = some (.dconst 1, 1, 0, 0) from by decide +kernel) (zz_dsub (pc := 50) (show xcode 127 50 = some (.dsub, 1, 0, 0) from by decide +kernel) (z64_m (zn64_sub hs zc64_1)) (zz_ldc2_w (pc := 51) (v := .double 4841369599423283200) (show xcode 127 51 = some (.ldc2_w 412, 3, 10, 0) from by decide +kernel) (by decide +kernel) (zz_dmul (pc := 54) (show xcode 127 54 = some (.dmul, 1, 0, 0) from by decide +kernel) (z64_m (zn64_mul (zn64_sub hs zc64_1) zc64_B (by decide))) (zz_d2l (pc := 55) (show xcode 127 55 = some (.d2l, 1, 0, 0) from by decide +kernel) (zz_zlor (pc := 56) (show xcode 127 56 = some (.lor, 1, 0, 0) from by decide +kernel) (zz_lreturn (pc := 57) (show xcode 127 57 = some (.lreturn, 1, 0, 0) from by decide +kernel) rfl (by decide +kernel) (by decide +kernel) (by exact ⟨zq_j (by rw [hv]; exact (zbl_t (by first | exact Or.inl (by assumption) | exact Or.inr (by omega))).symm), rfl⟩)))))))))))) (fun (zc2 : ¬ y_cmp (y_cd .ge) (Op.cmpValue (FP.dcmp s FP.dconst1) .g) 0 = true) => zz_lload (pc := 21) (show xcode 127 21 = some (.lload 4, 2, 0, 0) from by decide +kernel) (zmem 1 rfl) (zz_lconst (pc := 23) (x := 1) (show xcode 127 23 = some (.lconst 1, 1, 0, 0) from by decide +kernel) (by decide +kernel) (zz_lcmp (pc := 24) (show xcode 127 24 = some (.lcmp, 1, 0, 0) from by decide +kernel) (show xcode 127 25 = some (.ifCond .le 18, 3, 43, 0) from by decide +kernel) (by unfold zr64; omega) ⟨by decide, by decide⟩ (fun (zc3 : ¬ ((1) < e)) => zz_lload (pc := 43) (show xcode 127 43 = some (.lload 4, 2, 0, 0) from by decide +kernel) (zmem 1 rfl) (zz_bipush (pc := 45) (x := 52) (show xcode 127 45 = some (.bipush 52, 2, 0, 0) from by decide +kernel) (by decide +kernel) (zz_zlshl (pc := 47) (show xcode 127 47 = some (.lshl, 1, 0, 0) from by decide +kernel) (zz_dload_n (pc := 48) (show xcode 127 48 = some (.dload_n 2, 1, 0, 0) from by decide +kernel) (zmem 0 rfl) (zz_dconst1 (pc := 49) (show xcode 127 49 = some (.dconst 1, 1, 0, 0) from by decide +kernel) (zz_dsub (pc := 50) (show xcode 127 50 = some (.dsub, 1, 0, 0) from by decide +kernel) (z64_m (zn64_sub hs zc64_1)) (zz_ldc2_w (pc := 51) (v := .double 4841369599423283200) (show xcode 127 51 = some (.ldc2_w 412, 3, 10, 0) from by decide +kernel) (by decide +kernel) (zz_dmul (pc := 54) (show xcode 127 54 = some (.dmul, 1, 0, 0) from by decide +kernel) (z64_m (zn64_mul (zn64_sub hs zc64_1) zc64_B (by decide))) (zz_d2l (pc := 55) (show xcode 127 55 = some (.d2l, 1, 0, 0) from by decide +kernel) (zz_zlor (pc := 56) (show xcode 127 56 = some (.lor, 1, 0, 0) from by decide +kernel) (zz_lreturn (pc := 57) (show xcode 127 57 = some (.lreturn, 1, 0, 0) from by decide +kernel) rfl (by decide +kernel) (by decide +kernel) (by exact ⟨zq_j (by rw [hv]; exact (zbl_t (by first | exact Or.inl (by assumption) | exact Or.inr (by omega))).symm), rfl⟩)))))))))))) (fun zc40 => have zc4 : (1) < e := Classical.not_not.mp zc40; zz_dload_n (pc := 28) (show xcode 127 28 = some (.dload_n 2, 1, 0, 0) from by decide +kernel) (zmem 0 rfl) (zz_ldc2_w (pc := 29) (v := .double 4611686018427387904) (show xcode 127 29 = some (.ldc2_w 410, 3, 9, 0) from by decide +kernel) (by decide +kernel) (zz_dmul (pc := 32) (show xcode 127 32 = some (.dmul, 1, 0, 0) from by decide +kernel) (z64_m (zn64_mul hs zc64_2 (by decide))) (zz_dstore_n (pc := 33) (show xcode 127 33 = some (.dstore_n 2, 1, 0, 0) from by decide +kernel) (by decide +kernel) (zG_ro (ρ' := [(2, .double (FP.dmul s 4611686018427387904)), (4, .long (Int64.ofInt e))]) rfl (zz_lload (pc := 34) (show xcode 127 34 = some (.lload 4, 2, 0, 0) from by decide +kernel) (zmem 1 rfl) (zz_lconst (pc := 36) (x := 1) (show xcode 127 36 = some (.lconst 1, 1, 0, 0) from by decide +kernel) (by decide +kernel) (zz_lsub (pc := 37) (show xcode 127 37 = some (.lsub, 1, 0, 0) from by decide +kernel) (zz_lstore (pc := 38) (show xcode 127 38 = some (.lstore 4, 2, 0, 0) from by decide +kernel) (by decide +kernel) (zG_ro (ρ' := [(4, .long (Int64.ofInt (e - (1)))), (2, .double (FP.dmul s 4611686018427387904))]) rfl (zz_goto (pc := 40) (show xcode 127 40 = some (.goto (-25), 3, 15, 0) from by decide +kernel) (zG_mono (N := zn * 18 + 18) (by omega) (zG_sub (List.forall_mem_cons.mpr ⟨zmem 1 rfl, (List.forall_mem_cons.mpr ⟨zmem 0 rfl, (fun p hp => absurd hp List.not_mem_nil)⟩)⟩) (ih (e - (1)) (FP.dmul s 4611686018427387904)  (zn64_mul hs zc64_2 (by decide)) (by rw [hv]; exact zbl_f (by assumption) (by omega)) (by omega) (by omega)))))))))))))))))))))
theorem sp_bitsOfDouble {xs : List Int32} {d : Nat} {w : Bool} {M : zM} {x : UInt64} (hx : zn64 x) : xrun2 xs (d + 1) 127 [.double x] (w, zheap M) = some (.inl (some (.long (Int64.ofInt (zbd x)))), (w, zheap M)) := by
  exact zrun_v (N := 18458) (by decide) rfl (zz_dload_n (pc := 0) (show xcode 127 0 = some (.dload_n 0, 1, 0, 0) from by decide +kernel) (zmem 0 rfl) (zz_dconst0 (pc := 1) (show xcode 127 1 = some (.dconst 0, 1, 0, 0) from by decide +kernel) (zz_dcmp (pc := 2) (show xcode 127 2 = some (.dcmp .g, 1, 0, 0) from by decide +kernel) (show xcode 127 3 = some (.ifCond .gt 5, 3, 8, 0) from by decide +kernel) (fun (zc1 : y_cmp (y_cd .gt) (Op.cmpValue (FP.dcmp x FP.dconst0) .g) 0 = true) => zz_dload_n (pc := 8) (show xcode 127 8 = some (.dload_n 0, 1, 0, 0) from by decide +kernel) (zmem 0 rfl) (zz_dstore_n (pc := 9) (show xcode 127 9 = some (.dstore_n 2, 1, 0, 0) from by decide +kernel) (by decide +kernel) (zG_ro (ρ' := [(2, .double x), (0, .double x)]) rfl (zz_ldc2_w (pc := 10) (v := .long (Int64.ofInt (1023))) (show xcode 127 10 = some (.ldc2_w 408, 3, 8, 0) from by decide +kernel) (by decide +kernel) (zz_lstore (pc := 13) (show xcode 127 13 = some (.lstore 4, 2, 0, 0) from by decide +kernel) (by decide +kernel) (zG_ro (ρ' := [(4, .long (Int64.ofInt (1023))), (2, .double x), (0, .double x)]) rfl (zG_mono (N := 18450) (by omega) (zG_sub (List.forall_mem_cons.mpr ⟨zmem 1 rfl, (List.forall_mem_cons.mpr ⟨zmem 0 rfl, (fun p hp => absurd hp List.not_mem_nil)⟩)⟩) ((by have h : zbd x = zbl 1022 x 1023 := if_pos (by assumption); rw [h]; exact zl_bitsOfDouble_15 hx 1024 _ x hx rfl (by omega) (by omega))))))))))) (fun (zc2 : ¬ y_cmp (y_cd .gt) (Op.cmpValue (FP.dcmp x FP.dconst0) .g) 0 = true) => zz_lconst (pc := 6) (x := 0) (show xcode 127 6 = some (.lconst 0, 1, 0, 0) from by decide +kernel) (by decide +kernel) (zz_lreturn (pc := 7) (show xcode 127 7 = some (.lreturn, 1, 0, 0) from by decide +kernel) rfl (by decide +kernel) (by decide +kernel) (by exact ⟨zq_j (if_neg (by assumption)).symm, rfl⟩))))))
def zfeP (s : UInt32) : Prop := y_cmp (y_cd .ge) (Op.cmpValue (FP.fcmp s FP.fconst1) .g) 0 = true
def zfbe (s : UInt32) (e : Int) : Int := zior (zshl e 23) (FP.f2i (FP.fmul (FP.fsub s FP.fconst1) 1258291200)).toInt
noncomputable def zfl : Nat → UInt32 → Int → Int
  | 0, s, e => zfbe s e
  | k + 1, s, e => @ite _ (zfeP s) (Classical.propDecidable _) (zfbe s e) (zfl k (FP.fmul s FP.fconst2) (e - 1))
noncomputable def zbf (x : UInt32) : Int := @ite _ (y_cmp (y_cd .gt) (Op.cmpValue (FP.fcmp x FP.fconst0) .g) 0 = true) (Classical.propDecidable _) (zfl 126 x 127) 0
theorem zfl_t {s : UInt32} {e : Int} (h : zfeP s ∨ e ≤ 1) : zfl (e - 1).toNat s e = zfbe s e := by
  by_cases h1 : e ≤ 1
  · rw [show (e - 1).toNat = 0 by omega]
    rfl
  · rw [show (e - 1).toNat = (e - 1).toNat - 1 + 1 by omega]
    exact if_pos (h.resolve_right h1)
theorem zfl_f {s : UInt32} {e : Int} (h : ¬ zfeP s) (h1 : 1 < e) : zfl (e - 1).toNat s e = zfl (e - 1 - 1).toNat (FP.fmul s FP.fconst2) (e - 1) := by
  rw [show (e - 1).toNat = (e - 1 - 1).toNat + 1 by omega]
  exact if_neg h
theorem zl_bitsOfFloat_13 {xs : List Int32} {d : Nat} {w : Bool} {M : zM} {x : UInt32} (hx : zn32 x)  : ∀ (zn : Nat) (e : Int) (s : UInt32), (zn32 s) → (zfl 126 x 127 = zfl (e - 1).toNat s e) → (1 ≤ e ∧ e ≤ 127) → e ≤ (zn : Int) → zG (xstep (xrun2 xs (d + 0)) xs 128) 128 (zn * 17 + 17) 13 [(1, .float s), (2, .int (Int32.ofInt e))] [] 0 0 w M (fun o σ => o = (.inl (some (.int (Int32.ofInt (zfl 126 x 127)))) : XO) ∧ σ = (w, zheap M)) := by
  intro zn
  induction zn with
  | zero =>
    intro e s hs hv he hm
    exact zG_mono (N := 0 + 17) (by omega) (zz_fload_n (pc := 13) (show xcode 128 13 = some (.fload_n 1, 1, 0, 0) from by decide +kernel) (zmem 0 rfl) (zz_fconst1 (pc := 14) (show xcode 128 14 = some (.fconst 1, 1, 0, 0) from by decide +kernel) (zz_fcmp (pc := 15) (show xcode 128 15 = some (.fcmp .g, 1, 0, 0) from by decide +kernel) (show xcode 128 16 = some (.ifCond .ge 18, 3, 34, 0) from by decide +kernel) (fun (zc1 : y_cmp (y_cd .ge) (Op.cmpValue (FP.fcmp s FP.fconst1) .g) 0 = true) => zz_iload_n (pc := 34) (show xcode 128 34 = some (.iload_n 2, 1, 0, 0) from by decide +kernel) (zmem 1 rfl) (zz_bipush (pc := 35) (x := 23) (show xcode 128 35 = some (.bipush 23, 2, 0, 0) from by decide +kernel) (by decide +kernel) (zz_zshl (pc := 37) (show xcode 128 37 = some (.ishl, 1, 0, 0) from by decide +kernel) (zz_fload_n (pc := 38) (show xcode 128 38 = some (.fload_n 1, 1, 0, 0) from by decide +kernel) (zmem 0 rfl) (zz_fconst1 (pc := 39) (show xcode 128 39 = some (.fconst 1, 1, 0, 0) from by decide +kernel) (zz_fsub (pc := 40) (show xcode 128 40 = some (.fsub, 1, 0, 0) from by decide +kernel) (z32_m (zn32_sub hs zc32_1)) (zz_ldc_w (pc := 41) (v := .float 1258291200) (show xcode 128 41 = some (.ldc_w 414, 3, 11, 0) from by decide +kernel) (by decide +kernel) (zz_fmul (pc := 44) (show xcode 128 44 = some (.fmul, 1, 0, 0) from by decide +kernel) (z32_m (zn32_mul (zn32_sub hs zc32_1) zc32_B (by decide))) (zz_f2i (pc := 45) (show xcode 128 45 = some (.f2i, 1, 0, 0) from by decide +kernel) (zz_zior (pc := 46) (show xcode 128 46 = some (.ior, 1, 0, 0) from by decide +kernel) (zz_ireturn (pc := 47) (show xcode 128 47 = some (.ireturn, 1, 0, 0) from by decide +kernel) rfl (by decide +kernel) (by decide +kernel) (by exact ⟨zq_i (by rw [hv]; exact (zfl_t (by first | exact Or.inl (by assumption) | exact Or.inr (by omega))).symm), rfl⟩)))))))))))) (fun (zc2 : ¬ y_cmp (y_cd .ge) (Op.cmpValue (FP.fcmp s FP.fconst1) .g) 0 = true) => zz_iload_n (pc := 19) (show xcode 128 19 = some (.iload_n 2, 1, 0, 0) from by decide +kernel) (zmem 1 rfl) (zz_iconst (pc := 20) (show xcode 128 20 = some (.iconst 1, 1, 0, 0) from by decide +kernel) (zz_icmp (pc := 21) (show xcode 128 21 = some (.if_icmp .le 13, 3, 34, 0) from by decide +kernel) (by unfold zr32; omega) ⟨by decide, by decide⟩ (fun (zc3 : ¬ ((1) < e)) => zz_iload_n (pc := 34) (show xcode 128 34 = some (.iload_n 2, 1, 0, 0) from by decide +kernel) (zmem 1 rfl) (zz_bipush (pc := 35) (x := 23) (show xcode 128 35 = some (.bipush 23, 2, 0, 0) from by decide +kernel) (by decide +kernel) (zz_zshl (pc := 37) (show xcode 128 37 = some (.ishl, 1, 0, 0) from by decide +kernel) (zz_fload_n (pc := 38) (show xcode 128 38 = some (.fload_n 1, 1, 0, 0) from by decide +kernel) (zmem 0 rfl) (zz_fconst1 (pc := 39) (show xcode 128 39 = some (.fconst 1, 1, 0, 0) from by decide +kernel) (zz_fsub (pc := 40) (show xcode 128 40 = some (.fsub, 1, 0, 0) from by decide +kernel) (z32_m (zn32_sub hs zc32_1)) (zz_ldc_w (pc := 41) (v := .float 1258291200) (show xcode 128 41 = some (.ldc_w 414, 3, 11, 0) from by decide +kernel) (by decide +kernel) (zz_fmul (pc := 44) (show xcode 128 44 = some (.fmul, 1, 0, 0) from by decide +kernel) (z32_m (zn32_mul (zn32_sub hs zc32_1) zc32_B (by decide))) (zz_f2i (pc := 45) (show xcode 128 45 = some (.f2i, 1, 0, 0) from by decide +kernel) (zz_zior (pc := 46) (show xcode 128 46 = some (.ior, 1, 0, 0) from by decide +kernel) (zz_ireturn (pc := 47) (show xcode 128 47 = some (.ireturn, 1, 0, 0) from by decide +kernel) rfl (by decide +kernel) (by decide +kernel) (by exact ⟨zq_i (by rw [hv]; exact (zfl_t (by first | exact Or.inl (by assumption) | exact Or.inr (by omega))).symm), rfl⟩)))))))))))) (fun zc40 => have zc4 : (1) < e := Classical.not_not.mp zc40; zz_fload_n (pc := 24) (show xcode 128 24 = some (.fload_n 1, 1, 0, 0) from by decide +kernel) (zmem 0 rfl) (zz_fconst2 (pc := 25) (show xcode 128 25 = some (.fconst 2, 1, 0, 0) from by decide +kernel) (zz_fmul (pc := 26) (show xcode 128 26 = some (.fmul, 1, 0, 0) from by decide +kernel) (z32_m (zn32_mul hs zc32_2 (by decide))) (zz_fstore_n (pc := 27) (show xcode 128 27 = some (.fstore_n 1, 1, 0, 0) from by decide +kernel) (by decide +kernel) (zG_ro (ρ' := [(1, .float (FP.fmul s FP.fconst2)), (2, .int (Int32.ofInt e))]) rfl (zz_iinc (pc := 28) (show xcode 128 28 = some (.iinc 2 (-1), 3, 0, 0) from by decide +kernel) (zmem 1 rfl) (by decide +kernel) (zG_ro (ρ' := [(2, .int (Int32.ofInt (e + (-1)))), (1, .float (FP.fmul s FP.fconst2))]) rfl (zz_goto (pc := 31) (show xcode 128 31 = some (.goto (-18), 3, 13, 0) from by decide +kernel) ((by exfalso; omega))))))))))))))))
  | succ zn ih =>
    intro e s hs hv he hm
    exact zG_mono (N := zn * 17 + 17 + 0 + 17) (by omega) (zz_fload_n (pc := 13) (show xcode 128 13 = some (.fload_n 1, 1, 0, 0) from by decide +kernel) (zmem 0 rfl) (zz_fconst1 (pc := 14) (show xcode 128 14 = some (.fconst 1, 1, 0, 0) from by decide +kernel) (zz_fcmp (pc := 15) (show xcode 128 15 = some (.fcmp .g, 1, 0, 0) from by decide +kernel) (show xcode 128 16 = some (.ifCond .ge 18, 3, 34, 0) from by decide +kernel) (fun (zc1 : y_cmp (y_cd .ge) (Op.cmpValue (FP.fcmp s FP.fconst1) .g) 0 = true) => zz_iload_n (pc := 34) (show xcode 128 34 = some (.iload_n 2, 1, 0, 0) from by decide +kernel) (zmem 1 rfl) (zz_bipush (pc := 35) (x := 23) (show xcode 128 35 = some (.bipush 23, 2, 0, 0) from by decide +kernel) (by decide +kernel) (zz_zshl (pc := 37) (show xcode 128 37 = some (.ishl, 1, 0, 0) from by decide +kernel) (zz_fload_n (pc := 38) (show xcode 128 38 = some (.fload_n 1, 1, 0, 0) from by decide +kernel) (zmem 0 rfl) (zz_fconst1 (pc := 39) (show xcode 128 39 = some (.fconst 1, 1, 0, 0) from by decide +kernel) (zz_fsub (pc := 40) (show xcode 128 40 = some (.fsub, 1, 0, 0) from by decide +kernel) (z32_m (zn32_sub hs zc32_1)) (zz_ldc_w (pc := 41) (v := .float 1258291200) (show xcode 128 41 = some (.ldc_w 414, 3, 11, 0) from by decide +kernel) (by decide +kernel) (zz_fmul (pc := 44) (show xcode 128 44 = some (.fmul, 1, 0, 0) from by decide +kernel) (z32_m (zn32_mul (zn32_sub hs zc32_1) zc32_B (by decide))) (zz_f2i (pc := 45) (show xcode 128 45 = some (.f2i, 1, 0, 0) from by decide +kernel) (zz_zior (pc := 46) (show xcode 128 46 = some (.ior, 1, 0, 0) from by decide +kernel) (zz_ireturn (pc := 47) (show xcode 128 47 = some (.ireturn, 1, 0, 0) from by decide +kernel) rfl (by decide +kernel) (by decide +kernel) (by exact ⟨zq_i (by rw [hv]; exact (zfl_t (by first | exact Or.inl (by assumption) | exact Or.inr (by omega))).symm), rfl⟩)))))))))))) (fun (zc2 : ¬ y_cmp (y_cd .ge) (Op.cmpValue (FP.fcmp s FP.fconst1) .g) 0 = true) => zz_iload_n (pc := 19) (show xcode 128 19 = some (.iload_n 2, 1, 0, 0) from by decide +kernel) (zmem 1 rfl) (zz_iconst (pc := 20) (show xcode 128 20 = some (.iconst 1, 1, 0, 0) from by decide +kernel) (zz_icmp (pc := 21) (show xcode 128 21 = some (.if_icmp .le 13, 3, 34, 0) from by decide +kernel) (by unfold zr32; omega) ⟨by decide, by decide⟩ (fun (zc3 : ¬ ((1) < e)) => zz_iload_n (pc := 34) (show xcode 128 34 = some (.iload_n 2, 1, 0, 0) from by decide +kernel) (zmem 1 rfl) (zz_bipush (pc := 35) (x := 23) (show xcode 128 35 = some (.bipush 23, 2, 0, 0) from by decide +kernel) (by decide +kernel) (zz_zshl (pc := 37) (show xcode 128 37 = some (.ishl, 1, 0, 0) from by decide +kernel) (zz_fload_n (pc := 38) (show xcode 128 38 = some (.fload_n 1, 1, 0, 0) from by decide +kernel) (zmem 0 rfl) (zz_fconst1 (pc := 39) (show xcode 128 39 = some (.fconst 1, 1, 0, 0) from by decide +kernel) (zz_fsub (pc := 40) (show xcode 128 40 = some (.fsub, 1, 0, 0) from by decide +kernel) (z32_m (zn32_sub hs zc32_1)) (zz_ldc_w (pc := 41) (v := .float 1258291200) (show xcode 128 41 = some (.ldc_w 414, 3, 11, 0) from by decide +kernel) (by decide +kernel) (zz_fmul (pc := 44) (show xcode 128 44 = some (.fmul, 1, 0, 0) from by decide +kernel) (z32_m (zn32_mul (zn32_sub hs zc32_1) zc32_B (by decide))) (zz_f2i (pc := 45) (show xcode 128 45 = some (.f2i, 1, 0, 0) from by decide +kernel) (zz_zior (pc := 46) (show xcode 128 46 = some (.ior, 1, 0, 0) from by decide +kernel) (zz_ireturn (pc := 47) (show xcode 128 47 = some (.ireturn, 1, 0, 0) from by decide +kernel) rfl (by decide +kernel) (by decide +kernel) (by exact ⟨zq_i (by rw [hv]; exact (zfl_t (by first | exact Or.inl (by assumption) | exact Or.inr (by omega))).symm), rfl⟩)))))))))))) (fun zc40 => have zc4 : (1) < e := Classical.not_not.mp zc40; zz_fload_n (pc := 24) (show xcode 128 24 = some (.fload_n 1, 1, 0, 0) from by decide +kernel) (zmem 0 rfl) (zz_fconst2 (pc := 25) (show xcode 128 25 = some (.fconst 2, 1, 0, 0) from by decide +kernel) (zz_fmul (pc := 26) (show xcode 128 26 = some (.fmul, 1, 0, 0) from by decide +kernel) (z32_m (zn32_mul hs zc32_2 (by decide))) (zz_fstore_n (pc := 27) (show xcode 128 27 = some (.fstore_n 1, 1, 0, 0) from by decide +kernel) (by decide +kernel) (zG_ro (ρ' := [(1, .float (FP.fmul s FP.fconst2)), (2, .int (Int32.ofInt e))]) rfl (zz_iinc (pc := 28) (show xcode 128 28 = some (.iinc 2 (-1), 3, 0, 0) from by decide +kernel) (zmem 1 rfl) (by decide +kernel) (zG_ro (ρ' := [(2, .int (Int32.ofInt (e + (-1)))), (1, .float (FP.fmul s FP.fconst2))]) rfl (zz_goto (pc := 31) (show xcode 128 31 = some (.goto (-18), 3, 13, 0) from by decide +kernel) (zG_mono (N := zn * 17 + 17) (by omega) (zG_sub (List.forall_mem_cons.mpr ⟨zmem 1 rfl, (List.forall_mem_cons.mpr ⟨zmem 0 rfl, (fun p hp => absurd hp List.not_mem_nil)⟩)⟩) (ih (e + (-1)) (FP.fmul s FP.fconst2)  (zn32_mul hs zc32_2 (by decide)) (by rw [hv]; exact zfl_f (by assumption) (by omega)) (by omega) (by omega))))))))))))))))))
theorem sp_bitsOfFloat {xs : List Int32} {d : Nat} {w : Bool} {M : zM} {x : UInt32} (hx : zn32 x) : xrun2 xs (d + 1) 128 [.float x] (w, zheap M) = some (.inl (some (.int (Int32.ofInt (zbf x)))), (w, zheap M)) := by
  exact zrun_v (N := 2201) (by decide) rfl (zz_fload_n (pc := 0) (show xcode 128 0 = some (.fload_n 0, 1, 0, 0) from by decide +kernel) (zmem 0 rfl) (zz_fconst0 (pc := 1) (show xcode 128 1 = some (.fconst 0, 1, 0, 0) from by decide +kernel) (zz_fcmp (pc := 2) (show xcode 128 2 = some (.fcmp .g, 1, 0, 0) from by decide +kernel) (show xcode 128 3 = some (.ifCond .gt 5, 3, 8, 0) from by decide +kernel) (fun (zc1 : y_cmp (y_cd .gt) (Op.cmpValue (FP.fcmp x FP.fconst0) .g) 0 = true) => zz_fload_n (pc := 8) (show xcode 128 8 = some (.fload_n 0, 1, 0, 0) from by decide +kernel) (zmem 0 rfl) (zz_fstore_n (pc := 9) (show xcode 128 9 = some (.fstore_n 1, 1, 0, 0) from by decide +kernel) (by decide +kernel) (zG_ro (ρ' := [(1, .float x), (0, .float x)]) rfl (zz_bipush (pc := 10) (x := 127) (show xcode 128 10 = some (.bipush 127, 2, 0, 0) from by decide +kernel) (by decide +kernel) (zz_istore_n (pc := 12) (show xcode 128 12 = some (.istore_n 2, 1, 0, 0) from by decide +kernel) (by decide +kernel) (zG_ro (ρ' := [(2, .int (Int32.ofInt (127))), (1, .float x), (0, .float x)]) rfl (zG_mono (N := 2193) (by omega) (zG_sub (List.forall_mem_cons.mpr ⟨zmem 1 rfl, (List.forall_mem_cons.mpr ⟨zmem 0 rfl, (fun p hp => absurd hp List.not_mem_nil)⟩)⟩) ((by have h : zbf x = zfl 126 x 127 := if_pos (by assumption); rw [h]; exact zl_bitsOfFloat_13 hx 128 _ x hx rfl (by omega) (by omega))))))))))) (fun (zc2 : ¬ y_cmp (y_cd .gt) (Op.cmpValue (FP.fcmp x FP.fconst0) .g) 0 = true) => zz_iconst (pc := 6) (show xcode 128 6 = some (.iconst 0, 1, 0, 0) from by decide +kernel) (zz_ireturn (pc := 7) (show xcode 128 7 = some (.ireturn, 1, 0, 0) from by decide +kernel) rfl (by decide +kernel) (by decide +kernel) (by exact ⟨zq_i (if_neg (by assumption)).symm, rfl⟩))))))
noncomputable def zshd (v : Int) : UInt64 := FP.ddiv (FP.i2d (Int32.ofInt v)) 4696837146684686336
noncomputable def zdbt (F : zF) : Nat → UInt64
  | 0 => FP.dconst0
  | n + 1 => FP.dadd (zdbt F n) (FP.dmul (zshd (F n)) (zshd (F n)))
theorem zdbt_s {F : zF} {i : Int} (h : 0 ≤ i) : zdbt F (i + 1).toNat = FP.dadd (zdbt F i.toNat) (FP.dmul (zshd (F i.toNat)) (zshd (F i.toNat))) := by
  rw [show (i + 1).toNat = i.toNat + 1 by omega]
  rfl
theorem zp64_sh {v : Int} (h : 0 ≤ v ∧ v ≤ 1000000) : zp64 (zshd v) := zp64_div (zp64_i (by omega))
theorem zp64_dbt {F : zF} : ∀ n, (∀ j, j < n → 0 ≤ F j ∧ F j ≤ 1000000) → zp64 (zdbt F n)
  | 0, _ => zp64_0
  | n + 1, h => zp64_add (zp64_dbt n (fun j hj => h j (by omega))) (zp64_sq (zp64_sh (h n (by omega))))
noncomputable def zdoubt (M : zM) : Int := zbd (FP.dsub FP.dconst1 (zdbt (M (zn1 + 11)) (zsz M zn1).toNat))
theorem zl_doubtBits_16 {xs : List Int32} {d : Nat} {w : Bool} {M : zM} (hI : zCI M)  : ∀ (zn : Nat) (n i : Int) (v : UInt64), (v = zdbt (M (zn1 + 11)) i.toNat) → (n = zsz M zn1) → (0 ≤ i ∧ i ≤ n) → n - i ≤ (zn : Int) → zG (xstep (xrun2 xs (d + 1)) xs 91) 91 (zn * 20 + 20) 16 [(0, .ref 0), (1, .double v), (3, .int (Int32.ofInt n)), (4, .int (Int32.ofInt i))] [] 0 0 w M (fun o σ => o = (.inl (some (.long (Int64.ofInt (zdoubt M)))) : XO) ∧ σ = (w, zheap M)) := by
  intro zn
  induction zn with
  | zero =>
    intro n i v hv hn hi hm
    have hg := hI.g
    obtain ⟨g6, g7⟩ := hg.sz
    have hz : zsz M zn1 = M (zn1 + 1) 0 * M (zn1 + 1) 1 := rfl
    have hps := zp64_dbt (F := M (zn1 + 11)) i.toNat (fun j hj => hI.bl j (by omega))
    rw [← hv] at hps
    have hsh : i < n → zp64 (FP.ddiv (FP.i2d (Int32.ofInt (M (zn1 + 11) i.toNat))) 4696837146684686336) := fun h => zp64_sh (hI.bl _ (by omega))
    have hi2 : i < n → zp64 (FP.i2d (Int32.ofInt (M (zn1 + 11) i.toNat))) := fun h => zp64_i (by have := hI.bl i.toNat (by omega); omega)
    exact zG_mono (N := 0 + 20) (by omega) (zz_iload (pc := 16) (show xcode 91 16 = some (.iload 4, 2, 0, 0) from by decide +kernel) (zmem 3 rfl) (zz_iload_n (pc := 18) (show xcode 91 18 = some (.iload_n 3, 1, 0, 0) from by decide +kernel) (zmem 2 rfl) (zz_icmp (pc := 19) (show xcode 91 19 = some (.if_icmp .ge 34, 3, 53, 0) from by decide +kernel) (by unfold zr32; omega) (by unfold zr32; omega) (fun (zc1 : ¬ (i < n)) => zz_dconst1 (pc := 53) (show xcode 91 53 = some (.dconst 1, 1, 0, 0) from by decide +kernel) (zz_dload_n (pc := 54) (show xcode 91 54 = some (.dload_n 1, 1, 0, 0) from by decide +kernel) (zmem 1 rfl) (zz_dsub (pc := 55) (show xcode 91 55 = some (.dsub, 1, 0, 0) from by decide +kernel) (z64_m (zn64_sub1 (zp64_n hps))) (zz_call_v (pc := 56) (cu := 0) (su := 0) (fun ls hr => zz_calS (show xcode 91 56 = some (.invokestatic 260, 3, 127, 0) from by decide +kernel) rfl ls hr) rfl (sp_bitsOfDouble (d := d) (zn64_sub1 (zp64_n hps))) (zz_lreturn (pc := 59) (show xcode 91 59 = some (.lreturn, 1, 0, 0) from by decide +kernel) rfl (by decide +kernel) (by decide +kernel) (by exact ⟨zq_j (by rw [hv]; unfold zdoubt; rw [show i.toNat = (zsz M zn1).toNat by omega]), rfl⟩)))))) (fun zc20 => have zc2 : i < n := Classical.not_not.mp zc20; zz_aload_n (pc := 22) (show xcode 91 22 = some (.aload_n 0, 1, 0, 0) from by decide +kernel) (zmem 0 rfl) (zz_getR (pc := 23) (show xcode 91 23 = some (.getfield 10, 3, 10, 0) from by decide +kernel) zis_0 (by decide +kernel) rfl (zz_getR (pc := 26) (show xcode 91 26 = some (.getfield 73, 3, 6, 3) from by decide +kernel) (zst_0 hzn1) (by decide +kernel) rfl (zz_iload (pc := 29) (show xcode 91 29 = some (.iload 4, 2, 0, 0) from by decide +kernel) (zmem 3 rfl) (zz_iald (pc := 31) (show xcode 91 31 = some (.iaload, 1, 0, 0) from by decide +kernel) (zst_11 hzn1) (by omega) (zz_i2d (pc := 32) (show xcode 91 32 = some (.i2d, 1, 0, 0) from by decide +kernel) (zz_ldc2_w (pc := 33) (v := .double 4696837146684686336) (show xcode 91 33 = some (.ldc2_w 258, 3, 5, 0) from by decide +kernel) (by decide +kernel) (zz_ddiv (pc := 36) (show xcode 91 36 = some (.ddiv, 1, 0, 0) from by decide +kernel) (z64_m (zp64_n (hsh (by omega)))) (zz_dstore (pc := 37) (show xcode 91 37 = some (.dstore 5, 2, 0, 0) from by decide +kernel) (by decide +kernel) (zG_ro (ρ' := [(5, .double (FP.ddiv (FP.i2d (Int32.ofInt (M (zn1 + 11) i.toNat))) 4696837146684686336)), (0, .ref 0), (1, .double v), (3, .int (Int32.ofInt n)), (4, .int (Int32.ofInt i))]) rfl (zz_dload_n (pc := 39) (show xcode 91 39 = some (.dload_n 1, 1, 0, 0) from by decide +kernel) (zmem 2 rfl) (zz_dload (pc := 40) (show xcode 91 40 = some (.dload 5, 2, 0, 0) from by decide +kernel) (zmem 0 rfl) (zz_dload (pc := 42) (show xcode 91 42 = some (.dload 5, 2, 0, 0) from by decide +kernel) (zmem 0 rfl) (zz_dmul (pc := 44) (show xcode 91 44 = some (.dmul, 1, 0, 0) from by decide +kernel) (z64_m (zp64_n (zp64_sq (hsh (by omega))))) (zz_dadd (pc := 45) (show xcode 91 45 = some (.dadd, 1, 0, 0) from by decide +kernel) (z64_m (zp64_n (zp64_add hps (zp64_sq (hsh (by omega)))))) (zz_dstore_n (pc := 46) (show xcode 91 46 = some (.dstore_n 1, 1, 0, 0) from by decide +kernel) (by decide +kernel) (zG_ro (ρ' := [(1, .double (FP.dadd v (FP.dmul (FP.ddiv (FP.i2d (Int32.ofInt (M (zn1 + 11) i.toNat))) 4696837146684686336) (FP.ddiv (FP.i2d (Int32.ofInt (M (zn1 + 11) i.toNat))) 4696837146684686336)))), (5, .double (FP.ddiv (FP.i2d (Int32.ofInt (M (zn1 + 11) i.toNat))) 4696837146684686336)), (0, .ref 0), (3, .int (Int32.ofInt n)), (4, .int (Int32.ofInt i))]) rfl (zz_iinc (pc := 47) (show xcode 91 47 = some (.iinc 4 1, 3, 0, 0) from by decide +kernel) (zmem 4 rfl) (by decide +kernel) (zG_ro (ρ' := [(4, .int (Int32.ofInt (i + 1))), (1, .double (FP.dadd v (FP.dmul (FP.ddiv (FP.i2d (Int32.ofInt (M (zn1 + 11) i.toNat))) 4696837146684686336) (FP.ddiv (FP.i2d (Int32.ofInt (M (zn1 + 11) i.toNat))) 4696837146684686336)))), (5, .double (FP.ddiv (FP.i2d (Int32.ofInt (M (zn1 + 11) i.toNat))) 4696837146684686336)), (0, .ref 0), (3, .int (Int32.ofInt n))]) rfl (zz_goto (pc := 50) (show xcode 91 50 = some (.goto (-34), 3, 16, 0) from by decide +kernel) ((by exfalso; omega)))))))))))))))))))))))))
  | succ zn ih =>
    intro n i v hv hn hi hm
    have hg := hI.g
    obtain ⟨g6, g7⟩ := hg.sz
    have hz : zsz M zn1 = M (zn1 + 1) 0 * M (zn1 + 1) 1 := rfl
    have hps := zp64_dbt (F := M (zn1 + 11)) i.toNat (fun j hj => hI.bl j (by omega))
    rw [← hv] at hps
    have hsh : i < n → zp64 (FP.ddiv (FP.i2d (Int32.ofInt (M (zn1 + 11) i.toNat))) 4696837146684686336) := fun h => zp64_sh (hI.bl _ (by omega))
    have hi2 : i < n → zp64 (FP.i2d (Int32.ofInt (M (zn1 + 11) i.toNat))) := fun h => zp64_i (by have := hI.bl i.toNat (by omega); omega)
    exact zG_mono (N := zn * 20 + 20 + 0 + 20) (by omega) (zz_iload (pc := 16) (show xcode 91 16 = some (.iload 4, 2, 0, 0) from by decide +kernel) (zmem 3 rfl) (zz_iload_n (pc := 18) (show xcode 91 18 = some (.iload_n 3, 1, 0, 0) from by decide +kernel) (zmem 2 rfl) (zz_icmp (pc := 19) (show xcode 91 19 = some (.if_icmp .ge 34, 3, 53, 0) from by decide +kernel) (by unfold zr32; omega) (by unfold zr32; omega) (fun (zc1 : ¬ (i < n)) => zz_dconst1 (pc := 53) (show xcode 91 53 = some (.dconst 1, 1, 0, 0) from by decide +kernel) (zz_dload_n (pc := 54) (show xcode 91 54 = some (.dload_n 1, 1, 0, 0) from by decide +kernel) (zmem 1 rfl) (zz_dsub (pc := 55) (show xcode 91 55 = some (.dsub, 1, 0, 0) from by decide +kernel) (z64_m (zn64_sub1 (zp64_n hps))) (zz_call_v (pc := 56) (cu := 0) (su := 0) (fun ls hr => zz_calS (show xcode 91 56 = some (.invokestatic 260, 3, 127, 0) from by decide +kernel) rfl ls hr) rfl (sp_bitsOfDouble (d := d) (zn64_sub1 (zp64_n hps))) (zz_lreturn (pc := 59) (show xcode 91 59 = some (.lreturn, 1, 0, 0) from by decide +kernel) rfl (by decide +kernel) (by decide +kernel) (by exact ⟨zq_j (by rw [hv]; unfold zdoubt; rw [show i.toNat = (zsz M zn1).toNat by omega]), rfl⟩)))))) (fun zc20 => have zc2 : i < n := Classical.not_not.mp zc20; zz_aload_n (pc := 22) (show xcode 91 22 = some (.aload_n 0, 1, 0, 0) from by decide +kernel) (zmem 0 rfl) (zz_getR (pc := 23) (show xcode 91 23 = some (.getfield 10, 3, 10, 0) from by decide +kernel) zis_0 (by decide +kernel) rfl (zz_getR (pc := 26) (show xcode 91 26 = some (.getfield 73, 3, 6, 3) from by decide +kernel) (zst_0 hzn1) (by decide +kernel) rfl (zz_iload (pc := 29) (show xcode 91 29 = some (.iload 4, 2, 0, 0) from by decide +kernel) (zmem 3 rfl) (zz_iald (pc := 31) (show xcode 91 31 = some (.iaload, 1, 0, 0) from by decide +kernel) (zst_11 hzn1) (by omega) (zz_i2d (pc := 32) (show xcode 91 32 = some (.i2d, 1, 0, 0) from by decide +kernel) (zz_ldc2_w (pc := 33) (v := .double 4696837146684686336) (show xcode 91 33 = some (.ldc2_w 258, 3, 5, 0) from by decide +kernel) (by decide +kernel) (zz_ddiv (pc := 36) (show xcode 91 36 = some (.ddiv, 1, 0, 0) from by decide +kernel) (z64_m (zp64_n (hsh (by omega)))) (zz_dstore (pc := 37) (show xcode 91 37 = some (.dstore 5, 2, 0, 0) from by decide +kernel) (by decide +kernel) (zG_ro (ρ' := [(5, .double (FP.ddiv (FP.i2d (Int32.ofInt (M (zn1 + 11) i.toNat))) 4696837146684686336)), (0, .ref 0), (1, .double v), (3, .int (Int32.ofInt n)), (4, .int (Int32.ofInt i))]) rfl (zz_dload_n (pc := 39) (show xcode 91 39 = some (.dload_n 1, 1, 0, 0) from by decide +kernel) (zmem 2 rfl) (zz_dload (pc := 40) (show xcode 91 40 = some (.dload 5, 2, 0, 0) from by decide +kernel) (zmem 0 rfl) (zz_dload (pc := 42) (show xcode 91 42 = some (.dload 5, 2, 0, 0) from by decide +kernel) (zmem 0 rfl) (zz_dmul (pc := 44) (show xcode 91 44 = some (.dmul, 1, 0, 0) from by decide +kernel) (z64_m (zp64_n (zp64_sq (hsh (by omega))))) (zz_dadd (pc := 45) (show xcode 91 45 = some (.dadd, 1, 0, 0) from by decide +kernel) (z64_m (zp64_n (zp64_add hps (zp64_sq (hsh (by omega)))))) (zz_dstore_n (pc := 46) (show xcode 91 46 = some (.dstore_n 1, 1, 0, 0) from by decide +kernel) (by decide +kernel) (zG_ro (ρ' := [(1, .double (FP.dadd v (FP.dmul (FP.ddiv (FP.i2d (Int32.ofInt (M (zn1 + 11) i.toNat))) 4696837146684686336) (FP.ddiv (FP.i2d (Int32.ofInt (M (zn1 + 11) i.toNat))) 4696837146684686336)))), (5, .double (FP.ddiv (FP.i2d (Int32.ofInt (M (zn1 + 11) i.toNat))) 4696837146684686336)), (0, .ref 0), (3, .int (Int32.ofInt n)), (4, .int (Int32.ofInt i))]) rfl (zz_iinc (pc := 47) (show xcode 91 47 = some (.iinc 4 1, 3, 0, 0) from by decide +kernel) (zmem 4 rfl) (by decide +kernel) (zG_ro (ρ' := [(4, .int (Int32.ofInt (i + 1))), (1, .double (FP.dadd v (FP.dmul (FP.ddiv (FP.i2d (Int32.ofInt (M (zn1 + 11) i.toNat))) 4696837146684686336) (FP.ddiv (FP.i2d (Int32.ofInt (M (zn1 + 11) i.toNat))) 4696837146684686336)))), (5, .double (FP.ddiv (FP.i2d (Int32.ofInt (M (zn1 + 11) i.toNat))) 4696837146684686336)), (0, .ref 0), (3, .int (Int32.ofInt n))]) rfl (zz_goto (pc := 50) (show xcode 91 50 = some (.goto (-34), 3, 16, 0) from by decide +kernel) (zG_mono (N := zn * 20 + 20) (by omega) (zG_sub (List.forall_mem_cons.mpr ⟨zmem 3 rfl, (List.forall_mem_cons.mpr ⟨zmem 1 rfl, (List.forall_mem_cons.mpr ⟨zmem 4 rfl, (List.forall_mem_cons.mpr ⟨zmem 0 rfl, (fun p hp => absurd hp List.not_mem_nil)⟩)⟩)⟩)⟩) (ih n (i + 1) (FP.dadd v (FP.dmul (zshd (M (zn1 + 11) i.toNat)) (zshd (M (zn1 + 11) i.toNat))))  (by rw [hv]; exact (zdbt_s hi.1).symm) hn (by omega) (by omega)))))))))))))))))))))))))))
theorem sp_doubtBitsP {xs : List Int32} {d : Nat} {w : Bool} {M : zM} (hI : zCI M) : xrun2 xs (d + 2) 91 [.ref 0] (w, zheap M) = some (.inl (some (.long (Int64.ofInt (zdoubt M)))), (w, zheap M)) := by
  have hg := hI.g
  have ht := hI.tb
  have hK := zCI_kp hI
  have hX : ∀ q : Nat, q < 25 → zkpM M zn1 q = M q := fun q h => zkp_o (Or.inl h)
  obtain ⟨⟨g1, g2⟩, ⟨g3, g4⟩, g5⟩ := id hg
  obtain ⟨g6, g7⟩ := hg.sz
  have hz : zsz M zn1 = M (zn1 + 1) 0 * M (zn1 + 1) 1 := rfl
  exact zrun_v (N := 749) (by decide) rfl (zz_dconst0 (pc := 0) (show xcode 91 0 = some (.dconst 0, 1, 0, 0) from by decide +kernel) (zz_dstore_n (pc := 1) (show xcode 91 1 = some (.dstore_n 1, 1, 0, 0) from by decide +kernel) (by decide +kernel) (zG_ro (ρ' := [(1, .double FP.dconst0), (0, .ref 0)]) rfl (zz_aload_n (pc := 2) (show xcode 91 2 = some (.aload_n 0, 1, 0, 0) from by decide +kernel) (zmem 1 rfl) (zz_getR (pc := 3) (show xcode 91 3 = some (.getfield 10, 3, 10, 0) from by decide +kernel) zis_0 (by decide +kernel) rfl (zz_getR (pc := 6) (show xcode 91 6 = some (.getfield 69, 3, 6, 0) from by decide +kernel) (zst_0 hzn1) (by decide +kernel) rfl (zz_call_v (pc := 9) (cu := 0) (su := 0) (fun ls hr => zz_calV (show xcode 91 9 = some (.invokevirtual 254, 3, 15, 0) from by decide +kernel) rfl (zst_1 hzn1) ls hr) rfl (sp_size (d := d) hzn1) (zz_istore_n (pc := 12) (show xcode 91 12 = some (.istore_n 3, 1, 0, 0) from by decide +kernel) (by decide +kernel) (zG_ro (ρ' := [(3, .int (Int32.ofInt (zsz M zn1))), (1, .double FP.dconst0), (0, .ref 0)]) rfl (zz_iconst (pc := 13) (show xcode 91 13 = some (.iconst 0, 1, 0, 0) from by decide +kernel) (zz_istore (pc := 14) (show xcode 91 14 = some (.istore 4, 2, 0, 0) from by decide +kernel) (by decide +kernel) (zG_ro (ρ' := [(4, .int (Int32.ofInt (0))), (3, .int (Int32.ofInt (zsz M zn1))), (1, .double FP.dconst0), (0, .ref 0)]) rfl (zG_mono (N := 740) (by omega) (zG_sub (List.forall_mem_cons.mpr ⟨zmem 3 rfl, (List.forall_mem_cons.mpr ⟨zmem 2 rfl, (List.forall_mem_cons.mpr ⟨zmem 1 rfl, (List.forall_mem_cons.mpr ⟨zmem 0 rfl, (fun p hp => absurd hp List.not_mem_nil)⟩)⟩)⟩)⟩) (zl_doubtBits_16 hI 36 _ _ FP.dconst0 rfl rfl (by omega) (by omega))))))))))))))))
theorem sp_shareBitsP {xs : List Int32} {d : Nat} {w : Bool} {M : zM} (hI : zCI M) : xrun2 xs (d + 3) 92 [.ref 0] (w, zheap M) = some (.inl (some (.int (Int32.ofInt (zbf (FP.fdiv (FP.i2f (Int32.ofInt (zgr (M (zn1 + 11)) (zsz M zn1).toNat))) 1232348160))))), (w, zheap M)) := by
  have hg := hI.g
  have ht := hI.tb
  have hK := zCI_kp hI
  have hX : ∀ q : Nat, q < 25 → zkpM M zn1 q = M q := fun q h => zkp_o (Or.inl h)
  obtain ⟨⟨g1, g2⟩, ⟨g3, g4⟩, g5⟩ := id hg
  obtain ⟨g6, g7⟩ := hg.sz
  have hz : zsz M zn1 = M (zn1 + 1) 0 * M (zn1 + 1) 1 := rfl
  have hgb := zgr_b (F := M (zn1 + 11)) (u := 1000000) (zsz M zn1).toNat (fun j hj => hI.bl j (by omega)) (by decide)
  have hsh : zn32 (FP.fdiv (FP.i2f (Int32.ofInt (zgr (M (zn1 + 11)) (zsz M zn1).toNat))) 1232348160) := zn32_sh (by omega)
  exact zrun_v (N := 7) (by decide) rfl (zz_aload_n (pc := 0) (show xcode 92 0 = some (.aload_n 0, 1, 0, 0) from by decide +kernel) (zmem 0 rfl) (zz_getR (pc := 1) (show xcode 92 1 = some (.getfield 10, 3, 10, 0) from by decide +kernel) zis_0 (by decide +kernel) rfl (zz_call_v (pc := 4) (cu := 0) (su := 0) (fun ls hr => zz_calV (show xcode 92 4 = some (.invokevirtual 236, 3, 50, 0) from by decide +kernel) rfl (zst_0 hzn1) ls hr) rfl (sp_greatestBelief (d := d) hzn1 hI.g hI.bl) (zz_i2f (pc := 7) (show xcode 92 7 = some (.i2f, 1, 0, 0) from by decide +kernel) (zz_ldc_w (pc := 8) (v := .float 1232348160) (show xcode 92 8 = some (.ldc_w 264, 3, 6, 0) from by decide +kernel) (by decide +kernel) (zz_fdiv (pc := 11) (show xcode 92 11 = some (.fdiv, 1, 0, 0) from by decide +kernel) (z32_m hsh) (zz_call_v (pc := 12) (cu := 0) (su := 0) (fun ls hr => zz_calS (show xcode 92 12 = some (.invokestatic 265, 3, 128, 0) from by decide +kernel) rfl ls hr) rfl (sp_bitsOfFloat (d := d + 1) hsh) (zz_ireturn (pc := 15) (show xcode 92 15 = some (.ireturn, 1, 0, 0) from by decide +kernel) rfl (by decide +kernel) (by decide +kernel) (by first | (exfalso; first | omega | contradiction) | (subst_vars; exact ⟨rfl, rfl⟩))))))))))
