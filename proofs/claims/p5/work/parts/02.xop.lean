/-! A machine of numbers: worlds are lists of cells, a reference is a cell's number; its steps are steps of the JVM. -/
abbrev XE : Type := Nat × List Value
abbrev XW : Type := Bool × List XE
abbrev XL : Type := List (Nat × Value)
/-- what a value of the machine of numbers is in the heap: cell k lies at b0 + k; a return address stands for the script -/
def xrv (b0 b : Nat) : Value → Value
  | .ref k => .ref (b0 + k)
  | .retAddr _ => .ref b
  | .int v => .int v
  | .long v => .long v
  | .float v => .float v
  | .double v => .double v
  | .null => .null
def xls (b0 b : Nat) (ls : XL) : XL := ls.map (fun q => (q.1, xrv b0 b q.2))
def xst (b0 b : Nat) (st : List Value) : List Value := st.map (xrv b0 b)
theorem xrv_cat (b0 b : Nat) (v : Value) : (xrv b0 b v).category = v.category := by cases v <;> rfl
def xgl : XL → Nat → Option Value
  | [], _ => none
  | q :: r, i => bif Nat.beq q.1 i then some q.2 else xgl r i
def xk1 (i : Nat) (q : Nat × Value) : Bool := !(Nat.beq q.1 i) && !(Nat.beq (q.1 + 1) i && Nat.beq q.2.category 2)
def xk2 (i : Nat) (q : Nat × Value) : Bool := !(Nat.beq q.1 i) && (!(Nat.beq q.1 (i + 1)) && !(Nat.beq (q.1 + 1) i && Nat.beq q.2.category 2))
def xs1 (ls : XL) (i : Nat) (v : Value) : XL := (i, v) :: ls.filter (xk1 i)
def xs2 (ls : XL) (i : Nat) (v : Value) : XL := (i, v) :: ls.filter (xk2 i)
theorem xbeq (a b : Nat) : Nat.beq a b = (a == b) := by
  by_cases h : a = b
  · subst h; simp [Nat.beq_refl]
  · have h1 : (a == b) = false := by simpa using h
    rw [h1]
    cases h2 : Nat.beq a b with
    | false => rfl
    | true => exact absurd (Nat.eq_of_beq_eq_true h2) h
theorem xgl_mem {ls : XL} {i : Nat} {v : Value} (h : xgl ls i = some v) : (i, v) ∈ ls := by
  induction ls with
  | nil => cases h
  | cons q r ih =>
    unfold xgl at h
    cases hb : Nat.beq q.1 i with
    | true =>
      rw [hb] at h
      have h1 : some q.2 = some v := h
      have h2 := Nat.eq_of_beq_eq_true hb
      cases h1
      rw [← h2]
      exact List.mem_cons_self
    | false =>
      rw [hb] at h
      exact List.mem_cons_of_mem _ (ih h)
theorem xgl_ok {b0 b : Nat} {ls : XL} {i nL : Nat} {v : Value} {lsA : Array Slot} (hl : lv_has lsA nL (xls b0 b ls)) (h : xgl ls i = some v) : lsA[i]? = some (.val (xrv b0 b v)) :=
  hl.2.2 (i, xrv b0 b v) (List.mem_map.mpr ⟨(i, v), xgl_mem h, rfl⟩)
theorem xfm {α β : Type} (f : α → β) (p : β → Bool) (q : α → Bool) (h : ∀ a, p (f a) = q a) : ∀ l : List α, (l.map f).filter p = (l.filter q).map f
  | [] => rfl
  | a :: l => by
    have ih := xfm f p q h l
    rw [List.map_cons, List.filter_cons, List.filter_cons, h a]
    cases q a <;> simp [ih]
theorem xs1_ok (b0 b : Nat) (ls : XL) (i : Nat) (v : Value) : (i, xrv b0 b v) :: (xls b0 b ls).filter (fun q => !(q.1 == i) && !(q.1 + 1 == i && q.2.category == 2)) = xls b0 b (xs1 ls i v) := by
  unfold xls xs1
  rw [List.map_cons, xfm (q := xk1 i)]
  intro a
  simp only [xk1, xbeq, xrv_cat]
theorem xs2_ok (b0 b : Nat) (ls : XL) (i : Nat) (v : Value) : (i, xrv b0 b v) :: (xls b0 b ls).filter (fun q => !(q.1 == i) && (!(q.1 == i + 1) && !(q.1 + 1 == i && q.2.category == 2))) = xls b0 b (xs2 ls i v) := by
  unfold xls xs2
  rw [List.map_cons, xfm (q := xk2 i)]
  intro a
  simp only [xk2, xbeq, xrv_cat]
theorem xls_at {b0 b : Nat} {ls : XL} {i : Nat} {v : Value} (h : xgl ls i = some v) : ∃ k : Nat, (xls b0 b ls)[k]? = some (i, xrv b0 b v) :=
  List.mem_iff_getElem?.mp (List.mem_map.mpr ⟨(i, v), xgl_mem h, rfl⟩)
/-- the plain instructions: places, locals, stack; a: where a branch leads -/
def xop (i : Instr) (pc a nL : Nat) (ls : XL) (st : List Value) : Option (Nat × XL × List Value) := match i with
  | .iconst n => (some (pc + 1, ls, .int (Int32.ofInt n) :: st))
  | .bipush n => (some (pc + 2, ls, .int (Int8.ofInt n).toInt32 :: st))
  | .sipush n => (some (pc + 3, ls, .int (Int16.ofInt n).toInt32 :: st))
  | .lconst n => (some (pc + 1, ls, .long (Int64.ofNat n) :: st))
  | .iload_n j => (match xgl ls j with | some (.int x) => some (pc + 1, ls, .int x :: st) | _ => none)
  | .iload j => (match xgl ls j with | some (.int x) => some (pc + 2, ls, .int x :: st) | _ => none)
  | .lload_n j => (match xgl ls j with | some (.long x) => some (pc + 1, ls, .long x :: st) | _ => none)
  | .lload j => (match xgl ls j with | some (.long x) => some (pc + 2, ls, .long x :: st) | _ => none)
  | .fload_n j => (match xgl ls j with | some (.float x) => some (pc + 1, ls, .float x :: st) | _ => none)
  | .fload j => (match xgl ls j with | some (.float x) => some (pc + 2, ls, .float x :: st) | _ => none)
  | .dload_n j => (match xgl ls j with | some (.double x) => some (pc + 1, ls, .double x :: st) | _ => none)
  | .dload j => (match xgl ls j with | some (.double x) => some (pc + 2, ls, .double x :: st) | _ => none)
  | .aload_n j => (match xgl ls j with | some (.ref x) => some (pc + 1, ls, .ref x :: st) | some (.retAddr x) => some (pc + 1, ls, .retAddr x :: st) | _ => none)
  | .aload j => (match xgl ls j with | some (.ref x) => some (pc + 2, ls, .ref x :: st) | some (.retAddr x) => some (pc + 2, ls, .retAddr x :: st) | _ => none)
  | .istore_n j => (match st with | .int x :: r => (if (j : Nat) < nL then some (pc + 1, xs1 ls j (.int x), r) else none) | _ => none)
  | .istore j => (match st with | .int x :: r => (if (j : Nat) < nL then some (pc + 2, xs1 ls j (.int x), r) else none) | _ => none)
  | .fstore_n j => (match st with | .float x :: r => (if (j : Nat) < nL then some (pc + 1, xs1 ls j (.float x), r) else none) | _ => none)
  | .fstore j => (match st with | .float x :: r => (if (j : Nat) < nL then some (pc + 2, xs1 ls j (.float x), r) else none) | _ => none)
  | .astore_n j => (match st with | .ref x :: r => (if (j : Nat) < nL then some (pc + 1, xs1 ls j (.ref x), r) else none) | _ => none)
  | .astore j => (match st with | .ref x :: r => (if (j : Nat) < nL then some (pc + 2, xs1 ls j (.ref x), r) else none) | _ => none)
  | .lstore_n j => (match st with | .long x :: r => (if (j : Nat) + 1 < nL then some (pc + 1, xs2 ls j (.long x), r) else none) | _ => none)
  | .lstore j => (match st with | .long x :: r => (if (j : Nat) + 1 < nL then some (pc + 2, xs2 ls j (.long x), r) else none) | _ => none)
  | .dstore_n j => (match st with | .double x :: r => (if (j : Nat) + 1 < nL then some (pc + 1, xs2 ls j (.double x), r) else none) | _ => none)
  | .dstore j => (match st with | .double x :: r => (if (j : Nat) + 1 < nL then some (pc + 2, xs2 ls j (.double x), r) else none) | _ => none)
  | .iinc j n => (match xgl ls j with | some (.int x) => (if j < nL then some (pc + 3, xs1 ls j (.int (x + Int32.ofInt n)), st) else none) | _ => none)
  | .iadd => (match st with | .int y :: .int x :: r => some (pc + 1, ls, .int (x + y) :: r) | _ => none)
  | .isub => (match st with | .int y :: .int x :: r => some (pc + 1, ls, .int (x - y) :: r) | _ => none)
  | .imul => (match st with | .int y :: .int x :: r => some (pc + 1, ls, .int (x * y) :: r) | _ => none)
  | .iand => (match st with | .int y :: .int x :: r => some (pc + 1, ls, .int (x &&& y) :: r) | _ => none)
  | .ior => (match st with | .int y :: .int x :: r => some (pc + 1, ls, .int (x ||| y) :: r) | _ => none)
  | .ishl => (match st with | .int y :: .int x :: r => some (pc + 1, ls, .int (x <<< (y &&& 31)) :: r) | _ => none)
  | .iushr => (match st with | .int y :: .int x :: r => some (pc + 1, ls, .int ((x.toUInt32 >>> (y.toUInt32 &&& Int32.toUInt32 31)).toInt32) :: r) | _ => none)
  | .ladd => (match st with | .long y :: .long x :: r => some (pc + 1, ls, .long (x + y) :: r) | _ => none)
  | .lsub => (match st with | .long y :: .long x :: r => some (pc + 1, ls, .long (x - y) :: r) | _ => none)
  | .lmul => (match st with | .long y :: .long x :: r => some (pc + 1, ls, .long (x * y) :: r) | _ => none)
  | .lor => (match st with | .long y :: .long x :: r => some (pc + 1, ls, .long (x ||| y) :: r) | _ => none)
  | .lshl => (match st with | .int y :: .long x :: r => some (pc + 1, ls, .long (x <<< (y.toInt64 &&& 63)) :: r) | _ => none)
  | .lcmp => (match st with | .long y :: .long x :: r => some (pc + 1, ls, .int (lg_cmp x y) :: r) | _ => none)
  | .fcmp o => (match st with | .float y :: .float x :: r => some (pc + 1, ls, .int (Op.cmpValue (FP.fcmp x y) o) :: r) | _ => none)
  | .dcmp o => (match st with | .double y :: .double x :: r => some (pc + 1, ls, .int (Op.cmpValue (FP.dcmp x y) o) :: r) | _ => none)
  | .idiv => (match st with | .int y :: .int x :: r => (if y = 0 then none else some (pc + 1, ls, .int (x / y) :: r)) | _ => none)
  | .irem => (match st with | .int y :: .int x :: r => (if y = 0 then none else some (pc + 1, ls, .int (x - x / y * y) :: r)) | _ => none)
  | .ldiv => (match st with | .long y :: .long x :: r => (if y = 0 then none else some (pc + 1, ls, .long (x / y) :: r)) | _ => none)
  | .lrem => (match st with | .long y :: .long x :: r => (if y = 0 then none else some (pc + 1, ls, .long (x - x / y * y) :: r)) | _ => none)
  | .i2l => (match st with | .int x :: r => some (pc + 1, ls, .long (x.toInt64) :: r) | _ => none)
  | .l2i => (match st with | .long x :: r => some (pc + 1, ls, .int (x.toInt32) :: r) | _ => none)
  | .i2c => (match st with | .int x :: r => some (pc + 1, ls, .int ((x.toUInt32 % 65536).toInt32) :: r) | _ => none)
  | .i2f => (match st with | .int x :: r => some (pc + 1, ls, .float (FP.i2f x) :: r) | _ => none)
  | .i2d => (match st with | .int x :: r => some (pc + 1, ls, .double (FP.i2d x) :: r) | _ => none)
  | .f2i => (match st with | .float x :: r => some (pc + 1, ls, .int (FP.f2i x) :: r) | _ => none)
  | .d2l => (match st with | .double x :: r => some (pc + 1, ls, .long (FP.d2l x) :: r) | _ => none)
  | .fsub => (match st with | .float y :: .float x :: r => (if FP.fsub x y &&& 0x7fffffff ≤ 0x7f800000 then some (pc + 1, ls, .float (FP.fsub x y) :: r) else none) | _ => none)
  | .fmul => (match st with | .float y :: .float x :: r => (if FP.fmul x y &&& 0x7fffffff ≤ 0x7f800000 then some (pc + 1, ls, .float (FP.fmul x y) :: r) else none) | _ => none)
  | .fdiv => (match st with | .float y :: .float x :: r => (if FP.fdiv x y &&& 0x7fffffff ≤ 0x7f800000 then some (pc + 1, ls, .float (FP.fdiv x y) :: r) else none) | _ => none)
  | .dadd => (match st with | .double y :: .double x :: r => (if FP.dadd x y &&& 0x7fffffffffffffff ≤ 0x7ff0000000000000 then some (pc + 1, ls, .double (FP.dadd x y) :: r) else none) | _ => none)
  | .dsub => (match st with | .double y :: .double x :: r => (if FP.dsub x y &&& 0x7fffffffffffffff ≤ 0x7ff0000000000000 then some (pc + 1, ls, .double (FP.dsub x y) :: r) else none) | _ => none)
  | .dmul => (match st with | .double y :: .double x :: r => (if FP.dmul x y &&& 0x7fffffffffffffff ≤ 0x7ff0000000000000 then some (pc + 1, ls, .double (FP.dmul x y) :: r) else none) | _ => none)
  | .ddiv => (match st with | .double y :: .double x :: r => (if FP.ddiv x y &&& 0x7fffffffffffffff ≤ 0x7ff0000000000000 then some (pc + 1, ls, .double (FP.ddiv x y) :: r) else none) | _ => none)
  | .fconst n => (match n with | 0 => some (pc + 1, ls, .float FP.fconst0 :: st) | 1 => some (pc + 1, ls, .float FP.fconst1 :: st) | 2 => some (pc + 1, ls, .float FP.fconst2 :: st))
  | .dconst n => (match n with | 0 => some (pc + 1, ls, .double FP.dconst0 :: st) | 1 => some (pc + 1, ls, .double FP.dconst1 :: st))
  | .dup => (match st with | .int x :: r => some (pc + 1, ls, .int x :: .int x :: r) | .ref x :: r => some (pc + 1, ls, .ref x :: .ref x :: r) | _ => none)
  | .dup2 => (match st with | .int y :: .ref x :: r => some (pc + 1, ls, .int y :: .ref x :: .int y :: .ref x :: r) | .long x :: r => some (pc + 1, ls, .long x :: .long x :: r) | _ => none)
  | .pop2 => (match st with | .long x :: r => some (pc + 1, ls, r) | _ => none)
  | .pop => (match st with | .int x :: r => some (pc + 1, ls, r) | _ => none)
  | .goto o => (some (a, ls, st))
  | .ifCond cd o => (match cd with | .eq => (match st with | .int x :: r => (if x = 0 then some (a, ls, r) else some (pc + 3, ls, r)) | _ => none) | .ne => (match st with | .int x :: r => (if x = 0 then some (pc + 3, ls, r) else some (a, ls, r)) | _ => none) | .lt => (match st with | .int x :: r => (if x < 0 then some (a, ls, r) else some (pc + 3, ls, r)) | _ => none) | .ge => (match st with | .int x :: r => (if 0 ≤ x then some (a, ls, r) else some (pc + 3, ls, r)) | _ => none) | .gt => (match st with | .int x :: r => (if 0 < x then some (a, ls, r) else some (pc + 3, ls, r)) | _ => none) | .le => (match st with | .int x :: r => (if x ≤ 0 then some (a, ls, r) else some (pc + 3, ls, r)) | _ => none))
  | .if_icmp cd o => (match cd with | .eq => (match st with | .int y :: .int x :: r => (if x = y then some (a, ls, r) else some (pc + 3, ls, r)) | _ => none) | .ne => (match st with | .int y :: .int x :: r => (if x = y then some (pc + 3, ls, r) else some (a, ls, r)) | _ => none) | .lt => (match st with | .int y :: .int x :: r => (if x < y then some (a, ls, r) else some (pc + 3, ls, r)) | _ => none) | .ge => (match st with | .int y :: .int x :: r => (if y ≤ x then some (a, ls, r) else some (pc + 3, ls, r)) | _ => none) | .gt => (match st with | .int y :: .int x :: r => (if y < x then some (a, ls, r) else some (pc + 3, ls, r)) | _ => none) | .le => (match st with | .int y :: .int x :: r => (if x ≤ y then some (a, ls, r) else some (pc + 3, ls, r)) | _ => none))
  | .ifnull o => (match st with | .ref x :: r => some (pc + 3, ls, r) | _ => none)
  | .tableswitch d lo hi offs => (match st with | .int x :: r => (if x.toInt < lo ∨ hi < x.toInt then (if 0 ≤ (pc : Int) + d then some (((pc : Int) + d).toNat, ls, r) else none) else (match offs[(x.toInt - lo).toNat]? with | some o => (if 0 ≤ (pc : Int) + o then some (((pc : Int) + o).toNat, ls, r) else none) | none => none)) | _ => none)
  | _ => none
def xlen (i : Instr) (len : Nat) : Bool := match i with
  | .iconst _ => Nat.beq len 1
  | .bipush _ => Nat.beq len 2
  | .sipush _ => Nat.beq len 3
  | .lconst _ => Nat.beq len 1
  | .iload_n _ => Nat.beq len 1
  | .iload _ => Nat.beq len 2
  | .lload_n _ => Nat.beq len 1
  | .lload _ => Nat.beq len 2
  | .fload_n _ => Nat.beq len 1
  | .fload _ => Nat.beq len 2
  | .dload_n _ => Nat.beq len 1
  | .dload _ => Nat.beq len 2
  | .aload_n _ => Nat.beq len 1
  | .aload _ => Nat.beq len 2
  | .istore_n _ => Nat.beq len 1
  | .istore _ => Nat.beq len 2
  | .fstore_n _ => Nat.beq len 1
  | .fstore _ => Nat.beq len 2
  | .astore_n _ => Nat.beq len 1
  | .astore _ => Nat.beq len 2
  | .lstore_n _ => Nat.beq len 1
  | .lstore _ => Nat.beq len 2
  | .dstore_n _ => Nat.beq len 1
  | .dstore _ => Nat.beq len 2
  | .iinc _ _ => Nat.beq len 3
  | .iadd => Nat.beq len 1
  | .isub => Nat.beq len 1
  | .imul => Nat.beq len 1
  | .iand => Nat.beq len 1
  | .ior => Nat.beq len 1
  | .ishl => Nat.beq len 1
  | .iushr => Nat.beq len 1
  | .ladd => Nat.beq len 1
  | .lsub => Nat.beq len 1
  | .lmul => Nat.beq len 1
  | .lor => Nat.beq len 1
  | .lshl => Nat.beq len 1
  | .lcmp => Nat.beq len 1
  | .fcmp _ => Nat.beq len 1
  | .dcmp _ => Nat.beq len 1
  | .idiv => Nat.beq len 1
  | .irem => Nat.beq len 1
  | .ldiv => Nat.beq len 1
  | .lrem => Nat.beq len 1
  | .i2l => Nat.beq len 1
  | .l2i => Nat.beq len 1
  | .i2c => Nat.beq len 1
  | .i2f => Nat.beq len 1
  | .i2d => Nat.beq len 1
  | .f2i => Nat.beq len 1
  | .d2l => Nat.beq len 1
  | .fsub => Nat.beq len 1
  | .fmul => Nat.beq len 1
  | .fdiv => Nat.beq len 1
  | .dadd => Nat.beq len 1
  | .dsub => Nat.beq len 1
  | .dmul => Nat.beq len 1
  | .ddiv => Nat.beq len 1
  | .fconst _ => Nat.beq len 1
  | .dconst _ => Nat.beq len 1
  | .dup => Nat.beq len 1
  | .dup2 => Nat.beq len 1
  | .pop2 => Nat.beq len 1
  | .pop => Nat.beq len 1
  | .goto _ => Nat.beq len 3
  | .ifCond _ _ => Nat.beq len 3
  | .if_icmp _ _ => Nat.beq len 3
  | .ifnull _ => Nat.beq len 3
  | .tableswitch _ _ _ _ => true
  | _ => true
def xoff (i : Instr) : Option Int := match i with
  | .goto o => some o
  | .ifCond _ o => some o
  | .if_icmp _ o => some o
  | _ => none
section XOP
variable {p : Program} {l : Launch} {e : Env} {R : Room} {s : State} {m : MethodId} {args : Array Value} {below : List Frame} {meth : Method} {c : Code} {H : Heap} {locs : List Loc} {cells slots : Nat} {Q : State → Prop}
set_option maxHeartbeats 4000000 in
set_option maxRecDepth 100000 in
theorem xop_ok {cc : ByteArray} {pc pc' a nL len b0 b : Nat} {i : Instr} {ls ls' : XL} {st st' : List Value} {lsA : Array Slot} (hx : p.tables.exec = Jvm.exec) (hb : c.code = cc) (hdg : decode cc pc = .ok (i, len)) (hlen : xlen i len = true)
    (ht : ∀ o, xoff i = some o → (pc : Int) + o = (a : Int)) (h : xop i pc a nL ls st = some (pc', ls', st')) (hl : lv_has lsA nL (xls b0 b ls))
    (k : ∀ lsB : Array Slot, lv_has lsB nL (xls b0 b ls') → W p l e R s m args below meth c H locs cells slots Q (F0 m pc' lsB (xst b0 b st'))) : W p l e R s m args below meth c H locs cells slots Q (F0 m pc lsA (xst b0 b st)) := by
  cases i
  case iconst n =>
    obtain rfl : len = 1 := Nat.eq_of_beq_eq_true hlen
    dsimp only [xop] at h
    cases h
    exact lv_iconst hx hb hdg rfl (k lsA hl)
  case bipush n =>
    obtain rfl : len = 2 := Nat.eq_of_beq_eq_true hlen
    dsimp only [xop] at h
    cases h
    exact lv_bipush hx hb hdg rfl (k lsA hl)
  case sipush n =>
    obtain rfl : len = 3 := Nat.eq_of_beq_eq_true hlen
    dsimp only [xop] at h
    cases h
    exact lv_sipush hx hb hdg rfl (k lsA hl)
  case lconst n =>
    obtain rfl : len = 1 := Nat.eq_of_beq_eq_true hlen
    dsimp only [xop] at h
    cases h
    exact lv_lconst hx hb hdg rfl (k lsA hl)
  case iload_n j =>
    obtain rfl : len = 1 := Nat.eq_of_beq_eq_true hlen
    dsimp only [xop] at h
    split at h
    · next x he => (cases h; exact lv_iload_n hx hb hdg rfl (xgl_ok hl he) (k lsA hl))
    · cases h
  case iload j =>
    obtain rfl : len = 2 := Nat.eq_of_beq_eq_true hlen
    dsimp only [xop] at h
    split at h
    · next x he => (cases h; exact lv_iload hx hb hdg (xgl_ok hl he) (k lsA hl))
    · cases h
  case lload_n j =>
    obtain rfl : len = 1 := Nat.eq_of_beq_eq_true hlen
    dsimp only [xop] at h
    split at h
    · next x he => (cases h; exact lv_lload_n hx hb hdg rfl (xgl_ok hl he) (k lsA hl))
    · cases h
  case lload j =>
    obtain rfl : len = 2 := Nat.eq_of_beq_eq_true hlen
    dsimp only [xop] at h
    split at h
    · next x he => (cases h; exact lv_lload hx hb hdg (xgl_ok hl he) (k lsA hl))
    · cases h
  case fload_n j =>
    obtain rfl : len = 1 := Nat.eq_of_beq_eq_true hlen
    dsimp only [xop] at h
    split at h
    · next x he => (cases h; exact lv_fload_n hx hb hdg rfl (xgl_ok hl he) (k lsA hl))
    · cases h
  case fload j =>
    obtain rfl : len = 2 := Nat.eq_of_beq_eq_true hlen
    dsimp only [xop] at h
    split at h
    · next x he => (cases h; exact lv_fload hx hb hdg (xgl_ok hl he) (k lsA hl))
    · cases h
  case dload_n j =>
    obtain rfl : len = 1 := Nat.eq_of_beq_eq_true hlen
    dsimp only [xop] at h
    split at h
    · next x he => (cases h; exact lv_dload_n hx hb hdg rfl (xgl_ok hl he) (k lsA hl))
    · cases h
  case dload j =>
    obtain rfl : len = 2 := Nat.eq_of_beq_eq_true hlen
    dsimp only [xop] at h
    split at h
    · next x he => (cases h; exact lv_dload hx hb hdg (xgl_ok hl he) (k lsA hl))
    · cases h
  case aload_n j =>
    obtain rfl : len = 1 := Nat.eq_of_beq_eq_true hlen
    dsimp only [xop] at h
    split at h
    · next x he => (cases h; exact lv_aload_n hx hb hdg rfl (xgl_ok hl he) (k lsA hl))
    · next x he => (cases h; exact lv_aload_n hx hb hdg rfl (xgl_ok hl he) (k lsA hl))
    · cases h
  case aload j =>
    obtain rfl : len = 2 := Nat.eq_of_beq_eq_true hlen
    dsimp only [xop] at h
    split at h
    · next x he => (cases h; exact lv_aload hx hb hdg (xgl_ok hl he) (k lsA hl))
    · next x he => (cases h; exact lv_aload hx hb hdg (xgl_ok hl he) (k lsA hl))
    · cases h
  case istore_n j =>
    obtain rfl : len = 1 := Nat.eq_of_beq_eq_true hlen
    dsimp only [xop] at h
    split at h
    · next x r =>
      split at h
      · next hn => (cases h; exact lv_istore_n hx hb hdg rfl hl hn (xs1_ok b0 b ls j (.int x)) (fun lsB hB => k lsB hB))
      · cases h
    · cases h
  case istore j =>
    obtain rfl : len = 2 := Nat.eq_of_beq_eq_true hlen
    dsimp only [xop] at h
    split at h
    · next x r =>
      split at h
      · next hn => (cases h; exact lv_istore hx hb hdg hl hn (xs1_ok b0 b ls j (.int x)) (fun lsB hB => k lsB hB))
      · cases h
    · cases h
  case fstore_n j =>
    obtain rfl : len = 1 := Nat.eq_of_beq_eq_true hlen
    dsimp only [xop] at h
    split at h
    · next x r =>
      split at h
      · next hn => (cases h; exact lv_fstore_n hx hb hdg rfl hl hn (xs1_ok b0 b ls j (.float x)) (fun lsB hB => k lsB hB))
      · cases h
    · cases h
  case fstore j =>
    obtain rfl : len = 2 := Nat.eq_of_beq_eq_true hlen
    dsimp only [xop] at h
    split at h
    · next x r =>
      split at h
      · next hn => (cases h; exact lv_fstore hx hb hdg hl hn (xs1_ok b0 b ls j (.float x)) (fun lsB hB => k lsB hB))
      · cases h
    · cases h
  case astore_n j =>
    obtain rfl : len = 1 := Nat.eq_of_beq_eq_true hlen
    dsimp only [xop] at h
    split at h
    · next x r =>
      split at h
      · next hn => (cases h; exact lv_astore_n hx hb hdg rfl hl hn (xs1_ok b0 b ls j (.ref x)) (fun lsB hB => k lsB hB))
      · cases h
    · cases h
  case astore j =>
    obtain rfl : len = 2 := Nat.eq_of_beq_eq_true hlen
    dsimp only [xop] at h
    split at h
    · next x r =>
      split at h
      · next hn => (cases h; exact lv_astore hx hb hdg hl hn (xs1_ok b0 b ls j (.ref x)) (fun lsB hB => k lsB hB))
      · cases h
    · cases h
  case lstore_n j =>
    obtain rfl : len = 1 := Nat.eq_of_beq_eq_true hlen
    dsimp only [xop] at h
    split at h
    · next x r =>
      split at h
      · next hn => (cases h; exact lv_lstore_n hx hb hdg rfl hl hn (xs2_ok b0 b ls j (.long x)) (fun lsB hB => k lsB hB))
      · cases h
    · cases h
  case lstore j =>
    obtain rfl : len = 2 := Nat.eq_of_beq_eq_true hlen
    dsimp only [xop] at h
    split at h
    · next x r =>
      split at h
      · next hn => (cases h; exact lv_lstore hx hb hdg hl hn (xs2_ok b0 b ls j (.long x)) (fun lsB hB => k lsB hB))
      · cases h
    · cases h
  case dstore_n j =>
    obtain rfl : len = 1 := Nat.eq_of_beq_eq_true hlen
    dsimp only [xop] at h
    split at h
    · next x r =>
      split at h
      · next hn => (cases h; exact lv_dstore_n hx hb hdg rfl hl hn (xs2_ok b0 b ls j (.double x)) (fun lsB hB => k lsB hB))
      · cases h
    · cases h
  case dstore j =>
    obtain rfl : len = 2 := Nat.eq_of_beq_eq_true hlen
    dsimp only [xop] at h
    split at h
    · next x r =>
      split at h
      · next hn => (cases h; exact lv_dstore hx hb hdg hl hn (xs2_ok b0 b ls j (.double x)) (fun lsB hB => k lsB hB))
      · cases h
    · cases h
  case iinc j n =>
    obtain rfl : len = 3 := Nat.eq_of_beq_eq_true hlen
    dsimp only [xop] at h
    split at h
    · next x he =>
      split at h
      · next hn =>
        cases h
        obtain ⟨k0, hk0⟩ := xls_at (b0 := b0) (b := b) he
        exact lv_iinc hx hb hdg hl hk0 rfl hn (xs1_ok b0 b ls j (.int (x + Int32.ofInt n))) (fun lsB hB => k lsB hB)
      · cases h
    · cases h
  case iadd =>
    obtain rfl : len = 1 := Nat.eq_of_beq_eq_true hlen
    dsimp only [xop] at h
    split at h
    · cases h; exact lv_iadd hx hb hdg (k lsA hl)
    · cases h
  case isub =>
    obtain rfl : len = 1 := Nat.eq_of_beq_eq_true hlen
    dsimp only [xop] at h
    split at h
    · cases h; exact lv_isub hx hb hdg (k lsA hl)
    · cases h
  case imul =>
    obtain rfl : len = 1 := Nat.eq_of_beq_eq_true hlen
    dsimp only [xop] at h
    split at h
    · cases h; exact lv_imul hx hb hdg (k lsA hl)
    · cases h
  case iand =>
    obtain rfl : len = 1 := Nat.eq_of_beq_eq_true hlen
    dsimp only [xop] at h
    split at h
    · cases h; exact lv_iand hx hb hdg (k lsA hl)
    · cases h
  case ior =>
    obtain rfl : len = 1 := Nat.eq_of_beq_eq_true hlen
    dsimp only [xop] at h
    split at h
    · cases h; exact lv_ior hx hb hdg (k lsA hl)
    · cases h
  case ishl =>
    obtain rfl : len = 1 := Nat.eq_of_beq_eq_true hlen
    dsimp only [xop] at h
    split at h
    · cases h; exact lv_ishl hx hb hdg (k lsA hl)
    · cases h
  case iushr =>
    obtain rfl : len = 1 := Nat.eq_of_beq_eq_true hlen
    dsimp only [xop] at h
    split at h
    · cases h; exact lv_iushr hx hb hdg rfl (k lsA hl)
    · cases h
  case ladd =>
    obtain rfl : len = 1 := Nat.eq_of_beq_eq_true hlen
    dsimp only [xop] at h
    split at h
    · cases h; exact lv_ladd hx hb hdg (k lsA hl)
    · cases h
  case lsub =>
    obtain rfl : len = 1 := Nat.eq_of_beq_eq_true hlen
    dsimp only [xop] at h
    split at h
    · cases h; exact lv_lsub hx hb hdg (k lsA hl)
    · cases h
  case lmul =>
    obtain rfl : len = 1 := Nat.eq_of_beq_eq_true hlen
    dsimp only [xop] at h
    split at h
    · cases h; exact lv_lmul hx hb hdg (k lsA hl)
    · cases h
  case lor =>
    obtain rfl : len = 1 := Nat.eq_of_beq_eq_true hlen
    dsimp only [xop] at h
    split at h
    · cases h; exact lv_lor hx hb hdg (k lsA hl)
    · cases h
  case lshl =>
    obtain rfl : len = 1 := Nat.eq_of_beq_eq_true hlen
    dsimp only [xop] at h
    split at h
    · cases h; exact lv_lshl hx hb hdg rfl (k lsA hl)
    · cases h
  case lcmp =>
    obtain rfl : len = 1 := Nat.eq_of_beq_eq_true hlen
    dsimp only [xop] at h
    split at h
    · cases h; exact W.lcmp hx hb hdg (k lsA hl)
    · cases h
  case fcmp o =>
    obtain rfl : len = 1 := Nat.eq_of_beq_eq_true hlen
    dsimp only [xop] at h
    split at h
    · cases h; exact lv_fcmp hx hb hdg (k lsA hl)
    · cases h
  case dcmp o =>
    obtain rfl : len = 1 := Nat.eq_of_beq_eq_true hlen
    dsimp only [xop] at h
    split at h
    · cases h; exact lv_dcmp hx hb hdg (k lsA hl)
    · cases h
  case idiv =>
    obtain rfl : len = 1 := Nat.eq_of_beq_eq_true hlen
    dsimp only [xop] at h
    split at h
    · next y x r =>
      split at h
      · cases h
      · next hne => (cases h; exact lv_idiv hx hb hdg hne (k lsA hl))
    · cases h
  case irem =>
    obtain rfl : len = 1 := Nat.eq_of_beq_eq_true hlen
    dsimp only [xop] at h
    split at h
    · next y x r =>
      split at h
      · cases h
      · next hne => (cases h; exact lv_irem hx hb hdg hne (k lsA hl))
    · cases h
  case ldiv =>
    obtain rfl : len = 1 := Nat.eq_of_beq_eq_true hlen
    dsimp only [xop] at h
    split at h
    · next y x r =>
      split at h
      · cases h
      · next hne => (cases h; exact lv_ldiv hx hb hdg hne (k lsA hl))
    · cases h
  case lrem =>
    obtain rfl : len = 1 := Nat.eq_of_beq_eq_true hlen
    dsimp only [xop] at h
    split at h
    · next y x r =>
      split at h
      · cases h
      · next hne => (cases h; exact lv_lrem hx hb hdg hne (k lsA hl))
    · cases h
  case i2l =>
    obtain rfl : len = 1 := Nat.eq_of_beq_eq_true hlen
    dsimp only [xop] at h
    split at h
    · cases h; exact lv_i2l hx hb hdg rfl (k lsA hl)
    · cases h
  case l2i =>
    obtain rfl : len = 1 := Nat.eq_of_beq_eq_true hlen
    dsimp only [xop] at h
    split at h
    · cases h; exact lv_l2i hx hb hdg rfl (k lsA hl)
    · cases h
  case i2c =>
    obtain rfl : len = 1 := Nat.eq_of_beq_eq_true hlen
    dsimp only [xop] at h
    split at h
    · cases h; exact lv_i2c hx hb hdg rfl (k lsA hl)
    · cases h
  case i2f =>
    obtain rfl : len = 1 := Nat.eq_of_beq_eq_true hlen
    dsimp only [xop] at h
    split at h
    · cases h; exact lv_i2f hx hb hdg (k lsA hl)
    · cases h
  case i2d =>
    obtain rfl : len = 1 := Nat.eq_of_beq_eq_true hlen
    dsimp only [xop] at h
    split at h
    · cases h; exact lv_i2d hx hb hdg (k lsA hl)
    · cases h
  case f2i =>
    obtain rfl : len = 1 := Nat.eq_of_beq_eq_true hlen
    dsimp only [xop] at h
    split at h
    · cases h; exact lv_f2i hx hb hdg (k lsA hl)
    · cases h
  case d2l =>
    obtain rfl : len = 1 := Nat.eq_of_beq_eq_true hlen
    dsimp only [xop] at h
    split at h
    · cases h; exact lv_d2l hx hb hdg (k lsA hl)
    · cases h
  case fsub =>
    obtain rfl : len = 1 := Nat.eq_of_beq_eq_true hlen
    dsimp only [xop] at h
    split at h
    · next y x r =>
      split at h
      · next hne => (cases h; exact lv_fsub hx hb hdg hne (k lsA hl))
      · cases h
    · cases h
  case fmul =>
    obtain rfl : len = 1 := Nat.eq_of_beq_eq_true hlen
    dsimp only [xop] at h
    split at h
    · next y x r =>
      split at h
      · next hne => (cases h; exact lv_fmul hx hb hdg hne (k lsA hl))
      · cases h
    · cases h
  case fdiv =>
    obtain rfl : len = 1 := Nat.eq_of_beq_eq_true hlen
    dsimp only [xop] at h
    split at h
    · next y x r =>
      split at h
      · next hne => (cases h; exact lv_fdiv hx hb hdg hne (k lsA hl))
      · cases h
    · cases h
  case dadd =>
    obtain rfl : len = 1 := Nat.eq_of_beq_eq_true hlen
    dsimp only [xop] at h
    split at h
    · next y x r =>
      split at h
      · next hne => (cases h; exact lv_dadd hx hb hdg hne (k lsA hl))
      · cases h
    · cases h
  case dsub =>
    obtain rfl : len = 1 := Nat.eq_of_beq_eq_true hlen
    dsimp only [xop] at h
    split at h
    · next y x r =>
      split at h
      · next hne => (cases h; exact lv_dsub hx hb hdg hne (k lsA hl))
      · cases h
    · cases h
  case dmul =>
    obtain rfl : len = 1 := Nat.eq_of_beq_eq_true hlen
    dsimp only [xop] at h
    split at h
    · next y x r =>
      split at h
      · next hne => (cases h; exact lv_dmul hx hb hdg hne (k lsA hl))
      · cases h
    · cases h
  case ddiv =>
    obtain rfl : len = 1 := Nat.eq_of_beq_eq_true hlen
    dsimp only [xop] at h
    split at h
    · next y x r =>
      split at h
      · next hne => (cases h; exact lv_ddiv hx hb hdg hne (k lsA hl))
      · cases h
    · cases h
  case fconst n =>
    obtain rfl : len = 1 := Nat.eq_of_beq_eq_true hlen
    dsimp only [xop] at h
    split at h
    · cases h; exact lv_fconst0 hx hb hdg (k lsA hl)
    · cases h; exact lv_fconst1 hx hb hdg (k lsA hl)
    · cases h; exact lv_fconst2 hx hb hdg (k lsA hl)
  case dconst n =>
    obtain rfl : len = 1 := Nat.eq_of_beq_eq_true hlen
    dsimp only [xop] at h
    split at h
    · cases h; exact lv_dconst0 hx hb hdg (k lsA hl)
    · cases h; exact lv_dconst1 hx hb hdg (k lsA hl)
  case dup =>
    obtain rfl : len = 1 := Nat.eq_of_beq_eq_true hlen
    dsimp only [xop] at h
    split at h
    · cases h; exact lv_dup hx hb hdg rfl (k lsA hl)
    · cases h; exact lv_dup hx hb hdg rfl (k lsA hl)
    · cases h
  case dup2 =>
    obtain rfl : len = 1 := Nat.eq_of_beq_eq_true hlen
    dsimp only [xop] at h
    split at h
    · cases h; exact lv_dup2_11 hx hb hdg rfl rfl (k lsA hl)
    · cases h; exact lv_dup2_2 hx hb hdg rfl (k lsA hl)
    · cases h
  case pop2 =>
    obtain rfl : len = 1 := Nat.eq_of_beq_eq_true hlen
    dsimp only [xop] at h
    split at h
    · cases h; exact lv_pop2_2 hx hb hdg rfl (k lsA hl)
    · cases h
  case pop =>
    obtain rfl : len = 1 := Nat.eq_of_beq_eq_true hlen
    dsimp only [xop] at h
    split at h
    · cases h; exact lv_pop hx hb hdg rfl (k lsA hl)
    · cases h
  case goto o =>
    obtain rfl : len = 3 := Nat.eq_of_beq_eq_true hlen
    dsimp only [xop] at h
    cases h
    exact lv_goto hx hb hdg (ht _ rfl) (k lsA hl)
  case ifCond cd o =>
    obtain rfl : len = 3 := Nat.eq_of_beq_eq_true hlen
    dsimp only [xop] at h
    cases cd
    · dsimp only at h
      split at h
      · split at h
        · next hc => (cases h; exact lv_if_eq hx hb hdg (ht _ rfl) (fun _ => k lsA hl) (fun h9 => absurd hc h9))
        · next hc => (cases h; exact lv_if_eq hx hb hdg (ht _ rfl) (fun h9 => absurd h9 hc) (fun _ => k lsA hl))
      · cases h
    · dsimp only at h
      split at h
      · split at h
        · next hc => (cases h; exact lv_if_ne hx hb hdg (ht _ rfl) (fun h9 => absurd hc h9) (fun _ => k lsA hl))
        · next hc => (cases h; exact lv_if_ne hx hb hdg (ht _ rfl) (fun _ => k lsA hl) (fun h9 => absurd h9 hc))
      · cases h
    · dsimp only at h
      split at h
      · split at h
        · next hc => (cases h; exact lv_if_lt hx hb hdg (ht _ rfl) (fun _ => k lsA hl) (fun h9 => absurd hc h9))
        · next hc => (cases h; exact lv_if_lt hx hb hdg (ht _ rfl) (fun h9 => absurd h9 hc) (fun _ => k lsA hl))
      · cases h
    · dsimp only at h
      split at h
      · split at h
        · next hc => (cases h; exact lv_if_ge hx hb hdg (ht _ rfl) (fun _ => k lsA hl) (fun h9 => absurd hc h9))
        · next hc => (cases h; exact lv_if_ge hx hb hdg (ht _ rfl) (fun h9 => absurd h9 hc) (fun _ => k lsA hl))
      · cases h
    · dsimp only at h
      split at h
      · split at h
        · next hc => (cases h; exact lv_if_gt hx hb hdg (ht _ rfl) (fun _ => k lsA hl) (fun h9 => absurd hc h9))
        · next hc => (cases h; exact lv_if_gt hx hb hdg (ht _ rfl) (fun h9 => absurd h9 hc) (fun _ => k lsA hl))
      · cases h
    · dsimp only at h
      split at h
      · split at h
        · next hc => (cases h; exact lv_if_le hx hb hdg (ht _ rfl) (fun _ => k lsA hl) (fun h9 => absurd hc h9))
        · next hc => (cases h; exact lv_if_le hx hb hdg (ht _ rfl) (fun h9 => absurd h9 hc) (fun _ => k lsA hl))
      · cases h
  case if_icmp cd o =>
    obtain rfl : len = 3 := Nat.eq_of_beq_eq_true hlen
    dsimp only [xop] at h
    cases cd
    · dsimp only at h
      split at h
      · split at h
        · next hc => (cases h; exact lv_icmp_eq hx hb hdg (ht _ rfl) (fun _ => k lsA hl) (fun h9 => absurd hc h9))
        · next hc => (cases h; exact lv_icmp_eq hx hb hdg (ht _ rfl) (fun h9 => absurd h9 hc) (fun _ => k lsA hl))
      · cases h
    · dsimp only at h
      split at h
      · split at h
        · next hc => (cases h; exact lv_icmp_ne hx hb hdg (ht _ rfl) (fun h9 => absurd hc h9) (fun _ => k lsA hl))
        · next hc => (cases h; exact lv_icmp_ne hx hb hdg (ht _ rfl) (fun _ => k lsA hl) (fun h9 => absurd h9 hc))
      · cases h
    · dsimp only at h
      split at h
      · split at h
        · next hc => (cases h; exact lv_icmp_lt hx hb hdg (ht _ rfl) (fun _ => k lsA hl) (fun h9 => absurd hc h9))
        · next hc => (cases h; exact lv_icmp_lt hx hb hdg (ht _ rfl) (fun h9 => absurd h9 hc) (fun _ => k lsA hl))
      · cases h
    · dsimp only at h
      split at h
      · split at h
        · next hc => (cases h; exact lv_icmp_ge hx hb hdg (ht _ rfl) (fun _ => k lsA hl) (fun h9 => absurd hc h9))
        · next hc => (cases h; exact lv_icmp_ge hx hb hdg (ht _ rfl) (fun h9 => absurd h9 hc) (fun _ => k lsA hl))
      · cases h
    · dsimp only at h
      split at h
      · split at h
        · next hc => (cases h; exact lv_icmp_gt hx hb hdg (ht _ rfl) (fun _ => k lsA hl) (fun h9 => absurd hc h9))
        · next hc => (cases h; exact lv_icmp_gt hx hb hdg (ht _ rfl) (fun h9 => absurd h9 hc) (fun _ => k lsA hl))
      · cases h
    · dsimp only at h
      split at h
      · split at h
        · next hc => (cases h; exact lv_icmp_le hx hb hdg (ht _ rfl) (fun _ => k lsA hl) (fun h9 => absurd hc h9))
        · next hc => (cases h; exact lv_icmp_le hx hb hdg (ht _ rfl) (fun h9 => absurd h9 hc) (fun _ => k lsA hl))
      · cases h
  case ifnull o =>
    obtain rfl : len = 3 := Nat.eq_of_beq_eq_true hlen
    dsimp only [xop] at h
    split at h
    · cases h; exact lv_ifnull hx hb hdg (k lsA hl)
    · cases h
  case tableswitch d lo hi offs =>
    dsimp only [xop] at h
    split at h
    · next x r =>
      split at h
      · next hc =>
        split at h
        · next h0 => (cases h; exact lv_tableOut hx hb hdg hc (Int.toNat_of_nonneg h0).symm (k lsA hl))
        · cases h
      · next hc =>
        split at h
        · next o ho =>
          split at h
          · next h0 => (cases h; exact lv_tableIn hx hb hdg (fun q => hc (Or.inl q)) (fun q => hc (Or.inr q)) ho (Int.toNat_of_nonneg h0).symm (k lsA hl))
          · cases h
        · cases h
    · cases h
  all_goals cases h
end XOP
