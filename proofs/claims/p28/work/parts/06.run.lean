noncomputable section
/-! The machine of numbers runs: a frame is (place, locals, stack, cells used, slots used, world). -/
abbrev XC : Type := Nat × XL × List Value × Nat × Nat × XW
abbrev XO : Type := Option Value ⊕ Nat
abbrev XS : Type := Option (XC ⊕ (XC × Option Nat))
def xY (k : Nat) : MethodName := (xm k).1
def xB (k : Nat) : ByteArray := (xm k).2.1
def xRet (k : Nat) : Option FieldType := (xm k).2.2.1
def xNl (k : Nat) : Nat := (xm k).2.2.2.1.1
def xNa (k : Nat) : Nat := (xm k).2.2.2.1.2.1
def xK (k : Nat) : Nat := (xm k).2.2.2.1.2.2
def xFr (k : Nat) : Nat := (xm k).2.2.2.2.1.1
def xLo (k : Nat) : Nat := (xm k).2.2.2.2.1.2.1
def xMc (k : Nat) : Nat := (xm k).2.2.2.2.1.2.2.1
def xMs (k : Nat) : Nat := (xm k).2.2.2.2.1.2.2.2
def xHh (k : Nat) : List (Nat × Nat × Nat × Nat × Nat) := (xm k).2.2.2.2.2.1
def xSz (k : Nat) : Nat := (xm k).2.2.2.2.2.2
def xnth {α : Type} : List α → Nat → Option α
  | [], _ => none
  | a :: _, 0 => some a
  | _ :: l, n + 1 => xnth l n
def xcat : List Value → Nat
  | [] => 0
  | v :: r => v.category + xcat r
/-- may the method k call the method a, with the words of 'rest' below -/
def xroom (k a : Nat) (rest : List Value) (cu su : Nat) : Bool := Nat.ble (xcat rest) 8 && (Nat.ble (xFr a + 1) (xFr k) && (Nat.ble (8 + (xNl a + 11) + xLo a) (xLo k) && (Nat.ble (cu + xMc a) (xMc k) && Nat.ble (su + xMs a) (xMs k))))
def xhnd : List (Nat × Nat × Nat × Nat × Nat) → Nat → Nat → Option Nat
  | [], _, _ => none
  | h :: r, pc, E => bif Nat.ble h.1 pc && (Nat.blt pc h.2.1 && Nat.beq h.2.2.2.2 E) then some h.2.2.1 else xhnd r pc E
/-- behind a call of a: its answer on the stack; or a handler, whose first instruction puts the exception away; or further up -/
def xback (k a pc : Nat) (ls : XL) (rest : List Value) (cu su : Nat) (r : Option (XO × XW)) : XS := match r with
  | some (.inl (some v), σ) => some (.inl (pc + 3, ls, v :: rest, cu + xMc a, su + xMs a, σ))
  | some (.inl none, σ) => some (.inl (pc + 3, ls, rest, cu + xMc a, su + xMs a, σ))
  | some (.inr E, σ) => (match xhnd (xHh k) pc E with
    | some h => (match xcode k h with
      | some (.astore_n j, _) => (bif Nat.blt j (xNl k) then some (.inl (h + 1, ls.filter (xk1 j), [], cu + xMc a, su + xMs a, σ)) else none)
      | some (.astore j, _) => (bif Nat.blt j (xNl k) then some (.inl (h + 2, ls.filter (xk1 j), [], cu + xMc a, su + xMs a, σ)) else none)
      | _ => none)
    | none => some (.inr ((pc, ls, rest, cu + xMc a, su + xMs a, σ), some E)))
  | none => none
def xsplit : Nat → List Value → List Value → Option (List Value × List Value)
  | 0, st, acc => some (acc, st)
  | n + 1, v :: st, acc => xsplit n st (v :: acc)
  | _ + 1, [], _ => none
def xstep (rec : Nat → List Value → XW → Option (XO × XW)) (xs : List Int32) (k : Nat) (c : XC) : XS :=
  match c with
  | (pc, ls, st, cu, su, σ) => match xcode k pc with
    | none => none
    | some (i, _, a, b) => match i with
      | .getfield _ => (match st with
        | .ref q :: r => (match xnth σ.2 q with
          | some (t, fs) => (bif Nat.beq t a then (match xnth fs b with | some v => some (.inl (pc + 3, ls, v :: r, cu, su, σ)) | none => none) else none)
          | none => none)
        | _ => none)
      | .putfield _ => (match st with
        | v :: .ref q :: r => (match xnth σ.2 q with
          | some (t, fs) => (bif Nat.beq t a && (xfit (xfty a b) v && Nat.blt b fs.length) then some (.inl (pc + 3, ls, r, cu, su, (σ.1, σ.2.set q (t, fs.set b v)))) else none)
          | none => none)
        | _ => none)
      | .iaload => (match st with
        | .int j :: .ref q :: r => (match xnth σ.2 q with
          | some (t, fs) => (bif Nat.beq t 100 && xin j fs.length then (match xnth fs j.toNatClampNeg with | some (.int x) => some (.inl (pc + 1, ls, .int x :: r, cu, su, σ)) | _ => none) else none)
          | none => none)
        | .int j :: .retAddr _ :: r => (bif xin j xs.length then (match xnth xs j.toNatClampNeg with | some x => some (.inl (pc + 1, ls, .int x :: r, cu, su, σ)) | _ => none) else none)
        | _ => none)
      | .laload => (match st with
        | .int j :: .ref q :: r => (match xnth σ.2 q with
          | some (t, fs) => (bif Nat.beq t 101 && xin j fs.length then (match xnth fs j.toNatClampNeg with | some (.long x) => some (.inl (pc + 1, ls, .long x :: r, cu, su, σ)) | _ => none) else none)
          | none => none)
        | _ => none)
      | .caload => (match st with
        | .int j :: .ref q :: r => (match xnth σ.2 q with
          | some (t, fs) => (bif Nat.beq t 102 && xin j fs.length then (match xnth fs j.toNatClampNeg with | some (.int x) => some (.inl (pc + 1, ls, .int x :: r, cu, su, σ)) | _ => none) else none)
          | none => none)
        | _ => none)
      | .aaload => (match st with
        | .int j :: .ref q :: r => (match xnth σ.2 q with
          | some (t, fs) => (bif Nat.beq t 103 && xin j fs.length then (match xnth fs j.toNatClampNeg with | some (.ref x) => some (.inl (pc + 1, ls, .ref x :: r, cu, su, σ)) | _ => none) else none)
          | none => none)
        | _ => none)
      | .iastore => (match st with
        | .int x :: .int j :: .ref q :: r => (match xnth σ.2 q with
          | some (t, fs) => (bif Nat.beq t 100 && xin j fs.length then some (.inl (pc + 1, ls, r, cu, su, (σ.1, σ.2.set q (t, fs.set j.toNatClampNeg (.int x))))) else none)
          | none => none)
        | _ => none)
      | .lastore => (match st with
        | .long x :: .int j :: .ref q :: r => (match xnth σ.2 q with
          | some (t, fs) => (bif Nat.beq t 101 && xin j fs.length then some (.inl (pc + 1, ls, r, cu, su, (σ.1, σ.2.set q (t, fs.set j.toNatClampNeg (.long x))))) else none)
          | none => none)
        | _ => none)
      | .castore => (match st with
        | .int x :: .int j :: .ref q :: r => (match xnth σ.2 q with
          | some (t, fs) => (bif Nat.beq t 102 && (xin j fs.length && decide (narrow .char (.int x) = .int x)) then some (.inl (pc + 1, ls, r, cu, su, (σ.1, σ.2.set q (t, fs.set j.toNatClampNeg (.int x))))) else none)
          | none => none)
        | _ => none)
      | .aastore => (match st with
        | .ref x :: .int j :: .ref q :: r => (match xnth σ.2 q with
          | some (t, fs) => (bif Nat.beq t 103 && xin j fs.length then (match xnth σ.2 x with
            | some (t2, _) => (bif Nat.beq t2 6 then some (.inl (pc + 1, ls, r, cu, su, (σ.1, σ.2.set q (t, fs.set j.toNatClampNeg (.ref x))))) else none)
            | none => none) else none)
          | none => none)
        | _ => none)
      | .arraylength => (match st with
        | .ref q :: r => (match xnth σ.2 q with
          | some (t, fs) => (bif Nat.ble 100 t then some (.inl (pc + 1, ls, .int (Int32.ofNat fs.length) :: r, cu, su, σ)) else none)
          | none => none)
        | .retAddr _ :: r => some (.inl (pc + 1, ls, .int (Int32.ofNat xs.length) :: r, cu, su, σ))
        | _ => none)
      | .new _ => (match b with
        | 0 => (bif σ.1 && (Nat.ble (cu + 1) (xMc k) && Nat.ble (su + (xdef a).length) (xMs k)) then some (.inl (pc + 3, ls, .ref σ.2.length :: st, cu + 1, su + (xdef a).length, (true, σ.2 ++ [(a, xdef a)]))) else none)
        | _ + 1 => (bif Nat.ble 6 (xFr k) && (Nat.ble (xcat st + 82) (xLo k) && (Nat.ble (cu + 1) (xMc k) && Nat.ble (su + 6) (xMs k))) then some (.inr (c, some a)) else none))
      | .newarray _ => (match st with
        | .int n :: r => (bif σ.1 && (decide (¬ n < 0) && (Nat.ble n.toNatClampNeg 1000000 && (Nat.ble (cu + 1) (xMc k) && Nat.ble (su + n.toNatClampNeg) (xMs k)))) then some (.inl (pc + 2, ls, .ref σ.2.length :: r, cu + 1, su + n.toNatClampNeg, (true, σ.2 ++ [(a, List.replicate n.toNatClampNeg (bif Nat.beq a 101 then .long 0 else .int 0))]))) else none)
        | _ => none)
      | .anewarray _ => (match st with
        | .int n :: r => (bif σ.1 && (decide (¬ n < 0) && (Nat.ble n.toNatClampNeg 1000000 && (Nat.ble (cu + 1) (xMc k) && Nat.ble (su + n.toNatClampNeg) (xMs k)))) then some (.inl (pc + 3, ls, .ref σ.2.length :: r, cu + 1, su + n.toNatClampNeg, (true, σ.2 ++ [(103, List.replicate n.toNatClampNeg .null)]))) else none)
        | _ => none)
      | .ldc _ => (match xnth xcon a with | some v => some (.inl (pc + 2, ls, v :: st, cu, su, σ)) | none => none)
      | .ldc_w _ => (match xnth xcon a with | some v => some (.inl (pc + 3, ls, v :: st, cu, su, σ)) | none => none)
      | .ldc2_w _ => (match xnth xcon a with | some v => some (.inl (pc + 3, ls, v :: st, cu, su, σ)) | none => none)
      | .invokevirtual _ => (match xsplit (xNa a) st [] with
        | some (as, .ref q :: r) => (match xnth σ.2 q with
          | some (t, _) => (bif Nat.beq t (xK a) && xroom k a r cu su then xback k a pc ls r cu su (rec a (.ref q :: as) σ) else none)
          | none => none)
        | _ => none)
      | .invokespecial _ => (match b with
        | 2 => (match st with | .ref _ :: r => (bif Nat.ble 1 (xFr k) && Nat.ble (xcat r + 12) (xLo k) then some (.inl (pc + 3, ls, r, cu, su, σ)) else none) | _ => none)
        | 0 | 1 => (match xsplit (xNa a) st [] with
          | some (as, .ref q :: r) => (bif xroom k a r cu su then xback k a pc ls r cu su (rec a (.ref q :: as) σ) else none)
          | _ => none)
        | _ => none)
      | .invokestatic _ => (match b with
        | 0 => (match xsplit (xNa a) st [] with
          | some (as, r) => (bif xroom k a r cu su then xback k a pc ls r cu su (rec a as σ) else none)
          | _ => none)
        | 1 => (match a with
          | 0 => (match st with
            | .int n :: .int dp :: .ref q :: .int sp :: .ref q0 :: r => (match xnth σ.2 q0, xnth σ.2 q with
              | some (t0, f0), some (t1, f1) => (bif Nat.beq t0 t1 && (Nat.ble 100 t0 && (xfa t0 f0 && (Nat.blt 0 f0.length && (decide (¬ sp < 0) && (decide (¬ dp < 0) && (decide (¬ n < 0) && (Nat.ble (sp.toNatClampNeg + n.toNatClampNeg) f0.length && (Nat.ble (dp.toNatClampNeg + n.toNatClampNeg) f1.length && (Nat.ble 1 (xFr k) && Nat.ble (xcat r + 30) (xLo k)))))))))) then some (.inl (pc + 3, ls, r, cu, su, (σ.1, σ.2.set q (t1, xcpy f0 f1 sp.toNatClampNeg dp.toNatClampNeg n.toNatClampNeg)))) else none)
              | _, _ => none)
            | _ => none)
          | 1 => (match st with | .double x :: r => (bif Nat.ble 1 (xFr k) && Nat.ble (xcat r + 15) (xLo k) then some (.inl (pc + 3, ls, .long x.toInt64 :: r, cu, su, σ)) else none) | _ => none)
          | _ => (match st with | .float x :: r => (bif Nat.ble 1 (xFr k) && Nat.ble (xcat r + 15) (xLo k) then some (.inl (pc + 3, ls, .int x.toInt32 :: r, cu, su, σ)) else none) | _ => none))
        | _ => none)
      | .ireturn => some (.inr (c, none))
      | .lreturn => some (.inr (c, none))
      | .return_ => some (.inr (c, none))
      | i => (match xop i pc a (xNl k) ls st with | some (pc', ls', st') => some (.inl (pc', ls', st', cu, su, σ)) | none => none)
/-- 2 ^ n steps -/
def xit (f : XC → XS) : Nat → XC → XS
  | 0, c => f c
  | n + 1, c => (match xit f n c with | some (.inl c') => xit f n c' | r => r)
def xfin (k : Nat) (z : XC × Option Nat) : Option (XO × XW) := match z with
  | ((_, _, _, _, _, σ), some E) => some (.inr E, (false, σ.2))
  | ((_, _, st, _, _, σ), none) => (match xRet k, st with
    | none, [] => some (.inl none, σ)
    | some .int, [.int v] => some (.inl (some (.int v)), σ)
    | some .boolean, [.int v] => (bif decide (v = 0) || decide (v = 1) then some (.inl (some (.int v)), σ) else none)
    | some .long, [.long v] => some (.inl (some (.long v)), σ)
    | _, _ => none)
def xrun (xs : List Int32) : Nat → Nat → List Value → XW → Option (XO × XW)
  | 0, _, _, _ => none
  | d + 1, k, av, σ => (match xit (xstep (xrun xs d) xs k) 20 (0, lv_args 0 av, [], 0, 0, σ) with | some (.inr z) => xfin k z | _ => none)
end
