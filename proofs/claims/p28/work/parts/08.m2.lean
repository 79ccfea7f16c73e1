noncomputable section
/-! What holds at every method's entry, and what a method of the machine of numbers promises. -/
def xstrs : List (Nat × String) := [(87, "a character is not from 33 to 126"), (101, "the buffer is too small"), (112, "the text is not a map"), (142, "the cell has to stay free"), (160, "the cost is not from 1 to 9"), (168, "the sum of the numbers is greater than 16"), (184, "there is no such mark"), (202, "there is no such property"), (217, "the text of the map has no such index"), (243, "the mark cannot be seen"), (284, "there are no such steps"), (288, "there is no such step"), (304, "the path has no such index"), (317, "a way to the cell itself has no direction"), (362, "there is no such count"), (364, "there is no change to take back"), (372, "nothing was saved"), (393, "there is no such cell"), (395, "the cell is a wall"), (397, "there is no way"), (399, "there are too many steps for exact weights"), (401, "there is no such direction"), (403, "the number is not from 0 to 16"), (405, "the number is out of range")]
/-- the throws: exception, its class entry, the text, the constructor, whether the text goes by a wide index -/
def xthr : List (Nat × Nat × Nat × Nat × Bool) := [(0, 85, 87, 89, false), (1, 99, 101, 103, false), (0, 85, 112, 89, false), (1, 99, 142, 103, false), (0, 85, 160, 89, false), (0, 85, 168, 89, false), (2, 182, 184, 186, false), (0, 85, 202, 89, false), (2, 182, 217, 186, false), (1, 99, 243, 103, false), (0, 85, 284, 89, true), (3, 286, 288, 290, true), (2, 182, 304, 186, true), (3, 286, 317, 290, true), (0, 85, 362, 89, true), (1, 99, 364, 103, true), (1, 99, 372, 103, true), (2, 182, 393, 186, true), (1, 99, 395, 103, true), (3, 286, 397, 290, true), (1, 99, 399, 103, true), (0, 85, 184, 89, false), (0, 85, 401, 89, true), (0, 85, 403, 89, true), (0, 85, 405, 89, true)]
def xic (E : Nat) : Nat := [89, 103, 186, 290].getD E 0
def xik (E : Nat) : Nat := [85, 99, 182, 286].getD E 0
def xnames : List String := ["java/lang/RuntimeException", "java/lang/Exception"]
theorem xMe_n : ∀ x ∈ ([] : List Cond), x ∈ lw_tbl := fun _ h => absurd h List.not_mem_nil
theorem xMe_c {w : Cond} {ws t : List Cond} (n : Nat) (h : lw_tbl.drop n = w :: t) (h2 : ∀ x ∈ ws, x ∈ lw_tbl) : ∀ x ∈ w :: ws, x ∈ lw_tbl := fun x hx => (List.mem_cons.mp hx).elim (fun e => e ▸ List.mem_of_mem_drop (h ▸ List.mem_cons_self : w ∈ lw_tbl.drop n)) (h2 x)
set_option maxRecDepth 100000 in
theorem xat_0_m : ∀ w ∈ (vx_atS "RoverLocator" (xic 0) (xexc 0) xnames), w ∈ lw_tbl := xMe_c 74 rfl (xMe_c 554 rfl (xMe_c 563 rfl (xMe_c 568 rfl (xMe_c 571 rfl (xMe_c 573 rfl (xMe_c 555 rfl (xMe_c 556 rfl (xMe_c 92 rfl (xMe_c 93 rfl (xMe_c 557 rfl (xMe_c 562 rfl (xMe_c 569 rfl (xMe_c 589 rfl (xMe_c 544 rfl (xMe_c 590 rfl (xMe_c 546 rfl (xMe_c 591 rfl (xMe_c 548 rfl (xMe_c 558 rfl (xMe_c 560 rfl (xMe_c 550 rfl (xMe_c 585 rfl (xMe_c 586 rfl (xMe_c 588 rfl (xMe_c 550 rfl (xMe_c 576 rfl (xMe_c 577 rfl (xMe_c 578 rfl (xMe_c 579 rfl (xMe_c 536 rfl (xMe_c 579 rfl (xMe_c 580 rfl (xMe_c 581 rfl (xMe_c 582 rfl (xMe_c 538 rfl (xMe_c 582 rfl (xMe_c 583 rfl (xMe_c 584 rfl (xMe_c 585 rfl (xMe_c 540 rfl (xMe_c 575 rfl (xMe_c 533 rfl (xMe_c 534 rfl (xMe_c 541 rfl (xMe_c 542 rfl (xMe_c 543 rfl (xMe_c 545 rfl (xMe_c 547 rfl (xMe_c 549 rfl (xMe_c 587 rfl (xMe_c 552 rfl (xMe_c 551 rfl (xMe_n)))))))))))))))))))))))))))))))))))))))))))))))))))))
set_option maxRecDepth 100000 in
theorem xat_0_g : (vx_atS "RoverLocator" (xic 0) (xexc 0) xnames).all (fun w => xgw w && vx_ot w) = true := by decide +kernel
theorem xat_0 : (vx_atS "RoverLocator" (xic 0) (xexc 0) xnames).all (fun w => decide (w ∈ lw_tbl) && (xgw w && vx_ot w)) = true := List.all_eq_true.mpr (fun w hw => by rw [Bool.and_eq_true]; exact ⟨decide_eq_true (xat_0_m w hw), List.all_eq_true.mp xat_0_g w hw⟩)
set_option maxRecDepth 100000 in
theorem xat_h0 : (Cond.classLink "RoverLocator" (xik 0) (xexc 0) ∈ lw_tbl ∧ xgw (Cond.classLink "RoverLocator" (xik 0) (xexc 0)) = true ∧ vx_ot (Cond.classLink "RoverLocator" (xik 0) (xexc 0)) = true) ∧ (Cond.initialized (xexc 0) ∈ lw_tbl ∧ xgw (Cond.initialized (xexc 0)) = true ∧ vx_ot (Cond.initialized (xexc 0)) = true) ∧ Bundle.fit (xexc 0) = true := by decide +kernel
set_option maxRecDepth 100000 in
theorem xat_1_m : ∀ w ∈ (vx_atS "RoverLocator" (xic 1) (xexc 1) xnames), w ∈ lw_tbl := xMe_c 74 rfl (xMe_c 554 rfl (xMe_c 563 rfl (xMe_c 568 rfl (xMe_c 571 rfl (xMe_c 573 rfl (xMe_c 555 rfl (xMe_c 556 rfl (xMe_c 92 rfl (xMe_c 93 rfl (xMe_c 557 rfl (xMe_c 562 rfl (xMe_c 569 rfl (xMe_c 589 rfl (xMe_c 544 rfl (xMe_c 590 rfl (xMe_c 546 rfl (xMe_c 591 rfl (xMe_c 548 rfl (xMe_c 558 rfl (xMe_c 560 rfl (xMe_c 550 rfl (xMe_c 585 rfl (xMe_c 586 rfl (xMe_c 588 rfl (xMe_c 550 rfl (xMe_c 615 rfl (xMe_c 616 rfl (xMe_c 617 rfl (xMe_c 579 rfl (xMe_c 536 rfl (xMe_c 579 rfl (xMe_c 580 rfl (xMe_c 581 rfl (xMe_c 582 rfl (xMe_c 538 rfl (xMe_c 582 rfl (xMe_c 583 rfl (xMe_c 584 rfl (xMe_c 585 rfl (xMe_c 540 rfl (xMe_c 614 rfl (xMe_c 605 rfl (xMe_c 606 rfl (xMe_c 607 rfl (xMe_c 565 rfl (xMe_c 608 rfl (xMe_c 609 rfl (xMe_c 610 rfl (xMe_c 611 rfl (xMe_c 587 rfl (xMe_c 552 rfl (xMe_c 612 rfl (xMe_n)))))))))))))))))))))))))))))))))))))))))))))))))))))
set_option maxRecDepth 100000 in
theorem xat_1_g : (vx_atS "RoverLocator" (xic 1) (xexc 1) xnames).all (fun w => xgw w && vx_ot w) = true := by decide +kernel
theorem xat_1 : (vx_atS "RoverLocator" (xic 1) (xexc 1) xnames).all (fun w => decide (w ∈ lw_tbl) && (xgw w && vx_ot w)) = true := List.all_eq_true.mpr (fun w hw => by rw [Bool.and_eq_true]; exact ⟨decide_eq_true (xat_1_m w hw), List.all_eq_true.mp xat_1_g w hw⟩)
set_option maxRecDepth 100000 in
theorem xat_h1 : (Cond.classLink "RoverLocator" (xik 1) (xexc 1) ∈ lw_tbl ∧ xgw (Cond.classLink "RoverLocator" (xik 1) (xexc 1)) = true ∧ vx_ot (Cond.classLink "RoverLocator" (xik 1) (xexc 1)) = true) ∧ (Cond.initialized (xexc 1) ∈ lw_tbl ∧ xgw (Cond.initialized (xexc 1)) = true ∧ vx_ot (Cond.initialized (xexc 1)) = true) ∧ Bundle.fit (xexc 1) = true := by decide +kernel
set_option maxRecDepth 100000 in
theorem xat_2_m : ∀ w ∈ (vx_atS "RoverLocator" (xic 2) (xexc 2) xnames), w ∈ lw_tbl := xMe_c 74 rfl (xMe_c 554 rfl (xMe_c 563 rfl (xMe_c 568 rfl (xMe_c 571 rfl (xMe_c 573 rfl (xMe_c 555 rfl (xMe_c 556 rfl (xMe_c 92 rfl (xMe_c 93 rfl (xMe_c 557 rfl (xMe_c 562 rfl (xMe_c 569 rfl (xMe_c 589 rfl (xMe_c 544 rfl (xMe_c 590 rfl (xMe_c 546 rfl (xMe_c 591 rfl (xMe_c 548 rfl (xMe_c 558 rfl (xMe_c 560 rfl (xMe_c 550 rfl (xMe_c 585 rfl (xMe_c 586 rfl (xMe_c 588 rfl (xMe_c 550 rfl (xMe_c 682 rfl (xMe_c 683 rfl (xMe_c 684 rfl (xMe_c 579 rfl (xMe_c 536 rfl (xMe_c 579 rfl (xMe_c 580 rfl (xMe_c 581 rfl (xMe_c 582 rfl (xMe_c 538 rfl (xMe_c 582 rfl (xMe_c 583 rfl (xMe_c 584 rfl (xMe_c 585 rfl (xMe_c 540 rfl (xMe_c 681 rfl (xMe_c 672 rfl (xMe_c 673 rfl (xMe_c 674 rfl (xMe_c 566 rfl (xMe_c 675 rfl (xMe_c 676 rfl (xMe_c 677 rfl (xMe_c 678 rfl (xMe_c 587 rfl (xMe_c 552 rfl (xMe_c 679 rfl (xMe_n)))))))))))))))))))))))))))))))))))))))))))))))))))))
set_option maxRecDepth 100000 in
theorem xat_2_g : (vx_atS "RoverLocator" (xic 2) (xexc 2) xnames).all (fun w => xgw w && vx_ot w) = true := by decide +kernel
theorem xat_2 : (vx_atS "RoverLocator" (xic 2) (xexc 2) xnames).all (fun w => decide (w ∈ lw_tbl) && (xgw w && vx_ot w)) = true := List.all_eq_true.mpr (fun w hw => by rw [Bool.and_eq_true]; exact ⟨decide_eq_true (xat_2_m w hw), List.all_eq_true.mp xat_2_g w hw⟩)
set_option maxRecDepth 100000 in
theorem xat_h2 : (Cond.classLink "RoverLocator" (xik 2) (xexc 2) ∈ lw_tbl ∧ xgw (Cond.classLink "RoverLocator" (xik 2) (xexc 2)) = true ∧ vx_ot (Cond.classLink "RoverLocator" (xik 2) (xexc 2)) = true) ∧ (Cond.initialized (xexc 2) ∈ lw_tbl ∧ xgw (Cond.initialized (xexc 2)) = true ∧ vx_ot (Cond.initialized (xexc 2)) = true) ∧ Bundle.fit (xexc 2) = true := by decide +kernel
set_option maxRecDepth 100000 in
theorem xat_h3 : (Cond.classLink "RoverLocator" (xik 3) (xexc 3) ∈ lw_tbl ∧ xgw (Cond.classLink "RoverLocator" (xik 3) (xexc 3)) = true ∧ vx_ot (Cond.classLink "RoverLocator" (xik 3) (xexc 3)) = true) ∧ (Cond.initialized (xexc 3) ∈ lw_tbl ∧ xgw (Cond.initialized (xexc 3)) = true ∧ vx_ot (Cond.initialized (xexc 3)) = true) ∧ Bundle.fit (xexc 3) = true := by decide +kernel
theorem xat_n : ∀ n ∈ xnames, Bundle.fit n = true := by decide +kernel
def xlen2 (i : Instr) (len : Nat) : Bool := match i with
  | .getfield _ => Nat.beq len 3
  | .putfield _ => Nat.beq len 3
  | .new _ => Nat.beq len 3
  | .anewarray _ => Nat.beq len 3
  | .ldc_w _ => Nat.beq len 3
  | .ldc2_w _ => Nat.beq len 3
  | .invokevirtual _ => Nat.beq len 3
  | .invokespecial _ => Nat.beq len 3
  | .invokestatic _ => Nat.beq len 3
  | .newarray _ => Nat.beq len 2
  | .ldc _ => Nat.beq len 2
  | .astore _ => Nat.beq len 2
  | .astore_n _ => Nat.beq len 1
  | .iaload => Nat.beq len 1
  | .laload => Nat.beq len 1
  | .caload => Nat.beq len 1
  | .aaload => Nat.beq len 1
  | .iastore => Nat.beq len 1
  | .lastore => Nat.beq len 1
  | .castore => Nat.beq len 1
  | .aastore => Nat.beq len 1
  | .arraylength => Nat.beq len 1
  | .ireturn => Nat.beq len 1
  | .lreturn => Nat.beq len 1
  | .return_ => Nat.beq len 1
  | _ => true
def xthc (k pc : Nat) (e : XEn) : Bool := match e with
  | (.new ix, _, a, t + 1) => (match xnth xthr t with
    | some (E, ik, is, ic, wide) => decide (E = a) && decide (E < 4) && decide (ix = ik) && decide (ik = xik E) && decide (ic = xic E) && decide (xK k = 10) && decide (xHh k = []) && xstrs.any (fun q => decide (q.1 = is)) && decide (decode (xB k) (pc + 3) = .ok (.dup, 1)) && (bif wide then decide (decode (xB k) (pc + 4) = .ok (.ldc_w is, 3)) && decide (decode (xB k) (pc + 7) = .ok (.invokespecial ic, 3)) && decide (decode (xB k) (pc + 10) = .ok (.athrow, 1)) else decide (decode (xB k) (pc + 4) = .ok (.ldc is, 2)) && decide (decode (xB k) (pc + 6) = .ok (.invokespecial ic, 3)) && decide (decode (xB k) (pc + 9) = .ok (.athrow, 1)))
    | none => false)
  | _ => true
def xchk (k pc : Nat) (e : XEn) : Bool := xent k pc e && (xlen2 e.1 e.2.1 && xthc k pc e)
def xchkP (k lo n : Nat) : Bool := (List.range n).all (fun d => match xcode k (lo + d) with | some e => xchk k (lo + d) e | none => true)
def xchkR (lo n : Nat) : Bool := (List.range n).all (fun k => xchkP (lo + k) 0 (xSz (lo + k)))
theorem xblt {t : Option XEn} {pc n : Nat} {e : XEn} (h : (bif Nat.blt pc n then t else none) = some e) : pc < n := by
  cases hb : Nat.blt pc n with
  | true => exact Nat.le_of_ble_eq_true hb
  | false => rw [hb] at h; cases h
set_option maxRecDepth 100000 in
set_option maxHeartbeats 4000000 in
theorem xsz_ok : ∀ k, k < 257 → ∀ (pc : Nat) (e : XEn), xcode k pc = some e → pc < xSz k := (lt_s (lt_s (lt_s (lt_s (lt_s (lt_s (lt_s (lt_s (lt_s (lt_s (lt_s (lt_s (lt_s (lt_s (lt_s (lt_s (lt_s (lt_s (lt_s (lt_s (lt_s (lt_s (lt_s (lt_s (lt_s (lt_s (lt_s (lt_s (lt_s (lt_s (lt_s (lt_s (lt_s (lt_s (lt_s (lt_s (lt_s (lt_s (lt_s (lt_s (lt_s (lt_s (lt_s (lt_s (lt_s (lt_s (lt_s (lt_s (lt_s (lt_s (lt_s (lt_s (lt_s (lt_s (lt_s (lt_s (lt_s (lt_s (lt_s (lt_s (lt_s (lt_s (lt_s (lt_s (lt_s (lt_s (lt_s (lt_s (lt_s (lt_s (lt_s (lt_s (lt_s (lt_s (lt_s (lt_s (lt_s (lt_s (lt_s (lt_s (lt_s (lt_s (lt_s (lt_s (lt_s (lt_s (lt_s (lt_s (lt_s (lt_s (lt_s (lt_s (lt_s (lt_s (lt_s (lt_s (lt_s (lt_s (lt_s (lt_s (lt_s (lt_s (lt_s (lt_s (lt_s (lt_s (lt_s (lt_s (lt_s (lt_s (lt_s (lt_s (lt_s (lt_s (lt_s (lt_s (lt_s (lt_s (lt_s (lt_s (lt_s (lt_s (lt_s (lt_s (lt_s (lt_s (lt_s (lt_s (lt_s (lt_s (lt_s (lt_s (lt_s (lt_s (lt_s (lt_s (lt_s (lt_s (lt_s (lt_s (lt_s (lt_s (lt_s (lt_s (lt_s (lt_s (lt_s (lt_s (lt_s (lt_s (lt_s (lt_s (lt_s (lt_s (lt_s (lt_s (lt_s (lt_s (lt_s (lt_s (lt_s (lt_s (lt_s (lt_s (lt_s (lt_s (lt_s (lt_s (lt_s (lt_s (lt_s (lt_s (lt_s (lt_s (lt_s (lt_s (lt_s (lt_s (lt_s (lt_s (lt_s (lt_s (lt_s (lt_s (lt_s (lt_s (lt_s (lt_s (lt_s (lt_s (lt_s (lt_s (lt_s (lt_s (lt_s (lt_s (lt_s (lt_s (lt_s (lt_s (lt_s (lt_s (lt_s (lt_s (lt_s (lt_s (lt_s (lt_s (lt_s (lt_s (lt_s (lt_s (lt_s (lt_s (lt_s (lt_s (lt_s (lt_s (lt_s (lt_s (lt_s (lt_s (lt_s (lt_s (lt_s (lt_s (lt_s (lt_s (lt_s (lt_s (lt_s (lt_s (lt_s (lt_s (lt_s (lt_s (lt_s (lt_s (lt_s (lt_s (lt_s (lt_s (lt_s (lt_s (lt_s (lt_s (lt_s (lt_s (lt_s (lt_s (lt_s (lt_s (lt_s (lt_s (lt_s (lt_s (lt_s lt_0 (fun _ _ h => xblt h)) (fun _ _ h => xblt h)) (fun _ _ h => xblt h)) (fun _ _ h => xblt h)) (fun _ _ h => xblt h)) (fun _ _ h => xblt h)) (fun _ _ h => xblt h)) (fun _ _ h => xblt h)) (fun _ _ h => xblt h)) (fun _ _ h => xblt h)) (fun _ _ h => xblt h)) (fun _ _ h => xblt h)) (fun _ _ h => xblt h)) (fun _ _ h => xblt h)) (fun _ _ h => xblt h)) (fun _ _ h => xblt h)) (fun _ _ h => xblt h)) (fun _ _ h => xblt h)) (fun _ _ h => xblt h)) (fun _ _ h => xblt h)) (fun _ _ h => xblt h)) (fun _ _ h => xblt h)) (fun _ _ h => xblt h)) (fun _ _ h => xblt h)) (fun _ _ h => xblt h)) (fun _ _ h => xblt h)) (fun _ _ h => xblt h)) (fun _ _ h => xblt h)) (fun _ _ h => xblt h)) (fun _ _ h => xblt h)) (fun _ _ h => xblt h)) (fun _ _ h => xblt h)) (fun _ _ h => xblt h)) (fun _ _ h => xblt h)) (fun _ _ h => xblt h)) (fun _ _ h => xblt h)) (fun _ _ h => xblt h)) (fun _ _ h => xblt h)) (fun _ _ h => xblt h)) (fun _ _ h => xblt h)) (fun _ _ h => xblt h)) (fun _ _ h => xblt h)) (fun _ _ h => xblt h)) (fun _ _ h => xblt h)) (fun _ _ h => xblt h)) (fun _ _ h => xblt h)) (fun _ _ h => xblt h)) (fun _ _ h => xblt h)) (fun _ _ h => xblt h)) (fun _ _ h => xblt h)) (fun _ _ h => xblt h)) (fun _ _ h => xblt h)) (fun _ _ h => xblt h)) (fun _ _ h => xblt h)) (fun _ _ h => xblt h)) (fun _ _ h => xblt h)) (fun _ _ h => xblt h)) (fun _ _ h => xblt h)) (fun _ _ h => xblt h)) (fun _ _ h => xblt h)) (fun _ _ h => xblt h)) (fun _ _ h => xblt h)) (fun _ _ h => xblt h)) (fun _ _ h => xblt h)) (fun _ _ h => xblt h)) (fun _ _ h => xblt h)) (fun _ _ h => xblt h)) (fun _ _ h => xblt h)) (fun _ _ h => xblt h)) (fun _ _ h => xblt h)) (fun _ _ h => xblt h)) (fun _ _ h => xblt h)) (fun _ _ h => xblt h)) (fun _ _ h => xblt h)) (fun _ _ h => xblt h)) (fun _ _ h => xblt h)) (fun _ _ h => xblt h)) (fun _ _ h => xblt h)) (fun _ _ h => xblt h)) (fun _ _ h => xblt h)) (fun _ _ h => xblt h)) (fun _ _ h => xblt h)) (fun _ _ h => xblt h)) (fun _ _ h => xblt h)) (fun _ _ h => xblt h)) (fun _ _ h => xblt h)) (fun _ _ h => xblt h)) (fun _ _ h => xblt h)) (fun _ _ h => xblt h)) (fun _ _ h => xblt h)) (fun _ _ h => xblt h)) (fun _ _ h => xblt h)) (fun _ _ h => xblt h)) (fun _ _ h => xblt h)) (fun _ _ h => xblt h)) (fun _ _ h => xblt h)) (fun _ _ h => xblt h)) (fun _ _ h => xblt h)) (fun _ _ h => xblt h)) (fun _ _ h => xblt h)) (fun _ _ h => xblt h)) (fun _ _ h => xblt h)) (fun _ _ h => xblt h)) (fun _ _ h => xblt h)) (fun _ _ h => xblt h)) (fun _ _ h => xblt h)) (fun _ _ h => xblt h)) (fun _ _ h => xblt h)) (fun _ _ h => xblt h)) (fun _ _ h => xblt h)) (fun _ _ h => xblt h)) (fun _ _ h => xblt h)) (fun _ _ h => xblt h)) (fun _ _ h => xblt h)) (fun _ _ h => xblt h)) (fun _ _ h => xblt h)) (fun _ _ h => xblt h)) (fun _ _ h => xblt h)) (fun _ _ h => xblt h)) (fun _ _ h => xblt h)) (fun _ _ h => xblt h)) (fun _ _ h => xblt h)) (fun _ _ h => xblt h)) (fun _ _ h => xblt h)) (fun _ _ h => xblt h)) (fun _ _ h => xblt h)) (fun _ _ h => xblt h)) (fun _ _ h => xblt h)) (fun _ _ h => xblt h)) (fun _ _ h => xblt h)) (fun _ _ h => xblt h)) (fun _ _ h => xblt h)) (fun _ _ h => xblt h)) (fun _ _ h => xblt h)) (fun _ _ h => xblt h)) (fun _ _ h => xblt h)) (fun _ _ h => xblt h)) (fun _ _ h => xblt h)) (fun _ _ h => xblt h)) (fun _ _ h => xblt h)) (fun _ _ h => xblt h)) (fun _ _ h => xblt h)) (fun _ _ h => xblt h)) (fun _ _ h => xblt h)) (fun _ _ h => xblt h)) (fun _ _ h => xblt h)) (fun _ _ h => xblt h)) (fun _ _ h => xblt h)) (fun _ _ h => xblt h)) (fun _ _ h => xblt h)) (fun _ _ h => xblt h)) (fun _ _ h => xblt h)) (fun _ _ h => xblt h)) (fun _ _ h => xblt h)) (fun _ _ h => xblt h)) (fun _ _ h => xblt h)) (fun _ _ h => xblt h)) (fun _ _ h => xblt h)) (fun _ _ h => xblt h)) (fun _ _ h => xblt h)) (fun _ _ h => xblt h)) (fun _ _ h => xblt h)) (fun _ _ h => xblt h)) (fun _ _ h => xblt h)) (fun _ _ h => xblt h)) (fun _ _ h => xblt h)) (fun _ _ h => xblt h)) (fun _ _ h => xblt h)) (fun _ _ h => xblt h)) (fun _ _ h => xblt h)) (fun _ _ h => xblt h)) (fun _ _ h => xblt h)) (fun _ _ h => xblt h)) (fun _ _ h => xblt h)) (fun _ _ h => xblt h)) (fun _ _ h => xblt h)) (fun _ _ h => xblt h)) (fun _ _ h => xblt h)) (fun _ _ h => xblt h)) (fun _ _ h => xblt h)) (fun _ _ h => xblt h)) (fun _ _ h => xblt h)) (fun _ _ h => xblt h)) (fun _ _ h => xblt h)) (fun _ _ h => xblt h)) (fun _ _ h => xblt h)) (fun _ _ h => xblt h)) (fun _ _ h => xblt h)) (fun _ _ h => xblt h)) (fun _ _ h => xblt h)) (fun _ _ h => xblt h)) (fun _ _ h => xblt h)) (fun _ _ h => xblt h)) (fun _ _ h => xblt h)) (fun _ _ h => xblt h)) (fun _ _ h => xblt h)) (fun _ _ h => xblt h)) (fun _ _ h => xblt h)) (fun _ _ h => xblt h)) (fun _ _ h => xblt h)) (fun _ _ h => xblt h)) (fun _ _ h => xblt h)) (fun _ _ h => xblt h)) (fun _ _ h => xblt h)) (fun _ _ h => xblt h)) (fun _ _ h => xblt h)) (fun _ _ h => xblt h)) (fun _ _ h => xblt h)) (fun _ _ h => xblt h)) (fun _ _ h => xblt h)) (fun _ _ h => xblt h)) (fun _ _ h => xblt h)) (fun _ _ h => xblt h)) (fun _ _ h => xblt h)) (fun _ _ h => xblt h)) (fun _ _ h => xblt h)) (fun _ _ h => xblt h)) (fun _ _ h => xblt h)) (fun _ _ h => xblt h)) (fun _ _ h => xblt h)) (fun _ _ h => xblt h)) (fun _ _ h => xblt h)) (fun _ _ h => xblt h)) (fun _ _ h => xblt h)) (fun _ _ h => xblt h)) (fun _ _ h => xblt h)) (fun _ _ h => xblt h)) (fun _ _ h => xblt h)) (fun _ _ h => xblt h)) (fun _ _ h => xblt h)) (fun _ _ h => xblt h)) (fun _ _ h => xblt h)) (fun _ _ h => xblt h)) (fun _ _ h => xblt h)) (fun _ _ h => xblt h)) (fun _ _ h => xblt h)) (fun _ _ h => xblt h)) (fun _ _ h => xblt h)) (fun _ _ h => xblt h)) (fun _ _ h => xblt h)) (fun _ _ h => xblt h)) (fun _ _ h => xblt h)) (fun _ _ h => xblt h)) (fun _ _ h => xblt h)) (fun _ _ h => xblt h)) (fun _ _ h => xblt h)) (fun _ _ h => xblt h)) (fun _ _ h => xblt h)) (fun _ _ h => xblt h)) (fun _ _ h => xblt h)) (fun _ _ h => xblt h)) (fun _ _ h => xblt h)) (fun _ _ h => xblt h)) (fun _ _ h => xblt h)) (fun _ _ h => xblt h)) (fun _ _ h => xblt h)) (fun _ _ h => xblt h))
theorem xcode_k {k pc : Nat} {e : XEn} (h : xcode k pc = some e) : k < 257 := by
  unfold xcode at h
  cases hb : Nat.blt k 257 with
  | true => exact Nat.le_of_ble_eq_true hb
  | false => rw [hb] at h; cases h
end
noncomputable section
/-! Decoding by the bytes from a place on; links by trees. -/
def xG (pc : Nat) : { G : Nat → Jvm.ClassFile.Decoder Jvm.ClassFile.Instr // Jvm.ClassFile.Decoder.instr pc = (Jvm.ClassFile.Reader.u1 >>= G) } := ⟨_, rfl⟩
theorem xbnd {α β : Type} {x : Jvm.ClassFile.Decoder α} {f : α → Jvm.ClassFile.Decoder β} {code : ByteArray} {p q : Nat} {a : α} (h : x code p = .ok (a, q)) : (x >>= f) code p = f a code q := by
  show Except.bind (x code p) (fun r => f r.1 code r.2) = _
  rw [h]
  rfl
theorem xru1 {code : ByteArray} {p : Nat} {b : UInt8} (h : code.data.toList[p]? = some b) : (Jvm.ClassFile.Reader.u1 : Jvm.ClassFile.Decoder Nat) code p = .ok (b.toNat, p + 1) := by
  obtain ⟨hp, hb⟩ := List.getElem?_eq_some_iff.mp h
  have hp2 : p < code.size := hp
  have e : code[p] = b := hb
  unfold Jvm.ClassFile.Reader.u1
  show ((if h : p < code.size then (set (p + 1) >>= fun _ => Pure.pure code[p].toNat) else throw (Jvm.ClassFile.HasTruncated.truncated p)) : Jvm.ClassFile.Decoder Nat) code p = _
  rw [dif_pos hp2, e]
  rfl
theorem xru2 {code : ByteArray} {p : Nat} {a b : UInt8} (h : code.data.toList[p]? = some a) (h2 : code.data.toList[p + 1]? = some b) : (Jvm.ClassFile.Reader.u2 : Jvm.ClassFile.Decoder Nat) code p = .ok (a.toNat * 256 + b.toNat, p + 2) := by
  show (Jvm.ClassFile.Reader.u1 >>= fun hi => Jvm.ClassFile.Reader.u1 >>= fun lo => Pure.pure (hi * 256 + lo) : Jvm.ClassFile.Decoder Nat) code p = _
  rw [xbnd (xru1 h), xbnd (xru1 h2)]
  rfl
theorem xrs1 {code : ByteArray} {p : Nat} {b : UInt8} (h : code.data.toList[p]? = some b) : (Jvm.ClassFile.Reader.s1 : Jvm.ClassFile.Decoder Int) code p = .ok (Jvm.ClassFile.Reader.signed 8 b.toNat, p + 1) := by
  show Except.bind ((Jvm.ClassFile.Reader.u1 : Jvm.ClassFile.Decoder Nat) code p) (fun r => .ok (Jvm.ClassFile.Reader.signed 8 r.1, r.2)) = _
  rw [xru1 h]
  rfl
theorem xrs2 {code : ByteArray} {p : Nat} {a b : UInt8} (h : code.data.toList[p]? = some a) (h2 : code.data.toList[p + 1]? = some b) : (Jvm.ClassFile.Reader.s2 : Jvm.ClassFile.Decoder Int) code p = .ok (Jvm.ClassFile.Reader.signed 16 (a.toNat * 256 + b.toNat), p + 2) := by
  show Except.bind ((Jvm.ClassFile.Reader.u2 : Jvm.ClassFile.Decoder Nat) code p) (fun r => .ok (Jvm.ClassFile.Reader.signed 16 r.1, r.2)) = _
  rw [xru2 h h2]
  rfl
theorem xdc {code : ByteArray} {p q m : Nat} {i : Jvm.ClassFile.Instr} (h : Jvm.ClassFile.Decoder.instr p code p = .ok (i, q)) (hq : q - p = m) : decode code p = .ok (i, m) := by
  subst hq
  unfold decode
  show Except.bind (Jvm.ClassFile.Decoder.instr p code p) (fun r => .ok (r.1, r.2 - p)) = _
  rw [h]
  rfl
theorem xd0 {code : ByteArray} {p : Nat} {b : UInt8} {i : Jvm.ClassFile.Instr} (h : code.data.toList[p]? = some b) (hG : (xG p).1 b.toNat = Pure.pure i) : decode code p = .ok (i, 1) :=
  xdc (q := p + 1) (by rw [(xG p).2, xbnd (xru1 h), hG]; rfl) (by omega)
theorem xdu1 {code : ByteArray} {p : Nat} {b a : UInt8} {f : Nat → Jvm.ClassFile.Instr} (h : code.data.toList[p]? = some b) (h1 : code.data.toList[p + 1]? = some a) (hG : (xG p).1 b.toNat = (Jvm.ClassFile.Reader.u1 >>= fun x => Pure.pure (f x))) : decode code p = .ok (f a.toNat, 2) :=
  xdc (q := p + 1 + 1) (by rw [(xG p).2, xbnd (xru1 h), hG, xbnd (xru1 h1)]; rfl) (by omega)
theorem xdu2 {code : ByteArray} {p : Nat} {b a c : UInt8} {f : Nat → Jvm.ClassFile.Instr} (h : code.data.toList[p]? = some b) (h1 : code.data.toList[p + 1]? = some a) (h2 : code.data.toList[p + 1 + 1]? = some c) (hG : (xG p).1 b.toNat = (Jvm.ClassFile.Reader.u2 >>= fun x => Pure.pure (f x))) : decode code p = .ok (f (a.toNat * 256 + c.toNat), 3) :=
  xdc (q := p + 1 + 2) (by rw [(xG p).2, xbnd (xru1 h), hG, xbnd (xru2 h1 h2)]; rfl) (by omega)
theorem xds1 {code : ByteArray} {p : Nat} {b a : UInt8} {f : Int → Jvm.ClassFile.Instr} (h : code.data.toList[p]? = some b) (h1 : code.data.toList[p + 1]? = some a) (hG : (xG p).1 b.toNat = (Jvm.ClassFile.Reader.s1 >>= fun x => Pure.pure (f x))) : decode code p = .ok (f (Jvm.ClassFile.Reader.signed 8 a.toNat), 2) :=
  xdc (q := p + 1 + 1) (by rw [(xG p).2, xbnd (xru1 h), hG, xbnd (xrs1 h1)]; rfl) (by omega)
theorem xds2 {code : ByteArray} {p : Nat} {b a c : UInt8} {f : Int → Jvm.ClassFile.Instr} (h : code.data.toList[p]? = some b) (h1 : code.data.toList[p + 1]? = some a) (h2 : code.data.toList[p + 1 + 1]? = some c) (hG : (xG p).1 b.toNat = (Jvm.ClassFile.Reader.s2 >>= fun x => Pure.pure (f x))) : decode code p = .ok (f (Jvm.ClassFile.Reader.signed 16 (a.toNat * 256 + c.toNat)), 3) :=
  xdc (q := p + 1 + 2) (by rw [(xG p).2, xbnd (xru1 h), hG, xbnd (xrs2 h1 h2)]; rfl) (by omega)
theorem xdii {code : ByteArray} {p : Nat} {b a c : UInt8} (h : code.data.toList[p]? = some b) (h1 : code.data.toList[p + 1]? = some a) (h2 : code.data.toList[p + 1 + 1]? = some c) (hG : (xG p).1 b.toNat = (Jvm.ClassFile.Reader.u1 >>= fun x => Jvm.ClassFile.Reader.s1 >>= fun y => Pure.pure (.iinc x y))) : decode code p = .ok (.iinc a.toNat (Jvm.ClassFile.Reader.signed 8 c.toNat), 3) :=
  xdc (q := p + 1 + 1 + 1) (by rw [(xG p).2, xbnd (xru1 h), hG, xbnd (xru1 h1), xbnd (xrs1 h2)]; rfl) (by omega)
theorem xdrop {L : List UInt8} {p : Nat} {b : UInt8} {r : List UInt8} (h : L.drop p = b :: r) : L[p]? = some b ∧ (∀ {c : UInt8} {r2 : List UInt8}, r = c :: r2 → L[p + 1]? = some c ∧ ∀ {e : UInt8} {r3 : List UInt8}, r2 = e :: r3 → L[p + 1 + 1]? = some e) := by
  have g : ∀ j, L[p + j]? = (b :: r)[j]? := fun j => by rw [← h, List.getElem?_drop]
  refine ⟨g 0, ?_⟩
  rintro c r2 rfl
  refine ⟨g 1, ?_⟩
  rintro e r3 rfl
  exact g 2
def xcnd (q : Jvm.ClassFile.Cond) : Nat := match q with | .eq => 0 | .ne => 1 | .lt => 2 | .ge => 3 | .gt => 4 | .le => 5
def xb1 (L : List UInt8) (v : Nat) : Bool := match L with | c :: _ => Nat.beq v c.toNat | _ => false
def xb2 (L : List UInt8) (v : Nat) : Bool := match L with | c :: d :: _ => Nat.beq v (c.toNat * 256 + d.toNat) | _ => false
def xb3 (L : List UInt8) (v : Int) : Bool := match L with | c :: d :: _ => decide (v = Jvm.ClassFile.Reader.signed 16 (c.toNat * 256 + d.toNat)) | _ => false
def xb4 (L : List UInt8) (v : Int) : Bool := match L with | c :: _ => decide (v = Jvm.ClassFile.Reader.signed 8 c.toNat) | _ => false
def xb5 (L : List UInt8) (u : Nat) (v : Int) : Bool := match L with | c :: d :: _ => Nat.beq u c.toNat && decide (v = Jvm.ClassFile.Reader.signed 8 d.toNat) | _ => false
theorem xb1_ok {L : List UInt8} {v : Nat} (h : xb1 L v = true) : ∃ c r, L = c :: r ∧ v = c.toNat := by
  match L, h with
  | c :: r, h => exact ⟨c, r, rfl, Nat.eq_of_beq_eq_true h⟩
theorem xb2_ok {L : List UInt8} {v : Nat} (h : xb2 L v = true) : ∃ c d r, L = c :: d :: r ∧ v = c.toNat * 256 + d.toNat := by
  match L, h with
  | c :: d :: r, h => exact ⟨c, d, r, rfl, Nat.eq_of_beq_eq_true h⟩
theorem xb3_ok {L : List UInt8} {v : Int} (h : xb3 L v = true) : ∃ c d r, L = c :: d :: r ∧ v = Jvm.ClassFile.Reader.signed 16 (c.toNat * 256 + d.toNat) := by
  match L, h with
  | c :: d :: r, h => exact ⟨c, d, r, rfl, of_decide_eq_true h⟩
theorem xb4_ok {L : List UInt8} {v : Int} (h : xb4 L v = true) : ∃ c r, L = c :: r ∧ v = Jvm.ClassFile.Reader.signed 8 c.toNat := by
  match L, h with
  | c :: r, h => exact ⟨c, r, rfl, of_decide_eq_true h⟩
theorem xb5_ok {L : List UInt8} {u : Nat} {v : Int} (h : xb5 L u v = true) : ∃ c d r, L = c :: d :: r ∧ u = c.toNat ∧ v = Jvm.ClassFile.Reader.signed 8 d.toNat := by
  match L, h with
  | c :: d :: r, h =>
    have h2 := (Bool.and_eq_true _ _).mp h
    exact ⟨c, d, r, rfl, Nat.eq_of_beq_eq_true h2.1, of_decide_eq_true h2.2⟩
def xfd (b : Nat) (L : List UInt8) (i : Jvm.ClassFile.Instr) (len : Nat) : Bool := match i with
  | .iadd => Nat.beq b 96 && Nat.beq len 1
  | .iaload => Nat.beq b 46 && Nat.beq len 1
  | .ireturn => Nat.beq b 172 && Nat.beq len 1
  | .return_ => Nat.beq b 177 && Nat.beq len 1
  | .dup => Nat.beq b 89 && Nat.beq len 1
  | .i2l => Nat.beq b 133 && Nat.beq len 1
  | .iastore => Nat.beq b 79 && Nat.beq len 1
  | .lastore => Nat.beq b 80 && Nat.beq len 1
  | .laload => Nat.beq b 47 && Nat.beq len 1
  | .imul => Nat.beq b 104 && Nat.beq len 1
  | .isub => Nat.beq b 100 && Nat.beq len 1
  | .ladd => Nat.beq b 97 && Nat.beq len 1
  | .lmul => Nat.beq b 105 && Nat.beq len 1
  | .ldiv => Nat.beq b 109 && Nat.beq len 1
  | .lrem => Nat.beq b 113 && Nat.beq len 1
  | .idiv => Nat.beq b 108 && Nat.beq len 1
  | .irem => Nat.beq b 112 && Nat.beq len 1
  | .lcmp => Nat.beq b 148 && Nat.beq len 1
  | .arraylength => Nat.beq b 190 && Nat.beq len 1
  | .lreturn => Nat.beq b 173 && Nat.beq len 1
  | .athrow => Nat.beq b 191 && Nat.beq len 1
  | .aaload => Nat.beq b 50 && Nat.beq len 1
  | .l2i => Nat.beq b 136 && Nat.beq len 1
  | .iand => Nat.beq b 126 && Nat.beq len 1
  | .ineg => Nat.beq b 116 && Nat.beq len 1
  | .caload => Nat.beq b 52 && Nat.beq len 1
  | .castore => Nat.beq b 85 && Nat.beq len 1
  | .lsub => Nat.beq b 101 && Nat.beq len 1
  | .pop => Nat.beq b 87 && Nat.beq len 1
  | .aload_n v => Nat.beq b (42 + v.val) && Nat.beq len 1
  | .iload_n v => Nat.beq b (26 + v.val) && Nat.beq len 1
  | .istore_n v => Nat.beq b (59 + v.val) && Nat.beq len 1
  | .astore_n v => Nat.beq b (75 + v.val) && Nat.beq len 1
  | .lload_n v => Nat.beq b (30 + v.val) && Nat.beq len 1
  | .lstore_n v => Nat.beq b (63 + v.val) && Nat.beq len 1
  | .iconst v => (decide (v = (b : Int) - 3) && (Nat.ble 2 b && Nat.ble b 8)) && Nat.beq len 1
  | .iload v => Nat.beq b 21 && (xb1 L v && Nat.beq len 2)
  | .istore v => Nat.beq b 54 && (xb1 L v && Nat.beq len 2)
  | .lload v => Nat.beq b 22 && (xb1 L v && Nat.beq len 2)
  | .lstore v => Nat.beq b 55 && (xb1 L v && Nat.beq len 2)
  | .aload v => Nat.beq b 25 && (xb1 L v && Nat.beq len 2)
  | .astore v => Nat.beq b 58 && (xb1 L v && Nat.beq len 2)
  | .ldc v => Nat.beq b 18 && (xb1 L v && Nat.beq len 2)
  | .getfield v => Nat.beq b 180 && (xb2 L v && Nat.beq len 3)
  | .putfield v => Nat.beq b 181 && (xb2 L v && Nat.beq len 3)
  | .invokevirtual v => Nat.beq b 182 && (xb2 L v && Nat.beq len 3)
  | .invokespecial v => Nat.beq b 183 && (xb2 L v && Nat.beq len 3)
  | .invokestatic v => Nat.beq b 184 && (xb2 L v && Nat.beq len 3)
  | .new v => Nat.beq b 187 && (xb2 L v && Nat.beq len 3)
  | .ldc_w v => Nat.beq b 19 && (xb2 L v && Nat.beq len 3)
  | .ldc2_w v => Nat.beq b 20 && (xb2 L v && Nat.beq len 3)
  | .goto v => Nat.beq b 167 && (xb3 L v && Nat.beq len 3)
  | .ifCond q v => Nat.beq b (153 + xcnd q) && (xb3 L v && Nat.beq len 3)
  | .if_icmp q v => Nat.beq b (159 + xcnd q) && (xb3 L v && Nat.beq len 3)
  | .bipush v => Nat.beq b 16 && (xb4 L v && Nat.beq len 2)
  | .iinc u v => Nat.beq b 132 && (xb5 L u v && Nat.beq len 3)
  | _ => false
theorem xfd_ok {code : ByteArray} {p : Nat} {b : UInt8} {L : List UInt8} {i : Jvm.ClassFile.Instr} {len : Nat} (h0 : code.data.toList.drop p = b :: L) (h : xfd b.toNat L i len = true) : decode code p = .ok (i, len) := by
  obtain ⟨g0, g1⟩ := xdrop h0
  unfold xfd at h
  split at h
  · rw [Bool.and_eq_true] at h
    have hb := Nat.eq_of_beq_eq_true h.1
    have hl := Nat.eq_of_beq_eq_true h.2
    subst hl
    exact xd0 g0 (by rw [hb]; rfl)
  · rw [Bool.and_eq_true] at h
    have hb := Nat.eq_of_beq_eq_true h.1
    have hl := Nat.eq_of_beq_eq_true h.2
    subst hl
    exact xd0 g0 (by rw [hb]; rfl)
  · rw [Bool.and_eq_true] at h
    have hb := Nat.eq_of_beq_eq_true h.1
    have hl := Nat.eq_of_beq_eq_true h.2
    subst hl
    exact xd0 g0 (by rw [hb]; rfl)
  · rw [Bool.and_eq_true] at h
    have hb := Nat.eq_of_beq_eq_true h.1
    have hl := Nat.eq_of_beq_eq_true h.2
    subst hl
    exact xd0 g0 (by rw [hb]; rfl)
  · rw [Bool.and_eq_true] at h
    have hb := Nat.eq_of_beq_eq_true h.1
    have hl := Nat.eq_of_beq_eq_true h.2
    subst hl
    exact xd0 g0 (by rw [hb]; rfl)
  · rw [Bool.and_eq_true] at h
    have hb := Nat.eq_of_beq_eq_true h.1
    have hl := Nat.eq_of_beq_eq_true h.2
    subst hl
    exact xd0 g0 (by rw [hb]; rfl)
  · rw [Bool.and_eq_true] at h
    have hb := Nat.eq_of_beq_eq_true h.1
    have hl := Nat.eq_of_beq_eq_true h.2
    subst hl
    exact xd0 g0 (by rw [hb]; rfl)
  · rw [Bool.and_eq_true] at h
    have hb := Nat.eq_of_beq_eq_true h.1
    have hl := Nat.eq_of_beq_eq_true h.2
    subst hl
    exact xd0 g0 (by rw [hb]; rfl)
  · rw [Bool.and_eq_true] at h
    have hb := Nat.eq_of_beq_eq_true h.1
    have hl := Nat.eq_of_beq_eq_true h.2
    subst hl
    exact xd0 g0 (by rw [hb]; rfl)
  · rw [Bool.and_eq_true] at h
    have hb := Nat.eq_of_beq_eq_true h.1
    have hl := Nat.eq_of_beq_eq_true h.2
    subst hl
    exact xd0 g0 (by rw [hb]; rfl)
  · rw [Bool.and_eq_true] at h
    have hb := Nat.eq_of_beq_eq_true h.1
    have hl := Nat.eq_of_beq_eq_true h.2
    subst hl
    exact xd0 g0 (by rw [hb]; rfl)
  · rw [Bool.and_eq_true] at h
    have hb := Nat.eq_of_beq_eq_true h.1
    have hl := Nat.eq_of_beq_eq_true h.2
    subst hl
    exact xd0 g0 (by rw [hb]; rfl)
  · rw [Bool.and_eq_true] at h
    have hb := Nat.eq_of_beq_eq_true h.1
    have hl := Nat.eq_of_beq_eq_true h.2
    subst hl
    exact xd0 g0 (by rw [hb]; rfl)
  · rw [Bool.and_eq_true] at h
    have hb := Nat.eq_of_beq_eq_true h.1
    have hl := Nat.eq_of_beq_eq_true h.2
    subst hl
    exact xd0 g0 (by rw [hb]; rfl)
  · rw [Bool.and_eq_true] at h
    have hb := Nat.eq_of_beq_eq_true h.1
    have hl := Nat.eq_of_beq_eq_true h.2
    subst hl
    exact xd0 g0 (by rw [hb]; rfl)
  · rw [Bool.and_eq_true] at h
    have hb := Nat.eq_of_beq_eq_true h.1
    have hl := Nat.eq_of_beq_eq_true h.2
    subst hl
    exact xd0 g0 (by rw [hb]; rfl)
  · rw [Bool.and_eq_true] at h
    have hb := Nat.eq_of_beq_eq_true h.1
    have hl := Nat.eq_of_beq_eq_true h.2
    subst hl
    exact xd0 g0 (by rw [hb]; rfl)
  · rw [Bool.and_eq_true] at h
    have hb := Nat.eq_of_beq_eq_true h.1
    have hl := Nat.eq_of_beq_eq_true h.2
    subst hl
    exact xd0 g0 (by rw [hb]; rfl)
  · rw [Bool.and_eq_true] at h
    have hb := Nat.eq_of_beq_eq_true h.1
    have hl := Nat.eq_of_beq_eq_true h.2
    subst hl
    exact xd0 g0 (by rw [hb]; rfl)
  · rw [Bool.and_eq_true] at h
    have hb := Nat.eq_of_beq_eq_true h.1
    have hl := Nat.eq_of_beq_eq_true h.2
    subst hl
    exact xd0 g0 (by rw [hb]; rfl)
  · rw [Bool.and_eq_true] at h
    have hb := Nat.eq_of_beq_eq_true h.1
    have hl := Nat.eq_of_beq_eq_true h.2
    subst hl
    exact xd0 g0 (by rw [hb]; rfl)
  · rw [Bool.and_eq_true] at h
    have hb := Nat.eq_of_beq_eq_true h.1
    have hl := Nat.eq_of_beq_eq_true h.2
    subst hl
    exact xd0 g0 (by rw [hb]; rfl)
  · rw [Bool.and_eq_true] at h
    have hb := Nat.eq_of_beq_eq_true h.1
    have hl := Nat.eq_of_beq_eq_true h.2
    subst hl
    exact xd0 g0 (by rw [hb]; rfl)
  · rw [Bool.and_eq_true] at h
    have hb := Nat.eq_of_beq_eq_true h.1
    have hl := Nat.eq_of_beq_eq_true h.2
    subst hl
    exact xd0 g0 (by rw [hb]; rfl)
  · rw [Bool.and_eq_true] at h
    have hb := Nat.eq_of_beq_eq_true h.1
    have hl := Nat.eq_of_beq_eq_true h.2
    subst hl
    exact xd0 g0 (by rw [hb]; rfl)
  · rw [Bool.and_eq_true] at h
    have hb := Nat.eq_of_beq_eq_true h.1
    have hl := Nat.eq_of_beq_eq_true h.2
    subst hl
    exact xd0 g0 (by rw [hb]; rfl)
  · rw [Bool.and_eq_true] at h
    have hb := Nat.eq_of_beq_eq_true h.1
    have hl := Nat.eq_of_beq_eq_true h.2
    subst hl
    exact xd0 g0 (by rw [hb]; rfl)
  · rw [Bool.and_eq_true] at h
    have hb := Nat.eq_of_beq_eq_true h.1
    have hl := Nat.eq_of_beq_eq_true h.2
    subst hl
    exact xd0 g0 (by rw [hb]; rfl)
  · rw [Bool.and_eq_true] at h
    have hb := Nat.eq_of_beq_eq_true h.1
    have hl := Nat.eq_of_beq_eq_true h.2
    subst hl
    exact xd0 g0 (by rw [hb]; rfl)
  · rename_i v
    rw [Bool.and_eq_true] at h
    have hb := Nat.eq_of_beq_eq_true h.1
    have hl := Nat.eq_of_beq_eq_true h.2
    subst hl
    refine xd0 g0 ?_
    rw [hb]
    match v with
    | 0 => rfl
    | 1 => rfl
    | 2 => rfl
    | 3 => rfl
  · rename_i v
    rw [Bool.and_eq_true] at h
    have hb := Nat.eq_of_beq_eq_true h.1
    have hl := Nat.eq_of_beq_eq_true h.2
    subst hl
    refine xd0 g0 ?_
    rw [hb]
    match v with
    | 0 => rfl
    | 1 => rfl
    | 2 => rfl
    | 3 => rfl
  · rename_i v
    rw [Bool.and_eq_true] at h
    have hb := Nat.eq_of_beq_eq_true h.1
    have hl := Nat.eq_of_beq_eq_true h.2
    subst hl
    refine xd0 g0 ?_
    rw [hb]
    match v with
    | 0 => rfl
    | 1 => rfl
    | 2 => rfl
    | 3 => rfl
  · rename_i v
    rw [Bool.and_eq_true] at h
    have hb := Nat.eq_of_beq_eq_true h.1
    have hl := Nat.eq_of_beq_eq_true h.2
    subst hl
    refine xd0 g0 ?_
    rw [hb]
    match v with
    | 0 => rfl
    | 1 => rfl
    | 2 => rfl
    | 3 => rfl
  · rename_i v
    rw [Bool.and_eq_true] at h
    have hb := Nat.eq_of_beq_eq_true h.1
    have hl := Nat.eq_of_beq_eq_true h.2
    subst hl
    refine xd0 g0 ?_
    rw [hb]
    match v with
    | 0 => rfl
    | 1 => rfl
    | 2 => rfl
    | 3 => rfl
  · rename_i v
    rw [Bool.and_eq_true] at h
    have hb := Nat.eq_of_beq_eq_true h.1
    have hl := Nat.eq_of_beq_eq_true h.2
    subst hl
    refine xd0 g0 ?_
    rw [hb]
    match v with
    | 0 => rfl
    | 1 => rfl
    | 2 => rfl
    | 3 => rfl
  · rename_i v
    rw [Bool.and_eq_true, Bool.and_eq_true, Bool.and_eq_true] at h
    have hl := Nat.eq_of_beq_eq_true h.2
    have hv := of_decide_eq_true h.1.1
    have hb1 := Nat.le_of_ble_eq_true h.1.2.1
    have hb2 := Nat.le_of_ble_eq_true h.1.2.2
    subst hl
    refine xd0 g0 ?_
    generalize hB : b.toNat = B at hv hb1 hb2
    subst hv
    have hB2 : B = 2 ∨ B = 3 ∨ B = 4 ∨ B = 5 ∨ B = 6 ∨ B = 7 ∨ B = 8 := by omega
    exact hB2.elim (fun e => by subst e; rfl) (fun hB2 => hB2.elim (fun e => by subst e; rfl) (fun hB2 => hB2.elim (fun e => by subst e; rfl) (fun hB2 => hB2.elim (fun e => by subst e; rfl) (fun hB2 => hB2.elim (fun e => by subst e; rfl) (fun hB2 => hB2.elim (fun e => by subst e; rfl) (fun e => by subst e; rfl))))))
  · rename_i v
    rw [Bool.and_eq_true, Bool.and_eq_true] at h
    have hb := Nat.eq_of_beq_eq_true h.1
    have hl := Nat.eq_of_beq_eq_true h.2.2
    subst hl
    obtain ⟨c, r2, e, hv⟩ := xb1_ok h.2.1
    subst hv
    exact xdu1 g0 (g1 e).1 (by rw [hb]; rfl)
  · rename_i v
    rw [Bool.and_eq_true, Bool.and_eq_true] at h
    have hb := Nat.eq_of_beq_eq_true h.1
    have hl := Nat.eq_of_beq_eq_true h.2.2
    subst hl
    obtain ⟨c, r2, e, hv⟩ := xb1_ok h.2.1
    subst hv
    exact xdu1 g0 (g1 e).1 (by rw [hb]; rfl)
  · rename_i v
    rw [Bool.and_eq_true, Bool.and_eq_true] at h
    have hb := Nat.eq_of_beq_eq_true h.1
    have hl := Nat.eq_of_beq_eq_true h.2.2
    subst hl
    obtain ⟨c, r2, e, hv⟩ := xb1_ok h.2.1
    subst hv
    exact xdu1 g0 (g1 e).1 (by rw [hb]; rfl)
  · rename_i v
    rw [Bool.and_eq_true, Bool.and_eq_true] at h
    have hb := Nat.eq_of_beq_eq_true h.1
    have hl := Nat.eq_of_beq_eq_true h.2.2
    subst hl
    obtain ⟨c, r2, e, hv⟩ := xb1_ok h.2.1
    subst hv
    exact xdu1 g0 (g1 e).1 (by rw [hb]; rfl)
  · rename_i v
    rw [Bool.and_eq_true, Bool.and_eq_true] at h
    have hb := Nat.eq_of_beq_eq_true h.1
    have hl := Nat.eq_of_beq_eq_true h.2.2
    subst hl
    obtain ⟨c, r2, e, hv⟩ := xb1_ok h.2.1
    subst hv
    exact xdu1 g0 (g1 e).1 (by rw [hb]; rfl)
  · rename_i v
    rw [Bool.and_eq_true, Bool.and_eq_true] at h
    have hb := Nat.eq_of_beq_eq_true h.1
    have hl := Nat.eq_of_beq_eq_true h.2.2
    subst hl
    obtain ⟨c, r2, e, hv⟩ := xb1_ok h.2.1
    subst hv
    exact xdu1 g0 (g1 e).1 (by rw [hb]; rfl)
  · rename_i v
    rw [Bool.and_eq_true, Bool.and_eq_true] at h
    have hb := Nat.eq_of_beq_eq_true h.1
    have hl := Nat.eq_of_beq_eq_true h.2.2
    subst hl
    obtain ⟨c, r2, e, hv⟩ := xb1_ok h.2.1
    subst hv
    exact xdu1 g0 (g1 e).1 (by rw [hb]; rfl)
  · rename_i v
    rw [Bool.and_eq_true, Bool.and_eq_true] at h
    have hb := Nat.eq_of_beq_eq_true h.1
    have hl := Nat.eq_of_beq_eq_true h.2.2
    subst hl
    obtain ⟨c, d, r2, e, hv⟩ := xb2_ok h.2.1
    subst hv
    exact xdu2 g0 (g1 e).1 ((g1 e).2 rfl) (by rw [hb]; rfl)
  · rename_i v
    rw [Bool.and_eq_true, Bool.and_eq_true] at h
    have hb := Nat.eq_of_beq_eq_true h.1
    have hl := Nat.eq_of_beq_eq_true h.2.2
    subst hl
    obtain ⟨c, d, r2, e, hv⟩ := xb2_ok h.2.1
    subst hv
    exact xdu2 g0 (g1 e).1 ((g1 e).2 rfl) (by rw [hb]; rfl)
  · rename_i v
    rw [Bool.and_eq_true, Bool.and_eq_true] at h
    have hb := Nat.eq_of_beq_eq_true h.1
    have hl := Nat.eq_of_beq_eq_true h.2.2
    subst hl
    obtain ⟨c, d, r2, e, hv⟩ := xb2_ok h.2.1
    subst hv
    exact xdu2 g0 (g1 e).1 ((g1 e).2 rfl) (by rw [hb]; rfl)
  · rename_i v
    rw [Bool.and_eq_true, Bool.and_eq_true] at h
    have hb := Nat.eq_of_beq_eq_true h.1
    have hl := Nat.eq_of_beq_eq_true h.2.2
    subst hl
    obtain ⟨c, d, r2, e, hv⟩ := xb2_ok h.2.1
    subst hv
    exact xdu2 g0 (g1 e).1 ((g1 e).2 rfl) (by rw [hb]; rfl)
  · rename_i v
    rw [Bool.and_eq_true, Bool.and_eq_true] at h
    have hb := Nat.eq_of_beq_eq_true h.1
    have hl := Nat.eq_of_beq_eq_true h.2.2
    subst hl
    obtain ⟨c, d, r2, e, hv⟩ := xb2_ok h.2.1
    subst hv
    exact xdu2 g0 (g1 e).1 ((g1 e).2 rfl) (by rw [hb]; rfl)
  · rename_i v
    rw [Bool.and_eq_true, Bool.and_eq_true] at h
    have hb := Nat.eq_of_beq_eq_true h.1
    have hl := Nat.eq_of_beq_eq_true h.2.2
    subst hl
    obtain ⟨c, d, r2, e, hv⟩ := xb2_ok h.2.1
    subst hv
    exact xdu2 g0 (g1 e).1 ((g1 e).2 rfl) (by rw [hb]; rfl)
  · rename_i v
    rw [Bool.and_eq_true, Bool.and_eq_true] at h
    have hb := Nat.eq_of_beq_eq_true h.1
    have hl := Nat.eq_of_beq_eq_true h.2.2
    subst hl
    obtain ⟨c, d, r2, e, hv⟩ := xb2_ok h.2.1
    subst hv
    exact xdu2 g0 (g1 e).1 ((g1 e).2 rfl) (by rw [hb]; rfl)
  · rename_i v
    rw [Bool.and_eq_true, Bool.and_eq_true] at h
    have hb := Nat.eq_of_beq_eq_true h.1
    have hl := Nat.eq_of_beq_eq_true h.2.2
    subst hl
    obtain ⟨c, d, r2, e, hv⟩ := xb2_ok h.2.1
    subst hv
    exact xdu2 g0 (g1 e).1 ((g1 e).2 rfl) (by rw [hb]; rfl)
  · rename_i v
    rw [Bool.and_eq_true, Bool.and_eq_true] at h
    have hb := Nat.eq_of_beq_eq_true h.1
    have hl := Nat.eq_of_beq_eq_true h.2.2
    subst hl
    obtain ⟨c, d, r2, e, hv⟩ := xb3_ok h.2.1
    subst hv
    exact xds2 g0 (g1 e).1 ((g1 e).2 rfl) (by rw [hb]; rfl)
  · rename_i q v
    rw [Bool.and_eq_true, Bool.and_eq_true] at h
    have hb := Nat.eq_of_beq_eq_true h.1
    have hl := Nat.eq_of_beq_eq_true h.2.2
    subst hl
    obtain ⟨c, d, r2, e, hv⟩ := xb3_ok h.2.1
    subst hv
    refine xds2 g0 (g1 e).1 ((g1 e).2 rfl) ?_
    rw [hb]
    cases q <;> rfl
  · rename_i q v
    rw [Bool.and_eq_true, Bool.and_eq_true] at h
    have hb := Nat.eq_of_beq_eq_true h.1
    have hl := Nat.eq_of_beq_eq_true h.2.2
    subst hl
    obtain ⟨c, d, r2, e, hv⟩ := xb3_ok h.2.1
    subst hv
    refine xds2 g0 (g1 e).1 ((g1 e).2 rfl) ?_
    rw [hb]
    cases q <;> rfl
  · rename_i v
    rw [Bool.and_eq_true, Bool.and_eq_true] at h
    have hb := Nat.eq_of_beq_eq_true h.1
    have hl := Nat.eq_of_beq_eq_true h.2.2
    subst hl
    obtain ⟨c, r2, e, hv⟩ := xb4_ok h.2.1
    subst hv
    exact xds1 g0 (g1 e).1 (by rw [hb]; rfl)
  · rename_i u v
    rw [Bool.and_eq_true, Bool.and_eq_true] at h
    have hb := Nat.eq_of_beq_eq_true h.1
    have hl := Nat.eq_of_beq_eq_true h.2.2
    subst hl
    obtain ⟨c, d, r2, e, hu, hv⟩ := xb5_ok h.2.1
    subst hu hv
    exact xdii g0 (g1 e).1 ((g1 e).2 rfl) (by rw [hb]; rfl)
  · cases h
def xmem3 (c x a : Nat) : List (Nat × Nat × Nat) → Bool
  | [] => false
  | q :: l => bif Nat.beq q.2.1 x && (Nat.beq q.1 c && Nat.beq q.2.2 a) then true else xmem3 c x a l
theorem xmem3_ok {c x a : Nat} : ∀ {l : List (Nat × Nat × Nat)}, xmem3 c x a l = true → (c, x, a) ∈ l
  | (c', x', a') :: l, h => by
    unfold xmem3 at h
    cases hb : (Nat.beq x' x && (Nat.beq c' c && Nat.beq a' a)) with
    | true =>
      rw [Bool.and_eq_true, Bool.and_eq_true] at hb
      rw [Nat.eq_of_beq_eq_true hb.1, Nat.eq_of_beq_eq_true hb.2.1, Nat.eq_of_beq_eq_true hb.2.2]
      exact List.mem_cons_self
    | false => rw [show (bif Nat.beq x' x && (Nat.beq c' c && Nat.beq a' a) then true else xmem3 c x a l) = xmem3 c x a l by rw [hb]; rfl] at h; exact List.mem_cons_of_mem _ (xmem3_ok h)
  | [], h => by cases h
def xmem5 (c x a b : Nat) (w : Bool) : List (Nat × Nat × Nat × Nat × Bool) → Bool
  | [] => false
  | q :: l => bif Nat.beq q.2.1 x && (Nat.beq q.1 c && (Nat.beq q.2.2.1 a && (Nat.beq q.2.2.2.1 b && (q.2.2.2.2 == w)))) then true else xmem5 c x a b w l
theorem xmem5_ok {c x a b : Nat} {w : Bool} : ∀ {l : List (Nat × Nat × Nat × Nat × Bool)}, xmem5 c x a b w l = true → (c, x, a, b, w) ∈ l
  | (c', x', a', b', w') :: l, h => by
    unfold xmem5 at h
    cases hb : (Nat.beq x' x && (Nat.beq c' c && (Nat.beq a' a && (Nat.beq b' b && (w' == w))))) with
    | true =>
      rw [Bool.and_eq_true, Bool.and_eq_true, Bool.and_eq_true, Bool.and_eq_true] at hb
      rw [Nat.eq_of_beq_eq_true hb.1, Nat.eq_of_beq_eq_true hb.2.1, Nat.eq_of_beq_eq_true hb.2.2.1, Nat.eq_of_beq_eq_true hb.2.2.2.1, beq_iff_eq.mp hb.2.2.2.2]
      exact List.mem_cons_self
    | false => rw [show (bif Nat.beq x' x && (Nat.beq c' c && (Nat.beq a' a && (Nat.beq b' b && (w' == w)))) then true else xmem5 c x a b w l) = xmem5 c x a b w l by rw [hb]; rfl] at h; exact List.mem_cons_of_mem _ (xmem5_ok h)
  | [], h => by cases h
def xmlT_0 (x : Nat) : Nat := bif Nat.beq x 25 then 50 else 0
def xmlT_1 (x : Nat) : Nat := bif Nat.blt x 66 then (bif Nat.blt x 36 then (bif Nat.blt x 28 then (bif Nat.beq x 22 then 16 else 0) else (bif Nat.blt x 32 then (bif Nat.beq x 28 then 18 else 0) else (bif Nat.beq x 32 then 12 else 0))) else (bif Nat.blt x 40 then (bif Nat.beq x 36 then 7 else 0) else (bif Nat.blt x 53 then (bif Nat.beq x 40 then 8 else 0) else (bif Nat.beq x 53 then 26 else 0)))) else (bif Nat.blt x 93 then (bif Nat.blt x 82 then (bif Nat.beq x 66 then 20 else 0) else (bif Nat.blt x 86 then (bif Nat.beq x 82 then 19 else 0) else (bif Nat.beq x 86 then 9 else 0))) else (bif Nat.blt x 101 then (bif Nat.blt x 97 then (bif Nat.beq x 93 then 5 else 0) else (bif Nat.beq x 97 then 6 else 0)) else (bif Nat.blt x 108 then (bif Nat.beq x 101 then 222 else 0) else (bif Nat.beq x 108 then 13 else 0))))
def xmlT_2 (x : Nat) : Nat := bif Nat.blt x 41 then (bif Nat.blt x 37 then (bif Nat.beq x 28 then 23 else 0) else (bif Nat.beq x 37 then 18 else 0)) else (bif Nat.blt x 45 then (bif Nat.beq x 41 then 16 else 0) else (bif Nat.blt x 49 then (bif Nat.beq x 45 then 24 else 0) else (bif Nat.beq x 49 then 25 else 0)))
def xmlT_3 (x : Nat) : Nat := bif Nat.blt x 39 then (bif Nat.blt x 23 then (bif Nat.beq x 19 then 33 else 0) else (bif Nat.blt x 29 then (bif Nat.beq x 23 then 34 else 0) else (bif Nat.beq x 29 then 22 else 0))) else (bif Nat.blt x 42 then (bif Nat.beq x 39 then 23 else 0) else (bif Nat.blt x 46 then (bif Nat.beq x 42 then 18 else 0) else (bif Nat.beq x 46 then 19 else 0)))
def xmlT_4 (x : Nat) : Nat := bif Nat.beq x 24 then 16 else 0
def xmlT_5 (x : Nat) : Nat := bif Nat.blt x 87 then (bif Nat.blt x 56 then (bif Nat.blt x 46 then (bif Nat.blt x 41 then (bif Nat.beq x 31 then 16 else 0) else (bif Nat.beq x 41 then 59 else 0)) else (bif Nat.blt x 52 then (bif Nat.beq x 46 then 223 else 0) else (bif Nat.beq x 52 then 41 else 0))) else (bif Nat.blt x 64 then (bif Nat.blt x 60 then (bif Nat.beq x 56 then 63 else 0) else (bif Nat.beq x 60 then 42 else 0)) else (bif Nat.blt x 71 then (bif Nat.beq x 64 then 64 else 0) else (bif Nat.blt x 77 then (bif Nat.beq x 71 then 18 else 0) else (bif Nat.beq x 77 then 26 else 0))))) else (bif Nat.blt x 102 then (bif Nat.blt x 95 then (bif Nat.blt x 91 then (bif Nat.beq x 87 then 44 else 0) else (bif Nat.beq x 91 then 47 else 0)) else (bif Nat.blt x 98 then (bif Nat.beq x 95 then 21 else 0) else (bif Nat.beq x 98 then 48 else 0))) else (bif Nat.blt x 110 then (bif Nat.blt x 106 then (bif Nat.beq x 102 then 45 else 0) else (bif Nat.beq x 106 then 46 else 0)) else (bif Nat.blt x 114 then (bif Nat.beq x 110 then 222 else 0) else (bif Nat.blt x 118 then (bif Nat.beq x 114 then 65 else 0) else (bif Nat.beq x 118 then 221 else 0)))))
def xmlT_6 (x : Nat) : Nat := bif Nat.blt x 53 then (bif Nat.blt x 20 then (bif Nat.beq x 11 then 14 else 0) else (bif Nat.blt x 49 then (bif Nat.beq x 20 then 52 else 0) else (bif Nat.beq x 49 then 15 else 0))) else (bif Nat.blt x 65 then (bif Nat.blt x 56 then (bif Nat.beq x 53 then 53 else 0) else (bif Nat.beq x 56 then 58 else 0)) else (bif Nat.blt x 69 then (bif Nat.beq x 65 then 16 else 0) else (bif Nat.beq x 69 then 221 else 0)))
def xmlT_8 (x : Nat) : Nat := bif Nat.blt x 55 then (bif Nat.blt x 43 then (bif Nat.beq x 34 then 59 else 0) else (bif Nat.blt x 51 then (bif Nat.beq x 43 then 16 else 0) else (bif Nat.beq x 51 then 19 else 0))) else (bif Nat.blt x 59 then (bif Nat.beq x 55 then 63 else 0) else (bif Nat.blt x 63 then (bif Nat.beq x 59 then 64 else 0) else (bif Nat.beq x 63 then 26 else 0)))
def xmlT_9 (x : Nat) : Nat := bif Nat.blt x 26 then (bif Nat.blt x 22 then (bif Nat.beq x 15 then 16 else 0) else (bif Nat.beq x 22 then 18 else 0)) else (bif Nat.blt x 30 then (bif Nat.beq x 26 then 68 else 0) else (bif Nat.blt x 34 then (bif Nat.beq x 30 then 69 else 0) else (bif Nat.beq x 34 then 25 else 0)))
def xmlT_10 (x : Nat) : Nat := bif Nat.blt x 239 then (bif Nat.blt x 144 then (bif Nat.blt x 114 then (bif Nat.blt x 95 then (bif Nat.blt x 77 then (bif Nat.beq x 25 then 1 else 0) else (bif Nat.blt x 81 then (bif Nat.beq x 77 then 5 else 0) else (bif Nat.beq x 81 then 29 else 0))) else (bif Nat.blt x 104 then (bif Nat.beq x 95 then 30 else 0) else (bif Nat.blt x 108 then (bif Nat.beq x 104 then 31 else 0) else (bif Nat.beq x 108 then 32 else 0)))) else (bif Nat.blt x 130 then (bif Nat.blt x 118 then (bif Nat.beq x 114 then 2 else 0) else (bif Nat.blt x 122 then (bif Nat.beq x 118 then 35 else 0) else (bif Nat.beq x 122 then 21 else 0))) else (bif Nat.blt x 136 then (bif Nat.blt x 133 then (bif Nat.beq x 130 then 113 else 0) else (bif Nat.beq x 133 then 20 else 0)) else (bif Nat.blt x 139 then (bif Nat.beq x 136 then 117 else 0) else (bif Nat.beq x 139 then 18 else 0))))) else (bif Nat.blt x 199 then (bif Nat.blt x 154 then (bif Nat.blt x 148 then (bif Nat.beq x 144 then 22 else 0) else (bif Nat.blt x 151 then (bif Nat.beq x 148 then 23 else 0) else (bif Nat.beq x 151 then 122 else 0))) else (bif Nat.blt x 179 then (bif Nat.blt x 165 then (bif Nat.beq x 154 then 118 else 0) else (bif Nat.beq x 165 then 124 else 0)) else (bif Nat.blt x 187 then (bif Nat.beq x 179 then 121 else 0) else (bif Nat.beq x 187 then 125 else 0)))) else (bif Nat.blt x 219 then (bif Nat.blt x 204 then (bif Nat.beq x 199 then 27 else 0) else (bif Nat.blt x 207 then (bif Nat.beq x 204 then 123 else 0) else (bif Nat.beq x 207 then 26 else 0))) else (bif Nat.blt x 233 then (bif Nat.blt x 228 then (bif Nat.beq x 219 then 36 else 0) else (bif Nat.beq x 228 then 60 else 0)) else (bif Nat.blt x 236 then (bif Nat.beq x 233 then 114 else 0) else (bif Nat.beq x 236 then 51 else 0)))))) else (bif Nat.blt x 331 then (bif Nat.blt x 275 then (bif Nat.blt x 254 then (bif Nat.blt x 245 then (bif Nat.beq x 239 then 10 else 0) else (bif Nat.blt x 248 then (bif Nat.beq x 245 then 115 else 0) else (bif Nat.beq x 248 then 38 else 0))) else (bif Nat.blt x 265 then (bif Nat.blt x 260 then (bif Nat.beq x 254 then 16 else 0) else (bif Nat.beq x 260 then 128 else 0)) else (bif Nat.blt x 271 then (bif Nat.beq x 265 then 129 else 0) else (bif Nat.beq x 271 then 11 else 0)))) else (bif Nat.blt x 306 then (bif Nat.blt x 294 then (bif Nat.beq x 275 then 59 else 0) else (bif Nat.blt x 297 then (bif Nat.beq x 294 then 120 else 0) else (bif Nat.beq x 297 then 40 else 0))) else (bif Nat.blt x 319 then (bif Nat.blt x 313 then (bif Nat.beq x 306 then 43 else 0) else (bif Nat.beq x 313 then 119 else 0)) else (bif Nat.blt x 322 then (bif Nat.beq x 319 then 70 else 0) else (bif Nat.beq x 322 then 67 else 0))))) else (bif Nat.blt x 366 then (bif Nat.blt x 341 then (bif Nat.blt x 334 then (bif Nat.beq x 331 then 126 else 0) else (bif Nat.blt x 338 then (bif Nat.beq x 334 then 127 else 0) else (bif Nat.beq x 338 then 54 else 0))) else (bif Nat.blt x 347 then (bif Nat.blt x 344 then (bif Nat.beq x 341 then 116 else 0) else (bif Nat.beq x 344 then 19 else 0)) else (bif Nat.blt x 350 then (bif Nat.beq x 347 then 55 else 0) else (bif Nat.beq x 350 then 56 else 0)))) else (bif Nat.blt x 378 then (bif Nat.blt x 369 then (bif Nat.beq x 366 then 3 else 0) else (bif Nat.blt x 374 then (bif Nat.beq x 369 then 50 else 0) else (bif Nat.beq x 374 then 6 else 0))) else (bif Nat.blt x 386 then (bif Nat.blt x 382 then (bif Nat.beq x 378 then 61 else 0) else (bif Nat.beq x 382 then 12 else 0)) else (bif Nat.blt x 390 then (bif Nat.beq x 386 then 62 else 0) else (bif Nat.beq x 390 then 17 else 0))))))
def xmlT_11 (x : Nat) : Nat := bif Nat.blt x 217 then (bif Nat.blt x 152 then (bif Nat.blt x 112 then (bif Nat.blt x 100 then (bif Nat.blt x 96 then (bif Nat.beq x 90 then 148 else 0) else (bif Nat.beq x 96 then 135 else 0)) else (bif Nat.blt x 104 then (bif Nat.beq x 100 then 137 else 0) else (bif Nat.blt x 108 then (bif Nat.beq x 104 then 142 else 0) else (bif Nat.beq x 108 then 143 else 0)))) else (bif Nat.blt x 128 then (bif Nat.blt x 121 then (bif Nat.beq x 112 then 145 else 0) else (bif Nat.blt x 124 then (bif Nat.beq x 121 then 147 else 0) else (bif Nat.beq x 124 then 146 else 0))) else (bif Nat.blt x 132 then (bif Nat.beq x 128 then 152 else 0) else (bif Nat.blt x 135 then (bif Nat.beq x 132 then 140 else 0) else (bif Nat.beq x 135 then 144 else 0))))) else (bif Nat.blt x 195 then (bif Nat.blt x 172 then (bif Nat.blt x 155 then (bif Nat.beq x 152 then 149 else 0) else (bif Nat.blt x 158 then (bif Nat.beq x 155 then 153 else 0) else (bif Nat.beq x 158 then 150 else 0))) else (bif Nat.blt x 175 then (bif Nat.beq x 172 then 154 else 0) else (bif Nat.blt x 179 then (bif Nat.beq x 175 then 134 else 0) else (bif Nat.beq x 179 then 132 else 0)))) else (bif Nat.blt x 205 then (bif Nat.blt x 198 then (bif Nat.beq x 195 then 159 else 0) else (bif Nat.blt x 202 then (bif Nat.beq x 198 then 160 else 0) else (bif Nat.beq x 202 then 213 else 0))) else (bif Nat.blt x 211 then (bif Nat.beq x 205 then 141 else 0) else (bif Nat.blt x 214 then (bif Nat.beq x 211 then 136 else 0) else (bif Nat.beq x 214 then 133 else 0)))))) else (bif Nat.blt x 259 then (bif Nat.blt x 231 then (bif Nat.blt x 223 then (bif Nat.blt x 220 then (bif Nat.beq x 217 then 139 else 0) else (bif Nat.beq x 220 then 138 else 0)) else (bif Nat.blt x 225 then (bif Nat.beq x 223 then 155 else 0) else (bif Nat.blt x 228 then (bif Nat.beq x 225 then 151 else 0) else (bif Nat.beq x 228 then 156 else 0)))) else (bif Nat.blt x 242 then (bif Nat.blt x 234 then (bif Nat.beq x 231 then 157 else 0) else (bif Nat.blt x 237 then (bif Nat.beq x 234 then 178 else 0) else (bif Nat.beq x 237 then 179 else 0))) else (bif Nat.blt x 249 then (bif Nat.beq x 242 then 218 else 0) else (bif Nat.blt x 255 then (bif Nat.beq x 249 then 220 else 0) else (bif Nat.beq x 255 then 184 else 0))))) else (bif Nat.blt x 278 then (bif Nat.blt x 269 then (bif Nat.blt x 262 then (bif Nat.beq x 259 then 187 else 0) else (bif Nat.blt x 266 then (bif Nat.beq x 262 then 189 else 0) else (bif Nat.beq x 266 then 190 else 0))) else (bif Nat.blt x 272 then (bif Nat.beq x 269 then 193 else 0) else (bif Nat.blt x 275 then (bif Nat.beq x 272 then 194 else 0) else (bif Nat.beq x 275 then 198 else 0)))) else (bif Nat.blt x 300 then (bif Nat.blt x 285 then (bif Nat.beq x 278 then 197 else 0) else (bif Nat.blt x 288 then (bif Nat.beq x 285 then 203 else 0) else (bif Nat.beq x 288 then 204 else 0))) else (bif Nat.blt x 304 then (bif Nat.beq x 300 then 210 else 0) else (bif Nat.blt x 308 then (bif Nat.beq x 304 then 211 else 0) else (bif Nat.beq x 308 then 212 else 0))))))
def xmlT_12 (x : Nat) : Nat := bif Nat.blt x 172 then (bif Nat.blt x 112 then (bif Nat.blt x 62 then (bif Nat.blt x 41 then (bif Nat.blt x 27 then (bif Nat.blt x 17 then (bif Nat.beq x 7 then 72 else 0) else (bif Nat.blt x 21 then (bif Nat.beq x 17 then 73 else 0) else (bif Nat.beq x 21 then 75 else 0))) else (bif Nat.blt x 34 then (bif Nat.blt x 31 then (bif Nat.beq x 27 then 76 else 0) else (bif Nat.beq x 31 then 77 else 0)) else (bif Nat.blt x 38 then (bif Nat.beq x 34 then 78 else 0) else (bif Nat.beq x 38 then 79 else 0)))) else (bif Nat.blt x 50 then (bif Nat.blt x 44 then (bif Nat.beq x 41 then 80 else 0) else (bif Nat.blt x 47 then (bif Nat.beq x 44 then 81 else 0) else (bif Nat.beq x 47 then 82 else 0))) else (bif Nat.blt x 56 then (bif Nat.blt x 53 then (bif Nat.beq x 50 then 83 else 0) else (bif Nat.beq x 53 then 84 else 0)) else (bif Nat.blt x 59 then (bif Nat.beq x 56 then 86 else 0) else (bif Nat.beq x 59 then 87 else 0))))) else (bif Nat.blt x 87 then (bif Nat.blt x 72 then (bif Nat.blt x 66 then (bif Nat.beq x 62 then 88 else 0) else (bif Nat.blt x 69 then (bif Nat.beq x 66 then 89 else 0) else (bif Nat.beq x 69 then 90 else 0))) else (bif Nat.blt x 78 then (bif Nat.blt x 75 then (bif Nat.beq x 72 then 91 else 0) else (bif Nat.beq x 75 then 95 else 0)) else (bif Nat.blt x 83 then (bif Nat.beq x 78 then 96 else 0) else (bif Nat.beq x 83 then 97 else 0)))) else (bif Nat.blt x 100 then (bif Nat.blt x 93 then (bif Nat.blt x 90 then (bif Nat.beq x 87 then 98 else 0) else (bif Nat.beq x 90 then 99 else 0)) else (bif Nat.blt x 97 then (bif Nat.beq x 93 then 100 else 0) else (bif Nat.beq x 97 then 101 else 0))) else (bif Nat.blt x 106 then (bif Nat.blt x 103 then (bif Nat.beq x 100 then 102 else 0) else (bif Nat.beq x 103 then 103 else 0)) else (bif Nat.blt x 109 then (bif Nat.beq x 106 then 105 else 0) else (bif Nat.beq x 109 then 106 else 0)))))) else (bif Nat.blt x 149 then (bif Nat.blt x 133 then (bif Nat.blt x 121 then (bif Nat.blt x 115 then (bif Nat.beq x 112 then 107 else 0) else (bif Nat.blt x 118 then (bif Nat.beq x 115 then 109 else 0) else (bif Nat.beq x 118 then 110 else 0))) else (bif Nat.blt x 127 then (bif Nat.blt x 124 then (bif Nat.beq x 121 then 112 else 0) else (bif Nat.beq x 124 then 71 else 0)) else (bif Nat.blt x 128 then (bif Nat.beq x 127 then 130 else 0) else (bif Nat.beq x 128 then 224 else 0)))) else (bif Nat.blt x 141 then (bif Nat.blt x 137 then (bif Nat.blt x 134 then (bif Nat.beq x 133 then 158 else 0) else (bif Nat.beq x 134 then 225 else 0)) else (bif Nat.blt x 138 then (bif Nat.beq x 137 then 161 else 0) else (bif Nat.beq x 138 then 74 else 0))) else (bif Nat.blt x 145 then (bif Nat.blt x 142 then (bif Nat.beq x 141 then 162 else 0) else (bif Nat.beq x 142 then 226 else 0)) else (bif Nat.blt x 146 then (bif Nat.beq x 145 then 163 else 0) else (bif Nat.beq x 146 then 227 else 0))))) else (bif Nat.blt x 160 then (bif Nat.blt x 153 then (bif Nat.blt x 150 then (bif Nat.beq x 149 then 164 else 0) else (bif Nat.blt x 152 then (bif Nat.beq x 150 then 228 else 0) else (bif Nat.beq x 152 then 165 else 0))) else (bif Nat.blt x 157 then (bif Nat.blt x 156 then (bif Nat.beq x 153 then 229 else 0) else (bif Nat.beq x 156 then 166 else 0)) else (bif Nat.blt x 159 then (bif Nat.beq x 157 then 230 else 0) else (bif Nat.beq x 159 then 167 else 0)))) else (bif Nat.blt x 166 then (bif Nat.blt x 163 then (bif Nat.blt x 162 then (bif Nat.beq x 160 then 231 else 0) else (bif Nat.beq x 162 then 168 else 0)) else (bif Nat.blt x 165 then (bif Nat.beq x 163 then 232 else 0) else (bif Nat.beq x 165 then 169 else 0))) else (bif Nat.blt x 169 then (bif Nat.blt x 168 then (bif Nat.beq x 166 then 233 else 0) else (bif Nat.beq x 168 then 170 else 0)) else (bif Nat.blt x 171 then (bif Nat.beq x 169 then 234 else 0) else (bif Nat.beq x 171 then 171 else 0))))))) else (bif Nat.blt x 220 then (bif Nat.blt x 194 then (bif Nat.blt x 184 then (bif Nat.blt x 178 then (bif Nat.blt x 174 then (bif Nat.beq x 172 then 235 else 0) else (bif Nat.blt x 175 then (bif Nat.beq x 174 then 172 else 0) else (bif Nat.beq x 175 then 85 else 0))) else (bif Nat.blt x 181 then (bif Nat.blt x 179 then (bif Nat.beq x 178 then 173 else 0) else (bif Nat.beq x 179 then 236 else 0)) else (bif Nat.blt x 182 then (bif Nat.beq x 181 then 174 else 0) else (bif Nat.beq x 182 then 237 else 0)))) else (bif Nat.blt x 188 then (bif Nat.blt x 185 then (bif Nat.beq x 184 then 175 else 0) else (bif Nat.blt x 187 then (bif Nat.beq x 185 then 238 else 0) else (bif Nat.beq x 187 then 176 else 0))) else (bif Nat.blt x 191 then (bif Nat.blt x 190 then (bif Nat.beq x 188 then 239 else 0) else (bif Nat.beq x 190 then 177 else 0)) else (bif Nat.blt x 193 then (bif Nat.beq x 191 then 240 else 0) else (bif Nat.beq x 193 then 180 else 0))))) else (bif Nat.blt x 208 then (bif Nat.blt x 200 then (bif Nat.blt x 196 then (bif Nat.beq x 194 then 241 else 0) else (bif Nat.blt x 197 then (bif Nat.beq x 196 then 181 else 0) else (bif Nat.beq x 197 then 92 else 0))) else (bif Nat.blt x 204 then (bif Nat.blt x 201 then (bif Nat.beq x 200 then 182 else 0) else (bif Nat.beq x 201 then 93 else 0)) else (bif Nat.blt x 205 then (bif Nat.beq x 204 then 183 else 0) else (bif Nat.beq x 205 then 94 else 0)))) else (bif Nat.blt x 214 then (bif Nat.blt x 211 then (bif Nat.blt x 209 then (bif Nat.beq x 208 then 185 else 0) else (bif Nat.beq x 209 then 242 else 0)) else (bif Nat.blt x 212 then (bif Nat.beq x 211 then 186 else 0) else (bif Nat.beq x 212 then 243 else 0))) else (bif Nat.blt x 217 then (bif Nat.blt x 215 then (bif Nat.beq x 214 then 188 else 0) else (bif Nat.beq x 215 then 244 else 0)) else (bif Nat.blt x 218 then (bif Nat.beq x 217 then 191 else 0) else (bif Nat.beq x 218 then 245 else 0)))))) else (bif Nat.blt x 245 then (bif Nat.blt x 232 then (bif Nat.blt x 226 then (bif Nat.blt x 221 then (bif Nat.beq x 220 then 192 else 0) else (bif Nat.blt x 224 then (bif Nat.beq x 221 then 131 else 0) else (bif Nat.beq x 224 then 246 else 0))) else (bif Nat.blt x 229 then (bif Nat.blt x 227 then (bif Nat.beq x 226 then 195 else 0) else (bif Nat.beq x 227 then 247 else 0)) else (bif Nat.blt x 230 then (bif Nat.beq x 229 then 196 else 0) else (bif Nat.beq x 230 then 248 else 0)))) else (bif Nat.blt x 238 then (bif Nat.blt x 235 then (bif Nat.blt x 233 then (bif Nat.beq x 232 then 199 else 0) else (bif Nat.beq x 233 then 249 else 0)) else (bif Nat.blt x 236 then (bif Nat.beq x 235 then 200 else 0) else (bif Nat.beq x 236 then 250 else 0))) else (bif Nat.blt x 242 then (bif Nat.blt x 239 then (bif Nat.beq x 238 then 201 else 0) else (bif Nat.beq x 239 then 104 else 0)) else (bif Nat.blt x 243 then (bif Nat.beq x 242 then 202 else 0) else (bif Nat.beq x 243 then 251 else 0))))) else (bif Nat.blt x 256 then (bif Nat.blt x 249 then (bif Nat.blt x 246 then (bif Nat.beq x 245 then 205 else 0) else (bif Nat.blt x 248 then (bif Nat.beq x 246 then 252 else 0) else (bif Nat.beq x 248 then 206 else 0))) else (bif Nat.blt x 252 then (bif Nat.blt x 251 then (bif Nat.beq x 249 then 253 else 0) else (bif Nat.beq x 251 then 207 else 0)) else (bif Nat.blt x 255 then (bif Nat.beq x 252 then 108 else 0) else (bif Nat.beq x 255 then 208 else 0)))) else (bif Nat.blt x 262 then (bif Nat.blt x 259 then (bif Nat.blt x 258 then (bif Nat.beq x 256 then 254 else 0) else (bif Nat.beq x 258 then 209 else 0)) else (bif Nat.blt x 261 then (bif Nat.beq x 259 then 255 else 0) else (bif Nat.beq x 261 then 214 else 0))) else (bif Nat.blt x 266 then (bif Nat.blt x 265 then (bif Nat.beq x 262 then 111 else 0) else (bif Nat.beq x 265 then 215 else 0)) else (bif Nat.blt x 268 then (bif Nat.beq x 266 then 256 else 0) else (bif Nat.beq x 268 then 216 else 0)))))))
def xmlT_13 (x : Nat) : Nat := bif Nat.beq x 122 then 217 else 0
def xmlT_14 (x : Nat) : Nat := bif Nat.beq x 59 then 219 else 0
def xmlT (c x : Nat) : Nat := bif Nat.blt c 15 then (bif Nat.blt x 391 then (bif Nat.blt c 8 then (bif Nat.blt c 3 then (bif Nat.blt c 1 then (bif Nat.beq c 0 then xmlT_0 x else 0) else (bif Nat.blt c 2 then (bif Nat.beq c 1 then xmlT_1 x else 0) else (bif Nat.beq c 2 then xmlT_2 x else 0))) else (bif Nat.blt c 5 then (bif Nat.blt c 4 then (bif Nat.beq c 3 then xmlT_3 x else 0) else (bif Nat.beq c 4 then xmlT_4 x else 0)) else (bif Nat.blt c 6 then (bif Nat.beq c 5 then xmlT_5 x else 0) else (bif Nat.beq c 6 then xmlT_6 x else 0)))) else (bif Nat.blt c 11 then (bif Nat.blt c 9 then (bif Nat.beq c 8 then xmlT_8 x else 0) else (bif Nat.blt c 10 then (bif Nat.beq c 9 then xmlT_9 x else 0) else (bif Nat.beq c 10 then xmlT_10 x else 0))) else (bif Nat.blt c 13 then (bif Nat.blt c 12 then (bif Nat.beq c 11 then xmlT_11 x else 0) else (bif Nat.beq c 12 then xmlT_12 x else 0)) else (bif Nat.blt c 14 then (bif Nat.beq c 13 then xmlT_13 x else 0) else (bif Nat.beq c 14 then xmlT_14 x else 0))))) else 0) else 0
set_option maxRecDepth 100000 in
theorem xmlT_a : (List.range 15).all (fun c => (List.range 391).all (fun x => match xmlT c x with | 0 => true | a + 1 => xmem3 c x a xml)) = true := by decide +kernel
theorem xmlT_ok {c x a : Nat} (h : Nat.beq (xmlT c x) (a + 1) = true) : (c, x, a) ∈ xml := by
  have h1 := Nat.eq_of_beq_eq_true h
  have hc : c < 15 := by
    cases hb : Nat.blt c 15 with
    | true => exact Nat.le_of_ble_eq_true hb
    | false => unfold xmlT at h1; rw [hb] at h1; cases h1
  have hx : x < 391 := by
    cases hb : Nat.blt x 391 with
    | true => exact Nat.le_of_ble_eq_true hb
    | false => unfold xmlT at h1; rw [hb] at h1; cases hb2 : Nat.blt c 15 <;> rw [hb2] at h1 <;> cases h1
  have h2 := List.all_eq_true.mp (List.all_eq_true.mp xmlT_a c (List.mem_range.mpr hc)) x (List.mem_range.mpr hx)
  rw [h1] at h2
  exact xmem3_ok h2
def xflT_0 (x : Nat) : Nat := bif Nat.blt x 17 then (bif Nat.beq x 11 then 1 else 0) else (bif Nat.blt x 21 then (bif Nat.beq x 17 then 3 else 0) else (bif Nat.beq x 21 then 5 else 0))
def xflT_1 (x : Nat) : Nat := bif Nat.blt x 57 then (bif Nat.blt x 18 then (bif Nat.blt x 15 then (bif Nat.beq x 9 then 129 else 0) else (bif Nat.beq x 15 then 131 else 0)) else (bif Nat.blt x 44 then (bif Nat.beq x 18 then 133 else 0) else (bif Nat.blt x 50 then (bif Nat.beq x 44 then 770 else 0) else (bif Nat.beq x 50 then 776 else 0)))) else (bif Nat.blt x 69 then (bif Nat.blt x 61 then (bif Nat.beq x 57 then 772 else 0) else (bif Nat.beq x 61 then 898 else 0)) else (bif Nat.blt x 79 then (bif Nat.beq x 69 then 902 else 0) else (bif Nat.blt x 90 then (bif Nat.beq x 79 then 900 else 0) else (bif Nat.beq x 90 then 904 else 0))))
def xflT_2 (x : Nat) : Nat := bif Nat.blt x 18 then (bif Nat.blt x 15 then (bif Nat.beq x 9 then 257 else 0) else (bif Nat.beq x 15 then 259 else 0)) else (bif Nat.blt x 22 then (bif Nat.beq x 18 then 261 else 0) else (bif Nat.blt x 25 then (bif Nat.beq x 22 then 263 else 0) else (bif Nat.beq x 25 then 265 else 0)))
def xflT_3 (x : Nat) : Nat := bif Nat.blt x 33 then (bif Nat.blt x 15 then (bif Nat.beq x 9 then 385 else 0) else (bif Nat.beq x 15 then 387 else 0)) else (bif Nat.blt x 36 then (bif Nat.beq x 33 then 260 else 0) else (bif Nat.beq x 36 then 258 else 0))
def xflT_4 (x : Nat) : Nat := bif Nat.blt x 18 then (bif Nat.blt x 15 then (bif Nat.beq x 9 then 513 else 0) else (bif Nat.beq x 15 then 515 else 0)) else (bif Nat.blt x 30 then (bif Nat.beq x 18 then 770 else 0) else (bif Nat.beq x 30 then 776 else 0))
def xflT_5 (x : Nat) : Nat := bif Nat.blt x 25 then (bif Nat.blt x 18 then (bif Nat.blt x 15 then (bif Nat.beq x 9 then 641 else 0) else (bif Nat.beq x 15 then 643 else 0)) else (bif Nat.blt x 21 then (bif Nat.beq x 18 then 645 else 0) else (bif Nat.beq x 21 then 647 else 0))) else (bif Nat.blt x 67 then (bif Nat.blt x 37 then (bif Nat.beq x 25 then 770 else 0) else (bif Nat.beq x 37 then 774 else 0)) else (bif Nat.blt x 74 then (bif Nat.beq x 67 then 1026 else 0) else (bif Nat.beq x 74 then 1032 else 0)))
def xflT_6 (x : Nat) : Nat := bif Nat.blt x 36 then (bif Nat.blt x 28 then (bif Nat.blt x 21 then (bif Nat.beq x 12 then 769 else 0) else (bif Nat.beq x 21 then 771 else 0)) else (bif Nat.blt x 32 then (bif Nat.beq x 28 then 773 else 0) else (bif Nat.beq x 32 then 775 else 0))) else (bif Nat.blt x 43 then (bif Nat.blt x 40 then (bif Nat.beq x 36 then 777 else 0) else (bif Nat.beq x 40 then 779 else 0)) else (bif Nat.blt x 46 then (bif Nat.beq x 43 then 781 else 0) else (bif Nat.beq x 46 then 783 else 0)))
def xflT_7 (x : Nat) : Nat := bif Nat.blt x 18 then (bif Nat.blt x 15 then (bif Nat.beq x 9 then 897 else 0) else (bif Nat.beq x 15 then 899 else 0)) else (bif Nat.blt x 22 then (bif Nat.beq x 18 then 901 else 0) else (bif Nat.beq x 22 then 903 else 0))
def xflT_8 (x : Nat) : Nat := bif Nat.blt x 21 then (bif Nat.blt x 15 then (bif Nat.beq x 9 then 1025 else 0) else (bif Nat.blt x 18 then (bif Nat.beq x 15 then 1027 else 0) else (bif Nat.beq x 18 then 1029 else 0))) else (bif Nat.blt x 38 then (bif Nat.blt x 25 then (bif Nat.beq x 21 then 1031 else 0) else (bif Nat.beq x 25 then 1033 else 0)) else (bif Nat.blt x 48 then (bif Nat.beq x 38 then 898 else 0) else (bif Nat.beq x 48 then 900 else 0)))
def xflT_9 (x : Nat) : Nat := bif Nat.blt x 38 then (bif Nat.beq x 9 then 1153 else 0) else (bif Nat.beq x 38 then 264 else 0)
def xflT_10 (x : Nat) : Nat := bif Nat.blt x 190 then (bif Nat.blt x 65 then (bif Nat.blt x 33 then (bif Nat.blt x 19 then (bif Nat.blt x 16 then (bif Nat.beq x 10 then 1281 else 0) else (bif Nat.beq x 16 then 1283 else 0)) else (bif Nat.blt x 26 then (bif Nat.beq x 19 then 1285 else 0) else (bif Nat.beq x 26 then 1287 else 0))) else (bif Nat.blt x 44 then (bif Nat.blt x 37 then (bif Nat.beq x 33 then 1289 else 0) else (bif Nat.beq x 37 then 1291 else 0)) else (bif Nat.blt x 51 then (bif Nat.beq x 44 then 1293 else 0) else (bif Nat.blt x 58 then (bif Nat.beq x 51 then 1295 else 0) else (bif Nat.beq x 58 then 1297 else 0))))) else (bif Nat.blt x 127 then (bif Nat.blt x 73 then (bif Nat.blt x 69 then (bif Nat.beq x 65 then 1299 else 0) else (bif Nat.beq x 69 then 770 else 0)) else (bif Nat.blt x 92 then (bif Nat.beq x 73 then 776 else 0) else (bif Nat.beq x 92 then 388 else 0))) else (bif Nat.blt x 162 then (bif Nat.blt x 157 then (bif Nat.beq x 127 then 778 else 0) else (bif Nat.beq x 157 then 262 else 0)) else (bif Nat.blt x 170 then (bif Nat.beq x 162 then 264 else 0) else (bif Nat.blt x 174 then (bif Nat.beq x 170 then 772 else 0) else (bif Nat.beq x 174 then 898 else 0)))))) else (bif Nat.blt x 281 then (bif Nat.blt x 214 then (bif Nat.blt x 196 then (bif Nat.blt x 193 then (bif Nat.beq x 190 then 900 else 0) else (bif Nat.beq x 193 then 902 else 0)) else (bif Nat.blt x 211 then (bif Nat.beq x 196 then 904 else 0) else (bif Nat.beq x 211 then 260 else 0))) else (bif Nat.blt x 251 then (bif Nat.blt x 224 then (bif Nat.beq x 214 then 258 else 0) else (bif Nat.beq x 224 then 774 else 0)) else (bif Nat.blt x 257 then (bif Nat.beq x 251 then 514 else 0) else (bif Nat.blt x 278 then (bif Nat.beq x 257 then 516 else 0) else (bif Nat.beq x 278 then 1028 else 0))))) else (bif Nat.blt x 316 then (bif Nat.blt x 300 then (bif Nat.blt x 291 then (bif Nat.beq x 281 then 1030 else 0) else (bif Nat.beq x 291 then 1032 else 0)) else (bif Nat.blt x 310 then (bif Nat.beq x 300 then 642 else 0) else (bif Nat.beq x 310 then 648 else 0))) else (bif Nat.blt x 353 then (bif Nat.blt x 328 then (bif Nat.beq x 316 then 1154 else 0) else (bif Nat.beq x 328 then 780 else 0)) else (bif Nat.blt x 356 then (bif Nat.beq x 353 then 782 else 0) else (bif Nat.blt x 359 then (bif Nat.beq x 356 then 784 else 0) else (bif Nat.beq x 359 then 6 else 0))))))
def xflT_11 (x : Nat) : Nat := bif Nat.blt x 75 then (bif Nat.blt x 42 then (bif Nat.blt x 25 then (bif Nat.blt x 16 then (bif Nat.blt x 13 then (bif Nat.beq x 7 then 1411 else 0) else (bif Nat.beq x 13 then 1413 else 0)) else (bif Nat.blt x 19 then (bif Nat.beq x 16 then 1415 else 0) else (bif Nat.blt x 22 then (bif Nat.beq x 19 then 1417 else 0) else (bif Nat.beq x 22 then 1419 else 0)))) else (bif Nat.blt x 32 then (bif Nat.blt x 29 then (bif Nat.beq x 25 then 1421 else 0) else (bif Nat.beq x 29 then 1423 else 0)) else (bif Nat.blt x 35 then (bif Nat.beq x 32 then 1431 else 0) else (bif Nat.blt x 39 then (bif Nat.beq x 35 then 1437 else 0) else (bif Nat.beq x 39 then 1439 else 0))))) else (bif Nat.blt x 57 then (bif Nat.blt x 48 then (bif Nat.blt x 45 then (bif Nat.beq x 42 then 1441 else 0) else (bif Nat.beq x 45 then 1443 else 0)) else (bif Nat.blt x 51 then (bif Nat.beq x 48 then 1445 else 0) else (bif Nat.blt x 54 then (bif Nat.beq x 51 then 1451 else 0) else (bif Nat.beq x 54 then 1453 else 0)))) else (bif Nat.blt x 66 then (bif Nat.blt x 60 then (bif Nat.beq x 57 then 1457 else 0) else (bif Nat.blt x 63 then (bif Nat.beq x 60 then 1459 else 0) else (bif Nat.beq x 63 then 1469 else 0))) else (bif Nat.blt x 69 then (bif Nat.beq x 66 then 1471 else 0) else (bif Nat.blt x 72 then (bif Nat.beq x 69 then 1473 else 0) else (bif Nat.beq x 72 then 1475 else 0)))))) else (bif Nat.blt x 169 then (bif Nat.blt x 93 then (bif Nat.blt x 81 then (bif Nat.blt x 78 then (bif Nat.beq x 75 then 1477 else 0) else (bif Nat.beq x 78 then 1479 else 0)) else (bif Nat.blt x 84 then (bif Nat.beq x 81 then 1481 else 0) else (bif Nat.blt x 87 then (bif Nat.beq x 84 then 1483 else 0) else (bif Nat.beq x 87 then 1485 else 0)))) else (bif Nat.blt x 149 then (bif Nat.blt x 141 then (bif Nat.beq x 93 then 1409 else 0) else (bif Nat.blt x 146 then (bif Nat.beq x 141 then 1425 else 0) else (bif Nat.beq x 146 then 1447 else 0))) else (bif Nat.blt x 162 then (bif Nat.beq x 149 then 1449 else 0) else (bif Nat.blt x 165 then (bif Nat.beq x 162 then 1427 else 0) else (bif Nat.beq x 165 then 1455 else 0))))) else (bif Nat.blt x 208 then (bif Nat.blt x 186 then (bif Nat.blt x 183 then (bif Nat.beq x 169 then 1433 else 0) else (bif Nat.beq x 183 then 1461 else 0)) else (bif Nat.blt x 189 then (bif Nat.beq x 186 then 1463 else 0) else (bif Nat.blt x 192 then (bif Nat.beq x 189 then 1465 else 0) else (bif Nat.beq x 192 then 1467 else 0)))) else (bif Nat.blt x 294 then (bif Nat.blt x 282 then (bif Nat.beq x 208 then 1429 else 0) else (bif Nat.blt x 291 then (bif Nat.beq x 282 then 1435 else 0) else (bif Nat.beq x 291 then 1487 else 0))) else (bif Nat.blt x 297 then (bif Nat.beq x 294 then 1493 else 0) else (bif Nat.blt x 312 then (bif Nat.beq x 297 then 1489 else 0) else (bif Nat.beq x 312 then 1491 else 0))))))
def xflT (c x : Nat) : Nat := bif Nat.blt c 12 then (bif Nat.blt x 360 then (bif Nat.blt c 6 then (bif Nat.blt c 3 then (bif Nat.blt c 1 then (bif Nat.beq c 0 then xflT_0 x else 0) else (bif Nat.blt c 2 then (bif Nat.beq c 1 then xflT_1 x else 0) else (bif Nat.beq c 2 then xflT_2 x else 0))) else (bif Nat.blt c 4 then (bif Nat.beq c 3 then xflT_3 x else 0) else (bif Nat.blt c 5 then (bif Nat.beq c 4 then xflT_4 x else 0) else (bif Nat.beq c 5 then xflT_5 x else 0)))) else (bif Nat.blt c 9 then (bif Nat.blt c 7 then (bif Nat.beq c 6 then xflT_6 x else 0) else (bif Nat.blt c 8 then (bif Nat.beq c 7 then xflT_7 x else 0) else (bif Nat.beq c 8 then xflT_8 x else 0))) else (bif Nat.blt c 10 then (bif Nat.beq c 9 then xflT_9 x else 0) else (bif Nat.blt c 11 then (bif Nat.beq c 10 then xflT_10 x else 0) else (bif Nat.beq c 11 then xflT_11 x else 0))))) else 0) else 0
set_option maxRecDepth 100000 in
theorem xflT_a : (List.range 12).all (fun c => (List.range 360).all (fun x => match xflT c x with | 0 => true | v + 1 => xmem5 c x (v / 128) (v % 128 / 2) (Nat.beq (v % 2) 1) xfl)) = true := by decide +kernel
theorem xflT_ok {c x a b : Nat} {w : Bool} (hb : b < 64) (h : Nat.beq (xflT c x) (128 * a + 2 * b + w.toNat + 1) = true) : (c, x, a, b, w) ∈ xfl := by
  have h1 := Nat.eq_of_beq_eq_true h
  have hc : c < 12 := by
    cases hb : Nat.blt c 12 with
    | true => exact Nat.le_of_ble_eq_true hb
    | false => unfold xflT at h1; rw [hb] at h1; cases h1
  have hx : x < 360 := by
    cases hb : Nat.blt x 360 with
    | true => exact Nat.le_of_ble_eq_true hb
    | false => unfold xflT at h1; rw [hb] at h1; cases hb2 : Nat.blt c 12 <;> rw [hb2] at h1 <;> cases h1
  have h2 := List.all_eq_true.mp (List.all_eq_true.mp xflT_a c (List.mem_range.mpr hc)) x (List.mem_range.mpr hx)
  rw [h1] at h2
  have h3 := xmem5_ok h2
  cases w
  · have e1 : (128 * a + 2 * b + Bool.toNat false) / 128 = a := by show (128 * a + 2 * b + 0) / 128 = a; omega
    have e2 : (128 * a + 2 * b + Bool.toNat false) % 128 / 2 = b := by show (128 * a + 2 * b + 0) % 128 / 2 = b; omega
    have e3 : (128 * a + 2 * b + Bool.toNat false) % 2 = 0 := by show (128 * a + 2 * b + 0) % 2 = 0; omega
    rw [e1, e2, e3] at h3
    exact h3
  · have e1 : (128 * a + 2 * b + Bool.toNat true) / 128 = a := by show (128 * a + 2 * b + 1) / 128 = a; omega
    have e2 : (128 * a + 2 * b + Bool.toNat true) % 128 / 2 = b := by show (128 * a + 2 * b + 1) % 128 / 2 = b; omega
    have e3 : (128 * a + 2 * b + Bool.toNat true) % 2 = 1 := by show (128 * a + 2 * b + 1) % 2 = 1; omega
    rw [e1, e2, e3] at h3
    exact h3
def xkd (x : Nat) : Nat := bif Nat.blt x 256 then (bif Nat.blt x 128 then (bif Nat.blt x 64 then (bif Nat.blt x 32 then (bif Nat.blt x 16 then (bif Nat.blt x 8 then (bif Nat.blt x 4 then (bif Nat.blt x 2 then (bif Nat.blt x 1 then (bif Nat.beq x 0 then 3 else 0) else (bif Nat.beq x 1 then 1 else 0)) else (bif Nat.blt x 3 then (bif Nat.beq x 2 then 1 else 0) else (bif Nat.beq x 3 then 3 else 0))) else (bif Nat.blt x 6 then (bif Nat.blt x 5 then (bif Nat.beq x 4 then 1 else 0) else (bif Nat.beq x 5 then 1 else 0)) else (bif Nat.blt x 7 then (bif Nat.beq x 6 then 1 else 0) else (bif Nat.beq x 7 then 1 else 0)))) else (bif Nat.blt x 12 then (bif Nat.blt x 10 then (bif Nat.blt x 9 then (bif Nat.beq x 8 then 1 else 0) else (bif Nat.beq x 9 then 1 else 0)) else (bif Nat.blt x 11 then (bif Nat.beq x 10 then 1 else 0) else (bif Nat.beq x 11 then 1 else 0))) else (bif Nat.blt x 14 then (bif Nat.blt x 13 then (bif Nat.beq x 12 then 1 else 0) else (bif Nat.beq x 13 then 3 else 0)) else (bif Nat.blt x 15 then (bif Nat.beq x 14 then 1 else 0) else (bif Nat.beq x 15 then 1 else 0))))) else (bif Nat.blt x 24 then (bif Nat.blt x 20 then (bif Nat.blt x 18 then (bif Nat.blt x 17 then (bif Nat.beq x 16 then 1 else 0) else (bif Nat.beq x 17 then 1 else 0)) else (bif Nat.blt x 19 then (bif Nat.beq x 18 then 1 else 0) else (bif Nat.beq x 19 then 1 else 0))) else (bif Nat.blt x 22 then (bif Nat.blt x 21 then (bif Nat.beq x 20 then 1 else 0) else (bif Nat.beq x 21 then 1 else 0)) else (bif Nat.blt x 23 then (bif Nat.beq x 22 then 1 else 0) else (bif Nat.beq x 23 then 1 else 0)))) else (bif Nat.blt x 28 then (bif Nat.blt x 26 then (bif Nat.blt x 25 then (bif Nat.beq x 24 then 1 else 0) else (bif Nat.beq x 25 then 1 else 0)) else (bif Nat.blt x 27 then (bif Nat.beq x 26 then 1 else 0) else (bif Nat.beq x 27 then 3 else 0))) else (bif Nat.blt x 30 then (bif Nat.blt x 29 then (bif Nat.beq x 28 then 2 else 0) else (bif Nat.beq x 29 then 2 else 0)) else (bif Nat.blt x 31 then (bif Nat.beq x 30 then 1 else 0) else (bif Nat.beq x 31 then 1 else 0)))))) else (bif Nat.blt x 48 then (bif Nat.blt x 40 then (bif Nat.blt x 36 then (bif Nat.blt x 34 then (bif Nat.blt x 33 then (bif Nat.beq x 32 then 2 else 0) else (bif Nat.beq x 33 then 2 else 0)) else (bif Nat.blt x 35 then (bif Nat.beq x 34 then 1 else 0) else (bif Nat.beq x 35 then 2 else 0))) else (bif Nat.blt x 38 then (bif Nat.blt x 37 then (bif Nat.beq x 36 then 3 else 0) else (bif Nat.beq x 37 then 1 else 0)) else (bif Nat.blt x 39 then (bif Nat.beq x 38 then 3 else 0) else (bif Nat.beq x 39 then 1 else 0)))) else (bif Nat.blt x 44 then (bif Nat.blt x 42 then (bif Nat.blt x 41 then (bif Nat.beq x 40 then 2 else 0) else (bif Nat.beq x 41 then 1 else 0)) else (bif Nat.blt x 43 then (bif Nat.beq x 42 then 1 else 0) else (bif Nat.beq x 43 then 1 else 0))) else (bif Nat.blt x 46 then (bif Nat.blt x 45 then (bif Nat.beq x 44 then 2 else 0) else (bif Nat.beq x 45 then 1 else 0)) else (bif Nat.blt x 47 then (bif Nat.beq x 46 then 1 else 0) else (bif Nat.beq x 47 then 1 else 0))))) else (bif Nat.blt x 56 then (bif Nat.blt x 52 then (bif Nat.blt x 50 then (bif Nat.blt x 49 then (bif Nat.beq x 48 then 3 else 0) else (bif Nat.beq x 49 then 1 else 0)) else (bif Nat.blt x 51 then (bif Nat.beq x 50 then 1 else 0) else (bif Nat.beq x 51 then 3 else 0))) else (bif Nat.blt x 54 then (bif Nat.blt x 53 then (bif Nat.beq x 52 then 1 else 0) else (bif Nat.beq x 53 then 1 else 0)) else (bif Nat.blt x 55 then (bif Nat.beq x 54 then 1 else 0) else (bif Nat.beq x 55 then 1 else 0)))) else (bif Nat.blt x 60 then (bif Nat.blt x 58 then (bif Nat.blt x 57 then (bif Nat.beq x 56 then 3 else 0) else (bif Nat.beq x 57 then 1 else 0)) else (bif Nat.blt x 59 then (bif Nat.beq x 58 then 1 else 0) else (bif Nat.beq x 59 then 1 else 0))) else (bif Nat.blt x 62 then (bif Nat.blt x 61 then (bif Nat.beq x 60 then 1 else 0) else (bif Nat.beq x 61 then 1 else 0)) else (bif Nat.blt x 63 then (bif Nat.beq x 62 then 1 else 0) else (bif Nat.beq x 63 then 1 else 0))))))) else (bif Nat.blt x 96 then (bif Nat.blt x 80 then (bif Nat.blt x 72 then (bif Nat.blt x 68 then (bif Nat.blt x 66 then (bif Nat.blt x 65 then (bif Nat.beq x 64 then 1 else 0) else (bif Nat.beq x 65 then 3 else 0)) else (bif Nat.blt x 67 then (bif Nat.beq x 66 then 1 else 0) else (bif Nat.beq x 67 then 1 else 0))) else (bif Nat.blt x 70 then (bif Nat.blt x 69 then (bif Nat.beq x 68 then 1 else 0) else (bif Nat.beq x 69 then 1 else 0)) else (bif Nat.blt x 71 then (bif Nat.beq x 70 then 3 else 0) else (bif Nat.beq x 71 then 1 else 0)))) else (bif Nat.blt x 76 then (bif Nat.blt x 74 then (bif Nat.blt x 73 then (bif Nat.beq x 72 then 1 else 0) else (bif Nat.beq x 73 then 1 else 0)) else (bif Nat.blt x 75 then (bif Nat.beq x 74 then 1 else 0) else (bif Nat.beq x 75 then 1 else 0))) else (bif Nat.blt x 78 then (bif Nat.blt x 77 then (bif Nat.beq x 76 then 1 else 0) else (bif Nat.beq x 77 then 1 else 0)) else (bif Nat.blt x 79 then (bif Nat.beq x 78 then 1 else 0) else (bif Nat.beq x 79 then 1 else 0))))) else (bif Nat.blt x 88 then (bif Nat.blt x 84 then (bif Nat.blt x 82 then (bif Nat.blt x 81 then (bif Nat.beq x 80 then 1 else 0) else (bif Nat.beq x 81 then 1 else 0)) else (bif Nat.blt x 83 then (bif Nat.beq x 82 then 1 else 0) else (bif Nat.beq x 83 then 1 else 0))) else (bif Nat.blt x 86 then (bif Nat.blt x 85 then (bif Nat.beq x 84 then 1 else 0) else (bif Nat.beq x 85 then 1 else 0)) else (bif Nat.blt x 87 then (bif Nat.beq x 86 then 1 else 0) else (bif Nat.beq x 87 then 1 else 0)))) else (bif Nat.blt x 92 then (bif Nat.blt x 90 then (bif Nat.blt x 89 then (bif Nat.beq x 88 then 1 else 0) else (bif Nat.beq x 89 then 1 else 0)) else (bif Nat.blt x 91 then (bif Nat.beq x 90 then 1 else 0) else (bif Nat.beq x 91 then 1 else 0))) else (bif Nat.blt x 94 then (bif Nat.blt x 93 then (bif Nat.beq x 92 then 1 else 0) else (bif Nat.beq x 93 then 1 else 0)) else (bif Nat.blt x 95 then (bif Nat.beq x 94 then 1 else 0) else (bif Nat.beq x 95 then 1 else 0)))))) else (bif Nat.blt x 112 then (bif Nat.blt x 104 then (bif Nat.blt x 100 then (bif Nat.blt x 98 then (bif Nat.blt x 97 then (bif Nat.beq x 96 then 1 else 0) else (bif Nat.beq x 97 then 1 else 0)) else (bif Nat.blt x 99 then (bif Nat.beq x 98 then 1 else 0) else (bif Nat.beq x 99 then 1 else 0))) else (bif Nat.blt x 102 then (bif Nat.blt x 101 then (bif Nat.beq x 100 then 1 else 0) else (bif Nat.beq x 101 then 1 else 0)) else (bif Nat.blt x 103 then (bif Nat.beq x 102 then 1 else 0) else (bif Nat.beq x 103 then 1 else 0)))) else (bif Nat.blt x 108 then (bif Nat.blt x 106 then (bif Nat.blt x 105 then (bif Nat.beq x 104 then 1 else 0) else (bif Nat.beq x 105 then 1 else 0)) else (bif Nat.blt x 107 then (bif Nat.beq x 106 then 1 else 0) else (bif Nat.beq x 107 then 1 else 0))) else (bif Nat.blt x 110 then (bif Nat.blt x 109 then (bif Nat.beq x 108 then 1 else 0) else (bif Nat.beq x 109 then 1 else 0)) else (bif Nat.blt x 111 then (bif Nat.beq x 110 then 1 else 0) else (bif Nat.beq x 111 then 1 else 0))))) else (bif Nat.blt x 120 then (bif Nat.blt x 116 then (bif Nat.blt x 114 then (bif Nat.blt x 113 then (bif Nat.beq x 112 then 1 else 0) else (bif Nat.beq x 113 then 1 else 0)) else (bif Nat.blt x 115 then (bif Nat.beq x 114 then 1 else 0) else (bif Nat.beq x 115 then 1 else 0))) else (bif Nat.blt x 118 then (bif Nat.blt x 117 then (bif Nat.beq x 116 then 1 else 0) else (bif Nat.beq x 117 then 1 else 0)) else (bif Nat.blt x 119 then (bif Nat.beq x 118 then 1 else 0) else (bif Nat.beq x 119 then 1 else 0)))) else (bif Nat.blt x 124 then (bif Nat.blt x 122 then (bif Nat.blt x 121 then (bif Nat.beq x 120 then 2 else 0) else (bif Nat.beq x 121 then 2 else 0)) else (bif Nat.blt x 123 then (bif Nat.beq x 122 then 2 else 0) else (bif Nat.beq x 123 then 2 else 0))) else (bif Nat.blt x 126 then (bif Nat.blt x 125 then (bif Nat.beq x 124 then 2 else 0) else (bif Nat.beq x 125 then 2 else 0)) else (bif Nat.blt x 127 then (bif Nat.beq x 126 then 2 else 0) else (bif Nat.beq x 127 then 2 else 0)))))))) else (bif Nat.blt x 192 then (bif Nat.blt x 160 then (bif Nat.blt x 144 then (bif Nat.blt x 136 then (bif Nat.blt x 132 then (bif Nat.blt x 130 then (bif Nat.blt x 129 then (bif Nat.beq x 128 then 2 else 0) else (bif Nat.beq x 129 then 3 else 0)) else (bif Nat.blt x 131 then (bif Nat.beq x 130 then 1 else 0) else (bif Nat.beq x 131 then 1 else 0))) else (bif Nat.blt x 134 then (bif Nat.blt x 133 then (bif Nat.beq x 132 then 1 else 0) else (bif Nat.beq x 133 then 2 else 0)) else (bif Nat.blt x 135 then (bif Nat.beq x 134 then 1 else 0) else (bif Nat.beq x 135 then 1 else 0)))) else (bif Nat.blt x 140 then (bif Nat.blt x 138 then (bif Nat.blt x 137 then (bif Nat.beq x 136 then 1 else 0) else (bif Nat.beq x 137 then 2 else 0)) else (bif Nat.blt x 139 then (bif Nat.beq x 138 then 2 else 0) else (bif Nat.beq x 139 then 1 else 0))) else (bif Nat.blt x 142 then (bif Nat.blt x 141 then (bif Nat.beq x 140 then 1 else 0) else (bif Nat.beq x 141 then 1 else 0)) else (bif Nat.blt x 143 then (bif Nat.beq x 142 then 1 else 0) else (bif Nat.beq x 143 then 1 else 0))))) else (bif Nat.blt x 152 then (bif Nat.blt x 148 then (bif Nat.blt x 146 then (bif Nat.blt x 145 then (bif Nat.beq x 144 then 1 else 0) else (bif Nat.beq x 145 then 1 else 0)) else (bif Nat.blt x 147 then (bif Nat.beq x 146 then 1 else 0) else (bif Nat.beq x 147 then 1 else 0))) else (bif Nat.blt x 150 then (bif Nat.blt x 149 then (bif Nat.beq x 148 then 1 else 0) else (bif Nat.beq x 149 then 1 else 0)) else (bif Nat.blt x 151 then (bif Nat.beq x 150 then 1 else 0) else (bif Nat.beq x 151 then 1 else 0)))) else (bif Nat.blt x 156 then (bif Nat.blt x 154 then (bif Nat.blt x 153 then (bif Nat.beq x 152 then 1 else 0) else (bif Nat.beq x 153 then 1 else 0)) else (bif Nat.blt x 155 then (bif Nat.beq x 154 then 1 else 0) else (bif Nat.beq x 155 then 1 else 0))) else (bif Nat.blt x 158 then (bif Nat.blt x 157 then (bif Nat.beq x 156 then 1 else 0) else (bif Nat.beq x 157 then 1 else 0)) else (bif Nat.blt x 159 then (bif Nat.beq x 158 then 2 else 0) else (bif Nat.beq x 159 then 1 else 0)))))) else (bif Nat.blt x 176 then (bif Nat.blt x 168 then (bif Nat.blt x 164 then (bif Nat.blt x 162 then (bif Nat.blt x 161 then (bif Nat.beq x 160 then 1 else 0) else (bif Nat.beq x 161 then 1 else 0)) else (bif Nat.blt x 163 then (bif Nat.beq x 162 then 1 else 0) else (bif Nat.beq x 163 then 1 else 0))) else (bif Nat.blt x 166 then (bif Nat.blt x 165 then (bif Nat.beq x 164 then 1 else 0) else (bif Nat.beq x 165 then 1 else 0)) else (bif Nat.blt x 167 then (bif Nat.beq x 166 then 1 else 0) else (bif Nat.beq x 167 then 1 else 0)))) else (bif Nat.blt x 172 then (bif Nat.blt x 170 then (bif Nat.blt x 169 then (bif Nat.beq x 168 then 1 else 0) else (bif Nat.beq x 169 then 1 else 0)) else (bif Nat.blt x 171 then (bif Nat.beq x 170 then 1 else 0) else (bif Nat.beq x 171 then 1 else 0))) else (bif Nat.blt x 174 then (bif Nat.blt x 173 then (bif Nat.beq x 172 then 1 else 0) else (bif Nat.beq x 173 then 1 else 0)) else (bif Nat.blt x 175 then (bif Nat.beq x 174 then 1 else 0) else (bif Nat.beq x 175 then 1 else 0))))) else (bif Nat.blt x 184 then (bif Nat.blt x 180 then (bif Nat.blt x 178 then (bif Nat.blt x 177 then (bif Nat.beq x 176 then 1 else 0) else (bif Nat.beq x 177 then 1 else 0)) else (bif Nat.blt x 179 then (bif Nat.beq x 178 then 1 else 0) else (bif Nat.beq x 179 then 1 else 0))) else (bif Nat.blt x 182 then (bif Nat.blt x 181 then (bif Nat.beq x 180 then 1 else 0) else (bif Nat.beq x 181 then 1 else 0)) else (bif Nat.blt x 183 then (bif Nat.beq x 182 then 1 else 0) else (bif Nat.beq x 183 then 1 else 0)))) else (bif Nat.blt x 188 then (bif Nat.blt x 186 then (bif Nat.blt x 185 then (bif Nat.beq x 184 then 1 else 0) else (bif Nat.beq x 185 then 1 else 0)) else (bif Nat.blt x 187 then (bif Nat.beq x 186 then 1 else 0) else (bif Nat.beq x 187 then 1 else 0))) else (bif Nat.blt x 190 then (bif Nat.blt x 189 then (bif Nat.beq x 188 then 1 else 0) else (bif Nat.beq x 189 then 1 else 0)) else (bif Nat.blt x 191 then (bif Nat.beq x 190 then 1 else 0) else (bif Nat.beq x 191 then 1 else 0))))))) else (bif Nat.blt x 224 then (bif Nat.blt x 208 then (bif Nat.blt x 200 then (bif Nat.blt x 196 then (bif Nat.blt x 194 then (bif Nat.blt x 193 then (bif Nat.beq x 192 then 1 else 0) else (bif Nat.beq x 193 then 1 else 0)) else (bif Nat.blt x 195 then (bif Nat.beq x 194 then 1 else 0) else (bif Nat.beq x 195 then 1 else 0))) else (bif Nat.blt x 198 then (bif Nat.blt x 197 then (bif Nat.beq x 196 then 1 else 0) else (bif Nat.beq x 197 then 1 else 0)) else (bif Nat.blt x 199 then (bif Nat.beq x 198 then 1 else 0) else (bif Nat.beq x 199 then 1 else 0)))) else (bif Nat.blt x 204 then (bif Nat.blt x 202 then (bif Nat.blt x 201 then (bif Nat.beq x 200 then 1 else 0) else (bif Nat.beq x 201 then 1 else 0)) else (bif Nat.blt x 203 then (bif Nat.beq x 202 then 1 else 0) else (bif Nat.beq x 203 then 1 else 0))) else (bif Nat.blt x 206 then (bif Nat.blt x 205 then (bif Nat.beq x 204 then 1 else 0) else (bif Nat.beq x 205 then 1 else 0)) else (bif Nat.blt x 207 then (bif Nat.beq x 206 then 1 else 0) else (bif Nat.beq x 207 then 1 else 0))))) else (bif Nat.blt x 216 then (bif Nat.blt x 212 then (bif Nat.blt x 210 then (bif Nat.blt x 209 then (bif Nat.beq x 208 then 1 else 0) else (bif Nat.beq x 209 then 1 else 0)) else (bif Nat.blt x 211 then (bif Nat.beq x 210 then 1 else 0) else (bif Nat.beq x 211 then 1 else 0))) else (bif Nat.blt x 214 then (bif Nat.blt x 213 then (bif Nat.beq x 212 then 1 else 0) else (bif Nat.beq x 213 then 1 else 0)) else (bif Nat.blt x 215 then (bif Nat.beq x 214 then 1 else 0) else (bif Nat.beq x 215 then 1 else 0)))) else (bif Nat.blt x 220 then (bif Nat.blt x 218 then (bif Nat.blt x 217 then (bif Nat.beq x 216 then 2 else 0) else (bif Nat.beq x 217 then 2 else 0)) else (bif Nat.blt x 219 then (bif Nat.beq x 218 then 2 else 0) else (bif Nat.beq x 219 then 2 else 0))) else (bif Nat.blt x 222 then (bif Nat.blt x 221 then (bif Nat.beq x 220 then 2 else 0) else (bif Nat.beq x 221 then 2 else 0)) else (bif Nat.blt x 223 then (bif Nat.beq x 222 then 2 else 0) else (bif Nat.beq x 223 then 2 else 0)))))) else (bif Nat.blt x 240 then (bif Nat.blt x 232 then (bif Nat.blt x 228 then (bif Nat.blt x 226 then (bif Nat.blt x 225 then (bif Nat.beq x 224 then 2 else 0) else (bif Nat.beq x 225 then 2 else 0)) else (bif Nat.blt x 227 then (bif Nat.beq x 226 then 2 else 0) else (bif Nat.beq x 227 then 2 else 0))) else (bif Nat.blt x 230 then (bif Nat.blt x 229 then (bif Nat.beq x 228 then 2 else 0) else (bif Nat.beq x 229 then 2 else 0)) else (bif Nat.blt x 231 then (bif Nat.beq x 230 then 2 else 0) else (bif Nat.beq x 231 then 2 else 0)))) else (bif Nat.blt x 236 then (bif Nat.blt x 234 then (bif Nat.blt x 233 then (bif Nat.beq x 232 then 2 else 0) else (bif Nat.beq x 233 then 2 else 0)) else (bif Nat.blt x 235 then (bif Nat.beq x 234 then 2 else 0) else (bif Nat.beq x 235 then 2 else 0))) else (bif Nat.blt x 238 then (bif Nat.blt x 237 then (bif Nat.beq x 236 then 2 else 0) else (bif Nat.beq x 237 then 2 else 0)) else (bif Nat.blt x 239 then (bif Nat.beq x 238 then 2 else 0) else (bif Nat.beq x 239 then 2 else 0))))) else (bif Nat.blt x 248 then (bif Nat.blt x 244 then (bif Nat.blt x 242 then (bif Nat.blt x 241 then (bif Nat.beq x 240 then 2 else 0) else (bif Nat.beq x 241 then 2 else 0)) else (bif Nat.blt x 243 then (bif Nat.beq x 242 then 2 else 0) else (bif Nat.beq x 243 then 2 else 0))) else (bif Nat.blt x 246 then (bif Nat.blt x 245 then (bif Nat.beq x 244 then 2 else 0) else (bif Nat.beq x 245 then 2 else 0)) else (bif Nat.blt x 247 then (bif Nat.beq x 246 then 2 else 0) else (bif Nat.beq x 247 then 2 else 0)))) else (bif Nat.blt x 252 then (bif Nat.blt x 250 then (bif Nat.blt x 249 then (bif Nat.beq x 248 then 2 else 0) else (bif Nat.beq x 249 then 2 else 0)) else (bif Nat.blt x 251 then (bif Nat.beq x 250 then 2 else 0) else (bif Nat.beq x 251 then 2 else 0))) else (bif Nat.blt x 254 then (bif Nat.blt x 253 then (bif Nat.beq x 252 then 2 else 0) else (bif Nat.beq x 253 then 2 else 0)) else (bif Nat.blt x 255 then (bif Nat.beq x 254 then 2 else 0) else (bif Nat.beq x 255 then 2 else 0))))))))) else 0
set_option maxRecDepth 100000 in
theorem xkd_a : (List.range 256).all (fun a => match xkd a with | 1 => xmemN a xvm | 2 => xmemN a xsm | 3 => xmemN a xim | _ => true) = true := by decide +kernel
theorem xkd_b {a v : Nat} (h : Nat.beq (xkd a) (v + 1) = true) : (match v + 1 with | 1 => decide (a ∈ xvm) | 2 => decide (a ∈ xsm) | 3 => decide (a ∈ xim) | _ => true) = true := by
  have h1 := Nat.eq_of_beq_eq_true h
  have hx : a < 256 := by
    cases hb : Nat.blt a 256 with
    | true => exact Nat.le_of_ble_eq_true hb
    | false => unfold xkd at h1; rw [hb] at h1; cases h1
  have h2 := List.all_eq_true.mp xkd_a a (List.mem_range.mpr hx)
  rw [h1] at h2
  match v, h2 with
  | 0, h2 => exact decide_eq_true (xmemN_ok h2)
  | 1, h2 => exact decide_eq_true (xmemN_ok h2)
  | 2, h2 => exact decide_eq_true (xmemN_ok h2)
  | _ + 3, _ => rfl
def xlnkF (k : Nat) (e : XEn) : Bool := match e with
  | (i, _, a, b) => match i with
    | .getfield ix => Nat.blt b 64 && (Nat.beq (xflT (xK k) ix) (128 * a + 2 * b + 1 + 1) || Nat.beq (xflT (xK k) ix) (128 * a + 2 * b + 0 + 1))
    | .invokevirtual ix => Nat.beq (xmlT (xK k) ix) (a + 1) && Nat.beq (xkd a) 1
    | .invokestatic ix => (match b with | 0 => Nat.beq (xmlT (xK k) ix) (a + 1) && Nat.beq (xkd a) 2 | _ => false)
    | .invokespecial ix => (match b with | 0 => Nat.beq (xmlT (xK k) ix) (a + 1) && Nat.beq (xkd a) 3 | _ => false)
    | _ => false
theorem xlnkF_ok {k : Nat} {e : XEn} (h : xlnkF k e = true) : xlnk k e = true := by
  obtain ⟨i, l, a, b⟩ := e
  unfold xlnkF at h
  simp only [] at h
  split at h
  · rename_i ix
    rw [Bool.and_eq_true, Bool.or_eq_true] at h
    have hb : b < 64 := Nat.le_of_ble_eq_true h.1
    show (decide ((xK k, ix, a, b, true) ∈ xfl) || decide ((xK k, ix, a, b, false) ∈ xfl)) = true
    rw [Bool.or_eq_true]
    rcases h.2 with h | h
    · exact Or.inl (decide_eq_true (xflT_ok (w := true) hb h))
    · exact Or.inr (decide_eq_true (xflT_ok (w := false) hb h))
  · rename_i ix
    rw [Bool.and_eq_true] at h
    show (decide ((xK k, ix, a) ∈ xml) && decide (a ∈ xvm)) = true
    rw [Bool.and_eq_true]
    exact ⟨decide_eq_true (xmlT_ok h.1), xkd_b (v := 0) h.2⟩
  · rename_i ix
    match b, h with
    | 0, h =>
      replace h := (Bool.and_eq_true _ _).mp h
      show (decide ((xK k, ix, a) ∈ xml) && decide (a ∈ xsm)) = true
      rw [Bool.and_eq_true]
      exact ⟨decide_eq_true (xmlT_ok h.1), xkd_b (v := 1) h.2⟩
  · rename_i ix
    match b, h with
    | 0, h =>
      replace h := (Bool.and_eq_true _ _).mp h
      show (decide ((xK k, ix, a) ∈ xml) && decide (a ∈ xim)) = true
      rw [Bool.and_eq_true]
      exact ⟨decide_eq_true (xmlT_ok h.1), xkd_b (v := 2) h.2⟩
  · cases h
def xchF (k pc : Nat) (b : UInt8) (L : List UInt8) (e : XEn) : Bool := (xfd b.toNat L e.1 e.2.1 || decide (decode (xB k) pc = .ok (e.1, e.2.1))) && ((xlen e.1 e.2.1 && ((match xoff e.1 with | some o => decide ((pc : Int) + o = (e.2.2.1 : Int)) | none => true) && (xlnkF k e || xlnk k e))) && (xlen2 e.1 e.2.1 && xthc k pc e))
theorem xchF_ok {k pc : Nat} {b : UInt8} {L : List UInt8} {e : XEn} (h0 : (xB k).data.toList.drop pc = b :: L) (h : xchF k pc b L e = true) : xchk k pc e = true := by
  unfold xchF at h
  rw [Bool.and_eq_true, Bool.or_eq_true, Bool.and_eq_true, Bool.and_eq_true (xlen e.1 e.2.1), Bool.and_eq_true _ (xlnkF k e || xlnk k e), Bool.or_eq_true (xlnkF k e)] at h
  unfold xchk xent
  rw [Bool.and_eq_true, Bool.and_eq_true, Bool.and_eq_true (xlen e.1 e.2.1), Bool.and_eq_true _ (xlnk k e)]
  exact ⟨⟨h.1.elim (fun h => decide_eq_true (xfd_ok h0 h)) id, h.2.1.1, h.2.1.2.1, h.2.1.2.2.elim xlnkF_ok id⟩, h.2.2⟩
def xwk (k : Nat) : Nat → List UInt8 → Nat → Bool
  | 0, _, _ => true
  | m + 1, b :: L, pc => (match xcode k pc with | some e => xchF k pc b L e | none => true) && xwk k m L (pc + 1)
  | _ + 1, [], _ => false
theorem xwk_ok {k : Nat} {e : XEn} : ∀ (m : Nat) (L : List UInt8) (pc j : Nat), xwk k m L pc = true → j < m → xcode k (pc + j) = some e → ∃ b r, L.drop j = b :: r ∧ xchF k (pc + j) b r e = true
  | m + 1, b :: L, pc, 0, h, _, hx => by
    have h1 := ((Bool.and_eq_true _ _).mp h).1
    rw [Nat.add_zero] at hx
    rw [hx] at h1
    exact ⟨b, L, rfl, h1⟩
  | m + 1, b :: L, pc, j + 1, h, hj, hx => by
    have h1 := ((Bool.and_eq_true _ _).mp h).2
    have e1 : pc + (j + 1) = pc + 1 + j := by omega
    rw [e1] at hx ⊢
    exact xwk_ok m L (pc + 1) j h1 (by omega) hx
  | _ + 1, [], _, _, h, _, _ => by cases h
  | 0, _, _, _, _, hj, _ => by omega
def xwkR (lo n : Nat) : Bool := (List.range n).all (fun k => xwk (lo + k) (xSz (lo + k)) (xB (lo + k)).data.toList 0)
end
