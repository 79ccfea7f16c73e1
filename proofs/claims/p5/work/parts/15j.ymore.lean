/-! Still more instructions of the fast machine. -/
theorem y_i2l32 {x : Nat} (h : x < 2147483648) : (Int32.ofNat x).toInt64 = Int64.ofNat x := by
  apply Int64.toInt_inj.mp
  rw [Int32.toInt_toInt64, Int32.toInt_ofNat_of_lt (by omega), Int64.toInt_ofNat_of_lt (by omega)]
theorem y_i2l32n {x : Nat} (h : 2147483648 ≤ x % 4294967296) : (Int32.ofNat x).toInt64 = Int64.ofNat (x % 4294967296 + 18446744069414584320) := by
  apply Int64.toInt_inj.mp
  rw [Int32.toInt_toInt64, y_ti32, y_ti64]
  omega
section YST
variable {G : yG} {xrec : Nat → List Value → XW → Option (XO × XW)} {xs : List Int32} {E : yE} {rec : yCl} {k N pc pc' len a b : Nat} {i : Instr} {n : yKK}
theorem g_inc {j x : Nat} {y : Int32} (hc : xcode k pc = some (i, len, a, b)) (hp : xpl i = true) (hy : y = Int32.ofNat x) (ho : ∀ ls st u, xgl ls j = some (.int u) → xop i pc a (xNl k) ls st = some (pc', xs1 ls j (.int (u + y)), st)) (hn : yGd G xrec xs E rec k N pc' n) : yGd G xrec xs E rec k (N + 1) pc (yInc j x n) := by
  intro ls st h m
  refine y_on_e yTo_no (fun v hv => ?_)
  have h1 := y_lf_e G ls j v hv
  refine y_isI_e yTo_no (fun u e => ?_)
  subst e
  rw [y_fz_e, y_lr_e]
  refine yTo_op hc hp ((ho _ _ _ h1).trans ?_) (hn (_ :: _) st h m)
  unfold xs1
  rw [y_f1_e, hy, ← y_add32]
  rfl
theorem g_l2i (hc : xcode k pc = some (i, len, a, b)) (hp : xpl i = true) (ho : ∀ nl ls r x, xop i pc a nl ls (.long x :: r) = some (pc', ls, .int x.toInt32 :: r)) (hn : yGd G xrec xs E rec k N pc' n) : yGd G xrec xs E rec k (N + 1) pc (yL2i n) := by
  intro ls st h m
  refine y_pop_e yTo_no (fun v r hs => ?_)
  subst hs
  refine y_isJ_e yTo_no (fun x e => ?_)
  subst e
  rw [y_fz_e]
  refine yTo_op hc hp ((ho _ _ _ _).trans ?_) (hn ls (_ :: r) h m)
  rw [Int64.toInt32_ofNat', ← y_n32 x]
  rfl
theorem g_i2l (hE : yOk G xs E) (hc : xcode k pc = some (i, len, a, b)) (hp : xpl i = true) (ho : ∀ nl ls r x, xop i pc a nl ls (.int x :: r) = some (pc', ls, .long x.toInt64 :: r)) (hn : yGd G xrec xs E rec k N pc' n) : yGd G xrec xs E rec k (N + 1) pc (yI2l n) := by
  intro ls st h m
  refine y_pop_e yTo_no (fun v r hs => ?_)
  subst hs
  refine y_bd_e (fun x e => ?_) (fun _ _ => yTo_no) (fun _ _ => yTo_no) (fun x e => ?_) (fun _ _ => yTo_no) (fun _ _ => yTo_no)
  · subst e
    cases hb : Nat.blt x (nat_lit 2147483648) with
    | true =>
      rw [y_ift]
      have hx : x < 2147483648 := Nat.le_of_ble_eq_true hb
      refine yTo_op hc hp ((ho _ _ _ _).trans ?_) (hn ls (y_j x :: r) h m)
      rw [y_i2l32 hx]
      rfl
    | false =>
      rw [y_iff]
      cases hc2 : Nat.ble (nat_lit 2147483648) (Nat.mod x (nat_lit 4294967296)) with
      | false => exact yTo_no
      | true =>
        have hx : 2147483648 ≤ x % 4294967296 := Nat.le_of_ble_eq_true hc2
        rw [y_ift, y_fz_e]
        refine yTo_op hc hp ((ho _ _ _ _).trans ?_) (hn ls (_ :: r) h m)
        rw [y_i2l32n hx]
        rfl
  · subst e
    refine yTo_op hc hp ((ho _ _ _ _).trans ?_) (hn ls (y_t x :: r) h m)
    show some (pc', y_dl G ls, Value.long (G.1 x).toInt64 :: y_ds G r) = some (pc', y_dl G ls, Value.long (G.2 x) :: y_ds G r)
    rw [hE.2.2.2.2.1]
theorem y_i2c_e (x : Nat) : ((Int32.ofNat x).toUInt32 % 65536).toInt32 = Int32.ofNat (x % 65536) := by
  apply Int32.toBitVec_inj.mp
  apply BitVec.eq_of_toNat_eq
  show (x % 2 ^ 32) % 65536 = (x % 65536) % 2 ^ 32
  omega
theorem g_i2c (hE : yOk G xs E) (hc : xcode k pc = some (i, len, a, b)) (hp : xpl i = true) (ho : ∀ nl ls r x, xop i pc a nl ls (.int x :: r) = some (pc', ls, .int (x.toUInt32 % 65536).toInt32 :: r)) (hn : yGd G xrec xs E rec k N pc' n) : yGd G xrec xs E rec k (N + 1) pc (yI2c n) := by
  intro ls st h m
  refine y_pop_e yTo_no (fun v r hs => ?_)
  subst hs
  refine y_bd_e (fun x e => ?_) (fun _ _ => yTo_no) (fun _ _ => yTo_no) (fun x e => y_on_e yTo_no (fun q hq => ?_)) (fun _ _ => yTo_no) (fun _ _ => yTo_no)
  · subst e
    rw [y_fz_e]
    refine yTo_op hc hp ((ho _ _ _ _).trans ?_) (hn ls (_ :: r) h m)
    rw [y_i2c_e]
    rfl
  · subst e
    obtain ⟨f, hf, hr⟩ := hE.1 _ _ _ _ hq
    have hf : some (fun (x : Int32) (_ : Int32) => (x.toUInt32 % 65536).toInt32) = some f := hf
    have hf := Option.some.inj hf
    subst hf
    rw [y_vi_s] at hr
    refine yTo_op hc hp ((ho _ _ _ _).trans ?_) (hn ls (y_s q :: r) h m)
    show some (pc', y_dl G ls, Value.int ((G.1 x).toUInt32 % 65536).toInt32 :: y_ds G r) = some (pc', y_dl G ls, Value.int (G.1 q) :: y_ds G r)
    rw [hr]
theorem g_dup (hc : xcode k pc = some (.dup, len, a, b)) (hn : yGd G xrec xs E rec k N (pc + 1) n) : yGd G xrec xs E rec k (N + 1) pc (yDup n) := by
  intro ls st h m
  refine y_pop_e yTo_no (fun v r hs => ?_)
  subst hs
  refine y_bd_e (fun x e => ?_) (fun x e => ?_) (fun _ _ => yTo_no) (fun x e => ?_) (fun _ _ => yTo_no) (fun _ _ => yTo_no)
  · subst e; exact yTo_op hc rfl rfl (hn ls (_ :: _ :: r) h m)
  · subst e; exact yTo_op hc rfl rfl (hn ls (_ :: _ :: r) h m)
  · subst e; exact yTo_op hc rfl rfl (hn ls (_ :: _ :: r) h m)
theorem g_dup2 (hc : xcode k pc = some (.dup2, len, a, b)) (hn : yGd G xrec xs E rec k N (pc + 1) n) : yGd G xrec xs E rec k (N + 1) pc (yDup2 n) := by
  intro ls st h m
  refine y_pop_e yTo_no (fun v r hs => ?_)
  subst hs
  refine y_bd_e (fun x e => y_pop_e yTo_no (fun u r2 hs2 => y_isR_e yTo_no (fun q e2 => ?_))) (fun _ _ => yTo_no) (fun x e => ?_) (fun _ _ => yTo_no) (fun _ _ => yTo_no) (fun _ _ => yTo_no)
  · subst e; subst hs2; subst e2; exact yTo_op hc rfl rfl (hn ls (_ :: _ :: _ :: _ :: r2) h m)
  · subst e; exact yTo_op hc rfl rfl (hn ls (_ :: _ :: r) h m)
theorem g_pop2 (hc : xcode k pc = some (.pop2, len, a, b)) (hn : yGd G xrec xs E rec k N (pc + 1) n) : yGd G xrec xs E rec k (N + 1) pc (yPop2 n) := by
  intro ls st h m
  refine y_pop_e yTo_no (fun v r hs => ?_)
  subst hs
  refine y_isJ_e yTo_no (fun x e => ?_)
  subst e; exact yTo_op hc rfl rfl (hn ls r h m)
end YST
