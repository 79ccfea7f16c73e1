/-! Instructions of the fast machine that read and write arrays. -/
theorem y_kI_e {G : yG} {v : yV} (h : y_kI v = true) : ∃ x, y_dec G v = .int x := by
  rcases v with n | n | n | n | n | x <;> first | exact ⟨_, rfl⟩ | cases h
theorem y_kJ_e {G : yG} {v : yV} (h : y_kJ v = true) : ∃ x, y_dec G v = .long x := by
  rcases v with n | n | n | n | n | x <;> first | exact ⟨_, rfl⟩ | cases h
theorem y_kR_e {G : yG} {v : yV} (h : y_kR v = true) : ∃ x, y_dec G v = .ref x := by
  rcases v with n | n | n | n | n | x <;> first | exact ⟨_, rfl⟩ | cases h
theorem y_tnc {j l : Nat} (h : j < l) (hl : l ≤ 4096) : (Int32.ofNat j).toNatClampNeg = j := Int32.toNatClampNeg_ofNat_of_lt (by omega)
theorem y_xin {j l : Nat} (h : j < l) (hl : l ≤ 4096) : xin (Int32.ofNat j) l = true := by
  unfold xin
  rw [y_tnc h hl, show Nat.blt j l = true from Nat.ble_eq_true_of_le h, Bool.and_true]
  refine decide_eq_true (fun hn => ?_)
  rw [Int32.lt_iff_toInt_lt, Int32.toInt_ofNat_of_lt (by omega)] at hn
  have h0 : (0 : Int32).toInt = 0 := by decide
  rw [h0] at hn
  omega
section YST
variable {G : yG} {xrec : Nat → List Value → XW → Option (XO × XW)} {xs : List Int32} {E : yE} {rec : yCl} {k N pc pc' len a b : Nat} {i : Instr} {n : yKK}
variable {q cu su : Nat} {ls : XL} {r fs : List Value} {σ : XW} {j : Int32} {rec0 : Nat → List Value → XW → Option (XO × XW)}
theorem xs_iald {v : Int32} (hc : xcode k pc = some (.iaload, len, a, b)) (h1 : xnth σ.2 q = some (100, fs)) (hj : xin j fs.length = true) (h2 : xnth fs j.toNatClampNeg = some (.int v)) : xstep rec0 xs k (pc, ls, .int j :: .ref q :: r, cu, su, σ) = some (.inl (pc + 1, ls, .int v :: r, cu, su, σ)) := by
  unfold xstep; dsimp only; rw [hc]; dsimp only; rw [h1]; dsimp only
  rw [Nat.beq_refl, hj, Bool.and_self, cond_true, h2]
theorem xs_lald {v : Int64} (hc : xcode k pc = some (.laload, len, a, b)) (h1 : xnth σ.2 q = some (101, fs)) (hj : xin j fs.length = true) (h2 : xnth fs j.toNatClampNeg = some (.long v)) : xstep rec0 xs k (pc, ls, .int j :: .ref q :: r, cu, su, σ) = some (.inl (pc + 1, ls, .long v :: r, cu, su, σ)) := by
  unfold xstep; dsimp only; rw [hc]; dsimp only; rw [h1]; dsimp only
  rw [Nat.beq_refl, hj, Bool.and_self, cond_true, h2]
theorem xs_cald {v : Int32} (hc : xcode k pc = some (.caload, len, a, b)) (h1 : xnth σ.2 q = some (102, fs)) (hj : xin j fs.length = true) (h2 : xnth fs j.toNatClampNeg = some (.int v)) : xstep rec0 xs k (pc, ls, .int j :: .ref q :: r, cu, su, σ) = some (.inl (pc + 1, ls, .int v :: r, cu, su, σ)) := by
  unfold xstep; dsimp only; rw [hc]; dsimp only; rw [h1]; dsimp only
  rw [Nat.beq_refl, hj, Bool.and_self, cond_true, h2]
theorem xs_aald {v : Nat} (hc : xcode k pc = some (.aaload, len, a, b)) (h1 : xnth σ.2 q = some (103, fs)) (hj : xin j fs.length = true) (h2 : xnth fs j.toNatClampNeg = some (.ref v)) : xstep rec0 xs k (pc, ls, .int j :: .ref q :: r, cu, su, σ) = some (.inl (pc + 1, ls, .ref v :: r, cu, su, σ)) := by
  unfold xstep; dsimp only; rw [hc]; dsimp only; rw [h1]; dsimp only
  rw [Nat.beq_refl, hj, Bool.and_self, cond_true, h2]
theorem xs_iast {v : Int32} (hc : xcode k pc = some (.iastore, len, a, b)) (h1 : xnth σ.2 q = some (100, fs)) (hj : xin j fs.length = true) : xstep rec0 xs k (pc, ls, .int v :: .int j :: .ref q :: r, cu, su, σ) = some (.inl (pc + 1, ls, r, cu, su, (σ.1, σ.2.set q (100, fs.set j.toNatClampNeg (.int v))))) := by
  unfold xstep; dsimp only; rw [hc]; dsimp only; rw [h1]; dsimp only
  rw [Nat.beq_refl, hj, Bool.and_self, cond_true]
theorem xs_last {v : Int64} (hc : xcode k pc = some (.lastore, len, a, b)) (h1 : xnth σ.2 q = some (101, fs)) (hj : xin j fs.length = true) : xstep rec0 xs k (pc, ls, .long v :: .int j :: .ref q :: r, cu, su, σ) = some (.inl (pc + 1, ls, r, cu, su, (σ.1, σ.2.set q (101, fs.set j.toNatClampNeg (.long v))))) := by
  unfold xstep; dsimp only; rw [hc]; dsimp only; rw [h1]; dsimp only
  rw [Nat.beq_refl, hj, Bool.and_self, cond_true]
/-- a load, by what the other machine does -/
theorem g_ald {ok : yV → Bool} (ho : ∀ (ls : XL) (r fs : List Value) (q j cu su : Nat) (σ : XW) (v : yV), ok v = true → xnth σ.2 q = some (a, fs) → xin (Int32.ofNat j) fs.length = true → xnth fs (Int32.ofNat j).toNatClampNeg = some (y_dec G v) → xstep xrec xs k (pc, ls, .int (Int32.ofNat j) :: .ref q :: r, cu, su, σ) = some (.inl (pc + 1, ls, y_dec G v :: r, cu, su, σ))) (hn : yGd G xrec xs E rec k N (pc + 1) n) : yGd G xrec xs E rec k (N + 1) pc (yAld a ok n) := by
  intro ls st h m
  refine y_pop_e yTo_no (fun v r hs1 => y_pop_e yTo_no (fun u r2 hs2 => ?_))
  subst hs2; subst hs1
  refine y_isI_e yTo_no (fun j e1 => y_isR_e yTo_no (fun q e2 => ?_))
  subst e1; subst e2
  refine y_at_e (P := yTo G (xstep xrec xs k) k (N + 1) (y_dx G pc ls (y_i j :: y_r q :: r2) h m)) yTo_no (fun t l s hq hm hg => ?_)
  refine y_bq_e (P := yTo G (xstep xrec xs k) k (N + 1) (y_dx G pc ls (y_i j :: y_r q :: r2) h m)) yTo_no (fun ht => ?_)
  refine y_ix_e (P := yTo G (xstep xrec xs k) k (N + 1) (y_dx G pc ls (y_i j :: y_r q :: r2) h m)) yTo_no (fun hb hl => ?_)
  generalize hv : y_get (y_dp l) y_z s j = v
  cases hx : ok v with
  | false => exact yTo_no
  | true =>
    rw [y_ift]
    subst ht
    refine yTo_step ?_ (hn ls (v :: r2) h m)
    have h1 : xnth (y_dw G h m).2 q = some (t, y_sl G l s) := by
      show xnth (y_dh G m.2.2.2 h) q = _
      rw [y_dh_at hq, hg]
      rfl
    exact ho _ _ _ _ _ _ _ _ v hx h1 (by rw [y_sl_len]; exact y_xin hb hl) (by rw [y_tnc hb hl, y_sl_at hb, hv])
theorem g_ast {ok : yV → Bool} (ho : ∀ (ls : XL) (r fs : List Value) (q j cu su : Nat) (σ : XW) (v : yV), ok v = true → xnth σ.2 q = some (a, fs) → xin (Int32.ofNat j) fs.length = true → xstep xrec xs k (pc, ls, y_dec G v :: .int (Int32.ofNat j) :: .ref q :: r, cu, su, σ) = some (.inl (pc + 1, ls, r, cu, su, (σ.1, σ.2.set q (a, fs.set (Int32.ofNat j).toNatClampNeg (y_dec G v)))))) (hn : yGd G xrec xs E rec k N (pc + 1) n) : yGd G xrec xs E rec k (N + 1) pc (yAst a ok n) := by
  intro ls st h m
  refine y_pop_e yTo_no (fun x r0 hs0 => y_pop_e yTo_no (fun v r hs1 => y_pop_e yTo_no (fun u r2 hs2 => ?_)))
  subst hs2; subst hs1; subst hs0
  refine y_isI_e yTo_no (fun j e1 => y_isR_e yTo_no (fun q e2 => ?_))
  subst e1; subst e2
  refine y_at_e (P := yTo G (xstep xrec xs k) k (N + 1) (y_dx G pc ls (x :: y_i j :: y_r q :: r2) h m)) yTo_no (fun t l s hq hm hg => ?_)
  refine y_bq_e (P := yTo G (xstep xrec xs k) k (N + 1) (y_dx G pc ls (x :: y_i j :: y_r q :: r2) h m)) yTo_no (fun ht => ?_)
  refine y_ix_e (P := yTo G (xstep xrec xs k) k (N + 1) (y_dx G pc ls (x :: y_i j :: y_r q :: r2) h m)) yTo_no (fun hb hl => ?_)
  cases hx : ok x with
  | false => exact yTo_no
  | true =>
    rw [y_ift]
    subst ht
    refine y_set_e y_z _ s j x _ _ (y_dp_lt hb hl) yTo_no (fun s' hs' => ?_)
    refine y_set_e y_no _ h q (t, l, s') _ _ (Nat.lt_of_lt_of_le hq hm) yTo_no (fun h' hh' => ?_)
    refine yTo_step ?_ (hn ls r2 h' m)
    have h1 : xnth (y_dw G h m).2 q = some (t, y_sl G l s) := by
      show xnth (y_dh G m.2.2.2 h) q = _
      rw [y_dh_at hq, hg]
      rfl
    have h2 : y_dw G h' m = ((y_dw G h m).1, (y_dw G h m).2.set q (t, (y_sl G l s).set (Int32.ofNat j).toNatClampNeg (y_dec G x))) := by
      show (m.2.2.1, y_dh G m.2.2.2 h') = (m.2.2.1, (y_dh G m.2.2.2 h).set q (t, (y_sl G l s).set (Int32.ofNat j).toNatClampNeg (y_dec G x)))
      rw [y_dh_set hm hh', y_tnc hb hl, ← y_sl_set hl hs']
      rfl
    show xstep xrec xs k (pc, y_dl G ls, y_dec G x :: Value.int (Int32.ofNat j) :: Value.ref q :: y_ds G r2, m.1, m.2.1, y_dw G h m) = some (.inl (pc + 1, y_dl G ls, y_ds G r2, m.1, m.2.1, y_dw G h' m))
    rw [h2]
    exact ho _ _ _ _ _ _ _ _ x hx h1 (by rw [y_sl_len]; exact y_xin hb hl)
end YST
