/-! Ends of methods of the fast machine. -/
theorem y_nil_e {P : yR → Prop} {st : yS} {kk : yR} (h0 : P none) (h : st = [] → P kk) : P (y_nil st kk) := by
  cases st with
  | nil => exact h rfl
  | cons v r => exact h0
section YST
variable {G : yG} {xrec : Nat → List Value → XW → Option (XO × XW)} {xs : List Int32} {E : yE} {rec : yCl} {k N pc pc' len a b : Nat} {i : Instr} {n : yKK}
theorem xs_fin {c : XC} {i : Instr} {e : Nat × Nat × Nat} {o : XO} (hc : xcode k c.1 = some (i, e)) (hr : xrt i (xRet k) = true) (h1 : c.2.2.2.1 ≤ xMc k) (h2 : c.2.2.2.2.1 ≤ xMs k) (hf : xfin k (c, none) = some (o, c.2.2.2.2.2)) : xfin2 k (c, none) = some (o, c.2.2.2.2.2) := by
  unfold xfin2
  dsimp only
  rw [hc, show Nat.ble c.2.2.2.1 (xMc k) = true from Nat.ble_eq_true_of_le h1, show Nat.ble c.2.2.2.2.1 (xMs k) = true from Nat.ble_eq_true_of_le h2]
  dsimp only
  rw [hr, Bool.and_self, Bool.and_self, cond_true, hf]
theorem g_ret0 {MC MS : Nat} (hc : xcode k pc = some (.return_, len, a, b)) (hr : xRet k = none) (e4 : MC = xMc k) (e5 : MS = xMs k) : yGd G xrec xs E rec k 0 pc (yRet0 MC MS n) := by
  intro ls st h m
  subst e4; subst e5
  refine y_nil_e (P := yTo G (xstep xrec xs k) k 0 (y_dx G pc ls st h m)) yTo_no (fun hs => ?_)
  subst hs
  rw [y_m4_e]
  refine y_rm_e (P := yTo G (xstep xrec xs k) k 0 (y_dx G pc ls [] h m)) yTo_no (fun g1 g2 => ?_)
  refine ⟨0, y_dx G pc ls [] h m, (y_dx G pc ls [] h m, none), Nat.le_refl 0, rfl, ?_, ?_⟩
  · unfold xstep y_dx
    dsimp only
    rw [hc]
  · refine xs_fin (c := y_dx G pc ls [] h m) hc (by rw [hr]; rfl) g1 g2 ?_
    unfold xfin y_dx
    dsimp only
    rw [hr]
    rfl
theorem g_reti {MC MS : Nat} (hc : xcode k pc = some (.ireturn, len, a, b)) (hr : xRet k = some .int) (e4 : MC = xMc k) (e5 : MS = xMs k) : yGd G xrec xs E rec k 0 pc (yRet1 MC MS y_kI n) := by
  intro ls st h m
  subst e4; subst e5
  refine y_pop_e (P := yTo G (xstep xrec xs k) k 0 (y_dx G pc ls st h m)) yTo_no (fun v r hs0 => ?_)
  subst hs0
  refine y_nil_e (P := yTo G (xstep xrec xs k) k 0 (y_dx G pc ls (v :: r) h m)) yTo_no (fun hs => ?_)
  subst hs
  cases hk : y_kI v with
  | false => exact yTo_no
  | true =>
    rw [y_ift, y_m4_e]
    refine y_rm_e (P := yTo G (xstep xrec xs k) k 0 (y_dx G pc ls [v] h m)) yTo_no (fun g1 g2 => ?_)
    obtain ⟨x, hx⟩ := y_kI_e (G := G) hk
    refine ⟨0, y_dx G pc ls [v] h m, (y_dx G pc ls [v] h m, none), Nat.le_refl 0, rfl, ?_, ?_⟩
    · unfold xstep y_dx
      dsimp only
      rw [hc]
    · refine xs_fin (c := y_dx G pc ls [v] h m) hc (by rw [hr]; rfl) g1 g2 ?_
      unfold xfin y_dx y_ds
      dsimp only [List.map]
      rw [hr, hx]
      show some (Sum.inl (some (Value.int x)), y_dw G h m) = some (Sum.inl (some (y_dec G v)), y_dw G h m)
      rw [hx]
end YST
