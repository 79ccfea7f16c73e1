/-! The other ends, throws, lengths. -/
section YST
variable {G : yG} {xrec : Nat → List Value → XW → Option (XO × XW)} {xs : List Int32} {E : yE} {rec : yCl} {k N pc pc' len a b : Nat} {i : Instr} {n : yKK}
theorem g_retl {MC MS : Nat} (hc : xcode k pc = some (.lreturn, len, a, b)) (hr : xRet k = some .long) (e4 : MC = xMc k) (e5 : MS = xMs k) : yGd G xrec xs E rec k 0 pc (yRet1 MC MS y_kJ n) := by
  intro ls st h m
  subst e4; subst e5
  refine y_pop_e (P := yTo G (xstep xrec xs k) k 0 (y_dx G pc ls st h m)) yTo_no (fun v r hs0 => ?_)
  subst hs0
  refine y_nil_e (P := yTo G (xstep xrec xs k) k 0 (y_dx G pc ls (v :: r) h m)) yTo_no (fun hs => ?_)
  subst hs
  cases hk : y_kJ v with
  | false => exact yTo_no
  | true =>
    rw [y_ift, y_m4_e]
    refine y_rm_e (P := yTo G (xstep xrec xs k) k 0 (y_dx G pc ls [v] h m)) yTo_no (fun g1 g2 => ?_)
    obtain ⟨x, hx⟩ := y_kJ_e (G := G) hk
    refine ⟨0, y_dx G pc ls [v] h m, (y_dx G pc ls [v] h m, none), Nat.le_refl 0, rfl, ?_, ?_⟩
    · unfold xstep y_dx
      dsimp only
      rw [hc]
    · refine xs_fin (c := y_dx G pc ls [v] h m) hc (by rw [hr]; rfl) g1 g2 ?_
      unfold xfin y_dx y_ds
      dsimp only [List.map]
      rw [hr, hx]
      show some (Sum.inl (some (Value.long x)), y_dw G h m) = some (Sum.inl (some (y_dec G v)), y_dw G h m)
      rw [hx]
theorem y_kZ_e {G : yG} {v : yV} (h : y_kZ v = true) : ∃ x : Int32, y_dec G v = .int x ∧ (decide (x = 0) || decide (x = 1)) = true := by
  rcases v with n | n | n | n | n | x
  · have hn : n ≤ 1 := Nat.le_of_ble_eq_true h
    have h2 : n = 0 ∨ n = 1 := by omega
    rcases h2 with rfl | rfl
    · exact ⟨_, rfl, by decide⟩
    · exact ⟨_, rfl, by decide⟩
  all_goals cases h
theorem g_retz {MC MS : Nat} (hc : xcode k pc = some (.ireturn, len, a, b)) (hr : xRet k = some .boolean) (e4 : MC = xMc k) (e5 : MS = xMs k) : yGd G xrec xs E rec k 0 pc (yRet1 MC MS y_kZ n) := by
  intro ls st h m
  subst e4; subst e5
  refine y_pop_e (P := yTo G (xstep xrec xs k) k 0 (y_dx G pc ls st h m)) yTo_no (fun v r hs0 => ?_)
  subst hs0
  refine y_nil_e (P := yTo G (xstep xrec xs k) k 0 (y_dx G pc ls (v :: r) h m)) yTo_no (fun hs => ?_)
  subst hs
  cases hk : y_kZ v with
  | false => exact yTo_no
  | true =>
    rw [y_ift, y_m4_e]
    refine y_rm_e (P := yTo G (xstep xrec xs k) k 0 (y_dx G pc ls [v] h m)) yTo_no (fun g1 g2 => ?_)
    obtain ⟨x, hx, hz⟩ := y_kZ_e (G := G) hk
    refine ⟨0, y_dx G pc ls [v] h m, (y_dx G pc ls [v] h m, none), Nat.le_refl 0, rfl, ?_, ?_⟩
    · unfold xstep y_dx
      dsimp only
      rw [hc]
    · refine xs_fin (c := y_dx G pc ls [v] h m) hc (by rw [hr]; rfl) g1 g2 ?_
      unfold xfin y_dx y_ds
      dsimp only [List.map]
      rw [hr, hx]
      show (bif decide (x = 0) || decide (x = 1) then some (Sum.inl (some (Value.int x)), y_dw G h m) else none) = some (Sum.inl (some (y_dec G v)), y_dw G h m)
      rw [hz, cond_true, hx]
theorem g_obj {ix : Nat} (hc : xcode k pc = some (.invokespecial ix, len, a, 2)) (hst : (Nat.ble 1 (xFr k) && Nat.ble 20 (xLo k)) = true) (hn : yGd G xrec xs E rec k N (pc + 3) n) : yGd G xrec xs E rec k (N + 1) pc (yObj n) := by
  intro ls st h m
  refine y_pop_e (P := yTo G (xstep xrec xs k) k (N + 1) (y_dx G pc ls st h m)) yTo_no (fun v r hs => ?_)
  subst hs
  cases hl : y_lw r with
  | false => exact yTo_no
  | true =>
    rw [y_ift]
    refine y_isR_e (P := yTo G (xstep xrec xs k) k (N + 1) (y_dx G pc ls (v :: r) h m)) yTo_no (fun q e => ?_)
    subst e
    refine yTo_step ?_ (hn ls r h m)
    obtain ⟨s1, s2⟩ := xand hst
    have h3 : Nat.ble (xcat (y_ds G r) + 12) (xLo k) = true := Nat.ble_eq_true_of_le (by have := y_lw_e (G := G) hl; have := xble s2; omega)
    show xstep xrec xs k (pc, y_dl G ls, Value.ref q :: y_ds G r, m.1, m.2.1, y_dw G h m) = some (.inl (pc + 3, y_dl G ls, y_ds G r, m.1, m.2.1, y_dw G h m))
    unfold xstep; dsimp only; rw [hc]; dsimp only; rw [s1, h3, Bool.and_self, cond_true]; (try rfl)
theorem g_alen (hc : xcode k pc = some (.arraylength, len, a, b)) (hn : yGd G xrec xs E rec k N (pc + 1) n) : yGd G xrec xs E rec k (N + 1) pc (yAlen n) := by
  intro ls st h m
  refine y_pop_e (P := yTo G (xstep xrec xs k) k (N + 1) (y_dx G pc ls st h m)) yTo_no (fun v r hs => ?_)
  subst hs
  refine y_isR_e (P := yTo G (xstep xrec xs k) k (N + 1) (y_dx G pc ls (v :: r) h m)) yTo_no (fun q e => ?_)
  subst e
  refine y_at_e (P := yTo G (xstep xrec xs k) k (N + 1) (y_dx G pc ls (y_r q :: r) h m)) yTo_no (fun t l s hq hm hg => ?_)
  cases ht : Nat.ble (nat_lit 100) t with
  | false => exact yTo_no
  | true =>
    rw [y_ift]
    refine yTo_step ?_ (hn ls (y_i l :: r) h m)
    have h1 : xnth (y_dw G h m).2 q = some (t, y_sl G l s) := by
      show xnth (y_dh G m.2.2.2 h) q = _
      rw [y_dh_at hq, hg]
      rfl
    show xstep xrec xs k (pc, y_dl G ls, Value.ref q :: y_ds G r, m.1, m.2.1, y_dw G h m) = some (.inl (pc + 1, y_dl G ls, Value.int (Int32.ofNat l) :: y_ds G r, m.1, m.2.1, y_dw G h m))
    unfold xstep; dsimp only; rw [hc]; dsimp only; rw [h1]; dsimp only
    rw [show Nat.ble 100 t = true from ht, cond_true, y_sl_len]
theorem g_thr {MC MS ix : Nat} (hb : 0 < b) (hc : xcode k pc = some (.new ix, len, a, b)) (hst : (Nat.ble 6 (xFr k) && Nat.ble 90 (xLo k)) = true) (e4 : MC = xMc k) (e5 : MS = xMs k) : yGd G xrec xs E rec k 0 pc (yThr MC MS a n) := by
  intro ls st h m
  subst e4; subst e5
  cases hl : y_lw st with
  | false => show yTo G (xstep xrec xs k) k 0 _ (y_if (y_lw st) _ none); rw [hl]; exact yTo_no
  | true =>
    show yTo G (xstep xrec xs k) k 0 _ (y_if (y_lw st) (y_m4 m (fun cu su _ _ => y_rm (nat_lit 1) (nat_lit 6) (xMc k) (xMs k) cu su (some (.inr (.inr (a, h, m)))))) none)
    rw [hl, y_ift, y_m4_e]
    refine y_rm_e (P := yTo G (xstep xrec xs k) k 0 (y_dx G pc ls st h m)) yTo_no (fun g1 g2 => ?_)
    obtain ⟨s1, s2⟩ := xand hst
    have h3 : Nat.ble (xcat (y_ds G st) + 82) (xLo k) = true := Nat.ble_eq_true_of_le (by have := y_lw_e (G := G) hl; have := xble s2; omega)
    refine ⟨0, y_dx G pc ls st h m, (y_dx G pc ls st h m, some a), Nat.le_refl 0, rfl, ?_, ?_⟩
    · obtain ⟨b', rfl⟩ : ∃ b', b = b' + 1 := ⟨b - 1, by omega⟩
      show xstep xrec xs k (pc, y_dl G ls, y_ds G st, m.1, m.2.1, y_dw G h m) = some (.inr ((pc, y_dl G ls, y_ds G st, m.1, m.2.1, y_dw G h m), some a))
      unfold xstep; dsimp only; rw [hc]; dsimp only
      rw [s1, h3, show Nat.ble (m.1 + 1) (xMc k) = true from Nat.ble_eq_true_of_le g1, show Nat.ble (m.2.1 + 6) (xMs k) = true from Nat.ble_eq_true_of_le g2]
      rfl
    · unfold xfin2 y_dx
      dsimp only
      rw [show Nat.ble m.1 (xMc k) = true from Nat.ble_eq_true_of_le (by omega), show Nat.ble m.2.1 (xMs k) = true from Nat.ble_eq_true_of_le (by omega)]
      rfl
end YST
