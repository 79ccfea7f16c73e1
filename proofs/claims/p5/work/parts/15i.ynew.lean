/-! Instructions of the fast machine that make cells. -/
theorem y_dh_push {G : yG} {cnt : Nat} {h h' : yH} {c : yCe} (hl : cnt < 256) (hh : ∀ i, i < 2 ^ y_hd → y_get y_hd y_no h' i = if i = cnt then c else y_get y_hd y_no h i) : y_dh G (cnt + 1) h' = y_dh G cnt h ++ [y_dc G c] := by
  unfold y_dh
  rw [List.range_succ, List.map_append]
  congr 1
  · refine List.map_congr_left (fun i hi => ?_)
    have hi := List.mem_range.mp hi
    rw [hh i (show i < 256 by omega), if_neg (by omega)]
  · show [y_dc G (y_get y_hd y_no h' cnt)] = _
    rw [hh cnt hl, if_pos rfl]
theorem y_sl_rep {G : yG} {l : Nat} {z : yV} (hl : l ≤ 4096) : y_sl G l (y_rep (y_dp l) z) = List.replicate l (y_dec G z) := by
  unfold y_sl
  apply List.ext_getElem
  · rw [List.length_map, List.length_range, List.length_replicate]
  · intro i h1 h2
    have hi : i < l := by rw [List.length_replicate] at h2; exact h2
    rw [List.getElem_map, List.getElem_range, List.getElem_replicate, y_rep_e y_z z _ _ (y_dp_lt hi hl)]
theorem y_mk_e {G : yG} {P : yR → Prop} {MC MS t l : Nat} {s : yT} {h : yH} {m : yM} {k : Nat → yH → yM → yR} (h0 : P none)
    (hk : m.2.2.1 = true → m.1 + 1 ≤ MC → m.2.1 + l ≤ MS → ∀ h', y_dw G h' (m.1 + 1, m.2.1 + l, m.2.2.1, m.2.2.2 + 1) = (true, (y_dw G h m).2 ++ [(t, y_sl G l s)]) → P (k m.2.2.2 h' (m.1 + 1, m.2.1 + l, m.2.2.1, m.2.2.2 + 1))) : P (y_mk MC MS t l s h m k) := by
  obtain ⟨cu, su, f, cnt⟩ := m
  show P (y_if f (y_if (Nat.blt cnt (nat_lit 256)) (y_if (Nat.ble (Nat.add cu (nat_lit 1)) MC) (y_if (Nat.ble (Nat.add su l) MS) (y_set y_hd h cnt (t, l, s) (fun h => y_fz (Nat.add cu (nat_lit 1)) (fun cu => y_fz (Nat.add su l) (fun su => y_fz (Nat.succ cnt) (fun c => k cnt h (cu, su, f, c))))) none) none) none) none) none)
  cases hf : f with
  | false => exact h0
  | true =>
    rw [y_ift]
    cases h1 : Nat.blt cnt (nat_lit 256) with
    | false => exact h0
    | true =>
      rw [y_ift]
      cases h2 : Nat.ble (Nat.add cu (nat_lit 1)) MC with
      | false => exact h0
      | true =>
        rw [y_ift]
        cases h3 : Nat.ble (Nat.add su l) MS with
        | false => exact h0
        | true =>
          rw [y_ift]
          have hc : cnt < 256 := Nat.le_of_ble_eq_true h1
          refine y_set_e y_no _ h cnt (t, l, s) _ _ hc h0 (fun h' hh' => ?_)
          rw [y_fz_e, y_fz_e, y_fz_e]
          subst hf
          refine hk rfl (Nat.le_of_ble_eq_true h2) (Nat.le_of_ble_eq_true h3) h' ?_
          show (true, y_dh G (cnt + 1) h') = (true, y_dh G cnt h ++ [(t, y_sl G l s)])
          rw [y_dh_push hc hh']
          rfl
section YST
variable {G : yG} {xrec : Nat → List Value → XW → Option (XO × XW)} {xs : List Int32} {E : yE} {rec : yCl} {k N pc pc' len a b : Nat} {i : Instr} {n : yKK}
theorem g_new {MC MS l : Nat} {s : yT} {ix : Nat} (hc : xcode k pc = some (.new ix, len, a, 0)) (hMC : MC = xMc k) (hMS : MS = xMs k) (hd : xdef a = y_sl G l s) (hn : yGd G xrec xs E rec k N (pc + 3) n) : yGd G xrec xs E rec k (N + 1) pc (yNew MC MS a l s n) := by
  intro ls st h m
  subst hMC; subst hMS
  refine y_mk_e (G := G) (P := yTo G (xstep xrec xs k) k (N + 1) (y_dx G pc ls st h m)) yTo_no (fun hf h1 h2 h' hw => ?_)
  refine yTo_step ?_ (hn ls (y_r m.2.2.2 :: st) h' _)
  have hlen : (y_dw G h m).2.length = m.2.2.2 := y_dh_len
  have hll : (xdef a).length = l := by rw [hd, y_sl_len]
  show xstep xrec xs k (pc, y_dl G ls, y_ds G st, m.1, m.2.1, y_dw G h m) = some (.inl (pc + 3, y_dl G ls, Value.ref m.2.2.2 :: y_ds G st, m.1 + 1, m.2.1 + l, y_dw G h' (m.1 + 1, m.2.1 + l, m.2.2.1, m.2.2.2 + 1)))
  rw [hw]
  unfold xstep; dsimp only; rw [hc]; dsimp only
  rw [show (y_dw G h m).1 = true from hf, hll, show Nat.ble (m.1 + 1) (xMc k) = true from Nat.ble_eq_true_of_le h1, show Nat.ble (m.2.1 + l) (xMs k) = true from Nat.ble_eq_true_of_le h2, Bool.and_self, Bool.and_self, cond_true, hlen, hd]
theorem g_newa {MC MS t : Nat} {z : yV} {u : Value} (hu : y_dec G z = u) (ho : ∀ (ls : XL) (r : List Value) (q cu su : Nat) (σ : XW), σ.1 = true → q ≤ 4096 → cu + 1 ≤ xMc k → su + q ≤ xMs k → xstep xrec xs k (pc, ls, .int (Int32.ofNat q) :: r, cu, su, σ) = some (.inl (pc', ls, .ref σ.2.length :: r, cu + 1, su + q, (true, σ.2 ++ [(t, List.replicate q u)])))) (hMC : MC = xMc k) (hMS : MS = xMs k) (hn : yGd G xrec xs E rec k N pc' n) : yGd G xrec xs E rec k (N + 1) pc (yNewa MC MS t z n) := by
  intro ls st h m
  subst hMC; subst hMS
  refine y_pop_e yTo_no (fun v r hs => ?_)
  subst hs
  refine y_isI_e yTo_no (fun q e => ?_)
  subst e
  cases hl : Nat.ble q (nat_lit 4096) with
  | false => exact yTo_no
  | true =>
    have hl := Nat.le_of_ble_eq_true hl
    rw [y_ift]
    refine y_mk_e (G := G) (P := yTo G (xstep xrec xs k) k (N + 1) (y_dx G pc ls (y_i q :: r) h m)) yTo_no (fun hf h1 h2 h' hw => ?_)
    refine yTo_step ?_ (hn ls (y_r m.2.2.2 :: r) h' _)
    have hlen : (y_dw G h m).2.length = m.2.2.2 := y_dh_len
    show xstep xrec xs k (pc, y_dl G ls, Value.int (Int32.ofNat q) :: y_ds G r, m.1, m.2.1, y_dw G h m) = some (.inl (pc', y_dl G ls, Value.ref m.2.2.2 :: y_ds G r, m.1 + 1, m.2.1 + q, y_dw G h' (m.1 + 1, m.2.1 + q, m.2.2.1, m.2.2.2 + 1)))
    rw [hw, ho _ _ _ _ _ _ hf hl h1 h2, hlen, y_sl_rep hl, hu]
end YST
