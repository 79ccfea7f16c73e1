/-! Instructions of the fast machine that read and write cells. -/
theorem y_dp_lt {l j : Nat} (h : j < l) (hl : l ≤ 4096) : j < 2 ^ y_dp l := by
  have hb : ∀ c : Nat, (Nat.ble l c = true ∧ l ≤ c) ∨ Nat.ble l c = false := fun c => by
    cases hc : Nat.ble l c with
    | true => exact Or.inl ⟨rfl, Nat.le_of_ble_eq_true hc⟩
    | false => exact Or.inr rfl
  unfold y_dp
  rcases hb 16 with ⟨h1, h2⟩ | h1
  · rw [show Nat.ble l (nat_lit 16) = true from h1, y_ift]
    exact Nat.lt_of_lt_of_le h h2
  · rw [show Nat.ble l (nat_lit 16) = false from h1, y_iff]
    rcases hb 64 with ⟨h1, h2⟩ | h1
    · rw [show Nat.ble l (nat_lit 64) = true from h1, y_ift]
      exact Nat.lt_of_lt_of_le h h2
    · rw [show Nat.ble l (nat_lit 64) = false from h1, y_iff]
      rcases hb 256 with ⟨h1, h2⟩ | h1
      · rw [show Nat.ble l (nat_lit 256) = true from h1, y_ift]
        exact Nat.lt_of_lt_of_le h h2
      · rw [show Nat.ble l (nat_lit 256) = false from h1, y_iff]
        exact Nat.lt_of_lt_of_le h hl
theorem y_dh_at {G : yG} {cnt q : Nat} {h : yH} (hq : q < cnt) : xnth (y_dh G cnt h) q = some (y_dc G (y_get y_hd y_no h q)) := by
  rw [xnth_eq]
  unfold y_dh
  rw [List.getElem?_map, List.getElem?_range hq]
  rfl
theorem y_sl_at {G : yG} {l j : Nat} {s : yT} (hj : j < l) : xnth (y_sl G l s) j = some (y_dec G (y_get (y_dp l) y_z s j)) := by
  rw [xnth_eq]
  unfold y_sl
  rw [List.getElem?_map, List.getElem?_range hj]
  rfl
theorem y_sl_len {G : yG} {l : Nat} {s : yT} : (y_sl G l s).length = l := by unfold y_sl; rw [List.length_map, List.length_range]
theorem y_dh_len {G : yG} {l : Nat} {s : yH} : (y_dh G l s).length = l := by unfold y_dh; rw [List.length_map, List.length_range]
theorem y_map_set {α β : Type} {f g : Nat → α} {F : α → β} {l j : Nat} {v : α} (h : ∀ i, i < l → g i = if i = j then v else f i) : (List.range l).map (fun i => F (g i)) = ((List.range l).map (fun i => F (f i))).set j (F v) := by
  apply List.ext_getElem
  · simp
  · intro i h1 h2
    have hi : i < l := by simpa using h1
    rw [List.getElem_set]
    simp only [List.getElem_map, List.getElem_range]
    rw [h i hi]
    by_cases hij : i = j
    · rw [if_pos hij, if_pos hij.symm]
    · rw [if_neg hij, if_neg (Ne.symm hij)]
theorem y_sl_set {G : yG} {l j : Nat} {s s' : yT} {v : yV} (hl : l ≤ 4096) (h : ∀ i, i < 2 ^ y_dp l → y_get (y_dp l) y_z s' i = if i = j then v else y_get (y_dp l) y_z s i) : y_sl G l s' = (y_sl G l s).set j (y_dec G v) :=
  y_map_set (F := y_dec G) (fun i hi => h i (y_dp_lt hi hl))
theorem y_dh_set {G : yG} {cnt q : Nat} {h h' : yH} {c : yCe} (hl : cnt ≤ 256) (hh : ∀ i, i < 2 ^ y_hd → y_get y_hd y_no h' i = if i = q then c else y_get y_hd y_no h i) : y_dh G cnt h' = (y_dh G cnt h).set q (y_dc G c) :=
  y_map_set (F := y_dc G) (fun i hi => hh i (Nat.lt_of_lt_of_le hi hl))
section YEL
variable {P : yR → Prop}
theorem y_at_e {h : yH} {m : yM} {q : Nat} {k : Nat → Nat → yT → yR} (h0 : P none) (hk : ∀ t l s, q < m.2.2.2 → m.2.2.2 ≤ 256 → y_get y_hd y_no h q = (t, l, s) → P (k t l s)) : P (y_at h m q k) := by
  show P (y_if (Nat.blt q m.2.2.2) (y_if (Nat.ble m.2.2.2 (nat_lit 256)) (k (y_get y_hd y_no h q).1 (y_get y_hd y_no h q).2.1 (y_get y_hd y_no h q).2.2) none) none)
  cases h1 : Nat.blt q m.2.2.2 with
  | false => rw [y_iff]; exact h0
  | true =>
    rw [y_ift]
    cases h2 : Nat.ble m.2.2.2 (nat_lit 256) with
    | false => rw [y_iff]; exact h0
    | true => rw [y_ift]; exact hk _ _ _ (Nat.le_of_ble_eq_true h1) (Nat.le_of_ble_eq_true h2) rfl
theorem y_ix_e {l j : Nat} {k : yR} (h0 : P none) (hk : j < l → l ≤ 4096 → P k) : P (y_ix l j k) := by
  unfold y_ix
  cases h1 : Nat.blt j l with
  | false => rw [y_iff]; exact h0
  | true =>
    rw [y_ift]
    cases h2 : Nat.ble l (nat_lit 4096) with
    | false => rw [y_iff]; exact h0
    | true => rw [y_ift]; exact hk (Nat.le_of_ble_eq_true h1) (Nat.le_of_ble_eq_true h2)
theorem y_bq_e {a b : Nat} {k : yR} (h0 : P none) (hk : a = b → P k) : P (y_if (Nat.beq a b) k none) := by
  cases h1 : Nat.beq a b with
  | false => exact h0
  | true => exact hk (Nat.eq_of_beq_eq_true h1)
end YEL
section YST
variable {G : yG} {xrec : Nat → List Value → XW → Option (XO × XW)} {xs : List Int32} {E : yE} {rec : yCl} {k N pc pc' len a b : Nat} {i : Instr} {n : yKK}
theorem xs_getf {rec : Nat → List Value → XW → Option (XO × XW)} {q cu su ix : Nat} {ls : XL} {r fs : List Value} {v : Value} {σ : XW} (hc : xcode k pc = some (.getfield ix, len, a, b)) (h1 : xnth σ.2 q = some (a, fs)) (h2 : xnth fs b = some v) : xstep rec xs k (pc, ls, .ref q :: r, cu, su, σ) = some (.inl (pc + 3, ls, v :: r, cu, su, σ)) := by
  unfold xstep
  dsimp only
  rw [hc]
  dsimp only
  rw [h1]
  dsimp only
  rw [Nat.beq_refl, cond_true, h2]
theorem xs_putf {rec : Nat → List Value → XW → Option (XO × XW)} {q cu su ix : Nat} {ls : XL} {r fs : List Value} {v : Value} {σ : XW} (hc : xcode k pc = some (.putfield ix, len, a, b)) (h1 : xnth σ.2 q = some (a, fs)) (h2 : xfit (xfty a b) v = true) (h3 : b < fs.length) : xstep rec xs k (pc, ls, v :: .ref q :: r, cu, su, σ) = some (.inl (pc + 3, ls, r, cu, su, (σ.1, σ.2.set q (a, fs.set b v)))) := by
  unfold xstep
  dsimp only
  rw [hc]
  dsimp only
  rw [h1]
  dsimp only
  rw [Nat.beq_refl, h2, show Nat.blt b fs.length = true from Nat.ble_eq_true_of_le h3, Bool.and_self, Bool.and_self, cond_true]
theorem g_getf {ix : Nat} (hc : xcode k pc = some (.getfield ix, len, a, b)) (hn : yGd G xrec xs E rec k N (pc + 3) n) : yGd G xrec xs E rec k (N + 1) pc (yGetf a b n) := by
  intro ls st h m
  refine y_pop_e yTo_no (fun v r hs => ?_)
  subst hs
  refine y_isR_e yTo_no (fun q e => ?_)
  subst e
  refine y_at_e (P := yTo G (xstep xrec xs k) k (N + 1) (y_dx G pc ls (y_r q :: r) h m)) yTo_no (fun t l s hq hm hg => ?_)
  refine y_bq_e (P := yTo G (xstep xrec xs k) k (N + 1) (y_dx G pc ls (y_r q :: r) h m)) yTo_no (fun ht => ?_)
  refine y_ix_e (P := yTo G (xstep xrec xs k) k (N + 1) (y_dx G pc ls (y_r q :: r) h m)) yTo_no (fun hb hl => ?_)
  refine yTo_step ?_ (hn ls (y_get (y_dp l) y_z s b :: r) h m)
  have h1 : xnth (y_dw G h m).2 q = some (t, y_sl G l s) := by
    show xnth (y_dh G m.2.2.2 h) q = _
    rw [y_dh_at hq, hg]
    rfl
  subst ht
  exact xs_getf hc h1 (y_sl_at hb)
theorem g_putf {ix : Nat} {ok : yV → Bool} (hc : xcode k pc = some (.putfield ix, len, a, b)) (hok : ∀ v, ok v = true → xfit (xfty a b) (y_dec G v) = true) (hn : yGd G xrec xs E rec k N (pc + 3) n) : yGd G xrec xs E rec k (N + 1) pc (yPutf a b ok n) := by
  intro ls st h m
  refine y_pop_e yTo_no (fun x r hs => ?_)
  subst hs
  refine y_pop_e yTo_no (fun v r hs => ?_)
  subst hs
  refine y_isR_e yTo_no (fun q e => ?_)
  subst e
  refine y_at_e (P := yTo G (xstep xrec xs k) k (N + 1) (y_dx G pc ls (x :: y_r q :: r) h m)) yTo_no (fun t l s hq hm hg => ?_)
  refine y_bq_e (P := yTo G (xstep xrec xs k) k (N + 1) (y_dx G pc ls (x :: y_r q :: r) h m)) yTo_no (fun ht => ?_)
  refine y_ix_e (P := yTo G (xstep xrec xs k) k (N + 1) (y_dx G pc ls (x :: y_r q :: r) h m)) yTo_no (fun hb hl => ?_)
  cases hx : ok x with
  | false => exact yTo_no
  | true =>
    rw [y_ift]
    refine y_set_e y_z _ s b x _ _ (y_dp_lt hb hl) yTo_no (fun s' hs' => ?_)
    refine y_set_e y_no _ h q (t, l, s') _ _ (Nat.lt_of_lt_of_le hq hm) yTo_no (fun h' hh' => ?_)
    refine yTo_step ?_ (hn ls r h' m)
    have h1 : xnth (y_dw G h m).2 q = some (t, y_sl G l s) := by
      show xnth (y_dh G m.2.2.2 h) q = _
      rw [y_dh_at hq, hg]
      rfl
    have h2 : y_dw G h' m = ((y_dw G h m).1, (y_dw G h m).2.set q (t, (y_sl G l s).set b (y_dec G x))) := by
      show (m.2.2.1, y_dh G m.2.2.2 h') = (m.2.2.1, (y_dh G m.2.2.2 h).set q (t, (y_sl G l s).set b (y_dec G x)))
      rw [y_dh_set hm hh', ← y_sl_set hl hs']
      rfl
    subst ht
    show xstep xrec xs k (pc, y_dl G ls, y_dec G x :: Value.ref q :: y_ds G r, m.1, m.2.1, y_dw G h m) = some (.inl (pc + 3, y_dl G ls, y_ds G r, m.1, m.2.1, y_dw G h' m))
    rw [h2]
    exact xs_putf hc h1 (hok x hx) (by rw [y_sl_len]; exact hb)
end YST
