/-! Calls of the fast machine. -/
/-- the fast machine's calls are the other's -/
def yRecOk (G : yG) (yr : yCl) (xr : Nat → List Value → XW → Option (XO × XW)) : Prop := ∀ a av f cnt h k kx (P : yR → Prop), P none → (∀ v f' cnt' h', xr a (y_ds G av) (f, y_dh G cnt h) = some (.inl (v.map (y_dec G)), (f', y_dh G cnt' h')) → P (k v f' cnt' h')) → (∀ e f' cnt' h', xr a (y_ds G av) (f, y_dh G cnt h) = some (.inr e, (f', y_dh G cnt' h')) → P (kx e f' cnt' h')) → P (yr a av f cnt h k kx)
theorem y_spl_e {G : yG} {P : yR → Prop} (h0 : P none) {k : yS → yS → yR} : ∀ (na : Nat) (st acc : yS), (∀ as r, xsplit na (y_ds G st) (y_ds G acc) = some (y_ds G as, y_ds G r) → P (k as r)) → P (y_spl na st acc k)
  | 0, st, acc, hk => hk acc st rfl
  | na + 1, [], acc, hk => h0
  | na + 1, v :: st, acc, hk => y_spl_e h0 na st (v :: acc) (fun as r h => hk as r h)
theorem y_cat2 (v : Value) : v.category ≤ 2 := by rcases lv_cat v with h | h <;> omega
theorem y_lw_e {G : yG} {r : yS} (h : y_lw r = true) : xcat (y_ds G r) ≤ 8 := by
  have h1 : r.length ≤ 4 := Nat.le_of_ble_eq_true h
  have h2 : ∀ l : yS, xcat (y_ds G l) ≤ 2 * l.length := by
    intro l
    induction l with
    | nil => exact Nat.le_refl 0
    | cons v l ih =>
      show (y_dec G v).category + xcat (y_ds G l) ≤ 2 * (l.length + 1)
      have := y_cat2 (y_dec G v)
      omega
  have := h2 r
  omega
section YST
variable {G : yG} {xrec : Nat → List Value → XW → Option (XO × XW)} {xs : List Int32} {E : yE} {rec : yCl} {k N pc pc' len a b : Nat} {i : Instr} {n : yKK}
theorem xs_calS {st as r : List Value} {ls : XL} {cu su ix : Nat} {σ : XW} (hc : xcode k pc = some (.invokestatic ix, len, a, 0)) (hs : xsplit (xNa a) st [] = some (as, r)) (hr : xroom k a r cu su = true) : xstep xrec xs k (pc, ls, st, cu, su, σ) = xback k a pc ls r cu su (xrec a as σ) := by
  unfold xstep; dsimp only; rw [hc]; dsimp only; rw [hs]; dsimp only; rw [hr, cond_true]; (try rfl)
theorem xs_calI {st as r : List Value} {ls : XL} {q cu su ix : Nat} {σ : XW} (hb : b = 0 ∨ b = 1) (hc : xcode k pc = some (.invokespecial ix, len, a, b)) (hs : xsplit (xNa a) st [] = some (as, .ref q :: r)) (hr : xroom k a r cu su = true) : xstep xrec xs k (pc, ls, st, cu, su, σ) = xback k a pc ls r cu su (xrec a (.ref q :: as) σ) := by
  rcases hb with rfl | rfl
  · unfold xstep; dsimp only; rw [hc]; dsimp only; rw [hs]; dsimp only; rw [hr, cond_true]; (try rfl)
  · unfold xstep; dsimp only; rw [hc]; dsimp only; rw [hs]; dsimp only; rw [hr, cond_true]; (try rfl)
theorem xs_calV {st as r fs : List Value} {ls : XL} {q t cu su ix : Nat} {σ : XW} (hc : xcode k pc = some (.invokevirtual ix, len, a, b)) (hs : xsplit (xNa a) st [] = some (as, .ref q :: r)) (h1 : xnth σ.2 q = some (t, fs)) (ht : t = xK a) (hr : xroom k a r cu su = true) : xstep xrec xs k (pc, ls, st, cu, su, σ) = xback k a pc ls r cu su (xrec a (.ref q :: as) σ) := by
  subst ht
  unfold xstep; dsimp only; rw [hc]; dsimp only; rw [hs]; dsimp only; rw [h1]; dsimp only; rw [Nat.beq_refl, hr, Bool.and_self, cond_true]
/-- what a call's room asks of the tables alone -/
def y_rst (k a : Nat) : Bool := Nat.ble (xFr a + 1) (xFr k) && Nat.ble (8 + (xNl a + 11) + xLo a) (xLo k)
theorem y_room_e {r : yS} {cu su : Nat} (h1 : y_rst k a = true) (h2 : y_lw r = true) (h3 : cu + xMc a ≤ xMc k) (h4 : su + xMs a ≤ xMs k) : xroom k a (y_ds G r) cu su = true := by
  unfold xroom y_rst at *
  obtain ⟨h5, h6⟩ := xand h1
  rw [show Nat.ble (xcat (y_ds G r)) 8 = true from Nat.ble_eq_true_of_le (y_lw_e h2), h5, h6, show Nat.ble (cu + xMc a) (xMc k) = true from Nat.ble_eq_true_of_le h3, show Nat.ble (su + xMs a) (xMs k) = true from Nat.ble_eq_true_of_le h4]
  rfl
theorem y_rm_e {P : yR → Prop} {mc ms MC MS cu su : Nat} {kk : yR} (h0 : P none) (hk : cu + mc ≤ MC → su + ms ≤ MS → P kk) : P (y_rm mc ms MC MS cu su kk) := by
  unfold y_rm
  cases h1 : Nat.ble (Nat.add cu mc) MC with
  | false => exact h0
  | true =>
    rw [y_ift]
    cases h2 : Nat.ble (Nat.add su ms) MS with
    | false => exact h0
    | true => rw [y_ift]; exact hk (Nat.le_of_ble_eq_true h1) (Nat.le_of_ble_eq_true h2)
/-- behind a handler's first instruction -/
def xh2 (k q : Nat) : Option (Nat × Nat) := match xcode k q with
  | some (.astore_n j, _) => (bif Nat.blt j (xNl k) then some (q + 1, j.val) else none)
  | some (.astore j, _) => (bif Nat.blt j (xNl k) then some (q + 2, j) else none)
  | _ => none
/-- the handlers that stand at a place, in the fast machine's words -/
def y_hk (k pc : Nat) : List (Nat × Nat × Nat × Nat × Nat) → List (Nat × Nat × Nat) → Bool
  | [], [] => true
  | [], _ :: _ => false
  | q :: r, hs => bif Nat.ble q.1 pc && Nat.blt pc q.2.1 then (match hs with
    | (e, t, j) :: hs' => (match xh2 k q.2.2.1 with | some (t', j') => Nat.beq e q.2.2.2.2 && (Nat.beq t t' && (Nat.beq j j' && y_hk k pc r hs')) | none => false)
    | [] => false) else y_hk k pc r hs
theorem y_hx_e {P : yR → Prop} {k pc : Nat} {ls : yL} {e cnt cu su : Nat} {f : Bool} {h : yH} : ∀ (hh : List (Nat × Nat × Nat × Nat × Nat)) (hs : List (Nat × Nat × Nat)), y_hk k pc hh hs = true → (xhnd hh pc e = none → P (some (.inr (.inr (e, h, cu, su, f, cnt))))) → (∀ q t j, xhnd hh pc e = some q → xh2 k q = some (t, j) → P (y_go t (ls.filter (y_k1 j)) [] h (cu, su, f, cnt))) → P (@List.rec _ (fun _ => yR) (some (.inr (.inr (e, h, cu, su, f, cnt)))) (fun q _ ih => @Prod.rec _ _ (fun _ => yR) (fun e' r => @Prod.rec _ _ (fun _ => yR) (fun t j => y_if (Nat.beq e e') (y_lr (y_k1 j) ls (fun ls => y_go t ls [] h (cu, su, f, cnt))) ih) r) q) hs)
  | [], [], _, h1, _ => h1 rfl
  | [], _ :: _, hk, _, _ => by cases hk
  | q :: r, hs, hk, h1, h2 => by
    unfold y_hk at hk
    cases hin : (Nat.ble q.1 pc && Nat.blt pc q.2.1) with
    | false =>
      rw [hin, cond_false] at hk
      have hx : xhnd (q :: r) pc e = xhnd r pc e := by
        show (bif Nat.ble q.1 pc && (Nat.blt pc q.2.1 && Nat.beq q.2.2.2.2 e) then some q.2.2.1 else xhnd r pc e) = _
        rw [← Bool.and_assoc, hin, Bool.false_and, cond_false]
      rw [hx] at h1 h2
      exact y_hx_e r hs hk h1 h2
    | true =>
      rw [hin, cond_true] at hk
      have hx : xhnd (q :: r) pc e = bif Nat.beq q.2.2.2.2 e then some q.2.2.1 else xhnd r pc e := by
        show (bif Nat.ble q.1 pc && (Nat.blt pc q.2.1 && Nat.beq q.2.2.2.2 e) then some q.2.2.1 else xhnd r pc e) = _
        rw [← Bool.and_assoc, hin, Bool.true_and]
      match hs, hk with
      | (e', t, j) :: hs', hk =>
        dsimp only at hk
        cases hq : xh2 k q.2.2.1 with
        | none => rw [hq] at hk; cases hk
        | some tj =>
          obtain ⟨t', j'⟩ := tj
          rw [hq] at hk
          dsimp only at hk
          obtain ⟨k1, hk1⟩ := xand hk
          obtain ⟨k2, hk2⟩ := xand hk1
          obtain ⟨k3, hk3⟩ := xand hk2
          clear hk hk1 hk2
          have k1 := xbe k1
          have k2 := xbe k2
          have k3 := xbe k3
          subst k1; subst k2; subst k3
          show P (y_if (Nat.beq e q.2.2.2.2) (y_lr (y_k1 j) ls (fun ls => y_go t ls [] h (cu, su, f, cnt))) _)
          cases he : Nat.beq e q.2.2.2.2 with
          | true =>
            have he := Nat.eq_of_beq_eq_true he
            rw [y_ift, y_lr_e]
            refine h2 _ t j ?_ hq
            rw [hx, he, Nat.beq_refl, cond_true]
          | false =>
            rw [y_iff]
            have hne : Nat.beq q.2.2.2.2 e = false := by
              cases hb : Nat.beq q.2.2.2.2 e with
              | false => rfl
              | true =>
                have := Nat.eq_of_beq_eq_true hb
                rw [← this, Nat.beq_refl] at he
                cases he
            rw [hne, cond_false] at hx
            rw [hx] at h1 h2
            exact y_hx_e r hs' hk3 h1 h2
/-- behind a call -/
theorem y_call_e {ls : yL} {r as : yS} {h : yH} {m : yM} {st : yS} {hs : List (Nat × Nat × Nat)} (hR : yRecOk G rec xrec) (hh : y_hk k pc (xHh k) hs = true)
    (hx : xstep xrec xs k (y_dx G pc ls st h m) = xback k a pc (y_dl G ls) (y_ds G r) m.1 m.2.1 (xrec a (y_ds G as) (y_dw G h m))) (g1 : m.1 + xMc a ≤ xMc k) (g2 : m.2.1 + xMs a ≤ xMs k) (hn : yGd G xrec xs E rec k N (pc + 3) n) :
    yTo G (xstep xrec xs k) k (N + 1) (y_dx G pc ls st h m) (rec a as m.2.2.1 m.2.2.2 h (y_bk (xMc a) (xMs a) m.1 m.2.1 (n E rec) ls r) (y_hx (xMc a) (xMs a) m.1 m.2.1 hs ls)) := by
  refine hR a as m.2.2.1 m.2.2.2 h _ _ (yTo G (xstep xrec xs k) k (N + 1) (y_dx G pc ls st h m)) yTo_no (fun v f' cnt' h' hq => ?_) (fun e f' cnt' h' hq => ?_)
  · have hq' : xrec a (y_ds G as) (y_dw G h m) = some (.inl (v.map (y_dec G)), (f', y_dh G cnt' h')) := hq
    rw [hq'] at hx
    cases v with
    | none => exact yTo_step (hx.trans rfl) (by unfold y_bk; rw [y_fz_e, y_fz_e]; exact hn ls r h' (m.1 + xMc a, m.2.1 + xMs a, f', cnt'))
    | some v => exact yTo_step (hx.trans rfl) (by unfold y_bk; rw [y_fz_e, y_fz_e]; exact hn ls (v :: r) h' (m.1 + xMc a, m.2.1 + xMs a, f', cnt'))
  · have hq' : xrec a (y_ds G as) (y_dw G h m) = some (.inr e, (f', y_dh G cnt' h')) := hq
    rw [hq'] at hx
    unfold y_hx
    rw [y_fz_e, y_fz_e]
    refine y_hx_e (P := yTo G (xstep xrec xs k) k (N + 1) (y_dx G pc ls st h m)) (xHh k) hs hh (fun hno => ?_) (fun q t j hq2 ht => ?_)
    · refine ⟨0, y_dx G pc ls st h m, ((pc, y_dl G ls, y_ds G r, m.1 + xMc a, m.2.1 + xMs a, (f', y_dh G cnt' h')), some e), Nat.zero_le _, rfl, ?_, ?_⟩
      · rw [hx]
        unfold xback
        dsimp only
        rw [hno]
      · unfold xfin2
        dsimp only
        rw [show Nat.ble (m.1 + xMc a) (xMc k) = true from Nat.ble_eq_true_of_le g1, show Nat.ble (m.2.1 + xMs a) (xMs k) = true from Nat.ble_eq_true_of_le g2]
        rfl
    · refine ⟨1, Nat.le_add_left _ _, y_dx G t (ls.filter (y_k1 j)) [] h' (m.1 + xMc a, m.2.1 + xMs a, f', cnt'), ?_, rfl⟩
      rw [hx]
      unfold xback
      dsimp only
      rw [hq2]
      dsimp only
      unfold xh2 at ht
      split at ht
      · next j0 e0 hc0 =>
        rw [hc0]
        dsimp only
        cases hb : Nat.blt j0 (xNl k) with
        | false => rw [hb] at ht; cases ht
        | true =>
          rw [hb, cond_true] at ht
          cases ht
          rw [cond_true, y_f1_e]
          rfl
      · next j0 e0 hc0 =>
        rw [hc0]
        dsimp only
        cases hb : Nat.blt j0 (xNl k) with
        | false => rw [hb] at ht; cases ht
        | true =>
          rw [hb, cond_true] at ht
          cases ht
          rw [cond_true, y_f1_e]
          rfl
      · cases ht
theorem g_calS {na mc ms MC MS ix : Nat} (hR : yRecOk G rec xrec) (hc : xcode k pc = some (.invokestatic ix, len, a, 0)) (e1 : na = xNa a) (e2 : mc = xMc a) (e3 : ms = xMs a) (e4 : MC = xMc k) (e5 : MS = xMs k) (hst : y_rst k a = true) {hs : List (Nat × Nat × Nat)} (hh : y_hk k pc (xHh k) hs = true) (hn : yGd G xrec xs E rec k N (pc + 3) n) : yGd G xrec xs E rec k (N + 1) pc (yCalS a na mc ms MC MS hs n) := by
  intro ls st h m
  subst e1; subst e2; subst e3; subst e4; subst e5
  refine y_spl_e (G := G) (P := yTo G (xstep xrec xs k) k (N + 1) (y_dx G pc ls st h m)) yTo_no _ st [] (fun as r hsp => ?_)
  cases hl : y_lw r with
  | false => exact yTo_no
  | true =>
    rw [y_ift, y_m4_e]
    refine y_rm_e (P := yTo G (xstep xrec xs k) k (N + 1) (y_dx G pc ls st h m)) yTo_no (fun g1 g2 => ?_)
    exact y_call_e hR hh (xs_calS hc hsp (y_room_e hst hl g1 g2)) g1 g2 hn
theorem g_calI {na mc ms MC MS ix : Nat} (hR : yRecOk G rec xrec) (hb : b = 0 ∨ b = 1) (hc : xcode k pc = some (.invokespecial ix, len, a, b)) (e1 : na = xNa a) (e2 : mc = xMc a) (e3 : ms = xMs a) (e4 : MC = xMc k) (e5 : MS = xMs k) (hst : y_rst k a = true) {hs : List (Nat × Nat × Nat)} (hh : y_hk k pc (xHh k) hs = true) (hn : yGd G xrec xs E rec k N (pc + 3) n) : yGd G xrec xs E rec k (N + 1) pc (yCalI a na mc ms MC MS hs n) := by
  intro ls st h m
  subst e1; subst e2; subst e3; subst e4; subst e5
  refine y_spl_e (G := G) (P := yTo G (xstep xrec xs k) k (N + 1) (y_dx G pc ls st h m)) yTo_no _ st [] (fun as r0 hsp => ?_)
  refine y_pop_e (P := yTo G (xstep xrec xs k) k (N + 1) (y_dx G pc ls st h m)) yTo_no (fun v r hs0 => ?_)
  subst hs0
  cases hl : y_lw r with
  | false => exact yTo_no
  | true =>
    rw [y_ift]
    refine y_isR_e (P := yTo G (xstep xrec xs k) k (N + 1) (y_dx G pc ls st h m)) yTo_no (fun q e => ?_)
    subst e
    rw [y_m4_e]
    refine y_rm_e (P := yTo G (xstep xrec xs k) k (N + 1) (y_dx G pc ls st h m)) yTo_no (fun g1 g2 => ?_)
    exact y_call_e (as := y_r q :: as) hR hh (xs_calI hb hc hsp (y_room_e hst hl g1 g2)) g1 g2 hn
theorem g_calV {na cl mc ms MC MS ix : Nat} (hR : yRecOk G rec xrec) (hc : xcode k pc = some (.invokevirtual ix, len, a, b)) (e0 : cl = xK a) (e1 : na = xNa a) (e2 : mc = xMc a) (e3 : ms = xMs a) (e4 : MC = xMc k) (e5 : MS = xMs k) (hst : y_rst k a = true) {hs : List (Nat × Nat × Nat)} (hh : y_hk k pc (xHh k) hs = true) (hn : yGd G xrec xs E rec k N (pc + 3) n) : yGd G xrec xs E rec k (N + 1) pc (yCalV a na cl mc ms MC MS hs n) := by
  intro ls st h m
  subst e0; subst e1; subst e2; subst e3; subst e4; subst e5
  refine y_spl_e (G := G) (P := yTo G (xstep xrec xs k) k (N + 1) (y_dx G pc ls st h m)) yTo_no _ st [] (fun as r0 hsp => ?_)
  refine y_pop_e (P := yTo G (xstep xrec xs k) k (N + 1) (y_dx G pc ls st h m)) yTo_no (fun v r hs0 => ?_)
  subst hs0
  cases hl : y_lw r with
  | false => exact yTo_no
  | true =>
    rw [y_ift]
    refine y_isR_e (P := yTo G (xstep xrec xs k) k (N + 1) (y_dx G pc ls st h m)) yTo_no (fun q e => ?_)
    subst e
    refine y_at_e (P := yTo G (xstep xrec xs k) k (N + 1) (y_dx G pc ls st h m)) yTo_no (fun t l s hq hm hg => ?_)
    refine y_bq_e (P := yTo G (xstep xrec xs k) k (N + 1) (y_dx G pc ls st h m)) yTo_no (fun ht => ?_)
    rw [y_m4_e]
    refine y_rm_e (P := yTo G (xstep xrec xs k) k (N + 1) (y_dx G pc ls st h m)) yTo_no (fun g1 g2 => ?_)
    have h1 : xnth (y_dw G h m).2 q = some (t, y_sl G l s) := by
      show xnth (y_dh G m.2.2.2 h) q = _
      rw [y_dh_at hq, hg]
      rfl
    exact y_call_e (as := y_r q :: as) hR hh (xs_calV hc hsp h1 ht (y_room_e hst hl g1 g2)) g1 g2 hn
end YST
