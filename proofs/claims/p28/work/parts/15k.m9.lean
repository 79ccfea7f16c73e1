noncomputable section
/-! Calls of the fast machine. -/
/-- the fast machine's calls are the other's -/
def yRecOk (G : yG) (yr : yCl) (xr : Nat → List Value → XW → Option (XO × XW)) : Prop := ∀ a av f cnt h k kx (P : yR → Prop), P none → (∀ v f' cnt' h', xr a (y_ds G av) (f, y_dh G cnt h) = some (.inl (v.map (y_dec G)), (f', y_dh G cnt' h')) → P (k v f' cnt' h')) → (∀ e f' cnt' h', xr a (y_ds G av) (f, y_dh G cnt h) = some (.inr e, (f', y_dh G cnt' h')) → P (kx e f' cnt' h')) → P (yr a av f cnt h k kx)
theorem y_spl_e {G : yG} {P : yR → Prop} (h0 : P none) {k : yS → yS → yR} : ∀ (na : Nat) (st acc : yS), (∀ as r, xsplit na (y_ds G st) (y_ds G acc) = some (y_ds G as, y_ds G r) → P (k as r)) → P (y_spl na st acc k)
  | 0, st, acc, hk => hk acc st rfl
  | na + 1, [], acc, hk => h0
  | na + 1, v :: st, acc, hk => y_spl_e h0 na st (v :: acc) (fun as r h => hk as r h)
theorem y_cat2 (v : Value) : v.category ≤ 2 := by rcases lv_cat v with h | h <;> omega
theorem y_lw_e {G : yG} {r : yS} (h : y_lw r = true) : xcat (y_ds G r) ≤ 8 := by
  have h1 : r.length ≤ 4 := Nat.le_of_ble_eq_true h
  have h2 : ∀ l : yS, xcat (y_ds G l) ≤ 2 * l.length := by
    intro l
    induction l with
    | nil => exact Nat.le_refl 0
    | cons v l ih =>
      show (y_dec G v).category + xcat (y_ds G l) ≤ 2 * (l.length + 1)
      have := y_cat2 (y_dec G v)
      omega
  have := h2 r
  omega
section YST
variable {G : yG} {xrec : Nat → List Value → XW → Option (XO × XW)} {xs : List Int32} {E : yE} {rec : yCl} {k N pc pc' len a b : Nat} {i : Instr} {n : yKK}
theorem xs_calS {st as r : List Value} {ls : XL} {cu su ix : Nat} {σ : XW} (hc : xcode k pc = some (.invokestatic ix, len, a, 0)) (hs : xsplit (xNa a) st [] = some (as, r)) (hr : xroom k a r cu su = true) : xstep xrec xs k (pc, ls, st, cu, su, σ) = xback k a pc ls r cu su (xrec a as σ) := by
  unfold xstep; dsimp only; rw [hc]; dsimp only; rw [hs]; dsimp only; rw [hr, cond_true]; (try rfl)
theorem xs_calI {st as r : List Value} {ls : XL} {q cu su ix : Nat} {σ : XW} (hb : b = 0 ∨ b = 1) (hc : xcode k pc = some (.invokespecial ix, len, a, b)) (hs : xsplit (xNa a) st [] = some (as, .ref q :: r)) (hr : xroom k a r cu su = true) : xstep xrec xs k (pc, ls, st, cu, su, σ) = xback k a pc ls r cu su (xrec a (.ref q :: as) σ) := by
  rcases hb with rfl | rfl
  · unfold xstep; dsimp only; rw [hc]; dsimp only; rw [hs]; dsimp only; rw [hr, cond_true]; (try rfl)
  · unfold xstep; dsimp only; rw [hc]; dsimp only; rw [hs]; dsimp only; rw [hr, cond_true]; (try rfl)
theorem xs_calV {st as r fs : List Value} {ls : XL} {q t cu su ix : Nat} {σ : XW} (hc : xcode k pc = some (.invokevirtual ix, len, a, b)) (hs : xsplit (xNa a) st [] = some (as, .ref q :: r)) (h1 : xnth σ.2 q = some (t, fs)) (ht : t = xK a) (hr : xroom k a r cu su = true) : xstep xrec xs k (pc, ls, st, cu, su, σ) = xback k a pc ls r cu su (xrec a (.ref q :: as) σ) := by
  subst ht
  unfold xstep; dsimp only; rw [hc]; dsimp only; rw [hs]; dsimp only; rw [h1]; dsimp only; rw [Nat.beq_refl, hr, Bool.and_self, cond_true]
/-- what a call's room asks of the tables alone -/
def y_rst (k a : Nat) : Bool := Nat.ble (xFr a + 1) (xFr k) && Nat.ble (8 + (xNl a + 11) + xLo a) (xLo k)
theorem y_room_e {r : yS} {cu su : Nat} (h1 : y_rst k a = true) (h2 : y_lw r = true) (h3 : cu + xMc a ≤ xMc k) (h4 : su + xMs a ≤ xMs k) : xroom k a (y_ds G r) cu su = true := by
  unfold xroom y_rst at *
  obtain ⟨h5, h6⟩ := xand h1
  rw [show Nat.ble (xcat (y_ds G r)) 8 = true from Nat.ble_eq_true_of_le (y_lw_e h2), h5, h6, show Nat.ble (cu + xMc a) (xMc k) = true from Nat.ble_eq_true_of_le h3, show Nat.ble (su + xMs a) (xMs k) = true from Nat.ble_eq_true_of_le h4]
  rfl
theorem y_rm_e {P : yR → Prop} {mc ms MC MS cu su : Nat} {kk : yR} (h0 : P none) (hk : cu + mc ≤ MC → su + ms ≤ MS → P kk) : P (y_rm mc ms MC MS cu su kk) := by
  unfold y_rm
  cases h1 : Nat.ble (Nat.add cu mc) MC with
  | false => exact h0
  | true =>
    rw [y_ift]
    cases h2 : Nat.ble (Nat.add su ms) MS with
    | false => exact h0
    | true => rw [y_ift]; exact hk (Nat.le_of_ble_eq_true h1) (Nat.le_of_ble_eq_true h2)
/-- behind a handler's first instruction -/
def xh2 (k q : Nat) : Option (Nat × Nat) := match xcode k q with
  | some (.astore_n j, _) => (bif Nat.blt j (xNl k) then some (q + 1, j.val) else none)
  | some (.astore j, _) => (bif Nat.blt j (xNl k) then some (q + 2, j) else none)
  | _ => none
/-- the handlers that stand at a place, in the fast machine's words -/
def y_hk (k pc : Nat) : List (Nat × Nat × Nat × Nat × Nat) → List (Nat × Nat × Nat) → Bool
  | [], [] => true
  | [], _ :: _ => false
  | q :: r, hs => bif Nat.ble q.1 pc && Nat.blt pc q.2.1 then (match hs with
    | (e, t, j) :: hs' => (match xh2 k q.2.2.1 with | some (t', j') => Nat.beq e q.2.2.2.2 && (Nat.beq t t' && (Nat.beq j j' && y_hk k pc r hs')) | none => false)
    | [] => false) else y_hk k pc r hs
theorem y_hx_e {P : yR → Prop} {k pc : Nat} {ls : yL} {e cnt cu su : Nat} {f : Bool} {h : yH} : ∀ (hh : List (Nat × Nat × Nat × Nat × Nat)) (hs : List (Nat × Nat × Nat)), y_hk k pc hh hs = true → (xhnd hh pc e = none → P (some (.inr (.inr (e, h, cu, su, f, cnt))))) → (∀ q t j, xhnd hh pc e = some q → xh2 k q = some (t, j) → P (y_go t (ls.filter (y_k1 j)) [] h (cu, su, f, cnt))) → P (@List.rec _ (fun _ => yR) (some (.inr (.inr (e, h, cu, su, f, cnt)))) (fun q _ ih => @Prod.rec _ _ (fun _ => yR) (fun e' r => @Prod.rec _ _ (fun _ => yR) (fun t j => y_if (Nat.beq e e') (y_lr (y_k1 j) ls (fun ls => y_go t ls [] h (cu, su, f, cnt))) ih) r) q) hs)
  | [], [], _, h1, _ => h1 rfl
  | [], _ :: _, hk, _, _ => by cases hk
  | q :: r, hs, hk, h1, h2 => by
    unfold y_hk at hk
    cases hin : (Nat.ble q.1 pc && Nat.blt pc q.2.1) with
    | false =>
      rw [hin, cond_false] at hk
      have hx : xhnd (q :: r) pc e = xhnd r pc e := by
        show (bif Nat.ble q.1 pc && (Nat.blt pc q.2.1 && Nat.beq q.2.2.2.2 e) then some q.2.2.1 else xhnd r pc e) = _
        rw [← Bool.and_assoc, hin, Bool.false_and, cond_false]
      rw [hx] at h1 h2
      exact y_hx_e r hs hk h1 h2
    | true =>
      rw [hin, cond_true] at hk
      have hx : xhnd (q :: r) pc e = bif Nat.beq q.2.2.2.2 e then some q.2.2.1 else xhnd r pc e := by
        show (bif Nat.ble q.1 pc && (Nat.blt pc q.2.1 && Nat.beq q.2.2.2.2 e) then some q.2.2.1 else xhnd r pc e) = _
        rw [← Bool.and_assoc, hin, Bool.true_and]
      match hs, hk with
      | (e', t, j) :: hs', hk =>
        dsimp only at hk
        cases hq : xh2 k q.2.2.1 with
        | none => rw [hq] at hk; cases hk
        | some tj =>
          obtain ⟨t', j'⟩ := tj
          rw [hq] at hk
          dsimp only at hk
          obtain ⟨k1, hk1⟩ := xand hk
          obtain ⟨k2, hk2⟩ := xand hk1
          obtain ⟨k3, hk3⟩ := xand hk2
          clear hk hk1 hk2
          have k1 := xbe k1
          have k2 := xbe k2
          have k3 := xbe k3
          subst k1; subst k2; subst k3
          show P (y_if (Nat.beq e q.2.2.2.2) (y_lr (y_k1 j) ls (fun ls => y_go t ls [] h (cu, su, f, cnt))) _)
          cases he : Nat.beq e q.2.2.2.2 with
          | true =>
            have he := Nat.eq_of_beq_eq_true he
            rw [y_ift, y_lr_e]
            refine h2 _ t j ?_ hq
            rw [hx, he, Nat.beq_refl, cond_true]
          | false =>
            rw [y_iff]
            have hne : Nat.beq q.2.2.2.2 e = false := by
              cases hb : Nat.beq q.2.2.2.2 e with
              | false => rfl
              | true =>
                have := Nat.eq_of_beq_eq_true hb
                rw [← this, Nat.beq_refl] at he
                cases he
            rw [hne, cond_false] at hx
            rw [hx] at h1 h2
            exact y_hx_e r hs' hk3 h1 h2
/-- behind a call -/
theorem y_call_e {ls : yL} {r as : yS} {h : yH} {m : yM} {st : yS} {hs : List (Nat × Nat × Nat)} (hR : yRecOk G rec xrec) (hh : y_hk k pc (xHh k) hs = true)
    (hx : xstep xrec xs k (y_dx G pc ls st h m) = xback k a pc (y_dl G ls) (y_ds G r) m.1 m.2.1 (xrec a (y_ds G as) (y_dw G h m))) (g1 : m.1 + xMc a ≤ xMc k) (g2 : m.2.1 + xMs a ≤ xMs k) (hn : yGd G xrec xs E rec k N (pc + 3) n) :
    yTo G (xstep xrec xs k) k (N + 1) (y_dx G pc ls st h m) (rec a as m.2.2.1 m.2.2.2 h (y_bk (xMc a) (xMs a) m.1 m.2.1 (n E rec) ls r) (y_hx (xMc a) (xMs a) m.1 m.2.1 hs ls)) := by
  refine hR a as m.2.2.1 m.2.2.2 h _ _ (yTo G (xstep xrec xs k) k (N + 1) (y_dx G pc ls st h m)) yTo_no (fun v f' cnt' h' hq => ?_) (fun e f' cnt' h' hq => ?_)
  · have hq' : xrec a (y_ds G as) (y_dw G h m) = some (.inl (v.map (y_dec G)), (f', y_dh G cnt' h')) := hq
    rw [hq'] at hx
    cases v with
    | none => exact yTo_step (hx.trans rfl) (by unfold y_bk; rw [y_fz_e, y_fz_e]; exact hn ls r h' (m.1 + xMc a, m.2.1 + xMs a, f', cnt'))
    | some v => exact yTo_step (hx.trans rfl) (by unfold y_bk; rw [y_fz_e, y_fz_e]; exact hn ls (v :: r) h' (m.1 + xMc a, m.2.1 + xMs a, f', cnt'))
  · have hq' : xrec a (y_ds G as) (y_dw G h m) = some (.inr e, (f', y_dh G cnt' h')) := hq
    rw [hq'] at hx
    unfold y_hx
    rw [y_fz_e, y_fz_e]
    refine y_hx_e (P := yTo G (xstep xrec xs k) k (N + 1) (y_dx G pc ls st h m)) (xHh k) hs hh (fun hno => ?_) (fun q t j hq2 ht => ?_)
    · refine ⟨0, y_dx G pc ls st h m, ((pc, y_dl G ls, y_ds G r, m.1 + xMc a, m.2.1 + xMs a, (f', y_dh G cnt' h')), some e), Nat.zero_le _, rfl, ?_, ?_⟩
      · rw [hx]
        unfold xback
        dsimp only
        rw [hno]
      · unfold xfin2
        dsimp only
        rw [show Nat.ble (m.1 + xMc a) (xMc k) = true from Nat.ble_eq_true_of_le g1, show Nat.ble (m.2.1 + xMs a) (xMs k) = true from Nat.ble_eq_true_of_le g2]
        rfl
    · refine ⟨1, Nat.le_add_left _ _, y_dx G t (ls.filter (y_k1 j)) [] h' (m.1 + xMc a, m.2.1 + xMs a, f', cnt'), ?_, rfl⟩
      rw [hx]
      unfold xback
      dsimp only
      rw [hq2]
      dsimp only
      unfold xh2 at ht
      split at ht
      · next j0 e0 hc0 =>
        rw [hc0]
        dsimp only
        cases hb : Nat.blt j0 (xNl k) with
        | false => rw [hb] at ht; cases ht
        | true =>
          rw [hb, cond_true] at ht
          cases ht
          rw [cond_true, y_f1_e]
          rfl
      · next j0 e0 hc0 =>
        rw [hc0]
        dsimp only
        cases hb : Nat.blt j0 (xNl k) with
        | false => rw [hb] at ht; cases ht
        | true =>
          rw [hb, cond_true] at ht
          cases ht
          rw [cond_true, y_f1_e]
          rfl
      · cases ht
theorem g_calS {na mc ms MC MS ix : Nat} (hR : yRecOk G rec xrec) (hc : xcode k pc = some (.invokestatic ix, len, a, 0)) (e1 : na = xNa a) (e2 : mc = xMc a) (e3 : ms = xMs a) (e4 : MC = xMc k) (e5 : MS = xMs k) (hst : y_rst k a = true) {hs : List (Nat × Nat × Nat)} (hh : y_hk k pc (xHh k) hs = true) (hn : yGd G xrec xs E rec k N (pc + 3) n) : yGd G xrec xs E rec k (N + 1) pc (yCalS a na mc ms MC MS hs n) := by
  intro ls st h m
  subst e1; subst e2; subst e3; subst e4; subst e5
  refine y_spl_e (G := G) (P := yTo G (xstep xrec xs k) k (N + 1) (y_dx G pc ls st h m)) yTo_no _ st [] (fun as r hsp => ?_)
  cases hl : y_lw r with
  | false => exact yTo_no
  | true =>
    rw [y_ift, y_m4_e]
    refine y_rm_e (P := yTo G (xstep xrec xs k) k (N + 1) (y_dx G pc ls st h m)) yTo_no (fun g1 g2 => ?_)
    exact y_call_e hR hh (xs_calS hc hsp (y_room_e hst hl g1 g2)) g1 g2 hn
theorem g_calI {na mc ms MC MS ix : Nat} (hR : yRecOk G rec xrec) (hb : b = 0 ∨ b = 1) (hc : xcode k pc = some (.invokespecial ix, len, a, b)) (e1 : na = xNa a) (e2 : mc = xMc a) (e3 : ms = xMs a) (e4 : MC = xMc k) (e5 : MS = xMs k) (hst : y_rst k a = true) {hs : List (Nat × Nat × Nat)} (hh : y_hk k pc (xHh k) hs = true) (hn : yGd G xrec xs E rec k N (pc + 3) n) : yGd G xrec xs E rec k (N + 1) pc (yCalI a na mc ms MC MS hs n) := by
  intro ls st h m
  subst e1; subst e2; subst e3; subst e4; subst e5
  refine y_spl_e (G := G) (P := yTo G (xstep xrec xs k) k (N + 1) (y_dx G pc ls st h m)) yTo_no _ st [] (fun as r0 hsp => ?_)
  refine y_pop_e (P := yTo G (xstep xrec xs k) k (N + 1) (y_dx G pc ls st h m)) yTo_no (fun v r hs0 => ?_)
  subst hs0
  cases hl : y_lw r with
  | false => exact yTo_no
  | true =>
    rw [y_ift]
    refine y_isR_e (P := yTo G (xstep xrec xs k) k (N + 1) (y_dx G pc ls st h m)) yTo_no (fun q e => ?_)
    subst e
    rw [y_m4_e]
    refine y_rm_e (P := yTo G (xstep xrec xs k) k (N + 1) (y_dx G pc ls st h m)) yTo_no (fun g1 g2 => ?_)
    exact y_call_e (as := y_r q :: as) hR hh (xs_calI hb hc hsp (y_room_e hst hl g1 g2)) g1 g2 hn
theorem g_calV {na cl mc ms MC MS ix : Nat} (hR : yRecOk G rec xrec) (hc : xcode k pc = some (.invokevirtual ix, len, a, b)) (e0 : cl = xK a) (e1 : na = xNa a) (e2 : mc = xMc a) (e3 : ms = xMs a) (e4 : MC = xMc k) (e5 : MS = xMs k) (hst : y_rst k a = true) {hs : List (Nat × Nat × Nat)} (hh : y_hk k pc (xHh k) hs = true) (hn : yGd G xrec xs E rec k N (pc + 3) n) : yGd G xrec xs E rec k (N + 1) pc (yCalV a na cl mc ms MC MS hs n) := by
  intro ls st h m
  subst e0; subst e1; subst e2; subst e3; subst e4; subst e5
  refine y_spl_e (G := G) (P := yTo G (xstep xrec xs k) k (N + 1) (y_dx G pc ls st h m)) yTo_no _ st [] (fun as r0 hsp => ?_)
  refine y_pop_e (P := yTo G (xstep xrec xs k) k (N + 1) (y_dx G pc ls st h m)) yTo_no (fun v r hs0 => ?_)
  subst hs0
  cases hl : y_lw r with
  | false => exact yTo_no
  | true =>
    rw [y_ift]
    refine y_isR_e (P := yTo G (xstep xrec xs k) k (N + 1) (y_dx G pc ls st h m)) yTo_no (fun q e => ?_)
    subst e
    refine y_at_e (P := yTo G (xstep xrec xs k) k (N + 1) (y_dx G pc ls st h m)) yTo_no (fun t l s hq hm hg => ?_)
    refine y_bq_e (P := yTo G (xstep xrec xs k) k (N + 1) (y_dx G pc ls st h m)) yTo_no (fun ht => ?_)
    rw [y_m4_e]
    refine y_rm_e (P := yTo G (xstep xrec xs k) k (N + 1) (y_dx G pc ls st h m)) yTo_no (fun g1 g2 => ?_)
    have h1 : xnth (y_dw G h m).2 q = some (t, y_sl G l s) := by
      show xnth (y_dh G m.2.2.2 h) q = _
      rw [y_dh_at hq, hg]
      rfl
    exact y_call_e (as := y_r q :: as) hR hh (xs_calV hc hsp h1 ht (y_room_e hst hl g1 g2)) g1 g2 hn
end YST
end
noncomputable section
/-! Ends of methods of the fast machine. -/
theorem y_nil_e {P : yR → Prop} {st : yS} {kk : yR} (h0 : P none) (h : st = [] → P kk) : P (y_nil st kk) := by
  cases st with
  | nil => exact h rfl
  | cons v r => exact h0
section YST
variable {G : yG} {xrec : Nat → List Value → XW → Option (XO × XW)} {xs : List Int32} {E : yE} {rec : yCl} {k N pc pc' len a b : Nat} {i : Instr} {n : yKK}
theorem xs_fin {c : XC} {i : Instr} {e : Nat × Nat × Nat} {o : XO} (hc : xcode k c.1 = some (i, e)) (hr : xrt i (xRet k) = true) (h1 : c.2.2.2.1 ≤ xMc k) (h2 : c.2.2.2.2.1 ≤ xMs k) (hf : xfin k (c, none) = some (o, c.2.2.2.2.2)) : xfin2 k (c, none) = some (o, c.2.2.2.2.2) := by
  unfold xfin2
  dsimp only
  rw [hc, show Nat.ble c.2.2.2.1 (xMc k) = true from Nat.ble_eq_true_of_le h1, show Nat.ble c.2.2.2.2.1 (xMs k) = true from Nat.ble_eq_true_of_le h2]
  dsimp only
  rw [hr, Bool.and_self, Bool.and_self, cond_true, hf]
theorem g_ret0 {MC MS : Nat} (hc : xcode k pc = some (.return_, len, a, b)) (hr : xRet k = none) (e4 : MC = xMc k) (e5 : MS = xMs k) : yGd G xrec xs E rec k 0 pc (yRet0 MC MS n) := by
  intro ls st h m
  subst e4; subst e5
  refine y_nil_e (P := yTo G (xstep xrec xs k) k 0 (y_dx G pc ls st h m)) yTo_no (fun hs => ?_)
  subst hs
  rw [y_m4_e]
  refine y_rm_e (P := yTo G (xstep xrec xs k) k 0 (y_dx G pc ls [] h m)) yTo_no (fun g1 g2 => ?_)
  refine ⟨0, y_dx G pc ls [] h m, (y_dx G pc ls [] h m, none), Nat.le_refl 0, rfl, ?_, ?_⟩
  · unfold xstep y_dx
    dsimp only
    rw [hc]
  · refine xs_fin (c := y_dx G pc ls [] h m) hc (by rw [hr]; rfl) g1 g2 ?_
    unfold xfin y_dx
    dsimp only
    rw [hr]
    rfl
theorem g_reti {MC MS : Nat} (hc : xcode k pc = some (.ireturn, len, a, b)) (hr : xRet k = some .int) (e4 : MC = xMc k) (e5 : MS = xMs k) : yGd G xrec xs E rec k 0 pc (yRet1 MC MS y_kI n) := by
  intro ls st h m
  subst e4; subst e5
  refine y_pop_e (P := yTo G (xstep xrec xs k) k 0 (y_dx G pc ls st h m)) yTo_no (fun v r hs0 => ?_)
  subst hs0
  refine y_nil_e (P := yTo G (xstep xrec xs k) k 0 (y_dx G pc ls (v :: r) h m)) yTo_no (fun hs => ?_)
  subst hs
  cases hk : y_kI v with
  | false => exact yTo_no
  | true =>
    rw [y_ift, y_m4_e]
    refine y_rm_e (P := yTo G (xstep xrec xs k) k 0 (y_dx G pc ls [v] h m)) yTo_no (fun g1 g2 => ?_)
    obtain ⟨x, hx⟩ := y_kI_e (G := G) hk
    refine ⟨0, y_dx G pc ls [v] h m, (y_dx G pc ls [v] h m, none), Nat.le_refl 0, rfl, ?_, ?_⟩
    · unfold xstep y_dx
      dsimp only
      rw [hc]
    · refine xs_fin (c := y_dx G pc ls [v] h m) hc (by rw [hr]; rfl) g1 g2 ?_
      unfold xfin y_dx y_ds
      dsimp only [List.map]
      rw [hr, hx]
      show some (Sum.inl (some (Value.int x)), y_dw G h m) = some (Sum.inl (some (y_dec G v)), y_dw G h m)
      rw [hx]
end YST
end
noncomputable section
/-! The other ends, throws, lengths. -/
section YST
variable {G : yG} {xrec : Nat → List Value → XW → Option (XO × XW)} {xs : List Int32} {E : yE} {rec : yCl} {k N pc pc' len a b : Nat} {i : Instr} {n : yKK}
theorem g_retl {MC MS : Nat} (hc : xcode k pc = some (.lreturn, len, a, b)) (hr : xRet k = some .long) (e4 : MC = xMc k) (e5 : MS = xMs k) : yGd G xrec xs E rec k 0 pc (yRet1 MC MS y_kJ n) := by
  intro ls st h m
  subst e4; subst e5
  refine y_pop_e (P := yTo G (xstep xrec xs k) k 0 (y_dx G pc ls st h m)) yTo_no (fun v r hs0 => ?_)
  subst hs0
  refine y_nil_e (P := yTo G (xstep xrec xs k) k 0 (y_dx G pc ls (v :: r) h m)) yTo_no (fun hs => ?_)
  subst hs
  cases hk : y_kJ v with
  | false => exact yTo_no
  | true =>
    rw [y_ift, y_m4_e]
    refine y_rm_e (P := yTo G (xstep xrec xs k) k 0 (y_dx G pc ls [v] h m)) yTo_no (fun g1 g2 => ?_)
    obtain ⟨x, hx⟩ := y_kJ_e (G := G) hk
    refine ⟨0, y_dx G pc ls [v] h m, (y_dx G pc ls [v] h m, none), Nat.le_refl 0, rfl, ?_, ?_⟩
    · unfold xstep y_dx
      dsimp only
      rw [hc]
    · refine xs_fin (c := y_dx G pc ls [v] h m) hc (by rw [hr]; rfl) g1 g2 ?_
      unfold xfin y_dx y_ds
      dsimp only [List.map]
      rw [hr, hx]
      show some (Sum.inl (some (Value.long x)), y_dw G h m) = some (Sum.inl (some (y_dec G v)), y_dw G h m)
      rw [hx]
theorem y_kZ_e {G : yG} {v : yV} (h : y_kZ v = true) : ∃ x : Int32, y_dec G v = .int x ∧ (decide (x = 0) || decide (x = 1)) = true := by
  rcases v with n | n | n | n | n | x
  · have hn : n ≤ 1 := Nat.le_of_ble_eq_true h
    have h2 : n = 0 ∨ n = 1 := by omega
    rcases h2 with rfl | rfl
    · exact ⟨_, rfl, by decide⟩
    · exact ⟨_, rfl, by decide⟩
  all_goals cases h
theorem g_retz {MC MS : Nat} (hc : xcode k pc = some (.ireturn, len, a, b)) (hr : xRet k = some .boolean) (e4 : MC = xMc k) (e5 : MS = xMs k) : yGd G xrec xs E rec k 0 pc (yRet1 MC MS y_kZ n) := by
  intro ls st h m
  subst e4; subst e5
  refine y_pop_e (P := yTo G (xstep xrec xs k) k 0 (y_dx G pc ls st h m)) yTo_no (fun v r hs0 => ?_)
  subst hs0
  refine y_nil_e (P := yTo G (xstep xrec xs k) k 0 (y_dx G pc ls (v :: r) h m)) yTo_no (fun hs => ?_)
  subst hs
  cases hk : y_kZ v with
  | false => exact yTo_no
  | true =>
    rw [y_ift, y_m4_e]
    refine y_rm_e (P := yTo G (xstep xrec xs k) k 0 (y_dx G pc ls [v] h m)) yTo_no (fun g1 g2 => ?_)
    obtain ⟨x, hx, hz⟩ := y_kZ_e (G := G) hk
    refine ⟨0, y_dx G pc ls [v] h m, (y_dx G pc ls [v] h m, none), Nat.le_refl 0, rfl, ?_, ?_⟩
    · unfold xstep y_dx
      dsimp only
      rw [hc]
    · refine xs_fin (c := y_dx G pc ls [v] h m) hc (by rw [hr]; rfl) g1 g2 ?_
      unfold xfin y_dx y_ds
      dsimp only [List.map]
      rw [hr, hx]
      show (bif decide (x = 0) || decide (x = 1) then some (Sum.inl (some (Value.int x)), y_dw G h m) else none) = some (Sum.inl (some (y_dec G v)), y_dw G h m)
      rw [hz, cond_true, hx]
theorem g_obj {ix : Nat} (hc : xcode k pc = some (.invokespecial ix, len, a, 2)) (hst : (Nat.ble 1 (xFr k) && Nat.ble 20 (xLo k)) = true) (hn : yGd G xrec xs E rec k N (pc + 3) n) : yGd G xrec xs E rec k (N + 1) pc (yObj n) := by
  intro ls st h m
  refine y_pop_e (P := yTo G (xstep xrec xs k) k (N + 1) (y_dx G pc ls st h m)) yTo_no (fun v r hs => ?_)
  subst hs
  cases hl : y_lw r with
  | false => exact yTo_no
  | true =>
    rw [y_ift]
    refine y_isR_e (P := yTo G (xstep xrec xs k) k (N + 1) (y_dx G pc ls (v :: r) h m)) yTo_no (fun q e => ?_)
    subst e
    refine yTo_step ?_ (hn ls r h m)
    obtain ⟨s1, s2⟩ := xand hst
    have h3 : Nat.ble (xcat (y_ds G r) + 12) (xLo k) = true := Nat.ble_eq_true_of_le (by have := y_lw_e (G := G) hl; have := xble s2; omega)
    show xstep xrec xs k (pc, y_dl G ls, Value.ref q :: y_ds G r, m.1, m.2.1, y_dw G h m) = some (.inl (pc + 3, y_dl G ls, y_ds G r, m.1, m.2.1, y_dw G h m))
    unfold xstep; dsimp only; rw [hc]; dsimp only; rw [s1, h3, Bool.and_self, cond_true]; (try rfl)
theorem g_alen (hc : xcode k pc = some (.arraylength, len, a, b)) (hn : yGd G xrec xs E rec k N (pc + 1) n) : yGd G xrec xs E rec k (N + 1) pc (yAlen n) := by
  intro ls st h m
  refine y_pop_e (P := yTo G (xstep xrec xs k) k (N + 1) (y_dx G pc ls st h m)) yTo_no (fun v r hs => ?_)
  subst hs
  refine y_isR_e (P := yTo G (xstep xrec xs k) k (N + 1) (y_dx G pc ls (v :: r) h m)) yTo_no (fun q e => ?_)
  subst e
  refine y_at_e (P := yTo G (xstep xrec xs k) k (N + 1) (y_dx G pc ls (y_r q :: r) h m)) yTo_no (fun t l s hq hm hg => ?_)
  cases ht : Nat.ble (nat_lit 100) t with
  | false => exact yTo_no
  | true =>
    rw [y_ift]
    refine yTo_step ?_ (hn ls (y_i l :: r) h m)
    have h1 : xnth (y_dw G h m).2 q = some (t, y_sl G l s) := by
      show xnth (y_dh G m.2.2.2 h) q = _
      rw [y_dh_at hq, hg]
      rfl
    show xstep xrec xs k (pc, y_dl G ls, Value.ref q :: y_ds G r, m.1, m.2.1, y_dw G h m) = some (.inl (pc + 1, y_dl G ls, Value.int (Int32.ofNat l) :: y_ds G r, m.1, m.2.1, y_dw G h m))
    unfold xstep; dsimp only; rw [hc]; dsimp only; rw [h1]; dsimp only
    rw [show Nat.ble 100 t = true from ht, cond_true, y_sl_len]
theorem g_thr {MC MS ix : Nat} (hb : 0 < b) (hc : xcode k pc = some (.new ix, len, a, b)) (hst : (Nat.ble 6 (xFr k) && Nat.ble 90 (xLo k)) = true) (e4 : MC = xMc k) (e5 : MS = xMs k) : yGd G xrec xs E rec k 0 pc (yThr MC MS a n) := by
  intro ls st h m
  subst e4; subst e5
  cases hl : y_lw st with
  | false => show yTo G (xstep xrec xs k) k 0 _ (y_if (y_lw st) _ none); rw [hl]; exact yTo_no
  | true =>
    show yTo G (xstep xrec xs k) k 0 _ (y_if (y_lw st) (y_m4 m (fun cu su _ _ => y_rm (nat_lit 1) (nat_lit 6) (xMc k) (xMs k) cu su (some (.inr (.inr (a, h, m)))))) none)
    rw [hl, y_ift, y_m4_e]
    refine y_rm_e (P := yTo G (xstep xrec xs k) k 0 (y_dx G pc ls st h m)) yTo_no (fun g1 g2 => ?_)
    obtain ⟨s1, s2⟩ := xand hst
    have h3 : Nat.ble (xcat (y_ds G st) + 82) (xLo k) = true := Nat.ble_eq_true_of_le (by have := y_lw_e (G := G) hl; have := xble s2; omega)
    refine ⟨0, y_dx G pc ls st h m, (y_dx G pc ls st h m, some a), Nat.le_refl 0, rfl, ?_, ?_⟩
    · obtain ⟨b', rfl⟩ : ∃ b', b = b' + 1 := ⟨b - 1, by omega⟩
      show xstep xrec xs k (pc, y_dl G ls, y_ds G st, m.1, m.2.1, y_dw G h m) = some (.inr ((pc, y_dl G ls, y_ds G st, m.1, m.2.1, y_dw G h m), some a))
      unfold xstep; dsimp only; rw [hc]; dsimp only
      rw [s1, h3, show Nat.ble (m.1 + 1) (xMc k) = true from Nat.ble_eq_true_of_le g1, show Nat.ble (m.2.1 + 6) (xMs k) = true from Nat.ble_eq_true_of_le g2]
      rfl
    · unfold xfin2 y_dx
      dsimp only
      rw [show Nat.ble m.1 (xMc k) = true from Nat.ble_eq_true_of_le (by omega), show Nat.ble m.2.1 (xMs k) = true from Nat.ble_eq_true_of_le (by omega)]
      rfl
end YST
end
noncomputable section
/-! Steps counted, and 2 ^ n steps. -/
theorem xpow_split {f : XC → XS} : ∀ (a b : Nat) (c c1 : XC), xpow f (a + b) c c1 → ∃ c', xpow f a c c' ∧ xpow f b c' c1
  | 0, b, c, c1, h => ⟨c, rfl, by rw [Nat.zero_add] at h; exact h⟩
  | a + 1, b, c, c1, h => by
    rw [show a + 1 + b = (a + b) + 1 by omega] at h
    obtain ⟨c2, h1, h2⟩ := h
    obtain ⟨c', h3, h4⟩ := xpow_split a b c2 c1 h2
    exact ⟨c', ⟨c2, h1, h3⟩, h4⟩
theorem xpow_join {f : XC → XS} : ∀ (a b : Nat) (c c' c1 : XC), xpow f a c c' → xpow f b c' c1 → xpow f (a + b) c c1
  | 0, b, c, c', c1, h, h2 => by
    have h : c = c' := h
    subst h
    rw [Nat.zero_add]
    exact h2
  | a + 1, b, c, c', c1, h, h2 => by
    obtain ⟨c2, h1, h3⟩ := h
    rw [show a + 1 + b = (a + b) + 1 by omega]
    exact ⟨c2, h1, xpow_join a b c2 c' c1 h3 h2⟩
theorem xit_inl {f : XC → XS} : ∀ (m : Nat) (c c' : XC), xpow f (2 ^ m) c c' → xit f m c = some (.inl c')
  | 0, c, c', h => by
    obtain ⟨c1, h1, h2⟩ := (show ∃ c1, f c = some (.inl c1) ∧ xpow f 0 c1 c' from h)
    have h2 : c1 = c' := h2
    subst h2
    exact h1
  | m + 1, c, c', h => by
    rw [show 2 ^ (m + 1) = 2 ^ m + 2 ^ m by rw [Nat.pow_succ]; omega] at h
    obtain ⟨c2, h1, h2⟩ := xpow_split _ _ _ _ h
    unfold xit
    rw [xit_inl m c c2 h1]
    exact xit_inl m c2 c' h2
theorem xit_inr {f : XC → XS} {z : XC × Option Nat} : ∀ (m n : Nat) (c c1 : XC), n < 2 ^ m → xpow f n c c1 → f c1 = some (.inr z) → xit f m c = some (.inr z)
  | 0, n, c, c1, hn, h, hz => by
    have h0 : n = 0 := by simp at hn; omega
    subst h0
    have h : c = c1 := h
    subst h
    exact hz
  | m + 1, n, c, c1, hn, h, hz => by
    unfold xit
    by_cases hl : n < 2 ^ m
    · rw [xit_inr m n c c1 hl h hz]
    · obtain ⟨c2, h1, h2⟩ := xpow_split (2 ^ m) (n - 2 ^ m) c c1 (by rw [show 2 ^ m + (n - 2 ^ m) = n by omega]; exact h)
      rw [xit_inl m c c2 h1]
      exact xit_inr m (n - 2 ^ m) c2 c1 (by rw [Nat.pow_succ] at hn; omega) h2 hz
end
noncomputable section
/-! A frame of the fast machine, block by block. -/
theorem yTo_mono {G : yG} {f : XC → XS} {k N M : Nat} {c : XC} {r : yR} (hNM : N ≤ M) (h : yTo G f k N c r) : yTo G f k M c r := by
  unfold yTo at h ⊢
  split at h
  · trivial
  · obtain ⟨n, hn, h1⟩ := h
    exact ⟨n, by omega, h1⟩
  · obtain ⟨n, c1, z, hn, h1⟩ := h
    exact ⟨n, c1, z, by omega, h1⟩
  · obtain ⟨n, c1, z, hn, h1⟩ := h
    exact ⟨n, c1, z, by omega, h1⟩
theorem yTo_pow {G : yG} {f : XC → XS} {k N j : Nat} {c c' : XC} {r : yR} (hp : xpow f j c c') (h : yTo G f k N c' r) : yTo G f k (j + N) c r := by
  unfold yTo at h ⊢
  split at h
  · trivial
  · obtain ⟨n, hn, h1⟩ := h
    exact ⟨j + n, by omega, xpow_join _ _ _ _ _ hp h1⟩
  · obtain ⟨n, c1, z, hn, h1, h2⟩ := h
    exact ⟨j + n, c1, z, by omega, xpow_join _ _ _ _ _ hp h1, h2⟩
  · obtain ⟨n, c1, z, hn, h1, h2⟩ := h
    exact ⟨j + n, c1, z, by omega, xpow_join _ _ _ _ _ hp h1, h2⟩
theorem y_it_e {G : yG} {xrec : Nat → List Value → XW → Option (XO × XW)} {xs : List Int32} {E : yE} {rec : yCl} {k : Nat} {B : Nat → yKK} (hB : ∀ t, yGd G xrec xs E rec k 63 t (B t)) : ∀ (fuel t : Nat) (ls : yL) (st : yS) (h : yH) (m : yM), yTo G (xstep xrec xs k) k (fuel * 63) (y_dx G t ls st h m) (y_it B E rec fuel t ls st h m)
  | 0, t, ls, st, h, m => ⟨0, Nat.zero_le _, rfl⟩
  | fuel + 1, t, ls, st, h, m => by
    have h1 := hB t ls st h m
    show yTo G (xstep xrec xs k) k ((fuel + 1) * 63) (y_dx G t ls st h m) (y_blk B E rec fuel (y_it B E rec fuel) t ls st h m)
    unfold y_blk
    generalize B t E rec ls st h m = r at h1
    rcases r with _ | (⟨t', ls', st', h', m'⟩ | x)
    · exact yTo_no
    · obtain ⟨n, hn, hp⟩ := h1
      have h2 := yTo_pow hp (y_it_e hB fuel t' ls' st' h' m')
      exact yTo_mono (by omega) h2
    · have h2 : yTo G (xstep xrec xs k) k ((fuel + 1) * 63) (y_dx G t ls st h m) (some (.inr x)) := yTo_mono (by omega) h1
      exact h2
end
noncomputable section
/-! The rest of the fast machine's instructions: switches, the script, characters, rows of references, copies, other values. -/
theorem y_nth_e {α : Type} (d : α) : ∀ (l : List α) (n : Nat), y_nth d l n = l.getD n d
  | [], n => rfl
  | a :: l, 0 => rfl
  | a :: l, n + 1 => by
    rw [y_nth_s, y_nth_e d l n]
    rfl
theorem y_lk_e (l : yS) (j : Nat) : y_lk l j = l[j]? := by
  have h : @List.rec yV (fun _ => List (Option yV)) [] (fun a _ ih => some a :: ih) l = l.map some := by
    induction l with
    | nil => rfl
    | cons a r ih =>
      show some a :: _ = some a :: _
      rw [ih]
  unfold y_lk
  rw [h, y_nth_e, List.getD_eq_getElem?_getD, List.getElem?_map]
  cases l[j]? with
  | none => rfl
  | some x => rfl
theorem y_fs_e (l : List (Nat × Nat × Nat × Bool)) (a : Nat) : ∀ (n j : Nat), y_fs l a n = some j → j < n ∧ y_o3 l 0 a (y_cn j) = some true
  | 0, j, h => by cases h
  | n + 1, j, h => by
    have h : @Option.rec _ (fun _ => Option Nat) (y_fs l a n) (fun b => y_if b (some n) (y_fs l a n)) (y_o3 l (nat_lit 0) a (y_cn n)) = some j := h
    cases hq : y_o3 l (nat_lit 0) a (y_cn n) with
    | none =>
      rw [hq] at h
      have := y_fs_e l a n j h
      exact ⟨by omega, this.2⟩
    | some b =>
      rw [hq] at h
      cases b with
      | true =>
        have h : some n = some j := h
        cases h
        exact ⟨by omega, hq⟩
      | false =>
        have := y_fs_e l a n j h
        exact ⟨by omega, this.2⟩
theorem y_tsw_e (pc a nl : Nat) (ls : XL) (r : List Value) (d hi : Int) (offs : Array Int) (ts : List Nat) (dd x : Nat) (hx : x < 4294967296) (hts : ts = offs.toList.map (fun o => ((pc : Int) + o).toNat)) (hoff : offs.toList.all (fun o => decide (0 ≤ (pc : Int) + o)) = true) (hd : 0 ≤ (pc : Int) + d ∧ ((pc : Int) + d).toNat = dd) (hn : (offs.size : Int) = hi + 1) (hs : offs.size ≤ 4096) : xop (.tableswitch d 0 hi offs) pc a nl ls (.int (Int32.ofNat x) :: r) = some (y_nth dd ts x, ls, r) := by
  have hti := y_ti32 x
  generalize Int32.ofNat x = w at hti
  show (if w.toInt < 0 ∨ hi < w.toInt then (if 0 ≤ (pc : Int) + d then some (((pc : Int) + d).toNat, ls, r) else none) else (match offs[(w.toInt - 0).toNat]? with | some o => (if 0 ≤ (pc : Int) + o then some (((pc : Int) + o).toNat, ls, r) else none) | none => none)) = _
  rw [y_nth_e, List.getD_eq_getElem?_getD]
  by_cases hin : w.toInt < 0 ∨ hi < w.toInt
  · rw [if_pos hin, if_pos hd.1, hd.2]
    have hge : offs.toList.length ≤ x := by rw [Array.length_toList]; omega
    have : ts[x]? = none := by rw [hts, List.getElem?_map, List.getElem?_eq_none hge]; rfl
    rw [this]
    rfl
  · rw [if_neg hin]
    have hw : (w.toInt - 0).toNat = x := by omega
    have hlt : x < offs.size := by omega
    rw [hw, Array.getElem?_eq_getElem hlt]
    dsimp only
    have hm : offs[x] ∈ offs.toList := by rw [← Array.getElem_toList]; exact List.getElem_mem _
    have hp := of_decide_eq_true (List.all_eq_true.mp hoff _ hm)
    rw [if_pos hp]
    have : ts[x]? = some (((pc : Int) + offs[x]).toNat) := by
      rw [hts, List.getElem?_map, List.getElem?_eq_getElem (by rw [Array.length_toList]; exact hlt), Array.getElem_toList]
      rfl
    rw [this]
    rfl
theorem y_all_e {ok : yV → Bool} : ∀ (d : Nat) (t : yT), y_all ok d t = true → ∀ i, i < 2 ^ d → ok (y_get d y_z t i) = true
  | 0, .leaf x, h, i, _ => h
  | 0, .branch _ _ _, h, i, _ => by cases h
  | d + 1, .leaf x, h, i, _ => by cases h
  | d + 1, .branch p x y, h, i, hi => by
    have hh : y_hf i < 2 ^ d := by show i / 2 < 2 ^ d; rw [Nat.pow_succ] at hi; omega
    have h : y_if (y_all ok d x) (y_all ok d y) false = true := h
    cases hx : y_all ok d x with
    | false => rw [hx] at h; cases h
    | true =>
      rw [hx, y_ift] at h
      show ok (@Bool.rec (fun _ => yV) (y_get d y_z y (y_hf i)) (y_get d y_z x (y_hf i)) (y_ev i)) = true
      cases y_ev i with
      | true => exact y_all_e d x hx _ hh
      | false => exact y_all_e d y h _ hh
theorem y_cp_e {d0 d1 : Nat} {s0 : yT} {P : yR → Prop} (h0 : P none) : ∀ (n i j : Nat) (t : yT) (k : yT → yR), j + n ≤ 2 ^ d1 → (∀ t', (∀ q, q < 2 ^ d1 → y_get d1 y_z t' q = if j ≤ q ∧ q < j + n then y_get d0 y_z s0 (i + (q - j)) else y_get d1 y_z t q) → P (k t')) → P (y_cp d0 s0 d1 n i j t k)
  | 0, i, j, t, k, _, hk => hk t (fun q _ => by rw [if_neg (by omega)])
  | n + 1, i, j, t, k, hj, hk => by
    show P (y_set d1 t j (y_get d0 y_z s0 i) (fun t => y_cp d0 s0 d1 n (Nat.succ i) (Nat.succ j) t k) none)
    refine y_set_e y_z d1 t j _ _ _ (by omega) h0 (fun t1 ht1 => ?_)
    refine y_cp_e h0 n (i + 1) (j + 1) t1 k (by omega) (fun t' ht' => hk t' (fun q hq => ?_))
    rw [ht' q hq, ht1 q hq]
    by_cases h1 : q = j
    · subst h1
      rw [if_neg (by omega), if_pos rfl, if_pos (by omega), Nat.sub_self]
      rfl
    · rw [if_neg h1]
      by_cases h2 : j + 1 ≤ q ∧ q < j + 1 + n
      · rw [if_pos h2, if_pos (by omega)]
        congr 1
        omega
      · rw [if_neg h2, if_neg (by omega)]
theorem y_nn32 {i : Nat} (h : i ≤ 4096) : ¬ Int32.ofNat i < 0 := by
  intro hn
  rw [Int32.lt_iff_toInt_lt, Int32.toInt_ofNat_of_lt (by omega)] at hn
  have h0 : (0 : Int32).toInt = 0 := by decide
  rw [h0] at hn
  omega
theorem y_tn32 {i : Nat} (h : i ≤ 4096) : (Int32.ofNat i).toNatClampNeg = i := Int32.toNatClampNeg_ofNat_of_lt (by omega)
theorem y_sc_e {P : yR → Prop} {v : yV} {k : yR} (h0 : P none) (h : ∀ q, v = y_v (.retAddr q) → P k) : P (y_sc v k) := by
  refine y_bd_e (P := P) (fun _ _ => h0) (fun _ _ => h0) (fun _ _ => h0) (fun _ _ => h0) (fun _ _ => h0) (fun x e => y_if_e (P := P) (fun hb => ?_) (fun _ => h0))
  cases x with
  | retAddr q => exact h q e
  | _ => cases hb
section YST
variable {G : yG} {xrec : Nat → List Value → XW → Option (XO × XW)} {xs : List Int32} {E : yE} {rec : yCl} {k N pc pc' len a b : Nat} {i : Instr} {n : yKK}
theorem y_oor_e {x nn : Nat} (hE : yOk G xs E) (h : y_oor E.2.2 x nn = true) (hn : nn ≤ 4096) : (G.1 x).toInt < 0 ∨ (nn : Int) ≤ (G.1 x).toInt := by
  have h : @Option.rec _ (fun _ => Bool) false (fun b => y_if b true (@Option.rec _ (fun _ => Bool) false (fun b => b) (y_o3 E.2.2 (nat_lit 3) (y_cs x) (y_cn nn)))) (y_o3 E.2.2 (nat_lit 2) (y_cs x) (nat_lit 0)) = true := h
  cases h1 : y_o3 E.2.2 (nat_lit 2) (y_cs x) (nat_lit 0) with
  | none => rw [h1] at h; cases h
  | some b =>
    rw [h1] at h
    have h : y_if b true (@Option.rec _ (fun _ => Bool) false (fun b => b) (y_o3 E.2.2 (nat_lit 3) (y_cs x) (y_cn nn))) = true := h
    cases b with
    | true =>
      have h2 := hE.2.1 _ _ _ _ h1
      rw [y_vi_s, show y_vi G 0 = 0 from rfl] at h2
      have h2 : G.1 x < 0 := of_decide_eq_true h2
      rw [Int32.lt_iff_toInt_lt, show (0 : Int32).toInt = 0 from by decide] at h2
      exact Or.inl h2
    | false =>
      rw [y_iff] at h
      cases h3 : y_o3 E.2.2 (nat_lit 3) (y_cs x) (y_cn nn) with
      | none => rw [h3] at h; cases h
      | some b =>
        rw [h3] at h
        have h : b = true := h
        subst h
        have h2 := hE.2.1 _ _ _ _ h3
        rw [y_vi_s, y_vi_n] at h2
        have h2 : Int32.ofNat nn ≤ G.1 x := of_decide_eq_true h2
        rw [Int32.le_iff_toInt_le, Int32.toInt_ofNat_of_lt (by omega)] at h2
        exact Or.inr h2
theorem g_tsw {ts : List Nat} {dd : Nat} {d hi : Int} {offs : Array Int} (hE : yOk G xs E) (hc : xcode k pc = some (.tableswitch d 0 hi offs, len, a, b)) (hts : ts = offs.toList.map (fun o => ((pc : Int) + o).toNat)) (hoff : offs.toList.all (fun o => decide (0 ≤ (pc : Int) + o)) = true) (hd : 0 ≤ (pc : Int) + d ∧ ((pc : Int) + d).toNat = dd) (hn : (offs.size : Int) = hi + 1) (hs : offs.size ≤ 4096) : yGd G xrec xs E rec k 1 pc (yTsw ts dd n) := by
  intro ls st h m
  refine y_pop_e yTo_no (fun v r hst => ?_)
  subst hst
  refine y_bd_e (fun x e => ?_) (fun _ _ => yTo_no) (fun _ _ => yTo_no) (fun x e => ?_) (fun _ _ => yTo_no) (fun _ _ => yTo_no)
  · subst e
    cases hx : Nat.blt x (nat_lit 4294967296) with
    | false => exact yTo_no
    | true =>
      have hx : x < 4294967296 := Nat.le_of_ble_eq_true hx
      rw [y_ift]
      exact yTo_op (N := 0) (ls' := ls) (st' := r) hc rfl (y_tsw_e pc a _ _ _ d hi offs ts dd x hx hts hoff hd hn hs) ⟨0, Nat.le_refl 0, rfl⟩
  · subst e
    cases hoo : y_oor E.2.2 x (List.length ts) with
    | true =>
      rw [y_ift]
      have hl : ts.length = offs.size := by rw [hts, List.length_map, Array.length_toList]
      have hx := y_oor_e hE hoo (by omega)
      rw [hl] at hx
      refine yTo_op (N := 0) (ls' := ls) (st' := r) (pc' := dd) hc rfl ?_ ⟨0, Nat.le_refl 0, rfl⟩
      show (if (G.1 x).toInt < 0 ∨ hi < (G.1 x).toInt then (if 0 ≤ (pc : Int) + d then some (((pc : Int) + d).toNat, y_dl G ls, y_ds G r) else none) else _) = some (dd, y_dl G ls, y_ds G r)
      rw [if_pos (by omega), if_pos hd.1, hd.2]
    | false =>
    rw [y_iff]
    refine y_on_e yTo_no (fun j hj => ?_)
    obtain ⟨hj1, hj2⟩ := y_fs_e _ _ _ _ hj
    have hj1 : j < 64 := hj1
    have h1 := hE.2.1 _ _ _ _ hj2
    rw [y_vi_s, y_vi_n] at h1
    have h1 : G.1 x = Int32.ofNat j := of_decide_eq_true h1
    refine yTo_op (N := 0) (ls' := ls) (st' := r) (pc' := y_nth dd ts j) hc rfl ?_ ⟨0, Nat.le_refl 0, rfl⟩
    show xop _ pc a (xNl k) (y_dl G ls) (.int (G.1 x) :: y_ds G r) = _
    rw [h1]
    exact y_tsw_e pc a _ _ _ d hi offs ts dd j (by omega) hts hoff hd hn hs
theorem g_slen (hE : yOk G xs E) (hc : xcode k pc = some (.arraylength, len, a, b)) (hn : yGd G xrec xs E rec k N (pc + 1) n) : yGd G xrec xs E rec k (N + 1) pc (ySlen n) := by
  intro ls st h m
  refine y_pop_e yTo_no (fun v r hst => ?_)
  subst hst
  refine y_sc_e (P := yTo G (xstep xrec xs k) k (N + 1) (y_dx G pc ls (v :: r) h m)) yTo_no (fun q e => y_on_e yTo_no (fun x hx => ?_))
  subst e
  have h1 := hE.2.2.1 x hx
  refine yTo_step ?_ (hn ls (x :: r) h m)
  show xstep xrec xs k (pc, y_dl G ls, Value.retAddr q :: y_ds G r, m.1, m.2.1, y_dw G h m) = some (.inl (pc + 1, y_dl G ls, y_dec G x :: y_ds G r, m.1, m.2.1, y_dw G h m))
  rw [h1]
  unfold xstep; dsimp only; rw [hc]
theorem g_sld (hE : yOk G xs E) (hc : xcode k pc = some (.iaload, len, a, b)) (hn : yGd G xrec xs E rec k N (pc + 1) n) : yGd G xrec xs E rec k (N + 1) pc (ySld n) := by
  intro ls st h m
  refine y_pop_e yTo_no (fun v r hst => y_pop_e yTo_no (fun u r2 hst2 => ?_))
  subst hst2; subst hst
  refine y_isI_e yTo_no (fun j e1 => ?_)
  subst e1
  refine y_sc_e (P := yTo G (xstep xrec xs k) k (N + 1) (y_dx G pc ls (y_i j :: u :: r2) h m)) yTo_no (fun q e => y_on_e yTo_no (fun x hx => ?_))
  subst e
  obtain ⟨w, hw, h1⟩ := hE.2.2.2.1 j x hx
  have hlt : j < xs.length := (List.getElem?_eq_some_iff.mp hw).1
  have hl : xs.length ≤ 4096 := hE.2.2.2.2.2
  refine yTo_step ?_ (hn ls (x :: r2) h m)
  show xstep xrec xs k (pc, y_dl G ls, Value.int (Int32.ofNat j) :: Value.retAddr q :: y_ds G r2, m.1, m.2.1, y_dw G h m) = some (.inl (pc + 1, y_dl G ls, y_dec G x :: y_ds G r2, m.1, m.2.1, y_dw G h m))
  rw [h1]
  unfold xstep; dsimp only; rw [hc]; dsimp only
  rw [y_xin hlt hl, cond_true, y_tnc hlt hl, xnth_eq, hw]
theorem xs_cast {q cu su : Nat} {ls : XL} {r fs : List Value} {σ : XW} {j v : Int32} {rec0 : Nat → List Value → XW → Option (XO × XW)} (hc : xcode k pc = some (.castore, len, a, b)) (h1 : xnth σ.2 q = some (102, fs)) (hj : xin j fs.length = true) (hv : decide (narrow .char (.int v) = .int v) = true) : xstep rec0 xs k (pc, ls, .int v :: .int j :: .ref q :: r, cu, su, σ) = some (.inl (pc + 1, ls, r, cu, su, (σ.1, σ.2.set q (102, fs.set j.toNatClampNeg (.int v))))) := by
  unfold xstep; dsimp only; rw [hc]; dsimp only; rw [h1]; dsimp only
  rw [Nat.beq_refl, hj, hv, Bool.and_self, Bool.and_self, cond_true]
theorem y_char {x : Nat} (h : x < 65536) : decide (narrow .char (.int (Int32.ofNat x)) = .int (Int32.ofNat x)) = true := by
  apply decide_eq_true
  have h1 := pk_nc (Int32.ofNat x)
  rw [y_i2c_e, Nat.mod_eq_of_lt h] at h1
  exact h1
theorem g_cast (hE : yOk G xs E) (hc : xcode k pc = some (.castore, len, a, b)) (hn : yGd G xrec xs E rec k N (pc + 1) n) : yGd G xrec xs E rec k (N + 1) pc (yCast n) := by
  intro ls st h m
  refine y_pop_e yTo_no (fun x r0 hs0 => y_pop_e yTo_no (fun v r hs1 => y_pop_e yTo_no (fun u r2 hs2 => ?_)))
  subst hs2; subst hs1; subst hs0
  refine y_isI_e yTo_no (fun j e1 => y_isR_e yTo_no (fun q e2 => ?_))
  subst e1; subst e2
  refine y_at_e (P := yTo G (xstep xrec xs k) k (N + 1) (y_dx G pc ls (x :: y_i j :: y_r q :: r2) h m)) yTo_no (fun t l s hq hm hg => ?_)
  refine y_bq_e (P := yTo G (xstep xrec xs k) k (N + 1) (y_dx G pc ls (x :: y_i j :: y_r q :: r2) h m)) yTo_no (fun ht => ?_)
  refine y_ix_e (P := yTo G (xstep xrec xs k) k (N + 1) (y_dx G pc ls (x :: y_i j :: y_r q :: r2) h m)) yTo_no (fun hb hl => ?_)
  subst ht
  generalize hok : (y_bd x (fun a => Nat.blt a (nat_lit 65536)) (fun _ => false) (fun _ => false) (fun k => @Option.rec _ (fun _ => Bool) false (fun b => b) (y_o3 E.2.2 (nat_lit 20) (y_cs k) (nat_lit 0))) (fun _ => false) (fun _ => false)) = ok
  cases ok with
  | false => exact yTo_no
  | true =>
    have hx : ∃ w : Int32, y_dec G x = .int w ∧ decide (narrow .char (.int w) = .int w) = true := by
      rcases x with x | x | x | x | x | x
      · exact ⟨_, rfl, y_char (Nat.le_of_ble_eq_true hok)⟩
      · cases hok
      · cases hok
      · have hok : @Option.rec _ (fun _ => Bool) false (fun b => b) (y_o3 E.2.2 (nat_lit 20) (y_cs x) (nat_lit 0)) = true := hok
        cases hq : y_o3 E.2.2 (nat_lit 20) (y_cs x) (nat_lit 0) with
        | none => rw [hq] at hok; cases hok
        | some bb =>
          rw [hq] at hok
          have hok : bb = true := hok
          subst hok
          have h1 := hE.2.1 _ _ _ _ hq
          rw [y_vi_s] at h1
          exact ⟨_, rfl, h1⟩
      · cases hok
      · cases hok
    obtain ⟨w, hw, hw2⟩ := hx
    rw [y_ift]
    refine y_set_e y_z _ s j x _ _ (y_dp_lt hb hl) yTo_no (fun s' hs' => ?_)
    refine y_set_e y_no _ h q (nat_lit 102, l, s') _ _ (Nat.lt_of_lt_of_le hq hm) yTo_no (fun h' hh' => ?_)
    refine yTo_step ?_ (hn ls r2 h' m)
    have h1 : xnth (y_dw G h m).2 q = some (102, y_sl G l s) := by
      show xnth (y_dh G m.2.2.2 h) q = _
      rw [y_dh_at hq, hg]
      rfl
    have h2 : y_dw G h' m = ((y_dw G h m).1, (y_dw G h m).2.set q (102, (y_sl G l s).set (Int32.ofNat j).toNatClampNeg (.int w))) := by
      show (m.2.2.1, y_dh G m.2.2.2 h') = (m.2.2.1, (y_dh G m.2.2.2 h).set q (102, (y_sl G l s).set (Int32.ofNat j).toNatClampNeg (.int w)))
      rw [y_dh_set hm hh', y_tnc hb hl, ← hw, ← y_sl_set hl hs']
      rfl
    show xstep xrec xs k (pc, y_dl G ls, y_dec G x :: Value.int (Int32.ofNat j) :: Value.ref q :: y_ds G r2, m.1, m.2.1, y_dw G h m) = some (.inl (pc + 1, y_dl G ls, y_ds G r2, m.1, m.2.1, y_dw G h' m))
    rw [h2, hw]
    exact xs_cast hc h1 (by rw [y_sl_len]; exact y_xin hb hl) hw2
theorem xs_aast {q p cu su : Nat} {ls : XL} {r fs gs : List Value} {σ : XW} {j : Int32} {rec0 : Nat → List Value → XW → Option (XO × XW)} (hc : xcode k pc = some (.aastore, len, a, b)) (h1 : xnth σ.2 q = some (103, fs)) (hj : xin j fs.length = true) (h6 : xnth σ.2 p = some (6, gs)) : xstep rec0 xs k (pc, ls, .ref p :: .int j :: .ref q :: r, cu, su, σ) = some (.inl (pc + 1, ls, r, cu, su, (σ.1, σ.2.set q (103, fs.set j.toNatClampNeg (.ref p))))) := by
  unfold xstep; dsimp only; rw [hc]; dsimp only; rw [h1]; dsimp only
  rw [Nat.beq_refl, hj, Bool.and_self, cond_true, h6]
  dsimp only
  rw [Nat.beq_refl, cond_true]
theorem g_aast (hc : xcode k pc = some (.aastore, len, a, b)) (hn : yGd G xrec xs E rec k N (pc + 1) n) : yGd G xrec xs E rec k (N + 1) pc (yAast n) := by
  intro ls st h m
  refine y_pop_e yTo_no (fun x r0 hs0 => y_pop_e yTo_no (fun v r hs1 => y_pop_e yTo_no (fun u r2 hs2 => ?_)))
  subst hs2; subst hs1; subst hs0
  refine y_isI_e yTo_no (fun j e1 => y_isR_e yTo_no (fun q e2 => y_isR_e yTo_no (fun p e3 => ?_)))
  subst e1; subst e2; subst e3
  refine y_at_e (P := yTo G (xstep xrec xs k) k (N + 1) (y_dx G pc ls (y_r p :: y_i j :: y_r q :: r2) h m)) yTo_no (fun t6 l6 s6 hp6 hm6 hg6 => ?_)
  refine y_bq_e (P := yTo G (xstep xrec xs k) k (N + 1) (y_dx G pc ls (y_r p :: y_i j :: y_r q :: r2) h m)) yTo_no (fun ht6 => ?_)
  refine y_at_e (P := yTo G (xstep xrec xs k) k (N + 1) (y_dx G pc ls (y_r p :: y_i j :: y_r q :: r2) h m)) yTo_no (fun t l s hq hm hg => ?_)
  refine y_bq_e (P := yTo G (xstep xrec xs k) k (N + 1) (y_dx G pc ls (y_r p :: y_i j :: y_r q :: r2) h m)) yTo_no (fun ht => ?_)
  refine y_ix_e (P := yTo G (xstep xrec xs k) k (N + 1) (y_dx G pc ls (y_r p :: y_i j :: y_r q :: r2) h m)) yTo_no (fun hb hl => ?_)
  subst ht; subst ht6
  refine y_set_e y_z _ s j (y_r p) _ _ (y_dp_lt hb hl) yTo_no (fun s' hs' => ?_)
  refine y_set_e y_no _ h q (nat_lit 103, l, s') _ _ (Nat.lt_of_lt_of_le hq hm) yTo_no (fun h' hh' => ?_)
  refine yTo_step ?_ (hn ls r2 h' m)
  have h1 : xnth (y_dw G h m).2 q = some (103, y_sl G l s) := by
    show xnth (y_dh G m.2.2.2 h) q = _
    rw [y_dh_at hq, hg]
    rfl
  have h6 : xnth (y_dw G h m).2 p = some (6, y_sl G l6 s6) := by
    show xnth (y_dh G m.2.2.2 h) p = _
    rw [y_dh_at hp6, hg6]
    rfl
  have h2 : y_dw G h' m = ((y_dw G h m).1, (y_dw G h m).2.set q (103, (y_sl G l s).set (Int32.ofNat j).toNatClampNeg (.ref p))) := by
    show (m.2.2.1, y_dh G m.2.2.2 h') = (m.2.2.1, (y_dh G m.2.2.2 h).set q (103, (y_sl G l s).set (Int32.ofNat j).toNatClampNeg (y_dec G (y_r p))))
    rw [y_dh_set hm hh', y_tnc hb hl, ← y_sl_set hl hs']
    rfl
  show xstep xrec xs k (pc, y_dl G ls, Value.ref p :: Value.int (Int32.ofNat j) :: Value.ref q :: y_ds G r2, m.1, m.2.1, y_dw G h m) = some (.inl (pc + 1, y_dl G ls, y_ds G r2, m.1, m.2.1, y_dw G h' m))
  rw [h2]
  exact xs_aast hc h1 (by rw [y_sl_len]; exact y_xin hb hl) h6
end YST
end
noncomputable section
/-! Copies and values of other kinds. -/
theorem y_ck_e {G : yG} {t : Nat} {v : yV} (h : y_ck t v = true) : (∃ x, y_dec G v = .int x ∧ t = 100) ∨ (∃ x, y_dec G v = .long x ∧ t = 101) := by
  unfold y_ck at h
  cases h1 : Nat.beq t (nat_lit 100) with
  | true =>
    rw [h1, y_ift] at h
    obtain ⟨x, hx⟩ := y_kI_e (G := G) h
    exact Or.inl ⟨x, hx, Nat.eq_of_beq_eq_true h1⟩
  | false =>
    rw [h1, y_iff] at h
    cases h2 : Nat.beq t (nat_lit 101) with
    | true =>
      rw [h2, y_ift] at h
      obtain ⟨x, hx⟩ := y_kJ_e (G := G) h
      exact Or.inr ⟨x, hx, Nat.eq_of_beq_eq_true h2⟩
    | false => rw [h2] at h; cases h
theorem y_xfa {G : yG} {t l : Nat} {s : yT} (hl : l ≤ 4096) (h : y_all (y_ck t) (y_dp l) s = true) : xfa t (y_sl G l s) = true := by
  unfold xfa
  refine List.all_eq_true.mpr (fun v hv => ?_)
  unfold y_sl at hv
  obtain ⟨i, hi, rfl⟩ := List.mem_map.mp hv
  have hi := List.mem_range.mp hi
  have h1 := y_all_e _ _ h i (y_dp_lt hi hl)
  rcases y_ck_e (G := G) h1 with ⟨x, hx, ht⟩ | ⟨x, hx, ht⟩
  · rw [hx, ht]; rfl
  · rw [hx, ht]; rfl
theorem y_ck_t {G : yG} {t l : Nat} {s : yT} (h0 : 0 < l) (hl : l ≤ 4096) (h : y_all (y_ck t) (y_dp l) s = true) : 100 ≤ t := by
  have h1 := y_all_e _ _ h 0 (y_dp_lt h0 hl)
  rcases y_ck_e (G := G) h1 with ⟨x, hx, ht⟩ | ⟨x, hx, ht⟩ <;> omega
theorem y_sl_cpy {G : yG} {l0 l1 i j c : Nat} {s0 s1 s' : yT} (hl0 : l0 ≤ 4096) (hl1 : l1 ≤ 4096) (hi : i + c ≤ l0) (hj : j + c ≤ l1) (h : ∀ q, q < l1 → y_get (y_dp l1) y_z s' q = if j ≤ q ∧ q < j + c then y_get (y_dp l0) y_z s0 (i + (q - j)) else y_get (y_dp l1) y_z s1 q) : y_sl G l1 s' = xcpy (y_sl G l0 s0) (y_sl G l1 s1) i j c := by
  apply List.ext_getElem?
  intro q
  rw [xcpy_at (by rw [y_sl_len]; exact hi) (by rw [y_sl_len]; exact hj)]
  by_cases hq : q < l1
  · rw [← xnth_eq (y_sl G l1 s'), ← xnth_eq (y_sl G l1 s1), y_sl_at hq, y_sl_at hq, h q hq]
    by_cases hin : j ≤ q ∧ q < j + c
    · rw [if_pos hin, if_pos hin, ← xnth_eq, y_sl_at (by omega)]
    · rw [if_neg hin, if_neg hin]
  · rw [if_neg (by omega), List.getElem?_eq_none (by rw [y_sl_len]; omega), List.getElem?_eq_none (by rw [y_sl_len]; omega)]
theorem y_cq_e {c i j l0 l1 : Nat} (h : y_cq c i j l0 l1 = true) : i = 0 ∧ j = 0 ∧ c = l0 ∧ c = l1 := by
  unfold y_cq at h
  cases h1 : Nat.beq i (nat_lit 0) with
  | false => rw [h1] at h; cases h
  | true =>
    rw [h1, y_ift] at h
    cases h2 : Nat.beq j (nat_lit 0) with
    | false => rw [h2] at h; cases h
    | true =>
      rw [h2, y_ift] at h
      cases h3 : Nat.beq c l0 with
      | false => rw [h3] at h; cases h
      | true =>
        rw [h3, y_ift] at h
        exact ⟨Nat.eq_of_beq_eq_true h1, Nat.eq_of_beq_eq_true h2, Nat.eq_of_beq_eq_true h3, Nat.eq_of_beq_eq_true h⟩
/-- a test that must hold -/
theorem y_tb_e {P : yR → Prop} {c : Bool} {k : yR} (h0 : P none) (hk : c = true → P k) : P (y_if c k none) := by
  cases c with
  | false => exact h0
  | true => exact hk rfl
section YST
variable {G : yG} {xrec : Nat → List Value → XW → Option (XO × XW)} {xs : List Int32} {E : yE} {rec : yCl} {k N pc pc' len a b : Nat} {i : Instr} {n : yKK}
theorem xs_acpy {q q0 t cu su ix : Nat} {ls : XL} {r f0 f1 : List Value} {σ : XW} {nn dp sp : Nat} {rec0 : Nat → List Value → XW → Option (XO × XW)} (hc : xcode k pc = some (.invokestatic ix, len, 0, 1)) (h0 : xnth σ.2 q0 = some (t, f0)) (h1 : xnth σ.2 q = some (t, f1)) (ht : 100 ≤ t) (hf : xfa t f0 = true) (hz : 0 < f0.length) (hs0 : f0.length ≤ 4096) (hs1 : f1.length ≤ 4096) (g1 : sp + nn ≤ f0.length) (g2 : dp + nn ≤ f1.length) (hst : (Nat.ble 1 (xFr k) && Nat.ble 38 (xLo k)) = true) (hr : xcat r ≤ 8) : xstep rec0 xs k (pc, ls, .int (Int32.ofNat nn) :: .int (Int32.ofNat dp) :: .ref q :: .int (Int32.ofNat sp) :: .ref q0 :: r, cu, su, σ) = some (.inl (pc + 3, ls, r, cu, su, (σ.1, σ.2.set q (t, xcpy f0 f1 sp dp nn)))) := by
  obtain ⟨s1, s2⟩ := xand hst
  have h3 : Nat.ble (xcat r + 30) (xLo k) = true := Nat.ble_eq_true_of_le (by have := xble s2; omega)
  have e1 : (Int32.ofNat sp).toNatClampNeg = sp := y_tn32 (by omega)
  have e2 : (Int32.ofNat dp).toNatClampNeg = dp := y_tn32 (by omega)
  have e3 : (Int32.ofNat nn).toNatClampNeg = nn := y_tn32 (by omega)
  have n1 : decide (¬ Int32.ofNat sp < 0) = true := decide_eq_true (y_nn32 (by omega))
  have n2 : decide (¬ Int32.ofNat dp < 0) = true := decide_eq_true (y_nn32 (by omega))
  have n3 : decide (¬ Int32.ofNat nn < 0) = true := decide_eq_true (y_nn32 (by omega))
  unfold xstep; dsimp only; rw [hc]; dsimp only; rw [h0, h1]; dsimp only
  rw [e1, e2, e3, n1, n2, n3, Nat.beq_refl, hf, s1, h3, show Nat.ble 100 t = true from Nat.ble_eq_true_of_le ht, show Nat.blt 0 f0.length = true from Nat.ble_eq_true_of_le hz, show Nat.ble (sp + nn) f0.length = true from Nat.ble_eq_true_of_le g1, show Nat.ble (dp + nn) f1.length = true from Nat.ble_eq_true_of_le g2]
  rfl
theorem g_acpy {ix : Nat} (hc : xcode k pc = some (.invokestatic ix, len, 0, 1)) (hst : (Nat.ble 1 (xFr k) && Nat.ble 38 (xLo k)) = true) (hn : yGd G xrec xs E rec k N (pc + 3) n) : yGd G xrec xs E rec k (N + 1) pc (yAcpy n) := by
  intro ls st h m
  refine y_pop_e yTo_no (fun v r1 hs1 => y_pop_e yTo_no (fun v1 r2 hs2 => y_pop_e yTo_no (fun u1 r3 hs3 => y_pop_e yTo_no (fun v0 r4 hs4 => y_pop_e yTo_no (fun u0 r hs5 => ?_)))))
  subst hs5; subst hs4; subst hs3; subst hs2; subst hs1
  refine y_isI_e yTo_no (fun c e1 => y_isI_e yTo_no (fun j e2 => y_isR_e yTo_no (fun q1 e3 => y_isI_e yTo_no (fun i e4 => y_isR_e yTo_no (fun q0 e5 => ?_)))))
  subst e1; subst e2; subst e3; subst e4; subst e5
  generalize hP : (fun R => yTo G (xstep xrec xs k) k (N + 1) (y_dx G pc ls (y_i c :: y_i j :: y_r q1 :: y_i i :: y_r q0 :: r) h m) R) = P
  have p0 : P none := by rw [← hP]; exact yTo_no
  show (fun R => yTo G (xstep xrec xs k) k (N + 1) (y_dx G pc ls (y_i c :: y_i j :: y_r q1 :: y_i i :: y_r q0 :: r) h m) R) _
  rw [hP]
  refine y_at_e (P := P) p0 (fun t0 l0 s0 hq0 hm0 hg0 => ?_)
  refine y_at_e (P := P) p0 (fun t1 l1 s1 hq1 hm1 hg1 => ?_)
  refine y_bq_e (P := P) p0 (fun ht => ?_)
  refine y_tb_e (P := P) p0 (fun hl0 => y_tb_e (P := P) p0 (fun hl1 => y_tb_e (P := P) p0 (fun hz => y_tb_e (P := P) p0 (fun g1 => y_tb_e (P := P) p0 (fun g2 => y_tb_e (P := P) p0 (fun hlw => y_tb_e (P := P) p0 (fun hall => ?_)))))))
  have hl0 : l0 ≤ 4096 := Nat.le_of_ble_eq_true hl0
  have hl1 : l1 ≤ 4096 := Nat.le_of_ble_eq_true hl1
  have hz : 0 < l0 := Nat.le_of_ble_eq_true hz
  have g1 : i + c ≤ l0 := Nat.le_of_ble_eq_true g1
  have g2 : j + c ≤ l1 := Nat.le_of_ble_eq_true g2
  subst ht
  have h1 : xnth (y_dw G h m).2 q0 = some (t0, y_sl G l0 s0) := by
    show xnth (y_dh G m.2.2.2 h) q0 = _
    rw [y_dh_at hq0, hg0]
    rfl
  have h2 : xnth (y_dw G h m).2 q1 = some (t0, y_sl G l1 s1) := by
    show xnth (y_dh G m.2.2.2 h) q1 = _
    rw [y_dh_at hq1, hg1]
    rfl
  have fin : ∀ (s' : yT) (h' : yH), y_sl G l1 s' = xcpy (y_sl G l0 s0) (y_sl G l1 s1) i j c → (∀ p, p < 2 ^ y_hd → y_get y_hd y_no h' p = if p = q1 then (t0, l1, s') else y_get y_hd y_no h p) → P (n E rec ls r h' m) := by
    intro s' h' hs' hh'
    rw [← hP]
    refine yTo_step ?_ (hn ls r h' m)
    have h3 : y_dw G h' m = ((y_dw G h m).1, (y_dw G h m).2.set q1 (t0, xcpy (y_sl G l0 s0) (y_sl G l1 s1) i j c)) := by
      show (m.2.2.1, y_dh G m.2.2.2 h') = (m.2.2.1, (y_dh G m.2.2.2 h).set q1 (t0, xcpy (y_sl G l0 s0) (y_sl G l1 s1) i j c))
      rw [y_dh_set hm1 hh', ← hs']
      rfl
    show xstep xrec xs k (pc, y_dl G ls, .int (Int32.ofNat c) :: .int (Int32.ofNat j) :: .ref q1 :: .int (Int32.ofNat i) :: .ref q0 :: y_ds G r, m.1, m.2.1, y_dw G h m) = some (.inl (pc + 3, y_dl G ls, y_ds G r, m.1, m.2.1, y_dw G h' m))
    rw [h3]
    exact xs_acpy hc h1 h2 (y_ck_t (G := G) hz hl0 hall) (y_xfa hl0 hall) (by rw [y_sl_len]; exact hz) (by rw [y_sl_len]; exact hl0) (by rw [y_sl_len]; exact hl1) (by rw [y_sl_len]; exact g1) (by rw [y_sl_len]; exact g2) hst (y_lw_e hlw)
  refine y_if_e (P := P) (fun hcq => ?_) (fun _ => ?_)
  · obtain ⟨ei, ej, ec, ed⟩ := y_cq_e hcq
    refine y_set_e y_no _ h q1 (t0, l1, s0) _ _ (Nat.lt_of_lt_of_le hq1 hm1) p0 (fun h' hh' => fin s0 h' ?_ hh')
    refine y_sl_cpy hl0 hl1 g1 g2 (fun q hq => ?_)
    have el : l1 = l0 := by omega
    rw [el, if_pos (by omega)]
    congr 1
    omega
  · refine y_cp_e (P := P) p0 c i j s1 _ ?_ (fun s' hs' => ?_)
    · by_cases hc0 : c = 0
      · subst hc0
        have h6 : ∀ j l : Nat, j ≤ l → l ≤ 4096 → j ≤ 2 ^ y_dp l := fun j l hj hl => by
          rcases Nat.lt_or_ge j l with h | h
          · exact Nat.le_of_lt (y_dp_lt h hl)
          · rcases Nat.eq_zero_or_pos l with h0 | h0
            · have hj0 : j = 0 := by omega
              rw [hj0]
              exact Nat.zero_le _
            · have := y_dp_lt (j := l - 1) (l := l) (by omega) hl
              omega
        exact h6 _ _ (by omega) hl1
      · have h5 : l1 - 1 < 2 ^ y_dp l1 := y_dp_lt (by omega) hl1
        omega
    · exact y_set_e y_no _ h q1 (t0, l1, s') _ _ (Nat.lt_of_lt_of_le hq1 hm1) p0 (fun h' hh' => fin s' h' (y_sl_cpy hl0 hl1 g1 g2 (fun q hq => hs' q (y_dp_lt hq hl1))) hh')
theorem y_u64 (x : UInt64) : Int64.ofNat x.toNat = x.toInt64 := by
  apply Int64.toBitVec_inj.mp
  apply BitVec.eq_of_toNat_eq
  show x.toNat % 2 ^ 64 = x.toNat
  exact Nat.mod_eq_of_lt x.toNat_lt
theorem y_u32 (x : UInt32) : Int32.ofNat x.toNat = x.toInt32 := by
  apply Int32.toBitVec_inj.mp
  apply BitVec.eq_of_toNat_eq
  show x.toNat % 2 ^ 32 = x.toNat
  exact Nat.mod_eq_of_lt x.toNat_lt
theorem y_raw_e {P : yR → Prop} {v : yV} {k : Value → yR} (h0 : P none) (h : ∀ x, y_dec G v = x → P (k x)) : P (y_raw v k) := by
  refine y_bd_e (P := P) (fun n e => ?_) (fun _ _ => h0) (fun n e => ?_) (fun _ _ => h0) (fun _ _ => h0) (fun n e => ?_)
  · subst e; exact h _ rfl
  · subst e; exact h _ rfl
  · subst e; exact h _ rfl
theorem y_enc_e {P : yR → Prop} {w : Value} {k : yV → yR} (h0 : P none) (h : ∀ x, y_dec G x = w → P (k x)) : P (y_enc w k) := by
  cases w with
  | int x =>
    show P (y_fz x.toUInt32.toNat (fun q => k (y_i q)))
    rw [y_fz_e]
    exact h _ (congrArg Value.int ((y_u32 x.toUInt32).trans rfl))
  | long x =>
    show P (y_fz x.toUInt64.toNat (fun q => k (y_j q)))
    rw [y_fz_e]
    exact h _ (congrArg Value.long ((y_u64 x.toUInt64).trans rfl))
  | float x =>
    show P (y_fz x.toNat (fun q => k (y_v (.float (UInt32.ofNat q)))))
    rw [y_fz_e]
    exact h _ (congrArg Value.float UInt32.ofNat_toNat)
  | double x =>
    show P (y_fz x.toNat (fun q => k (y_v (.double (UInt64.ofNat q)))))
    rw [y_fz_e]
    exact h _ (congrArg Value.double UInt64.ofNat_toNat)
  | _ => exact h0
theorem g_F1 (hc : xcode k pc = some (i, len, a, b)) (hp : xpl i = true) (ho : ∀ nl ls r x w, y_F1 i x = some w → xop i pc a nl ls (x :: r) = some (pc', ls, w :: r)) (hn : yGd G xrec xs E rec k N pc' n) : yGd G xrec xs E rec k (N + 1) pc (yF1 i n) := by
  intro ls st h m
  refine y_pop_e yTo_no (fun v r hs => ?_)
  subst hs
  refine y_raw_e (G := G) (P := yTo G (xstep xrec xs k) k (N + 1) (y_dx G pc ls (v :: r) h m)) yTo_no (fun x hx => y_on_e yTo_no (fun w hw => y_enc_e (G := G) (P := yTo G (xstep xrec xs k) k (N + 1) (y_dx G pc ls (v :: r) h m)) yTo_no (fun u hu => ?_)))
  refine yTo_op hc hp (ls' := ls) (st' := u :: r) ?_ (hn ls (u :: r) h m)
  show xop i pc a (xNl k) (y_dl G ls) (y_dec G v :: y_ds G r) = some (pc', y_dl G ls, y_dec G u :: y_ds G r)
  rw [hx, hu]
  exact ho _ _ _ _ _ hw
theorem g_F2 (hc : xcode k pc = some (i, len, a, b)) (hp : xpl i = true) (ho : ∀ nl ls r y x w, y_F2 i y x = some w → xop i pc a nl ls (y :: x :: r) = some (pc', ls, w :: r)) (hn : yGd G xrec xs E rec k N pc' n) : yGd G xrec xs E rec k (N + 1) pc (yF2 i n) := by
  intro ls st h m
  refine y_pop_e yTo_no (fun v r hs => y_pop_e yTo_no (fun v2 r2 hs2 => ?_))
  subst hs2; subst hs
  refine y_raw_e (G := G) (P := yTo G (xstep xrec xs k) k (N + 1) (y_dx G pc ls (v :: v2 :: r2) h m)) yTo_no (fun y hy => y_raw_e (G := G) (P := yTo G (xstep xrec xs k) k (N + 1) (y_dx G pc ls (v :: v2 :: r2) h m)) yTo_no (fun x hx => y_on_e yTo_no (fun w hw => y_enc_e (G := G) (P := yTo G (xstep xrec xs k) k (N + 1) (y_dx G pc ls (v :: v2 :: r2) h m)) yTo_no (fun u hu => ?_))))
  refine yTo_op hc hp (ls' := ls) (st' := u :: r2) ?_ (hn ls (u :: r2) h m)
  show xop i pc a (xNl k) (y_dl G ls) (y_dec G v :: y_dec G v2 :: y_ds G r2) = some (pc', y_dl G ls, y_dec G u :: y_ds G r2)
  rw [hx, hy, hu]
  exact ho _ _ _ _ _ _ hw
theorem g_ldv {j : Nat} {ok : yV → Bool} (hc : xcode k pc = some (i, len, a, b)) (hp : xpl i = true) (ho : ∀ nl ls st v, ok v = true → xgl ls j = some (y_dec G v) → xop i pc a nl ls st = some (pc', ls, y_dec G v :: st)) (hn : yGd G xrec xs E rec k N pc' n) : yGd G xrec xs E rec k (N + 1) pc (yLdv ok j n) := by
  intro ls st h m
  refine y_on_e yTo_no (fun v hv => ?_)
  have h1 := y_lf_e G ls j v hv
  refine y_tb_e (P := yTo G (xstep xrec xs k) k (N + 1) (y_dx G pc ls st h m)) yTo_no (fun hok => ?_)
  exact yTo_op hc hp (ho _ _ _ _ hok h1) (hn ls (v :: st) h m)
theorem y_kD_e {v : yV} (h : y_kD v = true) : ∃ x, y_dec G v = .double x := by
  rcases v with n | n | n | n | n | x
  case inr.inr.inr.inr.inr =>
    cases x with
    | double x => exact ⟨x, rfl⟩
    | _ => cases h
  all_goals cases h
theorem y_kF_e {v : yV} (h : y_kF v = true) : ∃ x, y_dec G v = .float x := by
  rcases v with n | n | n | n | n | x
  case inr.inr.inr.inr.inr =>
    cases x with
    | float x => exact ⟨x, rfl⟩
    | _ => cases h
  all_goals cases h
theorem g_std {j : Nat} (hc : xcode k pc = some (i, len, a, b)) (hp : xpl i = true) (ho : ∀ ls r x, xop i pc a (xNl k) ls (.double x :: r) = some (pc', xs2 ls j (.double x), r)) (hn : yGd G xrec xs E rec k N pc' n) : yGd G xrec xs E rec k (N + 1) pc (yStd j n) := by
  intro ls st h m
  refine y_pop_e yTo_no (fun v r hs => ?_)
  subst hs
  refine y_tb_e (P := yTo G (xstep xrec xs k) k (N + 1) (y_dx G pc ls (v :: r) h m)) yTo_no (fun hok => ?_)
  obtain ⟨x, hx⟩ := y_kD_e (G := G) hok
  rw [y_lr_e]
  refine yTo_op hc hp ?_ (hn (_ :: _) r h m)
  show xop i pc a (xNl k) (y_dl G ls) (y_dec G v :: y_ds G r) = some (pc', (j, y_dec G v) :: y_dl G (ls.filter (y_k2 j)), y_ds G r)
  rw [hx]
  exact (ho _ _ _).trans (by unfold xs2; rw [y_f2_e])
theorem g_stf {j : Nat} (hc : xcode k pc = some (i, len, a, b)) (hp : xpl i = true) (ho : ∀ ls r x, xop i pc a (xNl k) ls (.float x :: r) = some (pc', xs1 ls j (.float x), r)) (hn : yGd G xrec xs E rec k N pc' n) : yGd G xrec xs E rec k (N + 1) pc (yStf j n) := by
  intro ls st h m
  refine y_pop_e yTo_no (fun v r hs => ?_)
  subst hs
  refine y_tb_e (P := yTo G (xstep xrec xs k) k (N + 1) (y_dx G pc ls (v :: r) h m)) yTo_no (fun hok => ?_)
  obtain ⟨x, hx⟩ := y_kF_e (G := G) hok
  rw [y_lr_e]
  refine yTo_op hc hp ?_ (hn (_ :: _) r h m)
  show xop i pc a (xNl k) (y_dl G ls) (y_dec G v :: y_ds G r) = some (pc', (j, y_dec G v) :: y_dl G (ls.filter (y_k1 j)), y_ds G r)
  rw [hx]
  exact (ho _ _ _).trans (by unfold xs1; rw [y_f1_e])
theorem g_bitd {ix : Nat} (hc : xcode k pc = some (.invokestatic ix, len, 1, 1)) (hst : (Nat.ble 1 (xFr k) && Nat.ble 23 (xLo k)) = true) (hn : yGd G xrec xs E rec k N (pc + 3) n) : yGd G xrec xs E rec k (N + 1) pc (yBitD n) := by
  intro ls st h m
  refine y_pop_e yTo_no (fun v r hs => ?_)
  subst hs
  refine y_tb_e (P := yTo G (xstep xrec xs k) k (N + 1) (y_dx G pc ls (v :: r) h m)) yTo_no (fun hlw => y_raw_e (G := G) (P := yTo G (xstep xrec xs k) k (N + 1) (y_dx G pc ls (v :: r) h m)) yTo_no (fun x hx => ?_))
  cases x with
  | double x =>
    show yTo G (xstep xrec xs k) k (N + 1) (y_dx G pc ls (v :: r) h m) (y_fz x.toNat (fun q => n E rec ls (y_j q :: r) h m))
    rw [y_fz_e]
    refine yTo_step ?_ (hn ls (y_j x.toNat :: r) h m)
    obtain ⟨s1, s2⟩ := xand hst
    have h3 : Nat.ble (xcat (y_ds G r) + 15) (xLo k) = true := Nat.ble_eq_true_of_le (by have := y_lw_e (G := G) hlw; have := xble s2; omega)
    show xstep xrec xs k (pc, y_dl G ls, y_dec G v :: y_ds G r, m.1, m.2.1, y_dw G h m) = some (.inl (pc + 3, y_dl G ls, .long (Int64.ofNat x.toNat) :: y_ds G r, m.1, m.2.1, y_dw G h m))
    rw [hx, y_u64]
    unfold xstep; dsimp only; rw [hc]; dsimp only; rw [s1, h3]; rfl
  | _ => exact yTo_no
theorem g_bitf {ix : Nat} (hc : xcode k pc = some (.invokestatic ix, len, 2, 1)) (hst : (Nat.ble 1 (xFr k) && Nat.ble 23 (xLo k)) = true) (hn : yGd G xrec xs E rec k N (pc + 3) n) : yGd G xrec xs E rec k (N + 1) pc (yBitF n) := by
  intro ls st h m
  refine y_pop_e yTo_no (fun v r hs => ?_)
  subst hs
  refine y_tb_e (P := yTo G (xstep xrec xs k) k (N + 1) (y_dx G pc ls (v :: r) h m)) yTo_no (fun hlw => y_raw_e (G := G) (P := yTo G (xstep xrec xs k) k (N + 1) (y_dx G pc ls (v :: r) h m)) yTo_no (fun x hx => ?_))
  cases x with
  | float x =>
    show yTo G (xstep xrec xs k) k (N + 1) (y_dx G pc ls (v :: r) h m) (y_fz x.toNat (fun q => n E rec ls (y_i q :: r) h m))
    rw [y_fz_e]
    refine yTo_step ?_ (hn ls (y_i x.toNat :: r) h m)
    obtain ⟨s1, s2⟩ := xand hst
    have h3 : Nat.ble (xcat (y_ds G r) + 15) (xLo k) = true := Nat.ble_eq_true_of_le (by have := y_lw_e (G := G) hlw; have := xble s2; omega)
    show xstep xrec xs k (pc, y_dl G ls, y_dec G v :: y_ds G r, m.1, m.2.1, y_dw G h m) = some (.inl (pc + 3, y_dl G ls, .int (Int32.ofNat x.toNat) :: y_ds G r, m.1, m.2.1, y_dw G h m))
    rw [hx, y_u32]
    unfold xstep; dsimp only; rw [hc]; dsimp only; rw [s1, h3]; rfl
  | _ => exact yTo_no
end YST
end
noncomputable section
/-! A method's run of the fast machine is the other's. -/
theorem y_args_e {G : yG} (k : Nat → yL → yR) : ∀ (av : yS) (n : Nat), ∃ ls, y_dl G ls = lv_args n (y_ds G av) ∧ @List.rec _ (fun _ => Nat → (Nat → yL → yR) → yR) (fun n k => k n []) (fun v _ ih n k => y_fz (Nat.add n (y_cat v)) (fun m => ih m (fun t r => k t ((n, v) :: r)))) av n k = k (n + xcat (y_ds G av)) ls := by
  intro av
  induction av generalizing k with
  | nil => exact fun n => ⟨[], rfl, rfl⟩
  | cons v r ih =>
    intro n
    obtain ⟨ls, h1, h2⟩ := ih (fun t r => k t ((n, v) :: r)) (n + y_cat v)
    refine ⟨(n, v) :: ls, ?_, ?_⟩
    · show (n, y_dec G v) :: y_dl G ls = (n, y_dec G v) :: lv_args (if (y_dec G v).category = 2 then n + 2 else n + 1) (y_ds G r)
      rw [h1, ← y_cat_e G v]
      congr 2
      rcases lv_cat (y_dec G v) with h | h
      · rw [h, if_neg (by decide)]
      · rw [h, if_pos rfl]
    · show y_fz (n + y_cat v) (fun m => @List.rec _ (fun _ => Nat → (Nat → yL → yR) → yR) (fun n k => k n []) (fun v _ ih n k => y_fz (Nat.add n (y_cat v)) (fun m => ih m (fun t r => k t ((n, v) :: r)))) r m (fun t r => k t ((n, v) :: r))) = k (n + ((y_dec G v).category + xcat (y_ds G r))) ((n, v) :: ls)
      rw [y_fz_e, h2, y_cat_e, Nat.add_assoc]
/-- all blocks of all methods are right, whatever the calls are, if those are right -/
def yBlk (G : yG) (xs : List Int32) (E : yE) (P : Nat → Nat × (Nat → yKK)) : Prop := ∀ (rec : yCl) (xrec : Nat → List Value → XW → Option (XO × XW)), yRecOk G rec xrec → ∀ a, a < 257 → (P a).1 = xNl a ∧ ∀ t, yGd G xrec xs E rec a 63 t ((P a).2 t)
theorem y_end_e {P : yR → Prop} {k : Option yV → Bool → Nat → yH → yR} {kx : Nat → Bool → Nat → yH → yR} {r : yR} (h0 : P none) (h1 : ∀ v h m, r = some (.inr (.inl (v, h, m))) → P (k v m.2.2.1 m.2.2.2 h)) (h2 : ∀ e h m, r = some (.inr (.inr (e, h, m))) → P (kx e false m.2.2.2 h)) : P (y_end k kx r) := by
  rcases r with _ | (x | (⟨v, h, m⟩ | ⟨e, h, m⟩))
  · exact h0
  · exact h0
  · exact h1 v h m rfl
  · exact h2 e h m rfl
theorem y_run_e {G : yG} {xs : List Int32} {E : yE} {P : Nat → Nat × (Nat → yKK)} (hP : yBlk G xs E P) : ∀ d, yRecOk G (y_run P E d) (xrun2 xs d)
  | 0 => fun a av f cnt h k kx Q h0 _ _ => h0
  | d + 1 => fun a av f cnt h k kx Q h0 h1 h2 => by
    have hR := y_run_e hP d
    show Q (y_if (Nat.blt a (nat_lit 257)) (y_args av (fun t ls => y_if (Nat.ble t (P a).1) (y_end k kx (y_it (P a).2 E (y_run P E d) (nat_lit 16384) (nat_lit 0) ls [] h (nat_lit 0, nat_lit 0, f, cnt))) none)) none)
    refine y_tb_e (P := Q) h0 (fun ha => ?_)
    have ha : a < 257 := Nat.le_of_ble_eq_true ha
    obtain ⟨hnl, hB⟩ := hP _ _ hR a ha
    obtain ⟨ls, e1, e2⟩ := y_args_e (G := G) (fun t ls => y_if (Nat.ble t (P a).1) (y_end k kx (y_it (P a).2 E (y_run P E d) (nat_lit 16384) (nat_lit 0) ls [] h (nat_lit 0, nat_lit 0, f, cnt))) none) av 0
    show Q (@List.rec _ (fun _ => Nat → (Nat → yL → yR) → yR) (fun n k => k n []) (fun v _ ih n k => y_fz (Nat.add n (y_cat v)) (fun m => ih m (fun t r => k t ((n, v) :: r)))) av 0 _)
    rw [e2]
    refine y_tb_e (P := Q) h0 (fun ht => ?_)
    rw [Nat.zero_add, hnl] at ht
    have h3 := y_it_e hB 16384 0 ls [] h (0, 0, f, cnt)
    have hone : ∀ o, (∃ n c1 z, n ≤ 16384 * 63 ∧ xpow (xstep (xrun2 xs d) xs a) n (y_dx G 0 ls [] h (0, 0, f, cnt)) c1 ∧ xstep (xrun2 xs d) xs a c1 = some (.inr z) ∧ xfin2 a z = some o) → xrun2 xs (d + 1) a (y_ds G av) (f, y_dh G cnt h) = some o := by
      intro o ⟨n, c1, z, hn, hp, hz, hf⟩
      show xone xs (xrun2 xs d) 20 a (y_ds G av) (f, y_dh G cnt h) = some o
      unfold xone
      rw [ht, cond_true]
      have hx : xit (xstep (xrun2 xs d) xs a) 20 (0, lv_args 0 (y_ds G av), [], 0, 0, (f, y_dh G cnt h)) = some (.inr z) := by
        rw [← e1]
        refine xit_inr 20 n _ c1 ?_ hp hz
        have : (2 : Nat) ^ 20 = 1048576 := by decide +kernel
        omega
      generalize xit (xstep (xrun2 xs d) xs a) 20 (0, lv_args 0 (y_ds G av), [], 0, 0, (f, y_dh G cnt h)) = R at hx
      subst hx
      exact hf
    refine y_end_e (P := Q) h0 (fun v h' m hr => ?_) (fun e h' m hr => ?_)
    · rw [show y_it (P a).2 E (y_run P E d) (nat_lit 16384) (nat_lit 0) ls [] h (nat_lit 0, nat_lit 0, f, cnt) = y_it (P a).2 E (y_run P E d) 16384 0 ls [] h (0, 0, f, cnt) from rfl] at hr
      rw [hr] at h3
      exact h1 v _ _ _ (hone _ h3)
    · rw [show y_it (P a).2 E (y_run P E d) (nat_lit 16384) (nat_lit 0) ls [] h (nat_lit 0, nat_lit 0, f, cnt) = y_it (P a).2 E (y_run P E d) 16384 0 ls [] h (0, 0, f, cnt) from rfl] at hr
      rw [hr] at h3
      exact h2 e _ _ _ (hone _ h3)
end
noncomputable section
/-! One lemma an instruction: what the tables hold at a place, and what the fast machine does there. -/
def y_cd (cd : Jvm.ClassFile.Cond) : Nat := match cd with
  | .eq => 0
  | .ne => 1
  | .lt => 2
  | .ge => 3
  | .gt => 4
  | .le => 5
theorem y_if_e2 (pc a nl : Nat) (ls : XL) (r : List Value) (x : Int32) (cd : Jvm.ClassFile.Cond) (o : Int) : xop (.ifCond cd o) pc a nl ls (.int x :: r) = some ((if y_cmp (y_cd cd) x 0 = true then a else pc + 3), ls, r) := by
  cases cd with
  | eq => show (if x = 0 then _ else _) = some ((if decide (x = 0) = true then a else pc + 3), ls, r); by_cases h : x = 0 <;> simp only [h, decide_true, decide_false, if_true, if_false, Bool.false_eq_true]
  | ne => show (if x = 0 then _ else _) = some ((if (!decide (x = 0)) = true then a else pc + 3), ls, r); by_cases h : x = 0 <;> simp only [h, decide_true, decide_false, if_true, if_false, Bool.false_eq_true, Bool.not_true, Bool.not_false]
  | lt => show (if x < 0 then _ else _) = some ((if decide (x < 0) = true then a else pc + 3), ls, r); by_cases h : x < 0 <;> simp only [h, decide_true, decide_false, if_true, if_false, Bool.false_eq_true]
  | ge => show (if 0 ≤ x then _ else _) = some ((if decide (0 ≤ x) = true then a else pc + 3), ls, r); by_cases h : 0 ≤ x <;> simp only [h, decide_true, decide_false, if_true, if_false, Bool.false_eq_true]
  | gt => show (if 0 < x then _ else _) = some ((if decide (0 < x) = true then a else pc + 3), ls, r); by_cases h : 0 < x <;> simp only [h, decide_true, decide_false, if_true, if_false, Bool.false_eq_true]
  | le => show (if x ≤ 0 then _ else _) = some ((if decide (x ≤ 0) = true then a else pc + 3), ls, r); by_cases h : x ≤ 0 <;> simp only [h, decide_true, decide_false, if_true, if_false, Bool.false_eq_true]
theorem y_icmp_e2 (pc a nl : Nat) (ls : XL) (r : List Value) (x y : Int32) (cd : Jvm.ClassFile.Cond) (o : Int) : xop (.if_icmp cd o) pc a nl ls (.int y :: .int x :: r) = some ((if y_cmp (y_cd cd) x y = true then a else pc + 3), ls, r) := by
  cases cd with
  | eq => show (if x = y then _ else _) = some ((if decide (x = y) = true then a else pc + 3), ls, r); by_cases h : x = y <;> simp only [h, decide_true, decide_false, if_true, if_false, Bool.false_eq_true]
  | ne => show (if x = y then _ else _) = some ((if (!decide (x = y)) = true then a else pc + 3), ls, r); by_cases h : x = y <;> simp only [h, decide_true, decide_false, if_true, if_false, Bool.false_eq_true, Bool.not_true, Bool.not_false]
  | lt => show (if x < y then _ else _) = some ((if decide (x < y) = true then a else pc + 3), ls, r); by_cases h : x < y <;> simp only [h, decide_true, decide_false, if_true, if_false, Bool.false_eq_true]
  | ge => show (if y ≤ x then _ else _) = some ((if decide (y ≤ x) = true then a else pc + 3), ls, r); by_cases h : y ≤ x <;> simp only [h, decide_true, decide_false, if_true, if_false, Bool.false_eq_true]
  | gt => show (if y < x then _ else _) = some ((if decide (y < x) = true then a else pc + 3), ls, r); by_cases h : y < x <;> simp only [h, decide_true, decide_false, if_true, if_false, Bool.false_eq_true]
  | le => show (if x ≤ y then _ else _) = some ((if decide (x ≤ y) = true then a else pc + 3), ls, r); by_cases h : x ≤ y <;> simp only [h, decide_true, decide_false, if_true, if_false, Bool.false_eq_true]
theorem y_blt_t {a b : Nat} (h : Nat.blt a b = true) : a < b := Nat.le_of_ble_eq_true h
section YST
variable {G : yG} {xrec : Nat → List Value → XW → Option (XO × XW)} {xs : List Int32} {E : yE} {rec : yCl} {k N pc pc' len a b : Nat} {i : Instr} {n : yKK}
theorem yGd_mono {M : Nat} (h : Nat.ble N M = true) (hn : yGd G xrec xs E rec k N pc n) : yGd G xrec xs E rec k M pc n := fun ls st h' m => yTo_mono (Nat.le_of_ble_eq_true h) (hn ls st h' m)
theorem tt_iconst {c : Int} {x : Nat} (hc : xcode k pc = some (.iconst c, len, a, b)) (hv : Int32.ofInt c = Int32.ofNat x) (hn : yGd G xrec xs E rec k N (pc + 1) n) : yGd G xrec xs E rec k (N + 1) pc (yPush (y_i x) n) := g_push hc rfl (fun _ _ _ => rfl) (congrArg Value.int hv) hn
theorem tt_bipush {c : Int} {x : Nat} (hc : xcode k pc = some (.bipush c, len, a, b)) (hv : (Int8.ofInt c).toInt32 = Int32.ofNat x) (hn : yGd G xrec xs E rec k N (pc + 2) n) : yGd G xrec xs E rec k (N + 1) pc (yPush (y_i x) n) := g_push hc rfl (fun _ _ _ => rfl) (congrArg Value.int hv) hn
theorem tt_sipush {c : Int} {x : Nat} (hc : xcode k pc = some (.sipush c, len, a, b)) (hv : (Int16.ofInt c).toInt32 = Int32.ofNat x) (hn : yGd G xrec xs E rec k N (pc + 3) n) : yGd G xrec xs E rec k (N + 1) pc (yPush (y_i x) n) := g_push hc rfl (fun _ _ _ => rfl) (congrArg Value.int hv) hn
theorem tt_lconst {c : Fin 2} {x : Nat} (hc : xcode k pc = some (.lconst c, len, a, b)) (hv : Int64.ofNat c = Int64.ofNat x) (hn : yGd G xrec xs E rec k N (pc + 1) n) : yGd G xrec xs E rec k (N + 1) pc (yPush (y_j x) n) := g_push hc rfl (fun _ _ _ => rfl) (congrArg Value.long hv) hn
theorem tt_dconst0 (hc : xcode k pc = some (.dconst 0, len, a, b)) (hn : yGd G xrec xs E rec k N (pc + 1) n) : yGd G xrec xs E rec k (N + 1) pc (yPush (y_v (.double FP.dconst0)) n) := g_push hc rfl (fun _ _ _ => rfl) rfl hn
theorem tt_dconst1 (hc : xcode k pc = some (.dconst 1, len, a, b)) (hn : yGd G xrec xs E rec k N (pc + 1) n) : yGd G xrec xs E rec k (N + 1) pc (yPush (y_v (.double FP.dconst1)) n) := g_push hc rfl (fun _ _ _ => rfl) rfl hn
theorem tt_fconst0 (hc : xcode k pc = some (.fconst 0, len, a, b)) (hn : yGd G xrec xs E rec k N (pc + 1) n) : yGd G xrec xs E rec k (N + 1) pc (yPush (y_v (.float FP.fconst0)) n) := g_push hc rfl (fun _ _ _ => rfl) rfl hn
theorem tt_fconst1 (hc : xcode k pc = some (.fconst 1, len, a, b)) (hn : yGd G xrec xs E rec k N (pc + 1) n) : yGd G xrec xs E rec k (N + 1) pc (yPush (y_v (.float FP.fconst1)) n) := g_push hc rfl (fun _ _ _ => rfl) rfl hn
theorem tt_fconst2 (hc : xcode k pc = some (.fconst 2, len, a, b)) (hn : yGd G xrec xs E rec k N (pc + 1) n) : yGd G xrec xs E rec k (N + 1) pc (yPush (y_v (.float FP.fconst2)) n) := g_push hc rfl (fun _ _ _ => rfl) rfl hn
theorem tt_ldc {ix : Nat} {v : yV} {u : Value} (hc : xcode k pc = some (.ldc ix, len, a, b)) (hv : xnth xcon a = some u) (hu : y_dec G v = u) (hn : yGd G xrec xs E rec k N (pc + 2) n) : yGd G xrec xs E rec k (N + 1) pc (yPush v n) := by
  intro ls st h m
  refine yTo_step ?_ (hn ls (v :: st) h m)
  show xstep xrec xs k (pc, y_dl G ls, y_ds G st, m.1, m.2.1, y_dw G h m) = some (.inl (pc + 2, y_dl G ls, y_dec G v :: y_ds G st, m.1, m.2.1, y_dw G h m))
  rw [hu]
  unfold xstep; dsimp only; rw [hc]; dsimp only; rw [hv]
theorem tt_ldc_w {ix : Nat} {v : yV} {u : Value} (hc : xcode k pc = some (.ldc_w ix, len, a, b)) (hv : xnth xcon a = some u) (hu : y_dec G v = u) (hn : yGd G xrec xs E rec k N (pc + 3) n) : yGd G xrec xs E rec k (N + 1) pc (yPush v n) := by
  intro ls st h m
  refine yTo_step ?_ (hn ls (v :: st) h m)
  show xstep xrec xs k (pc, y_dl G ls, y_ds G st, m.1, m.2.1, y_dw G h m) = some (.inl (pc + 3, y_dl G ls, y_dec G v :: y_ds G st, m.1, m.2.1, y_dw G h m))
  rw [hu]
  unfold xstep; dsimp only; rw [hc]; dsimp only; rw [hv]
theorem tt_ldc2_w {ix : Nat} {v : yV} {u : Value} (hc : xcode k pc = some (.ldc2_w ix, len, a, b)) (hv : xnth xcon a = some u) (hu : y_dec G v = u) (hn : yGd G xrec xs E rec k N (pc + 3) n) : yGd G xrec xs E rec k (N + 1) pc (yPush v n) := by
  intro ls st h m
  refine yTo_step ?_ (hn ls (v :: st) h m)
  show xstep xrec xs k (pc, y_dl G ls, y_ds G st, m.1, m.2.1, y_dw G h m) = some (.inl (pc + 3, y_dl G ls, y_dec G v :: y_ds G st, m.1, m.2.1, y_dw G h m))
  rw [hu]
  unfold xstep; dsimp only; rw [hc]; dsimp only; rw [hv]
theorem tt_iload_n {jj : Fin 4} {j : Nat} (hc : xcode k pc = some (.iload_n jj, len, a, b)) (hj : jj.val = j) (hn : yGd G xrec xs E rec k N (pc + 1) n) : yGd G xrec xs E rec k (N + 1) pc (yLdi j n) := by subst hj; exact g_ldi hc rfl (fun _ _ _ _ h => by unfold xop; dsimp only; rw [h]) hn
theorem tt_iload {j : Nat} (hc : xcode k pc = some (.iload j, len, a, b)) (hn : yGd G xrec xs E rec k N (pc + 2) n) : yGd G xrec xs E rec k (N + 1) pc (yLdi j n) := g_ldi hc rfl (fun _ _ _ _ h => by unfold xop; dsimp only; rw [h]) hn
theorem tt_lload_n {jj : Fin 4} {j : Nat} (hc : xcode k pc = some (.lload_n jj, len, a, b)) (hj : jj.val = j) (hn : yGd G xrec xs E rec k N (pc + 1) n) : yGd G xrec xs E rec k (N + 1) pc (yLdl j n) := by subst hj; exact g_ldl hc rfl (fun _ _ _ _ h => by unfold xop; dsimp only; rw [h]) hn
theorem tt_lload {j : Nat} (hc : xcode k pc = some (.lload j, len, a, b)) (hn : yGd G xrec xs E rec k N (pc + 2) n) : yGd G xrec xs E rec k (N + 1) pc (yLdl j n) := g_ldl hc rfl (fun _ _ _ _ h => by unfold xop; dsimp only; rw [h]) hn
theorem tt_aload_n {jj : Fin 4} {j : Nat} (hc : xcode k pc = some (.aload_n jj, len, a, b)) (hj : jj.val = j) (hn : yGd G xrec xs E rec k N (pc + 1) n) : yGd G xrec xs E rec k (N + 1) pc (yLda j n) := by subst hj; exact g_lda hc rfl (fun _ _ _ _ h => by unfold xop; dsimp only; rw [h]) (fun _ _ _ _ h => by unfold xop; dsimp only; rw [h]) hn
theorem tt_aload {j : Nat} (hc : xcode k pc = some (.aload j, len, a, b)) (hn : yGd G xrec xs E rec k N (pc + 2) n) : yGd G xrec xs E rec k (N + 1) pc (yLda j n) := g_lda hc rfl (fun _ _ _ _ h => by unfold xop; dsimp only; rw [h]) (fun _ _ _ _ h => by unfold xop; dsimp only; rw [h]) hn
theorem tt_dload_n {jj : Fin 4} {j : Nat} (hc : xcode k pc = some (.dload_n jj, len, a, b)) (hj : jj.val = j) (hn : yGd G xrec xs E rec k N (pc + 1) n) : yGd G xrec xs E rec k (N + 1) pc (yLdv y_kD j n) := by subst hj; exact g_ldv hc rfl (fun _ _ _ v hok h => by obtain ⟨x, hx⟩ := y_kD_e (G := G) hok; rw [hx] at h ⊢; unfold xop; dsimp only; rw [h]) hn
theorem tt_dload {j : Nat} (hc : xcode k pc = some (.dload j, len, a, b)) (hn : yGd G xrec xs E rec k N (pc + 2) n) : yGd G xrec xs E rec k (N + 1) pc (yLdv y_kD j n) := g_ldv hc rfl (fun _ _ _ v hok h => by obtain ⟨x, hx⟩ := y_kD_e (G := G) hok; rw [hx] at h ⊢; unfold xop; dsimp only; rw [h]) hn
theorem tt_fload_n {jj : Fin 4} {j : Nat} (hc : xcode k pc = some (.fload_n jj, len, a, b)) (hj : jj.val = j) (hn : yGd G xrec xs E rec k N (pc + 1) n) : yGd G xrec xs E rec k (N + 1) pc (yLdv y_kF j n) := by subst hj; exact g_ldv hc rfl (fun _ _ _ v hok h => by obtain ⟨x, hx⟩ := y_kF_e (G := G) hok; rw [hx] at h ⊢; unfold xop; dsimp only; rw [h]) hn
theorem tt_fload {j : Nat} (hc : xcode k pc = some (.fload j, len, a, b)) (hn : yGd G xrec xs E rec k N (pc + 2) n) : yGd G xrec xs E rec k (N + 1) pc (yLdv y_kF j n) := g_ldv hc rfl (fun _ _ _ v hok h => by obtain ⟨x, hx⟩ := y_kF_e (G := G) hok; rw [hx] at h ⊢; unfold xop; dsimp only; rw [h]) hn
theorem tt_istore_n {jj : Fin 4} {j : Nat} (hc : xcode k pc = some (.istore_n jj, len, a, b)) (hj : jj.val = j) (hl : Nat.blt j (xNl k) = true) (hn : yGd G xrec xs E rec k N (pc + 1) n) : yGd G xrec xs E rec k (N + 1) pc (ySti j n) := by subst hj; exact g_sti hc rfl (fun _ _ _ => by unfold xop; dsimp only; rw [if_pos (y_blt_t hl)]) hn
theorem tt_istore {j : Nat} (hc : xcode k pc = some (.istore j, len, a, b)) (hl : Nat.blt j (xNl k) = true) (hn : yGd G xrec xs E rec k N (pc + 2) n) : yGd G xrec xs E rec k (N + 1) pc (ySti j n) := g_sti hc rfl (fun _ _ _ => by unfold xop; dsimp only; rw [if_pos (y_blt_t hl)]) hn
theorem tt_astore_n {jj : Fin 4} {j : Nat} (hc : xcode k pc = some (.astore_n jj, len, a, b)) (hj : jj.val = j) (hl : Nat.blt j (xNl k) = true) (hn : yGd G xrec xs E rec k N (pc + 1) n) : yGd G xrec xs E rec k (N + 1) pc (ySta j n) := by subst hj; exact g_sta hc rfl (fun _ _ _ => by unfold xop; dsimp only; rw [if_pos (y_blt_t hl)]) hn
theorem tt_astore {j : Nat} (hc : xcode k pc = some (.astore j, len, a, b)) (hl : Nat.blt j (xNl k) = true) (hn : yGd G xrec xs E rec k N (pc + 2) n) : yGd G xrec xs E rec k (N + 1) pc (ySta j n) := g_sta hc rfl (fun _ _ _ => by unfold xop; dsimp only; rw [if_pos (y_blt_t hl)]) hn
theorem tt_lstore_n {jj : Fin 4} {j : Nat} (hc : xcode k pc = some (.lstore_n jj, len, a, b)) (hj : jj.val = j) (hl : Nat.blt (j + 1) (xNl k) = true) (hn : yGd G xrec xs E rec k N (pc + 1) n) : yGd G xrec xs E rec k (N + 1) pc (yStl j n) := by subst hj; exact g_stl hc rfl (fun _ _ _ => by unfold xop; dsimp only; rw [if_pos (y_blt_t hl)]) hn
theorem tt_lstore {j : Nat} (hc : xcode k pc = some (.lstore j, len, a, b)) (hl : Nat.blt (j + 1) (xNl k) = true) (hn : yGd G xrec xs E rec k N (pc + 2) n) : yGd G xrec xs E rec k (N + 1) pc (yStl j n) := g_stl hc rfl (fun _ _ _ => by unfold xop; dsimp only; rw [if_pos (y_blt_t hl)]) hn
theorem tt_dstore_n {jj : Fin 4} {j : Nat} (hc : xcode k pc = some (.dstore_n jj, len, a, b)) (hj : jj.val = j) (hl : Nat.blt (j + 1) (xNl k) = true) (hn : yGd G xrec xs E rec k N (pc + 1) n) : yGd G xrec xs E rec k (N + 1) pc (yStd j n) := by subst hj; exact g_std hc rfl (fun _ _ _ => by unfold xop; dsimp only; rw [if_pos (y_blt_t hl)]) hn
theorem tt_dstore {j : Nat} (hc : xcode k pc = some (.dstore j, len, a, b)) (hl : Nat.blt (j + 1) (xNl k) = true) (hn : yGd G xrec xs E rec k N (pc + 2) n) : yGd G xrec xs E rec k (N + 1) pc (yStd j n) := g_std hc rfl (fun _ _ _ => by unfold xop; dsimp only; rw [if_pos (y_blt_t hl)]) hn
theorem tt_fstore_n {jj : Fin 4} {j : Nat} (hc : xcode k pc = some (.fstore_n jj, len, a, b)) (hj : jj.val = j) (hl : Nat.blt j (xNl k) = true) (hn : yGd G xrec xs E rec k N (pc + 1) n) : yGd G xrec xs E rec k (N + 1) pc (yStf j n) := by subst hj; exact g_stf hc rfl (fun _ _ _ => by unfold xop; dsimp only; rw [if_pos (y_blt_t hl)]) hn
theorem tt_fstore {j : Nat} (hc : xcode k pc = some (.fstore j, len, a, b)) (hl : Nat.blt j (xNl k) = true) (hn : yGd G xrec xs E rec k N (pc + 2) n) : yGd G xrec xs E rec k (N + 1) pc (yStf j n) := g_stf hc rfl (fun _ _ _ => by unfold xop; dsimp only; rw [if_pos (y_blt_t hl)]) hn
theorem tt_iinc {j x : Nat} {c : Int} (hc : xcode k pc = some (.iinc j c, len, a, b)) (hv : Int32.ofInt c = Int32.ofNat x) (hl : Nat.blt j (xNl k) = true) (hn : yGd G xrec xs E rec k N (pc + 3) n) : yGd G xrec xs E rec k (N + 1) pc (yInc j x n) := g_inc hc rfl hv (fun _ _ _ h => by unfold xop; dsimp only; rw [h]; dsimp only; rw [if_pos (y_blt_t hl)]) hn
theorem tt_iadd (hE : yOk G xs E) (hc : xcode k pc = some (.iadd, len, a, b)) (hn : yGd G xrec xs E rec k N (pc + 1) n) : yGd G xrec xs E rec k (N + 1) pc (yAr (nat_lit 0) n) := g_ar (o := nat_lit 0) hE hc rfl (fun _ _ _ x y q hq => by have hq : some ((x + y) % 4294967296) = some q := hq; have hq := Option.some.inj hq; subst hq; rw [y_add32]; rfl) (fun f hf _ _ _ _ _ => by have hf := Option.some.inj hf; subst hf; rfl) hn
theorem tt_imul (hE : yOk G xs E) (hc : xcode k pc = some (.imul, len, a, b)) (hn : yGd G xrec xs E rec k N (pc + 1) n) : yGd G xrec xs E rec k (N + 1) pc (yAr (nat_lit 2) n) := g_ar (o := nat_lit 2) hE hc rfl (fun _ _ _ x y q hq => by have hq : some ((x * y) % 4294967296) = some q := hq; have hq := Option.some.inj hq; subst hq; rw [y_mul32]; rfl) (fun f hf _ _ _ _ _ => by have hf := Option.some.inj hf; subst hf; rfl) hn
theorem tt_iand (hE : yOk G xs E) (hc : xcode k pc = some (.iand, len, a, b)) (hn : yGd G xrec xs E rec k N (pc + 1) n) : yGd G xrec xs E rec k (N + 1) pc (yAr (nat_lit 3) n) := g_ar (o := nat_lit 3) hE hc rfl (fun _ _ _ x y q hq => by have hq : some (Nat.land x y) = some q := hq; have hq := Option.some.inj hq; subst hq; rw [y_and32]; rfl) (fun f hf _ _ _ _ _ => by have hf := Option.some.inj hf; subst hf; rfl) hn
theorem tt_ior (hE : yOk G xs E) (hc : xcode k pc = some (.ior, len, a, b)) (hn : yGd G xrec xs E rec k N (pc + 1) n) : yGd G xrec xs E rec k (N + 1) pc (yAr (nat_lit 4) n) := g_ar (o := nat_lit 4) hE hc rfl (fun _ _ _ x y q hq => by have hq : some (Nat.lor x y) = some q := hq; have hq := Option.some.inj hq; subst hq; rw [y_or32]; rfl) (fun f hf _ _ _ _ _ => by have hf := Option.some.inj hf; subst hf; rfl) hn
theorem y_tb_o {α : Type} {c : Bool} {x : Option α} {q : α} (h : y_if c x none = some q) : c = true ∧ x = some q := by
  cases c with
  | false => cases h
  | true => exact ⟨rfl, h⟩
theorem y_tb_n {α : Type} {c : Bool} {x : Option α} {q : α} (h : y_if c none x = some q) : c = false ∧ x = some q := by
  cases c with
  | false => exact ⟨rfl, h⟩
  | true => cases h
theorem tt_isub (hE : yOk G xs E) (hc : xcode k pc = some (.isub, len, a, b)) (hn : yGd G xrec xs E rec k N (pc + 1) n) : yGd G xrec xs E rec k (N + 1) pc (yAr (nat_lit 1) n) := g_ar (o := nat_lit 1) hE hc rfl (fun _ _ _ x y q hq => by obtain ⟨h1, h2⟩ := y_tb_o hq; have h2 := Option.some.inj h2; rw [← h2]; show _ = some (pc + 1, _, Value.int (Int32.ofNat ((x + (4294967296 - y)) % 4294967296)) :: _); rw [y_sub32 x y (Nat.le_of_ble_eq_true h1)]; rfl) (fun f hf _ _ _ _ _ => by have hf := Option.some.inj hf; subst hf; rfl) hn
theorem y_i32z {y : Nat} (hy : y < 2147483648) (h : Nat.beq y (nat_lit 0) = false) : ¬ Int32.ofNat y = 0 := by
  intro e
  have h1 : (Int32.ofNat y).toInt = (0 : Int32).toInt := by rw [e]
  rw [Int32.toInt_ofNat_of_lt (by omega), show (0 : Int32).toInt = 0 from by decide] at h1
  have h2 : y = 0 := by omega
  subst h2
  cases h
theorem y_i64z {y : Nat} (hy : y < 9223372036854775808) (h : Nat.beq y (nat_lit 0) = false) : ¬ Int64.ofNat y = 0 := by
  intro e
  have h1 : (Int64.ofNat y).toInt = (0 : Int64).toInt := by rw [e]
  rw [Int64.toInt_ofNat_of_lt (by omega), show (0 : Int64).toInt = 0 from by decide] at h1
  have h2 : y = 0 := by omega
  subst h2
  cases h
theorem tt_idiv (hE : yOk G xs E) (hc : xcode k pc = some (.idiv, len, a, b)) (hn : yGd G xrec xs E rec k N (pc + 1) n) : yGd G xrec xs E rec k (N + 1) pc (yAr (nat_lit 5) n) := g_ar (o := nat_lit 5) hE hc rfl (fun _ _ _ x y q hq => by obtain ⟨h1, hq⟩ := y_tb_o hq; obtain ⟨h2, hq⟩ := y_tb_o hq; obtain ⟨h3, hq⟩ := y_tb_n hq; have hq := Option.some.inj hq; rw [← hq]; have h1 := y_blt_t h1; have h2 := y_blt_t h2; unfold xop; dsimp only; rw [if_neg (y_i32z h2 h3)]; show some (pc + 1, _, Value.int _ :: _) = some (pc + 1, _, Value.int (Int32.ofNat (x / y)) :: _); rw [y_div32 h1 h2]) (fun f hf _ _ _ _ _ => by cases hf) hn
theorem tt_irem (hE : yOk G xs E) (hc : xcode k pc = some (.irem, len, a, b)) (hn : yGd G xrec xs E rec k N (pc + 1) n) : yGd G xrec xs E rec k (N + 1) pc (yAr (nat_lit 6) n) := g_ar (o := nat_lit 6) hE hc rfl (fun _ _ _ x y q hq => by obtain ⟨h1, hq⟩ := y_tb_o hq; obtain ⟨h2, hq⟩ := y_tb_o hq; obtain ⟨h3, hq⟩ := y_tb_n hq; have hq := Option.some.inj hq; rw [← hq]; have h1 := y_blt_t h1; have h2 := y_blt_t h2; unfold xop; dsimp only; rw [if_neg (y_i32z h2 h3)]; show some (pc + 1, _, Value.int _ :: _) = some (pc + 1, _, Value.int (Int32.ofNat (x % y)) :: _); rw [y_rem32 h1 h2]) (fun f hf _ _ _ _ _ => by cases hf) hn
theorem y_shr32 {x y : Nat} (hx : x < 4294967296) (h : y < 32) : Int32.ofNat (x >>> y) = ((Int32.ofNat x).toUInt32 >>> ((Int32.ofNat y).toUInt32 &&& Int32.toUInt32 31)).toInt32 := by
  apply Int32.toBitVec_inj.mp
  apply BitVec.eq_of_toNat_eq
  show (x >>> y) % 2 ^ 32 = ((Int32.ofNat x).toUInt32 >>> ((Int32.ofNat y).toUInt32 &&& Int32.toUInt32 31)).toNat
  rw [UInt32.toNat_shiftRight]
  have h1 : ((Int32.ofNat y).toUInt32 &&& Int32.toUInt32 31).toNat = y := by
    rw [UInt32.toNat_and]
    show (y % 2 ^ 32) &&& 31 = y
    have h3 : y % 2 ^ 32 = y := by omega
    have h2 : y &&& (2 ^ 5 - 1) = y % 2 ^ 5 := Nat.and_two_pow_sub_one_eq_mod y 5
    rw [h3, show (31 : Nat) = 2 ^ 5 - 1 from rfl, h2]
    omega
  have h4 : (Int32.ofNat x).toUInt32.toNat = x := by
    show x % 2 ^ 32 = x
    omega
  rw [h1, h4, Nat.mod_eq_of_lt h]
  have h5 : x >>> y ≤ x := by rw [Nat.shiftRight_eq_div_pow]; exact Nat.div_le_self _ _
  exact Nat.mod_eq_of_lt (Nat.lt_of_le_of_lt h5 hx)
theorem tt_iushr (hE : yOk G xs E) (hc : xcode k pc = some (.iushr, len, a, b)) (hn : yGd G xrec xs E rec k N (pc + 1) n) : yGd G xrec xs E rec k (N + 1) pc (yAr (nat_lit 8) n) := g_ar (o := nat_lit 8) hE hc rfl (fun _ _ _ x y q hq => by obtain ⟨h1, hq⟩ := y_tb_o hq; obtain ⟨h2, hq⟩ := y_tb_o hq; have hq := Option.some.inj hq; rw [← hq]; show some (pc + 1, _, Value.int _ :: _) = some (pc + 1, _, Value.int (Int32.ofNat (x >>> y)) :: _); rw [y_shr32 (y_blt_t h1) (y_blt_t h2)]) (fun f hf _ _ _ _ _ => by have hf := Option.some.inj hf; subst hf; rfl) hn
theorem tt_ladd (hc : xcode k pc = some (.ladd, len, a, b)) (hn : yGd G xrec xs E rec k N (pc + 1) n) : yGd G xrec xs E rec k (N + 1) pc (yLa (nat_lit 0) n) := g_la (o := nat_lit 0) hc rfl (fun _ _ _ x y q hq => by have hq : some ((x + y) % 18446744073709551616) = some q := hq; have hq := Option.some.inj hq; subst hq; rw [y_add64]; rfl) hn
theorem tt_lsub (hc : xcode k pc = some (.lsub, len, a, b)) (hn : yGd G xrec xs E rec k N (pc + 1) n) : yGd G xrec xs E rec k (N + 1) pc (yLa (nat_lit 1) n) := g_la (o := nat_lit 1) hc rfl (fun _ _ _ x y q hq => by obtain ⟨h1, h2⟩ := y_tb_o hq; have h2 := Option.some.inj h2; rw [← h2]; show _ = some (pc + 1, _, Value.long (Int64.ofNat ((x + (18446744073709551616 - y)) % 18446744073709551616)) :: _); rw [y_sub64 x y (Nat.le_of_ble_eq_true h1)]; rfl) hn
theorem tt_lmul (hc : xcode k pc = some (.lmul, len, a, b)) (hn : yGd G xrec xs E rec k N (pc + 1) n) : yGd G xrec xs E rec k (N + 1) pc (yLa (nat_lit 2) n) := g_la (o := nat_lit 2) hc rfl (fun _ _ _ x y q hq => by have hq : some ((x * y) % 18446744073709551616) = some q := hq; have hq := Option.some.inj hq; subst hq; rw [y_mul64]; rfl) hn
theorem tt_lor (hc : xcode k pc = some (.lor, len, a, b)) (hn : yGd G xrec xs E rec k N (pc + 1) n) : yGd G xrec xs E rec k (N + 1) pc (yLa (nat_lit 3) n) := g_la (o := nat_lit 3) hc rfl (fun _ _ _ x y q hq => by have hq : some (Nat.lor x y) = some q := hq; have hq := Option.some.inj hq; subst hq; rw [y_or64]; rfl) hn
theorem tt_ldiv (hc : xcode k pc = some (.ldiv, len, a, b)) (hn : yGd G xrec xs E rec k N (pc + 1) n) : yGd G xrec xs E rec k (N + 1) pc (yLa (nat_lit 4) n) := g_la (o := nat_lit 4) hc rfl (fun _ _ _ x y q hq => by obtain ⟨h1, hq⟩ := y_tb_o hq; obtain ⟨h2, hq⟩ := y_tb_o hq; obtain ⟨h3, hq⟩ := y_tb_n hq; have hq := Option.some.inj hq; rw [← hq]; have h1 := y_blt_t h1; have h2 := y_blt_t h2; unfold xop; dsimp only; rw [if_neg (y_i64z h2 h3)]; show some (pc + 1, _, Value.long _ :: _) = some (pc + 1, _, Value.long (Int64.ofNat (x / y)) :: _); rw [y_div64 h1 h2]) hn
theorem tt_lrem (hc : xcode k pc = some (.lrem, len, a, b)) (hn : yGd G xrec xs E rec k N (pc + 1) n) : yGd G xrec xs E rec k (N + 1) pc (yLa (nat_lit 5) n) := g_la (o := nat_lit 5) hc rfl (fun _ _ _ x y q hq => by obtain ⟨h1, hq⟩ := y_tb_o hq; obtain ⟨h2, hq⟩ := y_tb_o hq; obtain ⟨h3, hq⟩ := y_tb_n hq; have hq := Option.some.inj hq; rw [← hq]; have h1 := y_blt_t h1; have h2 := y_blt_t h2; unfold xop; dsimp only; rw [if_neg (y_i64z h2 h3)]; show some (pc + 1, _, Value.long _ :: _) = some (pc + 1, _, Value.long (Int64.ofNat (x % y)) :: _); rw [y_rem64 h1 h2]) hn
theorem tt_lcmp (hc : xcode k pc = some (.lcmp, len, a, b)) (hn : yGd G xrec xs E rec k N (pc + 1) n) : yGd G xrec xs E rec k (N + 1) pc (yLcmp n) := g_lcmp hc hn
theorem tt_i2l (hE : yOk G xs E) (hc : xcode k pc = some (.i2l, len, a, b)) (hn : yGd G xrec xs E rec k N (pc + 1) n) : yGd G xrec xs E rec k (N + 1) pc (yI2l n) := g_i2l hE hc rfl (fun _ _ _ _ => rfl) hn
theorem tt_l2i (hc : xcode k pc = some (.l2i, len, a, b)) (hn : yGd G xrec xs E rec k N (pc + 1) n) : yGd G xrec xs E rec k (N + 1) pc (yL2i n) := g_l2i hc rfl (fun _ _ _ _ => rfl) hn
theorem tt_i2c (hE : yOk G xs E) (hc : xcode k pc = some (.i2c, len, a, b)) (hn : yGd G xrec xs E rec k N (pc + 1) n) : yGd G xrec xs E rec k (N + 1) pc (yI2c n) := g_i2c hE hc rfl (fun _ _ _ _ => rfl) hn
theorem tt_goto {o : Int} (hc : xcode k pc = some (.goto o, len, a, b)) : yGd G xrec xs E rec k 1 pc (yGoto a n) := g_goto hc rfl (fun _ _ _ => rfl)
theorem tt_ifnull {o : Int} (hc : xcode k pc = some (.ifnull o, len, a, b)) (hn : yGd G xrec xs E rec k N (pc + 3) n) : yGd G xrec xs E rec k (N + 1) pc (yIfnull n) := g_ifnull hc rfl (fun _ _ _ _ => rfl) hn
theorem y_cd_lt (cd : Jvm.ClassFile.Cond) : y_cd cd < 6 := by cases cd <;> decide
theorem tt_if {cd : Jvm.ClassFile.Cond} {o : Int} {c : Nat} (hE : yOk G xs E) (hc : xcode k pc = some (.ifCond cd o, len, a, b)) (hcd : y_cd cd = c) (hn : yGd G xrec xs E rec k N (pc + 3) n) : yGd G xrec xs E rec k (N + 1) pc (yIfc c a n) := by subst hcd; exact g_ifc hE (y_cd_lt cd) hc rfl (fun _ _ _ _ => y_if_e2 _ _ _ _ _ _ _ _) hn
theorem tt_icmp {cd : Jvm.ClassFile.Cond} {o : Int} {c : Nat} (hE : yOk G xs E) (hc : xcode k pc = some (.if_icmp cd o, len, a, b)) (hcd : y_cd cd = c) (hn : yGd G xrec xs E rec k N (pc + 3) n) : yGd G xrec xs E rec k (N + 1) pc (yIcmp c a n) := by subst hcd; exact g_icmp hE (y_cd_lt cd) hc rfl (fun _ _ _ _ _ => y_icmp_e2 _ _ _ _ _ _ _ _ _) hn
theorem y_putI {v : yV} (hf : xfty a b = .int) (h : y_kI v = true) : xfit (xfty a b) (y_dec G v) = true := by
  obtain ⟨x, hx⟩ := y_kI_e (G := G) h
  rw [hf, hx]
  rfl
theorem y_putZ {v : yV} (hf : xfty a b = .boolean) (h : y_kZ v = true) : xfit (xfty a b) (y_dec G v) = true := by
  obtain ⟨x, hx, hz⟩ := y_kZ_e (G := G) h
  rw [hf, hx]
  exact hz
theorem y_putR {v : yV} (hf : xfit (xfty a b) (.ref 0) = true) (h : y_kR v = true) : xfit (xfty a b) (y_dec G v) = true := by
  obtain ⟨x, hx⟩ := y_kR_e (G := G) h
  rw [hx]
  generalize xfty a b = t at hf
  cases t with
  | object _ => rfl
  | array _ => rfl
  | _ => cases hf
theorem tt_putI {ix : Nat} (hc : xcode k pc = some (.putfield ix, len, a, b)) (hf : xfty a b = .int) (hn : yGd G xrec xs E rec k N (pc + 3) n) : yGd G xrec xs E rec k (N + 1) pc (yPutf a b y_kI n) := g_putf hc (fun _ h => y_putI hf h) hn
theorem tt_putZ {ix : Nat} (hc : xcode k pc = some (.putfield ix, len, a, b)) (hf : xfty a b = .boolean) (hn : yGd G xrec xs E rec k N (pc + 3) n) : yGd G xrec xs E rec k (N + 1) pc (yPutf a b y_kZ n) := g_putf hc (fun _ h => y_putZ hf h) hn
theorem tt_putR {ix : Nat} (hc : xcode k pc = some (.putfield ix, len, a, b)) (hf : xfit (xfty a b) (.ref 0) = true) (hn : yGd G xrec xs E rec k N (pc + 3) n) : yGd G xrec xs E rec k (N + 1) pc (yPutf a b y_kR n) := g_putf hc (fun _ h => y_putR hf h) hn
theorem tt_get {ix : Nat} (hc : xcode k pc = some (.getfield ix, len, a, b)) (hn : yGd G xrec xs E rec k N (pc + 3) n) : yGd G xrec xs E rec k (N + 1) pc (yGetf a b n) := g_getf hc hn
theorem tt_iaload (hc : xcode k pc = some (.iaload, len, a, b)) (hn : yGd G xrec xs E rec k N (pc + 1) n) : yGd G xrec xs E rec k (N + 1) pc (yAld (nat_lit 100) y_kI n) := g_ald (a := nat_lit 100) (fun _ _ _ _ _ _ _ _ _ hok h1 hj h2 => by obtain ⟨x, hx⟩ := y_kI_e (G := G) hok; rw [hx] at h2 ⊢; exact xs_iald hc h1 hj h2) hn
theorem tt_laload (hc : xcode k pc = some (.laload, len, a, b)) (hn : yGd G xrec xs E rec k N (pc + 1) n) : yGd G xrec xs E rec k (N + 1) pc (yAld (nat_lit 101) y_kJ n) := g_ald (a := nat_lit 101) (fun _ _ _ _ _ _ _ _ _ hok h1 hj h2 => by obtain ⟨x, hx⟩ := y_kJ_e (G := G) hok; rw [hx] at h2 ⊢; exact xs_lald hc h1 hj h2) hn
theorem tt_caload (hc : xcode k pc = some (.caload, len, a, b)) (hn : yGd G xrec xs E rec k N (pc + 1) n) : yGd G xrec xs E rec k (N + 1) pc (yAld (nat_lit 102) y_kI n) := g_ald (a := nat_lit 102) (fun _ _ _ _ _ _ _ _ _ hok h1 hj h2 => by obtain ⟨x, hx⟩ := y_kI_e (G := G) hok; rw [hx] at h2 ⊢; exact xs_cald hc h1 hj h2) hn
theorem tt_aaload (hc : xcode k pc = some (.aaload, len, a, b)) (hn : yGd G xrec xs E rec k N (pc + 1) n) : yGd G xrec xs E rec k (N + 1) pc (yAld (nat_lit 103) y_kR n) := g_ald (a := nat_lit 103) (fun _ _ _ _ _ _ _ _ _ hok h1 hj h2 => by obtain ⟨x, hx⟩ := y_kR_e (G := G) hok; rw [hx] at h2 ⊢; exact xs_aald hc h1 hj h2) hn
theorem tt_iastore (hc : xcode k pc = some (.iastore, len, a, b)) (hn : yGd G xrec xs E rec k N (pc + 1) n) : yGd G xrec xs E rec k (N + 1) pc (yAst (nat_lit 100) y_kI n) := g_ast (a := nat_lit 100) (fun _ _ _ _ _ _ _ _ _ hok h1 hj => by obtain ⟨x, hx⟩ := y_kI_e (G := G) hok; rw [hx]; exact xs_iast hc h1 hj) hn
theorem tt_lastore (hc : xcode k pc = some (.lastore, len, a, b)) (hn : yGd G xrec xs E rec k N (pc + 1) n) : yGd G xrec xs E rec k (N + 1) pc (yAst (nat_lit 101) y_kJ n) := g_ast (a := nat_lit 101) (fun _ _ _ _ _ _ _ _ _ hok h1 hj => by obtain ⟨x, hx⟩ := y_kJ_e (G := G) hok; rw [hx]; exact xs_last hc h1 hj) hn
theorem tt_castore (hE : yOk G xs E) (hc : xcode k pc = some (.castore, len, a, b)) (hn : yGd G xrec xs E rec k N (pc + 1) n) : yGd G xrec xs E rec k (N + 1) pc (yCast n) := g_cast hE hc hn
theorem tt_aastore (hc : xcode k pc = some (.aastore, len, a, b)) (hn : yGd G xrec xs E rec k N (pc + 1) n) : yGd G xrec xs E rec k (N + 1) pc (yAast n) := g_aast hc hn
theorem tt_arraylength (hc : xcode k pc = some (.arraylength, len, a, b)) (hn : yGd G xrec xs E rec k N (pc + 1) n) : yGd G xrec xs E rec k (N + 1) pc (yAlen n) := g_alen hc hn
theorem tt_slen (hE : yOk G xs E) (hc : xcode k pc = some (.arraylength, len, a, b)) (hn : yGd G xrec xs E rec k N (pc + 1) n) : yGd G xrec xs E rec k (N + 1) pc (ySlen n) := g_slen hE hc hn
theorem tt_sld (hE : yOk G xs E) (hc : xcode k pc = some (.iaload, len, a, b)) (hn : yGd G xrec xs E rec k N (pc + 1) n) : yGd G xrec xs E rec k (N + 1) pc (ySld n) := g_sld hE hc hn
theorem tt_new {MC MS l : Nat} {s : yT} {ix : Nat} (hc : xcode k pc = some (.new ix, len, a, 0)) (hM : (Nat.beq MC (xMc k) && Nat.beq MS (xMs k)) = true) (hd : xdef a = y_sl G l s) (hn : yGd G xrec xs E rec k N (pc + 3) n) : yGd G xrec xs E rec k (N + 1) pc (yNew MC MS a l s n) := by obtain ⟨h1, h2⟩ := xand hM; exact g_new hc (xbe h1) (xbe h2) hd hn
theorem tt_thr {MC MS ix : Nat} (hc : xcode k pc = some (.new ix, len, a, b)) (hM : (Nat.blt 0 b && (Nat.beq MC (xMc k) && (Nat.beq MS (xMs k) && (Nat.ble 6 (xFr k) && Nat.ble 90 (xLo k))))) = true) : yGd G xrec xs E rec k 0 pc (yThr MC MS a n) := by obtain ⟨h0, hM⟩ := xand hM; obtain ⟨h1, hM⟩ := xand hM; obtain ⟨h2, hM⟩ := xand hM; exact g_thr (y_blt_t h0) hc hM (xbe h1) (xbe h2)
theorem xs_newa {ty : ArrayType} {ls : XL} {r : List Value} {q cu su : Nat} {σ : XW} (hc : xcode k pc = some (.newarray ty, len, a, b)) (hf : σ.1 = true) (hq : q ≤ 4096) (h1 : cu + 1 ≤ xMc k) (h2 : su + q ≤ xMs k) : xstep xrec xs k (pc, ls, .int (Int32.ofNat q) :: r, cu, su, σ) = some (.inl (pc + 2, ls, .ref σ.2.length :: r, cu + 1, su + q, (true, σ.2 ++ [(a, List.replicate q (bif Nat.beq a 101 then .long 0 else .int 0))]))) := by
  unfold xstep; dsimp only; rw [hc]; dsimp only
  rw [hf, y_tn32 hq, decide_eq_true (y_nn32 hq), show Nat.ble q 1000000 = true from Nat.ble_eq_true_of_le (by omega), show Nat.ble (cu + 1) (xMc k) = true from Nat.ble_eq_true_of_le h1, show Nat.ble (su + q) (xMs k) = true from Nat.ble_eq_true_of_le h2]
  rfl
theorem xs_anew {ix : Nat} {ls : XL} {r : List Value} {q cu su : Nat} {σ : XW} (hc : xcode k pc = some (.anewarray ix, len, a, b)) (hf : σ.1 = true) (hq : q ≤ 4096) (h1 : cu + 1 ≤ xMc k) (h2 : su + q ≤ xMs k) : xstep xrec xs k (pc, ls, .int (Int32.ofNat q) :: r, cu, su, σ) = some (.inl (pc + 3, ls, .ref σ.2.length :: r, cu + 1, su + q, (true, σ.2 ++ [(103, List.replicate q .null)]))) := by
  unfold xstep; dsimp only; rw [hc]; dsimp only
  rw [hf, y_tn32 hq, decide_eq_true (y_nn32 hq), show Nat.ble q 1000000 = true from Nat.ble_eq_true_of_le (by omega), show Nat.ble (cu + 1) (xMc k) = true from Nat.ble_eq_true_of_le h1, show Nat.ble (su + q) (xMs k) = true from Nat.ble_eq_true_of_le h2]
  rfl
theorem tt_newarray {MC MS : Nat} {z : yV} {ty : ArrayType} (hc : xcode k pc = some (.newarray ty, len, a, b)) (hM : (Nat.beq MC (xMc k) && Nat.beq MS (xMs k)) = true) (hz : y_dec G z = (bif Nat.beq a 101 then .long 0 else .int 0)) (hn : yGd G xrec xs E rec k N (pc + 2) n) : yGd G xrec xs E rec k (N + 1) pc (yNewa MC MS a z n) := by obtain ⟨h1, h2⟩ := xand hM; exact g_newa hz (fun _ _ _ _ _ _ hf hq g1 g2 => xs_newa hc hf hq g1 g2) (xbe h1) (xbe h2) hn
theorem tt_anewarray {MC MS : Nat} {ix : Nat} (hc : xcode k pc = some (.anewarray ix, len, a, b)) (hM : (Nat.beq MC (xMc k) && Nat.beq MS (xMs k)) = true) (hn : yGd G xrec xs E rec k N (pc + 3) n) : yGd G xrec xs E rec k (N + 1) pc (yNewa MC MS (nat_lit 103) (y_v .null) n) := by obtain ⟨h1, h2⟩ := xand hM; exact g_newa (u := .null) rfl (fun _ _ _ _ _ _ hf hq g1 g2 => xs_anew hc hf hq g1 g2) (xbe h1) (xbe h2) hn
/-- all that a call asks of the tables -/
def y_cst (k pc a na mc ms MC MS : Nat) (hs : List (Nat × Nat × Nat)) : Bool := Nat.beq na (xNa a) && (Nat.beq mc (xMc a) && (Nat.beq ms (xMs a) && (Nat.beq MC (xMc k) && (Nat.beq MS (xMs k) && (y_rst k a && y_hk k pc (xHh k) hs)))))
theorem y_cst_e {na mc ms MC MS : Nat} {hs : List (Nat × Nat × Nat)} (h : y_cst k pc a na mc ms MC MS hs = true) : na = xNa a ∧ mc = xMc a ∧ ms = xMs a ∧ MC = xMc k ∧ MS = xMs k ∧ y_rst k a = true ∧ y_hk k pc (xHh k) hs = true := by
  unfold y_cst at h
  obtain ⟨h1, h⟩ := xand h
  obtain ⟨h2, h⟩ := xand h
  obtain ⟨h3, h⟩ := xand h
  obtain ⟨h4, h⟩ := xand h
  obtain ⟨h5, h⟩ := xand h
  obtain ⟨h6, h⟩ := xand h
  exact ⟨xbe h1, xbe h2, xbe h3, xbe h4, xbe h5, h6, h⟩
theorem tt_calS {na mc ms MC MS ix : Nat} {hs : List (Nat × Nat × Nat)} (hR : yRecOk G rec xrec) (hc : xcode k pc = some (.invokestatic ix, len, a, 0)) (h : y_cst k pc a na mc ms MC MS hs = true) (hn : yGd G xrec xs E rec k N (pc + 3) n) : yGd G xrec xs E rec k (N + 1) pc (yCalS a na mc ms MC MS hs n) := by obtain ⟨e1, e2, e3, e4, e5, h6, h7⟩ := y_cst_e h; exact g_calS hR hc e1 e2 e3 e4 e5 h6 h7 hn
theorem tt_calI {na mc ms MC MS ix : Nat} {hs : List (Nat × Nat × Nat)} (hR : yRecOk G rec xrec) (hc : xcode k pc = some (.invokespecial ix, len, a, b)) (hb : (Nat.beq b 0 || Nat.beq b 1) = true) (h : y_cst k pc a na mc ms MC MS hs = true) (hn : yGd G xrec xs E rec k N (pc + 3) n) : yGd G xrec xs E rec k (N + 1) pc (yCalI a na mc ms MC MS hs n) := by obtain ⟨e1, e2, e3, e4, e5, h6, h7⟩ := y_cst_e h; exact g_calI hR ((Bool.or_eq_true _ _ ▸ hb).imp Nat.eq_of_beq_eq_true Nat.eq_of_beq_eq_true) hc e1 e2 e3 e4 e5 h6 h7 hn
theorem tt_calV {na cl mc ms MC MS ix : Nat} {hs : List (Nat × Nat × Nat)} (hR : yRecOk G rec xrec) (hc : xcode k pc = some (.invokevirtual ix, len, a, b)) (hk : Nat.beq cl (xK a) = true) (h : y_cst k pc a na mc ms MC MS hs = true) (hn : yGd G xrec xs E rec k N (pc + 3) n) : yGd G xrec xs E rec k (N + 1) pc (yCalV a na cl mc ms MC MS hs n) := by obtain ⟨e1, e2, e3, e4, e5, h6, h7⟩ := y_cst_e h; exact g_calV hR hc (xbe hk) e1 e2 e3 e4 e5 h6 h7 hn
theorem tt_obj {ix : Nat} (hc : xcode k pc = some (.invokespecial ix, len, a, 2)) (hst : (Nat.ble 1 (xFr k) && Nat.ble 20 (xLo k)) = true) (hn : yGd G xrec xs E rec k N (pc + 3) n) : yGd G xrec xs E rec k (N + 1) pc (yObj n) := g_obj hc hst hn
theorem tt_acpy {ix : Nat} (hc : xcode k pc = some (.invokestatic ix, len, 0, 1)) (hst : (Nat.ble 1 (xFr k) && Nat.ble 38 (xLo k)) = true) (hn : yGd G xrec xs E rec k N (pc + 3) n) : yGd G xrec xs E rec k (N + 1) pc (yAcpy n) := g_acpy hc hst hn
theorem tt_bitd {ix : Nat} (hc : xcode k pc = some (.invokestatic ix, len, 1, 1)) (hst : (Nat.ble 1 (xFr k) && Nat.ble 23 (xLo k)) = true) (hn : yGd G xrec xs E rec k N (pc + 3) n) : yGd G xrec xs E rec k (N + 1) pc (yBitD n) := g_bitd hc hst hn
theorem tt_bitf {ix : Nat} (hc : xcode k pc = some (.invokestatic ix, len, 2, 1)) (hst : (Nat.ble 1 (xFr k) && Nat.ble 23 (xLo k)) = true) (hn : yGd G xrec xs E rec k N (pc + 3) n) : yGd G xrec xs E rec k (N + 1) pc (yBitF n) := g_bitf hc hst hn
theorem tt_reti {MC MS : Nat} (hc : xcode k pc = some (.ireturn, len, a, b)) (hr : xRet k = some .int) (hM : (Nat.beq MC (xMc k) && Nat.beq MS (xMs k)) = true) : yGd G xrec xs E rec k 0 pc (yRet1 MC MS y_kI n) := by obtain ⟨h1, h2⟩ := xand hM; exact g_reti hc hr (xbe h1) (xbe h2)
theorem tt_retz {MC MS : Nat} (hc : xcode k pc = some (.ireturn, len, a, b)) (hr : xRet k = some .boolean) (hM : (Nat.beq MC (xMc k) && Nat.beq MS (xMs k)) = true) : yGd G xrec xs E rec k 0 pc (yRet1 MC MS y_kZ n) := by obtain ⟨h1, h2⟩ := xand hM; exact g_retz hc hr (xbe h1) (xbe h2)
theorem tt_retl {MC MS : Nat} (hc : xcode k pc = some (.lreturn, len, a, b)) (hr : xRet k = some .long) (hM : (Nat.beq MC (xMc k) && Nat.beq MS (xMs k)) = true) : yGd G xrec xs E rec k 0 pc (yRet1 MC MS y_kJ n) := by obtain ⟨h1, h2⟩ := xand hM; exact g_retl hc hr (xbe h1) (xbe h2)
theorem tt_ret0 {MC MS : Nat} (hc : xcode k pc = some (.return_, len, a, b)) (hr : xRet k = none) (hM : (Nat.beq MC (xMc k) && Nat.beq MS (xMs k)) = true) : yGd G xrec xs E rec k 0 pc (yRet0 MC MS n) := by obtain ⟨h1, h2⟩ := xand hM; exact g_ret0 hc hr (xbe h1) (xbe h2)
theorem h_dadd (nl : Nat) (ls : XL) (r : List Value) (y x w : Value) (h : y_F2 (.dadd) y x = some w) : xop (.dadd) pc a nl ls (y :: x :: r) = some (pc + 1, ls, w :: r) := by
  cases y with
  | double y => cases x with
    | double x => 
      by_cases hcnd : FP.dadd x y &&& 0x7fffffffffffffff ≤ 0x7ff0000000000000
      · have h2 : y_F2 (.dadd) (.double y) (.double x) = some (.double (FP.dadd x y)) := by unfold y_F2 xop; dsimp only; rw [if_pos hcnd]
        rw [h2] at h
        cases h
        unfold xop; dsimp only; rw [if_pos hcnd]
      · have h2 : y_F2 (.dadd) (.double y) (.double x) = none := by unfold y_F2 xop; dsimp only; rw [if_neg hcnd]
        rw [h2] at h
        cases h
    | _ => cases h
  | _ => cases h
theorem tt_dadd (hc : xcode k pc = some (.dadd, len, a, b)) (hn : yGd G xrec xs E rec k N (pc + 1) n) : yGd G xrec xs E rec k (N + 1) pc (yF2 (.dadd) n) := g_F2 hc rfl (fun nl ls r y x w h => h_dadd nl ls r y x w h) hn
theorem h_dsub (nl : Nat) (ls : XL) (r : List Value) (y x w : Value) (h : y_F2 (.dsub) y x = some w) : xop (.dsub) pc a nl ls (y :: x :: r) = some (pc + 1, ls, w :: r) := by
  cases y with
  | double y => cases x with
    | double x => 
      by_cases hcnd : FP.dsub x y &&& 0x7fffffffffffffff ≤ 0x7ff0000000000000
      · have h2 : y_F2 (.dsub) (.double y) (.double x) = some (.double (FP.dsub x y)) := by unfold y_F2 xop; dsimp only; rw [if_pos hcnd]
        rw [h2] at h
        cases h
        unfold xop; dsimp only; rw [if_pos hcnd]
      · have h2 : y_F2 (.dsub) (.double y) (.double x) = none := by unfold y_F2 xop; dsimp only; rw [if_neg hcnd]
        rw [h2] at h
        cases h
    | _ => cases h
  | _ => cases h
theorem tt_dsub (hc : xcode k pc = some (.dsub, len, a, b)) (hn : yGd G xrec xs E rec k N (pc + 1) n) : yGd G xrec xs E rec k (N + 1) pc (yF2 (.dsub) n) := g_F2 hc rfl (fun nl ls r y x w h => h_dsub nl ls r y x w h) hn
theorem h_dmul (nl : Nat) (ls : XL) (r : List Value) (y x w : Value) (h : y_F2 (.dmul) y x = some w) : xop (.dmul) pc a nl ls (y :: x :: r) = some (pc + 1, ls, w :: r) := by
  cases y with
  | double y => cases x with
    | double x => 
      by_cases hcnd : FP.dmul x y &&& 0x7fffffffffffffff ≤ 0x7ff0000000000000
      · have h2 : y_F2 (.dmul) (.double y) (.double x) = some (.double (FP.dmul x y)) := by unfold y_F2 xop; dsimp only; rw [if_pos hcnd]
        rw [h2] at h
        cases h
        unfold xop; dsimp only; rw [if_pos hcnd]
      · have h2 : y_F2 (.dmul) (.double y) (.double x) = none := by unfold y_F2 xop; dsimp only; rw [if_neg hcnd]
        rw [h2] at h
        cases h
    | _ => cases h
  | _ => cases h
theorem tt_dmul (hc : xcode k pc = some (.dmul, len, a, b)) (hn : yGd G xrec xs E rec k N (pc + 1) n) : yGd G xrec xs E rec k (N + 1) pc (yF2 (.dmul) n) := g_F2 hc rfl (fun nl ls r y x w h => h_dmul nl ls r y x w h) hn
theorem h_ddiv (nl : Nat) (ls : XL) (r : List Value) (y x w : Value) (h : y_F2 (.ddiv) y x = some w) : xop (.ddiv) pc a nl ls (y :: x :: r) = some (pc + 1, ls, w :: r) := by
  cases y with
  | double y => cases x with
    | double x => 
      by_cases hcnd : FP.ddiv x y &&& 0x7fffffffffffffff ≤ 0x7ff0000000000000
      · have h2 : y_F2 (.ddiv) (.double y) (.double x) = some (.double (FP.ddiv x y)) := by unfold y_F2 xop; dsimp only; rw [if_pos hcnd]
        rw [h2] at h
        cases h
        unfold xop; dsimp only; rw [if_pos hcnd]
      · have h2 : y_F2 (.ddiv) (.double y) (.double x) = none := by unfold y_F2 xop; dsimp only; rw [if_neg hcnd]
        rw [h2] at h
        cases h
    | _ => cases h
  | _ => cases h
theorem tt_ddiv (hc : xcode k pc = some (.ddiv, len, a, b)) (hn : yGd G xrec xs E rec k N (pc + 1) n) : yGd G xrec xs E rec k (N + 1) pc (yF2 (.ddiv) n) := g_F2 hc rfl (fun nl ls r y x w h => h_ddiv nl ls r y x w h) hn
theorem h_fsub (nl : Nat) (ls : XL) (r : List Value) (y x w : Value) (h : y_F2 (.fsub) y x = some w) : xop (.fsub) pc a nl ls (y :: x :: r) = some (pc + 1, ls, w :: r) := by
  cases y with
  | float y => cases x with
    | float x => 
      by_cases hcnd : FP.fsub x y &&& 0x7fffffff ≤ 0x7f800000
      · have h2 : y_F2 (.fsub) (.float y) (.float x) = some (.float (FP.fsub x y)) := by unfold y_F2 xop; dsimp only; rw [if_pos hcnd]
        rw [h2] at h
        cases h
        unfold xop; dsimp only; rw [if_pos hcnd]
      · have h2 : y_F2 (.fsub) (.float y) (.float x) = none := by unfold y_F2 xop; dsimp only; rw [if_neg hcnd]
        rw [h2] at h
        cases h
    | _ => cases h
  | _ => cases h
theorem tt_fsub (hc : xcode k pc = some (.fsub, len, a, b)) (hn : yGd G xrec xs E rec k N (pc + 1) n) : yGd G xrec xs E rec k (N + 1) pc (yF2 (.fsub) n) := g_F2 hc rfl (fun nl ls r y x w h => h_fsub nl ls r y x w h) hn
theorem h_fmul (nl : Nat) (ls : XL) (r : List Value) (y x w : Value) (h : y_F2 (.fmul) y x = some w) : xop (.fmul) pc a nl ls (y :: x :: r) = some (pc + 1, ls, w :: r) := by
  cases y with
  | float y => cases x with
    | float x => 
      by_cases hcnd : FP.fmul x y &&& 0x7fffffff ≤ 0x7f800000
      · have h2 : y_F2 (.fmul) (.float y) (.float x) = some (.float (FP.fmul x y)) := by unfold y_F2 xop; dsimp only; rw [if_pos hcnd]
        rw [h2] at h
        cases h
        unfold xop; dsimp only; rw [if_pos hcnd]
      · have h2 : y_F2 (.fmul) (.float y) (.float x) = none := by unfold y_F2 xop; dsimp only; rw [if_neg hcnd]
        rw [h2] at h
        cases h
    | _ => cases h
  | _ => cases h
theorem tt_fmul (hc : xcode k pc = some (.fmul, len, a, b)) (hn : yGd G xrec xs E rec k N (pc + 1) n) : yGd G xrec xs E rec k (N + 1) pc (yF2 (.fmul) n) := g_F2 hc rfl (fun nl ls r y x w h => h_fmul nl ls r y x w h) hn
theorem h_fdiv (nl : Nat) (ls : XL) (r : List Value) (y x w : Value) (h : y_F2 (.fdiv) y x = some w) : xop (.fdiv) pc a nl ls (y :: x :: r) = some (pc + 1, ls, w :: r) := by
  cases y with
  | float y => cases x with
    | float x => 
      by_cases hcnd : FP.fdiv x y &&& 0x7fffffff ≤ 0x7f800000
      · have h2 : y_F2 (.fdiv) (.float y) (.float x) = some (.float (FP.fdiv x y)) := by unfold y_F2 xop; dsimp only; rw [if_pos hcnd]
        rw [h2] at h
        cases h
        unfold xop; dsimp only; rw [if_pos hcnd]
      · have h2 : y_F2 (.fdiv) (.float y) (.float x) = none := by unfold y_F2 xop; dsimp only; rw [if_neg hcnd]
        rw [h2] at h
        cases h
    | _ => cases h
  | _ => cases h
theorem tt_fdiv (hc : xcode k pc = some (.fdiv, len, a, b)) (hn : yGd G xrec xs E rec k N (pc + 1) n) : yGd G xrec xs E rec k (N + 1) pc (yF2 (.fdiv) n) := g_F2 hc rfl (fun nl ls r y x w h => h_fdiv nl ls r y x w h) hn
theorem h_dcmp {o : Jvm.ClassFile.CmpOp} (nl : Nat) (ls : XL) (r : List Value) (y x w : Value) (h : y_F2 (.dcmp o) y x = some w) : xop (.dcmp o) pc a nl ls (y :: x :: r) = some (pc + 1, ls, w :: r) := by
  cases y with
  | double y => cases x with
    | double x => cases h; rfl
    | _ => cases h
  | _ => cases h
theorem tt_dcmp {o : Jvm.ClassFile.CmpOp} (hc : xcode k pc = some (.dcmp o, len, a, b)) (hn : yGd G xrec xs E rec k N (pc + 1) n) : yGd G xrec xs E rec k (N + 1) pc (yF2 (.dcmp o) n) := g_F2 hc rfl (fun nl ls r y x w h => h_dcmp nl ls r y x w h) hn
theorem h_fcmp {o : Jvm.ClassFile.CmpOp} (nl : Nat) (ls : XL) (r : List Value) (y x w : Value) (h : y_F2 (.fcmp o) y x = some w) : xop (.fcmp o) pc a nl ls (y :: x :: r) = some (pc + 1, ls, w :: r) := by
  cases y with
  | float y => cases x with
    | float x => cases h; rfl
    | _ => cases h
  | _ => cases h
theorem tt_fcmp {o : Jvm.ClassFile.CmpOp} (hc : xcode k pc = some (.fcmp o, len, a, b)) (hn : yGd G xrec xs E rec k N (pc + 1) n) : yGd G xrec xs E rec k (N + 1) pc (yF2 (.fcmp o) n) := g_F2 hc rfl (fun nl ls r y x w h => h_fcmp nl ls r y x w h) hn
theorem h_lshl (nl : Nat) (ls : XL) (r : List Value) (y x w : Value) (h : y_F2 .lshl y x = some w) : xop .lshl pc a nl ls (y :: x :: r) = some (pc + 1, ls, w :: r) := by
  cases y with
  | int y => cases x with
    | long x => cases h; rfl
    | _ => cases h
  | _ => cases h
theorem tt_lshl (hc : xcode k pc = some (.lshl, len, a, b)) (hn : yGd G xrec xs E rec k N (pc + 1) n) : yGd G xrec xs E rec k (N + 1) pc (yF2 .lshl n) := g_F2 hc rfl (fun nl ls r y x w h => h_lshl nl ls r y x w h) hn
theorem h_ishl (nl : Nat) (ls : XL) (r : List Value) (y x w : Value) (h : y_F2 .ishl y x = some w) : xop .ishl pc a nl ls (y :: x :: r) = some (pc + 1, ls, w :: r) := by
  cases y with
  | int y => cases x with
    | int x => cases h; rfl
    | _ => cases h
  | _ => cases h
theorem tt_ishl (hc : xcode k pc = some (.ishl, len, a, b)) (hn : yGd G xrec xs E rec k N (pc + 1) n) : yGd G xrec xs E rec k (N + 1) pc (yF2 .ishl n) := g_F2 hc rfl (fun nl ls r y x w h => h_ishl nl ls r y x w h) hn
theorem h_i2d (nl : Nat) (ls : XL) (r : List Value) (x w : Value) (h : y_F1 .i2d x = some w) : xop .i2d pc a nl ls (x :: r) = some (pc + 1, ls, w :: r) := by
  cases x with
  | int x => cases h; rfl
  | _ => cases h
theorem tt_i2d (hc : xcode k pc = some (.i2d, len, a, b)) (hn : yGd G xrec xs E rec k N (pc + 1) n) : yGd G xrec xs E rec k (N + 1) pc (yF1 .i2d n) := g_F1 hc rfl (fun nl ls r x w h => h_i2d nl ls r x w h) hn
theorem h_i2f (nl : Nat) (ls : XL) (r : List Value) (x w : Value) (h : y_F1 .i2f x = some w) : xop .i2f pc a nl ls (x :: r) = some (pc + 1, ls, w :: r) := by
  cases x with
  | int x => cases h; rfl
  | _ => cases h
theorem tt_i2f (hc : xcode k pc = some (.i2f, len, a, b)) (hn : yGd G xrec xs E rec k N (pc + 1) n) : yGd G xrec xs E rec k (N + 1) pc (yF1 .i2f n) := g_F1 hc rfl (fun nl ls r x w h => h_i2f nl ls r x w h) hn
theorem h_f2i (nl : Nat) (ls : XL) (r : List Value) (x w : Value) (h : y_F1 .f2i x = some w) : xop .f2i pc a nl ls (x :: r) = some (pc + 1, ls, w :: r) := by
  cases x with
  | float x => cases h; rfl
  | _ => cases h
theorem tt_f2i (hc : xcode k pc = some (.f2i, len, a, b)) (hn : yGd G xrec xs E rec k N (pc + 1) n) : yGd G xrec xs E rec k (N + 1) pc (yF1 .f2i n) := g_F1 hc rfl (fun nl ls r x w h => h_f2i nl ls r x w h) hn
theorem h_d2l (nl : Nat) (ls : XL) (r : List Value) (x w : Value) (h : y_F1 .d2l x = some w) : xop .d2l pc a nl ls (x :: r) = some (pc + 1, ls, w :: r) := by
  cases x with
  | double x => cases h; rfl
  | _ => cases h
theorem tt_d2l (hc : xcode k pc = some (.d2l, len, a, b)) (hn : yGd G xrec xs E rec k N (pc + 1) n) : yGd G xrec xs E rec k (N + 1) pc (yF1 .d2l n) := g_F1 hc rfl (fun nl ls r x w h => h_d2l nl ls r x w h) hn
theorem g_node {t : Nat} {bb : Bool} {x y : yKK} (hx : yGd G xrec xs E rec k 63 t x) (hy : yGd G xrec xs E rec k 63 t y) : yGd G xrec xs E rec k 63 t (@Bool.rec (fun _ => yKK) y x bb) := by
  cases bb with
  | true => exact hx
  | false => exact hy
theorem g_leaf {t p : Nat} {x : yKK} (hx : yGd G xrec xs E rec k 63 p x) : yGd G xrec xs E rec k 63 t (@Bool.rec (fun _ => yKK) yBad2 x (Nat.beq t p)) := by
  cases hb : Nat.beq t p with
  | true => have hb := Nat.eq_of_beq_eq_true hb; subst hb; exact hx
  | false => exact fun _ _ _ _ => yTo_no
theorem g_bad2 {t : Nat} : yGd G xrec xs E rec k 63 t yBad2 := fun _ _ _ _ => yTo_no
end YST
end
