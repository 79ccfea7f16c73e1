/-! The law, in the fast machine, from behind the constructors on. -/
noncomputable section
def y_is1 (r : yR) : Bool := match r with
  | some (.inr (.inl (some (.inl n), _))) => Nat.beq n 1
  | _ => false
/-- the rest of the law, from the head of its loop on, gives 1 -/
def y_case (E : yE) : Bool := y_is1 (y_it yb_256 E (y_run yP E (nat_lit 12)) (nat_lit 16) (nat_lit 23) y_l1 [] y_h1 y_m1)
end
theorem y_is1_e {r : yR} (h : y_is1 r = true) : ∃ h' m', r = some (.inr (.inl (some (y_i 1), h', m'))) := by
  unfold y_is1 at h
  split at h
  · next n q =>
    obtain ⟨h', m'⟩ := q
    have hn := Nat.eq_of_beq_eq_true h
    subst hn
    exact ⟨h', m', rfl⟩
  · cases h
theorem y_ret256 : xRet 256 = some .boolean := by decide +kernel
theorem y_fin256 {z : XC × Option Nat} {σ : XW} (h : xfin2 256 z = some (.inl (some (.int 1)), σ)) : ∃ pc ls cu su σ' e, z = ((pc, ls, [.int 1], cu, su, σ'), none) ∧ xcode 256 pc = some (.ireturn, e) ∧ Nat.ble cu 600002 = true ∧ Nat.ble su 7302232 = true := by
  obtain ⟨⟨pc, ls, st, cu, su, σ'⟩, o⟩ := z
  unfold xfin2 at h
  dsimp only at h
  cases o with
  | some E =>
    dsimp only at h
    cases hb : (Nat.ble cu (xMc 256) && (Nat.ble su (xMs 256) && true)) with
    | false => rw [hb] at h; cases h
    | true => rw [hb, cond_true] at h; cases h
  | none =>
    dsimp only at h
    cases hc : xcode 256 pc with
    | none =>
      rw [hc] at h
      dsimp only at h
      rw [Bool.and_false, Bool.and_false] at h
      cases h
    | some e =>
      rw [hc] at h
      dsimp only at h
      cases hb : (Nat.ble cu (xMc 256) && (Nat.ble su (xMs 256) && xrt e.1 (xRet 256))) with
      | false => rw [hb] at h; cases h
      | true =>
        rw [hb, cond_true] at h
        obtain ⟨h1, hb⟩ := xand hb
        obtain ⟨h2, hb⟩ := xand hb
        rw [y_ret256] at hb
        obtain ⟨i, e⟩ := e
        have hi : i = .ireturn := by
          cases i with
          | ireturn => rfl
          | _ => cases hb
        subst hi
        unfold xfin at h
        dsimp only at h
        rw [y_ret256] at h
        split at h
        · next hh => cases hh
        · next hh => cases hh
        · next v _ =>
          cases hd : (decide (v = 0) || decide (v = 1)) with
          | false => rw [hd] at h; cases h
          | true =>
            rw [hd, cond_true] at h
            cases h
            exact ⟨pc, ls, cu, su, _, e, rfl, hc, h1, h2⟩
        · next hh => cases hh
        · cases h
theorem y_it_i {G : yG} {xrec : Nat → List Value → XW → Option (XO × XW)} {xs : List Int32} {E : yE} {rec : yCl} {k : Nat} {B : Nat → yKK} (hB : ∀ t, yGd G xrec xs E rec k 63 t (B t)) {fuel t t' : Nat} {ls ls' : yL} {st st' : yS} {h h' : yH} {m m' : yM} (hr : y_it B E rec fuel t ls st h m = some (.inl (t', ls', st', h', m'))) : ∃ n, n ≤ fuel * 63 ∧ xpow (xstep xrec xs k) n (y_dx G t ls st h m) (y_dx G t' ls' st' h' m') := by
  have h1 := y_it_e hB fuel t ls st h m
  rw [hr] at h1
  exact h1
theorem y_it_v {G : yG} {xrec : Nat → List Value → XW → Option (XO × XW)} {xs : List Int32} {E : yE} {rec : yCl} {k : Nat} {B : Nat → yKK} (hB : ∀ t, yGd G xrec xs E rec k 63 t (B t)) {fuel t : Nat} {ls : yL} {st : yS} {h h' : yH} {m m' : yM} {v : Option yV} (hr : y_it B E rec fuel t ls st h m = some (.inr (.inl (v, h', m')))) : ∃ n c1 z, n ≤ fuel * 63 ∧ xpow (xstep xrec xs k) n (y_dx G t ls st h m) c1 ∧ xstep xrec xs k c1 = some (.inr z) ∧ xfin2 k z = some (.inl (v.map (y_dec G)), y_dw G h' m') := by
  have h1 := y_it_e hB fuel t ls st h m
  rw [hr] at h1
  exact h1
theorem y_fin3 {xs : List Int32} {d n : Nat} {z : XC × Option Nat} {c1 : XC} {σ : XW} (hq : xpow (xstep (xrun2 xs d) xs 256) n (0, [(0, .retAddr 0)], [], 0, 0, (true, [])) c1) (hz : xstep (xrun2 xs d) xs 256 c1 = some (.inr z)) (hf : xfin2 256 z = some (.inl (some (.int 1)), σ)) (hn : n < 2 ^ 20) : xlaw xs d 20 = true := by
  obtain ⟨pc, ls, cu, su, σ', e, hze, hcode, hcu, hsu⟩ := y_fin256 hf
  have hit := xit_inr 20 n _ c1 hn hq hz
  unfold xlaw
  generalize xit (xstep (xrun2 xs d) xs 256) 20 (0, [(0, .retAddr 0)], [], 0, 0, (true, [])) = R at hit ⊢
  subst hit
  subst hze
  dsimp only
  rw [hcode]
  dsimp only
  rw [hcu, hsu]
  rfl
theorem y_dec1 (G : yG) : y_dec G (y_i 1) = .int 1 := rfl
theorem y_dx0 (G : yG) (h : yH) : y_dx G (nat_lit 0) [(nat_lit 0, y_v (.retAddr (nat_lit 0)))] [] h (nat_lit 0, nat_lit 0, true, nat_lit 0) = (0, [(0, .retAddr 0)], [], 0, 0, (true, [])) := rfl
theorem y_ok0 {G : yG} {xs : List Int32} {E : yE} (hE : yOk G xs E) : yOk G xs ([], [], []) := ⟨fun _ _ _ _ h => (by cases h), fun _ _ _ _ h => (by cases h), fun _ h => (by rw [y_lk_e] at h; cases h), fun _ _ h => (by rw [y_lk_e] at h; cases h), hE.2.2.2.2.1, hE.2.2.2.2.2⟩
theorem y_law1 {G : yG} {xs : List Int32} {E : yE} (hE : yOk G xs E) : ∃ n, n ≤ 63 ∧ xpow (xstep (xrun2 xs (nat_lit 12)) xs 256) n (0, [(0, .retAddr 0)], [], 0, 0, (true, [])) (y_dx G (nat_lit 23) y_l1 [] y_h1 y_m1) := by
  have hE0 := y_ok0 hE
  have hR0 := y_run_e (yP_ok hE0) (nat_lit 12)
  have hB0 : ∀ t, yGd G (xrun2 xs (nat_lit 12)) xs ([], [], []) (y_run yP ([], [], []) (nat_lit 12)) 256 63 t (yb_256 t) := fun t => ym_256 hE0 hR0 t
  obtain ⟨n0, hn0, q0⟩ := y_it_i hB0 y_pre
  rw [y_dx0] at q0
  exact ⟨n0, Nat.le_trans hn0 (Nat.le_of_ble_eq_true rfl), q0⟩
theorem y_law2 {G : yG} {xs : List Int32} {E : yE} (hE : yOk G xs E) {n0 : Nat} (hn0 : n0 ≤ 63) (q0 : xpow (xstep (xrun2 xs (nat_lit 12)) xs 256) n0 (0, [(0, .retAddr 0)], [], 0, 0, (true, [])) (y_dx G (nat_lit 23) y_l1 [] y_h1 y_m1)) {h' : yH} {m' : yM} (hres : y_it yb_256 E (y_run yP E (nat_lit 12)) (nat_lit 16) (nat_lit 23) y_l1 [] y_h1 y_m1 = some (.inr (.inl (some (y_i 1), h', m')))) : xlaw xs (nat_lit 12) 20 = true := by
  have hR := y_run_e (yP_ok hE) (nat_lit 12)
  have hB1 : ∀ t, yGd G (xrun2 xs (nat_lit 12)) xs E (y_run yP E (nat_lit 12)) 256 63 t (yb_256 t) := fun t => ym_256 hE hR t
  obtain ⟨n1, c1, z, hn1, q1, hz, hf⟩ := y_it_v hB1 hres
  have hn2 : n1 ≤ 1008 := Nat.le_trans hn1 (Nat.le_of_ble_eq_true rfl)
  refine y_fin3 (xpow_join _ _ _ _ _ q0 q1) hz (σ := y_dw G h' m') ?_ (by have h20 : (2 : Nat) ^ 20 = 1048576 := by decide +kernel
                                                                          omega)
  rw [hf]
  show some (Sum.inl (some (y_dec G (y_i 1))), y_dw G h' m') = _
  rw [y_dec1]
theorem y_law {G : yG} {xs : List Int32} {E : yE} (hE : yOk G xs E) (hr : y_case E = true) : xlaw xs (nat_lit 12) 20 = true := by
  obtain ⟨n0, hn0, q0⟩ := y_law1 hE
  unfold y_case at hr
  obtain ⟨h', m', hres⟩ := y_is1_e hr
  exact y_law2 hE hn0 q0 hres
