/-! The law, in the fast machine, from behind the constructors on. -/
noncomputable section
def y_is1 (r : yR) : Bool := match r with
  | some (.inr (.inl (some (.inl n), _))) => Nat.beq n 1
  | _ => false
/-- the rest of the law, from the head of its loop on, gives 1 -/
def y_case (E : yE) : Bool := y_is1 (y_it yb_256 E (y_run yP E (nat_lit 12)) (nat_lit 16) (nat_lit 23) y_l1 [] y_h1 y_m1)
end
theorem y_is1_e {r : yR} (h : y_is1 r = true) : ∃ h' m', r = some (.inr (.inl (some (y_i 1), h', m'))) := by
  unfold y_is1 at h
  split at h
  · next n q =>
    obtain ⟨h', m'⟩ := q
    have hn := Nat.eq_of_beq_eq_true h
    subst hn
    exact ⟨h', m', rfl⟩
  · cases h
theorem y_ret256 : xRet 256 = some .boolean := by decide +kernel
theorem y_fin256 {z : XC × Option Nat} {σ : XW} (h : xfin2 256 z = some (.inl (some (.int 1)), σ)) : ∃ pc ls cu su σ' e, z = ((pc, ls, [.int 1], cu, su, σ'), none) ∧ xcode 256 pc = some (.ireturn, e) ∧ Nat.ble cu 600002 = true ∧ Nat.ble su 7302232 = true := by
  obtain ⟨⟨pc, ls, st, cu, su, σ'⟩, o⟩ := z
  unfold xfin2 at h
  dsimp only at h
  cases hb : (Nat.ble cu (xMc 256) && (Nat.ble su (xMs 256) && (match o with | none => (match xcode 256 pc with | some e => xrt e.1 (xRet 256) | none => false) | some _ => true))) with
  | false => rw [hb] at h; cases h
  | true =>
    rw [hb, cond_true] at h
    obtain ⟨h1, hb⟩ := xand hb
    obtain ⟨h2, hb⟩ := xand hb
    cases o with
    | some E => cases h
    | none =>
      dsimp only at hb
      cases hc : xcode 256 pc with
      | none => rw [hc] at hb; cases hb
      | some e =>
        rw [hc, y_ret256] at hb
        obtain ⟨i, e⟩ := e
        have hi : i = .ireturn := by
          cases i with
          | ireturn => rfl
          | _ => cases hb
        subst hi
        unfold xfin at h
        dsimp only at h
        rw [y_ret256] at h
        split at h
        · next hh => cases hh
        · next hh => cases hh
        · next v _ _ =>
          cases hd : (decide (v = 0) || decide (v = 1)) with
          | false => rw [hd] at h; cases h
          | true =>
            rw [hd, cond_true] at h
            cases h
            exact ⟨pc, ls, cu, su, _, e, rfl, hc, h1, h2⟩
        · next hh => cases hh
        · cases h
theorem y_law {G : yG} {xs : List Int32} {E : yE} (hE : yOk G xs E) (hr : y_case E = true) : xlaw xs 12 20 = true := by
  have hE0 : yOk G xs ([], [], []) := ⟨fun _ _ _ _ h => by cases h, fun _ _ _ _ h => by cases h, fun _ h => by rw [y_lk_e] at h; cases h, fun _ _ h => by rw [y_lk_e] at h; cases h, hE.2.2.2.2.1, hE.2.2.2.2.2⟩
  have hR := y_run_e (yP_ok hE) (nat_lit 12)
  have hR0 := y_run_e (yP_ok hE0) (nat_lit 12)
  have p0 := y_it_e (fun t => ym_256 hE0 hR0 t) (nat_lit 1) (nat_lit 0) [(nat_lit 0, y_v (.retAddr (nat_lit 0)))] [] y_h0 (nat_lit 0, nat_lit 0, true, nat_lit 0)
  rw [y_pre] at p0
  obtain ⟨n0, hn0, q0⟩ := p0
  have p1 := y_it_e (fun t => ym_256 hE hR t) (nat_lit 16) (nat_lit 23) y_l1 [] y_h1 y_m1
  obtain ⟨h', m', hres⟩ := y_is1_e hr
  rw [hres] at p1
  obtain ⟨n1, c1, z, hn1, q1, hz, hf⟩ := p1
  obtain ⟨pc, ls, cu, su, σ', e, hze, hcode, hcu, hsu⟩ := y_fin256 (σ := y_dw G h' m') hf
  have q2 := xpow_join _ _ _ _ _ q0 q1
  have hit : xit (xstep (xrun2 xs 12) xs 256) 20 (0, [(0, .retAddr 0)], [], 0, 0, (true, [])) = some (.inr z) := by
    refine xit_inr 20 (n0 + n1) _ c1 ?_ q2 hz
    have h20 : (2 : Nat) ^ 20 = 1048576 := by decide +kernel
    have a1 : (nat_lit 1) * 63 = 63 := rfl
    have a2 : (nat_lit 16) * 63 = 1008 := rfl
    rw [a1] at hn0
    rw [a2] at hn1
    omega
  unfold xlaw
  generalize xit (xstep (xrun2 xs 12) xs 256) 20 (0, [(0, .retAddr 0)], [], 0, 0, (true, [])) = R at hit
  subst hit
  subst hze
  dsimp only
  rw [hcode]
  dsimp only
  rw [hcu, hsu]
  rfl
