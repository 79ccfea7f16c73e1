noncomputable section
/-! The law: from its first instruction to its end. -/
theorem y_ret256 : xRet 256 = some .boolean := by decide +kernel
theorem y_fin256 {z : XC × Option Nat} {σ : XW} (h : xfin2 256 z = some (.inl (some (.int 1)), σ)) : ∃ pc ls cu su σ' e, z = ((pc, ls, [.int 1], cu, su, σ'), none) ∧ xcode 256 pc = some (.ireturn, e) ∧ Nat.ble cu 601024 = true ∧ Nat.ble su 7293034 = true := by
  obtain ⟨⟨pc, ls, st, cu, su, σ'⟩, o⟩ := z
  unfold xfin2 at h
  dsimp only at h
  cases o with
  | some E =>
    dsimp only at h
    cases hb : (Nat.ble cu (xMc 256) && (Nat.ble su (xMs 256) && true)) with
    | false => rw [hb] at h; cases h
    | true => rw [hb, cond_true] at h; cases h
  | none =>
    dsimp only at h
    cases hc : xcode 256 pc with
    | none =>
      rw [hc] at h
      dsimp only at h
      rw [Bool.and_false, Bool.and_false] at h
      cases h
    | some e =>
      rw [hc] at h
      dsimp only at h
      cases hb : (Nat.ble cu (xMc 256) && (Nat.ble su (xMs 256) && xrt e.1 (xRet 256))) with
      | false => rw [hb] at h; cases h
      | true =>
        rw [hb, cond_true] at h
        obtain ⟨h1, hb⟩ := xand hb
        obtain ⟨h2, hb⟩ := xand hb
        rw [y_ret256] at hb
        obtain ⟨i, e⟩ := e
        have hi : i = .ireturn := by
          cases i with
          | ireturn => rfl
          | _ => cases hb
        subst hi
        unfold xfin at h
        dsimp only at h
        rw [y_ret256] at h
        split at h
        · next hh => cases hh
        · next hh => cases hh
        · next v _ =>
          cases hd : (decide (v = 0) || decide (v = 1)) with
          | false => rw [hd] at h; cases h
          | true =>
            rw [hd, cond_true] at h
            cases h
            exact ⟨pc, ls, cu, su, _, e, rfl, hc, h1, h2⟩
        · next hh => cases hh
        · cases h
theorem y_it_i {G : yG} {xrec : Nat → List Value → XW → Option (XO × XW)} {xs : List Int32} {E : yE} {rec : yCl} {k : Nat} {B : Nat → yKK} (hB : ∀ t, yGd G xrec xs E rec k 63 t (B t)) {fuel t t' : Nat} {ls ls' : yL} {st st' : yS} {h h' : yH} {m m' : yM} (hr : y_it B E rec fuel t ls st h m = some (.inl (t', ls', st', h', m'))) : ∃ n, n ≤ fuel * 63 ∧ xpow (xstep xrec xs k) n (y_dx G t ls st h m) (y_dx G t' ls' st' h' m') := by
  have h1 := y_it_e hB fuel t ls st h m
  rw [hr] at h1
  exact h1
theorem y_fin3 {xs : List Int32} {d n : Nat} {z : XC × Option Nat} {c1 : XC} {σ : XW} (hq : xpow (xstep (xrun2 xs d) xs 256) n (0, [(0, .retAddr 0)], [], 0, 0, (true, [])) c1) (hz : xstep (xrun2 xs d) xs 256 c1 = some (.inr z)) (hf : xfin2 256 z = some (.inl (some (.int 1)), σ)) (hn : n < 2 ^ 20) : xlaw xs d 20 = true := by
  obtain ⟨pc, ls, cu, su, σ', e, hze, hcode, hcu, hsu⟩ := y_fin256 hf
  have hit := xit_inr 20 n _ c1 hn hq hz
  unfold xlaw
  generalize xit (xstep (xrun2 xs d) xs 256) 20 (0, [(0, .retAddr 0)], [], 0, 0, (true, [])) = R at hit ⊢
  subst hit
  subst hze
  dsimp only
  rw [hcode]
  dsimp only
  rw [hcu, hsu]
  rfl
theorem y_dx0 (G : yG) (h : yH) : y_dx G (nat_lit 0) [(nat_lit 0, y_v (.retAddr (nat_lit 0)))] [] h (nat_lit 0, nat_lit 0, true, nat_lit 0) = (0, [(0, .retAddr 0)], [], 0, 0, (true, [])) := rfl
theorem zOk0 {xs : List Int32} (hl : xs.length ≤ 2048) : yOk zG0 xs ([], [], []) := ⟨fun _ _ _ _ h => (by cases h), fun _ _ _ _ h => (by cases h), fun _ h => (by rw [y_lk_e] at h; cases h), fun _ _ h => (by rw [y_lk_e] at h; cases h), fun _ => rfl, by omega⟩
theorem zlaw1 {xs : List Int32} (hl : xs.length ≤ 2048) : ∃ n, n ≤ 63 ∧ xpow (xstep (xrun2 xs (nat_lit 13)) xs 256) n (0, [(0, .retAddr 0)], [], 0, 0, (true, [])) (y_dx zG0 (nat_lit 23) y_l1 [] y_h1 y_m1) := by
  have hE0 := zOk0 hl
  have hR0 := y_run_e (yP_ok hE0) (nat_lit 13)
  have hB0 : ∀ t, yGd zG0 (xrun2 xs (nat_lit 13)) xs ([], [], []) (y_run yP ([], [], []) (nat_lit 13)) 256 63 t (yb_256 t) := fun t => ym_256 hE0 hR0 t
  obtain ⟨n0, hn0, q0⟩ := y_it_i hB0 y_pre13
  rw [y_dx0] at q0
  exact ⟨n0, Nat.le_trans hn0 (Nat.le_of_ble_eq_true rfl), q0⟩
theorem zdx1 : y_dx zG0 (nat_lit 23) y_l1 [] y_h1 y_m1 = (23, [(4, .int (Int32.ofInt 0)), (3, .ref 137), (2, .ref 115), (1, .ref 0), (0, .retAddr 0)], [], 138, 10167, (true, zheap zM0)) := by
  unfold y_dx y_dw
  rw [show y_m1 = (138, 10167, true, 138) from rfl]
  dsimp only
  rw [zheap0]
  rfl
theorem xlaw_all (xs : List Int32) (hl : xs.length ≤ 2048) : ∃ d n, xlaw xs d n = true := by
  obtain ⟨n0, hn0, q0⟩ := zlaw1 hl
  rw [zdx1] at q0
  have h := zl_law (d := 0) hl 512 0 zM0 0 138 10167 true ⟨by decide, rfl⟩ (by omega) zJ0 (by decide) (by decide)
  have hz : zL [(4, Value.int (Int32.ofInt 0)), (3, .ref 137), (2, .ref 115), (1, .ref 0), (0, .retAddr 0)] [(0, .retAddr 0), (1, .ref 0), (2, .ref 115), (3, .ref 137), (4, .int (Int32.ofInt 0))] := by
    intro p hp
    simp only [List.mem_cons, List.not_mem_nil, or_false] at hp
    rcases hp with rfl | rfl | rfl | rfl | rfl <;> rfl
  obtain ⟨n, c1, z, o, σ, hn, hp, hzz, hf, hq⟩ := h _ hz
  have hq : o = .inl (some (.int (Int32.ofInt 1))) := hq
  subst hq
  have h20 : n0 + n < 2 ^ 20 := by
    have h20 : (2 : Nat) ^ 20 = 1048576 := by decide +kernel
    omega
  exact ⟨13, 20, y_fin3 (xpow_join _ _ _ _ _ q0 hp) hzz (σ := σ) hf h20⟩
end
