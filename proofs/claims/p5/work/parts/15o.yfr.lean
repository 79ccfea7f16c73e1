/-! A frame of the fast machine, block by block. -/
theorem yTo_mono {G : yG} {f : XC → XS} {k N M : Nat} {c : XC} {r : yR} (hNM : N ≤ M) (h : yTo G f k N c r) : yTo G f k M c r := by
  unfold yTo at h ⊢
  split at h
  · trivial
  · obtain ⟨n, hn, h1⟩ := h
    exact ⟨n, by omega, h1⟩
  · obtain ⟨n, c1, z, hn, h1⟩ := h
    exact ⟨n, c1, z, by omega, h1⟩
  · obtain ⟨n, c1, z, hn, h1⟩ := h
    exact ⟨n, c1, z, by omega, h1⟩
theorem yTo_pow {G : yG} {f : XC → XS} {k N j : Nat} {c c' : XC} {r : yR} (hp : xpow f j c c') (h : yTo G f k N c' r) : yTo G f k (j + N) c r := by
  unfold yTo at h ⊢
  split at h
  · trivial
  · obtain ⟨n, hn, h1⟩ := h
    exact ⟨j + n, by omega, xpow_join _ _ _ _ _ hp h1⟩
  · obtain ⟨n, c1, z, hn, h1, h2⟩ := h
    exact ⟨j + n, c1, z, by omega, xpow_join _ _ _ _ _ hp h1, h2⟩
  · obtain ⟨n, c1, z, hn, h1, h2⟩ := h
    exact ⟨j + n, c1, z, by omega, xpow_join _ _ _ _ _ hp h1, h2⟩
theorem y_it_e {G : yG} {xrec : Nat → List Value → XW → Option (XO × XW)} {xs : List Int32} {E : yE} {rec : yCl} {k : Nat} {B : Nat → yKK} (hB : ∀ t, yGd G xrec xs E rec k 63 t (B t)) : ∀ (fuel t : Nat) (ls : yL) (st : yS) (h : yH) (m : yM), yTo G (xstep xrec xs k) k (fuel * 63) (y_dx G t ls st h m) (y_it B E rec fuel t ls st h m)
  | 0, t, ls, st, h, m => ⟨0, Nat.zero_le _, rfl⟩
  | fuel + 1, t, ls, st, h, m => by
    have h1 := hB t ls st h m
    show yTo G (xstep xrec xs k) k ((fuel + 1) * 63) (y_dx G t ls st h m) (y_blk B E rec fuel (y_it B E rec fuel) t ls st h m)
    unfold y_blk
    generalize B t E rec ls st h m = r at h1
    rcases r with _ | (⟨t', ls', st', h', m'⟩ | x)
    · exact yTo_no
    · obtain ⟨n, hn, hp⟩ := h1
      have h2 := yTo_pow hp (y_it_e hB fuel t' ls' st' h' m')
      exact yTo_mono (by omega) h2
    · have h2 : yTo G (xstep xrec xs k) k ((fuel + 1) * 63) (y_dx G t ls st h m) (some (.inr x)) := yTo_mono (by omega) h1
      exact h2
