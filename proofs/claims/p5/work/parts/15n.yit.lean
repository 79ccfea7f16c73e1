/-! Steps counted, and 2 ^ n steps. -/
theorem xpow_split {f : XC → XS} : ∀ (a b : Nat) (c c1 : XC), xpow f (a + b) c c1 → ∃ c', xpow f a c c' ∧ xpow f b c' c1
  | 0, b, c, c1, h => ⟨c, rfl, by rw [Nat.zero_add] at h; exact h⟩
  | a + 1, b, c, c1, h => by
    rw [show a + 1 + b = (a + b) + 1 by omega] at h
    obtain ⟨c2, h1, h2⟩ := h
    obtain ⟨c', h3, h4⟩ := xpow_split a b c2 c1 h2
    exact ⟨c', ⟨c2, h1, h3⟩, h4⟩
theorem xpow_join {f : XC → XS} : ∀ (a b : Nat) (c c' c1 : XC), xpow f a c c' → xpow f b c' c1 → xpow f (a + b) c c1
  | 0, b, c, c', c1, h, h2 => by
    have h : c = c' := h
    subst h
    rw [Nat.zero_add]
    exact h2
  | a + 1, b, c, c', c1, h, h2 => by
    obtain ⟨c2, h1, h3⟩ := h
    rw [show a + 1 + b = (a + b) + 1 by omega]
    exact ⟨c2, h1, xpow_join a b c2 c' c1 h3 h2⟩
theorem xit_inl {f : XC → XS} : ∀ (m : Nat) (c c' : XC), xpow f (2 ^ m) c c' → xit f m c = some (.inl c')
  | 0, c, c', h => by
    obtain ⟨c1, h1, h2⟩ := (show ∃ c1, f c = some (.inl c1) ∧ xpow f 0 c1 c' from h)
    have h2 : c1 = c' := h2
    subst h2
    exact h1
  | m + 1, c, c', h => by
    rw [show 2 ^ (m + 1) = 2 ^ m + 2 ^ m by rw [Nat.pow_succ]; omega] at h
    obtain ⟨c2, h1, h2⟩ := xpow_split _ _ _ _ h
    unfold xit
    rw [xit_inl m c c2 h1]
    exact xit_inl m c2 c' h2
theorem xit_inr {f : XC → XS} {z : XC × Option Nat} : ∀ (m n : Nat) (c c1 : XC), n < 2 ^ m → xpow f n c c1 → f c1 = some (.inr z) → xit f m c = some (.inr z)
  | 0, n, c, c1, hn, h, hz => by
    have h0 : n = 0 := by simp at hn; omega
    subst h0
    have h : c = c1 := h
    subst h
    exact hz
  | m + 1, n, c, c1, hn, h, hz => by
    unfold xit
    by_cases hl : n < 2 ^ m
    · rw [xit_inr m n c c1 hl h hz]
    · obtain ⟨c2, h1, h2⟩ := xpow_split (2 ^ m) (n - 2 ^ m) c c1 (by rw [show 2 ^ m + (n - 2 ^ m) = n by omega]; exact h)
      rw [xit_inl m c c2 h1]
      exact xit_inr m (n - 2 ^ m) c2 c1 (by rw [Nat.pow_succ] at hn; omega) h2 hz
