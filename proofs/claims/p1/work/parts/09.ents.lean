theorem xchk_at {k pc : Nat} {e : XEn} (h : xcode k pc = some e) : xchk k pc e = true := sorry
theorem xini_12 : ∀ a, a < 12 → a ∈ xini := by decide +kernel
