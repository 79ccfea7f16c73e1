set_option maxRecDepth 100000 in
theorem xent_0 : xchkR 0 31 = true := by decide +kernel
set_option maxRecDepth 100000 in
theorem xent_1 : xchkR 31 23 = true := by decide +kernel
set_option maxRecDepth 100000 in
theorem xent_2 : xchkR 54 29 = true := by decide +kernel
set_option maxRecDepth 100000 in
theorem xent_3 : xchkR 83 37 = true := by decide +kernel
set_option maxRecDepth 100000 in
theorem xent_4 : xchkR 120 34 = true := by decide +kernel
set_option maxRecDepth 100000 in
theorem xent_5 : xchkR 154 19 = true := by decide +kernel
set_option maxRecDepth 100000 in
theorem xent_6 : xchkR 173 23 = true := by decide +kernel
set_option maxRecDepth 100000 in
theorem xent_7 : xchkR 196 28 = true := by decide +kernel
set_option maxRecDepth 100000 in
theorem xent_8 : xchkR 224 32 = true := by decide +kernel
set_option maxRecDepth 100000 in
theorem xenl_0 : xchkP 256 0 160 = true := by decide +kernel
set_option maxRecDepth 100000 in
theorem xenl_1 : xchkP 256 160 160 = true := by decide +kernel
set_option maxRecDepth 100000 in
theorem xenl_2 : xchkP 256 320 160 = true := by decide +kernel
set_option maxRecDepth 100000 in
theorem xenl_3 : xchkP 256 480 160 = true := by decide +kernel
set_option maxRecDepth 100000 in
theorem xenl_4 : xchkP 256 640 160 = true := by decide +kernel
set_option maxRecDepth 100000 in
theorem xenl_5 : xchkP 256 800 160 = true := by decide +kernel
set_option maxRecDepth 100000 in
theorem xenl_6 : xchkP 256 960 160 = true := by decide +kernel
set_option maxRecDepth 100000 in
theorem xenl_7 : xchkP 256 1120 160 = true := by decide +kernel
set_option maxRecDepth 100000 in
theorem xenl_8 : xchkP 256 1280 100 = true := by decide +kernel
def xchunk : List (Nat × Nat) := [(0, 31), (31, 23), (54, 29), (83, 37), (120, 34), (154, 19), (173, 23), (196, 28), (224, 32)]
def xchunl : List (Nat × Nat) := [(0, 160), (160, 160), (320, 160), (480, 160), (640, 160), (800, 160), (960, 160), (1120, 160), (1280, 100)]
theorem xchunk_in : ∀ k, k < 256 → ∃ q ∈ xchunk, q.1 ≤ k ∧ k < q.1 + q.2 := by decide +kernel
theorem xchunl_in : ∀ pc, pc < 1380 → ∃ q ∈ xchunl, q.1 ≤ pc ∧ pc < q.1 + q.2 := by decide +kernel
theorem xchunk_ok : ∀ q ∈ xchunk, xchkR q.1 q.2 = true := by
  intro q hq
  simp only [xchunk, List.mem_cons, List.not_mem_nil, or_false] at hq
  rcases hq with rfl | rfl | rfl | rfl | rfl | rfl | rfl | rfl | rfl
  · exact xent_0
  · exact xent_1
  · exact xent_2
  · exact xent_3
  · exact xent_4
  · exact xent_5
  · exact xent_6
  · exact xent_7
  · exact xent_8
theorem xchunl_ok : ∀ q ∈ xchunl, xchkP 256 q.1 q.2 = true := by
  intro q hq
  simp only [xchunl, List.mem_cons, List.not_mem_nil, or_false] at hq
  rcases hq with rfl | rfl | rfl | rfl | rfl | rfl | rfl | rfl | rfl
  · exact xenl_0
  · exact xenl_1
  · exact xenl_2
  · exact xenl_3
  · exact xenl_4
  · exact xenl_5
  · exact xenl_6
  · exact xenl_7
  · exact xenl_8
theorem xsz_law : xSz 256 = 1380 := by decide +kernel
theorem xchk_at {k pc : Nat} {e : XEn} (h : xcode k pc = some e) : xchk k pc e = true := by
  have hk := xcode_k h
  have hp := xsz_ok k hk pc e h
  by_cases hl : k = 256
  · subst hl
    rw [xsz_law] at hp
    obtain ⟨q, hq, h2, h3⟩ := xchunl_in pc hp
    have h4 := xchunl_ok q hq
    unfold xchkP at h4
    have h5 := List.all_eq_true.mp h4 (pc - q.1) (List.mem_range.mpr (by omega))
    have e1 : q.1 + (pc - q.1) = pc := by omega
    rw [e1, h] at h5
    exact h5
  · obtain ⟨q, hq, h2, h3⟩ := xchunk_in k (by omega)
    have h4 := xchunk_ok q hq
    unfold xchkR at h4
    have h5 := List.all_eq_true.mp h4 (k - q.1) (List.mem_range.mpr (by omega))
    have e1 : q.1 + (k - q.1) = k := by omega
    rw [e1] at h5
    unfold xchkP at h5
    have h6 := List.all_eq_true.mp h5 pc (List.mem_range.mpr hp)
    rw [Nat.zero_add, h] at h6
    exact h6
theorem xini_12 : ∀ a, a < 12 → a ∈ xini := by decide +kernel
