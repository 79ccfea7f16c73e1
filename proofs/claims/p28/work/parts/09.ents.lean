noncomputable section
set_option maxRecDepth 100000 in
theorem xent_0 : xwkR 0 31 = true := by decide +kernel
set_option maxRecDepth 100000 in
theorem xent_1 : xwkR 31 23 = true := by decide +kernel
set_option maxRecDepth 100000 in
theorem xent_2 : xwkR 54 29 = true := by decide +kernel
set_option maxRecDepth 100000 in
theorem xent_3 : xwkR 83 37 = true := by decide +kernel
set_option maxRecDepth 100000 in
theorem xent_4 : xwkR 120 34 = true := by decide +kernel
set_option maxRecDepth 100000 in
theorem xent_5 : xwkR 154 19 = true := by decide +kernel
set_option maxRecDepth 100000 in
theorem xent_6 : xwkR 173 23 = true := by decide +kernel
set_option maxRecDepth 100000 in
theorem xent_7 : xwkR 196 28 = true := by decide +kernel
set_option maxRecDepth 100000 in
theorem xent_8 : xwkR 224 32 = true := by decide +kernel
set_option maxRecDepth 100000 in
theorem xenl_0 : xwk 256 160 ((xB 256).data.toList.drop 0) 0 = true := by decide +kernel
set_option maxRecDepth 100000 in
theorem xenl_1 : xwk 256 160 ((xB 256).data.toList.drop 160) 160 = true := by decide +kernel
set_option maxRecDepth 100000 in
theorem xenl_2 : xwk 256 160 ((xB 256).data.toList.drop 320) 320 = true := by decide +kernel
set_option maxRecDepth 100000 in
theorem xenl_3 : xwk 256 160 ((xB 256).data.toList.drop 480) 480 = true := by decide +kernel
set_option maxRecDepth 100000 in
theorem xenl_4 : xwk 256 160 ((xB 256).data.toList.drop 640) 640 = true := by decide +kernel
set_option maxRecDepth 100000 in
theorem xenl_5 : xwk 256 160 ((xB 256).data.toList.drop 800) 800 = true := by decide +kernel
set_option maxRecDepth 100000 in
theorem xenl_6 : xwk 256 160 ((xB 256).data.toList.drop 960) 960 = true := by decide +kernel
set_option maxRecDepth 100000 in
theorem xenl_7 : xwk 256 160 ((xB 256).data.toList.drop 1120) 1120 = true := by decide +kernel
set_option maxRecDepth 100000 in
theorem xenl_8 : xwk 256 100 ((xB 256).data.toList.drop 1280) 1280 = true := by decide +kernel
def xchunk : List (Nat × Nat) := [(0, 31), (31, 23), (54, 29), (83, 37), (120, 34), (154, 19), (173, 23), (196, 28), (224, 32)]
def xchunl : List (Nat × Nat) := [(0, 160), (160, 160), (320, 160), (480, 160), (640, 160), (800, 160), (960, 160), (1120, 160), (1280, 100)]
theorem xchunk_in : ∀ k, k < 256 → ∃ q ∈ xchunk, q.1 ≤ k ∧ k < q.1 + q.2 := by decide +kernel
theorem xchunl_in : ∀ pc, pc < 1380 → ∃ q ∈ xchunl, q.1 ≤ pc ∧ pc < q.1 + q.2 := by
  intro pc h
  have h : (0 ≤ pc ∧ pc < 160) ∨ (160 ≤ pc ∧ pc < 320) ∨ (320 ≤ pc ∧ pc < 480) ∨ (480 ≤ pc ∧ pc < 640) ∨ (640 ≤ pc ∧ pc < 800) ∨ (800 ≤ pc ∧ pc < 960) ∨ (960 ≤ pc ∧ pc < 1120) ∨ (1120 ≤ pc ∧ pc < 1280) ∨ (1280 ≤ pc ∧ pc < 1380) := by omega
  rcases h with h | h | h | h | h | h | h | h | h
  · exact ⟨(0, 160), List.mem_of_getElem? (i := 0) rfl, h⟩
  · exact ⟨(160, 160), List.mem_of_getElem? (i := 1) rfl, h⟩
  · exact ⟨(320, 160), List.mem_of_getElem? (i := 2) rfl, h⟩
  · exact ⟨(480, 160), List.mem_of_getElem? (i := 3) rfl, h⟩
  · exact ⟨(640, 160), List.mem_of_getElem? (i := 4) rfl, h⟩
  · exact ⟨(800, 160), List.mem_of_getElem? (i := 5) rfl, h⟩
  · exact ⟨(960, 160), List.mem_of_getElem? (i := 6) rfl, h⟩
  · exact ⟨(1120, 160), List.mem_of_getElem? (i := 7) rfl, h⟩
  · exact ⟨(1280, 100), List.mem_of_getElem? (i := 8) rfl, h⟩
theorem xchunk_ok : ∀ q ∈ xchunk, xwkR q.1 q.2 = true := by
  intro q hq
  simp only [xchunk, List.mem_cons, List.not_mem_nil, or_false] at hq
  rcases hq with rfl | rfl | rfl | rfl | rfl | rfl | rfl | rfl | rfl
  · exact xent_0
  · exact xent_1
  · exact xent_2
  · exact xent_3
  · exact xent_4
  · exact xent_5
  · exact xent_6
  · exact xent_7
  · exact xent_8
theorem xchunl_ok : ∀ q ∈ xchunl, xwk 256 q.2 ((xB 256).data.toList.drop q.1) q.1 = true := by
  intro q hq
  simp only [xchunl, List.mem_cons, List.not_mem_nil, or_false] at hq
  rcases hq with rfl | rfl | rfl | rfl | rfl | rfl | rfl | rfl | rfl
  · exact xenl_0
  · exact xenl_1
  · exact xenl_2
  · exact xenl_3
  · exact xenl_4
  · exact xenl_5
  · exact xenl_6
  · exact xenl_7
  · exact xenl_8
theorem xsz_law : xSz 256 = 1380 := by decide +kernel
theorem xchk_at {k pc : Nat} {e : XEn} (h : xcode k pc = some e) : xchk k pc e = true := by
  have hk := xcode_k h
  have hp := xsz_ok k hk pc e h
  by_cases hl : k = 256
  · subst hl
    rw [xsz_law] at hp
    obtain ⟨q, hq, h2, h3⟩ := xchunl_in pc hp
    have e1 : q.1 + (pc - q.1) = pc := by omega
    obtain ⟨b, r, h5, h6⟩ := xwk_ok (e := e) q.2 _ q.1 (pc - q.1) (xchunl_ok q hq) (by omega) (by rw [e1]; exact h)
    rw [List.drop_drop] at h5
    rw [e1] at h5 h6
    exact xchF_ok h5 h6
  · obtain ⟨q, hq, h2, h3⟩ := xchunk_in k (by omega)
    have h4 := xchunk_ok q hq
    unfold xwkR at h4
    have h5 := List.all_eq_true.mp h4 (k - q.1) (List.mem_range.mpr (by omega))
    have e1 : q.1 + (k - q.1) = k := by omega
    rw [e1] at h5
    obtain ⟨b, r, h6, h7⟩ := xwk_ok (e := e) _ _ 0 pc h5 hp (by rw [Nat.zero_add]; exact h)
    rw [Nat.zero_add] at h7
    exact xchF_ok h6 h7
theorem xini_12 : ∀ a, a < 12 → a ∈ xini := by decide +kernel
end
