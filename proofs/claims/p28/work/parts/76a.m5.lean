noncomputable section
/-! The reference: all places of a state are passed. -/
theorem rkS_g {M : zM} {p w i f : Nat} (hp : p = 135 ∨ p = 136) (h : rvw M i = M 115 f) (hf : ¬ f = 40) (hf2 : ¬ f = 42) : zup (zup (zup (rkS M p w i) p (rkS M p w i 115 40).toNat (rkS M p w i 115 f)) 115 40 (rkS M p w i 115 40 + 1)) 115 f (rkS M p w i 115 f) = rkS M p w (i + 1) := by
  rw [rkS_5 hp hf hf2]
  exact rkS_f hp h hf hf2
theorem rvw_116 {M : zM} : ∀ j, j < 36 → rvw M (0 + j) = M 116 j := fun j hj => by
  unfold rvw

  rw [if_pos (by omega), show 0 + j - 0 = j by omega]
theorem rixi_116 {j : Nat} (h : j < 36) : rix 116 j = 0 + j := by
  unfold rix

  rw [if_pos (by omega)]
  omega
theorem rixr_116 : ∀ q' j, (0 ≤ rix q' j ∧ rix q' j < 0 + 36 ↔ q' = 116 ∧ j < 36) ∧ (q' = 116 ∧ j < 36 → rix q' j = 0 + j) := fun q' j => by
  by_cases cq : q' = 116 ∧ j < 36
  · obtain ⟨rfl, hj⟩ := cq
    rw [rixi_116 hj]
    exact ⟨⟨fun _ => ⟨rfl, hj⟩, fun _ => ⟨by omega, by omega⟩⟩, fun _ => rfl⟩
  · refine ⟨⟨fun e => absurd e ?_, fun e => absurd e cq⟩, fun e => absurd e cq⟩
    unfold rix
    by_cases c : q' = 116 ∧ j < 36
    · rw [if_pos c]
      exact absurd c cq
    rw [if_neg c]
    clear c
    by_cases c : q' = 117 ∧ j < 36
    · rw [if_pos c]
      omega
    rw [if_neg c]
    clear c
    by_cases c : q' = 118 ∧ j < 4
    · rw [if_pos c]
      omega
    rw [if_neg c]
    clear c
    by_cases c : q' = 119 ∧ j < 16
    · rw [if_pos c]
      omega
    rw [if_neg c]
    clear c
    by_cases c : q' = 120 ∧ j < 36
    · rw [if_pos c]
      omega
    rw [if_neg c]
    clear c
    by_cases c : q' = 123 ∧ j < 8
    · rw [if_pos c]
      omega
    rw [if_neg c]
    clear c
    by_cases c : q' = 124 ∧ j < 32
    · rw [if_pos c]
      omega
    rw [if_neg c]
    clear c
    by_cases c : q' = 125 ∧ j < 288
    · rw [if_pos c]
      omega
    rw [if_neg c]
    clear c
    by_cases c : q' = 115 ∧ j = 6
    · rw [if_pos c]
      omega
    rw [if_neg c]
    clear c
    by_cases c : q' = 115 ∧ j = 7
    · rw [if_pos c]
      omega
    rw [if_neg c]
    clear c
    by_cases c : q' = 115 ∧ j = 8
    · rw [if_pos c]
      omega
    rw [if_neg c]
    clear c
    by_cases c : q' = 115 ∧ j = 9
    · rw [if_pos c]
      omega
    rw [if_neg c]
    clear c
    by_cases c : q' = 115 ∧ j = 10
    · rw [if_pos c]
      omega
    rw [if_neg c]
    clear c
    by_cases c : q' = 115 ∧ j = 11
    · rw [if_pos c]
      omega
    rw [if_neg c]
    clear c
    by_cases c : q' = 115 ∧ j = 12
    · rw [if_pos c]
      omega
    rw [if_neg c]
    clear c
    by_cases c : q' = 115 ∧ j = 13
    · rw [if_pos c]
      omega
    rw [if_neg c]
    clear c
    by_cases c : q' = 115 ∧ j = 19
    · rw [if_pos c]
      omega
    rw [if_neg c]
    clear c
    by_cases c : q' = 115 ∧ j = 20
    · rw [if_pos c]
      omega
    rw [if_neg c]
    clear c
    by_cases c : q' = 115 ∧ j = 21
    · rw [if_pos c]
      omega
    rw [if_neg c]
    clear c
    omega
theorem rvw_117 {M : zM} : ∀ j, j < 36 → rvw M (36 + j) = M 117 j := fun j hj => by
  unfold rvw
  rw [if_neg (by omega)]
  rw [if_pos (by omega), show 36 + j - 36 = j by omega]
theorem rixi_117 {j : Nat} (h : j < 36) : rix 117 j = 36 + j := by
  unfold rix
  rw [if_neg (by omega)]
  rw [if_pos (by omega)]
theorem rixr_117 : ∀ q' j, (36 ≤ rix q' j ∧ rix q' j < 36 + 36 ↔ q' = 117 ∧ j < 36) ∧ (q' = 117 ∧ j < 36 → rix q' j = 36 + j) := fun q' j => by
  by_cases cq : q' = 117 ∧ j < 36
  · obtain ⟨rfl, hj⟩ := cq
    rw [rixi_117 hj]
    exact ⟨⟨fun _ => ⟨rfl, hj⟩, fun _ => ⟨by omega, by omega⟩⟩, fun _ => rfl⟩
  · refine ⟨⟨fun e => absurd e ?_, fun e => absurd e cq⟩, fun e => absurd e cq⟩
    unfold rix
    by_cases c : q' = 116 ∧ j < 36
    · rw [if_pos c]
      omega
    rw [if_neg c]
    clear c
    by_cases c : q' = 117 ∧ j < 36
    · rw [if_pos c]
      exact absurd c cq
    rw [if_neg c]
    clear c
    by_cases c : q' = 118 ∧ j < 4
    · rw [if_pos c]
      omega
    rw [if_neg c]
    clear c
    by_cases c : q' = 119 ∧ j < 16
    · rw [if_pos c]
      omega
    rw [if_neg c]
    clear c
    by_cases c : q' = 120 ∧ j < 36
    · rw [if_pos c]
      omega
    rw [if_neg c]
    clear c
    by_cases c : q' = 123 ∧ j < 8
    · rw [if_pos c]
      omega
    rw [if_neg c]
    clear c
    by_cases c : q' = 124 ∧ j < 32
    · rw [if_pos c]
      omega
    rw [if_neg c]
    clear c
    by_cases c : q' = 125 ∧ j < 288
    · rw [if_pos c]
      omega
    rw [if_neg c]
    clear c
    by_cases c : q' = 115 ∧ j = 6
    · rw [if_pos c]
      omega
    rw [if_neg c]
    clear c
    by_cases c : q' = 115 ∧ j = 7
    · rw [if_pos c]
      omega
    rw [if_neg c]
    clear c
    by_cases c : q' = 115 ∧ j = 8
    · rw [if_pos c]
      omega
    rw [if_neg c]
    clear c
    by_cases c : q' = 115 ∧ j = 9
    · rw [if_pos c]
      omega
    rw [if_neg c]
    clear c
    by_cases c : q' = 115 ∧ j = 10
    · rw [if_pos c]
      omega
    rw [if_neg c]
    clear c
    by_cases c : q' = 115 ∧ j = 11
    · rw [if_pos c]
      omega
    rw [if_neg c]
    clear c
    by_cases c : q' = 115 ∧ j = 12
    · rw [if_pos c]
      omega
    rw [if_neg c]
    clear c
    by_cases c : q' = 115 ∧ j = 13
    · rw [if_pos c]
      omega
    rw [if_neg c]
    clear c
    by_cases c : q' = 115 ∧ j = 19
    · rw [if_pos c]
      omega
    rw [if_neg c]
    clear c
    by_cases c : q' = 115 ∧ j = 20
    · rw [if_pos c]
      omega
    rw [if_neg c]
    clear c
    by_cases c : q' = 115 ∧ j = 21
    · rw [if_pos c]
      omega
    rw [if_neg c]
    clear c
    omega
theorem rvw_118 {M : zM} : ∀ j, j < 4 → rvw M (72 + j) = M 118 j := fun j hj => by
  unfold rvw
  rw [if_neg (by omega)]
  rw [if_neg (by omega)]
  rw [if_pos (by omega), show 72 + j - 72 = j by omega]
theorem rixi_118 {j : Nat} (h : j < 4) : rix 118 j = 72 + j := by
  unfold rix
  rw [if_neg (by omega)]
  rw [if_neg (by omega)]
  rw [if_pos (by omega)]
theorem rixr_118 : ∀ q' j, (72 ≤ rix q' j ∧ rix q' j < 72 + 4 ↔ q' = 118 ∧ j < 4) ∧ (q' = 118 ∧ j < 4 → rix q' j = 72 + j) := fun q' j => by
  by_cases cq : q' = 118 ∧ j < 4
  · obtain ⟨rfl, hj⟩ := cq
    rw [rixi_118 hj]
    exact ⟨⟨fun _ => ⟨rfl, hj⟩, fun _ => ⟨by omega, by omega⟩⟩, fun _ => rfl⟩
  · refine ⟨⟨fun e => absurd e ?_, fun e => absurd e cq⟩, fun e => absurd e cq⟩
    unfold rix
    by_cases c : q' = 116 ∧ j < 36
    · rw [if_pos c]
      omega
    rw [if_neg c]
    clear c
    by_cases c : q' = 117 ∧ j < 36
    · rw [if_pos c]
      omega
    rw [if_neg c]
    clear c
    by_cases c : q' = 118 ∧ j < 4
    · rw [if_pos c]
      exact absurd c cq
    rw [if_neg c]
    clear c
    by_cases c : q' = 119 ∧ j < 16
    · rw [if_pos c]
      omega
    rw [if_neg c]
    clear c
    by_cases c : q' = 120 ∧ j < 36
    · rw [if_pos c]
      omega
    rw [if_neg c]
    clear c
    by_cases c : q' = 123 ∧ j < 8
    · rw [if_pos c]
      omega
    rw [if_neg c]
    clear c
    by_cases c : q' = 124 ∧ j < 32
    · rw [if_pos c]
      omega
    rw [if_neg c]
    clear c
    by_cases c : q' = 125 ∧ j < 288
    · rw [if_pos c]
      omega
    rw [if_neg c]
    clear c
    by_cases c : q' = 115 ∧ j = 6
    · rw [if_pos c]
      omega
    rw [if_neg c]
    clear c
    by_cases c : q' = 115 ∧ j = 7
    · rw [if_pos c]
      omega
    rw [if_neg c]
    clear c
    by_cases c : q' = 115 ∧ j = 8
    · rw [if_pos c]
      omega
    rw [if_neg c]
    clear c
    by_cases c : q' = 115 ∧ j = 9
    · rw [if_pos c]
      omega
    rw [if_neg c]
    clear c
    by_cases c : q' = 115 ∧ j = 10
    · rw [if_pos c]
      omega
    rw [if_neg c]
    clear c
    by_cases c : q' = 115 ∧ j = 11
    · rw [if_pos c]
      omega
    rw [if_neg c]
    clear c
    by_cases c : q' = 115 ∧ j = 12
    · rw [if_pos c]
      omega
    rw [if_neg c]
    clear c
    by_cases c : q' = 115 ∧ j = 13
    · rw [if_pos c]
      omega
    rw [if_neg c]
    clear c
    by_cases c : q' = 115 ∧ j = 19
    · rw [if_pos c]
      omega
    rw [if_neg c]
    clear c
    by_cases c : q' = 115 ∧ j = 20
    · rw [if_pos c]
      omega
    rw [if_neg c]
    clear c
    by_cases c : q' = 115 ∧ j = 21
    · rw [if_pos c]
      omega
    rw [if_neg c]
    clear c
    omega
theorem rvw_119 {M : zM} : ∀ j, j < 16 → rvw M (76 + j) = M 119 j := fun j hj => by
  unfold rvw
  rw [if_neg (by omega)]
  rw [if_neg (by omega)]
  rw [if_neg (by omega)]
  rw [if_pos (by omega), show 76 + j - 76 = j by omega]
theorem rixi_119 {j : Nat} (h : j < 16) : rix 119 j = 76 + j := by
  unfold rix
  rw [if_neg (by omega)]
  rw [if_neg (by omega)]
  rw [if_neg (by omega)]
  rw [if_pos (by omega)]
theorem rixr_119 : ∀ q' j, (76 ≤ rix q' j ∧ rix q' j < 76 + 16 ↔ q' = 119 ∧ j < 16) ∧ (q' = 119 ∧ j < 16 → rix q' j = 76 + j) := fun q' j => by
  by_cases cq : q' = 119 ∧ j < 16
  · obtain ⟨rfl, hj⟩ := cq
    rw [rixi_119 hj]
    exact ⟨⟨fun _ => ⟨rfl, hj⟩, fun _ => ⟨by omega, by omega⟩⟩, fun _ => rfl⟩
  · refine ⟨⟨fun e => absurd e ?_, fun e => absurd e cq⟩, fun e => absurd e cq⟩
    unfold rix
    by_cases c : q' = 116 ∧ j < 36
    · rw [if_pos c]
      omega
    rw [if_neg c]
    clear c
    by_cases c : q' = 117 ∧ j < 36
    · rw [if_pos c]
      omega
    rw [if_neg c]
    clear c
    by_cases c : q' = 118 ∧ j < 4
    · rw [if_pos c]
      omega
    rw [if_neg c]
    clear c
    by_cases c : q' = 119 ∧ j < 16
    · rw [if_pos c]
      exact absurd c cq
    rw [if_neg c]
    clear c
    by_cases c : q' = 120 ∧ j < 36
    · rw [if_pos c]
      omega
    rw [if_neg c]
    clear c
    by_cases c : q' = 123 ∧ j < 8
    · rw [if_pos c]
      omega
    rw [if_neg c]
    clear c
    by_cases c : q' = 124 ∧ j < 32
    · rw [if_pos c]
      omega
    rw [if_neg c]
    clear c
    by_cases c : q' = 125 ∧ j < 288
    · rw [if_pos c]
      omega
    rw [if_neg c]
    clear c
    by_cases c : q' = 115 ∧ j = 6
    · rw [if_pos c]
      omega
    rw [if_neg c]
    clear c
    by_cases c : q' = 115 ∧ j = 7
    · rw [if_pos c]
      omega
    rw [if_neg c]
    clear c
    by_cases c : q' = 115 ∧ j = 8
    · rw [if_pos c]
      omega
    rw [if_neg c]
    clear c
    by_cases c : q' = 115 ∧ j = 9
    · rw [if_pos c]
      omega
    rw [if_neg c]
    clear c
    by_cases c : q' = 115 ∧ j = 10
    · rw [if_pos c]
      omega
    rw [if_neg c]
    clear c
    by_cases c : q' = 115 ∧ j = 11
    · rw [if_pos c]
      omega
    rw [if_neg c]
    clear c
    by_cases c : q' = 115 ∧ j = 12
    · rw [if_pos c]
      omega
    rw [if_neg c]
    clear c
    by_cases c : q' = 115 ∧ j = 13
    · rw [if_pos c]
      omega
    rw [if_neg c]
    clear c
    by_cases c : q' = 115 ∧ j = 19
    · rw [if_pos c]
      omega
    rw [if_neg c]
    clear c
    by_cases c : q' = 115 ∧ j = 20
    · rw [if_pos c]
      omega
    rw [if_neg c]
    clear c
    by_cases c : q' = 115 ∧ j = 21
    · rw [if_pos c]
      omega
    rw [if_neg c]
    clear c
    omega
theorem rvw_120 {M : zM} : ∀ j, j < 36 → rvw M (92 + j) = M 120 j := fun j hj => by
  unfold rvw
  rw [if_neg (by omega)]
  rw [if_neg (by omega)]
  rw [if_neg (by omega)]
  rw [if_neg (by omega)]
  rw [if_pos (by omega), show 92 + j - 92 = j by omega]
theorem rixi_120 {j : Nat} (h : j < 36) : rix 120 j = 92 + j := by
  unfold rix
  rw [if_neg (by omega)]
  rw [if_neg (by omega)]
  rw [if_neg (by omega)]
  rw [if_neg (by omega)]
  rw [if_pos (by omega)]
theorem rixr_120 : ∀ q' j, (92 ≤ rix q' j ∧ rix q' j < 92 + 36 ↔ q' = 120 ∧ j < 36) ∧ (q' = 120 ∧ j < 36 → rix q' j = 92 + j) := fun q' j => by
  by_cases cq : q' = 120 ∧ j < 36
  · obtain ⟨rfl, hj⟩ := cq
    rw [rixi_120 hj]
    exact ⟨⟨fun _ => ⟨rfl, hj⟩, fun _ => ⟨by omega, by omega⟩⟩, fun _ => rfl⟩
  · refine ⟨⟨fun e => absurd e ?_, fun e => absurd e cq⟩, fun e => absurd e cq⟩
    unfold rix
    by_cases c : q' = 116 ∧ j < 36
    · rw [if_pos c]
      omega
    rw [if_neg c]
    clear c
    by_cases c : q' = 117 ∧ j < 36
    · rw [if_pos c]
      omega
    rw [if_neg c]
    clear c
    by_cases c : q' = 118 ∧ j < 4
    · rw [if_pos c]
      omega
    rw [if_neg c]
    clear c
    by_cases c : q' = 119 ∧ j < 16
    · rw [if_pos c]
      omega
    rw [if_neg c]
    clear c
    by_cases c : q' = 120 ∧ j < 36
    · rw [if_pos c]
      exact absurd c cq
    rw [if_neg c]
    clear c
    by_cases c : q' = 123 ∧ j < 8
    · rw [if_pos c]
      omega
    rw [if_neg c]
    clear c
    by_cases c : q' = 124 ∧ j < 32
    · rw [if_pos c]
      omega
    rw [if_neg c]
    clear c
    by_cases c : q' = 125 ∧ j < 288
    · rw [if_pos c]
      omega
    rw [if_neg c]
    clear c
    by_cases c : q' = 115 ∧ j = 6
    · rw [if_pos c]
      omega
    rw [if_neg c]
    clear c
    by_cases c : q' = 115 ∧ j = 7
    · rw [if_pos c]
      omega
    rw [if_neg c]
    clear c
    by_cases c : q' = 115 ∧ j = 8
    · rw [if_pos c]
      omega
    rw [if_neg c]
    clear c
    by_cases c : q' = 115 ∧ j = 9
    · rw [if_pos c]
      omega
    rw [if_neg c]
    clear c
    by_cases c : q' = 115 ∧ j = 10
    · rw [if_pos c]
      omega
    rw [if_neg c]
    clear c
    by_cases c : q' = 115 ∧ j = 11
    · rw [if_pos c]
      omega
    rw [if_neg c]
    clear c
    by_cases c : q' = 115 ∧ j = 12
    · rw [if_pos c]
      omega
    rw [if_neg c]
    clear c
    by_cases c : q' = 115 ∧ j = 13
    · rw [if_pos c]
      omega
    rw [if_neg c]
    clear c
    by_cases c : q' = 115 ∧ j = 19
    · rw [if_pos c]
      omega
    rw [if_neg c]
    clear c
    by_cases c : q' = 115 ∧ j = 20
    · rw [if_pos c]
      omega
    rw [if_neg c]
    clear c
    by_cases c : q' = 115 ∧ j = 21
    · rw [if_pos c]
      omega
    rw [if_neg c]
    clear c
    omega
theorem rvw_123 {M : zM} : ∀ j, j < 8 → rvw M (128 + j) = M 123 j := fun j hj => by
  unfold rvw
  rw [if_neg (by omega)]
  rw [if_neg (by omega)]
  rw [if_neg (by omega)]
  rw [if_neg (by omega)]
  rw [if_neg (by omega)]
  rw [if_pos (by omega), show 128 + j - 128 = j by omega]
theorem rixi_123 {j : Nat} (h : j < 8) : rix 123 j = 128 + j := by
  unfold rix
  rw [if_neg (by omega)]
  rw [if_neg (by omega)]
  rw [if_neg (by omega)]
  rw [if_neg (by omega)]
  rw [if_neg (by omega)]
  rw [if_pos (by omega)]
theorem rixr_123 : ∀ q' j, (128 ≤ rix q' j ∧ rix q' j < 128 + 8 ↔ q' = 123 ∧ j < 8) ∧ (q' = 123 ∧ j < 8 → rix q' j = 128 + j) := fun q' j => by
  by_cases cq : q' = 123 ∧ j < 8
  · obtain ⟨rfl, hj⟩ := cq
    rw [rixi_123 hj]
    exact ⟨⟨fun _ => ⟨rfl, hj⟩, fun _ => ⟨by omega, by omega⟩⟩, fun _ => rfl⟩
  · refine ⟨⟨fun e => absurd e ?_, fun e => absurd e cq⟩, fun e => absurd e cq⟩
    unfold rix
    by_cases c : q' = 116 ∧ j < 36
    · rw [if_pos c]
      omega
    rw [if_neg c]
    clear c
    by_cases c : q' = 117 ∧ j < 36
    · rw [if_pos c]
      omega
    rw [if_neg c]
    clear c
    by_cases c : q' = 118 ∧ j < 4
    · rw [if_pos c]
      omega
    rw [if_neg c]
    clear c
    by_cases c : q' = 119 ∧ j < 16
    · rw [if_pos c]
      omega
    rw [if_neg c]
    clear c
    by_cases c : q' = 120 ∧ j < 36
    · rw [if_pos c]
      omega
    rw [if_neg c]
    clear c
    by_cases c : q' = 123 ∧ j < 8
    · rw [if_pos c]
      exact absurd c cq
    rw [if_neg c]
    clear c
    by_cases c : q' = 124 ∧ j < 32
    · rw [if_pos c]
      omega
    rw [if_neg c]
    clear c
    by_cases c : q' = 125 ∧ j < 288
    · rw [if_pos c]
      omega
    rw [if_neg c]
    clear c
    by_cases c : q' = 115 ∧ j = 6
    · rw [if_pos c]
      omega
    rw [if_neg c]
    clear c
    by_cases c : q' = 115 ∧ j = 7
    · rw [if_pos c]
      omega
    rw [if_neg c]
    clear c
    by_cases c : q' = 115 ∧ j = 8
    · rw [if_pos c]
      omega
    rw [if_neg c]
    clear c
    by_cases c : q' = 115 ∧ j = 9
    · rw [if_pos c]
      omega
    rw [if_neg c]
    clear c
    by_cases c : q' = 115 ∧ j = 10
    · rw [if_pos c]
      omega
    rw [if_neg c]
    clear c
    by_cases c : q' = 115 ∧ j = 11
    · rw [if_pos c]
      omega
    rw [if_neg c]
    clear c
    by_cases c : q' = 115 ∧ j = 12
    · rw [if_pos c]
      omega
    rw [if_neg c]
    clear c
    by_cases c : q' = 115 ∧ j = 13
    · rw [if_pos c]
      omega
    rw [if_neg c]
    clear c
    by_cases c : q' = 115 ∧ j = 19
    · rw [if_pos c]
      omega
    rw [if_neg c]
    clear c
    by_cases c : q' = 115 ∧ j = 20
    · rw [if_pos c]
      omega
    rw [if_neg c]
    clear c
    by_cases c : q' = 115 ∧ j = 21
    · rw [if_pos c]
      omega
    rw [if_neg c]
    clear c
    omega
theorem rvw_124 {M : zM} : ∀ j, j < 32 → rvw M (136 + j) = M 124 j := fun j hj => by
  unfold rvw
  rw [if_neg (by omega)]
  rw [if_neg (by omega)]
  rw [if_neg (by omega)]
  rw [if_neg (by omega)]
  rw [if_neg (by omega)]
  rw [if_neg (by omega)]
  rw [if_pos (by omega), show 136 + j - 136 = j by omega]
theorem rixi_124 {j : Nat} (h : j < 32) : rix 124 j = 136 + j := by
  unfold rix
  rw [if_neg (by omega)]
  rw [if_neg (by omega)]
  rw [if_neg (by omega)]
  rw [if_neg (by omega)]
  rw [if_neg (by omega)]
  rw [if_neg (by omega)]
  rw [if_pos (by omega)]
theorem rixr_124 : ∀ q' j, (136 ≤ rix q' j ∧ rix q' j < 136 + 32 ↔ q' = 124 ∧ j < 32) ∧ (q' = 124 ∧ j < 32 → rix q' j = 136 + j) := fun q' j => by
  by_cases cq : q' = 124 ∧ j < 32
  · obtain ⟨rfl, hj⟩ := cq
    rw [rixi_124 hj]
    exact ⟨⟨fun _ => ⟨rfl, hj⟩, fun _ => ⟨by omega, by omega⟩⟩, fun _ => rfl⟩
  · refine ⟨⟨fun e => absurd e ?_, fun e => absurd e cq⟩, fun e => absurd e cq⟩
    unfold rix
    by_cases c : q' = 116 ∧ j < 36
    · rw [if_pos c]
      omega
    rw [if_neg c]
    clear c
    by_cases c : q' = 117 ∧ j < 36
    · rw [if_pos c]
      omega
    rw [if_neg c]
    clear c
    by_cases c : q' = 118 ∧ j < 4
    · rw [if_pos c]
      omega
    rw [if_neg c]
    clear c
    by_cases c : q' = 119 ∧ j < 16
    · rw [if_pos c]
      omega
    rw [if_neg c]
    clear c
    by_cases c : q' = 120 ∧ j < 36
    · rw [if_pos c]
      omega
    rw [if_neg c]
    clear c
    by_cases c : q' = 123 ∧ j < 8
    · rw [if_pos c]
      omega
    rw [if_neg c]
    clear c
    by_cases c : q' = 124 ∧ j < 32
    · rw [if_pos c]
      exact absurd c cq
    rw [if_neg c]
    clear c
    by_cases c : q' = 125 ∧ j < 288
    · rw [if_pos c]
      omega
    rw [if_neg c]
    clear c
    by_cases c : q' = 115 ∧ j = 6
    · rw [if_pos c]
      omega
    rw [if_neg c]
    clear c
    by_cases c : q' = 115 ∧ j = 7
    · rw [if_pos c]
      omega
    rw [if_neg c]
    clear c
    by_cases c : q' = 115 ∧ j = 8
    · rw [if_pos c]
      omega
    rw [if_neg c]
    clear c
    by_cases c : q' = 115 ∧ j = 9
    · rw [if_pos c]
      omega
    rw [if_neg c]
    clear c
    by_cases c : q' = 115 ∧ j = 10
    · rw [if_pos c]
      omega
    rw [if_neg c]
    clear c
    by_cases c : q' = 115 ∧ j = 11
    · rw [if_pos c]
      omega
    rw [if_neg c]
    clear c
    by_cases c : q' = 115 ∧ j = 12
    · rw [if_pos c]
      omega
    rw [if_neg c]
    clear c
    by_cases c : q' = 115 ∧ j = 13
    · rw [if_pos c]
      omega
    rw [if_neg c]
    clear c
    by_cases c : q' = 115 ∧ j = 19
    · rw [if_pos c]
      omega
    rw [if_neg c]
    clear c
    by_cases c : q' = 115 ∧ j = 20
    · rw [if_pos c]
      omega
    rw [if_neg c]
    clear c
    by_cases c : q' = 115 ∧ j = 21
    · rw [if_pos c]
      omega
    rw [if_neg c]
    clear c
    omega
theorem rvw_125 {M : zM} : ∀ j, j < 288 → rvw M (168 + j) = M 125 j := fun j hj => by
  unfold rvw
  rw [if_neg (by omega)]
  rw [if_neg (by omega)]
  rw [if_neg (by omega)]
  rw [if_neg (by omega)]
  rw [if_neg (by omega)]
  rw [if_neg (by omega)]
  rw [if_neg (by omega)]
  rw [if_pos (by omega), show 168 + j - 168 = j by omega]
theorem rixi_125 {j : Nat} (h : j < 288) : rix 125 j = 168 + j := by
  unfold rix
  rw [if_neg (by omega)]
  rw [if_neg (by omega)]
  rw [if_neg (by omega)]
  rw [if_neg (by omega)]
  rw [if_neg (by omega)]
  rw [if_neg (by omega)]
  rw [if_neg (by omega)]
  rw [if_pos (by omega)]
theorem rixr_125 : ∀ q' j, (168 ≤ rix q' j ∧ rix q' j < 168 + 288 ↔ q' = 125 ∧ j < 288) ∧ (q' = 125 ∧ j < 288 → rix q' j = 168 + j) := fun q' j => by
  by_cases cq : q' = 125 ∧ j < 288
  · obtain ⟨rfl, hj⟩ := cq
    rw [rixi_125 hj]
    exact ⟨⟨fun _ => ⟨rfl, hj⟩, fun _ => ⟨by omega, by omega⟩⟩, fun _ => rfl⟩
  · refine ⟨⟨fun e => absurd e ?_, fun e => absurd e cq⟩, fun e => absurd e cq⟩
    unfold rix
    by_cases c : q' = 116 ∧ j < 36
    · rw [if_pos c]
      omega
    rw [if_neg c]
    clear c
    by_cases c : q' = 117 ∧ j < 36
    · rw [if_pos c]
      omega
    rw [if_neg c]
    clear c
    by_cases c : q' = 118 ∧ j < 4
    · rw [if_pos c]
      omega
    rw [if_neg c]
    clear c
    by_cases c : q' = 119 ∧ j < 16
    · rw [if_pos c]
      omega
    rw [if_neg c]
    clear c
    by_cases c : q' = 120 ∧ j < 36
    · rw [if_pos c]
      omega
    rw [if_neg c]
    clear c
    by_cases c : q' = 123 ∧ j < 8
    · rw [if_pos c]
      omega
    rw [if_neg c]
    clear c
    by_cases c : q' = 124 ∧ j < 32
    · rw [if_pos c]
      omega
    rw [if_neg c]
    clear c
    by_cases c : q' = 125 ∧ j < 288
    · rw [if_pos c]
      exact absurd c cq
    rw [if_neg c]
    clear c
    by_cases c : q' = 115 ∧ j = 6
    · rw [if_pos c]
      omega
    rw [if_neg c]
    clear c
    by_cases c : q' = 115 ∧ j = 7
    · rw [if_pos c]
      omega
    rw [if_neg c]
    clear c
    by_cases c : q' = 115 ∧ j = 8
    · rw [if_pos c]
      omega
    rw [if_neg c]
    clear c
    by_cases c : q' = 115 ∧ j = 9
    · rw [if_pos c]
      omega
    rw [if_neg c]
    clear c
    by_cases c : q' = 115 ∧ j = 10
    · rw [if_pos c]
      omega
    rw [if_neg c]
    clear c
    by_cases c : q' = 115 ∧ j = 11
    · rw [if_pos c]
      omega
    rw [if_neg c]
    clear c
    by_cases c : q' = 115 ∧ j = 12
    · rw [if_pos c]
      omega
    rw [if_neg c]
    clear c
    by_cases c : q' = 115 ∧ j = 13
    · rw [if_pos c]
      omega
    rw [if_neg c]
    clear c
    by_cases c : q' = 115 ∧ j = 19
    · rw [if_pos c]
      omega
    rw [if_neg c]
    clear c
    by_cases c : q' = 115 ∧ j = 20
    · rw [if_pos c]
      omega
    rw [if_neg c]
    clear c
    by_cases c : q' = 115 ∧ j = 21
    · rw [if_pos c]
      omega
    rw [if_neg c]
    clear c
    omega
theorem rvwf_6 {M : zM} : rvw M 456 = M 115 6 := by
  unfold rvw
  rw [if_neg (by decide)]
  rw [if_neg (by decide)]
  rw [if_neg (by decide)]
  rw [if_neg (by decide)]
  rw [if_neg (by decide)]
  rw [if_neg (by decide)]
  rw [if_neg (by decide)]
  rw [if_neg (by decide)]
  rw [if_pos rfl]
theorem rixg_6 : rix 115 6 = 456 := by decide
theorem rixf_6 : ∀ q' j, (rix q' j = 456 ↔ q' = 115 ∧ j = 6) := fun q' j => by
  by_cases cq : q' = 115 ∧ j = 6
  · obtain ⟨rfl, rfl⟩ := cq
    exact ⟨fun _ => ⟨rfl, rfl⟩, fun _ => rixg_6⟩
  · refine ⟨fun e => absurd e ?_, fun e => absurd e cq⟩
    unfold rix
    by_cases c : q' = 116 ∧ j < 36
    · rw [if_pos c]
      omega
    rw [if_neg c]
    clear c
    by_cases c : q' = 117 ∧ j < 36
    · rw [if_pos c]
      omega
    rw [if_neg c]
    clear c
    by_cases c : q' = 118 ∧ j < 4
    · rw [if_pos c]
      omega
    rw [if_neg c]
    clear c
    by_cases c : q' = 119 ∧ j < 16
    · rw [if_pos c]
      omega
    rw [if_neg c]
    clear c
    by_cases c : q' = 120 ∧ j < 36
    · rw [if_pos c]
      omega
    rw [if_neg c]
    clear c
    by_cases c : q' = 123 ∧ j < 8
    · rw [if_pos c]
      omega
    rw [if_neg c]
    clear c
    by_cases c : q' = 124 ∧ j < 32
    · rw [if_pos c]
      omega
    rw [if_neg c]
    clear c
    by_cases c : q' = 125 ∧ j < 288
    · rw [if_pos c]
      omega
    rw [if_neg c]
    clear c
    by_cases c : q' = 115 ∧ j = 6
    · rw [if_pos c]
      exact absurd c cq
    rw [if_neg c]
    clear c
    by_cases c : q' = 115 ∧ j = 7
    · rw [if_pos c]
      omega
    rw [if_neg c]
    clear c
    by_cases c : q' = 115 ∧ j = 8
    · rw [if_pos c]
      omega
    rw [if_neg c]
    clear c
    by_cases c : q' = 115 ∧ j = 9
    · rw [if_pos c]
      omega
    rw [if_neg c]
    clear c
    by_cases c : q' = 115 ∧ j = 10
    · rw [if_pos c]
      omega
    rw [if_neg c]
    clear c
    by_cases c : q' = 115 ∧ j = 11
    · rw [if_pos c]
      omega
    rw [if_neg c]
    clear c
    by_cases c : q' = 115 ∧ j = 12
    · rw [if_pos c]
      omega
    rw [if_neg c]
    clear c
    by_cases c : q' = 115 ∧ j = 13
    · rw [if_pos c]
      omega
    rw [if_neg c]
    clear c
    by_cases c : q' = 115 ∧ j = 19
    · rw [if_pos c]
      omega
    rw [if_neg c]
    clear c
    by_cases c : q' = 115 ∧ j = 20
    · rw [if_pos c]
      omega
    rw [if_neg c]
    clear c
    by_cases c : q' = 115 ∧ j = 21
    · rw [if_pos c]
      omega
    rw [if_neg c]
    clear c
    decide
theorem rvwf_7 {M : zM} : rvw M 457 = M 115 7 := by
  unfold rvw
  rw [if_neg (by decide)]
  rw [if_neg (by decide)]
  rw [if_neg (by decide)]
  rw [if_neg (by decide)]
  rw [if_neg (by decide)]
  rw [if_neg (by decide)]
  rw [if_neg (by decide)]
  rw [if_neg (by decide)]
  rw [if_neg (by decide)]
  rw [if_pos rfl]
theorem rixg_7 : rix 115 7 = 457 := by decide
theorem rixf_7 : ∀ q' j, (rix q' j = 457 ↔ q' = 115 ∧ j = 7) := fun q' j => by
  by_cases cq : q' = 115 ∧ j = 7
  · obtain ⟨rfl, rfl⟩ := cq
    exact ⟨fun _ => ⟨rfl, rfl⟩, fun _ => rixg_7⟩
  · refine ⟨fun e => absurd e ?_, fun e => absurd e cq⟩
    unfold rix
    by_cases c : q' = 116 ∧ j < 36
    · rw [if_pos c]
      omega
    rw [if_neg c]
    clear c
    by_cases c : q' = 117 ∧ j < 36
    · rw [if_pos c]
      omega
    rw [if_neg c]
    clear c
    by_cases c : q' = 118 ∧ j < 4
    · rw [if_pos c]
      omega
    rw [if_neg c]
    clear c
    by_cases c : q' = 119 ∧ j < 16
    · rw [if_pos c]
      omega
    rw [if_neg c]
    clear c
    by_cases c : q' = 120 ∧ j < 36
    · rw [if_pos c]
      omega
    rw [if_neg c]
    clear c
    by_cases c : q' = 123 ∧ j < 8
    · rw [if_pos c]
      omega
    rw [if_neg c]
    clear c
    by_cases c : q' = 124 ∧ j < 32
    · rw [if_pos c]
      omega
    rw [if_neg c]
    clear c
    by_cases c : q' = 125 ∧ j < 288
    · rw [if_pos c]
      omega
    rw [if_neg c]
    clear c
    by_cases c : q' = 115 ∧ j = 6
    · rw [if_pos c]
      omega
    rw [if_neg c]
    clear c
    by_cases c : q' = 115 ∧ j = 7
    · rw [if_pos c]
      exact absurd c cq
    rw [if_neg c]
    clear c
    by_cases c : q' = 115 ∧ j = 8
    · rw [if_pos c]
      omega
    rw [if_neg c]
    clear c
    by_cases c : q' = 115 ∧ j = 9
    · rw [if_pos c]
      omega
    rw [if_neg c]
    clear c
    by_cases c : q' = 115 ∧ j = 10
    · rw [if_pos c]
      omega
    rw [if_neg c]
    clear c
    by_cases c : q' = 115 ∧ j = 11
    · rw [if_pos c]
      omega
    rw [if_neg c]
    clear c
    by_cases c : q' = 115 ∧ j = 12
    · rw [if_pos c]
      omega
    rw [if_neg c]
    clear c
    by_cases c : q' = 115 ∧ j = 13
    · rw [if_pos c]
      omega
    rw [if_neg c]
    clear c
    by_cases c : q' = 115 ∧ j = 19
    · rw [if_pos c]
      omega
    rw [if_neg c]
    clear c
    by_cases c : q' = 115 ∧ j = 20
    · rw [if_pos c]
      omega
    rw [if_neg c]
    clear c
    by_cases c : q' = 115 ∧ j = 21
    · rw [if_pos c]
      omega
    rw [if_neg c]
    clear c
    decide
theorem rvwf_8 {M : zM} : rvw M 458 = M 115 8 := by
  unfold rvw
  rw [if_neg (by decide)]
  rw [if_neg (by decide)]
  rw [if_neg (by decide)]
  rw [if_neg (by decide)]
  rw [if_neg (by decide)]
  rw [if_neg (by decide)]
  rw [if_neg (by decide)]
  rw [if_neg (by decide)]
  rw [if_neg (by decide)]
  rw [if_neg (by decide)]
  rw [if_pos rfl]
theorem rixg_8 : rix 115 8 = 458 := by decide
theorem rixf_8 : ∀ q' j, (rix q' j = 458 ↔ q' = 115 ∧ j = 8) := fun q' j => by
  by_cases cq : q' = 115 ∧ j = 8
  · obtain ⟨rfl, rfl⟩ := cq
    exact ⟨fun _ => ⟨rfl, rfl⟩, fun _ => rixg_8⟩
  · refine ⟨fun e => absurd e ?_, fun e => absurd e cq⟩
    unfold rix
    by_cases c : q' = 116 ∧ j < 36
    · rw [if_pos c]
      omega
    rw [if_neg c]
    clear c
    by_cases c : q' = 117 ∧ j < 36
    · rw [if_pos c]
      omega
    rw [if_neg c]
    clear c
    by_cases c : q' = 118 ∧ j < 4
    · rw [if_pos c]
      omega
    rw [if_neg c]
    clear c
    by_cases c : q' = 119 ∧ j < 16
    · rw [if_pos c]
      omega
    rw [if_neg c]
    clear c
    by_cases c : q' = 120 ∧ j < 36
    · rw [if_pos c]
      omega
    rw [if_neg c]
    clear c
    by_cases c : q' = 123 ∧ j < 8
    · rw [if_pos c]
      omega
    rw [if_neg c]
    clear c
    by_cases c : q' = 124 ∧ j < 32
    · rw [if_pos c]
      omega
    rw [if_neg c]
    clear c
    by_cases c : q' = 125 ∧ j < 288
    · rw [if_pos c]
      omega
    rw [if_neg c]
    clear c
    by_cases c : q' = 115 ∧ j = 6
    · rw [if_pos c]
      omega
    rw [if_neg c]
    clear c
    by_cases c : q' = 115 ∧ j = 7
    · rw [if_pos c]
      omega
    rw [if_neg c]
    clear c
    by_cases c : q' = 115 ∧ j = 8
    · rw [if_pos c]
      exact absurd c cq
    rw [if_neg c]
    clear c
    by_cases c : q' = 115 ∧ j = 9
    · rw [if_pos c]
      omega
    rw [if_neg c]
    clear c
    by_cases c : q' = 115 ∧ j = 10
    · rw [if_pos c]
      omega
    rw [if_neg c]
    clear c
    by_cases c : q' = 115 ∧ j = 11
    · rw [if_pos c]
      omega
    rw [if_neg c]
    clear c
    by_cases c : q' = 115 ∧ j = 12
    · rw [if_pos c]
      omega
    rw [if_neg c]
    clear c
    by_cases c : q' = 115 ∧ j = 13
    · rw [if_pos c]
      omega
    rw [if_neg c]
    clear c
    by_cases c : q' = 115 ∧ j = 19
    · rw [if_pos c]
      omega
    rw [if_neg c]
    clear c
    by_cases c : q' = 115 ∧ j = 20
    · rw [if_pos c]
      omega
    rw [if_neg c]
    clear c
    by_cases c : q' = 115 ∧ j = 21
    · rw [if_pos c]
      omega
    rw [if_neg c]
    clear c
    decide
theorem rvwf_9 {M : zM} : rvw M 459 = M 115 9 := by
  unfold rvw
  rw [if_neg (by decide)]
  rw [if_neg (by decide)]
  rw [if_neg (by decide)]
  rw [if_neg (by decide)]
  rw [if_neg (by decide)]
  rw [if_neg (by decide)]
  rw [if_neg (by decide)]
  rw [if_neg (by decide)]
  rw [if_neg (by decide)]
  rw [if_neg (by decide)]
  rw [if_neg (by decide)]
  rw [if_pos rfl]
theorem rixg_9 : rix 115 9 = 459 := by decide
theorem rixf_9 : ∀ q' j, (rix q' j = 459 ↔ q' = 115 ∧ j = 9) := fun q' j => by
  by_cases cq : q' = 115 ∧ j = 9
  · obtain ⟨rfl, rfl⟩ := cq
    exact ⟨fun _ => ⟨rfl, rfl⟩, fun _ => rixg_9⟩
  · refine ⟨fun e => absurd e ?_, fun e => absurd e cq⟩
    unfold rix
    by_cases c : q' = 116 ∧ j < 36
    · rw [if_pos c]
      omega
    rw [if_neg c]
    clear c
    by_cases c : q' = 117 ∧ j < 36
    · rw [if_pos c]
      omega
    rw [if_neg c]
    clear c
    by_cases c : q' = 118 ∧ j < 4
    · rw [if_pos c]
      omega
    rw [if_neg c]
    clear c
    by_cases c : q' = 119 ∧ j < 16
    · rw [if_pos c]
      omega
    rw [if_neg c]
    clear c
    by_cases c : q' = 120 ∧ j < 36
    · rw [if_pos c]
      omega
    rw [if_neg c]
    clear c
    by_cases c : q' = 123 ∧ j < 8
    · rw [if_pos c]
      omega
    rw [if_neg c]
    clear c
    by_cases c : q' = 124 ∧ j < 32
    · rw [if_pos c]
      omega
    rw [if_neg c]
    clear c
    by_cases c : q' = 125 ∧ j < 288
    · rw [if_pos c]
      omega
    rw [if_neg c]
    clear c
    by_cases c : q' = 115 ∧ j = 6
    · rw [if_pos c]
      omega
    rw [if_neg c]
    clear c
    by_cases c : q' = 115 ∧ j = 7
    · rw [if_pos c]
      omega
    rw [if_neg c]
    clear c
    by_cases c : q' = 115 ∧ j = 8
    · rw [if_pos c]
      omega
    rw [if_neg c]
    clear c
    by_cases c : q' = 115 ∧ j = 9
    · rw [if_pos c]
      exact absurd c cq
    rw [if_neg c]
    clear c
    by_cases c : q' = 115 ∧ j = 10
    · rw [if_pos c]
      omega
    rw [if_neg c]
    clear c
    by_cases c : q' = 115 ∧ j = 11
    · rw [if_pos c]
      omega
    rw [if_neg c]
    clear c
    by_cases c : q' = 115 ∧ j = 12
    · rw [if_pos c]
      omega
    rw [if_neg c]
    clear c
    by_cases c : q' = 115 ∧ j = 13
    · rw [if_pos c]
      omega
    rw [if_neg c]
    clear c
    by_cases c : q' = 115 ∧ j = 19
    · rw [if_pos c]
      omega
    rw [if_neg c]
    clear c
    by_cases c : q' = 115 ∧ j = 20
    · rw [if_pos c]
      omega
    rw [if_neg c]
    clear c
    by_cases c : q' = 115 ∧ j = 21
    · rw [if_pos c]
      omega
    rw [if_neg c]
    clear c
    decide
theorem rvwf_10 {M : zM} : rvw M 460 = M 115 10 := by
  unfold rvw
  rw [if_neg (by decide)]
  rw [if_neg (by decide)]
  rw [if_neg (by decide)]
  rw [if_neg (by decide)]
  rw [if_neg (by decide)]
  rw [if_neg (by decide)]
  rw [if_neg (by decide)]
  rw [if_neg (by decide)]
  rw [if_neg (by decide)]
  rw [if_neg (by decide)]
  rw [if_neg (by decide)]
  rw [if_neg (by decide)]
  rw [if_pos rfl]
theorem rixg_10 : rix 115 10 = 460 := by decide
theorem rixf_10 : ∀ q' j, (rix q' j = 460 ↔ q' = 115 ∧ j = 10) := fun q' j => by
  by_cases cq : q' = 115 ∧ j = 10
  · obtain ⟨rfl, rfl⟩ := cq
    exact ⟨fun _ => ⟨rfl, rfl⟩, fun _ => rixg_10⟩
  · refine ⟨fun e => absurd e ?_, fun e => absurd e cq⟩
    unfold rix
    by_cases c : q' = 116 ∧ j < 36
    · rw [if_pos c]
      omega
    rw [if_neg c]
    clear c
    by_cases c : q' = 117 ∧ j < 36
    · rw [if_pos c]
      omega
    rw [if_neg c]
    clear c
    by_cases c : q' = 118 ∧ j < 4
    · rw [if_pos c]
      omega
    rw [if_neg c]
    clear c
    by_cases c : q' = 119 ∧ j < 16
    · rw [if_pos c]
      omega
    rw [if_neg c]
    clear c
    by_cases c : q' = 120 ∧ j < 36
    · rw [if_pos c]
      omega
    rw [if_neg c]
    clear c
    by_cases c : q' = 123 ∧ j < 8
    · rw [if_pos c]
      omega
    rw [if_neg c]
    clear c
    by_cases c : q' = 124 ∧ j < 32
    · rw [if_pos c]
      omega
    rw [if_neg c]
    clear c
    by_cases c : q' = 125 ∧ j < 288
    · rw [if_pos c]
      omega
    rw [if_neg c]
    clear c
    by_cases c : q' = 115 ∧ j = 6
    · rw [if_pos c]
      omega
    rw [if_neg c]
    clear c
    by_cases c : q' = 115 ∧ j = 7
    · rw [if_pos c]
      omega
    rw [if_neg c]
    clear c
    by_cases c : q' = 115 ∧ j = 8
    · rw [if_pos c]
      omega
    rw [if_neg c]
    clear c
    by_cases c : q' = 115 ∧ j = 9
    · rw [if_pos c]
      omega
    rw [if_neg c]
    clear c
    by_cases c : q' = 115 ∧ j = 10
    · rw [if_pos c]
      exact absurd c cq
    rw [if_neg c]
    clear c
    by_cases c : q' = 115 ∧ j = 11
    · rw [if_pos c]
      omega
    rw [if_neg c]
    clear c
    by_cases c : q' = 115 ∧ j = 12
    · rw [if_pos c]
      omega
    rw [if_neg c]
    clear c
    by_cases c : q' = 115 ∧ j = 13
    · rw [if_pos c]
      omega
    rw [if_neg c]
    clear c
    by_cases c : q' = 115 ∧ j = 19
    · rw [if_pos c]
      omega
    rw [if_neg c]
    clear c
    by_cases c : q' = 115 ∧ j = 20
    · rw [if_pos c]
      omega
    rw [if_neg c]
    clear c
    by_cases c : q' = 115 ∧ j = 21
    · rw [if_pos c]
      omega
    rw [if_neg c]
    clear c
    decide
theorem rvwf_11 {M : zM} : rvw M 461 = M 115 11 := by
  unfold rvw
  rw [if_neg (by decide)]
  rw [if_neg (by decide)]
  rw [if_neg (by decide)]
  rw [if_neg (by decide)]
  rw [if_neg (by decide)]
  rw [if_neg (by decide)]
  rw [if_neg (by decide)]
  rw [if_neg (by decide)]
  rw [if_neg (by decide)]
  rw [if_neg (by decide)]
  rw [if_neg (by decide)]
  rw [if_neg (by decide)]
  rw [if_neg (by decide)]
  rw [if_pos rfl]
theorem rixg_11 : rix 115 11 = 461 := by decide
theorem rixf_11 : ∀ q' j, (rix q' j = 461 ↔ q' = 115 ∧ j = 11) := fun q' j => by
  by_cases cq : q' = 115 ∧ j = 11
  · obtain ⟨rfl, rfl⟩ := cq
    exact ⟨fun _ => ⟨rfl, rfl⟩, fun _ => rixg_11⟩
  · refine ⟨fun e => absurd e ?_, fun e => absurd e cq⟩
    unfold rix
    by_cases c : q' = 116 ∧ j < 36
    · rw [if_pos c]
      omega
    rw [if_neg c]
    clear c
    by_cases c : q' = 117 ∧ j < 36
    · rw [if_pos c]
      omega
    rw [if_neg c]
    clear c
    by_cases c : q' = 118 ∧ j < 4
    · rw [if_pos c]
      omega
    rw [if_neg c]
    clear c
    by_cases c : q' = 119 ∧ j < 16
    · rw [if_pos c]
      omega
    rw [if_neg c]
    clear c
    by_cases c : q' = 120 ∧ j < 36
    · rw [if_pos c]
      omega
    rw [if_neg c]
    clear c
    by_cases c : q' = 123 ∧ j < 8
    · rw [if_pos c]
      omega
    rw [if_neg c]
    clear c
    by_cases c : q' = 124 ∧ j < 32
    · rw [if_pos c]
      omega
    rw [if_neg c]
    clear c
    by_cases c : q' = 125 ∧ j < 288
    · rw [if_pos c]
      omega
    rw [if_neg c]
    clear c
    by_cases c : q' = 115 ∧ j = 6
    · rw [if_pos c]
      omega
    rw [if_neg c]
    clear c
    by_cases c : q' = 115 ∧ j = 7
    · rw [if_pos c]
      omega
    rw [if_neg c]
    clear c
    by_cases c : q' = 115 ∧ j = 8
    · rw [if_pos c]
      omega
    rw [if_neg c]
    clear c
    by_cases c : q' = 115 ∧ j = 9
    · rw [if_pos c]
      omega
    rw [if_neg c]
    clear c
    by_cases c : q' = 115 ∧ j = 10
    · rw [if_pos c]
      omega
    rw [if_neg c]
    clear c
    by_cases c : q' = 115 ∧ j = 11
    · rw [if_pos c]
      exact absurd c cq
    rw [if_neg c]
    clear c
    by_cases c : q' = 115 ∧ j = 12
    · rw [if_pos c]
      omega
    rw [if_neg c]
    clear c
    by_cases c : q' = 115 ∧ j = 13
    · rw [if_pos c]
      omega
    rw [if_neg c]
    clear c
    by_cases c : q' = 115 ∧ j = 19
    · rw [if_pos c]
      omega
    rw [if_neg c]
    clear c
    by_cases c : q' = 115 ∧ j = 20
    · rw [if_pos c]
      omega
    rw [if_neg c]
    clear c
    by_cases c : q' = 115 ∧ j = 21
    · rw [if_pos c]
      omega
    rw [if_neg c]
    clear c
    decide
theorem rvwf_12 {M : zM} : rvw M 462 = M 115 12 := by
  unfold rvw
  rw [if_neg (by decide)]
  rw [if_neg (by decide)]
  rw [if_neg (by decide)]
  rw [if_neg (by decide)]
  rw [if_neg (by decide)]
  rw [if_neg (by decide)]
  rw [if_neg (by decide)]
  rw [if_neg (by decide)]
  rw [if_neg (by decide)]
  rw [if_neg (by decide)]
  rw [if_neg (by decide)]
  rw [if_neg (by decide)]
  rw [if_neg (by decide)]
  rw [if_neg (by decide)]
  rw [if_pos rfl]
theorem rixg_12 : rix 115 12 = 462 := by decide
theorem rixf_12 : ∀ q' j, (rix q' j = 462 ↔ q' = 115 ∧ j = 12) := fun q' j => by
  by_cases cq : q' = 115 ∧ j = 12
  · obtain ⟨rfl, rfl⟩ := cq
    exact ⟨fun _ => ⟨rfl, rfl⟩, fun _ => rixg_12⟩
  · refine ⟨fun e => absurd e ?_, fun e => absurd e cq⟩
    unfold rix
    by_cases c : q' = 116 ∧ j < 36
    · rw [if_pos c]
      omega
    rw [if_neg c]
    clear c
    by_cases c : q' = 117 ∧ j < 36
    · rw [if_pos c]
      omega
    rw [if_neg c]
    clear c
    by_cases c : q' = 118 ∧ j < 4
    · rw [if_pos c]
      omega
    rw [if_neg c]
    clear c
    by_cases c : q' = 119 ∧ j < 16
    · rw [if_pos c]
      omega
    rw [if_neg c]
    clear c
    by_cases c : q' = 120 ∧ j < 36
    · rw [if_pos c]
      omega
    rw [if_neg c]
    clear c
    by_cases c : q' = 123 ∧ j < 8
    · rw [if_pos c]
      omega
    rw [if_neg c]
    clear c
    by_cases c : q' = 124 ∧ j < 32
    · rw [if_pos c]
      omega
    rw [if_neg c]
    clear c
    by_cases c : q' = 125 ∧ j < 288
    · rw [if_pos c]
      omega
    rw [if_neg c]
    clear c
    by_cases c : q' = 115 ∧ j = 6
    · rw [if_pos c]
      omega
    rw [if_neg c]
    clear c
    by_cases c : q' = 115 ∧ j = 7
    · rw [if_pos c]
      omega
    rw [if_neg c]
    clear c
    by_cases c : q' = 115 ∧ j = 8
    · rw [if_pos c]
      omega
    rw [if_neg c]
    clear c
    by_cases c : q' = 115 ∧ j = 9
    · rw [if_pos c]
      omega
    rw [if_neg c]
    clear c
    by_cases c : q' = 115 ∧ j = 10
    · rw [if_pos c]
      omega
    rw [if_neg c]
    clear c
    by_cases c : q' = 115 ∧ j = 11
    · rw [if_pos c]
      omega
    rw [if_neg c]
    clear c
    by_cases c : q' = 115 ∧ j = 12
    · rw [if_pos c]
      exact absurd c cq
    rw [if_neg c]
    clear c
    by_cases c : q' = 115 ∧ j = 13
    · rw [if_pos c]
      omega
    rw [if_neg c]
    clear c
    by_cases c : q' = 115 ∧ j = 19
    · rw [if_pos c]
      omega
    rw [if_neg c]
    clear c
    by_cases c : q' = 115 ∧ j = 20
    · rw [if_pos c]
      omega
    rw [if_neg c]
    clear c
    by_cases c : q' = 115 ∧ j = 21
    · rw [if_pos c]
      omega
    rw [if_neg c]
    clear c
    decide
theorem rvwf_13 {M : zM} : rvw M 463 = M 115 13 := by
  unfold rvw
  rw [if_neg (by decide)]
  rw [if_neg (by decide)]
  rw [if_neg (by decide)]
  rw [if_neg (by decide)]
  rw [if_neg (by decide)]
  rw [if_neg (by decide)]
  rw [if_neg (by decide)]
  rw [if_neg (by decide)]
  rw [if_neg (by decide)]
  rw [if_neg (by decide)]
  rw [if_neg (by decide)]
  rw [if_neg (by decide)]
  rw [if_neg (by decide)]
  rw [if_neg (by decide)]
  rw [if_neg (by decide)]
  rw [if_pos rfl]
theorem rixg_13 : rix 115 13 = 463 := by decide
theorem rixf_13 : ∀ q' j, (rix q' j = 463 ↔ q' = 115 ∧ j = 13) := fun q' j => by
  by_cases cq : q' = 115 ∧ j = 13
  · obtain ⟨rfl, rfl⟩ := cq
    exact ⟨fun _ => ⟨rfl, rfl⟩, fun _ => rixg_13⟩
  · refine ⟨fun e => absurd e ?_, fun e => absurd e cq⟩
    unfold rix
    by_cases c : q' = 116 ∧ j < 36
    · rw [if_pos c]
      omega
    rw [if_neg c]
    clear c
    by_cases c : q' = 117 ∧ j < 36
    · rw [if_pos c]
      omega
    rw [if_neg c]
    clear c
    by_cases c : q' = 118 ∧ j < 4
    · rw [if_pos c]
      omega
    rw [if_neg c]
    clear c
    by_cases c : q' = 119 ∧ j < 16
    · rw [if_pos c]
      omega
    rw [if_neg c]
    clear c
    by_cases c : q' = 120 ∧ j < 36
    · rw [if_pos c]
      omega
    rw [if_neg c]
    clear c
    by_cases c : q' = 123 ∧ j < 8
    · rw [if_pos c]
      omega
    rw [if_neg c]
    clear c
    by_cases c : q' = 124 ∧ j < 32
    · rw [if_pos c]
      omega
    rw [if_neg c]
    clear c
    by_cases c : q' = 125 ∧ j < 288
    · rw [if_pos c]
      omega
    rw [if_neg c]
    clear c
    by_cases c : q' = 115 ∧ j = 6
    · rw [if_pos c]
      omega
    rw [if_neg c]
    clear c
    by_cases c : q' = 115 ∧ j = 7
    · rw [if_pos c]
      omega
    rw [if_neg c]
    clear c
    by_cases c : q' = 115 ∧ j = 8
    · rw [if_pos c]
      omega
    rw [if_neg c]
    clear c
    by_cases c : q' = 115 ∧ j = 9
    · rw [if_pos c]
      omega
    rw [if_neg c]
    clear c
    by_cases c : q' = 115 ∧ j = 10
    · rw [if_pos c]
      omega
    rw [if_neg c]
    clear c
    by_cases c : q' = 115 ∧ j = 11
    · rw [if_pos c]
      omega
    rw [if_neg c]
    clear c
    by_cases c : q' = 115 ∧ j = 12
    · rw [if_pos c]
      omega
    rw [if_neg c]
    clear c
    by_cases c : q' = 115 ∧ j = 13
    · rw [if_pos c]
      exact absurd c cq
    rw [if_neg c]
    clear c
    by_cases c : q' = 115 ∧ j = 19
    · rw [if_pos c]
      omega
    rw [if_neg c]
    clear c
    by_cases c : q' = 115 ∧ j = 20
    · rw [if_pos c]
      omega
    rw [if_neg c]
    clear c
    by_cases c : q' = 115 ∧ j = 21
    · rw [if_pos c]
      omega
    rw [if_neg c]
    clear c
    decide
theorem rvwf_19 {M : zM} : rvw M 464 = M 115 19 := by
  unfold rvw
  rw [if_neg (by decide)]
  rw [if_neg (by decide)]
  rw [if_neg (by decide)]
  rw [if_neg (by decide)]
  rw [if_neg (by decide)]
  rw [if_neg (by decide)]
  rw [if_neg (by decide)]
  rw [if_neg (by decide)]
  rw [if_neg (by decide)]
  rw [if_neg (by decide)]
  rw [if_neg (by decide)]
  rw [if_neg (by decide)]
  rw [if_neg (by decide)]
  rw [if_neg (by decide)]
  rw [if_neg (by decide)]
  rw [if_neg (by decide)]
  rw [if_pos rfl]
theorem rixg_19 : rix 115 19 = 464 := by decide
theorem rixf_19 : ∀ q' j, (rix q' j = 464 ↔ q' = 115 ∧ j = 19) := fun q' j => by
  by_cases cq : q' = 115 ∧ j = 19
  · obtain ⟨rfl, rfl⟩ := cq
    exact ⟨fun _ => ⟨rfl, rfl⟩, fun _ => rixg_19⟩
  · refine ⟨fun e => absurd e ?_, fun e => absurd e cq⟩
    unfold rix
    by_cases c : q' = 116 ∧ j < 36
    · rw [if_pos c]
      omega
    rw [if_neg c]
    clear c
    by_cases c : q' = 117 ∧ j < 36
    · rw [if_pos c]
      omega
    rw [if_neg c]
    clear c
    by_cases c : q' = 118 ∧ j < 4
    · rw [if_pos c]
      omega
    rw [if_neg c]
    clear c
    by_cases c : q' = 119 ∧ j < 16
    · rw [if_pos c]
      omega
    rw [if_neg c]
    clear c
    by_cases c : q' = 120 ∧ j < 36
    · rw [if_pos c]
      omega
    rw [if_neg c]
    clear c
    by_cases c : q' = 123 ∧ j < 8
    · rw [if_pos c]
      omega
    rw [if_neg c]
    clear c
    by_cases c : q' = 124 ∧ j < 32
    · rw [if_pos c]
      omega
    rw [if_neg c]
    clear c
    by_cases c : q' = 125 ∧ j < 288
    · rw [if_pos c]
      omega
    rw [if_neg c]
    clear c
    by_cases c : q' = 115 ∧ j = 6
    · rw [if_pos c]
      omega
    rw [if_neg c]
    clear c
    by_cases c : q' = 115 ∧ j = 7
    · rw [if_pos c]
      omega
    rw [if_neg c]
    clear c
    by_cases c : q' = 115 ∧ j = 8
    · rw [if_pos c]
      omega
    rw [if_neg c]
    clear c
    by_cases c : q' = 115 ∧ j = 9
    · rw [if_pos c]
      omega
    rw [if_neg c]
    clear c
    by_cases c : q' = 115 ∧ j = 10
    · rw [if_pos c]
      omega
    rw [if_neg c]
    clear c
    by_cases c : q' = 115 ∧ j = 11
    · rw [if_pos c]
      omega
    rw [if_neg c]
    clear c
    by_cases c : q' = 115 ∧ j = 12
    · rw [if_pos c]
      omega
    rw [if_neg c]
    clear c
    by_cases c : q' = 115 ∧ j = 13
    · rw [if_pos c]
      omega
    rw [if_neg c]
    clear c
    by_cases c : q' = 115 ∧ j = 19
    · rw [if_pos c]
      exact absurd c cq
    rw [if_neg c]
    clear c
    by_cases c : q' = 115 ∧ j = 20
    · rw [if_pos c]
      omega
    rw [if_neg c]
    clear c
    by_cases c : q' = 115 ∧ j = 21
    · rw [if_pos c]
      omega
    rw [if_neg c]
    clear c
    decide
theorem rvwf_20 {M : zM} : rvw M 465 = M 115 20 := by
  unfold rvw
  rw [if_neg (by decide)]
  rw [if_neg (by decide)]
  rw [if_neg (by decide)]
  rw [if_neg (by decide)]
  rw [if_neg (by decide)]
  rw [if_neg (by decide)]
  rw [if_neg (by decide)]
  rw [if_neg (by decide)]
  rw [if_neg (by decide)]
  rw [if_neg (by decide)]
  rw [if_neg (by decide)]
  rw [if_neg (by decide)]
  rw [if_neg (by decide)]
  rw [if_neg (by decide)]
  rw [if_neg (by decide)]
  rw [if_neg (by decide)]
  rw [if_neg (by decide)]
  rw [if_pos rfl]
theorem rixg_20 : rix 115 20 = 465 := by decide
theorem rixf_20 : ∀ q' j, (rix q' j = 465 ↔ q' = 115 ∧ j = 20) := fun q' j => by
  by_cases cq : q' = 115 ∧ j = 20
  · obtain ⟨rfl, rfl⟩ := cq
    exact ⟨fun _ => ⟨rfl, rfl⟩, fun _ => rixg_20⟩
  · refine ⟨fun e => absurd e ?_, fun e => absurd e cq⟩
    unfold rix
    by_cases c : q' = 116 ∧ j < 36
    · rw [if_pos c]
      omega
    rw [if_neg c]
    clear c
    by_cases c : q' = 117 ∧ j < 36
    · rw [if_pos c]
      omega
    rw [if_neg c]
    clear c
    by_cases c : q' = 118 ∧ j < 4
    · rw [if_pos c]
      omega
    rw [if_neg c]
    clear c
    by_cases c : q' = 119 ∧ j < 16
    · rw [if_pos c]
      omega
    rw [if_neg c]
    clear c
    by_cases c : q' = 120 ∧ j < 36
    · rw [if_pos c]
      omega
    rw [if_neg c]
    clear c
    by_cases c : q' = 123 ∧ j < 8
    · rw [if_pos c]
      omega
    rw [if_neg c]
    clear c
    by_cases c : q' = 124 ∧ j < 32
    · rw [if_pos c]
      omega
    rw [if_neg c]
    clear c
    by_cases c : q' = 125 ∧ j < 288
    · rw [if_pos c]
      omega
    rw [if_neg c]
    clear c
    by_cases c : q' = 115 ∧ j = 6
    · rw [if_pos c]
      omega
    rw [if_neg c]
    clear c
    by_cases c : q' = 115 ∧ j = 7
    · rw [if_pos c]
      omega
    rw [if_neg c]
    clear c
    by_cases c : q' = 115 ∧ j = 8
    · rw [if_pos c]
      omega
    rw [if_neg c]
    clear c
    by_cases c : q' = 115 ∧ j = 9
    · rw [if_pos c]
      omega
    rw [if_neg c]
    clear c
    by_cases c : q' = 115 ∧ j = 10
    · rw [if_pos c]
      omega
    rw [if_neg c]
    clear c
    by_cases c : q' = 115 ∧ j = 11
    · rw [if_pos c]
      omega
    rw [if_neg c]
    clear c
    by_cases c : q' = 115 ∧ j = 12
    · rw [if_pos c]
      omega
    rw [if_neg c]
    clear c
    by_cases c : q' = 115 ∧ j = 13
    · rw [if_pos c]
      omega
    rw [if_neg c]
    clear c
    by_cases c : q' = 115 ∧ j = 19
    · rw [if_pos c]
      omega
    rw [if_neg c]
    clear c
    by_cases c : q' = 115 ∧ j = 20
    · rw [if_pos c]
      exact absurd c cq
    rw [if_neg c]
    clear c
    by_cases c : q' = 115 ∧ j = 21
    · rw [if_pos c]
      omega
    rw [if_neg c]
    clear c
    decide
theorem rvwf_21 {M : zM} : rvw M 466 = M 115 21 := by
  unfold rvw
  rw [if_neg (by decide)]
  rw [if_neg (by decide)]
  rw [if_neg (by decide)]
  rw [if_neg (by decide)]
  rw [if_neg (by decide)]
  rw [if_neg (by decide)]
  rw [if_neg (by decide)]
  rw [if_neg (by decide)]
  rw [if_neg (by decide)]
  rw [if_neg (by decide)]
  rw [if_neg (by decide)]
  rw [if_neg (by decide)]
  rw [if_neg (by decide)]
  rw [if_neg (by decide)]
  rw [if_neg (by decide)]
  rw [if_neg (by decide)]
  rw [if_neg (by decide)]
  rw [if_neg (by decide)]
theorem rixg_21 : rix 115 21 = 466 := by decide
theorem rixf_21 : ∀ q' j, (rix q' j = 466 ↔ q' = 115 ∧ j = 21) := fun q' j => by
  by_cases cq : q' = 115 ∧ j = 21
  · obtain ⟨rfl, rfl⟩ := cq
    exact ⟨fun _ => ⟨rfl, rfl⟩, fun _ => rixg_21⟩
  · refine ⟨fun e => absurd e ?_, fun e => absurd e cq⟩
    unfold rix
    by_cases c : q' = 116 ∧ j < 36
    · rw [if_pos c]
      omega
    rw [if_neg c]
    clear c
    by_cases c : q' = 117 ∧ j < 36
    · rw [if_pos c]
      omega
    rw [if_neg c]
    clear c
    by_cases c : q' = 118 ∧ j < 4
    · rw [if_pos c]
      omega
    rw [if_neg c]
    clear c
    by_cases c : q' = 119 ∧ j < 16
    · rw [if_pos c]
      omega
    rw [if_neg c]
    clear c
    by_cases c : q' = 120 ∧ j < 36
    · rw [if_pos c]
      omega
    rw [if_neg c]
    clear c
    by_cases c : q' = 123 ∧ j < 8
    · rw [if_pos c]
      omega
    rw [if_neg c]
    clear c
    by_cases c : q' = 124 ∧ j < 32
    · rw [if_pos c]
      omega
    rw [if_neg c]
    clear c
    by_cases c : q' = 125 ∧ j < 288
    · rw [if_pos c]
      omega
    rw [if_neg c]
    clear c
    by_cases c : q' = 115 ∧ j = 6
    · rw [if_pos c]
      omega
    rw [if_neg c]
    clear c
    by_cases c : q' = 115 ∧ j = 7
    · rw [if_pos c]
      omega
    rw [if_neg c]
    clear c
    by_cases c : q' = 115 ∧ j = 8
    · rw [if_pos c]
      omega
    rw [if_neg c]
    clear c
    by_cases c : q' = 115 ∧ j = 9
    · rw [if_pos c]
      omega
    rw [if_neg c]
    clear c
    by_cases c : q' = 115 ∧ j = 10
    · rw [if_pos c]
      omega
    rw [if_neg c]
    clear c
    by_cases c : q' = 115 ∧ j = 11
    · rw [if_pos c]
      omega
    rw [if_neg c]
    clear c
    by_cases c : q' = 115 ∧ j = 12
    · rw [if_pos c]
      omega
    rw [if_neg c]
    clear c
    by_cases c : q' = 115 ∧ j = 13
    · rw [if_pos c]
      omega
    rw [if_neg c]
    clear c
    by_cases c : q' = 115 ∧ j = 19
    · rw [if_pos c]
      omega
    rw [if_neg c]
    clear c
    by_cases c : q' = 115 ∧ j = 20
    · rw [if_pos c]
      omega
    rw [if_neg c]
    clear c
    by_cases c : q' = 115 ∧ j = 21
    · rw [if_pos c]
      exact absurd c cq
    rw [if_neg c]
    clear c
    decide
end
noncomputable section
theorem pks_116_135K {xs : List Int32} {d : Nat} {w : Bool} {M X : zM} {x : Nat} (hx : x + 467 ≤ 3072) (hX : X = rkS M 135 x 0) : xrun2 xs (d + 1) 209 [.ref 115, .ref 116, .ref 135] (w, zheap X) = some (.inl none, (w, zheap (rkS M 135 x 36))) := by
  subst hX
  rw [sp_passes_116_135K rkS_k (by rw [rkS_c]; omega), show rpsK (rkS M 135 x 0) 116 135 36 = rkS M 135 x 36 from rkS_r (L := 36) (Or.inl rfl) (by decide) (by decide) rvw_116]
theorem pks_116_135T {xs : List Int32} {d : Nat} {w : Bool} {M X : zM} {x : Nat} (hx : x + 467 ≤ 3072) (hX : X = rtS M 135 x 0) : xrun2 xs (d + 1) 209 [.ref 115, .ref 116, .ref 135] (w, zheap X) = some (.inl none, (w, zheap (rtS M 135 x 36))) := by
  subst hX
  rw [sp_passes_116_135T rtS_k (by rw [rtS_c]; omega), show rpsT (rtS M 135 x 0) 116 135 36 = rtS M 135 x 36 from rtS_r (L := 36) (Or.inl rfl) (by decide) rixr_116]
theorem pks_116_136K {xs : List Int32} {d : Nat} {w : Bool} {M X : zM} {x : Nat} (hx : x + 467 ≤ 512) (hX : X = rkS M 136 x 0) : xrun2 xs (d + 1) 209 [.ref 115, .ref 116, .ref 136] (w, zheap X) = some (.inl none, (w, zheap (rkS M 136 x 36))) := by
  subst hX
  rw [sp_passes_116_136K rkS_k (by rw [rkS_c]; omega), show rpsK (rkS M 136 x 0) 116 136 36 = rkS M 136 x 36 from rkS_r (L := 36) (Or.inr rfl) (by decide) (by decide) rvw_116]
theorem pks_116_136T {xs : List Int32} {d : Nat} {w : Bool} {M X : zM} {x : Nat} (hx : x + 467 ≤ 512) (hX : X = rtS M 136 x 0) : xrun2 xs (d + 1) 209 [.ref 115, .ref 116, .ref 136] (w, zheap X) = some (.inl none, (w, zheap (rtS M 136 x 36))) := by
  subst hX
  rw [sp_passes_116_136T rtS_k (by rw [rtS_c]; omega), show rpsT (rtS M 136 x 0) 116 136 36 = rtS M 136 x 36 from rtS_r (L := 36) (Or.inr rfl) (by decide) rixr_116]
theorem pks_117_135K {xs : List Int32} {d : Nat} {w : Bool} {M X : zM} {x : Nat} (hx : x + 467 ≤ 3072) (hX : X = rkS M 135 x 36) : xrun2 xs (d + 1) 209 [.ref 115, .ref 117, .ref 135] (w, zheap X) = some (.inl none, (w, zheap (rkS M 135 x 72))) := by
  subst hX
  rw [sp_passes_117_135K rkS_k (by rw [rkS_c]; omega), show rpsK (rkS M 135 x 36) 117 135 36 = rkS M 135 x 72 from rkS_r (L := 36) (Or.inl rfl) (by decide) (by decide) rvw_117]
theorem pks_117_135T {xs : List Int32} {d : Nat} {w : Bool} {M X : zM} {x : Nat} (hx : x + 467 ≤ 3072) (hX : X = rtS M 135 x 36) : xrun2 xs (d + 1) 209 [.ref 115, .ref 117, .ref 135] (w, zheap X) = some (.inl none, (w, zheap (rtS M 135 x 72))) := by
  subst hX
  rw [sp_passes_117_135T rtS_k (by rw [rtS_c]; omega), show rpsT (rtS M 135 x 36) 117 135 36 = rtS M 135 x 72 from rtS_r (L := 36) (Or.inl rfl) (by decide) rixr_117]
theorem pks_117_136K {xs : List Int32} {d : Nat} {w : Bool} {M X : zM} {x : Nat} (hx : x + 467 ≤ 512) (hX : X = rkS M 136 x 36) : xrun2 xs (d + 1) 209 [.ref 115, .ref 117, .ref 136] (w, zheap X) = some (.inl none, (w, zheap (rkS M 136 x 72))) := by
  subst hX
  rw [sp_passes_117_136K rkS_k (by rw [rkS_c]; omega), show rpsK (rkS M 136 x 36) 117 136 36 = rkS M 136 x 72 from rkS_r (L := 36) (Or.inr rfl) (by decide) (by decide) rvw_117]
theorem pks_117_136T {xs : List Int32} {d : Nat} {w : Bool} {M X : zM} {x : Nat} (hx : x + 467 ≤ 512) (hX : X = rtS M 136 x 36) : xrun2 xs (d + 1) 209 [.ref 115, .ref 117, .ref 136] (w, zheap X) = some (.inl none, (w, zheap (rtS M 136 x 72))) := by
  subst hX
  rw [sp_passes_117_136T rtS_k (by rw [rtS_c]; omega), show rpsT (rtS M 136 x 36) 117 136 36 = rtS M 136 x 72 from rtS_r (L := 36) (Or.inr rfl) (by decide) rixr_117]
theorem pks_118_135K {xs : List Int32} {d : Nat} {w : Bool} {M X : zM} {x : Nat} (hx : x + 467 ≤ 3072) (hX : X = rkS M 135 x 72) : xrun2 xs (d + 1) 209 [.ref 115, .ref 118, .ref 135] (w, zheap X) = some (.inl none, (w, zheap (rkS M 135 x 76))) := by
  subst hX
  rw [sp_passes_118_135K rkS_k (by rw [rkS_c]; omega), show rpsK (rkS M 135 x 72) 118 135 4 = rkS M 135 x 76 from rkS_r (L := 4) (Or.inl rfl) (by decide) (by decide) rvw_118]
theorem pks_118_135T {xs : List Int32} {d : Nat} {w : Bool} {M X : zM} {x : Nat} (hx : x + 467 ≤ 3072) (hX : X = rtS M 135 x 72) : xrun2 xs (d + 1) 209 [.ref 115, .ref 118, .ref 135] (w, zheap X) = some (.inl none, (w, zheap (rtS M 135 x 76))) := by
  subst hX
  rw [sp_passes_118_135T rtS_k (by rw [rtS_c]; omega), show rpsT (rtS M 135 x 72) 118 135 4 = rtS M 135 x 76 from rtS_r (L := 4) (Or.inl rfl) (by decide) rixr_118]
theorem pks_118_136K {xs : List Int32} {d : Nat} {w : Bool} {M X : zM} {x : Nat} (hx : x + 467 ≤ 512) (hX : X = rkS M 136 x 72) : xrun2 xs (d + 1) 209 [.ref 115, .ref 118, .ref 136] (w, zheap X) = some (.inl none, (w, zheap (rkS M 136 x 76))) := by
  subst hX
  rw [sp_passes_118_136K rkS_k (by rw [rkS_c]; omega), show rpsK (rkS M 136 x 72) 118 136 4 = rkS M 136 x 76 from rkS_r (L := 4) (Or.inr rfl) (by decide) (by decide) rvw_118]
theorem pks_118_136T {xs : List Int32} {d : Nat} {w : Bool} {M X : zM} {x : Nat} (hx : x + 467 ≤ 512) (hX : X = rtS M 136 x 72) : xrun2 xs (d + 1) 209 [.ref 115, .ref 118, .ref 136] (w, zheap X) = some (.inl none, (w, zheap (rtS M 136 x 76))) := by
  subst hX
  rw [sp_passes_118_136T rtS_k (by rw [rtS_c]; omega), show rpsT (rtS M 136 x 72) 118 136 4 = rtS M 136 x 76 from rtS_r (L := 4) (Or.inr rfl) (by decide) rixr_118]
theorem pks_119_135K {xs : List Int32} {d : Nat} {w : Bool} {M X : zM} {x : Nat} (hx : x + 467 ≤ 3072) (hX : X = rkS M 135 x 76) : xrun2 xs (d + 1) 209 [.ref 115, .ref 119, .ref 135] (w, zheap X) = some (.inl none, (w, zheap (rkS M 135 x 92))) := by
  subst hX
  rw [sp_passes_119_135K rkS_k (by rw [rkS_c]; omega), show rpsK (rkS M 135 x 76) 119 135 16 = rkS M 135 x 92 from rkS_r (L := 16) (Or.inl rfl) (by decide) (by decide) rvw_119]
theorem pks_119_135T {xs : List Int32} {d : Nat} {w : Bool} {M X : zM} {x : Nat} (hx : x + 467 ≤ 3072) (hX : X = rtS M 135 x 76) : xrun2 xs (d + 1) 209 [.ref 115, .ref 119, .ref 135] (w, zheap X) = some (.inl none, (w, zheap (rtS M 135 x 92))) := by
  subst hX
  rw [sp_passes_119_135T rtS_k (by rw [rtS_c]; omega), show rpsT (rtS M 135 x 76) 119 135 16 = rtS M 135 x 92 from rtS_r (L := 16) (Or.inl rfl) (by decide) rixr_119]
theorem pks_119_136K {xs : List Int32} {d : Nat} {w : Bool} {M X : zM} {x : Nat} (hx : x + 467 ≤ 512) (hX : X = rkS M 136 x 76) : xrun2 xs (d + 1) 209 [.ref 115, .ref 119, .ref 136] (w, zheap X) = some (.inl none, (w, zheap (rkS M 136 x 92))) := by
  subst hX
  rw [sp_passes_119_136K rkS_k (by rw [rkS_c]; omega), show rpsK (rkS M 136 x 76) 119 136 16 = rkS M 136 x 92 from rkS_r (L := 16) (Or.inr rfl) (by decide) (by decide) rvw_119]
theorem pks_119_136T {xs : List Int32} {d : Nat} {w : Bool} {M X : zM} {x : Nat} (hx : x + 467 ≤ 512) (hX : X = rtS M 136 x 76) : xrun2 xs (d + 1) 209 [.ref 115, .ref 119, .ref 136] (w, zheap X) = some (.inl none, (w, zheap (rtS M 136 x 92))) := by
  subst hX
  rw [sp_passes_119_136T rtS_k (by rw [rtS_c]; omega), show rpsT (rtS M 136 x 76) 119 136 16 = rtS M 136 x 92 from rtS_r (L := 16) (Or.inr rfl) (by decide) rixr_119]
theorem pks_120_135K {xs : List Int32} {d : Nat} {w : Bool} {M X : zM} {x : Nat} (hx : x + 467 ≤ 3072) (hX : X = rkS M 135 x 92) : xrun2 xs (d + 1) 209 [.ref 115, .ref 120, .ref 135] (w, zheap X) = some (.inl none, (w, zheap (rkS M 135 x 128))) := by
  subst hX
  rw [sp_passes_120_135K rkS_k (by rw [rkS_c]; omega), show rpsK (rkS M 135 x 92) 120 135 36 = rkS M 135 x 128 from rkS_r (L := 36) (Or.inl rfl) (by decide) (by decide) rvw_120]
theorem pks_120_135T {xs : List Int32} {d : Nat} {w : Bool} {M X : zM} {x : Nat} (hx : x + 467 ≤ 3072) (hX : X = rtS M 135 x 92) : xrun2 xs (d + 1) 209 [.ref 115, .ref 120, .ref 135] (w, zheap X) = some (.inl none, (w, zheap (rtS M 135 x 128))) := by
  subst hX
  rw [sp_passes_120_135T rtS_k (by rw [rtS_c]; omega), show rpsT (rtS M 135 x 92) 120 135 36 = rtS M 135 x 128 from rtS_r (L := 36) (Or.inl rfl) (by decide) rixr_120]
theorem pks_120_136K {xs : List Int32} {d : Nat} {w : Bool} {M X : zM} {x : Nat} (hx : x + 467 ≤ 512) (hX : X = rkS M 136 x 92) : xrun2 xs (d + 1) 209 [.ref 115, .ref 120, .ref 136] (w, zheap X) = some (.inl none, (w, zheap (rkS M 136 x 128))) := by
  subst hX
  rw [sp_passes_120_136K rkS_k (by rw [rkS_c]; omega), show rpsK (rkS M 136 x 92) 120 136 36 = rkS M 136 x 128 from rkS_r (L := 36) (Or.inr rfl) (by decide) (by decide) rvw_120]
theorem pks_120_136T {xs : List Int32} {d : Nat} {w : Bool} {M X : zM} {x : Nat} (hx : x + 467 ≤ 512) (hX : X = rtS M 136 x 92) : xrun2 xs (d + 1) 209 [.ref 115, .ref 120, .ref 136] (w, zheap X) = some (.inl none, (w, zheap (rtS M 136 x 128))) := by
  subst hX
  rw [sp_passes_120_136T rtS_k (by rw [rtS_c]; omega), show rpsT (rtS M 136 x 92) 120 136 36 = rtS M 136 x 128 from rtS_r (L := 36) (Or.inr rfl) (by decide) rixr_120]
theorem pks_123_135K {xs : List Int32} {d : Nat} {w : Bool} {M X : zM} {x : Nat} (hx : x + 467 ≤ 3072) (hX : X = rkS M 135 x 128) : xrun2 xs (d + 1) 209 [.ref 115, .ref 123, .ref 135] (w, zheap X) = some (.inl none, (w, zheap (rkS M 135 x 136))) := by
  subst hX
  rw [sp_passes_123_135K rkS_k (by rw [rkS_c]; omega), show rpsK (rkS M 135 x 128) 123 135 8 = rkS M 135 x 136 from rkS_r (L := 8) (Or.inl rfl) (by decide) (by decide) rvw_123]
theorem pks_123_135T {xs : List Int32} {d : Nat} {w : Bool} {M X : zM} {x : Nat} (hx : x + 467 ≤ 3072) (hX : X = rtS M 135 x 128) : xrun2 xs (d + 1) 209 [.ref 115, .ref 123, .ref 135] (w, zheap X) = some (.inl none, (w, zheap (rtS M 135 x 136))) := by
  subst hX
  rw [sp_passes_123_135T rtS_k (by rw [rtS_c]; omega), show rpsT (rtS M 135 x 128) 123 135 8 = rtS M 135 x 136 from rtS_r (L := 8) (Or.inl rfl) (by decide) rixr_123]
theorem pks_123_136K {xs : List Int32} {d : Nat} {w : Bool} {M X : zM} {x : Nat} (hx : x + 467 ≤ 512) (hX : X = rkS M 136 x 128) : xrun2 xs (d + 1) 209 [.ref 115, .ref 123, .ref 136] (w, zheap X) = some (.inl none, (w, zheap (rkS M 136 x 136))) := by
  subst hX
  rw [sp_passes_123_136K rkS_k (by rw [rkS_c]; omega), show rpsK (rkS M 136 x 128) 123 136 8 = rkS M 136 x 136 from rkS_r (L := 8) (Or.inr rfl) (by decide) (by decide) rvw_123]
theorem pks_123_136T {xs : List Int32} {d : Nat} {w : Bool} {M X : zM} {x : Nat} (hx : x + 467 ≤ 512) (hX : X = rtS M 136 x 128) : xrun2 xs (d + 1) 209 [.ref 115, .ref 123, .ref 136] (w, zheap X) = some (.inl none, (w, zheap (rtS M 136 x 136))) := by
  subst hX
  rw [sp_passes_123_136T rtS_k (by rw [rtS_c]; omega), show rpsT (rtS M 136 x 128) 123 136 8 = rtS M 136 x 136 from rtS_r (L := 8) (Or.inr rfl) (by decide) rixr_123]
theorem pks_124_135K {xs : List Int32} {d : Nat} {w : Bool} {M X : zM} {x : Nat} (hx : x + 467 ≤ 3072) (hX : X = rkS M 135 x 136) : xrun2 xs (d + 1) 209 [.ref 115, .ref 124, .ref 135] (w, zheap X) = some (.inl none, (w, zheap (rkS M 135 x 168))) := by
  subst hX
  rw [sp_passes_124_135K rkS_k (by rw [rkS_c]; omega), show rpsK (rkS M 135 x 136) 124 135 32 = rkS M 135 x 168 from rkS_r (L := 32) (Or.inl rfl) (by decide) (by decide) rvw_124]
theorem pks_124_135T {xs : List Int32} {d : Nat} {w : Bool} {M X : zM} {x : Nat} (hx : x + 467 ≤ 3072) (hX : X = rtS M 135 x 136) : xrun2 xs (d + 1) 209 [.ref 115, .ref 124, .ref 135] (w, zheap X) = some (.inl none, (w, zheap (rtS M 135 x 168))) := by
  subst hX
  rw [sp_passes_124_135T rtS_k (by rw [rtS_c]; omega), show rpsT (rtS M 135 x 136) 124 135 32 = rtS M 135 x 168 from rtS_r (L := 32) (Or.inl rfl) (by decide) rixr_124]
theorem pks_124_136K {xs : List Int32} {d : Nat} {w : Bool} {M X : zM} {x : Nat} (hx : x + 467 ≤ 512) (hX : X = rkS M 136 x 136) : xrun2 xs (d + 1) 209 [.ref 115, .ref 124, .ref 136] (w, zheap X) = some (.inl none, (w, zheap (rkS M 136 x 168))) := by
  subst hX
  rw [sp_passes_124_136K rkS_k (by rw [rkS_c]; omega), show rpsK (rkS M 136 x 136) 124 136 32 = rkS M 136 x 168 from rkS_r (L := 32) (Or.inr rfl) (by decide) (by decide) rvw_124]
theorem pks_124_136T {xs : List Int32} {d : Nat} {w : Bool} {M X : zM} {x : Nat} (hx : x + 467 ≤ 512) (hX : X = rtS M 136 x 136) : xrun2 xs (d + 1) 209 [.ref 115, .ref 124, .ref 136] (w, zheap X) = some (.inl none, (w, zheap (rtS M 136 x 168))) := by
  subst hX
  rw [sp_passes_124_136T rtS_k (by rw [rtS_c]; omega), show rpsT (rtS M 136 x 136) 124 136 32 = rtS M 136 x 168 from rtS_r (L := 32) (Or.inr rfl) (by decide) rixr_124]
theorem pks_125_135K {xs : List Int32} {d : Nat} {w : Bool} {M X : zM} {x : Nat} (hx : x + 467 ≤ 3072) (hX : X = rkS M 135 x 168) : xrun2 xs (d + 1) 209 [.ref 115, .ref 125, .ref 135] (w, zheap X) = some (.inl none, (w, zheap (rkS M 135 x 456))) := by
  subst hX
  rw [sp_passes_125_135K rkS_k (by rw [rkS_c]; omega), show rpsK (rkS M 135 x 168) 125 135 288 = rkS M 135 x 456 from rkS_r (L := 288) (Or.inl rfl) (by decide) (by decide) rvw_125]
theorem pks_125_135T {xs : List Int32} {d : Nat} {w : Bool} {M X : zM} {x : Nat} (hx : x + 467 ≤ 3072) (hX : X = rtS M 135 x 168) : xrun2 xs (d + 1) 209 [.ref 115, .ref 125, .ref 135] (w, zheap X) = some (.inl none, (w, zheap (rtS M 135 x 456))) := by
  subst hX
  rw [sp_passes_125_135T rtS_k (by rw [rtS_c]; omega), show rpsT (rtS M 135 x 168) 125 135 288 = rtS M 135 x 456 from rtS_r (L := 288) (Or.inl rfl) (by decide) rixr_125]
theorem pks_125_136K {xs : List Int32} {d : Nat} {w : Bool} {M X : zM} {x : Nat} (hx : x + 467 ≤ 512) (hX : X = rkS M 136 x 168) : xrun2 xs (d + 1) 209 [.ref 115, .ref 125, .ref 136] (w, zheap X) = some (.inl none, (w, zheap (rkS M 136 x 456))) := by
  subst hX
  rw [sp_passes_125_136K rkS_k (by rw [rkS_c]; omega), show rpsK (rkS M 136 x 168) 125 136 288 = rkS M 136 x 456 from rkS_r (L := 288) (Or.inr rfl) (by decide) (by decide) rvw_125]
theorem pks_125_136T {xs : List Int32} {d : Nat} {w : Bool} {M X : zM} {x : Nat} (hx : x + 467 ≤ 512) (hX : X = rtS M 136 x 168) : xrun2 xs (d + 1) 209 [.ref 115, .ref 125, .ref 136] (w, zheap X) = some (.inl none, (w, zheap (rtS M 136 x 456))) := by
  subst hX
  rw [sp_passes_125_136T rtS_k (by rw [rtS_c]; omega), show rpsT (rtS M 136 x 168) 125 136 288 = rtS M 136 x 456 from rtS_r (L := 288) (Or.inr rfl) (by decide) rixr_125]
end
noncomputable section
theorem sp_pass_135K {xs : List Int32} {d : Nat} {w : Bool} {M : zM} {x : Int} (hk : M 115 42 = 1) (hc : 0 ≤ M 115 40 ∧ M 115 40 + 1 ≤ 3072) : xrun2 xs (d + 1) 210 [.ref 115, .int (Int32.ofInt x), .ref 135] (w, zheap M) = some (.inl (some (.int (Int32.ofInt x))), (w, zheap (zup (zup M 135 (M 115 40).toNat x) 115 40 (M 115 40 + 1)))) := by
  exact zrun_v (N := 20) (by decide) rfl (zz_aload_n (pc := 0) xf_210_0 (zmem 0 rfl) (zz_getI (pc := 1) xf_210_1 zis_115 (by decide +kernel) rfl (zz_if (pc := 4) xf_210_4 (by unfold zr32; omega) (fun (zc1 : (M 115 42) = 0) => zz_aload_n (pc := 11) xf_210_11 (zmem 2 rfl) (zz_aload_n (pc := 12) xf_210_12 (zmem 0 rfl) (zz_getI (pc := 13) xf_210_13 zis_115 (by decide +kernel) rfl (zz_iald (pc := 16) xf_210_16 zis_135 (by omega) (zz_istore_n (pc := 17) xf_210_17 (by decide +kernel) (zG_ro (ρ' := [(3, .int (Int32.ofInt (M 135 (M 115 40).toNat))), (0, .ref 115), (1, .int (Int32.ofInt x)), (2, .ref 135)]) rfl (zz_aload_n (pc := 18) xf_210_18 (zmem 3 rfl) (zz_aload_n (pc := 19) xf_210_19 (zmem 1 rfl) (zz_getI (pc := 20) xf_210_20 zis_115 (by decide +kernel) rfl (zz_iload_n (pc := 23) xf_210_23 (zmem 0 rfl) (zz_iast (pc := 24) xf_210_24 zis_135 (by omega) (zm_as (fun zM3 (ezM3 : zM3 = zup M 135 (M 115 40).toNat (M 135 (M 115 40).toNat)) => zz_aload_n (pc := 25) xf_210_25 (zmem 1 rfl) (zz_dup_r (pc := 26) xf_210_26 (zz_getI (pc := 27) xf_210_27 zis_115 (by decide +kernel) rfl (zz_iconst (pc := 30) xf_210_30 (zz_iadd (pc := 31) xf_210_31 (zz_putI (pc := 32) xf_210_32 zis_115 (by decide +kernel) rfl (by decide +kernel) (zm_as (fun zM4 (ezM4 : zM4 = zup zM3 115 40 ((zM3 115 40) + (1))) => zz_iload_n (pc := 35) xf_210_35 (zmem 0 rfl) (zz_ireturn (pc := 36) xf_210_36 rfl (by decide +kernel) (by decide +kernel) (by first | (exfalso; omega) | (subst_vars; exact ⟨rfl, congrArg (fun z => (w, zheap z)) (congrArg (zup _ 115 40) (by rw [zup_or (by decide)]))⟩))))))))))))))))))))))) (fun (zc2 : ¬ ((M 115 42) = 0)) => zz_iload_n (pc := 7) xf_210_7 (zmem 1 rfl) (zz_goto (pc := 8) xf_210_8 (zz_istore_n (pc := 17) xf_210_17 (by decide +kernel) (zG_ro (ρ' := [(3, .int (Int32.ofInt x)), (0, .ref 115), (1, .int (Int32.ofInt x)), (2, .ref 135)]) rfl (zz_aload_n (pc := 18) xf_210_18 (zmem 3 rfl) (zz_aload_n (pc := 19) xf_210_19 (zmem 1 rfl) (zz_getI (pc := 20) xf_210_20 zis_115 (by decide +kernel) rfl (zz_iload_n (pc := 23) xf_210_23 (zmem 0 rfl) (zz_iast (pc := 24) xf_210_24 zis_135 (by omega) (zm_as (fun zM5 (ezM5 : zM5 = zup M 135 (M 115 40).toNat x) => zz_aload_n (pc := 25) xf_210_25 (zmem 1 rfl) (zz_dup_r (pc := 26) xf_210_26 (zz_getI (pc := 27) xf_210_27 zis_115 (by decide +kernel) rfl (zz_iconst (pc := 30) xf_210_30 (zz_iadd (pc := 31) xf_210_31 (zz_putI (pc := 32) xf_210_32 zis_115 (by decide +kernel) rfl (by decide +kernel) (zm_as (fun zM6 (ezM6 : zM6 = zup zM5 115 40 ((zM5 115 40) + (1))) => zz_iload_n (pc := 35) xf_210_35 (zmem 0 rfl) (zz_ireturn (pc := 36) xf_210_36 rfl (by decide +kernel) (by decide +kernel) (by first | (exfalso; omega) | (subst_vars; exact ⟨rfl, congrArg (fun z => (w, zheap z)) (congrArg (zup _ 115 40) (by rw [zup_or (by decide)]))⟩))))))))))))))))))))))))
theorem sp_pass_135T {xs : List Int32} {d : Nat} {w : Bool} {M : zM} {x : Int} (hk : M 115 42 = 0) (hc : 0 ≤ M 115 40 ∧ M 115 40 + 1 ≤ 3072) : xrun2 xs (d + 1) 210 [.ref 115, .int (Int32.ofInt x), .ref 135] (w, zheap M) = some (.inl (some (.int (Int32.ofInt (M 135 (M 115 40).toNat)))), (w, zheap (zup (zup M 135 (M 115 40).toNat (M 135 (M 115 40).toNat)) 115 40 (M 115 40 + 1)))) := by
  exact zrun_v (N := 20) (by decide) rfl (zz_aload_n (pc := 0) xf_210_0 (zmem 0 rfl) (zz_getI (pc := 1) xf_210_1 zis_115 (by decide +kernel) rfl (zz_if (pc := 4) xf_210_4 (by unfold zr32; omega) (fun (zc1 : (M 115 42) = 0) => zz_aload_n (pc := 11) xf_210_11 (zmem 2 rfl) (zz_aload_n (pc := 12) xf_210_12 (zmem 0 rfl) (zz_getI (pc := 13) xf_210_13 zis_115 (by decide +kernel) rfl (zz_iald (pc := 16) xf_210_16 zis_135 (by omega) (zz_istore_n (pc := 17) xf_210_17 (by decide +kernel) (zG_ro (ρ' := [(3, .int (Int32.ofInt (M 135 (M 115 40).toNat))), (0, .ref 115), (1, .int (Int32.ofInt x)), (2, .ref 135)]) rfl (zz_aload_n (pc := 18) xf_210_18 (zmem 3 rfl) (zz_aload_n (pc := 19) xf_210_19 (zmem 1 rfl) (zz_getI (pc := 20) xf_210_20 zis_115 (by decide +kernel) rfl (zz_iload_n (pc := 23) xf_210_23 (zmem 0 rfl) (zz_iast (pc := 24) xf_210_24 zis_135 (by omega) (zm_as (fun zM3 (ezM3 : zM3 = zup M 135 (M 115 40).toNat (M 135 (M 115 40).toNat)) => zz_aload_n (pc := 25) xf_210_25 (zmem 1 rfl) (zz_dup_r (pc := 26) xf_210_26 (zz_getI (pc := 27) xf_210_27 zis_115 (by decide +kernel) rfl (zz_iconst (pc := 30) xf_210_30 (zz_iadd (pc := 31) xf_210_31 (zz_putI (pc := 32) xf_210_32 zis_115 (by decide +kernel) rfl (by decide +kernel) (zm_as (fun zM4 (ezM4 : zM4 = zup zM3 115 40 ((zM3 115 40) + (1))) => zz_iload_n (pc := 35) xf_210_35 (zmem 0 rfl) (zz_ireturn (pc := 36) xf_210_36 rfl (by decide +kernel) (by decide +kernel) (by first | (exfalso; omega) | (subst_vars; exact ⟨rfl, congrArg (fun z => (w, zheap z)) (congrArg (zup _ 115 40) (by rw [zup_or (by decide)]))⟩))))))))))))))))))))))) (fun (zc2 : ¬ ((M 115 42) = 0)) => zz_iload_n (pc := 7) xf_210_7 (zmem 1 rfl) (zz_goto (pc := 8) xf_210_8 (zz_istore_n (pc := 17) xf_210_17 (by decide +kernel) (zG_ro (ρ' := [(3, .int (Int32.ofInt x)), (0, .ref 115), (1, .int (Int32.ofInt x)), (2, .ref 135)]) rfl (zz_aload_n (pc := 18) xf_210_18 (zmem 3 rfl) (zz_aload_n (pc := 19) xf_210_19 (zmem 1 rfl) (zz_getI (pc := 20) xf_210_20 zis_115 (by decide +kernel) rfl (zz_iload_n (pc := 23) xf_210_23 (zmem 0 rfl) (zz_iast (pc := 24) xf_210_24 zis_135 (by omega) (zm_as (fun zM5 (ezM5 : zM5 = zup M 135 (M 115 40).toNat x) => zz_aload_n (pc := 25) xf_210_25 (zmem 1 rfl) (zz_dup_r (pc := 26) xf_210_26 (zz_getI (pc := 27) xf_210_27 zis_115 (by decide +kernel) rfl (zz_iconst (pc := 30) xf_210_30 (zz_iadd (pc := 31) xf_210_31 (zz_putI (pc := 32) xf_210_32 zis_115 (by decide +kernel) rfl (by decide +kernel) (zm_as (fun zM6 (ezM6 : zM6 = zup zM5 115 40 ((zM5 115 40) + (1))) => zz_iload_n (pc := 35) xf_210_35 (zmem 0 rfl) (zz_ireturn (pc := 36) xf_210_36 rfl (by decide +kernel) (by decide +kernel) (by first | (exfalso; omega) | (subst_vars; exact ⟨rfl, congrArg (fun z => (w, zheap z)) (congrArg (zup _ 115 40) (by rw [zup_or (by decide)]))⟩))))))))))))))))))))))))
theorem sp_pass_136K {xs : List Int32} {d : Nat} {w : Bool} {M : zM} {x : Int} (hk : M 115 42 = 1) (hc : 0 ≤ M 115 40 ∧ M 115 40 + 1 ≤ 512) : xrun2 xs (d + 1) 210 [.ref 115, .int (Int32.ofInt x), .ref 136] (w, zheap M) = some (.inl (some (.int (Int32.ofInt x))), (w, zheap (zup (zup M 136 (M 115 40).toNat x) 115 40 (M 115 40 + 1)))) := by
  exact zrun_v (N := 20) (by decide) rfl (zz_aload_n (pc := 0) xf_210_0 (zmem 0 rfl) (zz_getI (pc := 1) xf_210_1 zis_115 (by decide +kernel) rfl (zz_if (pc := 4) xf_210_4 (by unfold zr32; omega) (fun (zc1 : (M 115 42) = 0) => zz_aload_n (pc := 11) xf_210_11 (zmem 2 rfl) (zz_aload_n (pc := 12) xf_210_12 (zmem 0 rfl) (zz_getI (pc := 13) xf_210_13 zis_115 (by decide +kernel) rfl (zz_iald (pc := 16) xf_210_16 zis_136 (by omega) (zz_istore_n (pc := 17) xf_210_17 (by decide +kernel) (zG_ro (ρ' := [(3, .int (Int32.ofInt (M 136 (M 115 40).toNat))), (0, .ref 115), (1, .int (Int32.ofInt x)), (2, .ref 136)]) rfl (zz_aload_n (pc := 18) xf_210_18 (zmem 3 rfl) (zz_aload_n (pc := 19) xf_210_19 (zmem 1 rfl) (zz_getI (pc := 20) xf_210_20 zis_115 (by decide +kernel) rfl (zz_iload_n (pc := 23) xf_210_23 (zmem 0 rfl) (zz_iast (pc := 24) xf_210_24 zis_136 (by omega) (zm_as (fun zM3 (ezM3 : zM3 = zup M 136 (M 115 40).toNat (M 136 (M 115 40).toNat)) => zz_aload_n (pc := 25) xf_210_25 (zmem 1 rfl) (zz_dup_r (pc := 26) xf_210_26 (zz_getI (pc := 27) xf_210_27 zis_115 (by decide +kernel) rfl (zz_iconst (pc := 30) xf_210_30 (zz_iadd (pc := 31) xf_210_31 (zz_putI (pc := 32) xf_210_32 zis_115 (by decide +kernel) rfl (by decide +kernel) (zm_as (fun zM4 (ezM4 : zM4 = zup zM3 115 40 ((zM3 115 40) + (1))) => zz_iload_n (pc := 35) xf_210_35 (zmem 0 rfl) (zz_ireturn (pc := 36) xf_210_36 rfl (by decide +kernel) (by decide +kernel) (by first | (exfalso; omega) | (subst_vars; exact ⟨rfl, congrArg (fun z => (w, zheap z)) (congrArg (zup _ 115 40) (by rw [zup_or (by decide)]))⟩))))))))))))))))))))))) (fun (zc2 : ¬ ((M 115 42) = 0)) => zz_iload_n (pc := 7) xf_210_7 (zmem 1 rfl) (zz_goto (pc := 8) xf_210_8 (zz_istore_n (pc := 17) xf_210_17 (by decide +kernel) (zG_ro (ρ' := [(3, .int (Int32.ofInt x)), (0, .ref 115), (1, .int (Int32.ofInt x)), (2, .ref 136)]) rfl (zz_aload_n (pc := 18) xf_210_18 (zmem 3 rfl) (zz_aload_n (pc := 19) xf_210_19 (zmem 1 rfl) (zz_getI (pc := 20) xf_210_20 zis_115 (by decide +kernel) rfl (zz_iload_n (pc := 23) xf_210_23 (zmem 0 rfl) (zz_iast (pc := 24) xf_210_24 zis_136 (by omega) (zm_as (fun zM5 (ezM5 : zM5 = zup M 136 (M 115 40).toNat x) => zz_aload_n (pc := 25) xf_210_25 (zmem 1 rfl) (zz_dup_r (pc := 26) xf_210_26 (zz_getI (pc := 27) xf_210_27 zis_115 (by decide +kernel) rfl (zz_iconst (pc := 30) xf_210_30 (zz_iadd (pc := 31) xf_210_31 (zz_putI (pc := 32) xf_210_32 zis_115 (by decide +kernel) rfl (by decide +kernel) (zm_as (fun zM6 (ezM6 : zM6 = zup zM5 115 40 ((zM5 115 40) + (1))) => zz_iload_n (pc := 35) xf_210_35 (zmem 0 rfl) (zz_ireturn (pc := 36) xf_210_36 rfl (by decide +kernel) (by decide +kernel) (by first | (exfalso; omega) | (subst_vars; exact ⟨rfl, congrArg (fun z => (w, zheap z)) (congrArg (zup _ 115 40) (by rw [zup_or (by decide)]))⟩))))))))))))))))))))))))
theorem sp_pass_136T {xs : List Int32} {d : Nat} {w : Bool} {M : zM} {x : Int} (hk : M 115 42 = 0) (hc : 0 ≤ M 115 40 ∧ M 115 40 + 1 ≤ 512) : xrun2 xs (d + 1) 210 [.ref 115, .int (Int32.ofInt x), .ref 136] (w, zheap M) = some (.inl (some (.int (Int32.ofInt (M 136 (M 115 40).toNat)))), (w, zheap (zup (zup M 136 (M 115 40).toNat (M 136 (M 115 40).toNat)) 115 40 (M 115 40 + 1)))) := by
  exact zrun_v (N := 20) (by decide) rfl (zz_aload_n (pc := 0) xf_210_0 (zmem 0 rfl) (zz_getI (pc := 1) xf_210_1 zis_115 (by decide +kernel) rfl (zz_if (pc := 4) xf_210_4 (by unfold zr32; omega) (fun (zc1 : (M 115 42) = 0) => zz_aload_n (pc := 11) xf_210_11 (zmem 2 rfl) (zz_aload_n (pc := 12) xf_210_12 (zmem 0 rfl) (zz_getI (pc := 13) xf_210_13 zis_115 (by decide +kernel) rfl (zz_iald (pc := 16) xf_210_16 zis_136 (by omega) (zz_istore_n (pc := 17) xf_210_17 (by decide +kernel) (zG_ro (ρ' := [(3, .int (Int32.ofInt (M 136 (M 115 40).toNat))), (0, .ref 115), (1, .int (Int32.ofInt x)), (2, .ref 136)]) rfl (zz_aload_n (pc := 18) xf_210_18 (zmem 3 rfl) (zz_aload_n (pc := 19) xf_210_19 (zmem 1 rfl) (zz_getI (pc := 20) xf_210_20 zis_115 (by decide +kernel) rfl (zz_iload_n (pc := 23) xf_210_23 (zmem 0 rfl) (zz_iast (pc := 24) xf_210_24 zis_136 (by omega) (zm_as (fun zM3 (ezM3 : zM3 = zup M 136 (M 115 40).toNat (M 136 (M 115 40).toNat)) => zz_aload_n (pc := 25) xf_210_25 (zmem 1 rfl) (zz_dup_r (pc := 26) xf_210_26 (zz_getI (pc := 27) xf_210_27 zis_115 (by decide +kernel) rfl (zz_iconst (pc := 30) xf_210_30 (zz_iadd (pc := 31) xf_210_31 (zz_putI (pc := 32) xf_210_32 zis_115 (by decide +kernel) rfl (by decide +kernel) (zm_as (fun zM4 (ezM4 : zM4 = zup zM3 115 40 ((zM3 115 40) + (1))) => zz_iload_n (pc := 35) xf_210_35 (zmem 0 rfl) (zz_ireturn (pc := 36) xf_210_36 rfl (by decide +kernel) (by decide +kernel) (by first | (exfalso; omega) | (subst_vars; exact ⟨rfl, congrArg (fun z => (w, zheap z)) (congrArg (zup _ 115 40) (by rw [zup_or (by decide)]))⟩))))))))))))))))))))))) (fun (zc2 : ¬ ((M 115 42) = 0)) => zz_iload_n (pc := 7) xf_210_7 (zmem 1 rfl) (zz_goto (pc := 8) xf_210_8 (zz_istore_n (pc := 17) xf_210_17 (by decide +kernel) (zG_ro (ρ' := [(3, .int (Int32.ofInt x)), (0, .ref 115), (1, .int (Int32.ofInt x)), (2, .ref 136)]) rfl (zz_aload_n (pc := 18) xf_210_18 (zmem 3 rfl) (zz_aload_n (pc := 19) xf_210_19 (zmem 1 rfl) (zz_getI (pc := 20) xf_210_20 zis_115 (by decide +kernel) rfl (zz_iload_n (pc := 23) xf_210_23 (zmem 0 rfl) (zz_iast (pc := 24) xf_210_24 zis_136 (by omega) (zm_as (fun zM5 (ezM5 : zM5 = zup M 136 (M 115 40).toNat x) => zz_aload_n (pc := 25) xf_210_25 (zmem 1 rfl) (zz_dup_r (pc := 26) xf_210_26 (zz_getI (pc := 27) xf_210_27 zis_115 (by decide +kernel) rfl (zz_iconst (pc := 30) xf_210_30 (zz_iadd (pc := 31) xf_210_31 (zz_putI (pc := 32) xf_210_32 zis_115 (by decide +kernel) rfl (by decide +kernel) (zm_as (fun zM6 (ezM6 : zM6 = zup zM5 115 40 ((zM5 115 40) + (1))) => zz_iload_n (pc := 35) xf_210_35 (zmem 0 rfl) (zz_ireturn (pc := 36) xf_210_36 rfl (by decide +kernel) (by decide +kernel) (by first | (exfalso; omega) | (subst_vars; exact ⟨rfl, congrArg (fun z => (w, zheap z)) (congrArg (zup _ 115 40) (by rw [zup_or (by decide)]))⟩))))))))))))))))))))))))
end
noncomputable section
theorem sp_passAll_135K {xs : List Int32} {d : Nat} {w : Bool} {M : zM} {x : Nat} (hx : x + 467 ≤ 3072) : xrun2 xs (d + 2) 211 [.ref 115, .ref 135, .int (Int32.ofInt (x : Int)), .int (Int32.ofInt (1))] (w, zheap M) = some (.inl none, (w, zheap (rkS M 135 x 467))) := by
  exact zrun_v (N := 123) (by decide) rfl (zz_aload_n (pc := 0) xf_211_0 (zmem 0 rfl) (zz_iload_n (pc := 1) xf_211_1 (zmem 3 rfl) (zz_putZ (pc := 2) xf_211_2 zis_115 (by decide +kernel) rfl (by decide +kernel) (by decide) (zm_as (fun zM1 (ezM1 : zM1 = zup M 115 42 (1)) => zz_aload_n (pc := 5) xf_211_5 (zmem 0 rfl) (zz_iload_n (pc := 6) xf_211_6 (zmem 2 rfl) (zz_putI (pc := 7) xf_211_7 zis_115 (by decide +kernel) rfl (by decide +kernel) (zm_as (fun zM2 (ezM2 : zM2 = zup zM1 115 40 (x : Int)) => have qzM2 : zM2 = rkS M 135 x 0 := (by rw [ezM2, ezM1]; exact rkS_0 (p := 135)); zz_aload_n (pc := 10) xf_211_10 (zmem 0 rfl) (zz_aload_n (pc := 11) xf_211_11 (zmem 0 rfl) (zz_getR (pc := 12) xf_211_12 zis_115 (by decide +kernel) rfl (zz_aload_n (pc := 15) xf_211_15 (zmem 1 rfl) (zz_call_0 (pc := 16) (cu := 0) (su := 0) (fun ls hr => zz_calV xf_211_16 rfl zis_115 ls hr) rfl (pks_116_135K (d := d) hx qzM2) (zm_as (fun zM3 (ezM3 : zM3 = rkS M 135 x 36) => zz_aload_n (pc := 19) xf_211_19 (zmem 0 rfl) (zz_aload_n (pc := 20) xf_211_20 (zmem 0 rfl) (zz_getR (pc := 21) xf_211_21 zis_115 (by decide +kernel) rfl (zz_aload_n (pc := 24) xf_211_24 (zmem 1 rfl) (zz_call_0 (pc := 25) (cu := 0) (su := 0) (fun ls hr => zz_calV xf_211_25 rfl zis_115 ls hr) rfl (pks_117_135K (d := d) hx ezM3) (zm_as (fun zM4 (ezM4 : zM4 = rkS M 135 x 72) => zz_aload_n (pc := 28) xf_211_28 (zmem 0 rfl) (zz_aload_n (pc := 29) xf_211_29 (zmem 0 rfl) (zz_getR (pc := 30) xf_211_30 zis_115 (by decide +kernel) rfl (zz_aload_n (pc := 33) xf_211_33 (zmem 1 rfl) (zz_call_0 (pc := 34) (cu := 0) (su := 0) (fun ls hr => zz_calV xf_211_34 rfl zis_115 ls hr) rfl (pks_118_135K (d := d) hx ezM4) (zm_as (fun zM5 (ezM5 : zM5 = rkS M 135 x 76) => zz_aload_n (pc := 37) xf_211_37 (zmem 0 rfl) (zz_aload_n (pc := 38) xf_211_38 (zmem 0 rfl) (zz_getR (pc := 39) xf_211_39 zis_115 (by decide +kernel) rfl (zz_aload_n (pc := 42) xf_211_42 (zmem 1 rfl) (zz_call_0 (pc := 43) (cu := 0) (su := 0) (fun ls hr => zz_calV xf_211_43 rfl zis_115 ls hr) rfl (pks_119_135K (d := d) hx ezM5) (zm_as (fun zM6 (ezM6 : zM6 = rkS M 135 x 92) => zz_aload_n (pc := 46) xf_211_46 (zmem 0 rfl) (zz_aload_n (pc := 47) xf_211_47 (zmem 0 rfl) (zz_getR (pc := 48) xf_211_48 zis_115 (by decide +kernel) rfl (zz_aload_n (pc := 51) xf_211_51 (zmem 1 rfl) (zz_call_0 (pc := 52) (cu := 0) (su := 0) (fun ls hr => zz_calV xf_211_52 rfl zis_115 ls hr) rfl (pks_120_135K (d := d) hx ezM6) (zm_as (fun zM7 (ezM7 : zM7 = rkS M 135 x 128) => zz_aload_n (pc := 55) xf_211_55 (zmem 0 rfl) (zz_aload_n (pc := 56) xf_211_56 (zmem 0 rfl) (zz_getR (pc := 57) xf_211_57 zis_115 (by decide +kernel) rfl (zz_aload_n (pc := 60) xf_211_60 (zmem 1 rfl) (zz_call_0 (pc := 61) (cu := 0) (su := 0) (fun ls hr => zz_calV xf_211_61 rfl zis_115 ls hr) rfl (pks_123_135K (d := d) hx ezM7) (zm_as (fun zM8 (ezM8 : zM8 = rkS M 135 x 136) => zz_aload_n (pc := 64) xf_211_64 (zmem 0 rfl) (zz_aload_n (pc := 65) xf_211_65 (zmem 0 rfl) (zz_getR (pc := 66) xf_211_66 zis_115 (by decide +kernel) rfl (zz_aload_n (pc := 69) xf_211_69 (zmem 1 rfl) (zz_call_0 (pc := 70) (cu := 0) (su := 0) (fun ls hr => zz_calV xf_211_70 rfl zis_115 ls hr) rfl (pks_124_135K (d := d) hx ezM8) (zm_as (fun zM9 (ezM9 : zM9 = rkS M 135 x 168) => zz_aload_n (pc := 73) xf_211_73 (zmem 0 rfl) (zz_aload_n (pc := 74) xf_211_74 (zmem 0 rfl) (zz_getR (pc := 75) xf_211_75 zis_115 (by decide +kernel) rfl (zz_aload_n (pc := 78) xf_211_78 (zmem 1 rfl) (zz_call_0 (pc := 79) (cu := 0) (su := 0) (fun ls hr => zz_calV xf_211_79 rfl zis_115 ls hr) rfl (pks_125_135K (d := d) hx ezM9) (zm_as (fun zM10 (ezM10 : zM10 = rkS M 135 x 456) => zz_aload_n (pc := 82) xf_211_82 (zmem 0 rfl) (zz_aload_n (pc := 83) xf_211_83 (zmem 0 rfl) (zz_aload_n (pc := 84) xf_211_84 (zmem 0 rfl) (zz_getI (pc := 85) xf_211_85 zis_115 (by decide +kernel) rfl (zz_aload_n (pc := 88) xf_211_88 (zmem 1 rfl) (zz_call_v (pc := 89) (cu := 0) (su := 0) (fun ls hr => zz_calV xf_211_89 rfl zis_115 ls hr) rfl (sp_pass_135K (d := d) (by rw [ezM10]; exact rkS_k) (by rw [ezM10, rkS_c]; omega)) (zm_as (fun zM11 (ezM11 : zM11 = zup (zup zM10 135 (zM10 115 40).toNat (zM10 115 6)) 115 40 (zM10 115 40 + 1)) => zz_putI (pc := 92) xf_211_92 zis_115 (by decide +kernel) rfl (by decide +kernel) (zm_as (fun zM12 (ezM12 : zM12 = zup zM11 115 6 (zM10 115 6)) => have qzM12 : zM12 = rkS M 135 x 457 := (by rw [ezM12, ezM11, ezM10]; exact rkS_g (f := 6) (Or.inl rfl) rvwf_6 (by decide) (by decide)); zz_aload_n (pc := 95) xf_211_95 (zmem 0 rfl) (zz_aload_n (pc := 96) xf_211_96 (zmem 0 rfl) (zz_aload_n (pc := 97) xf_211_97 (zmem 0 rfl) (zz_getI (pc := 98) xf_211_98 zis_115 (by decide +kernel) rfl (zz_aload_n (pc := 101) xf_211_101 (zmem 1 rfl) (zz_call_v (pc := 102) (cu := 0) (su := 0) (fun ls hr => zz_calV xf_211_102 rfl zis_115 ls hr) rfl (sp_pass_135K (d := d) (by rw [qzM12]; exact rkS_k) (by rw [qzM12, rkS_c]; omega)) (zm_as (fun zM13 (ezM13 : zM13 = zup (zup zM12 135 (zM12 115 40).toNat (zM12 115 7)) 115 40 (zM12 115 40 + 1)) => zz_putI (pc := 105) xf_211_105 zis_115 (by decide +kernel) rfl (by decide +kernel) (zm_as (fun zM14 (ezM14 : zM14 = zup zM13 115 7 (zM12 115 7)) => have qzM14 : zM14 = rkS M 135 x 458 := (by rw [ezM14, ezM13, qzM12]; exact rkS_g (f := 7) (Or.inl rfl) rvwf_7 (by decide) (by decide)); zz_aload_n (pc := 108) xf_211_108 (zmem 0 rfl) (zz_aload_n (pc := 109) xf_211_109 (zmem 0 rfl) (zz_aload_n (pc := 110) xf_211_110 (zmem 0 rfl) (zz_getI (pc := 111) xf_211_111 zis_115 (by decide +kernel) rfl (zz_aload_n (pc := 114) xf_211_114 (zmem 1 rfl) (zz_call_v (pc := 115) (cu := 0) (su := 0) (fun ls hr => zz_calV xf_211_115 rfl zis_115 ls hr) rfl (sp_pass_135K (d := d) (by rw [qzM14]; exact rkS_k) (by rw [qzM14, rkS_c]; omega)) (zm_as (fun zM15 (ezM15 : zM15 = zup (zup zM14 135 (zM14 115 40).toNat (zM14 115 8)) 115 40 (zM14 115 40 + 1)) => zz_putI (pc := 118) xf_211_118 zis_115 (by decide +kernel) rfl (by decide +kernel) (zm_as (fun zM16 (ezM16 : zM16 = zup zM15 115 8 (zM14 115 8)) => have qzM16 : zM16 = rkS M 135 x 459 := (by rw [ezM16, ezM15, qzM14]; exact rkS_g (f := 8) (Or.inl rfl) rvwf_8 (by decide) (by decide)); zz_aload_n (pc := 121) xf_211_121 (zmem 0 rfl) (zz_aload_n (pc := 122) xf_211_122 (zmem 0 rfl) (zz_aload_n (pc := 123) xf_211_123 (zmem 0 rfl) (zz_getI (pc := 124) xf_211_124 zis_115 (by decide +kernel) rfl (zz_aload_n (pc := 127) xf_211_127 (zmem 1 rfl) (zz_call_v (pc := 128) (cu := 0) (su := 0) (fun ls hr => zz_calV xf_211_128 rfl zis_115 ls hr) rfl (sp_pass_135K (d := d) (by rw [qzM16]; exact rkS_k) (by rw [qzM16, rkS_c]; omega)) (zm_as (fun zM17 (ezM17 : zM17 = zup (zup zM16 135 (zM16 115 40).toNat (zM16 115 9)) 115 40 (zM16 115 40 + 1)) => zz_putI (pc := 131) xf_211_131 zis_115 (by decide +kernel) rfl (by decide +kernel) (zm_as (fun zM18 (ezM18 : zM18 = zup zM17 115 9 (zM16 115 9)) => have qzM18 : zM18 = rkS M 135 x 460 := (by rw [ezM18, ezM17, qzM16]; exact rkS_g (f := 9) (Or.inl rfl) rvwf_9 (by decide) (by decide)); zz_aload_n (pc := 134) xf_211_134 (zmem 0 rfl) (zz_aload_n (pc := 135) xf_211_135 (zmem 0 rfl) (zz_aload_n (pc := 136) xf_211_136 (zmem 0 rfl) (zz_getI (pc := 137) xf_211_137 zis_115 (by decide +kernel) rfl (zz_aload_n (pc := 140) xf_211_140 (zmem 1 rfl) (zz_call_v (pc := 141) (cu := 0) (su := 0) (fun ls hr => zz_calV xf_211_141 rfl zis_115 ls hr) rfl (sp_pass_135K (d := d) (by rw [qzM18]; exact rkS_k) (by rw [qzM18, rkS_c]; omega)) (zm_as (fun zM19 (ezM19 : zM19 = zup (zup zM18 135 (zM18 115 40).toNat (zM18 115 10)) 115 40 (zM18 115 40 + 1)) => zz_putI (pc := 144) xf_211_144 zis_115 (by decide +kernel) rfl (by decide +kernel) (zm_as (fun zM20 (ezM20 : zM20 = zup zM19 115 10 (zM18 115 10)) => have qzM20 : zM20 = rkS M 135 x 461 := (by rw [ezM20, ezM19, qzM18]; exact rkS_g (f := 10) (Or.inl rfl) rvwf_10 (by decide) (by decide)); zz_aload_n (pc := 147) xf_211_147 (zmem 0 rfl) (zz_aload_n (pc := 148) xf_211_148 (zmem 0 rfl) (zz_aload_n (pc := 149) xf_211_149 (zmem 0 rfl) (zz_getI (pc := 150) xf_211_150 zis_115 (by decide +kernel) rfl (zz_aload_n (pc := 153) xf_211_153 (zmem 1 rfl) (zz_call_v (pc := 154) (cu := 0) (su := 0) (fun ls hr => zz_calV xf_211_154 rfl zis_115 ls hr) rfl (sp_pass_135K (d := d) (by rw [qzM20]; exact rkS_k) (by rw [qzM20, rkS_c]; omega)) (zm_as (fun zM21 (ezM21 : zM21 = zup (zup zM20 135 (zM20 115 40).toNat (zM20 115 11)) 115 40 (zM20 115 40 + 1)) => zz_putI (pc := 157) xf_211_157 zis_115 (by decide +kernel) rfl (by decide +kernel) (zm_as (fun zM22 (ezM22 : zM22 = zup zM21 115 11 (zM20 115 11)) => have qzM22 : zM22 = rkS M 135 x 462 := (by rw [ezM22, ezM21, qzM20]; exact rkS_g (f := 11) (Or.inl rfl) rvwf_11 (by decide) (by decide)); zz_aload_n (pc := 160) xf_211_160 (zmem 0 rfl) (zz_aload_n (pc := 161) xf_211_161 (zmem 0 rfl) (zz_aload_n (pc := 162) xf_211_162 (zmem 0 rfl) (zz_getI (pc := 163) xf_211_163 zis_115 (by decide +kernel) rfl (zz_aload_n (pc := 166) xf_211_166 (zmem 1 rfl) (zz_call_v (pc := 167) (cu := 0) (su := 0) (fun ls hr => zz_calV xf_211_167 rfl zis_115 ls hr) rfl (sp_pass_135K (d := d) (by rw [qzM22]; exact rkS_k) (by rw [qzM22, rkS_c]; omega)) (zm_as (fun zM23 (ezM23 : zM23 = zup (zup zM22 135 (zM22 115 40).toNat (zM22 115 12)) 115 40 (zM22 115 40 + 1)) => zz_putI (pc := 170) xf_211_170 zis_115 (by decide +kernel) rfl (by decide +kernel) (zm_as (fun zM24 (ezM24 : zM24 = zup zM23 115 12 (zM22 115 12)) => have qzM24 : zM24 = rkS M 135 x 463 := (by rw [ezM24, ezM23, qzM22]; exact rkS_g (f := 12) (Or.inl rfl) rvwf_12 (by decide) (by decide)); zz_aload_n (pc := 173) xf_211_173 (zmem 0 rfl) (zz_aload_n (pc := 174) xf_211_174 (zmem 0 rfl) (zz_aload_n (pc := 175) xf_211_175 (zmem 0 rfl) (zz_getI (pc := 176) xf_211_176 zis_115 (by decide +kernel) rfl (zz_aload_n (pc := 179) xf_211_179 (zmem 1 rfl) (zz_call_v (pc := 180) (cu := 0) (su := 0) (fun ls hr => zz_calV xf_211_180 rfl zis_115 ls hr) rfl (sp_pass_135K (d := d) (by rw [qzM24]; exact rkS_k) (by rw [qzM24, rkS_c]; omega)) (zm_as (fun zM25 (ezM25 : zM25 = zup (zup zM24 135 (zM24 115 40).toNat (zM24 115 13)) 115 40 (zM24 115 40 + 1)) => zz_putI (pc := 183) xf_211_183 zis_115 (by decide +kernel) rfl (by decide +kernel) (zm_as (fun zM26 (ezM26 : zM26 = zup zM25 115 13 (zM24 115 13)) => have qzM26 : zM26 = rkS M 135 x 464 := (by rw [ezM26, ezM25, qzM24]; exact rkS_g (f := 13) (Or.inl rfl) rvwf_13 (by decide) (by decide)); zz_aload_n (pc := 186) xf_211_186 (zmem 0 rfl) (zz_aload_n (pc := 187) xf_211_187 (zmem 0 rfl) (zz_aload_n (pc := 188) xf_211_188 (zmem 0 rfl) (zz_getI (pc := 189) xf_211_189 zis_115 (by decide +kernel) rfl (zz_aload_n (pc := 192) xf_211_192 (zmem 1 rfl) (zz_call_v (pc := 193) (cu := 0) (su := 0) (fun ls hr => zz_calV xf_211_193 rfl zis_115 ls hr) rfl (sp_pass_135K (d := d) (by rw [qzM26]; exact rkS_k) (by rw [qzM26, rkS_c]; omega)) (zm_as (fun zM27 (ezM27 : zM27 = zup (zup zM26 135 (zM26 115 40).toNat (zM26 115 19)) 115 40 (zM26 115 40 + 1)) => zz_putI (pc := 196) xf_211_196 zis_115 (by decide +kernel) rfl (by decide +kernel) (zm_as (fun zM28 (ezM28 : zM28 = zup zM27 115 19 (zM26 115 19)) => have qzM28 : zM28 = rkS M 135 x 465 := (by rw [ezM28, ezM27, qzM26]; exact rkS_g (f := 19) (Or.inl rfl) rvwf_19 (by decide) (by decide)); zz_aload_n (pc := 199) xf_211_199 (zmem 0 rfl) (zz_aload_n (pc := 200) xf_211_200 (zmem 0 rfl) (zz_aload_n (pc := 201) xf_211_201 (zmem 0 rfl) (zz_getI (pc := 202) xf_211_202 zis_115 (by decide +kernel) rfl (zz_aload_n (pc := 205) xf_211_205 (zmem 1 rfl) (zz_call_v (pc := 206) (cu := 0) (su := 0) (fun ls hr => zz_calV xf_211_206 rfl zis_115 ls hr) rfl (sp_pass_135K (d := d) (by rw [qzM28]; exact rkS_k) (by rw [qzM28, rkS_c]; omega)) (zm_as (fun zM29 (ezM29 : zM29 = zup (zup zM28 135 (zM28 115 40).toNat (zM28 115 20)) 115 40 (zM28 115 40 + 1)) => zz_putI (pc := 209) xf_211_209 zis_115 (by decide +kernel) rfl (by decide +kernel) (zm_as (fun zM30 (ezM30 : zM30 = zup zM29 115 20 (zM28 115 20)) => have qzM30 : zM30 = rkS M 135 x 466 := (by rw [ezM30, ezM29, qzM28]; exact rkS_g (f := 20) (Or.inl rfl) rvwf_20 (by decide) (by decide)); zz_aload_n (pc := 212) xf_211_212 (zmem 0 rfl) (zz_aload_n (pc := 213) xf_211_213 (zmem 0 rfl) (zz_aload_n (pc := 214) xf_211_214 (zmem 0 rfl) (zz_getI (pc := 215) xf_211_215 zis_115 (by decide +kernel) rfl (zz_aload_n (pc := 218) xf_211_218 (zmem 1 rfl) (zz_call_v (pc := 219) (cu := 0) (su := 0) (fun ls hr => zz_calV xf_211_219 rfl zis_115 ls hr) rfl (sp_pass_135K (d := d) (by rw [qzM30]; exact rkS_k) (by rw [qzM30, rkS_c]; omega)) (zm_as (fun zM31 (ezM31 : zM31 = zup (zup zM30 135 (zM30 115 40).toNat (zM30 115 21)) 115 40 (zM30 115 40 + 1)) => zz_putI (pc := 222) xf_211_222 zis_115 (by decide +kernel) rfl (by decide +kernel) (zm_as (fun zM32 (ezM32 : zM32 = zup zM31 115 21 (zM30 115 21)) => have qzM32 : zM32 = rkS M 135 x 467 := (by rw [ezM32, ezM31, qzM30]; exact rkS_g (f := 21) (Or.inl rfl) rvwf_21 (by decide) (by decide)); zz_return (pc := 225) xf_211_225 rfl (by decide +kernel) (by decide +kernel) (by exact ⟨rfl, congrArg (fun z => (w, zheap z)) qzM32⟩)))))))))))))))))))))))))))))))))))))))))))))))))))))))))))))))))))))))))))))))))))))))))))))))))))))))))))))))))))))))))))))))))))))))))))))))))))))))))))))
theorem sp_passAll_135T {xs : List Int32} {d : Nat} {w : Bool} {M : zM} {x : Nat} (hx : x + 467 ≤ 3072) : xrun2 xs (d + 2) 211 [.ref 115, .ref 135, .int (Int32.ofInt (x : Int)), .int (Int32.ofInt (0))] (w, zheap M) = some (.inl none, (w, zheap (rtS M 135 x 467))) := by
  exact zrun_v (N := 123) (by decide) rfl (zz_aload_n (pc := 0) xf_211_0 (zmem 0 rfl) (zz_iload_n (pc := 1) xf_211_1 (zmem 3 rfl) (zz_putZ (pc := 2) xf_211_2 zis_115 (by decide +kernel) rfl (by decide +kernel) (by decide) (zm_as (fun zM1 (ezM1 : zM1 = zup M 115 42 (0)) => zz_aload_n (pc := 5) xf_211_5 (zmem 0 rfl) (zz_iload_n (pc := 6) xf_211_6 (zmem 2 rfl) (zz_putI (pc := 7) xf_211_7 zis_115 (by decide +kernel) rfl (by decide +kernel) (zm_as (fun zM2 (ezM2 : zM2 = zup zM1 115 40 (x : Int)) => have qzM2 : zM2 = rtS M 135 x 0 := (by rw [ezM2, ezM1]; exact rtS_0 (p := 135)); zz_aload_n (pc := 10) xf_211_10 (zmem 0 rfl) (zz_aload_n (pc := 11) xf_211_11 (zmem 0 rfl) (zz_getR (pc := 12) xf_211_12 zis_115 (by decide +kernel) rfl (zz_aload_n (pc := 15) xf_211_15 (zmem 1 rfl) (zz_call_0 (pc := 16) (cu := 0) (su := 0) (fun ls hr => zz_calV xf_211_16 rfl zis_115 ls hr) rfl (pks_116_135T (d := d) hx qzM2) (zm_as (fun zM3 (ezM3 : zM3 = rtS M 135 x 36) => zz_aload_n (pc := 19) xf_211_19 (zmem 0 rfl) (zz_aload_n (pc := 20) xf_211_20 (zmem 0 rfl) (zz_getR (pc := 21) xf_211_21 zis_115 (by decide +kernel) rfl (zz_aload_n (pc := 24) xf_211_24 (zmem 1 rfl) (zz_call_0 (pc := 25) (cu := 0) (su := 0) (fun ls hr => zz_calV xf_211_25 rfl zis_115 ls hr) rfl (pks_117_135T (d := d) hx ezM3) (zm_as (fun zM4 (ezM4 : zM4 = rtS M 135 x 72) => zz_aload_n (pc := 28) xf_211_28 (zmem 0 rfl) (zz_aload_n (pc := 29) xf_211_29 (zmem 0 rfl) (zz_getR (pc := 30) xf_211_30 zis_115 (by decide +kernel) rfl (zz_aload_n (pc := 33) xf_211_33 (zmem 1 rfl) (zz_call_0 (pc := 34) (cu := 0) (su := 0) (fun ls hr => zz_calV xf_211_34 rfl zis_115 ls hr) rfl (pks_118_135T (d := d) hx ezM4) (zm_as (fun zM5 (ezM5 : zM5 = rtS M 135 x 76) => zz_aload_n (pc := 37) xf_211_37 (zmem 0 rfl) (zz_aload_n (pc := 38) xf_211_38 (zmem 0 rfl) (zz_getR (pc := 39) xf_211_39 zis_115 (by decide +kernel) rfl (zz_aload_n (pc := 42) xf_211_42 (zmem 1 rfl) (zz_call_0 (pc := 43) (cu := 0) (su := 0) (fun ls hr => zz_calV xf_211_43 rfl zis_115 ls hr) rfl (pks_119_135T (d := d) hx ezM5) (zm_as (fun zM6 (ezM6 : zM6 = rtS M 135 x 92) => zz_aload_n (pc := 46) xf_211_46 (zmem 0 rfl) (zz_aload_n (pc := 47) xf_211_47 (zmem 0 rfl) (zz_getR (pc := 48) xf_211_48 zis_115 (by decide +kernel) rfl (zz_aload_n (pc := 51) xf_211_51 (zmem 1 rfl) (zz_call_0 (pc := 52) (cu := 0) (su := 0) (fun ls hr => zz_calV xf_211_52 rfl zis_115 ls hr) rfl (pks_120_135T (d := d) hx ezM6) (zm_as (fun zM7 (ezM7 : zM7 = rtS M 135 x 128) => zz_aload_n (pc := 55) xf_211_55 (zmem 0 rfl) (zz_aload_n (pc := 56) xf_211_56 (zmem 0 rfl) (zz_getR (pc := 57) xf_211_57 zis_115 (by decide +kernel) rfl (zz_aload_n (pc := 60) xf_211_60 (zmem 1 rfl) (zz_call_0 (pc := 61) (cu := 0) (su := 0) (fun ls hr => zz_calV xf_211_61 rfl zis_115 ls hr) rfl (pks_123_135T (d := d) hx ezM7) (zm_as (fun zM8 (ezM8 : zM8 = rtS M 135 x 136) => zz_aload_n (pc := 64) xf_211_64 (zmem 0 rfl) (zz_aload_n (pc := 65) xf_211_65 (zmem 0 rfl) (zz_getR (pc := 66) xf_211_66 zis_115 (by decide +kernel) rfl (zz_aload_n (pc := 69) xf_211_69 (zmem 1 rfl) (zz_call_0 (pc := 70) (cu := 0) (su := 0) (fun ls hr => zz_calV xf_211_70 rfl zis_115 ls hr) rfl (pks_124_135T (d := d) hx ezM8) (zm_as (fun zM9 (ezM9 : zM9 = rtS M 135 x 168) => zz_aload_n (pc := 73) xf_211_73 (zmem 0 rfl) (zz_aload_n (pc := 74) xf_211_74 (zmem 0 rfl) (zz_getR (pc := 75) xf_211_75 zis_115 (by decide +kernel) rfl (zz_aload_n (pc := 78) xf_211_78 (zmem 1 rfl) (zz_call_0 (pc := 79) (cu := 0) (su := 0) (fun ls hr => zz_calV xf_211_79 rfl zis_115 ls hr) rfl (pks_125_135T (d := d) hx ezM9) (zm_as (fun zM10 (ezM10 : zM10 = rtS M 135 x 456) => zz_aload_n (pc := 82) xf_211_82 (zmem 0 rfl) (zz_aload_n (pc := 83) xf_211_83 (zmem 0 rfl) (zz_aload_n (pc := 84) xf_211_84 (zmem 0 rfl) (zz_getI (pc := 85) xf_211_85 zis_115 (by decide +kernel) rfl (zz_aload_n (pc := 88) xf_211_88 (zmem 1 rfl) (zz_call_v (pc := 89) (cu := 0) (su := 0) (fun ls hr => zz_calV xf_211_89 rfl zis_115 ls hr) rfl (sp_pass_135T (d := d) (by rw [ezM10]; exact rtS_k) (by rw [ezM10, rtS_c]; omega)) (zm_as (fun zM11 (ezM11 : zM11 = zup (zup zM10 135 (zM10 115 40).toNat (zM10 135 (zM10 115 40).toNat)) 115 40 (zM10 115 40 + 1)) => zz_putI (pc := 92) xf_211_92 zis_115 (by decide +kernel) rfl (by decide +kernel) (zm_as (fun zM12 (ezM12 : zM12 = zup zM11 115 6 (zM10 135 (zM10 115 40).toNat)) => have qzM12 : zM12 = rtS M 135 x 457 := (by rw [ezM12, ezM11, ezM10]; exact rtS_f (f := 6) (Or.inl rfl) (by decide) (by decide) (by decide) rixf_6); zz_aload_n (pc := 95) xf_211_95 (zmem 0 rfl) (zz_aload_n (pc := 96) xf_211_96 (zmem 0 rfl) (zz_aload_n (pc := 97) xf_211_97 (zmem 0 rfl) (zz_getI (pc := 98) xf_211_98 zis_115 (by decide +kernel) rfl (zz_aload_n (pc := 101) xf_211_101 (zmem 1 rfl) (zz_call_v (pc := 102) (cu := 0) (su := 0) (fun ls hr => zz_calV xf_211_102 rfl zis_115 ls hr) rfl (sp_pass_135T (d := d) (by rw [qzM12]; exact rtS_k) (by rw [qzM12, rtS_c]; omega)) (zm_as (fun zM13 (ezM13 : zM13 = zup (zup zM12 135 (zM12 115 40).toNat (zM12 135 (zM12 115 40).toNat)) 115 40 (zM12 115 40 + 1)) => zz_putI (pc := 105) xf_211_105 zis_115 (by decide +kernel) rfl (by decide +kernel) (zm_as (fun zM14 (ezM14 : zM14 = zup zM13 115 7 (zM12 135 (zM12 115 40).toNat)) => have qzM14 : zM14 = rtS M 135 x 458 := (by rw [ezM14, ezM13, qzM12]; exact rtS_f (f := 7) (Or.inl rfl) (by decide) (by decide) (by decide) rixf_7); zz_aload_n (pc := 108) xf_211_108 (zmem 0 rfl) (zz_aload_n (pc := 109) xf_211_109 (zmem 0 rfl) (zz_aload_n (pc := 110) xf_211_110 (zmem 0 rfl) (zz_getI (pc := 111) xf_211_111 zis_115 (by decide +kernel) rfl (zz_aload_n (pc := 114) xf_211_114 (zmem 1 rfl) (zz_call_v (pc := 115) (cu := 0) (su := 0) (fun ls hr => zz_calV xf_211_115 rfl zis_115 ls hr) rfl (sp_pass_135T (d := d) (by rw [qzM14]; exact rtS_k) (by rw [qzM14, rtS_c]; omega)) (zm_as (fun zM15 (ezM15 : zM15 = zup (zup zM14 135 (zM14 115 40).toNat (zM14 135 (zM14 115 40).toNat)) 115 40 (zM14 115 40 + 1)) => zz_putI (pc := 118) xf_211_118 zis_115 (by decide +kernel) rfl (by decide +kernel) (zm_as (fun zM16 (ezM16 : zM16 = zup zM15 115 8 (zM14 135 (zM14 115 40).toNat)) => have qzM16 : zM16 = rtS M 135 x 459 := (by rw [ezM16, ezM15, qzM14]; exact rtS_f (f := 8) (Or.inl rfl) (by decide) (by decide) (by decide) rixf_8); zz_aload_n (pc := 121) xf_211_121 (zmem 0 rfl) (zz_aload_n (pc := 122) xf_211_122 (zmem 0 rfl) (zz_aload_n (pc := 123) xf_211_123 (zmem 0 rfl) (zz_getI (pc := 124) xf_211_124 zis_115 (by decide +kernel) rfl (zz_aload_n (pc := 127) xf_211_127 (zmem 1 rfl) (zz_call_v (pc := 128) (cu := 0) (su := 0) (fun ls hr => zz_calV xf_211_128 rfl zis_115 ls hr) rfl (sp_pass_135T (d := d) (by rw [qzM16]; exact rtS_k) (by rw [qzM16, rtS_c]; omega)) (zm_as (fun zM17 (ezM17 : zM17 = zup (zup zM16 135 (zM16 115 40).toNat (zM16 135 (zM16 115 40).toNat)) 115 40 (zM16 115 40 + 1)) => zz_putI (pc := 131) xf_211_131 zis_115 (by decide +kernel) rfl (by decide +kernel) (zm_as (fun zM18 (ezM18 : zM18 = zup zM17 115 9 (zM16 135 (zM16 115 40).toNat)) => have qzM18 : zM18 = rtS M 135 x 460 := (by rw [ezM18, ezM17, qzM16]; exact rtS_f (f := 9) (Or.inl rfl) (by decide) (by decide) (by decide) rixf_9); zz_aload_n (pc := 134) xf_211_134 (zmem 0 rfl) (zz_aload_n (pc := 135) xf_211_135 (zmem 0 rfl) (zz_aload_n (pc := 136) xf_211_136 (zmem 0 rfl) (zz_getI (pc := 137) xf_211_137 zis_115 (by decide +kernel) rfl (zz_aload_n (pc := 140) xf_211_140 (zmem 1 rfl) (zz_call_v (pc := 141) (cu := 0) (su := 0) (fun ls hr => zz_calV xf_211_141 rfl zis_115 ls hr) rfl (sp_pass_135T (d := d) (by rw [qzM18]; exact rtS_k) (by rw [qzM18, rtS_c]; omega)) (zm_as (fun zM19 (ezM19 : zM19 = zup (zup zM18 135 (zM18 115 40).toNat (zM18 135 (zM18 115 40).toNat)) 115 40 (zM18 115 40 + 1)) => zz_putI (pc := 144) xf_211_144 zis_115 (by decide +kernel) rfl (by decide +kernel) (zm_as (fun zM20 (ezM20 : zM20 = zup zM19 115 10 (zM18 135 (zM18 115 40).toNat)) => have qzM20 : zM20 = rtS M 135 x 461 := (by rw [ezM20, ezM19, qzM18]; exact rtS_f (f := 10) (Or.inl rfl) (by decide) (by decide) (by decide) rixf_10); zz_aload_n (pc := 147) xf_211_147 (zmem 0 rfl) (zz_aload_n (pc := 148) xf_211_148 (zmem 0 rfl) (zz_aload_n (pc := 149) xf_211_149 (zmem 0 rfl) (zz_getI (pc := 150) xf_211_150 zis_115 (by decide +kernel) rfl (zz_aload_n (pc := 153) xf_211_153 (zmem 1 rfl) (zz_call_v (pc := 154) (cu := 0) (su := 0) (fun ls hr => zz_calV xf_211_154 rfl zis_115 ls hr) rfl (sp_pass_135T (d := d) (by rw [qzM20]; exact rtS_k) (by rw [qzM20, rtS_c]; omega)) (zm_as (fun zM21 (ezM21 : zM21 = zup (zup zM20 135 (zM20 115 40).toNat (zM20 135 (zM20 115 40).toNat)) 115 40 (zM20 115 40 + 1)) => zz_putI (pc := 157) xf_211_157 zis_115 (by decide +kernel) rfl (by decide +kernel) (zm_as (fun zM22 (ezM22 : zM22 = zup zM21 115 11 (zM20 135 (zM20 115 40).toNat)) => have qzM22 : zM22 = rtS M 135 x 462 := (by rw [ezM22, ezM21, qzM20]; exact rtS_f (f := 11) (Or.inl rfl) (by decide) (by decide) (by decide) rixf_11); zz_aload_n (pc := 160) xf_211_160 (zmem 0 rfl) (zz_aload_n (pc := 161) xf_211_161 (zmem 0 rfl) (zz_aload_n (pc := 162) xf_211_162 (zmem 0 rfl) (zz_getI (pc := 163) xf_211_163 zis_115 (by decide +kernel) rfl (zz_aload_n (pc := 166) xf_211_166 (zmem 1 rfl) (zz_call_v (pc := 167) (cu := 0) (su := 0) (fun ls hr => zz_calV xf_211_167 rfl zis_115 ls hr) rfl (sp_pass_135T (d := d) (by rw [qzM22]; exact rtS_k) (by rw [qzM22, rtS_c]; omega)) (zm_as (fun zM23 (ezM23 : zM23 = zup (zup zM22 135 (zM22 115 40).toNat (zM22 135 (zM22 115 40).toNat)) 115 40 (zM22 115 40 + 1)) => zz_putI (pc := 170) xf_211_170 zis_115 (by decide +kernel) rfl (by decide +kernel) (zm_as (fun zM24 (ezM24 : zM24 = zup zM23 115 12 (zM22 135 (zM22 115 40).toNat)) => have qzM24 : zM24 = rtS M 135 x 463 := (by rw [ezM24, ezM23, qzM22]; exact rtS_f (f := 12) (Or.inl rfl) (by decide) (by decide) (by decide) rixf_12); zz_aload_n (pc := 173) xf_211_173 (zmem 0 rfl) (zz_aload_n (pc := 174) xf_211_174 (zmem 0 rfl) (zz_aload_n (pc := 175) xf_211_175 (zmem 0 rfl) (zz_getI (pc := 176) xf_211_176 zis_115 (by decide +kernel) rfl (zz_aload_n (pc := 179) xf_211_179 (zmem 1 rfl) (zz_call_v (pc := 180) (cu := 0) (su := 0) (fun ls hr => zz_calV xf_211_180 rfl zis_115 ls hr) rfl (sp_pass_135T (d := d) (by rw [qzM24]; exact rtS_k) (by rw [qzM24, rtS_c]; omega)) (zm_as (fun zM25 (ezM25 : zM25 = zup (zup zM24 135 (zM24 115 40).toNat (zM24 135 (zM24 115 40).toNat)) 115 40 (zM24 115 40 + 1)) => zz_putI (pc := 183) xf_211_183 zis_115 (by decide +kernel) rfl (by decide +kernel) (zm_as (fun zM26 (ezM26 : zM26 = zup zM25 115 13 (zM24 135 (zM24 115 40).toNat)) => have qzM26 : zM26 = rtS M 135 x 464 := (by rw [ezM26, ezM25, qzM24]; exact rtS_f (f := 13) (Or.inl rfl) (by decide) (by decide) (by decide) rixf_13); zz_aload_n (pc := 186) xf_211_186 (zmem 0 rfl) (zz_aload_n (pc := 187) xf_211_187 (zmem 0 rfl) (zz_aload_n (pc := 188) xf_211_188 (zmem 0 rfl) (zz_getI (pc := 189) xf_211_189 zis_115 (by decide +kernel) rfl (zz_aload_n (pc := 192) xf_211_192 (zmem 1 rfl) (zz_call_v (pc := 193) (cu := 0) (su := 0) (fun ls hr => zz_calV xf_211_193 rfl zis_115 ls hr) rfl (sp_pass_135T (d := d) (by rw [qzM26]; exact rtS_k) (by rw [qzM26, rtS_c]; omega)) (zm_as (fun zM27 (ezM27 : zM27 = zup (zup zM26 135 (zM26 115 40).toNat (zM26 135 (zM26 115 40).toNat)) 115 40 (zM26 115 40 + 1)) => zz_putI (pc := 196) xf_211_196 zis_115 (by decide +kernel) rfl (by decide +kernel) (zm_as (fun zM28 (ezM28 : zM28 = zup zM27 115 19 (zM26 135 (zM26 115 40).toNat)) => have qzM28 : zM28 = rtS M 135 x 465 := (by rw [ezM28, ezM27, qzM26]; exact rtS_f (f := 19) (Or.inl rfl) (by decide) (by decide) (by decide) rixf_19); zz_aload_n (pc := 199) xf_211_199 (zmem 0 rfl) (zz_aload_n (pc := 200) xf_211_200 (zmem 0 rfl) (zz_aload_n (pc := 201) xf_211_201 (zmem 0 rfl) (zz_getI (pc := 202) xf_211_202 zis_115 (by decide +kernel) rfl (zz_aload_n (pc := 205) xf_211_205 (zmem 1 rfl) (zz_call_v (pc := 206) (cu := 0) (su := 0) (fun ls hr => zz_calV xf_211_206 rfl zis_115 ls hr) rfl (sp_pass_135T (d := d) (by rw [qzM28]; exact rtS_k) (by rw [qzM28, rtS_c]; omega)) (zm_as (fun zM29 (ezM29 : zM29 = zup (zup zM28 135 (zM28 115 40).toNat (zM28 135 (zM28 115 40).toNat)) 115 40 (zM28 115 40 + 1)) => zz_putI (pc := 209) xf_211_209 zis_115 (by decide +kernel) rfl (by decide +kernel) (zm_as (fun zM30 (ezM30 : zM30 = zup zM29 115 20 (zM28 135 (zM28 115 40).toNat)) => have qzM30 : zM30 = rtS M 135 x 466 := (by rw [ezM30, ezM29, qzM28]; exact rtS_f (f := 20) (Or.inl rfl) (by decide) (by decide) (by decide) rixf_20); zz_aload_n (pc := 212) xf_211_212 (zmem 0 rfl) (zz_aload_n (pc := 213) xf_211_213 (zmem 0 rfl) (zz_aload_n (pc := 214) xf_211_214 (zmem 0 rfl) (zz_getI (pc := 215) xf_211_215 zis_115 (by decide +kernel) rfl (zz_aload_n (pc := 218) xf_211_218 (zmem 1 rfl) (zz_call_v (pc := 219) (cu := 0) (su := 0) (fun ls hr => zz_calV xf_211_219 rfl zis_115 ls hr) rfl (sp_pass_135T (d := d) (by rw [qzM30]; exact rtS_k) (by rw [qzM30, rtS_c]; omega)) (zm_as (fun zM31 (ezM31 : zM31 = zup (zup zM30 135 (zM30 115 40).toNat (zM30 135 (zM30 115 40).toNat)) 115 40 (zM30 115 40 + 1)) => zz_putI (pc := 222) xf_211_222 zis_115 (by decide +kernel) rfl (by decide +kernel) (zm_as (fun zM32 (ezM32 : zM32 = zup zM31 115 21 (zM30 135 (zM30 115 40).toNat)) => have qzM32 : zM32 = rtS M 135 x 467 := (by rw [ezM32, ezM31, qzM30]; exact rtS_f (f := 21) (Or.inl rfl) (by decide) (by decide) (by decide) rixf_21); zz_return (pc := 225) xf_211_225 rfl (by decide +kernel) (by decide +kernel) (by exact ⟨rfl, congrArg (fun z => (w, zheap z)) qzM32⟩)))))))))))))))))))))))))))))))))))))))))))))))))))))))))))))))))))))))))))))))))))))))))))))))))))))))))))))))))))))))))))))))))))))))))))))))))))))))))))))
theorem sp_passAll_136K {xs : List Int32} {d : Nat} {w : Bool} {M : zM} {x : Nat} (hx : x + 467 ≤ 512) : xrun2 xs (d + 2) 211 [.ref 115, .ref 136, .int (Int32.ofInt (x : Int)), .int (Int32.ofInt (1))] (w, zheap M) = some (.inl none, (w, zheap (rkS M 136 x 467))) := by
  exact zrun_v (N := 123) (by decide) rfl (zz_aload_n (pc := 0) xf_211_0 (zmem 0 rfl) (zz_iload_n (pc := 1) xf_211_1 (zmem 3 rfl) (zz_putZ (pc := 2) xf_211_2 zis_115 (by decide +kernel) rfl (by decide +kernel) (by decide) (zm_as (fun zM1 (ezM1 : zM1 = zup M 115 42 (1)) => zz_aload_n (pc := 5) xf_211_5 (zmem 0 rfl) (zz_iload_n (pc := 6) xf_211_6 (zmem 2 rfl) (zz_putI (pc := 7) xf_211_7 zis_115 (by decide +kernel) rfl (by decide +kernel) (zm_as (fun zM2 (ezM2 : zM2 = zup zM1 115 40 (x : Int)) => have qzM2 : zM2 = rkS M 136 x 0 := (by rw [ezM2, ezM1]; exact rkS_0 (p := 136)); zz_aload_n (pc := 10) xf_211_10 (zmem 0 rfl) (zz_aload_n (pc := 11) xf_211_11 (zmem 0 rfl) (zz_getR (pc := 12) xf_211_12 zis_115 (by decide +kernel) rfl (zz_aload_n (pc := 15) xf_211_15 (zmem 1 rfl) (zz_call_0 (pc := 16) (cu := 0) (su := 0) (fun ls hr => zz_calV xf_211_16 rfl zis_115 ls hr) rfl (pks_116_136K (d := d) hx qzM2) (zm_as (fun zM3 (ezM3 : zM3 = rkS M 136 x 36) => zz_aload_n (pc := 19) xf_211_19 (zmem 0 rfl) (zz_aload_n (pc := 20) xf_211_20 (zmem 0 rfl) (zz_getR (pc := 21) xf_211_21 zis_115 (by decide +kernel) rfl (zz_aload_n (pc := 24) xf_211_24 (zmem 1 rfl) (zz_call_0 (pc := 25) (cu := 0) (su := 0) (fun ls hr => zz_calV xf_211_25 rfl zis_115 ls hr) rfl (pks_117_136K (d := d) hx ezM3) (zm_as (fun zM4 (ezM4 : zM4 = rkS M 136 x 72) => zz_aload_n (pc := 28) xf_211_28 (zmem 0 rfl) (zz_aload_n (pc := 29) xf_211_29 (zmem 0 rfl) (zz_getR (pc := 30) xf_211_30 zis_115 (by decide +kernel) rfl (zz_aload_n (pc := 33) xf_211_33 (zmem 1 rfl) (zz_call_0 (pc := 34) (cu := 0) (su := 0) (fun ls hr => zz_calV xf_211_34 rfl zis_115 ls hr) rfl (pks_118_136K (d := d) hx ezM4) (zm_as (fun zM5 (ezM5 : zM5 = rkS M 136 x 76) => zz_aload_n (pc := 37) xf_211_37 (zmem 0 rfl) (zz_aload_n (pc := 38) xf_211_38 (zmem 0 rfl) (zz_getR (pc := 39) xf_211_39 zis_115 (by decide +kernel) rfl (zz_aload_n (pc := 42) xf_211_42 (zmem 1 rfl) (zz_call_0 (pc := 43) (cu := 0) (su := 0) (fun ls hr => zz_calV xf_211_43 rfl zis_115 ls hr) rfl (pks_119_136K (d := d) hx ezM5) (zm_as (fun zM6 (ezM6 : zM6 = rkS M 136 x 92) => zz_aload_n (pc := 46) xf_211_46 (zmem 0 rfl) (zz_aload_n (pc := 47) xf_211_47 (zmem 0 rfl) (zz_getR (pc := 48) xf_211_48 zis_115 (by decide +kernel) rfl (zz_aload_n (pc := 51) xf_211_51 (zmem 1 rfl) (zz_call_0 (pc := 52) (cu := 0) (su := 0) (fun ls hr => zz_calV xf_211_52 rfl zis_115 ls hr) rfl (pks_120_136K (d := d) hx ezM6) (zm_as (fun zM7 (ezM7 : zM7 = rkS M 136 x 128) => zz_aload_n (pc := 55) xf_211_55 (zmem 0 rfl) (zz_aload_n (pc := 56) xf_211_56 (zmem 0 rfl) (zz_getR (pc := 57) xf_211_57 zis_115 (by decide +kernel) rfl (zz_aload_n (pc := 60) xf_211_60 (zmem 1 rfl) (zz_call_0 (pc := 61) (cu := 0) (su := 0) (fun ls hr => zz_calV xf_211_61 rfl zis_115 ls hr) rfl (pks_123_136K (d := d) hx ezM7) (zm_as (fun zM8 (ezM8 : zM8 = rkS M 136 x 136) => zz_aload_n (pc := 64) xf_211_64 (zmem 0 rfl) (zz_aload_n (pc := 65) xf_211_65 (zmem 0 rfl) (zz_getR (pc := 66) xf_211_66 zis_115 (by decide +kernel) rfl (zz_aload_n (pc := 69) xf_211_69 (zmem 1 rfl) (zz_call_0 (pc := 70) (cu := 0) (su := 0) (fun ls hr => zz_calV xf_211_70 rfl zis_115 ls hr) rfl (pks_124_136K (d := d) hx ezM8) (zm_as (fun zM9 (ezM9 : zM9 = rkS M 136 x 168) => zz_aload_n (pc := 73) xf_211_73 (zmem 0 rfl) (zz_aload_n (pc := 74) xf_211_74 (zmem 0 rfl) (zz_getR (pc := 75) xf_211_75 zis_115 (by decide +kernel) rfl (zz_aload_n (pc := 78) xf_211_78 (zmem 1 rfl) (zz_call_0 (pc := 79) (cu := 0) (su := 0) (fun ls hr => zz_calV xf_211_79 rfl zis_115 ls hr) rfl (pks_125_136K (d := d) hx ezM9) (zm_as (fun zM10 (ezM10 : zM10 = rkS M 136 x 456) => zz_aload_n (pc := 82) xf_211_82 (zmem 0 rfl) (zz_aload_n (pc := 83) xf_211_83 (zmem 0 rfl) (zz_aload_n (pc := 84) xf_211_84 (zmem 0 rfl) (zz_getI (pc := 85) xf_211_85 zis_115 (by decide +kernel) rfl (zz_aload_n (pc := 88) xf_211_88 (zmem 1 rfl) (zz_call_v (pc := 89) (cu := 0) (su := 0) (fun ls hr => zz_calV xf_211_89 rfl zis_115 ls hr) rfl (sp_pass_136K (d := d) (by rw [ezM10]; exact rkS_k) (by rw [ezM10, rkS_c]; omega)) (zm_as (fun zM11 (ezM11 : zM11 = zup (zup zM10 136 (zM10 115 40).toNat (zM10 115 6)) 115 40 (zM10 115 40 + 1)) => zz_putI (pc := 92) xf_211_92 zis_115 (by decide +kernel) rfl (by decide +kernel) (zm_as (fun zM12 (ezM12 : zM12 = zup zM11 115 6 (zM10 115 6)) => have qzM12 : zM12 = rkS M 136 x 457 := (by rw [ezM12, ezM11, ezM10]; exact rkS_g (f := 6) (Or.inr rfl) rvwf_6 (by decide) (by decide)); zz_aload_n (pc := 95) xf_211_95 (zmem 0 rfl) (zz_aload_n (pc := 96) xf_211_96 (zmem 0 rfl) (zz_aload_n (pc := 97) xf_211_97 (zmem 0 rfl) (zz_getI (pc := 98) xf_211_98 zis_115 (by decide +kernel) rfl (zz_aload_n (pc := 101) xf_211_101 (zmem 1 rfl) (zz_call_v (pc := 102) (cu := 0) (su := 0) (fun ls hr => zz_calV xf_211_102 rfl zis_115 ls hr) rfl (sp_pass_136K (d := d) (by rw [qzM12]; exact rkS_k) (by rw [qzM12, rkS_c]; omega)) (zm_as (fun zM13 (ezM13 : zM13 = zup (zup zM12 136 (zM12 115 40).toNat (zM12 115 7)) 115 40 (zM12 115 40 + 1)) => zz_putI (pc := 105) xf_211_105 zis_115 (by decide +kernel) rfl (by decide +kernel) (zm_as (fun zM14 (ezM14 : zM14 = zup zM13 115 7 (zM12 115 7)) => have qzM14 : zM14 = rkS M 136 x 458 := (by rw [ezM14, ezM13, qzM12]; exact rkS_g (f := 7) (Or.inr rfl) rvwf_7 (by decide) (by decide)); zz_aload_n (pc := 108) xf_211_108 (zmem 0 rfl) (zz_aload_n (pc := 109) xf_211_109 (zmem 0 rfl) (zz_aload_n (pc := 110) xf_211_110 (zmem 0 rfl) (zz_getI (pc := 111) xf_211_111 zis_115 (by decide +kernel) rfl (zz_aload_n (pc := 114) xf_211_114 (zmem 1 rfl) (zz_call_v (pc := 115) (cu := 0) (su := 0) (fun ls hr => zz_calV xf_211_115 rfl zis_115 ls hr) rfl (sp_pass_136K (d := d) (by rw [qzM14]; exact rkS_k) (by rw [qzM14, rkS_c]; omega)) (zm_as (fun zM15 (ezM15 : zM15 = zup (zup zM14 136 (zM14 115 40).toNat (zM14 115 8)) 115 40 (zM14 115 40 + 1)) => zz_putI (pc := 118) xf_211_118 zis_115 (by decide +kernel) rfl (by decide +kernel) (zm_as (fun zM16 (ezM16 : zM16 = zup zM15 115 8 (zM14 115 8)) => have qzM16 : zM16 = rkS M 136 x 459 := (by rw [ezM16, ezM15, qzM14]; exact rkS_g (f := 8) (Or.inr rfl) rvwf_8 (by decide) (by decide)); zz_aload_n (pc := 121) xf_211_121 (zmem 0 rfl) (zz_aload_n (pc := 122) xf_211_122 (zmem 0 rfl) (zz_aload_n (pc := 123) xf_211_123 (zmem 0 rfl) (zz_getI (pc := 124) xf_211_124 zis_115 (by decide +kernel) rfl (zz_aload_n (pc := 127) xf_211_127 (zmem 1 rfl) (zz_call_v (pc := 128) (cu := 0) (su := 0) (fun ls hr => zz_calV xf_211_128 rfl zis_115 ls hr) rfl (sp_pass_136K (d := d) (by rw [qzM16]; exact rkS_k) (by rw [qzM16, rkS_c]; omega)) (zm_as (fun zM17 (ezM17 : zM17 = zup (zup zM16 136 (zM16 115 40).toNat (zM16 115 9)) 115 40 (zM16 115 40 + 1)) => zz_putI (pc := 131) xf_211_131 zis_115 (by decide +kernel) rfl (by decide +kernel) (zm_as (fun zM18 (ezM18 : zM18 = zup zM17 115 9 (zM16 115 9)) => have qzM18 : zM18 = rkS M 136 x 460 := (by rw [ezM18, ezM17, qzM16]; exact rkS_g (f := 9) (Or.inr rfl) rvwf_9 (by decide) (by decide)); zz_aload_n (pc := 134) xf_211_134 (zmem 0 rfl) (zz_aload_n (pc := 135) xf_211_135 (zmem 0 rfl) (zz_aload_n (pc := 136) xf_211_136 (zmem 0 rfl) (zz_getI (pc := 137) xf_211_137 zis_115 (by decide +kernel) rfl (zz_aload_n (pc := 140) xf_211_140 (zmem 1 rfl) (zz_call_v (pc := 141) (cu := 0) (su := 0) (fun ls hr => zz_calV xf_211_141 rfl zis_115 ls hr) rfl (sp_pass_136K (d := d) (by rw [qzM18]; exact rkS_k) (by rw [qzM18, rkS_c]; omega)) (zm_as (fun zM19 (ezM19 : zM19 = zup (zup zM18 136 (zM18 115 40).toNat (zM18 115 10)) 115 40 (zM18 115 40 + 1)) => zz_putI (pc := 144) xf_211_144 zis_115 (by decide +kernel) rfl (by decide +kernel) (zm_as (fun zM20 (ezM20 : zM20 = zup zM19 115 10 (zM18 115 10)) => have qzM20 : zM20 = rkS M 136 x 461 := (by rw [ezM20, ezM19, qzM18]; exact rkS_g (f := 10) (Or.inr rfl) rvwf_10 (by decide) (by decide)); zz_aload_n (pc := 147) xf_211_147 (zmem 0 rfl) (zz_aload_n (pc := 148) xf_211_148 (zmem 0 rfl) (zz_aload_n (pc := 149) xf_211_149 (zmem 0 rfl) (zz_getI (pc := 150) xf_211_150 zis_115 (by decide +kernel) rfl (zz_aload_n (pc := 153) xf_211_153 (zmem 1 rfl) (zz_call_v (pc := 154) (cu := 0) (su := 0) (fun ls hr => zz_calV xf_211_154 rfl zis_115 ls hr) rfl (sp_pass_136K (d := d) (by rw [qzM20]; exact rkS_k) (by rw [qzM20, rkS_c]; omega)) (zm_as (fun zM21 (ezM21 : zM21 = zup (zup zM20 136 (zM20 115 40).toNat (zM20 115 11)) 115 40 (zM20 115 40 + 1)) => zz_putI (pc := 157) xf_211_157 zis_115 (by decide +kernel) rfl (by decide +kernel) (zm_as (fun zM22 (ezM22 : zM22 = zup zM21 115 11 (zM20 115 11)) => have qzM22 : zM22 = rkS M 136 x 462 := (by rw [ezM22, ezM21, qzM20]; exact rkS_g (f := 11) (Or.inr rfl) rvwf_11 (by decide) (by decide)); zz_aload_n (pc := 160) xf_211_160 (zmem 0 rfl) (zz_aload_n (pc := 161) xf_211_161 (zmem 0 rfl) (zz_aload_n (pc := 162) xf_211_162 (zmem 0 rfl) (zz_getI (pc := 163) xf_211_163 zis_115 (by decide +kernel) rfl (zz_aload_n (pc := 166) xf_211_166 (zmem 1 rfl) (zz_call_v (pc := 167) (cu := 0) (su := 0) (fun ls hr => zz_calV xf_211_167 rfl zis_115 ls hr) rfl (sp_pass_136K (d := d) (by rw [qzM22]; exact rkS_k) (by rw [qzM22, rkS_c]; omega)) (zm_as (fun zM23 (ezM23 : zM23 = zup (zup zM22 136 (zM22 115 40).toNat (zM22 115 12)) 115 40 (zM22 115 40 + 1)) => zz_putI (pc := 170) xf_211_170 zis_115 (by decide +kernel) rfl (by decide +kernel) (zm_as (fun zM24 (ezM24 : zM24 = zup zM23 115 12 (zM22 115 12)) => have qzM24 : zM24 = rkS M 136 x 463 := (by rw [ezM24, ezM23, qzM22]; exact rkS_g (f := 12) (Or.inr rfl) rvwf_12 (by decide) (by decide)); zz_aload_n (pc := 173) xf_211_173 (zmem 0 rfl) (zz_aload_n (pc := 174) xf_211_174 (zmem 0 rfl) (zz_aload_n (pc := 175) xf_211_175 (zmem 0 rfl) (zz_getI (pc := 176) xf_211_176 zis_115 (by decide +kernel) rfl (zz_aload_n (pc := 179) xf_211_179 (zmem 1 rfl) (zz_call_v (pc := 180) (cu := 0) (su := 0) (fun ls hr => zz_calV xf_211_180 rfl zis_115 ls hr) rfl (sp_pass_136K (d := d) (by rw [qzM24]; exact rkS_k) (by rw [qzM24, rkS_c]; omega)) (zm_as (fun zM25 (ezM25 : zM25 = zup (zup zM24 136 (zM24 115 40).toNat (zM24 115 13)) 115 40 (zM24 115 40 + 1)) => zz_putI (pc := 183) xf_211_183 zis_115 (by decide +kernel) rfl (by decide +kernel) (zm_as (fun zM26 (ezM26 : zM26 = zup zM25 115 13 (zM24 115 13)) => have qzM26 : zM26 = rkS M 136 x 464 := (by rw [ezM26, ezM25, qzM24]; exact rkS_g (f := 13) (Or.inr rfl) rvwf_13 (by decide) (by decide)); zz_aload_n (pc := 186) xf_211_186 (zmem 0 rfl) (zz_aload_n (pc := 187) xf_211_187 (zmem 0 rfl) (zz_aload_n (pc := 188) xf_211_188 (zmem 0 rfl) (zz_getI (pc := 189) xf_211_189 zis_115 (by decide +kernel) rfl (zz_aload_n (pc := 192) xf_211_192 (zmem 1 rfl) (zz_call_v (pc := 193) (cu := 0) (su := 0) (fun ls hr => zz_calV xf_211_193 rfl zis_115 ls hr) rfl (sp_pass_136K (d := d) (by rw [qzM26]; exact rkS_k) (by rw [qzM26, rkS_c]; omega)) (zm_as (fun zM27 (ezM27 : zM27 = zup (zup zM26 136 (zM26 115 40).toNat (zM26 115 19)) 115 40 (zM26 115 40 + 1)) => zz_putI (pc := 196) xf_211_196 zis_115 (by decide +kernel) rfl (by decide +kernel) (zm_as (fun zM28 (ezM28 : zM28 = zup zM27 115 19 (zM26 115 19)) => have qzM28 : zM28 = rkS M 136 x 465 := (by rw [ezM28, ezM27, qzM26]; exact rkS_g (f := 19) (Or.inr rfl) rvwf_19 (by decide) (by decide)); zz_aload_n (pc := 199) xf_211_199 (zmem 0 rfl) (zz_aload_n (pc := 200) xf_211_200 (zmem 0 rfl) (zz_aload_n (pc := 201) xf_211_201 (zmem 0 rfl) (zz_getI (pc := 202) xf_211_202 zis_115 (by decide +kernel) rfl (zz_aload_n (pc := 205) xf_211_205 (zmem 1 rfl) (zz_call_v (pc := 206) (cu := 0) (su := 0) (fun ls hr => zz_calV xf_211_206 rfl zis_115 ls hr) rfl (sp_pass_136K (d := d) (by rw [qzM28]; exact rkS_k) (by rw [qzM28, rkS_c]; omega)) (zm_as (fun zM29 (ezM29 : zM29 = zup (zup zM28 136 (zM28 115 40).toNat (zM28 115 20)) 115 40 (zM28 115 40 + 1)) => zz_putI (pc := 209) xf_211_209 zis_115 (by decide +kernel) rfl (by decide +kernel) (zm_as (fun zM30 (ezM30 : zM30 = zup zM29 115 20 (zM28 115 20)) => have qzM30 : zM30 = rkS M 136 x 466 := (by rw [ezM30, ezM29, qzM28]; exact rkS_g (f := 20) (Or.inr rfl) rvwf_20 (by decide) (by decide)); zz_aload_n (pc := 212) xf_211_212 (zmem 0 rfl) (zz_aload_n (pc := 213) xf_211_213 (zmem 0 rfl) (zz_aload_n (pc := 214) xf_211_214 (zmem 0 rfl) (zz_getI (pc := 215) xf_211_215 zis_115 (by decide +kernel) rfl (zz_aload_n (pc := 218) xf_211_218 (zmem 1 rfl) (zz_call_v (pc := 219) (cu := 0) (su := 0) (fun ls hr => zz_calV xf_211_219 rfl zis_115 ls hr) rfl (sp_pass_136K (d := d) (by rw [qzM30]; exact rkS_k) (by rw [qzM30, rkS_c]; omega)) (zm_as (fun zM31 (ezM31 : zM31 = zup (zup zM30 136 (zM30 115 40).toNat (zM30 115 21)) 115 40 (zM30 115 40 + 1)) => zz_putI (pc := 222) xf_211_222 zis_115 (by decide +kernel) rfl (by decide +kernel) (zm_as (fun zM32 (ezM32 : zM32 = zup zM31 115 21 (zM30 115 21)) => have qzM32 : zM32 = rkS M 136 x 467 := (by rw [ezM32, ezM31, qzM30]; exact rkS_g (f := 21) (Or.inr rfl) rvwf_21 (by decide) (by decide)); zz_return (pc := 225) xf_211_225 rfl (by decide +kernel) (by decide +kernel) (by exact ⟨rfl, congrArg (fun z => (w, zheap z)) qzM32⟩)))))))))))))))))))))))))))))))))))))))))))))))))))))))))))))))))))))))))))))))))))))))))))))))))))))))))))))))))))))))))))))))))))))))))))))))))))))))))))))
theorem sp_passAll_136T {xs : List Int32} {d : Nat} {w : Bool} {M : zM} {x : Nat} (hx : x + 467 ≤ 512) : xrun2 xs (d + 2) 211 [.ref 115, .ref 136, .int (Int32.ofInt (x : Int)), .int (Int32.ofInt (0))] (w, zheap M) = some (.inl none, (w, zheap (rtS M 136 x 467))) := by
  exact zrun_v (N := 123) (by decide) rfl (zz_aload_n (pc := 0) xf_211_0 (zmem 0 rfl) (zz_iload_n (pc := 1) xf_211_1 (zmem 3 rfl) (zz_putZ (pc := 2) xf_211_2 zis_115 (by decide +kernel) rfl (by decide +kernel) (by decide) (zm_as (fun zM1 (ezM1 : zM1 = zup M 115 42 (0)) => zz_aload_n (pc := 5) xf_211_5 (zmem 0 rfl) (zz_iload_n (pc := 6) xf_211_6 (zmem 2 rfl) (zz_putI (pc := 7) xf_211_7 zis_115 (by decide +kernel) rfl (by decide +kernel) (zm_as (fun zM2 (ezM2 : zM2 = zup zM1 115 40 (x : Int)) => have qzM2 : zM2 = rtS M 136 x 0 := (by rw [ezM2, ezM1]; exact rtS_0 (p := 136)); zz_aload_n (pc := 10) xf_211_10 (zmem 0 rfl) (zz_aload_n (pc := 11) xf_211_11 (zmem 0 rfl) (zz_getR (pc := 12) xf_211_12 zis_115 (by decide +kernel) rfl (zz_aload_n (pc := 15) xf_211_15 (zmem 1 rfl) (zz_call_0 (pc := 16) (cu := 0) (su := 0) (fun ls hr => zz_calV xf_211_16 rfl zis_115 ls hr) rfl (pks_116_136T (d := d) hx qzM2) (zm_as (fun zM3 (ezM3 : zM3 = rtS M 136 x 36) => zz_aload_n (pc := 19) xf_211_19 (zmem 0 rfl) (zz_aload_n (pc := 20) xf_211_20 (zmem 0 rfl) (zz_getR (pc := 21) xf_211_21 zis_115 (by decide +kernel) rfl (zz_aload_n (pc := 24) xf_211_24 (zmem 1 rfl) (zz_call_0 (pc := 25) (cu := 0) (su := 0) (fun ls hr => zz_calV xf_211_25 rfl zis_115 ls hr) rfl (pks_117_136T (d := d) hx ezM3) (zm_as (fun zM4 (ezM4 : zM4 = rtS M 136 x 72) => zz_aload_n (pc := 28) xf_211_28 (zmem 0 rfl) (zz_aload_n (pc := 29) xf_211_29 (zmem 0 rfl) (zz_getR (pc := 30) xf_211_30 zis_115 (by decide +kernel) rfl (zz_aload_n (pc := 33) xf_211_33 (zmem 1 rfl) (zz_call_0 (pc := 34) (cu := 0) (su := 0) (fun ls hr => zz_calV xf_211_34 rfl zis_115 ls hr) rfl (pks_118_136T (d := d) hx ezM4) (zm_as (fun zM5 (ezM5 : zM5 = rtS M 136 x 76) => zz_aload_n (pc := 37) xf_211_37 (zmem 0 rfl) (zz_aload_n (pc := 38) xf_211_38 (zmem 0 rfl) (zz_getR (pc := 39) xf_211_39 zis_115 (by decide +kernel) rfl (zz_aload_n (pc := 42) xf_211_42 (zmem 1 rfl) (zz_call_0 (pc := 43) (cu := 0) (su := 0) (fun ls hr => zz_calV xf_211_43 rfl zis_115 ls hr) rfl (pks_119_136T (d := d) hx ezM5) (zm_as (fun zM6 (ezM6 : zM6 = rtS M 136 x 92) => zz_aload_n (pc := 46) xf_211_46 (zmem 0 rfl) (zz_aload_n (pc := 47) xf_211_47 (zmem 0 rfl) (zz_getR (pc := 48) xf_211_48 zis_115 (by decide +kernel) rfl (zz_aload_n (pc := 51) xf_211_51 (zmem 1 rfl) (zz_call_0 (pc := 52) (cu := 0) (su := 0) (fun ls hr => zz_calV xf_211_52 rfl zis_115 ls hr) rfl (pks_120_136T (d := d) hx ezM6) (zm_as (fun zM7 (ezM7 : zM7 = rtS M 136 x 128) => zz_aload_n (pc := 55) xf_211_55 (zmem 0 rfl) (zz_aload_n (pc := 56) xf_211_56 (zmem 0 rfl) (zz_getR (pc := 57) xf_211_57 zis_115 (by decide +kernel) rfl (zz_aload_n (pc := 60) xf_211_60 (zmem 1 rfl) (zz_call_0 (pc := 61) (cu := 0) (su := 0) (fun ls hr => zz_calV xf_211_61 rfl zis_115 ls hr) rfl (pks_123_136T (d := d) hx ezM7) (zm_as (fun zM8 (ezM8 : zM8 = rtS M 136 x 136) => zz_aload_n (pc := 64) xf_211_64 (zmem 0 rfl) (zz_aload_n (pc := 65) xf_211_65 (zmem 0 rfl) (zz_getR (pc := 66) xf_211_66 zis_115 (by decide +kernel) rfl (zz_aload_n (pc := 69) xf_211_69 (zmem 1 rfl) (zz_call_0 (pc := 70) (cu := 0) (su := 0) (fun ls hr => zz_calV xf_211_70 rfl zis_115 ls hr) rfl (pks_124_136T (d := d) hx ezM8) (zm_as (fun zM9 (ezM9 : zM9 = rtS M 136 x 168) => zz_aload_n (pc := 73) xf_211_73 (zmem 0 rfl) (zz_aload_n (pc := 74) xf_211_74 (zmem 0 rfl) (zz_getR (pc := 75) xf_211_75 zis_115 (by decide +kernel) rfl (zz_aload_n (pc := 78) xf_211_78 (zmem 1 rfl) (zz_call_0 (pc := 79) (cu := 0) (su := 0) (fun ls hr => zz_calV xf_211_79 rfl zis_115 ls hr) rfl (pks_125_136T (d := d) hx ezM9) (zm_as (fun zM10 (ezM10 : zM10 = rtS M 136 x 456) => zz_aload_n (pc := 82) xf_211_82 (zmem 0 rfl) (zz_aload_n (pc := 83) xf_211_83 (zmem 0 rfl) (zz_aload_n (pc := 84) xf_211_84 (zmem 0 rfl) (zz_getI (pc := 85) xf_211_85 zis_115 (by decide +kernel) rfl (zz_aload_n (pc := 88) xf_211_88 (zmem 1 rfl) (zz_call_v (pc := 89) (cu := 0) (su := 0) (fun ls hr => zz_calV xf_211_89 rfl zis_115 ls hr) rfl (sp_pass_136T (d := d) (by rw [ezM10]; exact rtS_k) (by rw [ezM10, rtS_c]; omega)) (zm_as (fun zM11 (ezM11 : zM11 = zup (zup zM10 136 (zM10 115 40).toNat (zM10 136 (zM10 115 40).toNat)) 115 40 (zM10 115 40 + 1)) => zz_putI (pc := 92) xf_211_92 zis_115 (by decide +kernel) rfl (by decide +kernel) (zm_as (fun zM12 (ezM12 : zM12 = zup zM11 115 6 (zM10 136 (zM10 115 40).toNat)) => have qzM12 : zM12 = rtS M 136 x 457 := (by rw [ezM12, ezM11, ezM10]; exact rtS_f (f := 6) (Or.inr rfl) (by decide) (by decide) (by decide) rixf_6); zz_aload_n (pc := 95) xf_211_95 (zmem 0 rfl) (zz_aload_n (pc := 96) xf_211_96 (zmem 0 rfl) (zz_aload_n (pc := 97) xf_211_97 (zmem 0 rfl) (zz_getI (pc := 98) xf_211_98 zis_115 (by decide +kernel) rfl (zz_aload_n (pc := 101) xf_211_101 (zmem 1 rfl) (zz_call_v (pc := 102) (cu := 0) (su := 0) (fun ls hr => zz_calV xf_211_102 rfl zis_115 ls hr) rfl (sp_pass_136T (d := d) (by rw [qzM12]; exact rtS_k) (by rw [qzM12, rtS_c]; omega)) (zm_as (fun zM13 (ezM13 : zM13 = zup (zup zM12 136 (zM12 115 40).toNat (zM12 136 (zM12 115 40).toNat)) 115 40 (zM12 115 40 + 1)) => zz_putI (pc := 105) xf_211_105 zis_115 (by decide +kernel) rfl (by decide +kernel) (zm_as (fun zM14 (ezM14 : zM14 = zup zM13 115 7 (zM12 136 (zM12 115 40).toNat)) => have qzM14 : zM14 = rtS M 136 x 458 := (by rw [ezM14, ezM13, qzM12]; exact rtS_f (f := 7) (Or.inr rfl) (by decide) (by decide) (by decide) rixf_7); zz_aload_n (pc := 108) xf_211_108 (zmem 0 rfl) (zz_aload_n (pc := 109) xf_211_109 (zmem 0 rfl) (zz_aload_n (pc := 110) xf_211_110 (zmem 0 rfl) (zz_getI (pc := 111) xf_211_111 zis_115 (by decide +kernel) rfl (zz_aload_n (pc := 114) xf_211_114 (zmem 1 rfl) (zz_call_v (pc := 115) (cu := 0) (su := 0) (fun ls hr => zz_calV xf_211_115 rfl zis_115 ls hr) rfl (sp_pass_136T (d := d) (by rw [qzM14]; exact rtS_k) (by rw [qzM14, rtS_c]; omega)) (zm_as (fun zM15 (ezM15 : zM15 = zup (zup zM14 136 (zM14 115 40).toNat (zM14 136 (zM14 115 40).toNat)) 115 40 (zM14 115 40 + 1)) => zz_putI (pc := 118) xf_211_118 zis_115 (by decide +kernel) rfl (by decide +kernel) (zm_as (fun zM16 (ezM16 : zM16 = zup zM15 115 8 (zM14 136 (zM14 115 40).toNat)) => have qzM16 : zM16 = rtS M 136 x 459 := (by rw [ezM16, ezM15, qzM14]; exact rtS_f (f := 8) (Or.inr rfl) (by decide) (by decide) (by decide) rixf_8); zz_aload_n (pc := 121) xf_211_121 (zmem 0 rfl) (zz_aload_n (pc := 122) xf_211_122 (zmem 0 rfl) (zz_aload_n (pc := 123) xf_211_123 (zmem 0 rfl) (zz_getI (pc := 124) xf_211_124 zis_115 (by decide +kernel) rfl (zz_aload_n (pc := 127) xf_211_127 (zmem 1 rfl) (zz_call_v (pc := 128) (cu := 0) (su := 0) (fun ls hr => zz_calV xf_211_128 rfl zis_115 ls hr) rfl (sp_pass_136T (d := d) (by rw [qzM16]; exact rtS_k) (by rw [qzM16, rtS_c]; omega)) (zm_as (fun zM17 (ezM17 : zM17 = zup (zup zM16 136 (zM16 115 40).toNat (zM16 136 (zM16 115 40).toNat)) 115 40 (zM16 115 40 + 1)) => zz_putI (pc := 131) xf_211_131 zis_115 (by decide +kernel) rfl (by decide +kernel) (zm_as (fun zM18 (ezM18 : zM18 = zup zM17 115 9 (zM16 136 (zM16 115 40).toNat)) => have qzM18 : zM18 = rtS M 136 x 460 := (by rw [ezM18, ezM17, qzM16]; exact rtS_f (f := 9) (Or.inr rfl) (by decide) (by decide) (by decide) rixf_9); zz_aload_n (pc := 134) xf_211_134 (zmem 0 rfl) (zz_aload_n (pc := 135) xf_211_135 (zmem 0 rfl) (zz_aload_n (pc := 136) xf_211_136 (zmem 0 rfl) (zz_getI (pc := 137) xf_211_137 zis_115 (by decide +kernel) rfl (zz_aload_n (pc := 140) xf_211_140 (zmem 1 rfl) (zz_call_v (pc := 141) (cu := 0) (su := 0) (fun ls hr => zz_calV xf_211_141 rfl zis_115 ls hr) rfl (sp_pass_136T (d := d) (by rw [qzM18]; exact rtS_k) (by rw [qzM18, rtS_c]; omega)) (zm_as (fun zM19 (ezM19 : zM19 = zup (zup zM18 136 (zM18 115 40).toNat (zM18 136 (zM18 115 40).toNat)) 115 40 (zM18 115 40 + 1)) => zz_putI (pc := 144) xf_211_144 zis_115 (by decide +kernel) rfl (by decide +kernel) (zm_as (fun zM20 (ezM20 : zM20 = zup zM19 115 10 (zM18 136 (zM18 115 40).toNat)) => have qzM20 : zM20 = rtS M 136 x 461 := (by rw [ezM20, ezM19, qzM18]; exact rtS_f (f := 10) (Or.inr rfl) (by decide) (by decide) (by decide) rixf_10); zz_aload_n (pc := 147) xf_211_147 (zmem 0 rfl) (zz_aload_n (pc := 148) xf_211_148 (zmem 0 rfl) (zz_aload_n (pc := 149) xf_211_149 (zmem 0 rfl) (zz_getI (pc := 150) xf_211_150 zis_115 (by decide +kernel) rfl (zz_aload_n (pc := 153) xf_211_153 (zmem 1 rfl) (zz_call_v (pc := 154) (cu := 0) (su := 0) (fun ls hr => zz_calV xf_211_154 rfl zis_115 ls hr) rfl (sp_pass_136T (d := d) (by rw [qzM20]; exact rtS_k) (by rw [qzM20, rtS_c]; omega)) (zm_as (fun zM21 (ezM21 : zM21 = zup (zup zM20 136 (zM20 115 40).toNat (zM20 136 (zM20 115 40).toNat)) 115 40 (zM20 115 40 + 1)) => zz_putI (pc := 157) xf_211_157 zis_115 (by decide +kernel) rfl (by decide +kernel) (zm_as (fun zM22 (ezM22 : zM22 = zup zM21 115 11 (zM20 136 (zM20 115 40).toNat)) => have qzM22 : zM22 = rtS M 136 x 462 := (by rw [ezM22, ezM21, qzM20]; exact rtS_f (f := 11) (Or.inr rfl) (by decide) (by decide) (by decide) rixf_11); zz_aload_n (pc := 160) xf_211_160 (zmem 0 rfl) (zz_aload_n (pc := 161) xf_211_161 (zmem 0 rfl) (zz_aload_n (pc := 162) xf_211_162 (zmem 0 rfl) (zz_getI (pc := 163) xf_211_163 zis_115 (by decide +kernel) rfl (zz_aload_n (pc := 166) xf_211_166 (zmem 1 rfl) (zz_call_v (pc := 167) (cu := 0) (su := 0) (fun ls hr => zz_calV xf_211_167 rfl zis_115 ls hr) rfl (sp_pass_136T (d := d) (by rw [qzM22]; exact rtS_k) (by rw [qzM22, rtS_c]; omega)) (zm_as (fun zM23 (ezM23 : zM23 = zup (zup zM22 136 (zM22 115 40).toNat (zM22 136 (zM22 115 40).toNat)) 115 40 (zM22 115 40 + 1)) => zz_putI (pc := 170) xf_211_170 zis_115 (by decide +kernel) rfl (by decide +kernel) (zm_as (fun zM24 (ezM24 : zM24 = zup zM23 115 12 (zM22 136 (zM22 115 40).toNat)) => have qzM24 : zM24 = rtS M 136 x 463 := (by rw [ezM24, ezM23, qzM22]; exact rtS_f (f := 12) (Or.inr rfl) (by decide) (by decide) (by decide) rixf_12); zz_aload_n (pc := 173) xf_211_173 (zmem 0 rfl) (zz_aload_n (pc := 174) xf_211_174 (zmem 0 rfl) (zz_aload_n (pc := 175) xf_211_175 (zmem 0 rfl) (zz_getI (pc := 176) xf_211_176 zis_115 (by decide +kernel) rfl (zz_aload_n (pc := 179) xf_211_179 (zmem 1 rfl) (zz_call_v (pc := 180) (cu := 0) (su := 0) (fun ls hr => zz_calV xf_211_180 rfl zis_115 ls hr) rfl (sp_pass_136T (d := d) (by rw [qzM24]; exact rtS_k) (by rw [qzM24, rtS_c]; omega)) (zm_as (fun zM25 (ezM25 : zM25 = zup (zup zM24 136 (zM24 115 40).toNat (zM24 136 (zM24 115 40).toNat)) 115 40 (zM24 115 40 + 1)) => zz_putI (pc := 183) xf_211_183 zis_115 (by decide +kernel) rfl (by decide +kernel) (zm_as (fun zM26 (ezM26 : zM26 = zup zM25 115 13 (zM24 136 (zM24 115 40).toNat)) => have qzM26 : zM26 = rtS M 136 x 464 := (by rw [ezM26, ezM25, qzM24]; exact rtS_f (f := 13) (Or.inr rfl) (by decide) (by decide) (by decide) rixf_13); zz_aload_n (pc := 186) xf_211_186 (zmem 0 rfl) (zz_aload_n (pc := 187) xf_211_187 (zmem 0 rfl) (zz_aload_n (pc := 188) xf_211_188 (zmem 0 rfl) (zz_getI (pc := 189) xf_211_189 zis_115 (by decide +kernel) rfl (zz_aload_n (pc := 192) xf_211_192 (zmem 1 rfl) (zz_call_v (pc := 193) (cu := 0) (su := 0) (fun ls hr => zz_calV xf_211_193 rfl zis_115 ls hr) rfl (sp_pass_136T (d := d) (by rw [qzM26]; exact rtS_k) (by rw [qzM26, rtS_c]; omega)) (zm_as (fun zM27 (ezM27 : zM27 = zup (zup zM26 136 (zM26 115 40).toNat (zM26 136 (zM26 115 40).toNat)) 115 40 (zM26 115 40 + 1)) => zz_putI (pc := 196) xf_211_196 zis_115 (by decide +kernel) rfl (by decide +kernel) (zm_as (fun zM28 (ezM28 : zM28 = zup zM27 115 19 (zM26 136 (zM26 115 40).toNat)) => have qzM28 : zM28 = rtS M 136 x 465 := (by rw [ezM28, ezM27, qzM26]; exact rtS_f (f := 19) (Or.inr rfl) (by decide) (by decide) (by decide) rixf_19); zz_aload_n (pc := 199) xf_211_199 (zmem 0 rfl) (zz_aload_n (pc := 200) xf_211_200 (zmem 0 rfl) (zz_aload_n (pc := 201) xf_211_201 (zmem 0 rfl) (zz_getI (pc := 202) xf_211_202 zis_115 (by decide +kernel) rfl (zz_aload_n (pc := 205) xf_211_205 (zmem 1 rfl) (zz_call_v (pc := 206) (cu := 0) (su := 0) (fun ls hr => zz_calV xf_211_206 rfl zis_115 ls hr) rfl (sp_pass_136T (d := d) (by rw [qzM28]; exact rtS_k) (by rw [qzM28, rtS_c]; omega)) (zm_as (fun zM29 (ezM29 : zM29 = zup (zup zM28 136 (zM28 115 40).toNat (zM28 136 (zM28 115 40).toNat)) 115 40 (zM28 115 40 + 1)) => zz_putI (pc := 209) xf_211_209 zis_115 (by decide +kernel) rfl (by decide +kernel) (zm_as (fun zM30 (ezM30 : zM30 = zup zM29 115 20 (zM28 136 (zM28 115 40).toNat)) => have qzM30 : zM30 = rtS M 136 x 466 := (by rw [ezM30, ezM29, qzM28]; exact rtS_f (f := 20) (Or.inr rfl) (by decide) (by decide) (by decide) rixf_20); zz_aload_n (pc := 212) xf_211_212 (zmem 0 rfl) (zz_aload_n (pc := 213) xf_211_213 (zmem 0 rfl) (zz_aload_n (pc := 214) xf_211_214 (zmem 0 rfl) (zz_getI (pc := 215) xf_211_215 zis_115 (by decide +kernel) rfl (zz_aload_n (pc := 218) xf_211_218 (zmem 1 rfl) (zz_call_v (pc := 219) (cu := 0) (su := 0) (fun ls hr => zz_calV xf_211_219 rfl zis_115 ls hr) rfl (sp_pass_136T (d := d) (by rw [qzM30]; exact rtS_k) (by rw [qzM30, rtS_c]; omega)) (zm_as (fun zM31 (ezM31 : zM31 = zup (zup zM30 136 (zM30 115 40).toNat (zM30 136 (zM30 115 40).toNat)) 115 40 (zM30 115 40 + 1)) => zz_putI (pc := 222) xf_211_222 zis_115 (by decide +kernel) rfl (by decide +kernel) (zm_as (fun zM32 (ezM32 : zM32 = zup zM31 115 21 (zM30 136 (zM30 115 40).toNat)) => have qzM32 : zM32 = rtS M 136 x 467 := (by rw [ezM32, ezM31, qzM30]; exact rtS_f (f := 21) (Or.inr rfl) (by decide) (by decide) (by decide) rixf_21); zz_return (pc := 225) xf_211_225 rfl (by decide +kernel) (by decide +kernel) (by exact ⟨rfl, congrArg (fun z => (w, zheap z)) qzM32⟩)))))))))))))))))))))))))))))))))))))))))))))))))))))))))))))))))))))))))))))))))))))))))))))))))))))))))))))))))))))))))))))))))))))))))))))))))))))))))))))
theorem spx_passAll_135K {xs : List Int32} {d : Nat} {w : Bool} {M : zM} {x : Int} (h0 : 0 ≤ x) (hx : x.toNat + 467 ≤ 3072) : xrun2 xs (d + 2) 211 [.ref 115, .ref 135, .int (Int32.ofInt x), .int (Int32.ofInt 1)] (w, zheap M) = some (.inl none, (w, zheap (rkS M 135 x.toNat 467))) := by
  have h := sp_passAll_135K (xs := xs) (d := d) (w := w) (M := M) hx
  rw [Int.toNat_of_nonneg h0] at h
  exact h
theorem spx_passAll_135T {xs : List Int32} {d : Nat} {w : Bool} {M : zM} {x : Int} (h0 : 0 ≤ x) (hx : x.toNat + 467 ≤ 3072) : xrun2 xs (d + 2) 211 [.ref 115, .ref 135, .int (Int32.ofInt x), .int (Int32.ofInt 0)] (w, zheap M) = some (.inl none, (w, zheap (rtS M 135 x.toNat 467))) := by
  have h := sp_passAll_135T (xs := xs) (d := d) (w := w) (M := M) hx
  rw [Int.toNat_of_nonneg h0] at h
  exact h
theorem spx_passAll_136K {xs : List Int32} {d : Nat} {w : Bool} {M : zM} {x : Int} (h0 : 0 ≤ x) (hx : x.toNat + 467 ≤ 512) : xrun2 xs (d + 2) 211 [.ref 115, .ref 136, .int (Int32.ofInt x), .int (Int32.ofInt 1)] (w, zheap M) = some (.inl none, (w, zheap (rkS M 136 x.toNat 467))) := by
  have h := sp_passAll_136K (xs := xs) (d := d) (w := w) (M := M) hx
  rw [Int.toNat_of_nonneg h0] at h
  exact h
theorem spx_passAll_136T {xs : List Int32} {d : Nat} {w : Bool} {M : zM} {x : Int} (h0 : 0 ≤ x) (hx : x.toNat + 467 ≤ 512) : xrun2 xs (d + 2) 211 [.ref 115, .ref 136, .int (Int32.ofInt x), .int (Int32.ofInt 0)] (w, zheap M) = some (.inl none, (w, zheap (rtS M 136 x.toNat 467))) := by
  have h := sp_passAll_136T (xs := xs) (d := d) (w := w) (M := M) hx
  rw [Int.toNat_of_nonneg h0] at h
  exact h
end
noncomputable section
/-! The reference: remembering, undoing, saving, restoring. -/
theorem sp0_passAll_136K {xs : List Int32} {d : Nat} {w : Bool} {M : zM} : xrun2 xs (d + 2) 211 [.ref 115, .ref 136, .int (Int32.ofInt 0), .int (Int32.ofInt 1)] (w, zheap M) = some (.inl none, (w, zheap (rkS M 136 0 467))) := sp_passAll_136K (x := 0) (by decide)
theorem sp0_passAll_136T {xs : List Int32} {d : Nat} {w : Bool} {M : zM} : xrun2 xs (d + 2) 211 [.ref 115, .ref 136, .int (Int32.ofInt 0), .int (Int32.ofInt 0)] (w, zheap M) = some (.inl none, (w, zheap (rtS M 136 0 467))) := sp_passAll_136T (x := 0) (by decide)
def rmmF (M : zM) : Nat → Int := fun j => M 135 (j + 512)
def rmm0 (M : zM) : zM := if M 115 39 = 6 then zup (ztab M 135 2560 (rmmF M)) 115 39 (M 115 39 - 1) else M
def remM (M : zM) : zM := zup (rkS (rmm0 M) 135 (512 * rmm0 M 115 39).toNat 467) 115 39 (rmm0 M 115 39 + 1)
theorem rmm0_o {M : zM} {q : Nat} (h1 : ¬ q = 115) (h2 : ¬ q = 135) : rmm0 M q = M q := by
  unfold rmm0
  split
  · rw [zup_or h1, ztab_or h2]
  · rfl
theorem rmm0_5 {M : zM} {j : Nat} (h : ¬ j = 39) : rmm0 M 115 j = M 115 j := by
  unfold rmm0
  split
  · rw [zup_ne h, ztab_or (by decide)]
  · rfl
theorem rmm0_39 {M : zM} : rmm0 M 115 39 = if M 115 39 = 6 then 5 else M 115 39 := by
  unfold rmm0
  split
  · next h => rw [zup_i, h]; rfl
  · rfl
theorem remM_o {M : zM} {q : Nat} (h1 : ¬ q = 115) (h2 : ¬ q = 135) : remM M q = M q := by
  unfold remM
  rw [zup_or h1, rkS_o h2 h1, rmm0_o h1 h2]
theorem remM_5 {M : zM} {j : Nat} (h : ¬ j = 39) (h2 : ¬ j = 40) (h3 : ¬ j = 42) : remM M 115 j = M 115 j := by
  unfold remM
  rw [zup_ne h, rkS_5 (Or.inl rfl) h2 h3, rmm0_5 h]
theorem zl_remembersR_11 {xs : List Int32} {d : Nat} {w : Bool}  {M0 : zM} (h6 : M0 115 39 = 6)  : ∀ (zn : Nat) (i : Int) (M : zM), (M = ztab M0 135 i.toNat (rmmF M0)) → (0 ≤ i ∧ i ≤ 2560) → 2560 - i ≤ (zn : Int) → zG (xstep (xrun2 xs (d + 2)) xs 212) 212 (zn * 24 + 24) 11 [(0, .ref 115), (1, .int (Int32.ofInt i))] [] 0 0 w M (fun o σ => o = (.inl none : XO) ∧ σ = (w, zheap (remM M0))) := by
  intro zn
  induction zn with
  | zero =>
    intro i M hM hi hm
    have f1 : M 115 = M0 115 := by rw [hM]; exact ztab_or (by decide)
    have f2 : M 115 39 = 6 := by rw [f1]; exact h6
    have f3 : i < 2560 → M 135 (i + 512).toNat = M0 135 (i.toNat + 512) := fun _ => by rw [hM, ztab_g (by omega), show (i + 512).toNat = i.toNat + 512 by omega]
    exact zG_mono (N := 0 + 24) (by omega) (zz_iload_n (pc := 11) xf_212_11 (zmem 1 rfl) (zz_sipush (pc := 12) (x := 2560) xf_212_12 (by decide +kernel) (zz_icmp (pc := 15) xf_212_15 (by unfold zr32; omega) ⟨by decide, by decide⟩ (fun (zc1 : ¬ (i < (2560))) => zz_aload_n (pc := 40) xf_212_40 (zmem 0 rfl) (zz_dup_r (pc := 41) xf_212_41 (zz_getI (pc := 42) xf_212_42 zis_115 (by decide +kernel) rfl (zz_iconst (pc := 45) xf_212_45 (zz_isub (pc := 46) xf_212_46 (zz_putI (pc := 47) xf_212_47 zis_115 (by decide +kernel) rfl (by decide +kernel) (zm_as (fun zM3 (ezM3 : zM3 = zup M 115 39 ((M 115 39) - (1))) => zz_aload_n (pc := 50) xf_212_50 (zmem 0 rfl) (zz_aload_n (pc := 51) xf_212_51 (zmem 0 rfl) (zz_getR (pc := 52) xf_212_52 zis_115 (by decide +kernel) rfl (zz_sipush (pc := 55) (x := 512) xf_212_55 (by decide +kernel) (zz_aload_n (pc := 58) xf_212_58 (zmem 0 rfl) (zz_getI (pc := 59) xf_212_59 zis_115 (by decide +kernel) rfl (zz_imul (pc := 62) xf_212_62 (zz_iconst (pc := 63) xf_212_63 (zz_call_0 (pc := 64) (cu := 0) (su := 0) (fun ls hr => zz_calV xf_212_64 rfl zis_115 ls hr) rfl (spx_passAll_135K (d := d) (by have f9 : zM3 115 39 = 5 := (by rw [ezM3, zup_i, f2]; rfl); rw [f9]; decide) (by have f9 : zM3 115 39 = 5 := (by rw [ezM3, zup_i, f2]; rfl); rw [f9]; decide)) (zm_as (fun zM4 (ezM4 : zM4 = rkS zM3 135 ((512) * (zM3 115 39)).toNat 467) => zz_aload_n (pc := 67) xf_212_67 (zmem 0 rfl) (zz_dup_r (pc := 68) xf_212_68 (zz_getI (pc := 69) xf_212_69 zis_115 (by decide +kernel) rfl (zz_iconst (pc := 72) xf_212_72 (zz_iadd (pc := 73) xf_212_73 (zz_putI (pc := 74) xf_212_74 zis_115 (by decide +kernel) rfl (by decide +kernel) (zm_as (fun zM5 (ezM5 : zM5 = zup zM4 115 39 ((zM4 115 39) + (1))) => zz_return (pc := 77) xf_212_77 rfl (by decide +kernel) (by decide +kernel) (by have q1 : zM3 = rmm0 M0 := (by rw [ezM3, hM, show i.toNat = 2560 by omega]; unfold rmm0; rw [if_pos h6, ztab_or (show ¬ 115 = 135 by decide)]); exact ⟨rfl, congrArg (fun z => (w, zheap z)) (by rw [ezM5, ezM4, q1, show rkS (rmm0 M0) 135 (512 * rmm0 M0 115 39).toNat 467 115 39 = rmm0 M0 115 39 from rkS_5 (Or.inl rfl) (by decide) (by decide)]; rfl)⟩)))))))))))))))))))))))))) (fun zc20 => have zc2 : i < (2560) := Classical.not_not.mp zc20; zz_aload_n (pc := 18) xf_212_18 (zmem 0 rfl) (zz_getR (pc := 19) xf_212_19 zis_115 (by decide +kernel) rfl (zz_iload_n (pc := 22) xf_212_22 (zmem 1 rfl) (zz_aload_n (pc := 23) xf_212_23 (zmem 0 rfl) (zz_getR (pc := 24) xf_212_24 zis_115 (by decide +kernel) rfl (zz_iload_n (pc := 27) xf_212_27 (zmem 1 rfl) (zz_sipush (pc := 28) (x := 512) xf_212_28 (by decide +kernel) (zz_iadd (pc := 31) xf_212_31 (zz_iald (pc := 32) xf_212_32 zis_135 (by omega) (zz_iast (pc := 33) xf_212_33 zis_135 (by omega) (zm_as (fun zM6 (ezM6 : zM6 = zup M 135 i.toNat (M 135 (i + (512)).toNat)) => zz_iinc (pc := 34) xf_212_34 (zmem 1 rfl) (by decide +kernel) (zG_ro (ρ' := [(1, .int (Int32.ofInt (i + 1))), (0, .ref 115)]) rfl (zz_goto (pc := 37) xf_212_37 ((by exfalso; omega)))))))))))))))))))
  | succ zn ih =>
    intro i M hM hi hm
    have f1 : M 115 = M0 115 := by rw [hM]; exact ztab_or (by decide)
    have f2 : M 115 39 = 6 := by rw [f1]; exact h6
    have f3 : i < 2560 → M 135 (i + 512).toNat = M0 135 (i.toNat + 512) := fun _ => by rw [hM, ztab_g (by omega), show (i + 512).toNat = i.toNat + 512 by omega]
    exact zG_mono (N := zn * 24 + 24 + 0 + 24) (by omega) (zz_iload_n (pc := 11) xf_212_11 (zmem 1 rfl) (zz_sipush (pc := 12) (x := 2560) xf_212_12 (by decide +kernel) (zz_icmp (pc := 15) xf_212_15 (by unfold zr32; omega) ⟨by decide, by decide⟩ (fun (zc1 : ¬ (i < (2560))) => zz_aload_n (pc := 40) xf_212_40 (zmem 0 rfl) (zz_dup_r (pc := 41) xf_212_41 (zz_getI (pc := 42) xf_212_42 zis_115 (by decide +kernel) rfl (zz_iconst (pc := 45) xf_212_45 (zz_isub (pc := 46) xf_212_46 (zz_putI (pc := 47) xf_212_47 zis_115 (by decide +kernel) rfl (by decide +kernel) (zm_as (fun zM3 (ezM3 : zM3 = zup M 115 39 ((M 115 39) - (1))) => zz_aload_n (pc := 50) xf_212_50 (zmem 0 rfl) (zz_aload_n (pc := 51) xf_212_51 (zmem 0 rfl) (zz_getR (pc := 52) xf_212_52 zis_115 (by decide +kernel) rfl (zz_sipush (pc := 55) (x := 512) xf_212_55 (by decide +kernel) (zz_aload_n (pc := 58) xf_212_58 (zmem 0 rfl) (zz_getI (pc := 59) xf_212_59 zis_115 (by decide +kernel) rfl (zz_imul (pc := 62) xf_212_62 (zz_iconst (pc := 63) xf_212_63 (zz_call_0 (pc := 64) (cu := 0) (su := 0) (fun ls hr => zz_calV xf_212_64 rfl zis_115 ls hr) rfl (spx_passAll_135K (d := d) (by have f9 : zM3 115 39 = 5 := (by rw [ezM3, zup_i, f2]; rfl); rw [f9]; decide) (by have f9 : zM3 115 39 = 5 := (by rw [ezM3, zup_i, f2]; rfl); rw [f9]; decide)) (zm_as (fun zM4 (ezM4 : zM4 = rkS zM3 135 ((512) * (zM3 115 39)).toNat 467) => zz_aload_n (pc := 67) xf_212_67 (zmem 0 rfl) (zz_dup_r (pc := 68) xf_212_68 (zz_getI (pc := 69) xf_212_69 zis_115 (by decide +kernel) rfl (zz_iconst (pc := 72) xf_212_72 (zz_iadd (pc := 73) xf_212_73 (zz_putI (pc := 74) xf_212_74 zis_115 (by decide +kernel) rfl (by decide +kernel) (zm_as (fun zM5 (ezM5 : zM5 = zup zM4 115 39 ((zM4 115 39) + (1))) => zz_return (pc := 77) xf_212_77 rfl (by decide +kernel) (by decide +kernel) (by have q1 : zM3 = rmm0 M0 := (by rw [ezM3, hM, show i.toNat = 2560 by omega]; unfold rmm0; rw [if_pos h6, ztab_or (show ¬ 115 = 135 by decide)]); exact ⟨rfl, congrArg (fun z => (w, zheap z)) (by rw [ezM5, ezM4, q1, show rkS (rmm0 M0) 135 (512 * rmm0 M0 115 39).toNat 467 115 39 = rmm0 M0 115 39 from rkS_5 (Or.inl rfl) (by decide) (by decide)]; rfl)⟩)))))))))))))))))))))))))) (fun zc20 => have zc2 : i < (2560) := Classical.not_not.mp zc20; zz_aload_n (pc := 18) xf_212_18 (zmem 0 rfl) (zz_getR (pc := 19) xf_212_19 zis_115 (by decide +kernel) rfl (zz_iload_n (pc := 22) xf_212_22 (zmem 1 rfl) (zz_aload_n (pc := 23) xf_212_23 (zmem 0 rfl) (zz_getR (pc := 24) xf_212_24 zis_115 (by decide +kernel) rfl (zz_iload_n (pc := 27) xf_212_27 (zmem 1 rfl) (zz_sipush (pc := 28) (x := 512) xf_212_28 (by decide +kernel) (zz_iadd (pc := 31) xf_212_31 (zz_iald (pc := 32) xf_212_32 zis_135 (by omega) (zz_iast (pc := 33) xf_212_33 zis_135 (by omega) (zm_as (fun zM6 (ezM6 : zM6 = zup M 135 i.toNat (M 135 (i + (512)).toNat)) => zz_iinc (pc := 34) xf_212_34 (zmem 1 rfl) (by decide +kernel) (zG_ro (ρ' := [(1, .int (Int32.ofInt (i + 1))), (0, .ref 115)]) rfl (zz_goto (pc := 37) xf_212_37 (zG_mono (N := zn * 24 + 24) (by omega) (zG_sub (List.forall_mem_cons.mpr ⟨zmem 1 rfl, (List.forall_mem_cons.mpr ⟨zmem 0 rfl, (fun p hp => absurd hp List.not_mem_nil)⟩)⟩) (ih (i + 1) zM6  (by have hx : ∀ x : Int, x = rmmF M0 i.toNat → zup M 135 i.toNat x = ztab M0 135 (i + 1).toNat (rmmF M0) := fun x hx => (by rw [hM, show (i + 1).toNat = i.toNat + 1 by omega]; exact ztab_s hx); rw [ezM6]; exact hx _ (f3 (by omega))) (by omega) (by omega)))))))))))))))))))))
theorem sp_remembersR {xs : List Int32} {d : Nat} {w : Bool} {M : zM}  (hc : 0 ≤ M 115 39 ∧ M 115 39 ≤ 6) : xrun2 xs (d + 3) 212 [.ref 115] (w, zheap M) = some (.inl none, (w, zheap (remM M))) := by
  exact zrun_v (N := 61483) (by decide) rfl (zz_aload_n (pc := 0) xf_212_0 (zmem 0 rfl) (zz_getI (pc := 1) xf_212_1 zis_115 (by decide +kernel) rfl (zz_bipush (pc := 4) (x := 6) xf_212_4 (by decide +kernel) (zz_icmp (pc := 6) xf_212_6 (by unfold zr32; omega) ⟨by decide, by decide⟩ (fun (zc1 : ¬ ((M 115 39) = (6))) => zz_aload_n (pc := 50) xf_212_50 (zmem 0 rfl) (zz_aload_n (pc := 51) xf_212_51 (zmem 0 rfl) (zz_getR (pc := 52) xf_212_52 zis_115 (by decide +kernel) rfl (zz_sipush (pc := 55) (x := 512) xf_212_55 (by decide +kernel) (zz_aload_n (pc := 58) xf_212_58 (zmem 0 rfl) (zz_getI (pc := 59) xf_212_59 zis_115 (by decide +kernel) rfl (zz_imul (pc := 62) xf_212_62 (zz_iconst (pc := 63) xf_212_63 (zz_call_0 (pc := 64) (cu := 0) (su := 0) (fun ls hr => zz_calV xf_212_64 rfl zis_115 ls hr) rfl (spx_passAll_135K (d := d) (by omega) (by omega)) (zm_as (fun zM3 (ezM3 : zM3 = rkS M 135 ((512) * (M 115 39)).toNat 467) => zz_aload_n (pc := 67) xf_212_67 (zmem 0 rfl) (zz_dup_r (pc := 68) xf_212_68 (zz_getI (pc := 69) xf_212_69 zis_115 (by decide +kernel) rfl (zz_iconst (pc := 72) xf_212_72 (zz_iadd (pc := 73) xf_212_73 (zz_putI (pc := 74) xf_212_74 zis_115 (by decide +kernel) rfl (by decide +kernel) (zm_as (fun zM4 (ezM4 : zM4 = zup zM3 115 39 ((zM3 115 39) + (1))) => zz_return (pc := 77) xf_212_77 rfl (by decide +kernel) (by decide +kernel) (by first | (exfalso; omega) | exact ⟨rfl, congrArg (fun z => (w, zheap z)) (by have q1 : rmm0 M = M := if_neg (by omega); unfold remM; rw [q1, ezM4, ezM3, show rkS M 135 (512 * M 115 39).toNat 467 115 39 = M 115 39 from rkS_5 (Or.inl rfl) (by decide) (by decide)])⟩))))))))))))))))))) (fun zc20 => have zc2 : (M 115 39) = (6) := Classical.not_not.mp zc20; zz_iconst (pc := 9) xf_212_9 (zz_istore_n (pc := 10) xf_212_10 (by decide +kernel) (zG_ro (ρ' := [(1, .int (Int32.ofInt (0))), (0, .ref 115)]) rfl (zG_mono (N := 61464) (by omega) (zG_sub (List.forall_mem_cons.mpr ⟨zmem 1 rfl, (List.forall_mem_cons.mpr ⟨zmem 0 rfl, (fun p hp => absurd hp List.not_mem_nil)⟩)⟩) (zl_remembersR_11 (M0 := M) (by omega) 2560 _ _ ztab_0.symm (by omega) (by omega)))))))))))
def ruM (M : zM) : zM := zup (zup M 115 0 0) 115 39 (M 115 39 - 1)
def runM (M : zM) : zM := rtS (ruM M) 135 (512 * (M 115 39 - 1)).toNat 467
theorem ruM_e {M : zM} : zup (zup M 115 0 0) 115 39 (zup M 115 0 0 115 39 - 1) = ruM M := by unfold ruM; rw [zup_ne (by decide)]
theorem runM_39 {M : zM} : runM M 115 39 = M 115 39 - 1 := by
  unfold runM
  rw [rtS_o (by rw [rix_5 (Or.inr (Or.inr (Or.inl rfl)))]; decide) (by decide) (by decide)]
  exact zup_i
def rsvM (M : zM) : zM := rkS (zup (zup M 115 0 0) 115 41 1) 136 0 467
def rreM (M : zM) : zM := rtS (remM (zup M 115 0 0)) 136 0 467
theorem sp_undoR_0 {xs : List Int32} {d : Nat} {w : Bool} {M : zM}  (hc : 0 ≤ M 115 39 ∧ M 115 39 ≤ 6) (c0 : M 115 39 = 0) : xrun2 xs (d + 3) 213 [.ref 115] (w, zheap M) = some (.inl (some (.int (Int32.ofInt (0)))), (w, zheap (zup M 115 0 1))) := by
  exact zrun_v (N := 23) (by decide) rfl (zz_aload_n (pc := 0) xf_213_0 (zmem 0 rfl) (zz_getI (pc := 1) xf_213_1 zis_115 (by decide +kernel) rfl (zz_if (pc := 4) xf_213_4 (by unfold zr32; omega) (fun (zc1 : ¬ ((M 115 39) = 0)) => zz_aload_n (pc := 13) xf_213_13 (zmem 0 rfl) (zz_iconst (pc := 14) xf_213_14 (zz_putI (pc := 15) xf_213_15 zis_115 (by decide +kernel) rfl (by decide +kernel) (zm_as (fun zM3 (ezM3 : zM3 = zup M 115 0 (0)) => zz_aload_n (pc := 18) xf_213_18 (zmem 0 rfl) (zz_dup_r (pc := 19) xf_213_19 (zz_getI (pc := 20) xf_213_20 zis_115 (by decide +kernel) rfl (zz_iconst (pc := 23) xf_213_23 (zz_isub (pc := 24) xf_213_24 (zz_putI (pc := 25) xf_213_25 zis_115 (by decide +kernel) rfl (by decide +kernel) (zm_as (fun zM4 (ezM4 : zM4 = zup zM3 115 39 ((zM3 115 39) - (1))) => zz_aload_n (pc := 28) xf_213_28 (zmem 0 rfl) (zz_aload_n (pc := 29) xf_213_29 (zmem 0 rfl) (zz_getR (pc := 30) xf_213_30 zis_115 (by decide +kernel) rfl (zz_sipush (pc := 33) (x := 512) xf_213_33 (by decide +kernel) (zz_aload_n (pc := 36) xf_213_36 (zmem 0 rfl) (zz_getI (pc := 37) xf_213_37 zis_115 (by decide +kernel) rfl (zz_imul (pc := 40) xf_213_40 (zz_iconst (pc := 41) xf_213_41 (zz_call_0 (pc := 42) (cu := 0) (su := 0) (fun ls hr => zz_calV xf_213_42 rfl zis_115 ls hr) rfl (spx_passAll_135T (d := d) (by have f8 : zM4 = ruM M := (by subst_vars; exact ruM_e); rw [f8, show ruM M 115 39 = M 115 39 - 1 from zup_i]; omega) (by have f8 : zM4 = ruM M := (by subst_vars; exact ruM_e); rw [f8, show ruM M 115 39 = M 115 39 - 1 from zup_i]; omega)) (zm_as (fun zM5 (ezM5 : zM5 = rtS zM4 135 ((512) * (zM4 115 39)).toNat 467) => zz_aload_n (pc := 45) xf_213_45 (zmem 0 rfl) (zz_getI (pc := 46) xf_213_46 zis_115 (by decide +kernel) rfl (zz_ireturn (pc := 49) xf_213_49 rfl (by decide +kernel) (by decide +kernel) (by first | (exfalso; omega) | skip; have f8 : zM4 = ruM M := (by subst_vars; exact ruM_e); have f9 : zM5 = runM M := (by rw [ezM5, f8, show ruM M 115 39 = M 115 39 - 1 from zup_i]; rfl); exact ⟨zq_i (by rw [f9, runM_39]), by rw [f9]⟩))))))))))))))))))))))))) (fun zc20 => have zc2 : (M 115 39) = 0 := Classical.not_not.mp zc20; zz_aload_n (pc := 7) xf_213_7 (zmem 0 rfl) (zz_iconst (pc := 8) xf_213_8 (zz_call_v (pc := 9) (cu := 0) (su := 0) (fun ls hr => zz_calV xf_213_9 rfl zis_115 ls hr) rfl (sp_failsR (d := d + 1) ) (zm_as (fun zM6 (ezM6 : zM6 = zup M 115 0 (1)) => zz_ireturn (pc := 12) xf_213_12 rfl (by decide +kernel) (by decide +kernel) (by first | (exfalso; omega) | (subst_vars; exact ⟨rfl, rfl⟩))))))))))
theorem sp_undoR_1 {xs : List Int32} {d : Nat} {w : Bool} {M : zM}  (hc : 0 ≤ M 115 39 ∧ M 115 39 ≤ 6) (c0 : ¬ (M 115 39 = 0)) : xrun2 xs (d + 3) 213 [.ref 115] (w, zheap M) = some (.inl (some (.int (Int32.ofInt (M 115 39 - 1)))), (w, zheap (runM M))) := by
  exact zrun_v (N := 23) (by decide) rfl (zz_aload_n (pc := 0) xf_213_0 (zmem 0 rfl) (zz_getI (pc := 1) xf_213_1 zis_115 (by decide +kernel) rfl (zz_if (pc := 4) xf_213_4 (by unfold zr32; omega) (fun (zc1 : ¬ ((M 115 39) = 0)) => zz_aload_n (pc := 13) xf_213_13 (zmem 0 rfl) (zz_iconst (pc := 14) xf_213_14 (zz_putI (pc := 15) xf_213_15 zis_115 (by decide +kernel) rfl (by decide +kernel) (zm_as (fun zM3 (ezM3 : zM3 = zup M 115 0 (0)) => zz_aload_n (pc := 18) xf_213_18 (zmem 0 rfl) (zz_dup_r (pc := 19) xf_213_19 (zz_getI (pc := 20) xf_213_20 zis_115 (by decide +kernel) rfl (zz_iconst (pc := 23) xf_213_23 (zz_isub (pc := 24) xf_213_24 (zz_putI (pc := 25) xf_213_25 zis_115 (by decide +kernel) rfl (by decide +kernel) (zm_as (fun zM4 (ezM4 : zM4 = zup zM3 115 39 ((zM3 115 39) - (1))) => zz_aload_n (pc := 28) xf_213_28 (zmem 0 rfl) (zz_aload_n (pc := 29) xf_213_29 (zmem 0 rfl) (zz_getR (pc := 30) xf_213_30 zis_115 (by decide +kernel) rfl (zz_sipush (pc := 33) (x := 512) xf_213_33 (by decide +kernel) (zz_aload_n (pc := 36) xf_213_36 (zmem 0 rfl) (zz_getI (pc := 37) xf_213_37 zis_115 (by decide +kernel) rfl (zz_imul (pc := 40) xf_213_40 (zz_iconst (pc := 41) xf_213_41 (zz_call_0 (pc := 42) (cu := 0) (su := 0) (fun ls hr => zz_calV xf_213_42 rfl zis_115 ls hr) rfl (spx_passAll_135T (d := d) (by have f8 : zM4 = ruM M := (by subst_vars; exact ruM_e); rw [f8, show ruM M 115 39 = M 115 39 - 1 from zup_i]; omega) (by have f8 : zM4 = ruM M := (by subst_vars; exact ruM_e); rw [f8, show ruM M 115 39 = M 115 39 - 1 from zup_i]; omega)) (zm_as (fun zM5 (ezM5 : zM5 = rtS zM4 135 ((512) * (zM4 115 39)).toNat 467) => zz_aload_n (pc := 45) xf_213_45 (zmem 0 rfl) (zz_getI (pc := 46) xf_213_46 zis_115 (by decide +kernel) rfl (zz_ireturn (pc := 49) xf_213_49 rfl (by decide +kernel) (by decide +kernel) (by first | (exfalso; omega) | skip; have f8 : zM4 = ruM M := (by subst_vars; exact ruM_e); have f9 : zM5 = runM M := (by rw [ezM5, f8, show ruM M 115 39 = M 115 39 - 1 from zup_i]; rfl); exact ⟨zq_i (by rw [f9, runM_39]), by rw [f9]⟩))))))))))))))))))))))))) (fun zc20 => have zc2 : (M 115 39) = 0 := Classical.not_not.mp zc20; zz_aload_n (pc := 7) xf_213_7 (zmem 0 rfl) (zz_iconst (pc := 8) xf_213_8 (zz_call_v (pc := 9) (cu := 0) (su := 0) (fun ls hr => zz_calV xf_213_9 rfl zis_115 ls hr) rfl (sp_failsR (d := d + 1) ) (zm_as (fun zM6 (ezM6 : zM6 = zup M 115 0 (1)) => zz_ireturn (pc := 12) xf_213_12 rfl (by decide +kernel) (by decide +kernel) (by first | (exfalso; omega) | (subst_vars; exact ⟨rfl, rfl⟩))))))))))
theorem sp_saveR {xs : List Int32} {d : Nat} {w : Bool} {M : zM} {C : zM} {n : Int} (hB : zBI n C zn1) (hA : rA C M) : xrun2 xs (d + 4) 214 [.ref 115] (w, zheap M) = some (.inl (some (.int (Int32.ofInt (zmany C zn1)))), (w, zheap (rsvM M))) := by
  obtain ⟨⟨a1, a2⟩, a3⟩ := id hA
  obtain ⟨⟨g1, g2⟩, ⟨g3, g4⟩, g5⟩ := id hB.g
  obtain ⟨g6, g7⟩ := hB.g.sz
  have hz : zsz C zn1 = C (zn1 + 1) 0 * C (zn1 + 1) 1 := rfl
  have hAS : rA C (rsvM M) := by
    unfold rsvM
    exact rA_c (by rw [rkS_5 (Or.inr rfl) (by decide) (by decide), zup_ne (by decide), zup_ne (by decide)]) (by rw [rkS_5 (Or.inr rfl) (by decide) (by decide), zup_ne (by decide), zup_ne (by decide)]) (by rw [rkS_o (by decide) (by decide), zup_or (by decide), zup_or (by decide)]) hA
  exact zrun_v (N := 14) (by decide) rfl (zz_aload_n (pc := 0) xf_214_0 (zmem 0 rfl) (zz_iconst (pc := 1) xf_214_1 (zz_putI (pc := 2) xf_214_2 zis_115 (by decide +kernel) rfl (by decide +kernel) (zm_as (fun zM1 (ezM1 : zM1 = zup M 115 0 (0)) => zz_aload_n (pc := 5) xf_214_5 (zmem 0 rfl) (zz_iconst (pc := 6) xf_214_6 (zz_putZ (pc := 7) xf_214_7 zis_115 (by decide +kernel) rfl (by decide +kernel) (by decide) (zm_as (fun zM2 (ezM2 : zM2 = zup zM1 115 41 (1)) => zz_aload_n (pc := 10) xf_214_10 (zmem 0 rfl) (zz_aload_n (pc := 11) xf_214_11 (zmem 0 rfl) (zz_getR (pc := 12) xf_214_12 zis_115 (by decide +kernel) rfl (zz_iconst (pc := 15) xf_214_15 (zz_iconst (pc := 16) xf_214_16 (zz_call_0 (pc := 17) (cu := 0) (su := 0) (fun ls hr => zz_calV xf_214_17 rfl zis_115 ls hr) rfl (sp0_passAll_136K (d := d + 1)) (zm_as (fun zM3 (ezM3 : zM3 = rkS zM2 136 0 467) => zz_aload_n (pc := 20) xf_214_20 (zmem 0 rfl) (zz_call_v (pc := 21) (cu := 0) (su := 0) (fun ls hr => zz_calV xf_214_21 rfl zis_115 ls hr) rfl (sp_freeManyR (d := d) hB (by subst_vars; exact hAS)) (zz_ireturn (pc := 24) xf_214_24 rfl (by decide +kernel) (by decide +kernel) (by first | (exfalso; first | omega | contradiction) | (subst_vars; exact ⟨rfl, rfl⟩))))))))))))))))))))
theorem sp_restoreR_0 {xs : List Int32} {d : Nat} {w : Bool} {M : zM} {C : zM} {n : Int} (hB : zBI n C zn1) (hc : 0 ≤ M 115 39 ∧ M 115 39 ≤ 6) (h41 : M 115 41 = 0 ∨ M 115 41 = 1) (hA1 : M 115 41 = 1 → rA C (rreM M)) (c0 : M 115 41 = 0) : xrun2 xs (d + 4) 215 [.ref 115] (w, zheap M) = some (.inl (some (.int (Int32.ofInt (0)))), (w, zheap (zup M 115 0 1))) := by
  exact zrun_v (N := 16) (by decide) rfl (zz_aload_n (pc := 0) xf_215_0 (zmem 0 rfl) (zz_getI (pc := 1) xf_215_1 zis_115 (by decide +kernel) rfl (zz_if (pc := 4) xf_215_4 (by unfold zr32; omega) (fun (zc1 : ¬ ((M 115 41) = 0)) => zz_aload_n (pc := 13) xf_215_13 (zmem 0 rfl) (zz_iconst (pc := 14) xf_215_14 (zz_putI (pc := 15) xf_215_15 zis_115 (by decide +kernel) rfl (by decide +kernel) (zm_as (fun zM3 (ezM3 : zM3 = zup M 115 0 (0)) => zz_aload_n (pc := 18) xf_215_18 (zmem 0 rfl) (zz_call_0 (pc := 19) (cu := 0) (su := 0) (fun ls hr => zz_calV xf_215_19 rfl zis_115 ls hr) rfl (sp_remembersR (d := d) (by subst_vars; rw [zup_ne (by decide)]; exact hc)) (zm_as (fun zM4 (ezM4 : zM4 = remM zM3) => zz_aload_n (pc := 22) xf_215_22 (zmem 0 rfl) (zz_aload_n (pc := 23) xf_215_23 (zmem 0 rfl) (zz_getR (pc := 24) xf_215_24 zis_115 (by decide +kernel) rfl (zz_iconst (pc := 27) xf_215_27 (zz_iconst (pc := 28) xf_215_28 (zz_call_0 (pc := 29) (cu := 0) (su := 0) (fun ls hr => zz_calV xf_215_29 rfl zis_115 ls hr) rfl (sp0_passAll_136T (d := d + 1)) (zm_as (fun zM5 (ezM5 : zM5 = rtS zM4 136 0 467) => zz_aload_n (pc := 32) xf_215_32 (zmem 0 rfl) (zz_call_v (pc := 33) (cu := 0) (su := 0) (fun ls hr => zz_calV xf_215_33 rfl zis_115 ls hr) rfl (sp_freeManyR (d := d) hB (by subst_vars; exact hA1 (by omega))) (zz_ireturn (pc := 36) xf_215_36 rfl (by decide +kernel) (by decide +kernel) (by first | (exfalso; omega) | (subst_vars; exact ⟨rfl, rfl⟩))))))))))))))))))) (fun zc20 => have zc2 : (M 115 41) = 0 := Classical.not_not.mp zc20; zz_aload_n (pc := 7) xf_215_7 (zmem 0 rfl) (zz_iconst (pc := 8) xf_215_8 (zz_call_v (pc := 9) (cu := 0) (su := 0) (fun ls hr => zz_calV xf_215_9 rfl zis_115 ls hr) rfl (sp_failsR (d := d + 2) ) (zm_as (fun zM6 (ezM6 : zM6 = zup M 115 0 (1)) => zz_ireturn (pc := 12) xf_215_12 rfl (by decide +kernel) (by decide +kernel) (by first | (exfalso; omega) | (subst_vars; exact ⟨rfl, rfl⟩))))))))))
theorem sp_restoreR_1 {xs : List Int32} {d : Nat} {w : Bool} {M : zM} {C : zM} {n : Int} (hB : zBI n C zn1) (hc : 0 ≤ M 115 39 ∧ M 115 39 ≤ 6) (h41 : M 115 41 = 0 ∨ M 115 41 = 1) (hA1 : M 115 41 = 1 → rA C (rreM M)) (c0 : ¬ (M 115 41 = 0)) : xrun2 xs (d + 4) 215 [.ref 115] (w, zheap M) = some (.inl (some (.int (Int32.ofInt (zmany C zn1)))), (w, zheap (rreM M))) := by
  exact zrun_v (N := 16) (by decide) rfl (zz_aload_n (pc := 0) xf_215_0 (zmem 0 rfl) (zz_getI (pc := 1) xf_215_1 zis_115 (by decide +kernel) rfl (zz_if (pc := 4) xf_215_4 (by unfold zr32; omega) (fun (zc1 : ¬ ((M 115 41) = 0)) => zz_aload_n (pc := 13) xf_215_13 (zmem 0 rfl) (zz_iconst (pc := 14) xf_215_14 (zz_putI (pc := 15) xf_215_15 zis_115 (by decide +kernel) rfl (by decide +kernel) (zm_as (fun zM3 (ezM3 : zM3 = zup M 115 0 (0)) => zz_aload_n (pc := 18) xf_215_18 (zmem 0 rfl) (zz_call_0 (pc := 19) (cu := 0) (su := 0) (fun ls hr => zz_calV xf_215_19 rfl zis_115 ls hr) rfl (sp_remembersR (d := d) (by subst_vars; rw [zup_ne (by decide)]; exact hc)) (zm_as (fun zM4 (ezM4 : zM4 = remM zM3) => zz_aload_n (pc := 22) xf_215_22 (zmem 0 rfl) (zz_aload_n (pc := 23) xf_215_23 (zmem 0 rfl) (zz_getR (pc := 24) xf_215_24 zis_115 (by decide +kernel) rfl (zz_iconst (pc := 27) xf_215_27 (zz_iconst (pc := 28) xf_215_28 (zz_call_0 (pc := 29) (cu := 0) (su := 0) (fun ls hr => zz_calV xf_215_29 rfl zis_115 ls hr) rfl (sp0_passAll_136T (d := d + 1)) (zm_as (fun zM5 (ezM5 : zM5 = rtS zM4 136 0 467) => zz_aload_n (pc := 32) xf_215_32 (zmem 0 rfl) (zz_call_v (pc := 33) (cu := 0) (su := 0) (fun ls hr => zz_calV xf_215_33 rfl zis_115 ls hr) rfl (sp_freeManyR (d := d) hB (by subst_vars; exact hA1 (by omega))) (zz_ireturn (pc := 36) xf_215_36 rfl (by decide +kernel) (by decide +kernel) (by first | (exfalso; omega) | (subst_vars; exact ⟨rfl, rfl⟩))))))))))))))))))) (fun zc20 => have zc2 : (M 115 41) = 0 := Classical.not_not.mp zc20; zz_aload_n (pc := 7) xf_215_7 (zmem 0 rfl) (zz_iconst (pc := 8) xf_215_8 (zz_call_v (pc := 9) (cu := 0) (su := 0) (fun ls hr => zz_calV xf_215_9 rfl zis_115 ls hr) rfl (sp_failsR (d := d + 2) ) (zm_as (fun zM6 (ezM6 : zM6 = zup M 115 0 (1)) => zz_ireturn (pc := 12) xf_215_12 rfl (by decide +kernel) (by decide +kernel) (by first | (exfalso; omega) | (subst_vars; exact ⟨rfl, rfl⟩))))))))))
end
