/-! The reference: all places of a state are passed. -/
theorem rkS_g {M : zM} {p w i f : Nat} (hp : p = 135 ∨ p = 136) (h : rvw M i = M 115 f) (hf : ¬ f = 40) (hf2 : ¬ f = 42) : zup (zup (zup (rkS M p w i) p (rkS M p w i 115 40).toNat (rkS M p w i 115 f)) 115 40 (rkS M p w i 115 40 + 1)) 115 f (rkS M p w i 115 f) = rkS M p w (i + 1) := by
  rw [rkS_5 hp hf hf2]
  exact rkS_f hp h hf hf2
theorem rvw_116 {M : zM} : ∀ j, j < 36 → rvw M (0 + j) = M 116 j := fun j hj => by
  unfold rvw

  rw [if_pos (by omega), show 0 + j - 0 = j by omega]
theorem rixi_116 {j : Nat} (h : j < 36) : rix 116 j = 0 + j := by
  unfold rix

  rw [if_pos (by omega)]
  omega
theorem rixr_116 : ∀ q' j, (0 ≤ rix q' j ∧ rix q' j < 0 + 36 ↔ q' = 116 ∧ j < 36) ∧ (q' = 116 ∧ j < 36 → rix q' j = 0 + j) := fun q' j => by
  by_cases cq : q' = 116 ∧ j < 36
  · obtain ⟨rfl, hj⟩ := cq
    rw [rixi_116 hj]
    exact ⟨⟨fun _ => ⟨rfl, hj⟩, fun _ => ⟨by omega, by omega⟩⟩, fun _ => rfl⟩
  · refine ⟨⟨fun e => absurd e ?_, fun e => absurd e cq⟩, fun e => absurd e cq⟩
    unfold rix
    by_cases c : q' = 116 ∧ j < 36
    · rw [if_pos c]
      exact absurd c cq
    rw [if_neg c]
    clear c
    by_cases c : q' = 117 ∧ j < 36
    · rw [if_pos c]
      omega
    rw [if_neg c]
    clear c
    by_cases c : q' = 118 ∧ j < 4
    · rw [if_pos c]
      omega
    rw [if_neg c]
    clear c
    by_cases c : q' = 119 ∧ j < 16
    · rw [if_pos c]
      omega
    rw [if_neg c]
    clear c
    by_cases c : q' = 120 ∧ j < 36
    · rw [if_pos c]
      omega
    rw [if_neg c]
    clear c
    by_cases c : q' = 123 ∧ j < 8
    · rw [if_pos c]
      omega
    rw [if_neg c]
    clear c
    by_cases c : q' = 124 ∧ j < 32
    · rw [if_pos c]
      omega
    rw [if_neg c]
    clear c
    by_cases c : q' = 125 ∧ j < 288
    · rw [if_pos c]
      omega
    rw [if_neg c]
    clear c
    by_cases c : q' = 115 ∧ j = 6
    · rw [if_pos c]
      omega
    rw [if_neg c]
    clear c
    by_cases c : q' = 115 ∧ j = 7
    · rw [if_pos c]
      omega
    rw [if_neg c]
    clear c
    by_cases c : q' = 115 ∧ j = 8
    · rw [if_pos c]
      omega
    rw [if_neg c]
    clear c
    by_cases c : q' = 115 ∧ j = 9
    · rw [if_pos c]
      omega
    rw [if_neg c]
    clear c
    by_cases c : q' = 115 ∧ j = 10
    · rw [if_pos c]
      omega
    rw [if_neg c]
    clear c
    by_cases c : q' = 115 ∧ j = 11
    · rw [if_pos c]
      omega
    rw [if_neg c]
    clear c
    by_cases c : q' = 115 ∧ j = 12
    · rw [if_pos c]
      omega
    rw [if_neg c]
    clear c
    by_cases c : q' = 115 ∧ j = 13
    · rw [if_pos c]
      omega
    rw [if_neg c]
    clear c
    by_cases c : q' = 115 ∧ j = 19
    · rw [if_pos c]
      omega
    rw [if_neg c]
    clear c
    by_cases c : q' = 115 ∧ j = 20
    · rw [if_pos c]
      omega
    rw [if_neg c]
    clear c
    by_cases c : q' = 115 ∧ j = 21
    · rw [if_pos c]
      omega
    rw [if_neg c]
    clear c
    omega
theorem rvw_117 {M : zM} : ∀ j, j < 36 → rvw M (36 + j) = M 117 j := fun j hj => by
  unfold rvw
  rw [if_neg (by omega)]
  rw [if_pos (by omega), show 36 + j - 36 = j by omega]
theorem rixi_117 {j : Nat} (h : j < 36) : rix 117 j = 36 + j := by
  unfold rix
  rw [if_neg (by omega)]
  rw [if_pos (by omega)]
theorem rixr_117 : ∀ q' j, (36 ≤ rix q' j ∧ rix q' j < 36 + 36 ↔ q' = 117 ∧ j < 36) ∧ (q' = 117 ∧ j < 36 → rix q' j = 36 + j) := fun q' j => by
  by_cases cq : q' = 117 ∧ j < 36
  · obtain ⟨rfl, hj⟩ := cq
    rw [rixi_117 hj]
    exact ⟨⟨fun _ => ⟨rfl, hj⟩, fun _ => ⟨by omega, by omega⟩⟩, fun _ => rfl⟩
  · refine ⟨⟨fun e => absurd e ?_, fun e => absurd e cq⟩, fun e => absurd e cq⟩
    unfold rix
    by_cases c : q' = 116 ∧ j < 36
    · rw [if_pos c]
      omega
    rw [if_neg c]
    clear c
    by_cases c : q' = 117 ∧ j < 36
    · rw [if_pos c]
      exact absurd c cq
    rw [if_neg c]
    clear c
    by_cases c : q' = 118 ∧ j < 4
    · rw [if_pos c]
      omega
    rw [if_neg c]
    clear c
    by_cases c : q' = 119 ∧ j < 16
    · rw [if_pos c]
      omega
    rw [if_neg c]
    clear c
    by_cases c : q' = 120 ∧ j < 36
    · rw [if_pos c]
      omega
    rw [if_neg c]
    clear c
    by_cases c : q' = 123 ∧ j < 8
    · rw [if_pos c]
      omega
    rw [if_neg c]
    clear c
    by_cases c : q' = 124 ∧ j < 32
    · rw [if_pos c]
      omega
    rw [if_neg c]
    clear c
    by_cases c : q' = 125 ∧ j < 288
    · rw [if_pos c]
      omega
    rw [if_neg c]
    clear c
    by_cases c : q' = 115 ∧ j = 6
    · rw [if_pos c]
      omega
    rw [if_neg c]
    clear c
    by_cases c : q' = 115 ∧ j = 7
    · rw [if_pos c]
      omega
    rw [if_neg c]
    clear c
    by_cases c : q' = 115 ∧ j = 8
    · rw [if_pos c]
      omega
    rw [if_neg c]
    clear c
    by_cases c : q' = 115 ∧ j = 9
    · rw [if_pos c]
      omega
    rw [if_neg c]
    clear c
    by_cases c : q' = 115 ∧ j = 10
    · rw [if_pos c]
      omega
    rw [if_neg c]
    clear c
    by_cases c : q' = 115 ∧ j = 11
    · rw [if_pos c]
      omega
    rw [if_neg c]
    clear c
    by_cases c : q' = 115 ∧ j = 12
    · rw [if_pos c]
      omega
    rw [if_neg c]
    clear c
    by_cases c : q' = 115 ∧ j = 13
    · rw [if_pos c]
      omega
    rw [if_neg c]
    clear c
    by_cases c : q' = 115 ∧ j = 19
    · rw [if_pos c]
      omega
    rw [if_neg c]
    clear c
    by_cases c : q' = 115 ∧ j = 20
    · rw [if_pos c]
      omega
    rw [if_neg c]
    clear c
    by_cases c : q' = 115 ∧ j = 21
    · rw [if_pos c]
      omega
    rw [if_neg c]
    clear c
    omega
theorem rvw_118 {M : zM} : ∀ j, j < 4 → rvw M (72 + j) = M 118 j := fun j hj => by
  unfold rvw
  rw [if_neg (by omega)]
  rw [if_neg (by omega)]
  rw [if_pos (by omega), show 72 + j - 72 = j by omega]
theorem rixi_118 {j : Nat} (h : j < 4) : rix 118 j = 72 + j := by
  unfold rix
  rw [if_neg (by omega)]
  rw [if_neg (by omega)]
  rw [if_pos (by omega)]
theorem rixr_118 : ∀ q' j, (72 ≤ rix q' j ∧ rix q' j < 72 + 4 ↔ q' = 118 ∧ j < 4) ∧ (q' = 118 ∧ j < 4 → rix q' j = 72 + j) := fun q' j => by
  by_cases cq : q' = 118 ∧ j < 4
  · obtain ⟨rfl, hj⟩ := cq
    rw [rixi_118 hj]
    exact ⟨⟨fun _ => ⟨rfl, hj⟩, fun _ => ⟨by omega, by omega⟩⟩, fun _ => rfl⟩
  · refine ⟨⟨fun e => absurd e ?_, fun e => absurd e cq⟩, fun e => absurd e cq⟩
    unfold rix
    by_cases c : q' = 116 ∧ j < 36
    · rw [if_pos c]
      omega
    rw [if_neg c]
    clear c
    by_cases c : q' = 117 ∧ j < 36
    · rw [if_pos c]
      omega
    rw [if_neg c]
    clear c
    by_cases c : q' = 118 ∧ j < 4
    · rw [if_pos c]
      exact absurd c cq
    rw [if_neg c]
    clear c
    by_cases c : q' = 119 ∧ j < 16
    · rw [if_pos c]
      omega
    rw [if_neg c]
    clear c
    by_cases c : q' = 120 ∧ j < 36
    · rw [if_pos c]
      omega
    rw [if_neg c]
    clear c
    by_cases c : q' = 123 ∧ j < 8
    · rw [if_pos c]
      omega
    rw [if_neg c]
    clear c
    by_cases c : q' = 124 ∧ j < 32
    · rw [if_pos c]
      omega
    rw [if_neg c]
    clear c
    by_cases c : q' = 125 ∧ j < 288
    · rw [if_pos c]
      omega
    rw [if_neg c]
    clear c
    by_cases c : q' = 115 ∧ j = 6
    · rw [if_pos c]
      omega
    rw [if_neg c]
    clear c
    by_cases c : q' = 115 ∧ j = 7
    · rw [if_pos c]
      omega
    rw [if_neg c]
    clear c
    by_cases c : q' = 115 ∧ j = 8
    · rw [if_pos c]
      omega
    rw [if_neg c]
    clear c
    by_cases c : q' = 115 ∧ j = 9
    · rw [if_pos c]
      omega
    rw [if_neg c]
    clear c
    by_cases c : q' = 115 ∧ j = 10
    · rw [if_pos c]
      omega
    rw [if_neg c]
    clear c
    by_cases c : q' = 115 ∧ j = 11
    · rw [if_pos c]
      omega
    rw [if_neg c]
    clear c
    by_cases c : q' = 115 ∧ j = 12
    · rw [if_pos c]
      omega
    rw [if_neg c]
    clear c
    by_cases c : q' = 115 ∧ j = 13
    · rw [if_pos c]
      omega
    rw [if_neg c]
    clear c
    by_cases c : q' = 115 ∧ j = 19
    · rw [if_pos c]
      omega
    rw [if_neg c]
    clear c
    by_cases c : q' = 115 ∧ j = 20
    · rw [if_pos c]
      omega
    rw [if_neg c]
    clear c
    by_cases c : q' = 115 ∧ j = 21
    · rw [if_pos c]
      omega
    rw [if_neg c]
    clear c
    omega
theorem rvw_119 {M : zM} : ∀ j, j < 16 → rvw M (76 + j) = M 119 j := fun j hj => by
  unfold rvw
  rw [if_neg (by omega)]
  rw [if_neg (by omega)]
  rw [if_neg (by omega)]
  rw [if_pos (by omega), show 76 + j - 76 = j by omega]
theorem rixi_119 {j : Nat} (h : j < 16) : rix 119 j = 76 + j := by
  unfold rix
  rw [if_neg (by omega)]
  rw [if_neg (by omega)]
  rw [if_neg (by omega)]
  rw [if_pos (by omega)]
theorem rixr_119 : ∀ q' j, (76 ≤ rix q' j ∧ rix q' j < 76 + 16 ↔ q' = 119 ∧ j < 16) ∧ (q' = 119 ∧ j < 16 → rix q' j = 76 + j) := fun q' j => by
  by_cases cq : q' = 119 ∧ j < 16
  · obtain ⟨rfl, hj⟩ := cq
    rw [rixi_119 hj]
    exact ⟨⟨fun _ => ⟨rfl, hj⟩, fun _ => ⟨by omega, by omega⟩⟩, fun _ => rfl⟩
  · refine ⟨⟨fun e => absurd e ?_, fun e => absurd e cq⟩, fun e => absurd e cq⟩
    unfold rix
    by_cases c : q' = 116 ∧ j < 36
    · rw [if_pos c]
      omega
    rw [if_neg c]
    clear c
    by_cases c : q' = 117 ∧ j < 36
    · rw [if_pos c]
      omega
    rw [if_neg c]
    clear c
    by_cases c : q' = 118 ∧ j < 4
    · rw [if_pos c]
      omega
    rw [if_neg c]
    clear c
    by_cases c : q' = 119 ∧ j < 16
    · rw [if_pos c]
      exact absurd c cq
    rw [if_neg c]
    clear c
    by_cases c : q' = 120 ∧ j < 36
    · rw [if_pos c]
      omega
    rw [if_neg c]
    clear c
    by_cases c : q' = 123 ∧ j < 8
    · rw [if_pos c]
      omega
    rw [if_neg c]
    clear c
    by_cases c : q' = 124 ∧ j < 32
    · rw [if_pos c]
      omega
    rw [if_neg c]
    clear c
    by_cases c : q' = 125 ∧ j < 288
    · rw [if_pos c]
      omega
    rw [if_neg c]
    clear c
    by_cases c : q' = 115 ∧ j = 6
    · rw [if_pos c]
      omega
    rw [if_neg c]
    clear c
    by_cases c : q' = 115 ∧ j = 7
    · rw [if_pos c]
      omega
    rw [if_neg c]
    clear c
    by_cases c : q' = 115 ∧ j = 8
    · rw [if_pos c]
      omega
    rw [if_neg c]
    clear c
    by_cases c : q' = 115 ∧ j = 9
    · rw [if_pos c]
      omega
    rw [if_neg c]
    clear c
    by_cases c : q' = 115 ∧ j = 10
    · rw [if_pos c]
      omega
    rw [if_neg c]
    clear c
    by_cases c : q' = 115 ∧ j = 11
    · rw [if_pos c]
      omega
    rw [if_neg c]
    clear c
    by_cases c : q' = 115 ∧ j = 12
    · rw [if_pos c]
      omega
    rw [if_neg c]
    clear c
    by_cases c : q' = 115 ∧ j = 13
    · rw [if_pos c]
      omega
    rw [if_neg c]
    clear c
    by_cases c : q' = 115 ∧ j = 19
    · rw [if_pos c]
      omega
    rw [if_neg c]
    clear c
    by_cases c : q' = 115 ∧ j = 20
    · rw [if_pos c]
      omega
    rw [if_neg c]
    clear c
    by_cases c : q' = 115 ∧ j = 21
    · rw [if_pos c]
      omega
    rw [if_neg c]
    clear c
    omega
theorem rvw_120 {M : zM} : ∀ j, j < 36 → rvw M (92 + j) = M 120 j := fun j hj => by
  unfold rvw
  rw [if_neg (by omega)]
  rw [if_neg (by omega)]
  rw [if_neg (by omega)]
  rw [if_neg (by omega)]
  rw [if_pos (by omega), show 92 + j - 92 = j by omega]
theorem rixi_120 {j : Nat} (h : j < 36) : rix 120 j = 92 + j := by
  unfold rix
  rw [if_neg (by omega)]
  rw [if_neg (by omega)]
  rw [if_neg (by omega)]
  rw [if_neg (by omega)]
  rw [if_pos (by omega)]
theorem rixr_120 : ∀ q' j, (92 ≤ rix q' j ∧ rix q' j < 92 + 36 ↔ q' = 120 ∧ j < 36) ∧ (q' = 120 ∧ j < 36 → rix q' j = 92 + j) := fun q' j => by
  by_cases cq : q' = 120 ∧ j < 36
  · obtain ⟨rfl, hj⟩ := cq
    rw [rixi_120 hj]
    exact ⟨⟨fun _ => ⟨rfl, hj⟩, fun _ => ⟨by omega, by omega⟩⟩, fun _ => rfl⟩
  · refine ⟨⟨fun e => absurd e ?_, fun e => absurd e cq⟩, fun e => absurd e cq⟩
    unfold rix
    by_cases c : q' = 116 ∧ j < 36
    · rw [if_pos c]
      omega
    rw [if_neg c]
    clear c
    by_cases c : q' = 117 ∧ j < 36
    · rw [if_pos c]
      omega
    rw [if_neg c]
    clear c
    by_cases c : q' = 118 ∧ j < 4
    · rw [if_pos c]
      omega
    rw [if_neg c]
    clear c
    by_cases c : q' = 119 ∧ j < 16
    · rw [if_pos c]
      omega
    rw [if_neg c]
    clear c
    by_cases c : q' = 120 ∧ j < 36
    · rw [if_pos c]
      exact absurd c cq
    rw [if_neg c]
    clear c
    by_cases c : q' = 123 ∧ j < 8
    · rw [if_pos c]
      omega
    rw [if_neg c]
    clear c
    by_cases c : q' = 124 ∧ j < 32
    · rw [if_pos c]
      omega
    rw [if_neg c]
    clear c
    by_cases c : q' = 125 ∧ j < 288
    · rw [if_pos c]
      omega
    rw [if_neg c]
    clear c
    by_cases c : q' = 115 ∧ j = 6
    · rw [if_pos c]
      omega
    rw [if_neg c]
    clear c
    by_cases c : q' = 115 ∧ j = 7
    · rw [if_pos c]
      omega
    rw [if_neg c]
    clear c
    by_cases c : q' = 115 ∧ j = 8
    · rw [if_pos c]
      omega
    rw [if_neg c]
    clear c
    by_cases c : q' = 115 ∧ j = 9
    · rw [if_pos c]
      omega
    rw [if_neg c]
    clear c
    by_cases c : q' = 115 ∧ j = 10
    · rw [if_pos c]
      omega
    rw [if_neg c]
    clear c
    by_cases c : q' = 115 ∧ j = 11
    · rw [if_pos c]
      omega
    rw [if_neg c]
    clear c
    by_cases c : q' = 115 ∧ j = 12
    · rw [if_pos c]
      omega
    rw [if_neg c]
    clear c
    by_cases c : q' = 115 ∧ j = 13
    · rw [if_pos c]
      omega
    rw [if_neg c]
    clear c
    by_cases c : q' = 115 ∧ j = 19
    · rw [if_pos c]
      omega
    rw [if_neg c]
    clear c
    by_cases c : q' = 115 ∧ j = 20
    · rw [if_pos c]
      omega
    rw [if_neg c]
    clear c
    by_cases c : q' = 115 ∧ j = 21
    · rw [if_pos c]
      omega
    rw [if_neg c]
    clear c
    omega
theorem rvw_123 {M : zM} : ∀ j, j < 8 → rvw M (128 + j) = M 123 j := fun j hj => by
  unfold rvw
  rw [if_neg (by omega)]
  rw [if_neg (by omega)]
  rw [if_neg (by omega)]
  rw [if_neg (by omega)]
  rw [if_neg (by omega)]
  rw [if_pos (by omega), show 128 + j - 128 = j by omega]
theorem rixi_123 {j : Nat} (h : j < 8) : rix 123 j = 128 + j := by
  unfold rix
  rw [if_neg (by omega)]
  rw [if_neg (by omega)]
  rw [if_neg (by omega)]
  rw [if_neg (by omega)]
  rw [if_neg (by omega)]
  rw [if_pos (by omega)]
theorem rixr_123 : ∀ q' j, (128 ≤ rix q' j ∧ rix q' j < 128 + 8 ↔ q' = 123 ∧ j < 8) ∧ (q' = 123 ∧ j < 8 → rix q' j = 128 + j) := fun q' j => by
  by_cases cq : q' = 123 ∧ j < 8
  · obtain ⟨rfl, hj⟩ := cq
    rw [rixi_123 hj]
    exact ⟨⟨fun _ => ⟨rfl, hj⟩, fun _ => ⟨by omega, by omega⟩⟩, fun _ => rfl⟩
  · refine ⟨⟨fun e => absurd e ?_, fun e => absurd e cq⟩, fun e => absurd e cq⟩
    unfold rix
    by_cases c : q' = 116 ∧ j < 36
    · rw [if_pos c]
      omega
    rw [if_neg c]
    clear c
    by_cases c : q' = 117 ∧ j < 36
    · rw [if_pos c]
      omega
    rw [if_neg c]
    clear c
    by_cases c : q' = 118 ∧ j < 4
    · rw [if_pos c]
      omega
    rw [if_neg c]
    clear c
    by_cases c : q' = 119 ∧ j < 16
    · rw [if_pos c]
      omega
    rw [if_neg c]
    clear c
    by_cases c : q' = 120 ∧ j < 36
    · rw [if_pos c]
      omega
    rw [if_neg c]
    clear c
    by_cases c : q' = 123 ∧ j < 8
    · rw [if_pos c]
      exact absurd c cq
    rw [if_neg c]
    clear c
    by_cases c : q' = 124 ∧ j < 32
    · rw [if_pos c]
      omega
    rw [if_neg c]
    clear c
    by_cases c : q' = 125 ∧ j < 288
    · rw [if_pos c]
      omega
    rw [if_neg c]
    clear c
    by_cases c : q' = 115 ∧ j = 6
    · rw [if_pos c]
      omega
    rw [if_neg c]
    clear c
    by_cases c : q' = 115 ∧ j = 7
    · rw [if_pos c]
      omega
    rw [if_neg c]
    clear c
    by_cases c : q' = 115 ∧ j = 8
    · rw [if_pos c]
      omega
    rw [if_neg c]
    clear c
    by_cases c : q' = 115 ∧ j = 9
    · rw [if_pos c]
      omega
    rw [if_neg c]
    clear c
    by_cases c : q' = 115 ∧ j = 10
    · rw [if_pos c]
      omega
    rw [if_neg c]
    clear c
    by_cases c : q' = 115 ∧ j = 11
    · rw [if_pos c]
      omega
    rw [if_neg c]
    clear c
    by_cases c : q' = 115 ∧ j = 12
    · rw [if_pos c]
      omega
    rw [if_neg c]
    clear c
    by_cases c : q' = 115 ∧ j = 13
    · rw [if_pos c]
      omega
    rw [if_neg c]
    clear c
    by_cases c : q' = 115 ∧ j = 19
    · rw [if_pos c]
      omega
    rw [if_neg c]
    clear c
    by_cases c : q' = 115 ∧ j = 20
    · rw [if_pos c]
      omega
    rw [if_neg c]
    clear c
    by_cases c : q' = 115 ∧ j = 21
    · rw [if_pos c]
      omega
    rw [if_neg c]
    clear c
    omega
theorem rvw_124 {M : zM} : ∀ j, j < 32 → rvw M (136 + j) = M 124 j := fun j hj => by
  unfold rvw
  rw [if_neg (by omega)]
  rw [if_neg (by omega)]
  rw [if_neg (by omega)]
  rw [if_neg (by omega)]
  rw [if_neg (by omega)]
  rw [if_neg (by omega)]
  rw [if_pos (by omega), show 136 + j - 136 = j by omega]
theorem rixi_124 {j : Nat} (h : j < 32) : rix 124 j = 136 + j := by
  unfold rix
  rw [if_neg (by omega)]
  rw [if_neg (by omega)]
  rw [if_neg (by omega)]
  rw [if_neg (by omega)]
  rw [if_neg (by omega)]
  rw [if_neg (by omega)]
  rw [if_pos (by omega)]
theorem rixr_124 : ∀ q' j, (136 ≤ rix q' j ∧ rix q' j < 136 + 32 ↔ q' = 124 ∧ j < 32) ∧ (q' = 124 ∧ j < 32 → rix q' j = 136 + j) := fun q' j => by
  by_cases cq : q' = 124 ∧ j < 32
  · obtain ⟨rfl, hj⟩ := cq
    rw [rixi_124 hj]
    exact ⟨⟨fun _ => ⟨rfl, hj⟩, fun _ => ⟨by omega, by omega⟩⟩, fun _ => rfl⟩
  · refine ⟨⟨fun e => absurd e ?_, fun e => absurd e cq⟩, fun e => absurd e cq⟩
    unfold rix
    by_cases c : q' = 116 ∧ j < 36
    · rw [if_pos c]
      omega
    rw [if_neg c]
    clear c
    by_cases c : q' = 117 ∧ j < 36
    · rw [if_pos c]
      omega
    rw [if_neg c]
    clear c
    by_cases c : q' = 118 ∧ j < 4
    · rw [if_pos c]
      omega
    rw [if_neg c]
    clear c
    by_cases c : q' = 119 ∧ j < 16
    · rw [if_pos c]
      omega
    rw [if_neg c]
    clear c
    by_cases c : q' = 120 ∧ j < 36
    · rw [if_pos c]
      omega
    rw [if_neg c]
    clear c
    by_cases c : q' = 123 ∧ j < 8
    · rw [if_pos c]
      omega
    rw [if_neg c]
    clear c
    by_cases c : q' = 124 ∧ j < 32
    · rw [if_pos c]
      exact absurd c cq
    rw [if_neg c]
    clear c
    by_cases c : q' = 125 ∧ j < 288
    · rw [if_pos c]
      omega
    rw [if_neg c]
    clear c
    by_cases c : q' = 115 ∧ j = 6
    · rw [if_pos c]
      omega
    rw [if_neg c]
    clear c
    by_cases c : q' = 115 ∧ j = 7
    · rw [if_pos c]
      omega
    rw [if_neg c]
    clear c
    by_cases c : q' = 115 ∧ j = 8
    · rw [if_pos c]
      omega
    rw [if_neg c]
    clear c
    by_cases c : q' = 115 ∧ j = 9
    · rw [if_pos c]
      omega
    rw [if_neg c]
    clear c
    by_cases c : q' = 115 ∧ j = 10
    · rw [if_pos c]
      omega
    rw [if_neg c]
    clear c
    by_cases c : q' = 115 ∧ j = 11
    · rw [if_pos c]
      omega
    rw [if_neg c]
    clear c
    by_cases c : q' = 115 ∧ j = 12
    · rw [if_pos c]
      omega
    rw [if_neg c]
    clear c
    by_cases c : q' = 115 ∧ j = 13
    · rw [if_pos c]
      omega
    rw [if_neg c]
    clear c
    by_cases c : q' = 115 ∧ j = 19
    · rw [if_pos c]
      omega
    rw [if_neg c]
    clear c
    by_cases c : q' = 115 ∧ j = 20
    · rw [if_pos c]
      omega
    rw [if_neg c]
    clear c
    by_cases c : q' = 115 ∧ j = 21
    · rw [if_pos c]
      omega
    rw [if_neg c]
    clear c
    omega
theorem rvw_125 {M : zM} : ∀ j, j < 288 → rvw M (168 + j) = M 125 j := fun j hj => by
  unfold rvw
  rw [if_neg (by omega)]
  rw [if_neg (by omega)]
  rw [if_neg (by omega)]
  rw [if_neg (by omega)]
  rw [if_neg (by omega)]
  rw [if_neg (by omega)]
  rw [if_neg (by omega)]
  rw [if_pos (by omega), show 168 + j - 168 = j by omega]
theorem rixi_125 {j : Nat} (h : j < 288) : rix 125 j = 168 + j := by
  unfold rix
  rw [if_neg (by omega)]
  rw [if_neg (by omega)]
  rw [if_neg (by omega)]
  rw [if_neg (by omega)]
  rw [if_neg (by omega)]
  rw [if_neg (by omega)]
  rw [if_neg (by omega)]
  rw [if_pos (by omega)]
theorem rixr_125 : ∀ q' j, (168 ≤ rix q' j ∧ rix q' j < 168 + 288 ↔ q' = 125 ∧ j < 288) ∧ (q' = 125 ∧ j < 288 → rix q' j = 168 + j) := fun q' j => by
  by_cases cq : q' = 125 ∧ j < 288
  · obtain ⟨rfl, hj⟩ := cq
    rw [rixi_125 hj]
    exact ⟨⟨fun _ => ⟨rfl, hj⟩, fun _ => ⟨by omega, by omega⟩⟩, fun _ => rfl⟩
  · refine ⟨⟨fun e => absurd e ?_, fun e => absurd e cq⟩, fun e => absurd e cq⟩
    unfold rix
    by_cases c : q' = 116 ∧ j < 36
    · rw [if_pos c]
      omega
    rw [if_neg c]
    clear c
    by_cases c : q' = 117 ∧ j < 36
    · rw [if_pos c]
      omega
    rw [if_neg c]
    clear c
    by_cases c : q' = 118 ∧ j < 4
    · rw [if_pos c]
      omega
    rw [if_neg c]
    clear c
    by_cases c : q' = 119 ∧ j < 16
    · rw [if_pos c]
      omega
    rw [if_neg c]
    clear c
    by_cases c : q' = 120 ∧ j < 36
    · rw [if_pos c]
      omega
    rw [if_neg c]
    clear c
    by_cases c : q' = 123 ∧ j < 8
    · rw [if_pos c]
      omega
    rw [if_neg c]
    clear c
    by_cases c : q' = 124 ∧ j < 32
    · rw [if_pos c]
      omega
    rw [if_neg c]
    clear c
    by_cases c : q' = 125 ∧ j < 288
    · rw [if_pos c]
      exact absurd c cq
    rw [if_neg c]
    clear c
    by_cases c : q' = 115 ∧ j = 6
    · rw [if_pos c]
      omega
    rw [if_neg c]
    clear c
    by_cases c : q' = 115 ∧ j = 7
    · rw [if_pos c]
      omega
    rw [if_neg c]
    clear c
    by_cases c : q' = 115 ∧ j = 8
    · rw [if_pos c]
      omega
    rw [if_neg c]
    clear c
    by_cases c : q' = 115 ∧ j = 9
    · rw [if_pos c]
      omega
    rw [if_neg c]
    clear c
    by_cases c : q' = 115 ∧ j = 10
    · rw [if_pos c]
      omega
    rw [if_neg c]
    clear c
    by_cases c : q' = 115 ∧ j = 11
    · rw [if_pos c]
      omega
    rw [if_neg c]
    clear c
    by_cases c : q' = 115 ∧ j = 12
    · rw [if_pos c]
      omega
    rw [if_neg c]
    clear c
    by_cases c : q' = 115 ∧ j = 13
    · rw [if_pos c]
      omega
    rw [if_neg c]
    clear c
    by_cases c : q' = 115 ∧ j = 19
    · rw [if_pos c]
      omega
    rw [if_neg c]
    clear c
    by_cases c : q' = 115 ∧ j = 20
    · rw [if_pos c]
      omega
    rw [if_neg c]
    clear c
    by_cases c : q' = 115 ∧ j = 21
    · rw [if_pos c]
      omega
    rw [if_neg c]
    clear c
    omega
theorem rvwf_6 {M : zM} : rvw M 456 = M 115 6 := by
  unfold rvw
  rw [if_neg (by decide)]
  rw [if_neg (by decide)]
  rw [if_neg (by decide)]
  rw [if_neg (by decide)]
  rw [if_neg (by decide)]
  rw [if_neg (by decide)]
  rw [if_neg (by decide)]
  rw [if_neg (by decide)]
  rw [if_pos rfl]
theorem rixg_6 : rix 115 6 = 456 := by decide
theorem rixf_6 : ∀ q' j, (rix q' j = 456 ↔ q' = 115 ∧ j = 6) := fun q' j => by
  by_cases cq : q' = 115 ∧ j = 6
  · obtain ⟨rfl, rfl⟩ := cq
    exact ⟨fun _ => ⟨rfl, rfl⟩, fun _ => rixg_6⟩
  · refine ⟨fun e => absurd e ?_, fun e => absurd e cq⟩
    unfold rix
    by_cases c : q' = 116 ∧ j < 36
    · rw [if_pos c]
      omega
    rw [if_neg c]
    clear c
    by_cases c : q' = 117 ∧ j < 36
    · rw [if_pos c]
      omega
    rw [if_neg c]
    clear c
    by_cases c : q' = 118 ∧ j < 4
    · rw [if_pos c]
      omega
    rw [if_neg c]
    clear c
    by_cases c : q' = 119 ∧ j < 16
    · rw [if_pos c]
      omega
    rw [if_neg c]
    clear c
    by_cases c : q' = 120 ∧ j < 36
    · rw [if_pos c]
      omega
    rw [if_neg c]
    clear c
    by_cases c : q' = 123 ∧ j < 8
    · rw [if_pos c]
      omega
    rw [if_neg c]
    clear c
    by_cases c : q' = 124 ∧ j < 32
    · rw [if_pos c]
      omega
    rw [if_neg c]
    clear c
    by_cases c : q' = 125 ∧ j < 288
    · rw [if_pos c]
      omega
    rw [if_neg c]
    clear c
    by_cases c : q' = 115 ∧ j = 6
    · rw [if_pos c]
      exact absurd c cq
    rw [if_neg c]
    clear c
    by_cases c : q' = 115 ∧ j = 7
    · rw [if_pos c]
      omega
    rw [if_neg c]
    clear c
    by_cases c : q' = 115 ∧ j = 8
    · rw [if_pos c]
      omega
    rw [if_neg c]
    clear c
    by_cases c : q' = 115 ∧ j = 9
    · rw [if_pos c]
      omega
    rw [if_neg c]
    clear c
    by_cases c : q' = 115 ∧ j = 10
    · rw [if_pos c]
      omega
    rw [if_neg c]
    clear c
    by_cases c : q' = 115 ∧ j = 11
    · rw [if_pos c]
      omega
    rw [if_neg c]
    clear c
    by_cases c : q' = 115 ∧ j = 12
    · rw [if_pos c]
      omega
    rw [if_neg c]
    clear c
    by_cases c : q' = 115 ∧ j = 13
    · rw [if_pos c]
      omega
    rw [if_neg c]
    clear c
    by_cases c : q' = 115 ∧ j = 19
    · rw [if_pos c]
      omega
    rw [if_neg c]
    clear c
    by_cases c : q' = 115 ∧ j = 20
    · rw [if_pos c]
      omega
    rw [if_neg c]
    clear c
    by_cases c : q' = 115 ∧ j = 21
    · rw [if_pos c]
      omega
    rw [if_neg c]
    clear c
    decide
theorem rvwf_7 {M : zM} : rvw M 457 = M 115 7 := by
  unfold rvw
  rw [if_neg (by decide)]
  rw [if_neg (by decide)]
  rw [if_neg (by decide)]
  rw [if_neg (by decide)]
  rw [if_neg (by decide)]
  rw [if_neg (by decide)]
  rw [if_neg (by decide)]
  rw [if_neg (by decide)]
  rw [if_neg (by decide)]
  rw [if_pos rfl]
theorem rixg_7 : rix 115 7 = 457 := by decide
theorem rixf_7 : ∀ q' j, (rix q' j = 457 ↔ q' = 115 ∧ j = 7) := fun q' j => by
  by_cases cq : q' = 115 ∧ j = 7
  · obtain ⟨rfl, rfl⟩ := cq
    exact ⟨fun _ => ⟨rfl, rfl⟩, fun _ => rixg_7⟩
  · refine ⟨fun e => absurd e ?_, fun e => absurd e cq⟩
    unfold rix
    by_cases c : q' = 116 ∧ j < 36
    · rw [if_pos c]
      omega
    rw [if_neg c]
    clear c
    by_cases c : q' = 117 ∧ j < 36
    · rw [if_pos c]
      omega
    rw [if_neg c]
    clear c
    by_cases c : q' = 118 ∧ j < 4
    · rw [if_pos c]
      omega
    rw [if_neg c]
    clear c
    by_cases c : q' = 119 ∧ j < 16
    · rw [if_pos c]
      omega
    rw [if_neg c]
    clear c
    by_cases c : q' = 120 ∧ j < 36
    · rw [if_pos c]
      omega
    rw [if_neg c]
    clear c
    by_cases c : q' = 123 ∧ j < 8
    · rw [if_pos c]
      omega
    rw [if_neg c]
    clear c
    by_cases c : q' = 124 ∧ j < 32
    · rw [if_pos c]
      omega
    rw [if_neg c]
    clear c
    by_cases c : q' = 125 ∧ j < 288
    · rw [if_pos c]
      omega
    rw [if_neg c]
    clear c
    by_cases c : q' = 115 ∧ j = 6
    · rw [if_pos c]
      omega
    rw [if_neg c]
    clear c
    by_cases c : q' = 115 ∧ j = 7
    · rw [if_pos c]
      exact absurd c cq
    rw [if_neg c]
    clear c
    by_cases c : q' = 115 ∧ j = 8
    · rw [if_pos c]
      omega
    rw [if_neg c]
    clear c
    by_cases c : q' = 115 ∧ j = 9
    · rw [if_pos c]
      omega
    rw [if_neg c]
    clear c
    by_cases c : q' = 115 ∧ j = 10
    · rw [if_pos c]
      omega
    rw [if_neg c]
    clear c
    by_cases c : q' = 115 ∧ j = 11
    · rw [if_pos c]
      omega
    rw [if_neg c]
    clear c
    by_cases c : q' = 115 ∧ j = 12
    · rw [if_pos c]
      omega
    rw [if_neg c]
    clear c
    by_cases c : q' = 115 ∧ j = 13
    · rw [if_pos c]
      omega
    rw [if_neg c]
    clear c
    by_cases c : q' = 115 ∧ j = 19
    · rw [if_pos c]
      omega
    rw [if_neg c]
    clear c
    by_cases c : q' = 115 ∧ j = 20
    · rw [if_pos c]
      omega
    rw [if_neg c]
    clear c
    by_cases c : q' = 115 ∧ j = 21
    · rw [if_pos c]
      omega
    rw [if_neg c]
    clear c
    decide
theorem rvwf_8 {M : zM} : rvw M 458 = M 115 8 := by
  unfold rvw
  rw [if_neg (by decide)]
  rw [if_neg (by decide)]
  rw [if_neg (by decide)]
  rw [if_neg (by decide)]
  rw [if_neg (by decide)]
  rw [if_neg (by decide)]
  rw [if_neg (by decide)]
  rw [if_neg (by decide)]
  rw [if_neg (by decide)]
  rw [if_neg (by decide)]
  rw [if_pos rfl]
theorem rixg_8 : rix 115 8 = 458 := by decide
theorem rixf_8 : ∀ q' j, (rix q' j = 458 ↔ q' = 115 ∧ j = 8) := fun q' j => by
  by_cases cq : q' = 115 ∧ j = 8
  · obtain ⟨rfl, rfl⟩ := cq
    exact ⟨fun _ => ⟨rfl, rfl⟩, fun _ => rixg_8⟩
  · refine ⟨fun e => absurd e ?_, fun e => absurd e cq⟩
    unfold rix
    by_cases c : q' = 116 ∧ j < 36
    · rw [if_pos c]
      omega
    rw [if_neg c]
    clear c
    by_cases c : q' = 117 ∧ j < 36
    · rw [if_pos c]
      omega
    rw [if_neg c]
    clear c
    by_cases c : q' = 118 ∧ j < 4
    · rw [if_pos c]
      omega
    rw [if_neg c]
    clear c
    by_cases c : q' = 119 ∧ j < 16
    · rw [if_pos c]
      omega
    rw [if_neg c]
    clear c
    by_cases c : q' = 120 ∧ j < 36
    · rw [if_pos c]
      omega
    rw [if_neg c]
    clear c
    by_cases c : q' = 123 ∧ j < 8
    · rw [if_pos c]
      omega
    rw [if_neg c]
    clear c
    by_cases c : q' = 124 ∧ j < 32
    · rw [if_pos c]
      omega
    rw [if_neg c]
    clear c
    by_cases c : q' = 125 ∧ j < 288
    · rw [if_pos c]
      omega
    rw [if_neg c]
    clear c
    by_cases c : q' = 115 ∧ j = 6
    · rw [if_pos c]
      omega
    rw [if_neg c]
    clear c
    by_cases c : q' = 115 ∧ j = 7
    · rw [if_pos c]
      omega
    rw [if_neg c]
    clear c
    by_cases c : q' = 115 ∧ j = 8
    · rw [if_pos c]
      exact absurd c cq
    rw [if_neg c]
    clear c
    by_cases c : q' = 115 ∧ j = 9
    · rw [if_pos c]
      omega
    rw [if_neg c]
    clear c
    by_cases c : q' = 115 ∧ j = 10
    · rw [if_pos c]
      omega
    rw [if_neg c]
    clear c
    by_cases c : q' = 115 ∧ j = 11
    · rw [if_pos c]
      omega
    rw [if_neg c]
    clear c
    by_cases c : q' = 115 ∧ j = 12
    · rw [if_pos c]
      omega
    rw [if_neg c]
    clear c
    by_cases c : q' = 115 ∧ j = 13
    · rw [if_pos c]
      omega
    rw [if_neg c]
    clear c
    by_cases c : q' = 115 ∧ j = 19
    · rw [if_pos c]
      omega
    rw [if_neg c]
    clear c
    by_cases c : q' = 115 ∧ j = 20
    · rw [if_pos c]
      omega
    rw [if_neg c]
    clear c
    by_cases c : q' = 115 ∧ j = 21
    · rw [if_pos c]
      omega
    rw [if_neg c]
    clear c
    decide
theorem rvwf_9 {M : zM} : rvw M 459 = M 115 9 := by
  unfold rvw
  rw [if_neg (by decide)]
  rw [if_neg (by decide)]
  rw [if_neg (by decide)]
  rw [if_neg (by decide)]
  rw [if_neg (by decide)]
  rw [if_neg (by decide)]
  rw [if_neg (by decide)]
  rw [if_neg (by decide)]
  rw [if_neg (by decide)]
  rw [if_neg (by decide)]
  rw [if_neg (by decide)]
  rw [if_pos rfl]
theorem rixg_9 : rix 115 9 = 459 := by decide
theorem rixf_9 : ∀ q' j, (rix q' j = 459 ↔ q' = 115 ∧ j = 9) := fun q' j => by
  by_cases cq : q' = 115 ∧ j = 9
  · obtain ⟨rfl, rfl⟩ := cq
    exact ⟨fun _ => ⟨rfl, rfl⟩, fun _ => rixg_9⟩
  · refine ⟨fun e => absurd e ?_, fun e => absurd e cq⟩
    unfold rix
    by_cases c : q' = 116 ∧ j < 36
    · rw [if_pos c]
      omega
    rw [if_neg c]
    clear c
    by_cases c : q' = 117 ∧ j < 36
    · rw [if_pos c]
      omega
    rw [if_neg c]
    clear c
    by_cases c : q' = 118 ∧ j < 4
    · rw [if_pos c]
      omega
    rw [if_neg c]
    clear c
    by_cases c : q' = 119 ∧ j < 16
    · rw [if_pos c]
      omega
    rw [if_neg c]
    clear c
    by_cases c : q' = 120 ∧ j < 36
    · rw [if_pos c]
      omega
    rw [if_neg c]
    clear c
    by_cases c : q' = 123 ∧ j < 8
    · rw [if_pos c]
      omega
    rw [if_neg c]
    clear c
    by_cases c : q' = 124 ∧ j < 32
    · rw [if_pos c]
      omega
    rw [if_neg c]
    clear c
    by_cases c : q' = 125 ∧ j < 288
    · rw [if_pos c]
      omega
    rw [if_neg c]
    clear c
    by_cases c : q' = 115 ∧ j = 6
    · rw [if_pos c]
      omega
    rw [if_neg c]
    clear c
    by_cases c : q' = 115 ∧ j = 7
    · rw [if_pos c]
      omega
    rw [if_neg c]
    clear c
    by_cases c : q' = 115 ∧ j = 8
    · rw [if_pos c]
      omega
    rw [if_neg c]
    clear c
    by_cases c : q' = 115 ∧ j = 9
    · rw [if_pos c]
      exact absurd c cq
    rw [if_neg c]
    clear c
    by_cases c : q' = 115 ∧ j = 10
    · rw [if_pos c]
      omega
    rw [if_neg c]
    clear c
    by_cases c : q' = 115 ∧ j = 11
    · rw [if_pos c]
      omega
    rw [if_neg c]
    clear c
    by_cases c : q' = 115 ∧ j = 12
    · rw [if_pos c]
      omega
    rw [if_neg c]
    clear c
    by_cases c : q' = 115 ∧ j = 13
    · rw [if_pos c]
      omega
    rw [if_neg c]
    clear c
    by_cases c : q' = 115 ∧ j = 19
    · rw [if_pos c]
      omega
    rw [if_neg c]
    clear c
    by_cases c : q' = 115 ∧ j = 20
    · rw [if_pos c]
      omega
    rw [if_neg c]
    clear c
    by_cases c : q' = 115 ∧ j = 21
    · rw [if_pos c]
      omega
    rw [if_neg c]
    clear c
    decide
theorem rvwf_10 {M : zM} : rvw M 460 = M 115 10 := by
  unfold rvw
  rw [if_neg (by decide)]
  rw [if_neg (by decide)]
  rw [if_neg (by decide)]
  rw [if_neg (by decide)]
  rw [if_neg (by decide)]
  rw [if_neg (by decide)]
  rw [if_neg (by decide)]
  rw [if_neg (by decide)]
  rw [if_neg (by decide)]
  rw [if_neg (by decide)]
  rw [if_neg (by decide)]
  rw [if_neg (by decide)]
  rw [if_pos rfl]
theorem rixg_10 : rix 115 10 = 460 := by decide
theorem rixf_10 : ∀ q' j, (rix q' j = 460 ↔ q' = 115 ∧ j = 10) := fun q' j => by
  by_cases cq : q' = 115 ∧ j = 10
  · obtain ⟨rfl, rfl⟩ := cq
    exact ⟨fun _ => ⟨rfl, rfl⟩, fun _ => rixg_10⟩
  · refine ⟨fun e => absurd e ?_, fun e => absurd e cq⟩
    unfold rix
    by_cases c : q' = 116 ∧ j < 36
    · rw [if_pos c]
      omega
    rw [if_neg c]
    clear c
    by_cases c : q' = 117 ∧ j < 36
    · rw [if_pos c]
      omega
    rw [if_neg c]
    clear c
    by_cases c : q' = 118 ∧ j < 4
    · rw [if_pos c]
      omega
    rw [if_neg c]
    clear c
    by_cases c : q' = 119 ∧ j < 16
    · rw [if_pos c]
      omega
    rw [if_neg c]
    clear c
    by_cases c : q' = 120 ∧ j < 36
    · rw [if_pos c]
      omega
    rw [if_neg c]
    clear c
    by_cases c : q' = 123 ∧ j < 8
    · rw [if_pos c]
      omega
    rw [if_neg c]
    clear c
    by_cases c : q' = 124 ∧ j < 32
    · rw [if_pos c]
      omega
    rw [if_neg c]
    clear c
    by_cases c : q' = 125 ∧ j < 288
    · rw [if_pos c]
      omega
    rw [if_neg c]
    clear c
    by_cases c : q' = 115 ∧ j = 6
    · rw [if_pos c]
      omega
    rw [if_neg c]
    clear c
    by_cases c : q' = 115 ∧ j = 7
    · rw [if_pos c]
      omega
    rw [if_neg c]
    clear c
    by_cases c : q' = 115 ∧ j = 8
    · rw [if_pos c]
      omega
    rw [if_neg c]
    clear c
    by_cases c : q' = 115 ∧ j = 9
    · rw [if_pos c]
      omega
    rw [if_neg c]
    clear c
    by_cases c : q' = 115 ∧ j = 10
    · rw [if_pos c]
      exact absurd c cq
    rw [if_neg c]
    clear c
    by_cases c : q' = 115 ∧ j = 11
    · rw [if_pos c]
      omega
    rw [if_neg c]
    clear c
    by_cases c : q' = 115 ∧ j = 12
    · rw [if_pos c]
      omega
    rw [if_neg c]
    clear c
    by_cases c : q' = 115 ∧ j = 13
    · rw [if_pos c]
      omega
    rw [if_neg c]
    clear c
    by_cases c : q' = 115 ∧ j = 19
    · rw [if_pos c]
      omega
    rw [if_neg c]
    clear c
    by_cases c : q' = 115 ∧ j = 20
    · rw [if_pos c]
      omega
    rw [if_neg c]
    clear c
    by_cases c : q' = 115 ∧ j = 21
    · rw [if_pos c]
      omega
    rw [if_neg c]
    clear c
    decide
theorem rvwf_11 {M : zM} : rvw M 461 = M 115 11 := by
  unfold rvw
  rw [if_neg (by decide)]
  rw [if_neg (by decide)]
  rw [if_neg (by decide)]
  rw [if_neg (by decide)]
  rw [if_neg (by decide)]
  rw [if_neg (by decide)]
  rw [if_neg (by decide)]
  rw [if_neg (by decide)]
  rw [if_neg (by decide)]
  rw [if_neg (by decide)]
  rw [if_neg (by decide)]
  rw [if_neg (by decide)]
  rw [if_neg (by decide)]
  rw [if_pos rfl]
theorem rixg_11 : rix 115 11 = 461 := by decide
theorem rixf_11 : ∀ q' j, (rix q' j = 461 ↔ q' = 115 ∧ j = 11) := fun q' j => by
  by_cases cq : q' = 115 ∧ j = 11
  · obtain ⟨rfl, rfl⟩ := cq
    exact ⟨fun _ => ⟨rfl, rfl⟩, fun _ => rixg_11⟩
  · refine ⟨fun e => absurd e ?_, fun e => absurd e cq⟩
    unfold rix
    by_cases c : q' = 116 ∧ j < 36
    · rw [if_pos c]
      omega
    rw [if_neg c]
    clear c
    by_cases c : q' = 117 ∧ j < 36
    · rw [if_pos c]
      omega
    rw [if_neg c]
    clear c
    by_cases c : q' = 118 ∧ j < 4
    · rw [if_pos c]
      omega
    rw [if_neg c]
    clear c
    by_cases c : q' = 119 ∧ j < 16
    · rw [if_pos c]
      omega
    rw [if_neg c]
    clear c
    by_cases c : q' = 120 ∧ j < 36
    · rw [if_pos c]
      omega
    rw [if_neg c]
    clear c
    by_cases c : q' = 123 ∧ j < 8
    · rw [if_pos c]
      omega
    rw [if_neg c]
    clear c
    by_cases c : q' = 124 ∧ j < 32
    · rw [if_pos c]
      omega
    rw [if_neg c]
    clear c
    by_cases c : q' = 125 ∧ j < 288
    · rw [if_pos c]
      omega
    rw [if_neg c]
    clear c
    by_cases c : q' = 115 ∧ j = 6
    · rw [if_pos c]
      omega
    rw [if_neg c]
    clear c
    by_cases c : q' = 115 ∧ j = 7
    · rw [if_pos c]
      omega
    rw [if_neg c]
    clear c
    by_cases c : q' = 115 ∧ j = 8
    · rw [if_pos c]
      omega
    rw [if_neg c]
    clear c
    by_cases c : q' = 115 ∧ j = 9
    · rw [if_pos c]
      omega
    rw [if_neg c]
    clear c
    by_cases c : q' = 115 ∧ j = 10
    · rw [if_pos c]
      omega
    rw [if_neg c]
    clear c
    by_cases c : q' = 115 ∧ j = 11
    · rw [if_pos c]
      exact absurd c cq
    rw [if_neg c]
    clear c
    by_cases c : q' = 115 ∧ j = 12
    · rw [if_pos c]
      omega
    rw [if_neg c]
    clear c
    by_cases c : q' = 115 ∧ j = 13
    · rw [if_pos c]
      omega
    rw [if_neg c]
    clear c
    by_cases c : q' = 115 ∧ j = 19
    · rw [if_pos c]
      omega
    rw [if_neg c]
    clear c
    by_cases c : q' = 115 ∧ j = 20
    · rw [if_pos c]
      omega
    rw [if_neg c]
    clear c
    by_cases c : q' = 115 ∧ j = 21
    · rw [if_pos c]
      omega
    rw [if_neg c]
    clear c
    decide
theorem rvwf_12 {M : zM} : rvw M 462 = M 115 12 := by
  unfold rvw
  rw [if_neg (by decide)]
  rw [if_neg (by decide)]
  rw [if_neg (by decide)]
  rw [if_neg (by decide)]
  rw [if_neg (by decide)]
  rw [if_neg (by decide)]
  rw [if_neg (by decide)]
  rw [if_neg (by decide)]
  rw [if_neg (by decide)]
  rw [if_neg (by decide)]
  rw [if_neg (by decide)]
  rw [if_neg (by decide)]
  rw [if_neg (by decide)]
  rw [if_neg (by decide)]
  rw [if_pos rfl]
theorem rixg_12 : rix 115 12 = 462 := by decide
theorem rixf_12 : ∀ q' j, (rix q' j = 462 ↔ q' = 115 ∧ j = 12) := fun q' j => by
  by_cases cq : q' = 115 ∧ j = 12
  · obtain ⟨rfl, rfl⟩ := cq
    exact ⟨fun _ => ⟨rfl, rfl⟩, fun _ => rixg_12⟩
  · refine ⟨fun e => absurd e ?_, fun e => absurd e cq⟩
    unfold rix
    by_cases c : q' = 116 ∧ j < 36
    · rw [if_pos c]
      omega
    rw [if_neg c]
    clear c
    by_cases c : q' = 117 ∧ j < 36
    · rw [if_pos c]
      omega
    rw [if_neg c]
    clear c
    by_cases c : q' = 118 ∧ j < 4
    · rw [if_pos c]
      omega
    rw [if_neg c]
    clear c
    by_cases c : q' = 119 ∧ j < 16
    · rw [if_pos c]
      omega
    rw [if_neg c]
    clear c
    by_cases c : q' = 120 ∧ j < 36
    · rw [if_pos c]
      omega
    rw [if_neg c]
    clear c
    by_cases c : q' = 123 ∧ j < 8
    · rw [if_pos c]
      omega
    rw [if_neg c]
    clear c
    by_cases c : q' = 124 ∧ j < 32
    · rw [if_pos c]
      omega
    rw [if_neg c]
    clear c
    by_cases c : q' = 125 ∧ j < 288
    · rw [if_pos c]
      omega
    rw [if_neg c]
    clear c
    by_cases c : q' = 115 ∧ j = 6
    · rw [if_pos c]
      omega
    rw [if_neg c]
    clear c
    by_cases c : q' = 115 ∧ j = 7
    · rw [if_pos c]
      omega
    rw [if_neg c]
    clear c
    by_cases c : q' = 115 ∧ j = 8
    · rw [if_pos c]
      omega
    rw [if_neg c]
    clear c
    by_cases c : q' = 115 ∧ j = 9
    · rw [if_pos c]
      omega
    rw [if_neg c]
    clear c
    by_cases c : q' = 115 ∧ j = 10
    · rw [if_pos c]
      omega
    rw [if_neg c]
    clear c
    by_cases c : q' = 115 ∧ j = 11
    · rw [if_pos c]
      omega
    rw [if_neg c]
    clear c
    by_cases c : q' = 115 ∧ j = 12
    · rw [if_pos c]
      exact absurd c cq
    rw [if_neg c]
    clear c
    by_cases c : q' = 115 ∧ j = 13
    · rw [if_pos c]
      omega
    rw [if_neg c]
    clear c
    by_cases c : q' = 115 ∧ j = 19
    · rw [if_pos c]
      omega
    rw [if_neg c]
    clear c
    by_cases c : q' = 115 ∧ j = 20
    · rw [if_pos c]
      omega
    rw [if_neg c]
    clear c
    by_cases c : q' = 115 ∧ j = 21
    · rw [if_pos c]
      omega
    rw [if_neg c]
    clear c
    decide
theorem rvwf_13 {M : zM} : rvw M 463 = M 115 13 := by
  unfold rvw
  rw [if_neg (by decide)]
  rw [if_neg (by decide)]
  rw [if_neg (by decide)]
  rw [if_neg (by decide)]
  rw [if_neg (by decide)]
  rw [if_neg (by decide)]
  rw [if_neg (by decide)]
  rw [if_neg (by decide)]
  rw [if_neg (by decide)]
  rw [if_neg (by decide)]
  rw [if_neg (by decide)]
  rw [if_neg (by decide)]
  rw [if_neg (by decide)]
  rw [if_neg (by decide)]
  rw [if_neg (by decide)]
  rw [if_pos rfl]
theorem rixg_13 : rix 115 13 = 463 := by decide
theorem rixf_13 : ∀ q' j, (rix q' j = 463 ↔ q' = 115 ∧ j = 13) := fun q' j => by
  by_cases cq : q' = 115 ∧ j = 13
  · obtain ⟨rfl, rfl⟩ := cq
    exact ⟨fun _ => ⟨rfl, rfl⟩, fun _ => rixg_13⟩
  · refine ⟨fun e => absurd e ?_, fun e => absurd e cq⟩
    unfold rix
    by_cases c : q' = 116 ∧ j < 36
    · rw [if_pos c]
      omega
    rw [if_neg c]
    clear c
    by_cases c : q' = 117 ∧ j < 36
    · rw [if_pos c]
      omega
    rw [if_neg c]
    clear c
    by_cases c : q' = 118 ∧ j < 4
    · rw [if_pos c]
      omega
    rw [if_neg c]
    clear c
    by_cases c : q' = 119 ∧ j < 16
    · rw [if_pos c]
      omega
    rw [if_neg c]
    clear c
    by_cases c : q' = 120 ∧ j < 36
    · rw [if_pos c]
      omega
    rw [if_neg c]
    clear c
    by_cases c : q' = 123 ∧ j < 8
    · rw [if_pos c]
      omega
    rw [if_neg c]
    clear c
    by_cases c : q' = 124 ∧ j < 32
    · rw [if_pos c]
      omega
    rw [if_neg c]
    clear c
    by_cases c : q' = 125 ∧ j < 288
    · rw [if_pos c]
      omega
    rw [if_neg c]
    clear c
    by_cases c : q' = 115 ∧ j = 6
    · rw [if_pos c]
      omega
    rw [if_neg c]
    clear c
    by_cases c : q' = 115 ∧ j = 7
    · rw [if_pos c]
      omega
    rw [if_neg c]
    clear c
    by_cases c : q' = 115 ∧ j = 8
    · rw [if_pos c]
      omega
    rw [if_neg c]
    clear c
    by_cases c : q' = 115 ∧ j = 9
    · rw [if_pos c]
      omega
    rw [if_neg c]
    clear c
    by_cases c : q' = 115 ∧ j = 10
    · rw [if_pos c]
      omega
    rw [if_neg c]
    clear c
    by_cases c : q' = 115 ∧ j = 11
    · rw [if_pos c]
      omega
    rw [if_neg c]
    clear c
    by_cases c : q' = 115 ∧ j = 12
    · rw [if_pos c]
      omega
    rw [if_neg c]
    clear c
    by_cases c : q' = 115 ∧ j = 13
    · rw [if_pos c]
      exact absurd c cq
    rw [if_neg c]
    clear c
    by_cases c : q' = 115 ∧ j = 19
    · rw [if_pos c]
      omega
    rw [if_neg c]
    clear c
    by_cases c : q' = 115 ∧ j = 20
    · rw [if_pos c]
      omega
    rw [if_neg c]
    clear c
    by_cases c : q' = 115 ∧ j = 21
    · rw [if_pos c]
      omega
    rw [if_neg c]
    clear c
    decide
theorem rvwf_19 {M : zM} : rvw M 464 = M 115 19 := by
  unfold rvw
  rw [if_neg (by decide)]
  rw [if_neg (by decide)]
  rw [if_neg (by decide)]
  rw [if_neg (by decide)]
  rw [if_neg (by decide)]
  rw [if_neg (by decide)]
  rw [if_neg (by decide)]
  rw [if_neg (by decide)]
  rw [if_neg (by decide)]
  rw [if_neg (by decide)]
  rw [if_neg (by decide)]
  rw [if_neg (by decide)]
  rw [if_neg (by decide)]
  rw [if_neg (by decide)]
  rw [if_neg (by decide)]
  rw [if_neg (by decide)]
  rw [if_pos rfl]
theorem rixg_19 : rix 115 19 = 464 := by decide
theorem rixf_19 : ∀ q' j, (rix q' j = 464 ↔ q' = 115 ∧ j = 19) := fun q' j => by
  by_cases cq : q' = 115 ∧ j = 19
  · obtain ⟨rfl, rfl⟩ := cq
    exact ⟨fun _ => ⟨rfl, rfl⟩, fun _ => rixg_19⟩
  · refine ⟨fun e => absurd e ?_, fun e => absurd e cq⟩
    unfold rix
    by_cases c : q' = 116 ∧ j < 36
    · rw [if_pos c]
      omega
    rw [if_neg c]
    clear c
    by_cases c : q' = 117 ∧ j < 36
    · rw [if_pos c]
      omega
    rw [if_neg c]
    clear c
    by_cases c : q' = 118 ∧ j < 4
    · rw [if_pos c]
      omega
    rw [if_neg c]
    clear c
    by_cases c : q' = 119 ∧ j < 16
    · rw [if_pos c]
      omega
    rw [if_neg c]
    clear c
    by_cases c : q' = 120 ∧ j < 36
    · rw [if_pos c]
      omega
    rw [if_neg c]
    clear c
    by_cases c : q' = 123 ∧ j < 8
    · rw [if_pos c]
      omega
    rw [if_neg c]
    clear c
    by_cases c : q' = 124 ∧ j < 32
    · rw [if_pos c]
      omega
    rw [if_neg c]
    clear c
    by_cases c : q' = 125 ∧ j < 288
    · rw [if_pos c]
      omega
    rw [if_neg c]
    clear c
    by_cases c : q' = 115 ∧ j = 6
    · rw [if_pos c]
      omega
    rw [if_neg c]
    clear c
    by_cases c : q' = 115 ∧ j = 7
    · rw [if_pos c]
      omega
    rw [if_neg c]
    clear c
    by_cases c : q' = 115 ∧ j = 8
    · rw [if_pos c]
      omega
    rw [if_neg c]
    clear c
    by_cases c : q' = 115 ∧ j = 9
    · rw [if_pos c]
      omega
    rw [if_neg c]
    clear c
    by_cases c : q' = 115 ∧ j = 10
    · rw [if_pos c]
      omega
    rw [if_neg c]
    clear c
    by_cases c : q' = 115 ∧ j = 11
    · rw [if_pos c]
      omega
    rw [if_neg c]
    clear c
    by_cases c : q' = 115 ∧ j = 12
    · rw [if_pos c]
      omega
    rw [if_neg c]
    clear c
    by_cases c : q' = 115 ∧ j = 13
    · rw [if_pos c]
      omega
    rw [if_neg c]
    clear c
    by_cases c : q' = 115 ∧ j = 19
    · rw [if_pos c]
      exact absurd c cq
    rw [if_neg c]
    clear c
    by_cases c : q' = 115 ∧ j = 20
    · rw [if_pos c]
      omega
    rw [if_neg c]
    clear c
    by_cases c : q' = 115 ∧ j = 21
    · rw [if_pos c]
      omega
    rw [if_neg c]
    clear c
    decide
theorem rvwf_20 {M : zM} : rvw M 465 = M 115 20 := by
  unfold rvw
  rw [if_neg (by decide)]
  rw [if_neg (by decide)]
  rw [if_neg (by decide)]
  rw [if_neg (by decide)]
  rw [if_neg (by decide)]
  rw [if_neg (by decide)]
  rw [if_neg (by decide)]
  rw [if_neg (by decide)]
  rw [if_neg (by decide)]
  rw [if_neg (by decide)]
  rw [if_neg (by decide)]
  rw [if_neg (by decide)]
  rw [if_neg (by decide)]
  rw [if_neg (by decide)]
  rw [if_neg (by decide)]
  rw [if_neg (by decide)]
  rw [if_neg (by decide)]
  rw [if_pos rfl]
theorem rixg_20 : rix 115 20 = 465 := by decide
theorem rixf_20 : ∀ q' j, (rix q' j = 465 ↔ q' = 115 ∧ j = 20) := fun q' j => by
  by_cases cq : q' = 115 ∧ j = 20
  · obtain ⟨rfl, rfl⟩ := cq
    exact ⟨fun _ => ⟨rfl, rfl⟩, fun _ => rixg_20⟩
  · refine ⟨fun e => absurd e ?_, fun e => absurd e cq⟩
    unfold rix
    by_cases c : q' = 116 ∧ j < 36
    · rw [if_pos c]
      omega
    rw [if_neg c]
    clear c
    by_cases c : q' = 117 ∧ j < 36
    · rw [if_pos c]
      omega
    rw [if_neg c]
    clear c
    by_cases c : q' = 118 ∧ j < 4
    · rw [if_pos c]
      omega
    rw [if_neg c]
    clear c
    by_cases c : q' = 119 ∧ j < 16
    · rw [if_pos c]
      omega
    rw [if_neg c]
    clear c
    by_cases c : q' = 120 ∧ j < 36
    · rw [if_pos c]
      omega
    rw [if_neg c]
    clear c
    by_cases c : q' = 123 ∧ j < 8
    · rw [if_pos c]
      omega
    rw [if_neg c]
    clear c
    by_cases c : q' = 124 ∧ j < 32
    · rw [if_pos c]
      omega
    rw [if_neg c]
    clear c
    by_cases c : q' = 125 ∧ j < 288
    · rw [if_pos c]
      omega
    rw [if_neg c]
    clear c
    by_cases c : q' = 115 ∧ j = 6
    · rw [if_pos c]
      omega
    rw [if_neg c]
    clear c
    by_cases c : q' = 115 ∧ j = 7
    · rw [if_pos c]
      omega
    rw [if_neg c]
    clear c
    by_cases c : q' = 115 ∧ j = 8
    · rw [if_pos c]
      omega
    rw [if_neg c]
    clear c
    by_cases c : q' = 115 ∧ j = 9
    · rw [if_pos c]
      omega
    rw [if_neg c]
    clear c
    by_cases c : q' = 115 ∧ j = 10
    · rw [if_pos c]
      omega
    rw [if_neg c]
    clear c
    by_cases c : q' = 115 ∧ j = 11
    · rw [if_pos c]
      omega
    rw [if_neg c]
    clear c
    by_cases c : q' = 115 ∧ j = 12
    · rw [if_pos c]
      omega
    rw [if_neg c]
    clear c
    by_cases c : q' = 115 ∧ j = 13
    · rw [if_pos c]
      omega
    rw [if_neg c]
    clear c
    by_cases c : q' = 115 ∧ j = 19
    · rw [if_pos c]
      omega
    rw [if_neg c]
    clear c
    by_cases c : q' = 115 ∧ j = 20
    · rw [if_pos c]
      exact absurd c cq
    rw [if_neg c]
    clear c
    by_cases c : q' = 115 ∧ j = 21
    · rw [if_pos c]
      omega
    rw [if_neg c]
    clear c
    decide
theorem rvwf_21 {M : zM} : rvw M 466 = M 115 21 := by
  unfold rvw
  rw [if_neg (by decide)]
  rw [if_neg (by decide)]
  rw [if_neg (by decide)]
  rw [if_neg (by decide)]
  rw [if_neg (by decide)]
  rw [if_neg (by decide)]
  rw [if_neg (by decide)]
  rw [if_neg (by decide)]
  rw [if_neg (by decide)]
  rw [if_neg (by decide)]
  rw [if_neg (by decide)]
  rw [if_neg (by decide)]
  rw [if_neg (by decide)]
  rw [if_neg (by decide)]
  rw [if_neg (by decide)]
  rw [if_neg (by decide)]
  rw [if_neg (by decide)]
  rw [if_neg (by decide)]
theorem rixg_21 : rix 115 21 = 466 := by decide
theorem rixf_21 : ∀ q' j, (rix q' j = 466 ↔ q' = 115 ∧ j = 21) := fun q' j => by
  by_cases cq : q' = 115 ∧ j = 21
  · obtain ⟨rfl, rfl⟩ := cq
    exact ⟨fun _ => ⟨rfl, rfl⟩, fun _ => rixg_21⟩
  · refine ⟨fun e => absurd e ?_, fun e => absurd e cq⟩
    unfold rix
    by_cases c : q' = 116 ∧ j < 36
    · rw [if_pos c]
      omega
    rw [if_neg c]
    clear c
    by_cases c : q' = 117 ∧ j < 36
    · rw [if_pos c]
      omega
    rw [if_neg c]
    clear c
    by_cases c : q' = 118 ∧ j < 4
    · rw [if_pos c]
      omega
    rw [if_neg c]
    clear c
    by_cases c : q' = 119 ∧ j < 16
    · rw [if_pos c]
      omega
    rw [if_neg c]
    clear c
    by_cases c : q' = 120 ∧ j < 36
    · rw [if_pos c]
      omega
    rw [if_neg c]
    clear c
    by_cases c : q' = 123 ∧ j < 8
    · rw [if_pos c]
      omega
    rw [if_neg c]
    clear c
    by_cases c : q' = 124 ∧ j < 32
    · rw [if_pos c]
      omega
    rw [if_neg c]
    clear c
    by_cases c : q' = 125 ∧ j < 288
    · rw [if_pos c]
      omega
    rw [if_neg c]
    clear c
    by_cases c : q' = 115 ∧ j = 6
    · rw [if_pos c]
      omega
    rw [if_neg c]
    clear c
    by_cases c : q' = 115 ∧ j = 7
    · rw [if_pos c]
      omega
    rw [if_neg c]
    clear c
    by_cases c : q' = 115 ∧ j = 8
    · rw [if_pos c]
      omega
    rw [if_neg c]
    clear c
    by_cases c : q' = 115 ∧ j = 9
    · rw [if_pos c]
      omega
    rw [if_neg c]
    clear c
    by_cases c : q' = 115 ∧ j = 10
    · rw [if_pos c]
      omega
    rw [if_neg c]
    clear c
    by_cases c : q' = 115 ∧ j = 11
    · rw [if_pos c]
      omega
    rw [if_neg c]
    clear c
    by_cases c : q' = 115 ∧ j = 12
    · rw [if_pos c]
      omega
    rw [if_neg c]
    clear c
    by_cases c : q' = 115 ∧ j = 13
    · rw [if_pos c]
      omega
    rw [if_neg c]
    clear c
    by_cases c : q' = 115 ∧ j = 19
    · rw [if_pos c]
      omega
    rw [if_neg c]
    clear c
    by_cases c : q' = 115 ∧ j = 20
    · rw [if_pos c]
      omega
    rw [if_neg c]
    clear c
    by_cases c : q' = 115 ∧ j = 21
    · rw [if_pos c]
      exact absurd c cq
    rw [if_neg c]
    clear c
    decide
