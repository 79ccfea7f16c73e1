/-! Sensing. -/
theorem zseen_b {M : zM} {a : Nat} {k r : Int} (hk : 0 ≤ k ∧ k < 4) : 0 ≤ zseen M a k r ∧ zseen M a k r < 4 := zfirst_b hk _ _ (by decide)
theorem zts_o {M : zM} {k o : Int} {q : Nat} (h0 : q ≠ 1) (h1 : q ≠ 9) (h2 : q ≠ 10) (h3 : q ≠ 11) (h4 : q ≠ 12) (h5 : q ≠ 103) : ztsM M k o q = M q := by
  have ha : ∀ X : zM, zasM X zn1 k q = X q := fun X => by
    unfold zasM
    split
    · rw [zin1_o h1]
      unfold zasX
      rw [ztao_or h3, zup_or h2]
    · exact zin1_o h1
  unfold ztsM
  split
  · rw [ha]
    unfold zts2
    rw [zclM_o h1, zup_or h0]
    exact zscM_o h4 h5
  · rw [ha]
    exact zscM_o h4 h5
theorem zts_4 {M : zM} {k o : Int} : ztsM M k o zn1 4 = M zn1 4 := by
  have ha : ∀ X : zM, zasM X zn1 k zn1 = X zn1 := fun X => by
    unfold zasM
    split
    · rw [zin1_o (by decide)]
      unfold zasX
      rw [ztao_or (by decide), zup_or (by decide)]
    · exact zin1_o (by decide)
  unfold ztsM
  split
  · rw [ha]
    unfold zts2
    rw [zclM_o (by decide), zup_ne (by decide)]
    unfold zts1
    rw [zscM_o (by decide) (by decide)]
  · rw [ha]
    unfold zts1
    rw [zscM_o (by decide) (by decide)]
theorem zts_gr {M : zM} {k o : Int} (h : zGr M zn1) : zGr (ztsM M k o) zn1 := zGr_c ⟨zts_o (by decide) (by decide) (by decide) (by decide) (by decide) (by decide), zts_o (by decide) (by decide) (by decide) (by decide) (by decide) (by decide)⟩ h
theorem zts_bl {M : zM} {k o : Int} (h : zBl M zn1) (hw : ∀ j : Nat, (j : Int) < zsz M zn1 → 0 ≤ M 102 j ∧ M 102 j ≤ 9000000000000) (hS : 0 < zsum (M 102) (zsz M zn1).toNat) : zBl (ztsM M k o) zn1 := by
  have h1 : zBr (zts1 M) (zn1 + 11) := zBr_sc (by decide) h (fun j hj => (hw j (by omega)).1) hS
  have ha : ∀ X : zM, zasM X zn1 k 12 = X 12 := fun X => by
    unfold zasM
    split
    · rw [zin1_o (by decide)]
      unfold zasX
      rw [ztao_or (by decide), zup_or (by decide)]
    · exact zin1_o (by decide)
  unfold zBl
  rw [show ztsM M k o (zn1 + 11) = zts1 M (zn1 + 11) by
    unfold ztsM
    split
    · rw [ha]
      unfold zts2
      rw [zclM_o (by decide), zup_or (by decide)]
    · rw [ha]]
  exact h1
