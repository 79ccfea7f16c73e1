theorem pks_116_135K {xs : List Int32} {d : Nat} {w : Bool} {M X : zM} {x : Nat} (hx : x + 467 ≤ 3072) (hX : X = rkS M 135 x 0) : xrun2 xs (d + 1) 209 [.ref 115, .ref 116, .ref 135] (w, zheap X) = some (.inl none, (w, zheap (rkS M 135 x 36))) := by
  subst hX
  rw [sp_passes_116_135K rkS_k (by rw [rkS_c]; omega), show rpsK (rkS M 135 x 0) 116 135 36 = rkS M 135 x 36 from rkS_r (L := 36) (Or.inl rfl) (by decide) (by decide) rvw_116]
theorem pks_116_135T {xs : List Int32} {d : Nat} {w : Bool} {M X : zM} {x : Nat} (hx : x + 467 ≤ 3072) (hX : X = rtS M 135 x 0) : xrun2 xs (d + 1) 209 [.ref 115, .ref 116, .ref 135] (w, zheap X) = some (.inl none, (w, zheap (rtS M 135 x 36))) := by
  subst hX
  rw [sp_passes_116_135T rtS_k (by rw [rtS_c]; omega), show rpsT (rtS M 135 x 0) 116 135 36 = rtS M 135 x 36 from rtS_r (L := 36) (Or.inl rfl) (by decide) rixr_116]
theorem pks_116_136K {xs : List Int32} {d : Nat} {w : Bool} {M X : zM} {x : Nat} (hx : x + 467 ≤ 512) (hX : X = rkS M 136 x 0) : xrun2 xs (d + 1) 209 [.ref 115, .ref 116, .ref 136] (w, zheap X) = some (.inl none, (w, zheap (rkS M 136 x 36))) := by
  subst hX
  rw [sp_passes_116_136K rkS_k (by rw [rkS_c]; omega), show rpsK (rkS M 136 x 0) 116 136 36 = rkS M 136 x 36 from rkS_r (L := 36) (Or.inr rfl) (by decide) (by decide) rvw_116]
theorem pks_116_136T {xs : List Int32} {d : Nat} {w : Bool} {M X : zM} {x : Nat} (hx : x + 467 ≤ 512) (hX : X = rtS M 136 x 0) : xrun2 xs (d + 1) 209 [.ref 115, .ref 116, .ref 136] (w, zheap X) = some (.inl none, (w, zheap (rtS M 136 x 36))) := by
  subst hX
  rw [sp_passes_116_136T rtS_k (by rw [rtS_c]; omega), show rpsT (rtS M 136 x 0) 116 136 36 = rtS M 136 x 36 from rtS_r (L := 36) (Or.inr rfl) (by decide) rixr_116]
theorem pks_117_135K {xs : List Int32} {d : Nat} {w : Bool} {M X : zM} {x : Nat} (hx : x + 467 ≤ 3072) (hX : X = rkS M 135 x 36) : xrun2 xs (d + 1) 209 [.ref 115, .ref 117, .ref 135] (w, zheap X) = some (.inl none, (w, zheap (rkS M 135 x 72))) := by
  subst hX
  rw [sp_passes_117_135K rkS_k (by rw [rkS_c]; omega), show rpsK (rkS M 135 x 36) 117 135 36 = rkS M 135 x 72 from rkS_r (L := 36) (Or.inl rfl) (by decide) (by decide) rvw_117]
theorem pks_117_135T {xs : List Int32} {d : Nat} {w : Bool} {M X : zM} {x : Nat} (hx : x + 467 ≤ 3072) (hX : X = rtS M 135 x 36) : xrun2 xs (d + 1) 209 [.ref 115, .ref 117, .ref 135] (w, zheap X) = some (.inl none, (w, zheap (rtS M 135 x 72))) := by
  subst hX
  rw [sp_passes_117_135T rtS_k (by rw [rtS_c]; omega), show rpsT (rtS M 135 x 36) 117 135 36 = rtS M 135 x 72 from rtS_r (L := 36) (Or.inl rfl) (by decide) rixr_117]
theorem pks_117_136K {xs : List Int32} {d : Nat} {w : Bool} {M X : zM} {x : Nat} (hx : x + 467 ≤ 512) (hX : X = rkS M 136 x 36) : xrun2 xs (d + 1) 209 [.ref 115, .ref 117, .ref 136] (w, zheap X) = some (.inl none, (w, zheap (rkS M 136 x 72))) := by
  subst hX
  rw [sp_passes_117_136K rkS_k (by rw [rkS_c]; omega), show rpsK (rkS M 136 x 36) 117 136 36 = rkS M 136 x 72 from rkS_r (L := 36) (Or.inr rfl) (by decide) (by decide) rvw_117]
theorem pks_117_136T {xs : List Int32} {d : Nat} {w : Bool} {M X : zM} {x : Nat} (hx : x + 467 ≤ 512) (hX : X = rtS M 136 x 36) : xrun2 xs (d + 1) 209 [.ref 115, .ref 117, .ref 136] (w, zheap X) = some (.inl none, (w, zheap (rtS M 136 x 72))) := by
  subst hX
  rw [sp_passes_117_136T rtS_k (by rw [rtS_c]; omega), show rpsT (rtS M 136 x 36) 117 136 36 = rtS M 136 x 72 from rtS_r (L := 36) (Or.inr rfl) (by decide) rixr_117]
theorem pks_118_135K {xs : List Int32} {d : Nat} {w : Bool} {M X : zM} {x : Nat} (hx : x + 467 ≤ 3072) (hX : X = rkS M 135 x 72) : xrun2 xs (d + 1) 209 [.ref 115, .ref 118, .ref 135] (w, zheap X) = some (.inl none, (w, zheap (rkS M 135 x 76))) := by
  subst hX
  rw [sp_passes_118_135K rkS_k (by rw [rkS_c]; omega), show rpsK (rkS M 135 x 72) 118 135 4 = rkS M 135 x 76 from rkS_r (L := 4) (Or.inl rfl) (by decide) (by decide) rvw_118]
theorem pks_118_135T {xs : List Int32} {d : Nat} {w : Bool} {M X : zM} {x : Nat} (hx : x + 467 ≤ 3072) (hX : X = rtS M 135 x 72) : xrun2 xs (d + 1) 209 [.ref 115, .ref 118, .ref 135] (w, zheap X) = some (.inl none, (w, zheap (rtS M 135 x 76))) := by
  subst hX
  rw [sp_passes_118_135T rtS_k (by rw [rtS_c]; omega), show rpsT (rtS M 135 x 72) 118 135 4 = rtS M 135 x 76 from rtS_r (L := 4) (Or.inl rfl) (by decide) rixr_118]
theorem pks_118_136K {xs : List Int32} {d : Nat} {w : Bool} {M X : zM} {x : Nat} (hx : x + 467 ≤ 512) (hX : X = rkS M 136 x 72) : xrun2 xs (d + 1) 209 [.ref 115, .ref 118, .ref 136] (w, zheap X) = some (.inl none, (w, zheap (rkS M 136 x 76))) := by
  subst hX
  rw [sp_passes_118_136K rkS_k (by rw [rkS_c]; omega), show rpsK (rkS M 136 x 72) 118 136 4 = rkS M 136 x 76 from rkS_r (L := 4) (Or.inr rfl) (by decide) (by decide) rvw_118]
theorem pks_118_136T {xs : List Int32} {d : Nat} {w : Bool} {M X : zM} {x : Nat} (hx : x + 467 ≤ 512) (hX : X = rtS M 136 x 72) : xrun2 xs (d + 1) 209 [.ref 115, .ref 118, .ref 136] (w, zheap X) = some (.inl none, (w, zheap (rtS M 136 x 76))) := by
  subst hX
  rw [sp_passes_118_136T rtS_k (by rw [rtS_c]; omega), show rpsT (rtS M 136 x 72) 118 136 4 = rtS M 136 x 76 from rtS_r (L := 4) (Or.inr rfl) (by decide) rixr_118]
theorem pks_119_135K {xs : List Int32} {d : Nat} {w : Bool} {M X : zM} {x : Nat} (hx : x + 467 ≤ 3072) (hX : X = rkS M 135 x 76) : xrun2 xs (d + 1) 209 [.ref 115, .ref 119, .ref 135] (w, zheap X) = some (.inl none, (w, zheap (rkS M 135 x 92))) := by
  subst hX
  rw [sp_passes_119_135K rkS_k (by rw [rkS_c]; omega), show rpsK (rkS M 135 x 76) 119 135 16 = rkS M 135 x 92 from rkS_r (L := 16) (Or.inl rfl) (by decide) (by decide) rvw_119]
theorem pks_119_135T {xs : List Int32} {d : Nat} {w : Bool} {M X : zM} {x : Nat} (hx : x + 467 ≤ 3072) (hX : X = rtS M 135 x 76) : xrun2 xs (d + 1) 209 [.ref 115, .ref 119, .ref 135] (w, zheap X) = some (.inl none, (w, zheap (rtS M 135 x 92))) := by
  subst hX
  rw [sp_passes_119_135T rtS_k (by rw [rtS_c]; omega), show rpsT (rtS M 135 x 76) 119 135 16 = rtS M 135 x 92 from rtS_r (L := 16) (Or.inl rfl) (by decide) rixr_119]
theorem pks_119_136K {xs : List Int32} {d : Nat} {w : Bool} {M X : zM} {x : Nat} (hx : x + 467 ≤ 512) (hX : X = rkS M 136 x 76) : xrun2 xs (d + 1) 209 [.ref 115, .ref 119, .ref 136] (w, zheap X) = some (.inl none, (w, zheap (rkS M 136 x 92))) := by
  subst hX
  rw [sp_passes_119_136K rkS_k (by rw [rkS_c]; omega), show rpsK (rkS M 136 x 76) 119 136 16 = rkS M 136 x 92 from rkS_r (L := 16) (Or.inr rfl) (by decide) (by decide) rvw_119]
theorem pks_119_136T {xs : List Int32} {d : Nat} {w : Bool} {M X : zM} {x : Nat} (hx : x + 467 ≤ 512) (hX : X = rtS M 136 x 76) : xrun2 xs (d + 1) 209 [.ref 115, .ref 119, .ref 136] (w, zheap X) = some (.inl none, (w, zheap (rtS M 136 x 92))) := by
  subst hX
  rw [sp_passes_119_136T rtS_k (by rw [rtS_c]; omega), show rpsT (rtS M 136 x 76) 119 136 16 = rtS M 136 x 92 from rtS_r (L := 16) (Or.inr rfl) (by decide) rixr_119]
theorem pks_120_135K {xs : List Int32} {d : Nat} {w : Bool} {M X : zM} {x : Nat} (hx : x + 467 ≤ 3072) (hX : X = rkS M 135 x 92) : xrun2 xs (d + 1) 209 [.ref 115, .ref 120, .ref 135] (w, zheap X) = some (.inl none, (w, zheap (rkS M 135 x 128))) := by
  subst hX
  rw [sp_passes_120_135K rkS_k (by rw [rkS_c]; omega), show rpsK (rkS M 135 x 92) 120 135 36 = rkS M 135 x 128 from rkS_r (L := 36) (Or.inl rfl) (by decide) (by decide) rvw_120]
theorem pks_120_135T {xs : List Int32} {d : Nat} {w : Bool} {M X : zM} {x : Nat} (hx : x + 467 ≤ 3072) (hX : X = rtS M 135 x 92) : xrun2 xs (d + 1) 209 [.ref 115, .ref 120, .ref 135] (w, zheap X) = some (.inl none, (w, zheap (rtS M 135 x 128))) := by
  subst hX
  rw [sp_passes_120_135T rtS_k (by rw [rtS_c]; omega), show rpsT (rtS M 135 x 92) 120 135 36 = rtS M 135 x 128 from rtS_r (L := 36) (Or.inl rfl) (by decide) rixr_120]
theorem pks_120_136K {xs : List Int32} {d : Nat} {w : Bool} {M X : zM} {x : Nat} (hx : x + 467 ≤ 512) (hX : X = rkS M 136 x 92) : xrun2 xs (d + 1) 209 [.ref 115, .ref 120, .ref 136] (w, zheap X) = some (.inl none, (w, zheap (rkS M 136 x 128))) := by
  subst hX
  rw [sp_passes_120_136K rkS_k (by rw [rkS_c]; omega), show rpsK (rkS M 136 x 92) 120 136 36 = rkS M 136 x 128 from rkS_r (L := 36) (Or.inr rfl) (by decide) (by decide) rvw_120]
theorem pks_120_136T {xs : List Int32} {d : Nat} {w : Bool} {M X : zM} {x : Nat} (hx : x + 467 ≤ 512) (hX : X = rtS M 136 x 92) : xrun2 xs (d + 1) 209 [.ref 115, .ref 120, .ref 136] (w, zheap X) = some (.inl none, (w, zheap (rtS M 136 x 128))) := by
  subst hX
  rw [sp_passes_120_136T rtS_k (by rw [rtS_c]; omega), show rpsT (rtS M 136 x 92) 120 136 36 = rtS M 136 x 128 from rtS_r (L := 36) (Or.inr rfl) (by decide) rixr_120]
theorem pks_123_135K {xs : List Int32} {d : Nat} {w : Bool} {M X : zM} {x : Nat} (hx : x + 467 ≤ 3072) (hX : X = rkS M 135 x 128) : xrun2 xs (d + 1) 209 [.ref 115, .ref 123, .ref 135] (w, zheap X) = some (.inl none, (w, zheap (rkS M 135 x 136))) := by
  subst hX
  rw [sp_passes_123_135K rkS_k (by rw [rkS_c]; omega), show rpsK (rkS M 135 x 128) 123 135 8 = rkS M 135 x 136 from rkS_r (L := 8) (Or.inl rfl) (by decide) (by decide) rvw_123]
theorem pks_123_135T {xs : List Int32} {d : Nat} {w : Bool} {M X : zM} {x : Nat} (hx : x + 467 ≤ 3072) (hX : X = rtS M 135 x 128) : xrun2 xs (d + 1) 209 [.ref 115, .ref 123, .ref 135] (w, zheap X) = some (.inl none, (w, zheap (rtS M 135 x 136))) := by
  subst hX
  rw [sp_passes_123_135T rtS_k (by rw [rtS_c]; omega), show rpsT (rtS M 135 x 128) 123 135 8 = rtS M 135 x 136 from rtS_r (L := 8) (Or.inl rfl) (by decide) rixr_123]
theorem pks_123_136K {xs : List Int32} {d : Nat} {w : Bool} {M X : zM} {x : Nat} (hx : x + 467 ≤ 512) (hX : X = rkS M 136 x 128) : xrun2 xs (d + 1) 209 [.ref 115, .ref 123, .ref 136] (w, zheap X) = some (.inl none, (w, zheap (rkS M 136 x 136))) := by
  subst hX
  rw [sp_passes_123_136K rkS_k (by rw [rkS_c]; omega), show rpsK (rkS M 136 x 128) 123 136 8 = rkS M 136 x 136 from rkS_r (L := 8) (Or.inr rfl) (by decide) (by decide) rvw_123]
theorem pks_123_136T {xs : List Int32} {d : Nat} {w : Bool} {M X : zM} {x : Nat} (hx : x + 467 ≤ 512) (hX : X = rtS M 136 x 128) : xrun2 xs (d + 1) 209 [.ref 115, .ref 123, .ref 136] (w, zheap X) = some (.inl none, (w, zheap (rtS M 136 x 136))) := by
  subst hX
  rw [sp_passes_123_136T rtS_k (by rw [rtS_c]; omega), show rpsT (rtS M 136 x 128) 123 136 8 = rtS M 136 x 136 from rtS_r (L := 8) (Or.inr rfl) (by decide) rixr_123]
theorem pks_124_135K {xs : List Int32} {d : Nat} {w : Bool} {M X : zM} {x : Nat} (hx : x + 467 ≤ 3072) (hX : X = rkS M 135 x 136) : xrun2 xs (d + 1) 209 [.ref 115, .ref 124, .ref 135] (w, zheap X) = some (.inl none, (w, zheap (rkS M 135 x 168))) := by
  subst hX
  rw [sp_passes_124_135K rkS_k (by rw [rkS_c]; omega), show rpsK (rkS M 135 x 136) 124 135 32 = rkS M 135 x 168 from rkS_r (L := 32) (Or.inl rfl) (by decide) (by decide) rvw_124]
theorem pks_124_135T {xs : List Int32} {d : Nat} {w : Bool} {M X : zM} {x : Nat} (hx : x + 467 ≤ 3072) (hX : X = rtS M 135 x 136) : xrun2 xs (d + 1) 209 [.ref 115, .ref 124, .ref 135] (w, zheap X) = some (.inl none, (w, zheap (rtS M 135 x 168))) := by
  subst hX
  rw [sp_passes_124_135T rtS_k (by rw [rtS_c]; omega), show rpsT (rtS M 135 x 136) 124 135 32 = rtS M 135 x 168 from rtS_r (L := 32) (Or.inl rfl) (by decide) rixr_124]
theorem pks_124_136K {xs : List Int32} {d : Nat} {w : Bool} {M X : zM} {x : Nat} (hx : x + 467 ≤ 512) (hX : X = rkS M 136 x 136) : xrun2 xs (d + 1) 209 [.ref 115, .ref 124, .ref 136] (w, zheap X) = some (.inl none, (w, zheap (rkS M 136 x 168))) := by
  subst hX
  rw [sp_passes_124_136K rkS_k (by rw [rkS_c]; omega), show rpsK (rkS M 136 x 136) 124 136 32 = rkS M 136 x 168 from rkS_r (L := 32) (Or.inr rfl) (by decide) (by decide) rvw_124]
theorem pks_124_136T {xs : List Int32} {d : Nat} {w : Bool} {M X : zM} {x : Nat} (hx : x + 467 ≤ 512) (hX : X = rtS M 136 x 136) : xrun2 xs (d + 1) 209 [.ref 115, .ref 124, .ref 136] (w, zheap X) = some (.inl none, (w, zheap (rtS M 136 x 168))) := by
  subst hX
  rw [sp_passes_124_136T rtS_k (by rw [rtS_c]; omega), show rpsT (rtS M 136 x 136) 124 136 32 = rtS M 136 x 168 from rtS_r (L := 32) (Or.inr rfl) (by decide) rixr_124]
theorem pks_125_135K {xs : List Int32} {d : Nat} {w : Bool} {M X : zM} {x : Nat} (hx : x + 467 ≤ 3072) (hX : X = rkS M 135 x 168) : xrun2 xs (d + 1) 209 [.ref 115, .ref 125, .ref 135] (w, zheap X) = some (.inl none, (w, zheap (rkS M 135 x 456))) := by
  subst hX
  rw [sp_passes_125_135K rkS_k (by rw [rkS_c]; omega), show rpsK (rkS M 135 x 168) 125 135 288 = rkS M 135 x 456 from rkS_r (L := 288) (Or.inl rfl) (by decide) (by decide) rvw_125]
theorem pks_125_135T {xs : List Int32} {d : Nat} {w : Bool} {M X : zM} {x : Nat} (hx : x + 467 ≤ 3072) (hX : X = rtS M 135 x 168) : xrun2 xs (d + 1) 209 [.ref 115, .ref 125, .ref 135] (w, zheap X) = some (.inl none, (w, zheap (rtS M 135 x 456))) := by
  subst hX
  rw [sp_passes_125_135T rtS_k (by rw [rtS_c]; omega), show rpsT (rtS M 135 x 168) 125 135 288 = rtS M 135 x 456 from rtS_r (L := 288) (Or.inl rfl) (by decide) rixr_125]
theorem pks_125_136K {xs : List Int32} {d : Nat} {w : Bool} {M X : zM} {x : Nat} (hx : x + 467 ≤ 512) (hX : X = rkS M 136 x 168) : xrun2 xs (d + 1) 209 [.ref 115, .ref 125, .ref 136] (w, zheap X) = some (.inl none, (w, zheap (rkS M 136 x 456))) := by
  subst hX
  rw [sp_passes_125_136K rkS_k (by rw [rkS_c]; omega), show rpsK (rkS M 136 x 168) 125 136 288 = rkS M 136 x 456 from rkS_r (L := 288) (Or.inr rfl) (by decide) (by decide) rvw_125]
theorem pks_125_136T {xs : List Int32} {d : Nat} {w : Bool} {M X : zM} {x : Nat} (hx : x + 467 ≤ 512) (hX : X = rtS M 136 x 168) : xrun2 xs (d + 1) 209 [.ref 115, .ref 125, .ref 136] (w, zheap X) = some (.inl none, (w, zheap (rtS M 136 x 456))) := by
  subst hX
  rw [sp_passes_125_136T rtS_k (by rw [rtS_c]; omega), show rpsT (rtS M 136 x 168) 125 136 288 = rtS M 136 x 456 from rtS_r (L := 288) (Or.inr rfl) (by decide) rixr_125]
