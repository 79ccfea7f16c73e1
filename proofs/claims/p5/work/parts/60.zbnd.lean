/-! Bounds of the ends and the rests. -/
theorem zp100_p : ∀ n, 1 ≤ zp100 n
  | 0 => by decide
  | n + 1 => by
    have := zp100_p n
    show 1 ≤ zp100 n * 100
    omega
theorem zp100_le : ∀ n k, n ≤ k → zp100 n ≤ zp100 k
  | n, 0, h => by rw [show n = 0 by omega]; exact Int.le_refl _
  | n, k + 1, h => by
    have hk := zp100_p k
    have e : zp100 (k + 1) = zp100 k * 100 := rfl
    by_cases h1 : n = k + 1
    · rw [h1]; exact Int.le_refl _
    · have := zp100_le n k (by omega)
      omega
theorem zp100_8 {n : Nat} (h : n ≤ 8) : zp100 n ≤ 10000000000000000 := zp100_le n 8 h
theorem zmi8 {x : Int} (h : 0 ≤ x) : 0 ≤ zmi x 8 ∧ zmi x 8 ≤ 8 ∧ zmi x 8 ≤ x := by
  unfold zmi
  split <;> omega
theorem zBI.t0 {n : Int} {M : zM} {a : Nat} (h : zBI n M a) : 0 ≤ ztot M a := by
  obtain ⟨r1, r2, r3, r4, r5⟩ := h.b4.1
  unfold ztot
  omega
theorem zBI.da {n : Int} {M : zM} {a : Nat} (h : zBI n M a) : zDa M a := by
  intro i h0 h1 h2
  rcases h.b4.2.2.1 i.toNat (by omega) with h3 | h3
  · exact h3.1
  · omega
/-- the ends behind the first steps -/
theorem zwe_b {n : Int} {M : zM} {a : Nat} (ha : zSt a) (h : zBI n M a) : ∀ k : Nat, (k : Int) ≤ zmi (ztot M a) 8 → (∀ j, j < (zsz M a).toNat → 0 ≤ zwe M a k 109 j) ∧ zsum (zwe M a k 109) (zsz M a).toNat ≤ 36 * zp100 k ∧ (∀ j, (zsz M a).toNat ≤ j → zwe M a k 109 j = M 109 j)
  | 0, _ => by
    obtain ⟨g6, g7⟩ := h.g.sz
    have hz : zsz M a = M (a + 1) 0 * M (a + 1) 1 := rfl
    have e : ∀ j, j < (zsz M a).toNat → zwe M a 0 109 j = zb (zmb M a (j : Int)) := fun j hj => ztab_i hj
    refine ⟨fun j hj => ?_, ?_, fun j hj => ztab_g hj⟩
    · rw [e j hj]
      rcases zb_01 (zmb M a (j : Int)) with e1 | e1 <;> rw [e1] <;> decide
    · have hs := (zsum_b (F := zwe M a 0 109) (l := 0) (u := 1) (zsz M a).toNat (fun j hj => by
        rw [e j hj]
        rcases zb_01 (zmb M a (j : Int)) with e1 | e1 <;> rw [e1] <;> decide)).2
      show _ ≤ 36 * (1 : Int)
      omega
  | k + 1, hk => by
    have ih := zwe_b ha h k (by omega)
    have hle := zSt_le ha
    have hm8 := zmi8 h.t0
    obtain ⟨g6, g7⟩ := h.g.sz
    have hz : zsz M a = M (a + 1) 0 * M (a + 1) 1 := rfl
    have hX : ∀ q : Nat, q ≠ 109 → q ≠ 110 → zwe M a k q = M q := fun q a b => zwe_o a b k
    have hp := zp100_p k
    have hpe : zp100 (k + 1) = zp100 k * 100 := rfl
    have hnum := h.b4.1.2.2.2.2
    by_cases hc : M (a + 9) k < 10
    · have e : zwe M a (k + 1) = zldM (zwe M a k) a (k : Int) := if_pos hc
      have hts := (h.b4.2.2.1 k (by omega)).resolve_right (by omega)
      have hcd := h.b4.1.2.2.2.1 k (by omega)
      have hzX : zsz (zwe M a k) a = zsz M a := zsz_c ⟨hX _ (by omega) (by omega), hX _ (by omega) (by omega)⟩
      have e1 : ∀ j, j < (zsz M a).toNat → zldM (zwe M a k) a (k : Int) 109 j = zsum (fun c => zsum (fun y => if (ztarget M a (c : Int) (M (a + 9) k) (y : Int)).toNat = j then zwe M a k 109 c * M (a + 10) ((k : Int) * 36 + (y : Int)).toNat else 0) 4) (zsz M a).toNat := by
        intro j hj
        unfold zldM zcp
        rw [hzX, if_pos ⟨rfl, by omega, by omega⟩, zrow_q]
        unfold zlF
        rw [if_pos (by omega), Int.zero_add]
        refine zsum_c _ (fun c _ => zsum_c _ (fun y _ => ?_))
        unfold zlt
        rw [hX (a + 9) (by omega) (by omega), hX (a + 10) (by omega) (by omega), Int.toNat_natCast, ztarget_c (hX (a + 4) (by omega) (by omega)), show 0 + (j - 0) = j by omega]
      have e2 : ∀ j, (zsz M a).toNat ≤ j → zldM (zwe M a k) a (k : Int) 109 j = zwe M a k 109 j := by
        intro j hj
        unfold zldM zcp
        rw [hzX, if_neg (by omega), zrow_o (by decide)]
      have hN : ∀ y : Nat, y < 4 → 0 ≤ M (a + 10) ((k : Int) * 36 + (y : Int)).toNat ∧ M (a + 10) ((k : Int) * 36 + (y : Int)).toNat ≤ 16 := fun y hy => by
        rw [show ((k : Int) * 36 + (y : Int)).toNat = k * 36 + y by omega]
        exact ⟨(hnum _ (by omega)).1, hts.2 y hy⟩
      have hsp := zspread (E := zwe M a k 109) (N := fun y => M (a + 10) ((k : Int) * 36 + (y : Int)).toNat) (tg := fun c y => (ztarget M a (c : Int) (M (a + 9) k) (y : Int)).toNat) (n := (zsz M a).toNat) (fun c hc y _ => by
        have h := (ztg_n h.b1 (c := (c : Int)) (e := M (a + 9) k) (y : Int) (by omega) (by omega)).1
        show (ztarget M a (c : Int) (M (a + 9) k) (y : Int)).toNat < _
        omega)
      have hN4 := zsum_b (F := fun y => M (a + 10) ((k : Int) * 36 + (y : Int)).toNat) (l := 0) (u := 16) 4 hN
      have hE0 := zsum_nn (F := zwe M a k 109) (zsz M a).toNat ih.1
      rw [e]
      refine ⟨fun j hj => ?_, ?_, fun j hj => by rw [e2 j hj, ih.2.2 j hj]⟩
      · rw [e1 j hj]
        refine zsum_nn _ (fun c hc => zsum_nn _ (fun y hy => ?_))
        split
        · exact Int.mul_nonneg (ih.1 c hc) (hN y hy).1
        · exact Int.le_refl _
      · rw [zsum_c _ e1, hsp]
        have h1 : zsum (zwe M a k 109) (zsz M a).toNat * zsum (fun y => M (a + 10) ((k : Int) * 36 + (y : Int)).toNat) 4 ≤ zsum (zwe M a k 109) (zsz M a).toNat * 100 := Int.mul_le_mul_of_nonneg_left (by omega) hE0
        have := ih.2.1
        omega
    · have e : zwe M a (k + 1) = ztab (zwe M a k) 109 (zsz M a).toNat (fun c => zwe M a k 109 c * M (a + 10) ((k : Int) * 36 + (c : Int)).toNat) := if_neg hc
      rw [e]
      have hn : ∀ j, j < (zsz M a).toNat → 0 ≤ M (a + 10) ((k : Int) * 36 + (j : Int)).toNat ∧ M (a + 10) ((k : Int) * 36 + (j : Int)).toNat ≤ 100 := fun j hj => hnum _ (by omega)
      refine ⟨fun j hj => ?_, ?_, fun j hj => by rw [ztab_g hj, ih.2.2 j hj]⟩
      · rw [ztab_i hj]
        exact Int.mul_nonneg (ih.1 j hj) (hn j hj).1
      · have h1 : zsum (ztab (zwe M a k) 109 (zsz M a).toNat (fun c => zwe M a k 109 c * M (a + 10) ((k : Int) * 36 + (c : Int)).toNat) 109) (zsz M a).toNat ≤ zsum (fun j => zwe M a k 109 j * 100) (zsz M a).toNat := zsum_le _ (fun j hj => by
          rw [ztab_i hj]
          exact Int.mul_le_mul_of_nonneg_left (hn j hj).2 (ih.1 j hj))
        rw [zsum_mul] at h1
        have := ih.2.1
        omega
theorem zwe_er {n : Int} {M : zM} {a : Nat} (ha : zSt a) (h : zBI n M a) (he : zEr (M 109)) {k : Nat} (hk : (k : Int) ≤ zmi (ztot M a) 8) : zEr (zwe M a k 109) := by
  obtain ⟨h1, h2, h3⟩ := zwe_b ha h k hk
  have hm8 := zmi8 h.t0
  have hp := zp100_8 (n := k) (by omega)
  intro j hj
  by_cases hs : j < (zsz M a).toNat
  · have := zsum_ge _ h1 j hs
    exact ⟨h1 j hs, by omega⟩
  · rw [h3 j (by omega)]
    exact he j hj
/-- a step's factor -/
theorem zfac_b {n : Int} {M : zM} {a : Nat} (h : zBI n M a) {i f t : Int} (hi : 0 ≤ i ∧ i < zmi (ztot M a) 8) (hf : 0 ≤ f ∧ f < 36) : 0 ≤ zfac M a i f t ∧ zfac M a i f t ≤ 100 := by
  have hm8 := zmi8 h.t0
  have hnum := h.b4.1.2.2.2.2
  unfold zfac
  split
  · next hc =>
    have hts := (h.b4.2.2.1 i.toNat (by omega)).resolve_right (by omega)
    have hs := zsum_b (F := zfcF M a i f t) (l := 0) (u := 16) 4 (fun y hy => by
      unfold zfcF
      split
      · rw [show (i * 36 + (y : Int)).toNat = i.toNat * 36 + y by omega]
        exact ⟨(hnum _ (by omega)).1, hts.2 y hy⟩
      · omega)
    omega
  · split
    · exact hnum _ (by omega)
    · omega
theorem zro_b {n : Int} {M X : zM} {a : Nat} (ha : zSt a) (h : zBI n M a) (hX : zE5 X M a) (hR : zRs X) {i f t : Int} (hi : 0 ≤ i ∧ i < zmi (ztot M a) 8) (hf : 0 ≤ f ∧ f < 36) (ht : 0 ≤ t ∧ t < 36) : 0 ≤ zro X a i f t ∧ zro X a i f t ≤ zp100 (8 - i.toNat) := by
  have hm8 := zmi8 h.t0
  have h1 := zfac_b h (t := t) hi hf
  have h2 := hR (i.toNat + 1) (by omega) t.toNat (by omega)
  unfold zro
  rw [zfac_c ha hX, show ((i + 1) * 36 + t).toNat = (i.toNat + 1) * 36 + t.toNat by omega]
  have e : zp100 (8 - i.toNat) = zp100 (8 - (i.toNat + 1)) * 100 := by rw [show 8 - i.toNat = (8 - (i.toNat + 1)) + 1 by omega]; rfl
  rw [e]
  refine ⟨Int.mul_nonneg h1.1 h2.1, ?_⟩
  rw [Int.mul_comm (zp100 _) 100]
  exact Int.le_trans (Int.mul_le_mul_of_nonneg_right h1.2 h2.1) (Int.mul_le_mul_of_nonneg_left h2.2 (by decide))
theorem zRs_tao {X : zM} {i m : Nat} {F : zF} (hR : zRs X) (hi : i ≤ 8) (hm : m ≤ 36) (hF : ∀ c, c < m → 0 ≤ F c ∧ F c ≤ zp100 (8 - i)) : zRs (ztao X 111 (i * 36) m F) := by
  intro j hj c hc
  by_cases h : j = i ∧ c < m
  · obtain ⟨rfl, h2⟩ := h
    rw [ztao_i h2]
    exact hF c h2
  · rw [ztao_g (by omega)]
    exact hR j hj c hc
theorem zwr_b {n : Int} {M : zM} {a : Nat} (ha : zSt a) (h : zBI n M a) (hR : zRs M) : ∀ j : Nat, (j : Int) ≤ zmi (ztot M a) 8 → zRs (zwrM M a (zmi (ztot M a) 8) j)
  | 0, _ => by
    have hm8 := zmi8 h.t0
    obtain ⟨g6, g7⟩ := h.g.sz
    have hz : zsz M a = M (a + 1) 0 * M (a + 1) 1 := rfl
    unfold zwrM
    rw [show (zmi (ztot M a) 8 * 36).toNat = (zmi (ztot M a) 8).toNat * 36 by omega]
    refine zRs_tao hR (by omega) (by omega) (fun c _ => ?_)
    have := zp100_p (8 - (zmi (ztot M a) 8).toNat)
    rcases zb_01 (zfreeN M a c) with e | e <;> rw [e] <;> omega
  | j + 1, hj => by
    have ih := zwr_b ha h hR j (by omega)
    have hm8 := zmi8 h.t0
    have hle := zSt_le ha
    obtain ⟨g6, g7⟩ := h.g.sz
    have hz : zsz M a = M (a + 1) 0 * M (a + 1) 1 := rfl
    have hX : zE5 (zwrM M a (zmi (ztot M a) 8) j) M a := fun q hq => zwrM_o (by omega) j
    unfold zwrM
    rw [show ((zmi (ztot M a) 8 - 1 - (j : Int)) * 36).toNat = (zmi (ztot M a) 8 - 1 - (j : Int)).toNat * 36 by omega]
    refine zRs_tao ih (by omega) (by omega) (fun c hc => ?_)
    unfold zwl
    refine zgr_b _ (fun y hy => ?_) (by have := zp100_p (8 - (zmi (ztot M a) 8 - 1 - (j : Int)).toNat); omega)
    have hdr : zDr M a (zmi (ztot M a) 8 - 1 - (j : Int)) := h.da _ (by omega) (by omega)
    have htg := ztgo_b (y := (y : Int)) h.b1.2.1 (c := (c : Int)) (by omega) h.b4.1 (i := zmi (ztot M a) 8 - 1 - (j : Int)) (by omega) hdr
    rw [ztgo_c ha hX]
    exact zro_b ha h hX ih (by omega) (by omega) htg
theorem zRs_rr {M : zM} (h : zRs M) : zRr M := by
  intro j hj
  have h1 := h (j / 36) (by omega) (j % 36) (by omega)
  rw [show j / 36 * 36 + j % 36 = j by omega] at h1
  have := zp100_8 (n := 8 - j / 36) (by omega)
  omega
theorem zRs_rb {n : Int} {M X : zM} {a : Nat} (ha : zSt a) (h : zBI n M a) (hX : zE5 X M a) (hR : zRs X) {i : Int} (hi : 0 ≤ i ∧ i < zmi (ztot M a) 8) : zRb X a i := by
  intro f t h1 h2 h3 h4
  have hb := zro_b ha h hX hR hi (f := f) (t := t) ⟨h1, h2⟩ ⟨h3, h4⟩
  have := zp100_8 (n := 8 - i.toNat) (by omega)
  omega
