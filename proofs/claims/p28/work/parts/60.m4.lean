noncomputable section
/-! Bounds of the ends and the rests. -/
theorem zp100_p : ∀ n, 1 ≤ zp100 n
  | 0 => by decide
  | n + 1 => by
    have := zp100_p n
    show 1 ≤ zp100 n * 100
    omega
theorem zp100_le : ∀ n k, n ≤ k → zp100 n ≤ zp100 k
  | n, 0, h => by rw [show n = 0 by omega]; exact Int.le_refl _
  | n, k + 1, h => by
    have hk := zp100_p k
    have e : zp100 (k + 1) = zp100 k * 100 := rfl
    by_cases h1 : n = k + 1
    · rw [h1]; exact Int.le_refl _
    · have := zp100_le n k (by omega)
      omega
theorem zp100_8 {n : Nat} (h : n ≤ 8) : zp100 n ≤ 10000000000000000 := zp100_le n 8 h
theorem zmi8 {x : Int} (h : 0 ≤ x) : 0 ≤ zmi x 8 ∧ zmi x 8 ≤ 8 ∧ zmi x 8 ≤ x := by
  unfold zmi
  split <;> omega
theorem zBI.t0 {n : Int} {M : zM} {a : Nat} (h : zBI n M a) : 0 ≤ ztot M a := by
  obtain ⟨r1, r2, r3, r4, r5⟩ := h.b4.1
  unfold ztot
  omega
theorem zBI.da {n : Int} {M : zM} {a : Nat} (h : zBI n M a) : zDa M a := by
  intro i h0 h1 h2
  rcases h.b4.2.2.1 i.toNat (by omega) with h3 | h3
  · exact h3.1
  · omega
/-- the ends behind the first steps -/
theorem zwe_b {n : Int} {M : zM} {a : Nat} (ha : zSt a) (h : zBI n M a) : ∀ k : Nat, (k : Int) ≤ zmi (ztot M a) 8 → (∀ j, j < (zsz M a).toNat → 0 ≤ zwe M a k 109 j) ∧ zsum (zwe M a k 109) (zsz M a).toNat ≤ 36 * zp100 k ∧ (∀ j, (zsz M a).toNat ≤ j → zwe M a k 109 j = M 109 j)
  | 0, _ => by
    obtain ⟨g6, g7⟩ := h.g.sz
    have hz : zsz M a = M (a + 1) 0 * M (a + 1) 1 := rfl
    have e : ∀ j, j < (zsz M a).toNat → zwe M a 0 109 j = zb (zmb M a (j : Int)) := fun j hj => ztab_i hj
    refine ⟨fun j hj => ?_, ?_, fun j hj => ztab_g hj⟩
    · rw [e j hj]
      rcases zb_01 (zmb M a (j : Int)) with e1 | e1 <;> rw [e1] <;> decide
    · have hs := (zsum_b (F := zwe M a 0 109) (l := 0) (u := 1) (zsz M a).toNat (fun j hj => by
        rw [e j hj]
        rcases zb_01 (zmb M a (j : Int)) with e1 | e1 <;> rw [e1] <;> decide)).2
      show _ ≤ 36 * (1 : Int)
      omega
  | k + 1, hk => by
    have ih := zwe_b ha h k (by omega)
    have hle := zSt_le ha
    have hm8 := zmi8 h.t0
    obtain ⟨g6, g7⟩ := h.g.sz
    have hz : zsz M a = M (a + 1) 0 * M (a + 1) 1 := rfl
    have hX : ∀ q : Nat, q ≠ 109 → q ≠ 110 → zwe M a k q = M q := fun q a b => zwe_o a b k
    have hp := zp100_p k
    have hpe : zp100 (k + 1) = zp100 k * 100 := rfl
    have hnum := h.b4.1.2.2.2.2
    by_cases hc : M (a + 9) k < 10
    · have e : zwe M a (k + 1) = zldM (zwe M a k) a (k : Int) := if_pos hc
      have hts := (h.b4.2.2.1 k (by omega)).resolve_right (by omega)
      have hcd := h.b4.1.2.2.2.1 k (by omega)
      have hzX : zsz (zwe M a k) a = zsz M a := zsz_c ⟨hX _ (by omega) (by omega), hX _ (by omega) (by omega)⟩
      have e1 : ∀ j, j < (zsz M a).toNat → zldM (zwe M a k) a (k : Int) 109 j = zsum (fun c => zsum (fun y => if (ztarget M a (c : Int) (M (a + 9) k) (y : Int)).toNat = j then zwe M a k 109 c * M (a + 10) ((k : Int) * 36 + (y : Int)).toNat else 0) 4) (zsz M a).toNat := by
        intro j hj
        unfold zldM zcp
        rw [hzX, if_pos ⟨rfl, by omega, by omega⟩, zrow_q]
        unfold zlF
        rw [if_pos (by omega), Int.zero_add]
        refine zsum_c _ (fun c _ => zsum_c _ (fun y _ => ?_))
        unfold zlt
        rw [hX (a + 9) (by omega) (by omega), hX (a + 10) (by omega) (by omega), Int.toNat_natCast, ztarget_c (hX (a + 4) (by omega) (by omega)), show 0 + (j - 0) = j by omega]
      have e2 : ∀ j, (zsz M a).toNat ≤ j → zldM (zwe M a k) a (k : Int) 109 j = zwe M a k 109 j := by
        intro j hj
        unfold zldM zcp
        rw [hzX, if_neg (by omega), zrow_o (by decide)]
      have hN : ∀ y : Nat, y < 4 → 0 ≤ M (a + 10) ((k : Int) * 36 + (y : Int)).toNat ∧ M (a + 10) ((k : Int) * 36 + (y : Int)).toNat ≤ 16 := fun y hy => by
        rw [show ((k : Int) * 36 + (y : Int)).toNat = k * 36 + y by omega]
        exact ⟨(hnum _ (by omega)).1, hts.2 y hy⟩
      have hsp := zspread (E := zwe M a k 109) (N := fun y => M (a + 10) ((k : Int) * 36 + (y : Int)).toNat) (tg := fun c y => (ztarget M a (c : Int) (M (a + 9) k) (y : Int)).toNat) (n := (zsz M a).toNat) (fun c hc y _ => by
        have h := (ztg_n h.b1 (c := (c : Int)) (e := M (a + 9) k) (y : Int) (by omega) (by omega)).1
        show (ztarget M a (c : Int) (M (a + 9) k) (y : Int)).toNat < _
        omega)
      have hN4 := zsum_b (F := fun y => M (a + 10) ((k : Int) * 36 + (y : Int)).toNat) (l := 0) (u := 16) 4 hN
      have hE0 := zsum_nn (F := zwe M a k 109) (zsz M a).toNat ih.1
      rw [e]
      refine ⟨fun j hj => ?_, ?_, fun j hj => by rw [e2 j hj, ih.2.2 j hj]⟩
      · rw [e1 j hj]
        refine zsum_nn _ (fun c hc => zsum_nn _ (fun y hy => ?_))
        split
        · exact Int.mul_nonneg (ih.1 c hc) (hN y hy).1
        · exact Int.le_refl _
      · rw [zsum_c _ e1, hsp]
        have h1 : zsum (zwe M a k 109) (zsz M a).toNat * zsum (fun y => M (a + 10) ((k : Int) * 36 + (y : Int)).toNat) 4 ≤ zsum (zwe M a k 109) (zsz M a).toNat * 100 := Int.mul_le_mul_of_nonneg_left (by omega) hE0
        have := ih.2.1
        omega
    · have e : zwe M a (k + 1) = ztab (zwe M a k) 109 (zsz M a).toNat (fun c => zwe M a k 109 c * M (a + 10) ((k : Int) * 36 + (c : Int)).toNat) := if_neg hc
      rw [e]
      have hn : ∀ j, j < (zsz M a).toNat → 0 ≤ M (a + 10) ((k : Int) * 36 + (j : Int)).toNat ∧ M (a + 10) ((k : Int) * 36 + (j : Int)).toNat ≤ 100 := fun j hj => hnum _ (by omega)
      refine ⟨fun j hj => ?_, ?_, fun j hj => by rw [ztab_g hj, ih.2.2 j hj]⟩
      · rw [ztab_i hj]
        exact Int.mul_nonneg (ih.1 j hj) (hn j hj).1
      · have h1 : zsum (ztab (zwe M a k) 109 (zsz M a).toNat (fun c => zwe M a k 109 c * M (a + 10) ((k : Int) * 36 + (c : Int)).toNat) 109) (zsz M a).toNat ≤ zsum (fun j => zwe M a k 109 j * 100) (zsz M a).toNat := zsum_le _ (fun j hj => by
          rw [ztab_i hj]
          exact Int.mul_le_mul_of_nonneg_left (hn j hj).2 (ih.1 j hj))
        rw [zsum_mul] at h1
        have := ih.2.1
        omega
theorem zwe_er {n : Int} {M : zM} {a : Nat} (ha : zSt a) (h : zBI n M a) (he : zEr (M 109)) {k : Nat} (hk : (k : Int) ≤ zmi (ztot M a) 8) : zEr (zwe M a k 109) := by
  obtain ⟨h1, h2, h3⟩ := zwe_b ha h k hk
  have hm8 := zmi8 h.t0
  have hp := zp100_8 (n := k) (by omega)
  intro j hj
  by_cases hs : j < (zsz M a).toNat
  · have := zsum_ge _ h1 j hs
    exact ⟨h1 j hs, by omega⟩
  · rw [h3 j (by omega)]
    exact he j hj
/-- a step's factor -/
theorem zfac_b {n : Int} {M : zM} {a : Nat} (h : zBI n M a) {i f t : Int} (hi : 0 ≤ i ∧ i < zmi (ztot M a) 8) (hf : 0 ≤ f ∧ f < 36) : 0 ≤ zfac M a i f t ∧ zfac M a i f t ≤ 100 := by
  have hm8 := zmi8 h.t0
  have hnum := h.b4.1.2.2.2.2
  unfold zfac
  split
  · next hc =>
    have hts := (h.b4.2.2.1 i.toNat (by omega)).resolve_right (by omega)
    have hs := zsum_b (F := zfcF M a i f t) (l := 0) (u := 16) 4 (fun y hy => by
      unfold zfcF
      split
      · rw [show (i * 36 + (y : Int)).toNat = i.toNat * 36 + y by omega]
        exact ⟨(hnum _ (by omega)).1, hts.2 y hy⟩
      · omega)
    omega
  · split
    · exact hnum _ (by omega)
    · omega
theorem zro_b {n : Int} {M X : zM} {a : Nat} (ha : zSt a) (h : zBI n M a) (hX : zE5 X M a) (hR : zRs X) {i f t : Int} (hi : 0 ≤ i ∧ i < zmi (ztot M a) 8) (hf : 0 ≤ f ∧ f < 36) (ht : 0 ≤ t ∧ t < 36) : 0 ≤ zro X a i f t ∧ zro X a i f t ≤ zp100 (8 - i.toNat) := by
  have hm8 := zmi8 h.t0
  have h1 := zfac_b h (t := t) hi hf
  have h2 := hR (i.toNat + 1) (by omega) t.toNat (by omega)
  unfold zro
  rw [zfac_c ha hX, show ((i + 1) * 36 + t).toNat = (i.toNat + 1) * 36 + t.toNat by omega]
  have e : zp100 (8 - i.toNat) = zp100 (8 - (i.toNat + 1)) * 100 := by rw [show 8 - i.toNat = (8 - (i.toNat + 1)) + 1 by omega]; rfl
  rw [e]
  refine ⟨Int.mul_nonneg h1.1 h2.1, ?_⟩
  rw [Int.mul_comm (zp100 _) 100]
  exact Int.le_trans (Int.mul_le_mul_of_nonneg_right h1.2 h2.1) (Int.mul_le_mul_of_nonneg_left h2.2 (by decide))
theorem zRs_tao {X : zM} {i m : Nat} {F : zF} (hR : zRs X) (hi : i ≤ 8) (hm : m ≤ 36) (hF : ∀ c, c < m → 0 ≤ F c ∧ F c ≤ zp100 (8 - i)) : zRs (ztao X 111 (i * 36) m F) := by
  intro j hj c hc
  by_cases h : j = i ∧ c < m
  · obtain ⟨rfl, h2⟩ := h
    rw [ztao_i h2]
    exact hF c h2
  · rw [ztao_g (by omega)]
    exact hR j hj c hc
theorem zwr_b {n : Int} {M : zM} {a : Nat} (ha : zSt a) (h : zBI n M a) (hR : zRs M) : ∀ j : Nat, (j : Int) ≤ zmi (ztot M a) 8 → zRs (zwrM M a (zmi (ztot M a) 8) j)
  | 0, _ => by
    have hm8 := zmi8 h.t0
    obtain ⟨g6, g7⟩ := h.g.sz
    have hz : zsz M a = M (a + 1) 0 * M (a + 1) 1 := rfl
    unfold zwrM
    rw [show (zmi (ztot M a) 8 * 36).toNat = (zmi (ztot M a) 8).toNat * 36 by omega]
    refine zRs_tao hR (by omega) (by omega) (fun c _ => ?_)
    have := zp100_p (8 - (zmi (ztot M a) 8).toNat)
    rcases zb_01 (zfreeN M a c) with e | e <;> rw [e] <;> omega
  | j + 1, hj => by
    have ih := zwr_b ha h hR j (by omega)
    have hm8 := zmi8 h.t0
    have hle := zSt_le ha
    obtain ⟨g6, g7⟩ := h.g.sz
    have hz : zsz M a = M (a + 1) 0 * M (a + 1) 1 := rfl
    have hX : zE5 (zwrM M a (zmi (ztot M a) 8) j) M a := fun q hq => zwrM_o (by omega) j
    unfold zwrM
    rw [show ((zmi (ztot M a) 8 - 1 - (j : Int)) * 36).toNat = (zmi (ztot M a) 8 - 1 - (j : Int)).toNat * 36 by omega]
    refine zRs_tao ih (by omega) (by omega) (fun c hc => ?_)
    unfold zwl
    refine zgr_b _ (fun y hy => ?_) (by have := zp100_p (8 - (zmi (ztot M a) 8 - 1 - (j : Int)).toNat); omega)
    have hdr : zDr M a (zmi (ztot M a) 8 - 1 - (j : Int)) := h.da _ (by omega) (by omega)
    have htg := ztgo_b (y := (y : Int)) h.b1.2.1 (c := (c : Int)) (by omega) h.b4.1 (i := zmi (ztot M a) 8 - 1 - (j : Int)) (by omega) hdr
    rw [ztgo_c ha hX]
    exact zro_b ha h hX ih (by omega) (by omega) htg
theorem zRs_rr {M : zM} (h : zRs M) : zRr M := by
  intro j hj
  have h1 := h (j / 36) (by omega) (j % 36) (by omega)
  rw [show j / 36 * 36 + j % 36 = j by omega] at h1
  have := zp100_8 (n := 8 - j / 36) (by omega)
  omega
theorem zRs_rb {n : Int} {M X : zM} {a : Nat} (ha : zSt a) (h : zBI n M a) (hX : zE5 X M a) (hR : zRs X) {i : Int} (hi : 0 ≤ i ∧ i < zmi (ztot M a) 8) : zRb X a i := by
  intro f t h1 h2 h3 h4
  have hb := zro_b ha h hX hR hi (f := f) (t := t) ⟨h1, h2⟩ ⟨h3, h4⟩
  have := zp100_8 (n := 8 - i.toNat) (by omega)
  omega
end
noncomputable section
/-! What the class keeps, method by method. -/
theorem zki_keep {n : Int} {M : zM} (h : zKI n M) (hn : n + 1 ≤ 600) : zKI (n + 1) (zkpM M zn1) := zKI_k h hn (fun _ _ _ => rfl) (by rw [zkp_o (by decide)]) (zBI_n (by omega) (zKb h)) (zKX_k h)
theorem zki_n {n n' : Int} {M : zM} (h : zKI n M) (hn : n ≤ n') (hn2 : n' ≤ 600) : zKI n' M := ⟨⟨Int.le_trans h.n.1 hn, hn2⟩, zBI_n hn h.b, fun e => zBI_n hn (h.s e), fun i h0 h1 => zBI_n hn (h.r i h0 h1), h.ch, h.x⟩
theorem zki_motion {n : Int} {M : zM} {x y v : Int} (h : zKI n M) (hn : n + 1 ≤ 600) (hx : 0 ≤ x ∧ x ≤ 16) (hy : 0 ≤ y ∧ y ≤ 16) (hv : 0 ≤ v ∧ v ≤ 16) (hs : x + y + v ≤ 16) : zKI (n + 1) (zup (zup (zup (zup (zkpM M zn1) (zn1 + 6) 0 x) (zn1 + 6) 1 y) (zn1 + 6) 2 v) (zn1 + 6) 3 (16 - x - y - v)) := by
  have hK := zKb h
  generalize hM' : zup (zup (zup (zup (zkpM M zn1) (zn1 + 6) 0 x) (zn1 + 6) 1 y) (zn1 + 6) 2 v) (zn1 + 6) 3 (16 - x - y - v) = M'
  have hq : ∀ q : Nat, q ≠ 7 → M' q = zkpM M zn1 q := fun q a => by rw [← hM', zup_or a, zup_or a, zup_or a, zup_or a]
  have h0 : M' (zn1 + 6) 0 = x := by rw [← hM', zup_ne (by decide), zup_ne (by decide), zup_ne (by decide), zup_i]
  have h1 : M' (zn1 + 6) 1 = y := by rw [← hM', zup_ne (by decide), zup_ne (by decide), zup_i]
  have h2 : M' (zn1 + 6) 2 = v := by rw [← hM', zup_ne (by decide), zup_i]
  have h3 : M' (zn1 + 6) 3 = 16 - x - y - v := by rw [← hM', zup_i]
  have hE : zE2 M' (zkpM M zn1) zn1 := ⟨hq _ (by decide), hq _ (by decide)⟩
  obtain ⟨⟨t1, t2, t3, t4⟩, t5⟩ := hK.b3
  refine zKI_k h hn (fun q a b => hq q (by omega)) (by rw [hq _ (by decide), zkp_o (by decide)]) ⟨zB1_c hE.ef (zGr_c hE hK.g) (fun j _ => by rw [hq _ (by decide)]) hK.b1, zB2_c hE.ef hK.g (fun j _ => by rw [hq _ (by decide)]) hK.b2, ⟨⟨fun j hj => ?_, fun j hj => by rw [hq _ (by decide)]; exact t2 j hj, by rw [hq _ (by decide)]; exact t3, by rw [hq _ (by decide)]; exact t4⟩, ?_⟩, zBI_n4 hE.ef (fun j _ => by rw [hq _ (by decide)]) (fun j _ => by rw [hq _ (by decide)]) (fun j _ => by rw [hq _ (by decide)]) hK, zCo_cc (fun j _ => by rw [hq _ (by decide)]) hK.b5, zB6_c hE.ef (by rw [hq _ (by decide)]) hK.b6⟩ (zKX_c (zKX_k h) (fun q a b _ _ => hq q (by omega)) (by rw [hq _ (by decide)]) (by rw [hq _ (by decide)]))
  · have hj4 : j = 0 ∨ j = 1 ∨ j = 2 ∨ j = 3 := by omega
    rcases hj4 with rfl | rfl | rfl | rfl
    · rw [h0]; exact hx
    · rw [h1]; exact hy
    · rw [h2]; exact hv
    · rw [h3]; omega
  · show 0 + M' (zn1 + 6) 0 + M' (zn1 + 6) 1 + M' (zn1 + 6) 2 + M' (zn1 + 6) 3 = 16
    rw [h0, h1, h2, h3]
    omega
theorem zki_spread {n : Int} {M : zM} (h : zKI n M) (hn : n + 1 ≤ 600) : zKI (n + 1) (zfgM (zkpM M zn1)) := by
  have hK := zKb h
  have hn0 := h.n
  have hq : ∀ q : Nat, q ≠ 9 → q ≠ 12 → q ≠ 102 → q ≠ 103 → zfgM (zkpM M zn1) q = zkpM M zn1 q := fun q a b c d => zfg_o b c d a
  exact zKI_k h hn (fun q a b => hq q (by omega) (by omega) (by omega) (by omega)) (by rw [hq _ (by decide) (by decide) (by decide) (by decide), zkp_o (by decide)]) (zBI_fg (by omega) hK.b1 hK.b2.1 hK.b3 hK.b4.1 hK.b5 hK.b6) (zKX_c (zKX_k h) (fun q a b c d => hq q (by omega) (by omega) c d) (by rw [hq _ (by decide) (by decide) (by decide) (by decide)]) (by rw [hq _ (by decide) (by decide) (by decide) (by decide)]))
theorem zki_place {n : Int} {M : zM} {x : Int} (h : zKI n M) (hn : n + 1 ≤ 600) (hf : zfree M zn1 x) : zKI (n + 1) (zplM (zkpM M zn1) x) := by
  have hK := zKb h
  have hn0 := h.n
  have hfK : zfree (zkpM M zn1) zn1 x := (zfree_c ⟨zkp_o (by decide), zkp_o (by decide)⟩).mpr hf
  have hxb := zfree_b hK.g hfK
  have hY : ∀ q : Nat, q ≠ 12 → zup (ztab (zkpM M zn1) (zn1 + 11) 36 (fun _ => 0)) (zn1 + 11) x.toNat 1000000 q = zkpM M zn1 q := fun q a => by
    rw [zup_or a]
    funext j
    exact ztab_o a
  have hq : ∀ q : Nat, q ≠ 9 → q ≠ 12 → zplM (zkpM M zn1) x q = zkpM M zn1 q := fun q a b => by
    unfold zplM
    rw [zclM_o a, hY q b]
  have hE : zE2 (zplM (zkpM M zn1) x) (zkpM M zn1) zn1 := ⟨hq _ (by decide) (by decide), hq _ (by decide) (by decide)⟩
  have hYE : zE2 (zup (ztab (zkpM M zn1) (zn1 + 11) 36 (fun _ => 0)) (zn1 + 11) x.toNat 1000000) (zkpM M zn1) zn1 := ⟨hY _ (by decide), hY _ (by decide)⟩
  have h12 : ∀ j, j < 36 → zplM (zkpM M zn1) x (zn1 + 11) j = if x.toNat = j then 1000000 else 0 := fun j hj => by
    unfold zplM
    rw [zclM_o (by decide), zup_at, ztab_i hj]
    by_cases e : j = x.toNat
    · rw [if_pos e, if_pos e.symm]
    · rw [if_neg e, if_neg (fun h => e h.symm)]
  obtain ⟨g6, g7⟩ := hK.g.sz
  have hz : zsz (zkpM M zn1) zn1 = zkpM M zn1 (zn1 + 1) 0 * zkpM M zn1 (zn1 + 1) 1 := rfl
  have hxs := hfK.2.1
  refine zKI_k h hn (fun q a b => hq q (by omega) (by omega)) (by rw [hq _ (by decide) (by decide), zkp_o (by decide)]) ⟨zB1_c hE.ef (zGr_c hE hK.g) (fun j _ => by rw [hq _ (by decide) (by decide)]) hK.b1, ⟨fun j hj => ?_, ?_, fun j hj hw => ?_⟩, zB3_c ⟨by rw [hq _ (by decide) (by decide)], by rw [hq _ (by decide) (by decide)]⟩ (fun j _ => by rw [hq _ (by decide) (by decide)]) (fun j _ => by rw [hq _ (by decide) (by decide)]) hK.b3, zB4_clr (by omega) (zTr_c (hY _ (by decide)) (hY _ (by decide)) (hY _ (by decide)) hK.b4.1) (zGr_c hYE hK.g) (Or.inr ((zfree_c hYE).mpr hfK)), zCo_cc (fun j _ => by rw [hq _ (by decide) (by decide)]) hK.b5, zB6_c hE.ef (by rw [hq _ (by decide) (by decide)]) hK.b6⟩ (zKX_c (zKX_k h) (fun q a b c d => hq q (by omega) (by omega)) (by rw [hq _ (by decide) (by decide)]) (by rw [hq _ (by decide) (by decide)]))
  · rw [h12 j hj]
    split <;> decide
  · rw [zsz_c hE, zsum_c (K := fun j => if x.toNat = j then 1000000 else 0) _ (fun j hj => h12 j (by omega)), zsum_one, if_pos (by omega)]
  · rw [zsz_c hE] at hj
    rw [h12 j (by omega), if_neg (fun e => hw ((zfreeN_c hE).symm ▸ (by subst e; exact (zfreeN_i hfK.1).mpr hfK)))]
theorem zki_move {n : Int} {M : zM} {x : Int} (h : zKI n M) (hn : n + 1 ≤ 600) (hx : 0 ≤ x ∧ x < 4) : zKI (n + 1) (zgoM (zkpM M zn1) x) := by
  have hK := zKb h
  have hq : ∀ q : Nat, q ≠ 9 → q ≠ 10 → q ≠ 11 → q ≠ 12 → q ≠ 102 → q ≠ 103 → zgoM (zkpM M zn1) x q = zkpM M zn1 q := fun q a b c d e f => zgo_o a b c d e f
  exact zKI_k h hn (fun q a b => hq q (by omega) (by omega) (by omega) (by omega) (by omega) (by omega)) (by rw [hq _ (by decide) (by decide) (by decide) (by decide) (by decide) (by decide), zkp_o (by decide)]) (zBI_go (by omega) hx hK) (zKX_c (zKX_k h) (fun q a b c d => hq q (by omega) (by omega) (by omega) (by omega) c d) (by rw [hq _ (by decide) (by decide) (by decide) (by decide) (by decide) (by decide)]) (by rw [hq _ (by decide) (by decide) (by decide) (by decide) (by decide) (by decide)]))
/-- scratch rows of the filter -/
theorem zki_scr {n : Int} {M X : zM} (h : zKI n M) (hq : ∀ q : Nat, q < 115 → q ≠ 102 → q ≠ 103 → q ≠ 104 → X q = M q) (hb : zBr X 104) : zKI n X := zKI_f h (fun q a b => hq q (by omega) (by omega) (by omega) (by omega)) (by rw [hq 0 (by decide) (by decide) (by decide) (by decide)]) (zKX_4 h.x (fun q a b c d e => hq q (by omega) c d e) hb (by rw [hq 0 (by decide) (by decide) (by decide) (by decide)]) (by rw [hq 0 (by decide) (by decide) (by decide) (by decide)]))
theorem zki_T {n : Int} {M : zM} {k : Int} (h : zKI n M) : zKI n (zsT M k) := zki_scr h (fun q _ a _ _ => zsgM_o a) (by unfold zBr zsT; rw [zsgM_o (by decide)]; exact h.x.br)
theorem zki_R {n : Int} {M : zM} {k : Int} (h : zKI n M) : zKI n (zsR M k) := zki_scr h (fun q _ a b c => by unfold zsR; rw [zsgM_o a, zrsM_o a b c]) (zCI_rs h.ci).br
theorem zsg_wall {X : zM} {q : Nat} {k : Int} {j : Nat} (hj : (j : Int) < zsz X zn1) (hf : ¬ zfreeN X zn1 j) : zsgM X zn1 q k 102 j = 0 := by
  unfold zsgM
  rw [ztab_i (by omega)]
  exact if_neg hf
theorem zkt_wall {M : zM} {k : Int} {j : Nat} (hj : (j : Int) < zsz (zkpM (zsT M k) zn1) zn1) (hf : ¬ zfreeN (zkpM (zsT M k) zn1) zn1 j) : zkpM (zsT M k) zn1 102 j = 0 := by
  have hE : zE2 (zkpM (zsT M k) zn1) M zn1 := ⟨by rw [zkp_o (by decide)]; exact zsgM_o (by decide), by rw [zkp_o (by decide)]; exact zsgM_o (by decide)⟩
  rw [zsz_c hE] at hj
  rw [zkp_o (by decide)]
  exact zsg_wall hj (fun e => hf (by rw [zfreeN_c hE]; exact e))
theorem zkr_wall {M : zM} {k : Int} {j : Nat} (hj : (j : Int) < zsz (zkpM (zsR M k) zn1) zn1) (hf : ¬ zfreeN (zkpM (zsR M k) zn1) zn1 j) : zkpM (zsR M k) zn1 102 j = 0 := by
  have hE : zE2 (zkpM (zsR M k) zn1) (zrsM M zn1 k) zn1 := ⟨by rw [zkp_o (by decide)]; exact zsgM_o (by decide), by rw [zkp_o (by decide)]; exact zsgM_o (by decide)⟩
  rw [zsz_c hE] at hj
  rw [zkp_o (by decide)]
  exact zsg_wall hj (fun e => hf (by rw [zfreeN_c hE]; exact e))
/-- a sight behind keeping the state -/
theorem zki_ts {n : Int} {X : zM} {k o : Int} (h : zKI n X) (hn : n + 1 ≤ 600) (hk : 0 ≤ k ∧ k < 4) (hw : (∀ j : Nat, (j : Int) < zsz (zkpM X zn1) zn1 → 0 ≤ zkpM X zn1 102 j ∧ zkpM X zn1 102 j ≤ 9000000000000) ∧ 0 < zsum (zkpM X zn1 102) (zsz (zkpM X zn1) zn1).toNat) (hwl : ∀ j : Nat, (j : Int) < zsz (zkpM X zn1) zn1 → ¬ zfreeN (zkpM X zn1) zn1 j → zkpM X zn1 102 j = 0) : zKI (n + 1) (ztsM (zkpM X zn1) k o) := by
  have hK := zKb h
  have hn0 := h.n
  have hq : ∀ q : Nat, q ≠ 1 → q ≠ 9 → q ≠ 10 → q ≠ 11 → q ≠ 12 → q ≠ 103 → ztsM (zkpM X zn1) k o q = zkpM X zn1 q := fun q a b c d e f => zts_o a b c d e f
  exact zKI_k h hn (fun q a b => hq q (by omega) (by omega) (by omega) (by omega) (by omega) (by omega)) (by rw [hq _ (by decide) (by decide) (by decide) (by decide) (by decide) (by decide), zkp_o (by decide)]) (zBI_ts (by omega) hn0.1 hk (fun j hj => (hw.1 j (by omega)).1) hw.2 hwl hK) (zKX_c (zKX_k h) (fun q a b c d => hq q (by omega) (by omega) (by omega) (by omega) (by omega) d) (by rw [hq _ (by decide) (by decide) (by decide) (by decide) (by decide) (by decide)]) (by rw [hq _ (by decide) (by decide) (by decide) (by decide) (by decide) (by decide)]))
theorem zki_seeT {n : Int} {M : zM} {k o : Int} (h : zKI n M) (hn : n + 1 ≤ 600) (hk : 0 ≤ k ∧ k < 4) (ho : zok M zn1 k) : zKI (n + 1) (ztsM (zkpM (zsT M k) zn1) k o) := zki_ts (zki_T h) hn hk (zkw_T h.ci hk ho) (fun j hj hf => zkt_wall hj hf)
theorem zki_seeR {n : Int} {M : zM} {k o : Int} (h : zKI n M) (hn : n + 1 ≤ 600) (hk : 0 ≤ k ∧ k < 4) (ho : ¬ zrs M zn1 k = 0) : zKI (n + 1) (ztsM (zkpM (zsR M k) zn1) k o) := zki_ts (zki_R h) hn hk (zkw_R h.ci hk ho) (fun j hj hf => zkr_wall hj hf)
theorem zki_drive {n : Int} {M : zM} {x : Int} (h : zKI n M) (hn : n + 1 ≤ 600) (hx : 0 ≤ x ∧ x < 4) : zKI (n + 1) (zdvM M x) := by
  have hK := zKb h
  have h2 : zBI n (zdv2 M) zn1 := zBI_up (fun e => absurd e (by decide)) hK
  have hro : zfree (zdv2 M) zn1 (zdv2 M zn1 4) := h2.b6
  have htg := ztg_n h2.b1 (c := zdv2 M zn1 4) (e := x) (zdvW M) ⟨hro.1, hro.2.1⟩ hx
  have h3 : zBI n (zdv3 M x) zn1 := zBI_up (fun _ => by
    rcases htg.2 with e | e
    · rw [e]; exact hro
    · exact e.2) h2
  have hn0 := h.n
  have h4 := zBI_go (n := n) (e := x) (by omega) hx h3
  have hq3 : ∀ q : Nat, q ≠ 1 → zdv3 M x q = zkpM M zn1 q := fun q a => by unfold zdv3 zdv2; rw [zup_or a, zup_or a]
  have hq4 : ∀ q : Nat, q ≠ 1 → q ≠ 9 → q ≠ 10 → q ≠ 11 → q ≠ 12 → q ≠ 102 → q ≠ 103 → zgoM (zdv3 M x) x q = zkpM M zn1 q := fun q z a b c d e f => by rw [zgo_o a b c d e f, hq3 q z]
  have hq : ∀ q : Nat, q ≠ 1 → q ≠ 9 → q ≠ 10 → q ≠ 11 → q ≠ 12 → q ≠ 102 → q ≠ 103 → q ≠ 106 → q ≠ 107 → zdvM M x q = zkpM M zn1 q := fun q z a b c d e f g g' => by unfold zdvM; rw [zch_o z g g', hq4 q z a b c d e f]
  have hx4 : zKX (zgoM (zdv3 M x) x) := zKX_c (zKX_k h) (fun q a b c d => hq4 q (by omega) (by omega) (by omega) (by omega) (by omega) c d) (by rw [hq4 _ (by decide) (by decide) (by decide) (by decide) (by decide) (by decide) (by decide)]) (by rw [hq4 _ (by decide) (by decide) (by decide) (by decide) (by decide) (by decide) (by decide)])
  exact zKI_k h hn (fun q a b => hq q (by omega) (by omega) (by omega) (by omega) (by omega) (by omega) (by omega) (by omega) (by omega)) (by rw [hq _ (by decide) (by decide) (by decide) (by decide) (by decide) (by decide) (by decide) (by decide) (by decide), zkp_o (by decide)]) (zBI_ch h4) (zKX_ch h4.g h4.b2.1 hx4)
theorem zki_sense {n : Int} {X : zM} {z k o : Int} (h : zKI n X) (hn : n + 1 ≤ 600) (hk : 0 ≤ k ∧ k < 4) (hw : (∀ j : Nat, (j : Int) < zsz (zkpM X zn1) zn1 → 0 ≤ zkpM X zn1 102 j ∧ zkpM X zn1 102 j ≤ 9000000000000) ∧ 0 < zsum (zkpM X zn1 102) (zsz (zkpM X zn1) zn1).toNat) (hwl : ∀ j : Nat, (j : Int) < zsz (zkpM X zn1) zn1 → ¬ zfreeN (zkpM X zn1) zn1 j → zkpM X zn1 102 j = 0) : zKI (n + 1) (zseM X z k o) := by
  have hK := zKb h
  have hn0 := h.n
  have hU : zBI n (zup (zkpM X zn1) zn1 5 z) zn1 := zBI_up (fun e => absurd e (by decide)) hK
  have hE : zE2 (zup (zkpM X zn1) zn1 5 z) (zkpM X zn1) zn1 := ⟨zup_or (by decide), zup_or (by decide)⟩
  have h102 : zup (zkpM X zn1) zn1 5 z 102 = zkpM X zn1 102 := zup_or (by decide)
  have h4 : zBI (n + 1) (ztsM (zup (zkpM X zn1) zn1 5 z) k o) zn1 := zBI_ts (by omega) hn0.1 hk (fun j hj => by rw [zsz_c hE] at hj; rw [h102]; exact (hw.1 j (by omega)).1) (by rw [h102, zsz_c hE]; exact hw.2) (fun j hj hf => by rw [zsz_c hE] at hj; rw [h102]; exact hwl j hj (fun e => hf (by rw [zfreeN_c hE]; exact e))) hU
  have hq4 : ∀ q : Nat, q ≠ 1 → q ≠ 9 → q ≠ 10 → q ≠ 11 → q ≠ 12 → q ≠ 103 → ztsM (zup (zkpM X zn1) zn1 5 z) k o q = zkpM X zn1 q := fun q a b c d e f => by rw [zts_o a b c d e f, zup_or a]
  have hq : ∀ q : Nat, q ≠ 1 → q ≠ 9 → q ≠ 10 → q ≠ 11 → q ≠ 12 → q ≠ 103 → q ≠ 106 → q ≠ 107 → zseM X z k o q = zkpM X zn1 q := fun q a b c d e f g g' => by unfold zseM; rw [zch_o a g g', hq4 q a b c d e f]
  have hx4 : zKX (ztsM (zup (zkpM X zn1) zn1 5 z) k o) := zKX_c (zKX_k h) (fun q a b c d => hq4 q (by omega) (by omega) (by omega) (by omega) (by omega) d) (by rw [hq4 _ (by decide) (by decide) (by decide) (by decide) (by decide) (by decide)]) (by rw [hq4 _ (by decide) (by decide) (by decide) (by decide) (by decide) (by decide)])
  exact zKI_k h hn (fun q a b => hq q (by omega) (by omega) (by omega) (by omega) (by omega) (by omega) (by omega) (by omega)) (by rw [hq _ (by decide) (by decide) (by decide) (by decide) (by decide) (by decide) (by decide) (by decide), zkp_o (by decide)]) (zBI_ch h4) (zKX_ch h4.g h4.b2.1 hx4)
theorem zki_senseT {n : Int} {M : zM} {z k o : Int} (h : zKI n M) (hn : n + 1 ≤ 600) (hk : 0 ≤ k ∧ k < 4) (ho : zok M zn1 k) : zKI (n + 1) (zseM (zsT M k) z k o) := zki_sense (zki_T h) hn hk (zkw_T h.ci hk ho) (fun j hj hf => zkt_wall hj hf)
theorem zki_senseR {n : Int} {M : zM} {z k o : Int} (h : zKI n M) (hn : n + 1 ≤ 600) (hk : 0 ≤ k ∧ k < 4) (ho : ¬ zrs M zn1 k = 0) : zKI (n + 1) (zseM (zsR M k) z k o) := zki_sense (zki_R h) hn hk (zkw_R h.ci hk ho) (fun j hj hf => zkr_wall hj hf)
/-- the neighbors of a new grid -/
theorem zB1_co {K : zM} (hg : zGr K zn1) (hnb : zNb K zn1) (hm : 0 < zmany K zn1) : zB1 (zcoM K zn1) zn1 := by
  have hE : zE2 (zcoM K zn1) K zn1 := zco_e2
  obtain ⟨g6, g7⟩ := hg.sz
  have hz : zsz K zn1 = K (zn1 + 1) 0 * K (zn1 + 1) 1 := rfl
  refine ⟨zGr_c hE hg, fun j hj => ?_, fun j hj => ?_, by rw [zmany_c hE]; exact hm⟩
  · unfold zcoM
    by_cases h : j < (zsz K zn1 * 4).toNat
    · rw [ztab_i h]
      unfold zcnF
      have := (zjn_n (M := K) (a := zn1) (c := (j : Int) / 4) (n := znx (K (zn1 + 1) 0) ((j : Int) / 4) ((j : Int) % 4)) (by omega)).1
      omega
    · rw [ztab_g (by omega)]
      exact hnb j hj
  · rw [zsz_c hE] at hj
    rw [hE.ef.cn]
    unfold zcoM
    rw [ztab_i (by omega)]
theorem zki_wall {n : Int} {M : zM} {x v : Int} (h : zKI n M) (hn : n + 1 ≤ 600) (hx : 0 ≤ x ∧ x < zsz M zn1) (hv : v = -1 ∧ ¬ zmany M zn1 = 1 ∧ ¬ M zn1 4 = x ∧ zfree M zn1 x ∨ v = 0 ∧ ¬ zfree M zn1 x) : zKI (n + 1) (zswM M x v) := by
  have hK := zKb h
  have hn0 := h.n
  have hKE : zE2 (zkpM M zn1) M zn1 := ⟨zkp_o (by decide), zkp_o (by decide)⟩
  have hxK : 0 ≤ x ∧ x < zsz (zkpM M zn1) zn1 := by rw [zsz_c hKE]; exact hx
  obtain ⟨g6, g7⟩ := hK.g.sz
  have hz : zsz (zkpM M zn1) zn1 = zkpM M zn1 (zn1 + 1) 0 * zkpM M zn1 (zn1 + 1) 1 := rfl
  have hmK := hK.b1.2.2.2
  have hmM := zmany_c hKE
  have hfM : zfree (zkpM M zn1) zn1 x ↔ zfree M zn1 x := zfree_c hKE
  have hB := zbu_many (M := zkpM M zn1) (x := x) (v := v) hxK
  have hg : zGr (zbuM (zkpM M zn1) x v) zn1 := zbu_gr hK.g (by omega)
  have hbo : ∀ q : Nat, q ≠ 3 → q ≠ 4 → zbuM (zkpM M zn1) x v q = zkpM M zn1 q := fun q a b => zbu_o a b
  have hm : 0 < zmany (zbuM (zkpM M zn1) x v) zn1 := by
    rcases hv with ⟨rfl, h1, h2, h3⟩ | ⟨rfl, h1⟩
    · rw [zb_t (hfM.mpr h3), zb_f (show ¬ ¬ (-1 : Int) = -1 by decide)] at hB
      omega
    · rw [zb_f (fun e => h1 (hfM.mp e)), zb_t (show ¬ (0 : Int) = -1 by decide)] at hB
      omega
  have h1 : zB1 (zcoM (zbuM (zkpM M zn1) x v) zn1) zn1 := zB1_co hg (by unfold zNb; rw [hbo _ (by decide) (by decide)]; exact hK.b1.2.1) hm
  have hco : ∀ q : Nat, q ≠ 5 → zcoM (zbuM (zkpM M zn1) x v) zn1 q = zbuM (zkpM M zn1) x v q := fun q a => by
    unfold zcoM
    funext j
    exact ztab_o a
  have hq2 : ∀ q : Nat, q ≠ 3 → q ≠ 4 → q ≠ 5 → zcoM (zbuM (zkpM M zn1) x v) zn1 q = zkpM M zn1 q := fun q a b c => by rw [hco q c, hbo q a b]
  have hq : ∀ q : Nat, q ≠ 3 → q ≠ 4 → q ≠ 5 → q ≠ 9 → q ≠ 12 → q ≠ 102 → q ≠ 103 → zswM M x v q = zkpM M zn1 q := fun q a b c d e f g => by
    unfold zswM
    rw [zfg_o e f g d, hq2 q a b c]
  refine zKI_k h hn (fun q a b => hq q (by omega) (by omega) (by omega) (by omega) (by omega) (by omega) (by omega)) (by rw [hq _ (by decide) (by decide) (by decide) (by decide) (by decide) (by decide) (by decide), zkp_o (by decide)]) (zBI_fg (by omega) h1 (by unfold zBl; rw [hq2 _ (by decide) (by decide) (by decide)]; exact hK.b2.1) (zB3_c ⟨by rw [hq2 _ (by decide) (by decide) (by decide)], by rw [hq2 _ (by decide) (by decide) (by decide)]⟩ (fun j _ => by rw [hq2 _ (by decide) (by decide) (by decide)]) (fun j _ => by rw [hq2 _ (by decide) (by decide) (by decide)]) hK.b3) (zTr_c (hq2 _ (by decide) (by decide) (by decide)) (hq2 _ (by decide) (by decide) (by decide)) (hq2 _ (by decide) (by decide) (by decide)) hK.b4.1) (fun j hj => ?_) ?_) (zKX_c (zKX_k h) (fun q a b c d => hq q (by omega) (by omega) (by omega) (by omega) (by omega) c d) (by rw [hq _ (by decide) (by decide) (by decide) (by decide) (by decide) (by decide) (by decide)]) (by rw [hq _ (by decide) (by decide) (by decide) (by decide) (by decide) (by decide) (by decide)]))
  · rw [hco _ (by decide)]
    unfold zbuM
    rw [zup_at]
    split
    · decide
    · rw [zup_or (by decide)]
      exact hK.b5 j hj
  · unfold zB6
    rw [hq2 _ (by decide) (by decide) (by decide)]
    refine (zfree_c zco_e2).mpr ?_
    have hro := hK.b6
    unfold zB6 at hro
    have hr4 : zkpM M zn1 zn1 4 = M zn1 4 := by rw [zkp_o (by decide)]
    unfold zfree
    rw [hbo _ (by decide) (by decide), zbu_2]
    refine ⟨hro.1, hro.2.1, ?_⟩
    split
    · next e =>
      rcases hv with ⟨rfl, h1, h2, h3⟩ | ⟨rfl, h1⟩
      · exfalso
        have hr0 := hro.1
        rw [hr4] at e hr0
        omega
      · decide
    · exact hro.2.2
end
noncomputable section
/-! What the class keeps: loading, undoing, restoring, saving, reading. -/
theorem zcount_ex {P : Nat → Prop} : ∀ n, 0 < zcount P n → ∃ j, j < n ∧ P j
  | 0, h => absurd h (by show ¬ (0 : Int) < 0; decide)
  | n + 1, h => by
    by_cases hp : P n
    · exact ⟨n, Nat.lt_succ_self n, hp⟩
    · have h1 : 0 < zcount P n + zb (P n) := h
      rw [zb_f hp] at h1
      obtain ⟨j, hj, hpj⟩ := zcount_ex (P := P) n (by omega)
      exact ⟨j, by omega, hpj⟩
theorem zfirst_ok {P : Nat → Prop} {e : Int} : ∀ k i, (∃ j, i ≤ j ∧ j < i + k ∧ P j) → P (zfirst P e i k).toNat ∧ (i : Int) ≤ zfirst P e i k ∧ zfirst P e i k < (i + k : Nat) ∧ ∀ j, i ≤ j → (j : Int) < zfirst P e i k → ¬ P j
  | 0, i, ⟨j, h1, h2, _⟩ => by omega
  | k + 1, i, ⟨j, h1, h2, h3⟩ => by
    unfold zfirst
    by_cases hp : P i
    · rw [if_pos hp]
      exact ⟨by rw [Int.toNat_natCast]; exact hp, Int.le_refl _, by omega, fun j a b => by omega⟩
    · rw [if_neg hp]
      have hji : j ≠ i := fun e => hp (e ▸ h3)
      obtain ⟨a, b, c, d⟩ := zfirst_ok (P := P) (e := e) k (i + 1) ⟨j, by omega, by omega, h3⟩
      refine ⟨a, by omega, by omega, fun m hm1 hm2 => ?_⟩
      by_cases hmi : m = i
      · rw [hmi]; exact hp
      · exact d m (by omega) hm2
theorem zlow_f {M : zM} {a : Nat} (hm : 0 < zmany M a) : zfree M a (zlow M a) ∧ ∀ c : Int, 0 ≤ c → c < zlow M a → ¬ zfree M a c := by
  obtain ⟨j, hj, hp⟩ := zcount_ex (zsz M a).toNat hm
  obtain ⟨h1, h2, h3, h4⟩ := zfirst_ok (P := zfreeN M a) (e := 0) (zsz M a).toNat 0 ⟨j, by omega, by omega, hp⟩
  have h0 : 0 ≤ zlow M a := h2
  refine ⟨(zfreeN_i h0).mp h1, fun c hc hl hf => ?_⟩
  exact h4 c.toNat (by omega) (by rw [Int.toNat_of_nonneg hc]; exact hl) ((zfreeN_i hc).mpr hf)
theorem zwt_co {B : zF} {a : Nat} : ∀ (k : Nat) (i h v t : Int) (M : zM), zCo M a → zCo (zwt B a k i h v t M).1 a
  | 0, i, h, v, t, M, hc => hc
  | k + 1, i, h, v, t, M, hc => by
    unfold zwt
    split
    · split
      · exact zwt_co k _ _ _ _ _ hc
      · refine zwt_co k _ _ _ _ _ (fun j hj => ?_)
        rw [zup_at]
        split
        · decide
        · rw [zup_or (by omega)]
          exact hc j hj
    · exact hc
theorem zki_e5 {n : Int} {M : zM} {x : Int} (h : zKI n M) (hx : -1 ≤ x ∧ x ≤ 45) : zKI n (zup M 0 5 x) := by
  have hq : ∀ q : Nat, q ≠ 0 → zup M 0 5 x q = M q := fun q a => zup_or a
  have hX := h.x
  refine zKI_f h (fun q a _ => hq q a) (by rw [zup_ne (by decide)]) ⟨?_, ?_, ?_, ?_, ?_, ?_, ?_, by rw [zup_ne (by decide)]; exact hX.k, by rw [zup_i]; exact hx⟩
  · unfold zBu; rw [hq 99 (by decide), hq 100 (by decide)]; exact hX.bu
  · rw [hq _ (by decide)]; exact hX.r7
  · rw [hq _ (by decide)]; exact hX.r6
  · rw [hq _ (by decide)]; exact hX.w
  · unfold zBr; rw [hq _ (by decide)]; exact hX.br
  · rw [hq _ (by decide)]; exact hX.er
  · unfold zRs; rw [hq _ (by decide)]; exact hX.rs
theorem zKX_b0 {M : zM} (hX : zKX M) : zKX (zup M 99 1 0) := by
  have hq : ∀ q : Nat, q ≠ 99 → zup M 99 1 0 q = M q := fun q a => zup_or a
  refine ⟨?_, ?_, ?_, ?_, ?_, ?_, ?_, by rw [hq _ (by decide)]; exact hX.k, by rw [hq _ (by decide)]; exact hX.ea⟩
  · unfold zBu; rw [zup_i, hq 100 (by decide)]; exact ⟨by decide, hX.bu.2⟩
  · rw [hq _ (by decide)]; exact hX.r7
  · rw [hq _ (by decide)]; exact hX.r6
  · rw [hq _ (by decide)]; exact hX.w
  · unfold zBr; rw [hq _ (by decide)]; exact hX.br
  · rw [hq _ (by decide)]; exact hX.er
  · unfold zRs; rw [hq _ (by decide)]; exact hX.rs
theorem zki_b0 {n : Int} {M : zM} (h : zKI n M) : zKI n (zup M 99 1 0) := zKI_f h (fun q a b => zup_or (by omega)) (by rw [zup_or (by decide)]) (zKX_b0 h.x)
theorem zki_loadE {n : Int} {M : zM} (h : zKI n M) : zKI n (zup (zup M 0 5 (zfe M)) 99 1 0) := zki_b0 (zki_e5 h (zfe_b h.x.bu))
theorem zki_load {n : Int} {M : zM} (h : zKI n M) (hn : n + 1 ≤ 600) (he : zfe M = -1) : zKI (n + 1) (zloM M) := by
  have hX := zki_e5 h (zfe_b h.x.bu)
  have hK : zBI n (zloK M) zn1 := zKb hX
  have hKx : zKX (zloK M) := zKX_k hX
  have hn0 := h.n
  have hu := hKx.bu
  obtain ⟨⟨u1, u2⟩, u3⟩ := id hu
  have hfk : zfe (zloK M) = -1 := by
    rw [← he]
    exact zfe_c (by unfold zloK; rw [zkp_o (by decide), zup_or (by decide)]) (by unfold zloK; rw [zkp_o (by decide), zup_or (by decide)])
  obtain ⟨hG, hm⟩ := zwtG_ok hu hK.g hfk
  obtain ⟨r1, r2, r3, r4⟩ := zwt_ok (B := zloK M 100) (a := zn1) (L := zloK M 99 1) (zloK M 99 1).toNat 0 0 1 0 0 0 0 (zloK M) (by omega) (by omega) hfk (Or.inl ⟨rfl, rfl, rfl, rfl, by omega, by omega⟩) ⟨hK.g.2.2, fun e => absurd rfl e⟩
  have hgo : ∀ q : Nat, q ≠ 2 → q ≠ 3 → q ≠ 4 → zwtG (zloK M) zn1 q = zloK M q := fun q a b c => by
    unfold zwtG
    rw [zup_or a, zup_or a]
    exact r4 q b c
  have hco : ∀ q : Nat, q ≠ 5 → zwtM (zloK M) zn1 q = zwtG (zloK M) zn1 q := fun q a => by
    unfold zwtM zcoM
    funext j
    exact ztab_o a
  have hq5 : ∀ q : Nat, q ≠ 1 → q ≠ 2 → q ≠ 3 → q ≠ 4 → q ≠ 5 → q ≠ 99 → zlo5 M q = zloK M q := fun q a b c d e f => by
    unfold zlo5 zlo4
    rw [zup_or a, zup_or f, hco q e, hgo q b c d]
  have hq : ∀ q : Nat, q ≠ 1 → q ≠ 2 → q ≠ 3 → q ≠ 4 → q ≠ 5 → q ≠ 9 → q ≠ 12 → q ≠ 99 → q ≠ 102 → q ≠ 103 → zloM M q = zloK M q := fun q a b c d e f g i j k => by
    unfold zloM
    rw [zfg_o g j k f, hq5 q a b c d e i]
  have h1 : zB1 (zwtM (zloK M) zn1) zn1 := zB1_co hG (by unfold zNb; rw [hgo _ (by decide) (by decide) (by decide)]; exact hK.b1.2.1) hm
  have hE5 : zE2 (zlo5 M) (zwtM (zloK M) zn1) zn1 := ⟨by unfold zlo5 zlo4; rw [zup_or (by decide), zup_or (by decide)], by unfold zlo5 zlo4; rw [zup_or (by decide), zup_or (by decide)]⟩
  have hE4 : zE2 (zlo4 M) (zwtM (zloK M) zn1) zn1 := ⟨by unfold zlo4; rw [zup_or (by decide)], by unfold zlo4; rw [zup_or (by decide)]⟩
  have h15 : zB1 (zlo5 M) zn1 := zB1_c hE5.ef (zGr_c hE5 h1.1) (fun j _ => by unfold zlo5 zlo4; rw [zup_or (by decide), zup_or (by decide)]) h1
  have hm4 : 0 < zmany (zlo4 M) zn1 := by rw [zmany_c hE4]; exact h1.2.2.2
  have hk2 : zloK M 0 2 = zup M 0 5 (zfe M) 0 2 := by unfold zloK; rw [zkp_o (by decide)]
  refine zKI_k hX hn (fun q a b => hq q (by omega) (by omega) (by omega) (by omega) (by omega) (by omega) (by omega) (by omega) (by omega) (by omega)) (by rw [hq _ (by decide) (by decide) (by decide) (by decide) (by decide) (by decide) (by decide) (by decide) (by decide) (by decide)]; exact hk2) (zBI_fg (by omega) h15 (by unfold zBl; rw [hq5 _ (by decide) (by decide) (by decide) (by decide) (by decide) (by decide)]; exact hK.b2.1) (zB3_c ⟨by rw [hq5 _ (by decide) (by decide) (by decide) (by decide) (by decide) (by decide)], by rw [hq5 _ (by decide) (by decide) (by decide) (by decide) (by decide) (by decide)]⟩ (fun j _ => by rw [hq5 _ (by decide) (by decide) (by decide) (by decide) (by decide) (by decide)]) (fun j _ => by rw [hq5 _ (by decide) (by decide) (by decide) (by decide) (by decide) (by decide)]) hK.b3) (zTr_c (hq5 _ (by decide) (by decide) (by decide) (by decide) (by decide) (by decide)) (hq5 _ (by decide) (by decide) (by decide) (by decide) (by decide) (by decide)) (hq5 _ (by decide) (by decide) (by decide) (by decide) (by decide) (by decide)) hK.b4.1) ?_ ?_) ?_
  · intro j hj
    have h9 := zwt_co (B := zloK M 100) (a := zn1) (zloK M 99 1).toNat 0 1 0 0 (zloK M) hK.b5 j hj
    have e9 : zlo5 M (zn1 + 3) = (zwtR (zloK M) zn1).1 (zn1 + 3) := by
      unfold zlo5 zlo4
      rw [zup_or (by decide), zup_or (by decide), hco _ (by decide)]
      unfold zwtG
      rw [zup_or (by decide), zup_or (by decide)]
    rw [e9]
    exact h9
  · unfold zB6
    have e4 : zlo5 M zn1 4 = zlow (zlo4 M) zn1 := by unfold zlo5; rw [zup_i]
    rw [e4]
    exact (zfree_c ⟨by unfold zlo5; rw [zup_or (by decide)], by unfold zlo5; rw [zup_or (by decide)]⟩).mpr (zlow_f hm4).1
  · have hx1 := zKX_b0 hKx
    refine zKX_c hx1 (fun q a b c d => ?_) ?_ ?_
    · by_cases e : q = 99
      · subst e
        unfold zloM
        rw [zfg_o (by decide) (by decide) (by decide) (by decide)]
        unfold zlo5 zlo4
        rw [zup_or (by decide)]
        funext j
        rw [zup_at, zup_at, hco _ (by decide), hgo _ (by decide) (by decide) (by decide)]
      · rw [hq q (by omega) (by omega) (by omega) (by omega) (by omega) (by omega) (by omega) e c d, zup_or e]
    · rw [hq _ (by decide) (by decide) (by decide) (by decide) (by decide) (by decide) (by decide) (by decide) (by decide) (by decide), zup_or (by decide)]
    · rw [hq _ (by decide) (by decide) (by decide) (by decide) (by decide) (by decide) (by decide) (by decide) (by decide) (by decide), zup_or (by decide)]
theorem ztb_sl {M : zM} : zslt (zup M 25 2 (M 25 2 - 1)) = zslo M (M 25 2 - 1) := by
  unfold zslt zslo
  rw [zup_i, zup_ne (by decide)]
theorem zki_undo {n : Int} {M : zM} (h : zKI n M) (h0 : ¬ M 25 2 = 0) : zKI n (ztbM M zn1) := by
  obtain ⟨⟨c1, c2⟩, c3, c4⟩ := id h.ch
  have hst := zslo_st M (M 25 2 - 1)
  have h27 : 27 ≤ zslo M (M 25 2 - 1) := by unfold zslo zring; omega
  have hq : ∀ q : Nat, q < 1 ∨ 13 ≤ q → ztbM M zn1 q = zup M 25 2 (M 25 2 - 1) q := fun q a => by unfold ztbM; exact zcpM_o a
  have e1 : ztbM M zn1 25 1 = M 25 1 := by rw [hq 25 (by omega), zup_ne (by decide)]
  have e2 : ztbM M zn1 25 2 = M 25 2 - 1 := by rw [hq 25 (by omega), zup_i]
  have hB : zBE (ztbM M zn1) zn1 M (zslo M (M 25 2 - 1)) := fun o j hs => by
    have ho := zslot_lt hs
    unfold ztbM
    rw [ztb_sl, zcpM_i hzn1 hst (by show 1 ≠ _; omega) hs, zup_or (by omega)]
  refine ⟨h.n, zBI_c hB (h.r _ (by omega) (by omega)), fun e => zBI_c (zBE_13 (fun q a b => by rw [hq q (by omega), zup_or (by omega)])) (h.s (by rw [hq 0 (by omega), zup_or (by decide)] at e; exact e)), fun i a b => ?_, ?_, zKX_c h.x (fun q a b _ _ => by rw [hq q (by omega), zup_or (by omega)]) (by rw [hq 0 (by omega), zup_or (by decide)]) (by rw [hq 0 (by omega), zup_or (by decide)])⟩
  · have e : zslo (ztbM M zn1) i = zslo M i := by unfold zslo; rw [e1]
    rw [e2] at b
    rw [e]
    have h27' : 27 ≤ zslo M i := by unfold zslo zring; omega
    exact zBI_c (zBE_q (fun q c d => by rw [hq q (by omega), zup_or (by omega)])) (h.r i a (by omega))
  · unfold zCh
    rw [e1, e2]
    omega
theorem zki_restore {n : Int} {M : zM} (h : zKI n M) (hn : n + 1 ≤ 600) (hk : M 0 2 = 1) : zKI (n + 1) (zcpM (zkpM M zn1) zn1 zn13) := by
  have hq : ∀ q : Nat, q < 1 ∨ 13 ≤ q → zcpM (zkpM M zn1) zn1 zn13 q = zkpM M zn1 q := fun q a => zcpM_o a
  have hB : zBE (zcpM (zkpM M zn1) zn1 zn13) zn1 M zn13 := fun o j hs => by
    have ho := zslot_lt hs
    rw [zcpM_i hzn1 hzn13 (by decide) hs, zkp_o (by show 13 + o < 25 ∨ _; omega)]
  exact zKI_k h hn (fun q a b => hq q (by omega)) (by rw [hq 0 (by omega), zkp_o (by decide)]) (zBI_n (n := n) (by omega) (zBI_c hB (h.s hk))) (zKX_c (zKX_k h) (fun q a b _ _ => hq q (by omega)) (by rw [hq 0 (by omega)]) (by rw [hq 0 (by omega)]))
theorem zki_save {n : Int} {M : zM} (h : zKI n M) : zKI n (zup (zcpM M zn13 zn1) 0 2 1) := by
  have hq : ∀ q : Nat, q ≠ 0 → q < 13 ∨ 25 ≤ q → zup (zcpM M zn13 zn1) 0 2 1 q = M q := fun q z a => by rw [zup_or z]; exact zcpM_o a
  have hB : zBE (zup (zcpM M zn13 zn1) 0 2 1) zn13 M zn1 := fun o j hs => by
    rw [zup_or (by show ¬ 13 + o = 0; omega)]
    exact zcpM_i hzn13 hzn1 (by decide) hs
  have h25 := hq 25 (by decide) (by omega)
  have hX := h.x
  refine ⟨h.n, zBI_c (zBE_1 (fun q a b => hq q (by omega) (by omega))) h.b, fun _ => zBI_c hB h.b, fun i a b => ?_, zCh_c h25 h.ch, ?_⟩
  · have e : zslo (zup (zcpM M zn13 zn1) 0 2 1) i = zslo M i := by unfold zslo; rw [h25]
    have h27' : 27 ≤ zslo M i := by unfold zslo zring; omega
    rw [h25] at b
    rw [e]
    exact zBI_c (zBE_q (fun q c d => hq q (by omega) (by omega))) (h.r i a b)
  · have h02 : zup (zcpM M zn13 zn1) 0 2 1 0 2 = 1 := zup_i
    have h05 : zup (zcpM M zn13 zn1) 0 2 1 0 5 = M 0 5 := by rw [zup_ne (by decide), zcpM_o (by decide)]
    refine ⟨?_, ?_, ?_, ?_, ?_, ?_, ?_, Or.inr h02, by rw [h05]; exact hX.ea⟩
    · unfold zBu; rw [hq 99 (by decide) (by omega), hq 100 (by decide) (by omega)]; exact hX.bu
    · rw [hq _ (by decide) (by omega)]; exact hX.r7
    · rw [hq _ (by decide) (by omega)]; exact hX.r6
    · rw [hq _ (by decide) (by omega)]; exact hX.w
    · unfold zBr; rw [hq _ (by decide) (by omega)]; exact hX.br
    · rw [hq _ (by decide) (by omega)]; exact hX.er
    · unfold zRs; rw [hq _ (by decide) (by omega)]; exact hX.rs
theorem zput_o {M : zM} {b : Int} {q : Nat} (h1 : q ≠ 99) (h2 : q ≠ 100) : zput M b q = M q := by
  unfold zput
  split
  · rfl
  · rw [zup_or h1, zup_or h2]
theorem zad_o {M : zM} {p : Int} {q : Nat} (h1 : q ≠ 99) (h2 : q ≠ 100) : ∀ n, zadM M p n q = M q
  | 0 => rfl
  | n + 1 => by
    show zput (zadM M p n) (zby p (n : Int)) q = _
    rw [zput_o h1 h2, zad_o h1 h2 n]
theorem zki_append {n : Int} {M : zM} {x : Int} (h : zKI n M) : zKI n (zadM M x 4) := by
  have hq : ∀ q : Nat, q ≠ 99 → q ≠ 100 → zadM M x 4 q = M q := fun q a b => zad_o a b 4
  have hX := h.x
  refine zKI_f h (fun q a b => hq q (by omega) (by omega)) (by rw [hq _ (by decide) (by decide)]) ⟨zBu_ad hX.bu 4, ?_, ?_, ?_, ?_, ?_, ?_, by rw [hq _ (by decide) (by decide)]; exact hX.k, by rw [hq _ (by decide) (by decide)]; exact hX.ea⟩
  · rw [hq _ (by decide) (by decide)]; exact hX.r7
  · rw [hq _ (by decide) (by decide)]; exact hX.r6
  · rw [hq _ (by decide) (by decide)]; exact hX.w
  · unfold zBr; rw [hq _ (by decide) (by decide)]; exact hX.br
  · rw [hq _ (by decide) (by decide)]; exact hX.er
  · unfold zRs; rw [hq _ (by decide) (by decide)]; exact hX.rs
/-! Readings: only rows that hold nothing change. -/
theorem zki_rank {n : Int} {M : zM} (h : zKI n M) : zKI n (zrkM M zn1) := zKI_f h (fun q a b => zrkM_o (by omega) (by omega)) (by rw [zrkM_o (by decide) (by decide)]) (zKX_rk h.b.g h.b.b2.1 h.x)
theorem zki_prom {n : Int} {M : zM} (h : zKI n M) : zKI n (zpr M 4).1 := by
  have ho : ∀ m : Nat, m ≤ 4 → ∀ q : Nat, q ≠ 102 → q ≠ 103 → q ≠ 104 → (zpr M m).1 q = M q := by
    intro m
    induction m with
    | zero => intro _ q _ _ _; rfl
    | succ m ih =>
      intro hm q a b c
      rw [zpr_1, zpo_o a b c, ih (by omega) q a b c]
  exact zki_scr h (fun q _ a b c => ho 4 (by decide) q a b c) (zCI_pr h.ci 4 (by decide)).br
theorem zki_ways {n : Int} {M : zM} {t : Int} (h : zKI n M) : zKI n (zfaM M zn1 t) := by
  have hq : ∀ q : Nat, q ≠ 114 → zfaM M zn1 t q = M q := fun q a => zfaM_o a
  have hX := h.x
  refine zKI_f h (fun q a b => hq q (by omega)) (by rw [hq _ (by decide)]) ⟨?_, ?_, ?_, zfaM_w h.b.g h.b.b1.2.1 h.b.b5 hX.w, ?_, ?_, ?_, by rw [hq _ (by decide)]; exact hX.k, by rw [hq _ (by decide)]; exact hX.ea⟩
  · unfold zBu; rw [hq 99 (by decide), hq 100 (by decide)]; exact hX.bu
  · rw [hq _ (by decide)]; exact hX.r7
  · rw [hq _ (by decide)]; exact hX.r6
  · unfold zBr; rw [hq _ (by decide)]; exact hX.br
  · rw [hq _ (by decide)]; exact hX.er
  · unfold zRs; rw [hq _ (by decide)]; exact hX.rs
theorem zkm8 {n : Int} {M : zM} (h : zKI n M) : ((zmi (ztot M zn1) 8).toNat : Int) = zmi (ztot M zn1) 8 := by
  have := zmi8 h.b.t0
  omega
theorem zki_ends {n : Int} {M : zM} (h : zKI n M) : zKI n (zweM M zn1) := by
  have hq : ∀ q : Nat, q ≠ 109 → q ≠ 110 → zweM M zn1 q = M q := fun q a b => zwe_o a b _
  have hX := h.x
  refine zKI_f h (fun q a b => hq q (by omega) (by omega)) (by rw [hq _ (by decide) (by decide)]) ⟨?_, ?_, ?_, ?_, ?_, zwe_er hzn1 h.b hX.er (by rw [zkm8 h]; exact Int.le_refl _), ?_, by rw [hq _ (by decide) (by decide)]; exact hX.k, by rw [hq _ (by decide) (by decide)]; exact hX.ea⟩
  · unfold zBu; rw [hq 99 (by decide) (by decide), hq 100 (by decide) (by decide)]; exact hX.bu
  · rw [hq _ (by decide) (by decide)]; exact hX.r7
  · rw [hq _ (by decide) (by decide)]; exact hX.r6
  · rw [hq _ (by decide) (by decide)]; exact hX.w
  · unfold zBr; rw [hq _ (by decide) (by decide)]; exact hX.br
  · unfold zRs; rw [hq _ (by decide) (by decide)]; exact hX.rs
theorem zki_path {n : Int} {M : zM} (h : zKI n M) : zKI n (zfbM (zRM M zn1) zn1 (zmi (ztot M zn1) 8)) := by
  have hq : ∀ q : Nat, q ≠ 111 → q ≠ 112 → zfbM (zRM M zn1) zn1 (zmi (ztot M zn1) 8) q = M q := fun q a b => by
    unfold zfbM
    funext j
    rw [ztab_o b]
    unfold zRM
    rw [zwrM_o a]
  have hX := h.x
  refine zKI_f h (fun q a b => hq q (by omega) (by omega)) (by rw [hq _ (by decide) (by decide)]) ⟨?_, ?_, ?_, ?_, ?_, ?_, ?_, by rw [hq _ (by decide) (by decide)]; exact hX.k, by rw [hq _ (by decide) (by decide)]; exact hX.ea⟩
  · unfold zBu; rw [hq 99 (by decide) (by decide), hq 100 (by decide) (by decide)]; exact hX.bu
  · rw [hq _ (by decide) (by decide)]; exact hX.r7
  · rw [hq _ (by decide) (by decide)]; exact hX.r6
  · rw [hq _ (by decide) (by decide)]; exact hX.w
  · unfold zBr; rw [hq _ (by decide) (by decide)]; exact hX.br
  · rw [hq _ (by decide) (by decide)]; exact hX.er
  · have h1 := zwr_b hzn1 h.b hX.rs (zmi (ztot M zn1) 8).toNat (by rw [zkm8 h]; exact Int.le_refl _)
    unfold zRs
    rw [show zfbM (zRM M zn1) zn1 (zmi (ztot M zn1) 8) 111 = zRM M zn1 111 from by unfold zfbM; funext j; exact ztab_o (by decide)]
    exact h1
end
noncomputable section
/-! The reference: its rows against the class's. -/
theorem ztab_or {M : zM} {q n q' : Nat} {F : zF} (h : ¬ q' = q) : ztab M q n F q' = M q' := by
  funext j
  exact ztab_o h
def rA (C M : zM) : Prop := (M 115 6 = C (zn1 + 1) 0 ∧ M 115 7 = C (zn1 + 1) 1) ∧ ∀ j : Nat, (j : Int) < zsz C zn1 → M 116 j = C (zn1 + 2) j
def rC (C M : zM) : Prop := ∀ j : Nat, (j : Int) < zsz C zn1 → M 117 j = C (zn1 + 3) j
def rT (C M : zM) : Prop := (M 115 8 = C (zn1 + 5) 2 ∧ M 115 9 = C (zn1 + 5) 3) ∧ (∀ j : Nat, j < 4 → M 118 j = C (zn1 + 6) j) ∧ (∀ j : Nat, j < 16 → M 119 j = C (zn1 + 7) j)
def rB (C M : zM) : Prop := ∀ j : Nat, (j : Int) < zsz C zn1 → M 120 j = C (zn1 + 11) j
def rS (C M : zM) : Prop := M 115 10 = C zn1 4 ∧ M 115 11 = C zn1 5 ∧ M 115 12 = C zn1 6 ∧ M 115 13 = C zn1 7
def rLi (C : zM) (st sm ss : zF) : Prop := ∀ i : Nat, (i : Int) < zmi (ztot C zn1) 8 → st i = C (zn1 + 9) i ∧ (C (zn1 + 9) i < 10 → ∀ y : Nat, y < 4 → sm (4 * i + y) = C (zn1 + 10) (i * 36 + y)) ∧ (¬ C (zn1 + 9) i < 10 → ∀ c : Nat, (c : Int) < zsz C zn1 → zfreeN C zn1 c → ss (36 * i + c) = C (zn1 + 10) (i * 36 + c))
def rL (C M : zM) : Prop := (M 115 19 = C (zn1 + 8) 1 ∧ M 115 20 = C (zn1 + 8) 2 ∧ M 115 21 = C (zn1 + 8) 0) ∧ rLi C (M 123) (M 124) (M 125)
theorem rA_c {C M M0 : zM} (h6 : M 115 6 = M0 115 6) (h7 : M 115 7 = M0 115 7) (h : M 116 = M0 116) (hA : rA C M0) : rA C M := by
  unfold rA
  rw [h6, h7, h]
  exact hA
theorem rC_c {C M M0 : zM} (h : M 117 = M0 117) (hC : rC C M0) : rC C M := by
  unfold rC
  rw [h]
  exact hC
theorem rT_c {C M M0 : zM} (h8 : M 115 8 = M0 115 8) (h9 : M 115 9 = M0 115 9) (h : M 118 = M0 118) (h' : M 119 = M0 119) (hT : rT C M0) : rT C M := by
  unfold rT
  rw [h8, h9, h, h']
  exact hT
theorem rB_c {C M M0 : zM} (h : M 120 = M0 120) (hL : rB C M0) : rB C M := by
  unfold rB
  rw [h]
  exact hL
theorem rS_c {C M M0 : zM} (h1 : M 115 10 = M0 115 10) (h2 : M 115 11 = M0 115 11) (h3 : M 115 12 = M0 115 12) (h4 : M 115 13 = M0 115 13) (hS : rS C M0) : rS C M := by
  unfold rS
  rw [h1, h2, h3, h4]
  exact hS
theorem rL_c {C M M0 : zM} (h1 : M 115 19 = M0 115 19) (h2 : M 115 20 = M0 115 20) (h3 : M 115 21 = M0 115 21) (h4 : M 123 = M0 123) (h5 : M 124 = M0 124) (h6 : M 125 = M0 125) (hR : rL C M0) : rL C M := by
  unfold rL
  rw [h1, h2, h3, h4, h5, h6]
  exact hR
theorem rA.fr {C M : zM} (hA : rA C M) {c : Int} (hc : 0 ≤ c ∧ c < zsz C zn1) : zfree C zn1 c ↔ ¬ M 116 c.toNat = -1 := by
  rw [hA.2 _ (by omega)]
  unfold zfree
  exact ⟨fun e => e.2.2, fun e => ⟨hc.1, hc.2, e⟩⟩
theorem rA.mk {C M : zM} (hA : rA C M) {c : Int} (hf : zfree C zn1 c) : M 116 c.toNat = zmark C zn1 c := by
  have h := hf.2.1
  have h0 := hf.1
  rw [zmark_t hf, hA.2 _ (by unfold zsz; omega)]
theorem sp_thrownR {xs : List Int32} {d : Nat} {w : Bool} {M : zM}  : xrun2 xs (d + 1) 130 [.ref 115] (w, zheap M) = some (.inl (some (.int (Int32.ofInt (M 115 0)))), (w, zheap M)) := by
  exact zrun_v (N := 2) (by decide) rfl (zz_aload_n (pc := 0) xf_130_0 (zmem 0 rfl) (zz_getI (pc := 1) xf_130_1 zis_115 (by decide +kernel) rfl (zz_ireturn (pc := 4) xf_130_4 rfl (by decide +kernel) (by decide +kernel) (by first | (exfalso; first | omega | contradiction) | (subst_vars; exact ⟨rfl, rfl⟩)))))
theorem sp_failsR {xs : List Int32} {d : Nat} {w : Bool} {M : zM}  {x : Int} : xrun2 xs (d + 1) 131 [.ref 115, .int (Int32.ofInt x)] (w, zheap M) = some (.inl (some (.int (Int32.ofInt (0)))), (w, zheap (zup M 115 0 x))) := by
  exact zrun_v (N := 4) (by decide) rfl (zz_aload_n (pc := 0) xf_131_0 (zmem 0 rfl) (zz_iload_n (pc := 1) xf_131_1 (zmem 1 rfl) (zz_putI (pc := 2) xf_131_2 zis_115 (by decide +kernel) rfl (by decide +kernel) (zm_as (fun zM1 (ezM1 : zM1 = zup M 115 0 x) => zz_iconst (pc := 5) xf_131_5 (zz_ireturn (pc := 6) xf_131_6 rfl (by decide +kernel) (by decide +kernel) (by first | (exfalso; first | omega | contradiction) | (subst_vars; exact ⟨rfl, rfl⟩))))))))
theorem sp_refusesR {xs : List Int32} {d : Nat} {w : Bool} {M : zM}  {x : Int} : xrun2 xs (d + 1) 132 [.ref 115, .int (Int32.ofInt x)] (w, zheap M) = some (.inl (some (.int (Int32.ofInt (0)))), (w, zheap (zup M 115 0 x))) := by
  exact zrun_v (N := 4) (by decide) rfl (zz_aload_n (pc := 0) xf_132_0 (zmem 0 rfl) (zz_iload_n (pc := 1) xf_132_1 (zmem 1 rfl) (zz_putI (pc := 2) xf_132_2 zis_115 (by decide +kernel) rfl (by decide +kernel) (zm_as (fun zM1 (ezM1 : zM1 = zup M 115 0 x) => zz_iconst (pc := 5) xf_132_5 (zz_zreturn (pc := 6) xf_132_6 rfl (by decide +kernel) (by decide +kernel) (by decide) (by first | (exfalso; first | omega | contradiction) | (subst_vars; exact ⟨rfl, rfl⟩))))))))
theorem sp_isBetweenR {xs : List Int32} {d : Nat} {w : Bool} {M : zM}  {x l u : Int} (hx : zr32 x) (hl : zr32 l) (hu : zr32 u) : xrun2 xs (d + 1) 133 [.int (Int32.ofInt x), .int (Int32.ofInt l), .int (Int32.ofInt u)] (w, zheap M) = some (.inl (some (.int (Int32.ofInt (zb (l ≤ x ∧ x ≤ u))))), (w, zheap M)) := by
  exact zrun_v (N := 8) (by decide) rfl (zz_iload_n (pc := 0) xf_133_0 (zmem 0 rfl) (zz_iload_n (pc := 1) xf_133_1 (zmem 1 rfl) (zz_icmp (pc := 2) xf_133_2 hx hl (fun (zc1 : x < l) => zz_iconst (pc := 14) xf_133_14 (zz_zreturn (pc := 15) xf_133_15 rfl (by decide +kernel) (by decide +kernel) (by decide) (by first | exact ⟨zq_i (zb_f (by omega)).symm, rfl⟩ | exact ⟨zq_i (zb_t (by omega)).symm, rfl⟩))) (fun (zc2 : ¬ (x < l)) => zz_iload_n (pc := 5) xf_133_5 (zmem 0 rfl) (zz_iload_n (pc := 6) xf_133_6 (zmem 2 rfl) (zz_icmp (pc := 7) xf_133_7 hx hu (fun (zc3 : u < x) => zz_iconst (pc := 14) xf_133_14 (zz_zreturn (pc := 15) xf_133_15 rfl (by decide +kernel) (by decide +kernel) (by decide) (by first | exact ⟨zq_i (zb_f (by omega)).symm, rfl⟩ | exact ⟨zq_i (zb_t (by omega)).symm, rfl⟩))) (fun (zc4 : ¬ (u < x)) => zz_iconst (pc := 10) xf_133_10 (zz_goto (pc := 11) xf_133_11 (zz_zreturn (pc := 15) xf_133_15 rfl (by decide +kernel) (by decide +kernel) (by decide) (by first | exact ⟨zq_i (zb_f (by omega)).symm, rfl⟩ | exact ⟨zq_i (zb_t (by omega)).symm, rfl⟩))))))))))
theorem sp_isDirectionR {xs : List Int32} {d : Nat} {w : Bool} {M : zM}  {x : Int} (hx : zr32 x) : xrun2 xs (d + 1) 137 [.int (Int32.ofInt x)] (w, zheap M) = some (.inl (some (.int (Int32.ofInt (zb (0 ≤ x ∧ x < 4))))), (w, zheap M)) := by
  exact zrun_v (N := 7) (by decide) rfl (zz_iload_n (pc := 0) xf_137_0 (zmem 0 rfl) (zz_if (pc := 1) xf_137_1 hx (fun (zc1 : x < 0) => zz_iconst (pc := 13) xf_137_13 (zz_zreturn (pc := 14) xf_137_14 rfl (by decide +kernel) (by decide +kernel) (by decide) (by first | exact ⟨zq_i (zb_f (by omega)).symm, rfl⟩ | exact ⟨zq_i (zb_t (by omega)).symm, rfl⟩))) (fun (zc2 : ¬ (x < 0)) => zz_iload_n (pc := 4) xf_137_4 (zmem 0 rfl) (zz_iconst (pc := 5) xf_137_5 (zz_icmp (pc := 6) xf_137_6 hx ⟨by decide, by decide⟩ (fun (zc3 : ¬ (x < (4))) => zz_iconst (pc := 13) xf_137_13 (zz_zreturn (pc := 14) xf_137_14 rfl (by decide +kernel) (by decide +kernel) (by decide) (by first | exact ⟨zq_i (zb_f (by omega)).symm, rfl⟩ | exact ⟨zq_i (zb_t (by omega)).symm, rfl⟩))) (fun zc40 => have zc4 : x < (4) := Classical.not_not.mp zc40; zz_iconst (pc := 9) xf_137_9 (zz_goto (pc := 10) xf_137_10 (zz_zreturn (pc := 14) xf_137_14 rfl (by decide +kernel) (by decide +kernel) (by decide) (by first | exact ⟨zq_i (zb_f (by omega)).symm, rfl⟩ | exact ⟨zq_i (zb_t (by omega)).symm, rfl⟩)))))))))
theorem sp_isMarkR {xs : List Int32} {d : Nat} {w : Bool} {M : zM}  {x : Int} (hx : zr32 x) : xrun2 xs (d + 1) 138 [.int (Int32.ofInt x)] (w, zheap M) = some (.inl (some (.int (Int32.ofInt (zb (0 ≤ x ∧ x < 4))))), (w, zheap M)) := by
  exact zrun_v (N := 7) (by decide) rfl (zz_iload_n (pc := 0) xf_138_0 (zmem 0 rfl) (zz_if (pc := 1) xf_138_1 hx (fun (zc1 : x < 0) => zz_iconst (pc := 13) xf_138_13 (zz_zreturn (pc := 14) xf_138_14 rfl (by decide +kernel) (by decide +kernel) (by decide) (by first | exact ⟨zq_i (zb_f (by omega)).symm, rfl⟩ | exact ⟨zq_i (zb_t (by omega)).symm, rfl⟩))) (fun (zc2 : ¬ (x < 0)) => zz_iload_n (pc := 4) xf_138_4 (zmem 0 rfl) (zz_iconst (pc := 5) xf_138_5 (zz_icmp (pc := 6) xf_138_6 hx ⟨by decide, by decide⟩ (fun (zc3 : ¬ (x < (4))) => zz_iconst (pc := 13) xf_138_13 (zz_zreturn (pc := 14) xf_138_14 rfl (by decide +kernel) (by decide +kernel) (by decide) (by first | exact ⟨zq_i (zb_f (by omega)).symm, rfl⟩ | exact ⟨zq_i (zb_t (by omega)).symm, rfl⟩))) (fun zc40 => have zc4 : x < (4) := Classical.not_not.mp zc40; zz_iconst (pc := 9) xf_138_9 (zz_goto (pc := 10) xf_138_10 (zz_zreturn (pc := 14) xf_138_14 rfl (by decide +kernel) (by decide +kernel) (by decide) (by first | exact ⟨zq_i (zb_f (by omega)).symm, rfl⟩ | exact ⟨zq_i (zb_t (by omega)).symm, rfl⟩)))))))))
theorem sp_cellsR {xs : List Int32} {d : Nat} {w : Bool} {M : zM} {C : zM} {n : Int} (hB : zBI n C zn1) (hA : rA C M) : xrun2 xs (d + 1) 134 [.ref 115] (w, zheap M) = some (.inl (some (.int (Int32.ofInt (zsz C zn1)))), (w, zheap M)) := by
  obtain ⟨⟨a1, a2⟩, a3⟩ := id hA
  obtain ⟨⟨g1, g2⟩, ⟨g3, g4⟩, g5⟩ := id hB.g
  obtain ⟨g6, g7⟩ := hB.g.sz
  have hz : zsz C zn1 = C (zn1 + 1) 0 * C (zn1 + 1) 1 := rfl
  exact zrun_v (N := 5) (by decide) rfl (zz_aload_n (pc := 0) xf_134_0 (zmem 0 rfl) (zz_getI (pc := 1) xf_134_1 zis_115 (by decide +kernel) rfl (zz_aload_n (pc := 4) xf_134_4 (zmem 0 rfl) (zz_getI (pc := 5) xf_134_5 zis_115 (by decide +kernel) rfl (zz_imul (pc := 8) xf_134_8 (zz_ireturn (pc := 9) xf_134_9 rfl (by decide +kernel) (by decide +kernel) (by exact ⟨zq_i (by rw [a1, a2]; rfl), rfl⟩)))))))
theorem sp_isCellR {xs : List Int32} {d : Nat} {w : Bool} {M : zM} {C : zM} {n : Int} (hB : zBI n C zn1) {x : Int} (hx : zr32 x) (hA : rA C M) : xrun2 xs (d + 2) 135 [.ref 115, .int (Int32.ofInt x)] (w, zheap M) = some (.inl (some (.int (Int32.ofInt (zb (0 ≤ x ∧ x < zsz C zn1))))), (w, zheap M)) := by
  obtain ⟨⟨a1, a2⟩, a3⟩ := id hA
  obtain ⟨⟨g1, g2⟩, ⟨g3, g4⟩, g5⟩ := id hB.g
  obtain ⟨g6, g7⟩ := hB.g.sz
  have hz : zsz C zn1 = C (zn1 + 1) 0 * C (zn1 + 1) 1 := rfl
  exact zrun_v (N := 8) (by decide) rfl (zz_iload_n (pc := 0) xf_135_0 (zmem 1 rfl) (zz_if (pc := 1) xf_135_1 hx (fun (zc1 : x < 0) => zz_iconst (pc := 16) xf_135_16 (zz_zreturn (pc := 17) xf_135_17 rfl (by decide +kernel) (by decide +kernel) (by decide) (by first | exact ⟨zq_i (zb_f (by omega)).symm, rfl⟩ | exact ⟨zq_i (zb_t (by omega)).symm, rfl⟩))) (fun (zc2 : ¬ (x < 0)) => zz_iload_n (pc := 4) xf_135_4 (zmem 1 rfl) (zz_aload_n (pc := 5) xf_135_5 (zmem 0 rfl) (zz_call_v (pc := 6) (cu := 0) (su := 0) (fun ls hr => zz_calV xf_135_6 rfl zis_115 ls hr) rfl (sp_cellsR (d := d) hB hA) (zz_icmp (pc := 9) xf_135_9 hx (by unfold zr32; omega) (fun (zc3 : ¬ (x < (zsz C zn1))) => zz_iconst (pc := 16) xf_135_16 (zz_zreturn (pc := 17) xf_135_17 rfl (by decide +kernel) (by decide +kernel) (by decide) (by first | exact ⟨zq_i (zb_f (by omega)).symm, rfl⟩ | exact ⟨zq_i (zb_t (by omega)).symm, rfl⟩))) (fun zc40 => have zc4 : x < (zsz C zn1) := Classical.not_not.mp zc40; zz_iconst (pc := 12) xf_135_12 (zz_goto (pc := 13) xf_135_13 (zz_zreturn (pc := 17) xf_135_17 rfl (by decide +kernel) (by decide +kernel) (by decide) (by first | exact ⟨zq_i (zb_f (by omega)).symm, rfl⟩ | exact ⟨zq_i (zb_t (by omega)).symm, rfl⟩))))))))))
theorem sp_isFreeR {xs : List Int32} {d : Nat} {w : Bool} {M : zM} {C : zM} {n : Int} (hB : zBI n C zn1) {x : Int} (hx : 0 ≤ x ∧ x < zsz C zn1) (hA : rA C M) : xrun2 xs (d + 1) 136 [.ref 115, .int (Int32.ofInt x)] (w, zheap M) = some (.inl (some (.int (Int32.ofInt (zb (zfree C zn1 x))))), (w, zheap M)) := by
  obtain ⟨⟨a1, a2⟩, a3⟩ := id hA
  obtain ⟨⟨g1, g2⟩, ⟨g3, g4⟩, g5⟩ := id hB.g
  obtain ⟨g6, g7⟩ := hB.g.sz
  have hz : zsz C zn1 = C (zn1 + 1) 0 * C (zn1 + 1) 1 := rfl
  have hmx := a3 x.toNat
  have g9 := g5 x.toNat
  exact zrun_v (N := 8) (by decide) rfl (zz_aload_n (pc := 0) xf_136_0 (zmem 0 rfl) (zz_getR (pc := 1) xf_136_1 zis_115 (by decide +kernel) rfl (zz_iload_n (pc := 4) xf_136_4 (zmem 1 rfl) (zz_iald (pc := 5) xf_136_5 zis_116 (by omega) (zz_iconst (pc := 6) xf_136_6 (zz_icmp (pc := 7) xf_136_7 (by unfold zr32; omega) ⟨by decide, by decide⟩ (fun (zc1 : (M 116 x.toNat) = (-1)) => zz_iconst (pc := 14) xf_136_14 (zz_zreturn (pc := 15) xf_136_15 rfl (by decide +kernel) (by decide +kernel) (by decide) (by first | exact ⟨zq_i (zb_f (fun e => absurd ((hA.fr hx).mp e) (by first | assumption | exact not_not_intro (by assumption)))).symm, rfl⟩ | exact ⟨zq_i (zb_t ((hA.fr hx).mpr (by assumption))).symm, rfl⟩))) (fun (zc2 : ¬ ((M 116 x.toNat) = (-1))) => zz_iconst (pc := 10) xf_136_10 (zz_goto (pc := 11) xf_136_11 (zz_zreturn (pc := 15) xf_136_15 rfl (by decide +kernel) (by decide +kernel) (by decide) (by first | exact ⟨zq_i (zb_f (fun e => absurd ((hA.fr hx).mp e) (by first | assumption | exact not_not_intro (by assumption)))).symm, rfl⟩ | exact ⟨zq_i (zb_t ((hA.fr hx).mpr (by assumption))).symm, rfl⟩))))))))))
theorem zl_freeManyR_4 {xs : List Int32} {d : Nat} {w : Bool} {M : zM} {C : zM} {n : Int} (hB : zBI n C zn1) (hA : rA C M)  : ∀ (zn : Nat) (v i : Int), (v = zcount (zfreeN C zn1) i.toNat) → (0 ≤ i ∧ i ≤ zsz C zn1) → zsz C zn1 - i ≤ (zn : Int) → zG (xstep (xrun2 xs (d + 2)) xs 139) 139 (zn * 15 + 15) 4 [(0, .ref 115), (1, .int (Int32.ofInt v)), (2, .int (Int32.ofInt i))] [] 0 0 w M (fun o σ => o = (.inl (some (.int (Int32.ofInt (zmany C zn1)))) : XO) ∧ σ = (w, zheap M)) := by
  intro zn
  induction zn with
  | zero =>
    intro v i hv hi hm
    obtain ⟨⟨a1, a2⟩, a3⟩ := id hA
    obtain ⟨⟨g1, g2⟩, ⟨g3, g4⟩, g5⟩ := id hB.g
    obtain ⟨g6, g7⟩ := hB.g.sz
    have hz : zsz C zn1 = C (zn1 + 1) 0 * C (zn1 + 1) 1 := rfl
    exact zG_mono (N := 0 + 15) (by omega) (zz_iload_n (pc := 4) xf_139_4 (zmem 2 rfl) (zz_aload_n (pc := 5) xf_139_5 (zmem 0 rfl) (zz_call_v (pc := 6) (cu := 0) (su := 0) (fun ls hr => zz_calV xf_139_6 rfl zis_115 ls hr) rfl (sp_cellsR (d := d + 1) hB hA) (zz_icmp (pc := 9) xf_139_9 (by unfold zr32; omega) (by unfold zr32; omega) (fun (zc1 : ¬ (i < (zsz C zn1))) => zz_iload_n (pc := 34) xf_139_34 (zmem 1 rfl) (zz_ireturn (pc := 35) xf_139_35 rfl (by decide +kernel) (by decide +kernel) (by exact ⟨zq_i (by rw [hv, show i = zsz C zn1 by omega]; rfl), rfl⟩))) (fun zc20 => have zc2 : i < (zsz C zn1) := Classical.not_not.mp zc20; zz_iload_n (pc := 12) xf_139_12 (zmem 1 rfl) (zz_aload_n (pc := 13) xf_139_13 (zmem 0 rfl) (zz_iload_n (pc := 14) xf_139_14 (zmem 2 rfl) (zz_call_v (pc := 15) (cu := 0) (su := 0) (fun ls hr => zz_calV xf_139_15 rfl zis_115 ls hr) rfl (sp_isFreeR (d := d + 1) hB (by omega) hA) (zz_ifbeq (pc := 18) xf_139_18 (fun (zc3 : ¬ (zfree C zn1 i)) => zz_iconst (pc := 25) xf_139_25 (zz_iadd (pc := 26) xf_139_26 (zz_istore_n (pc := 27) xf_139_27 (by decide +kernel) (zG_ro (ρ' := [(1, .int (Int32.ofInt (v + (0)))), (0, .ref 115), (2, .int (Int32.ofInt i))]) rfl (zz_iinc (pc := 28) xf_139_28 (zmem 2 rfl) (by decide +kernel) (zG_ro (ρ' := [(2, .int (Int32.ofInt (i + 1))), (1, .int (Int32.ofInt (v + (0)))), (0, .ref 115)]) rfl (zz_goto (pc := 31) xf_139_31 ((by exfalso; omega))))))))) (fun zc40 => have zc4 : zfree C zn1 i := Classical.not_not.mp zc40; zz_iconst (pc := 21) xf_139_21 (zz_goto (pc := 22) xf_139_22 (zz_iadd (pc := 26) xf_139_26 (zz_istore_n (pc := 27) xf_139_27 (by decide +kernel) (zG_ro (ρ' := [(1, .int (Int32.ofInt (v + (1)))), (0, .ref 115), (2, .int (Int32.ofInt i))]) rfl (zz_iinc (pc := 28) xf_139_28 (zmem 2 rfl) (by decide +kernel) (zG_ro (ρ' := [(2, .int (Int32.ofInt (i + 1))), (1, .int (Int32.ofInt (v + (1)))), (0, .ref 115)]) rfl (zz_goto (pc := 31) xf_139_31 ((by exfalso; omega)))))))))))))))))))
  | succ zn ih =>
    intro v i hv hi hm
    obtain ⟨⟨a1, a2⟩, a3⟩ := id hA
    obtain ⟨⟨g1, g2⟩, ⟨g3, g4⟩, g5⟩ := id hB.g
    obtain ⟨g6, g7⟩ := hB.g.sz
    have hz : zsz C zn1 = C (zn1 + 1) 0 * C (zn1 + 1) 1 := rfl
    exact zG_mono (N := zn * 15 + 15 + 0 + 15) (by omega) (zz_iload_n (pc := 4) xf_139_4 (zmem 2 rfl) (zz_aload_n (pc := 5) xf_139_5 (zmem 0 rfl) (zz_call_v (pc := 6) (cu := 0) (su := 0) (fun ls hr => zz_calV xf_139_6 rfl zis_115 ls hr) rfl (sp_cellsR (d := d + 1) hB hA) (zz_icmp (pc := 9) xf_139_9 (by unfold zr32; omega) (by unfold zr32; omega) (fun (zc1 : ¬ (i < (zsz C zn1))) => zz_iload_n (pc := 34) xf_139_34 (zmem 1 rfl) (zz_ireturn (pc := 35) xf_139_35 rfl (by decide +kernel) (by decide +kernel) (by exact ⟨zq_i (by rw [hv, show i = zsz C zn1 by omega]; rfl), rfl⟩))) (fun zc20 => have zc2 : i < (zsz C zn1) := Classical.not_not.mp zc20; zz_iload_n (pc := 12) xf_139_12 (zmem 1 rfl) (zz_aload_n (pc := 13) xf_139_13 (zmem 0 rfl) (zz_iload_n (pc := 14) xf_139_14 (zmem 2 rfl) (zz_call_v (pc := 15) (cu := 0) (su := 0) (fun ls hr => zz_calV xf_139_15 rfl zis_115 ls hr) rfl (sp_isFreeR (d := d + 1) hB (by omega) hA) (zz_ifbeq (pc := 18) xf_139_18 (fun (zc3 : ¬ (zfree C zn1 i)) => zz_iconst (pc := 25) xf_139_25 (zz_iadd (pc := 26) xf_139_26 (zz_istore_n (pc := 27) xf_139_27 (by decide +kernel) (zG_ro (ρ' := [(1, .int (Int32.ofInt (v + (0)))), (0, .ref 115), (2, .int (Int32.ofInt i))]) rfl (zz_iinc (pc := 28) xf_139_28 (zmem 2 rfl) (by decide +kernel) (zG_ro (ρ' := [(2, .int (Int32.ofInt (i + 1))), (1, .int (Int32.ofInt (v + (0)))), (0, .ref 115)]) rfl (zz_goto (pc := 31) xf_139_31 (zG_mono (N := zn * 15 + 15) (by omega) (zG_sub (List.forall_mem_cons.mpr ⟨zmem 2 rfl, (List.forall_mem_cons.mpr ⟨zmem 1 rfl, (List.forall_mem_cons.mpr ⟨zmem 0 rfl, (fun p hp => absurd hp List.not_mem_nil)⟩)⟩)⟩) (ih (v + (0)) (i + 1)  (by rw [hv]; first | exact (zcount_t hi.1 ((zfreeN_i hi.1).mpr (by assumption))).symm | exact (Int.add_zero _).trans (zcount_f hi.1 (fun h => absurd ((zfreeN_i hi.1).mp h) (by assumption))).symm) (by omega) (by omega))))))))))) (fun zc40 => have zc4 : zfree C zn1 i := Classical.not_not.mp zc40; zz_iconst (pc := 21) xf_139_21 (zz_goto (pc := 22) xf_139_22 (zz_iadd (pc := 26) xf_139_26 (zz_istore_n (pc := 27) xf_139_27 (by decide +kernel) (zG_ro (ρ' := [(1, .int (Int32.ofInt (v + (1)))), (0, .ref 115), (2, .int (Int32.ofInt i))]) rfl (zz_iinc (pc := 28) xf_139_28 (zmem 2 rfl) (by decide +kernel) (zG_ro (ρ' := [(2, .int (Int32.ofInt (i + 1))), (1, .int (Int32.ofInt (v + (1)))), (0, .ref 115)]) rfl (zz_goto (pc := 31) xf_139_31 (zG_mono (N := zn * 15 + 15) (by omega) (zG_sub (List.forall_mem_cons.mpr ⟨zmem 2 rfl, (List.forall_mem_cons.mpr ⟨zmem 1 rfl, (List.forall_mem_cons.mpr ⟨zmem 0 rfl, (fun p hp => absurd hp List.not_mem_nil)⟩)⟩)⟩) (ih (v + (1)) (i + 1)  (by rw [hv]; first | exact (zcount_t hi.1 ((zfreeN_i hi.1).mpr (by assumption))).symm | exact (Int.add_zero _).trans (zcount_f hi.1 (fun h => absurd ((zfreeN_i hi.1).mp h) (by assumption))).symm) (by omega) (by omega)))))))))))))))))))))
theorem sp_freeManyR {xs : List Int32} {d : Nat} {w : Bool} {M : zM} {C : zM} {n : Int} (hB : zBI n C zn1) (hA : rA C M) : xrun2 xs (d + 3) 139 [.ref 115] (w, zheap M) = some (.inl (some (.int (Int32.ofInt (zmany C zn1)))), (w, zheap M)) := by
  obtain ⟨⟨a1, a2⟩, a3⟩ := id hA
  obtain ⟨⟨g1, g2⟩, ⟨g3, g4⟩, g5⟩ := id hB.g
  obtain ⟨g6, g7⟩ := hB.g.sz
  have hz : zsz C zn1 = C (zn1 + 1) 0 * C (zn1 + 1) 1 := rfl
  exact zrun_v (N := 559) (by decide) rfl (zz_iconst (pc := 0) xf_139_0 (zz_istore_n (pc := 1) xf_139_1 (by decide +kernel) (zG_ro (ρ' := [(1, .int (Int32.ofInt (0))), (0, .ref 115)]) rfl (zz_iconst (pc := 2) xf_139_2 (zz_istore_n (pc := 3) xf_139_3 (by decide +kernel) (zG_ro (ρ' := [(2, .int (Int32.ofInt (0))), (1, .int (Int32.ofInt (0))), (0, .ref 115)]) rfl (zG_mono (N := 555) (by omega) (zG_sub (List.forall_mem_cons.mpr ⟨zmem 2 rfl, (List.forall_mem_cons.mpr ⟨zmem 1 rfl, (List.forall_mem_cons.mpr ⟨zmem 0 rfl, (fun p hp => absurd hp List.not_mem_nil)⟩)⟩)⟩) (zl_freeManyR_4 hB hA 36 _ _ rfl (by omega) (by omega))))))))))
theorem zl_firstFreeR_2 {xs : List Int32} {d : Nat} {w : Bool} {M : zM} {C : zM} {n : Int} (hB : zBI n C zn1) (hA : rA C M)  : ∀ (zn : Nat) (c : Int), (0 ≤ c ∧ c ≤ zlow C zn1) → zlow C zn1 - c + 1 ≤ (zn : Int) → zG (xstep (xrun2 xs (d + 1)) xs 140) 140 (zn * 6 + 6) 2 [(0, .ref 115), (1, .int (Int32.ofInt c))] [] 0 0 w M (fun o σ => o = (.inl (some (.int (Int32.ofInt (zlow C zn1)))) : XO) ∧ σ = (w, zheap M)) := by
  intro zn
  induction zn with
  | zero =>
    intro c hc hm
    obtain ⟨⟨a1, a2⟩, a3⟩ := id hA
    obtain ⟨⟨g1, g2⟩, ⟨g3, g4⟩, g5⟩ := id hB.g
    obtain ⟨g6, g7⟩ := hB.g.sz
    have hz : zsz C zn1 = C (zn1 + 1) 0 * C (zn1 + 1) 1 := rfl
    obtain ⟨f1, f2⟩ := zlow_f hB.b1.2.2.2
    have f3 := f1.2.1
    exact zG_mono (N := 0 + 6) (by omega) (zz_aload_n (pc := 2) xf_140_2 (zmem 0 rfl) (zz_iload_n (pc := 3) xf_140_3 (zmem 1 rfl) (zz_call_v (pc := 4) (cu := 0) (su := 0) (fun ls hr => zz_calV xf_140_4 rfl zis_115 ls hr) rfl (sp_isFreeR (d := d) hB (by omega) hA) (zz_ifbne (pc := 7) xf_140_7 (fun (zc1 : zfree C zn1 c) => zz_iload_n (pc := 16) xf_140_16 (zmem 1 rfl) (zz_ireturn (pc := 17) xf_140_17 rfl (by decide +kernel) (by decide +kernel) (by exact ⟨zq_i (by have h := f2 c hc.1; first | (by_cases h9 : c < zlow C zn1; exact absurd (by assumption) (h h9); omega)), rfl⟩))) (fun (zc2 : ¬ (zfree C zn1 c)) => zz_iinc (pc := 10) xf_140_10 (zmem 1 rfl) (by decide +kernel) (zG_ro (ρ' := [(1, .int (Int32.ofInt (c + 1))), (0, .ref 115)]) rfl (zz_goto (pc := 13) xf_140_13 ((by exfalso; omega)))))))))
  | succ zn ih =>
    intro c hc hm
    obtain ⟨⟨a1, a2⟩, a3⟩ := id hA
    obtain ⟨⟨g1, g2⟩, ⟨g3, g4⟩, g5⟩ := id hB.g
    obtain ⟨g6, g7⟩ := hB.g.sz
    have hz : zsz C zn1 = C (zn1 + 1) 0 * C (zn1 + 1) 1 := rfl
    obtain ⟨f1, f2⟩ := zlow_f hB.b1.2.2.2
    have f3 := f1.2.1
    exact zG_mono (N := zn * 6 + 6 + 0 + 6) (by omega) (zz_aload_n (pc := 2) xf_140_2 (zmem 0 rfl) (zz_iload_n (pc := 3) xf_140_3 (zmem 1 rfl) (zz_call_v (pc := 4) (cu := 0) (su := 0) (fun ls hr => zz_calV xf_140_4 rfl zis_115 ls hr) rfl (sp_isFreeR (d := d) hB (by omega) hA) (zz_ifbne (pc := 7) xf_140_7 (fun (zc1 : zfree C zn1 c) => zz_iload_n (pc := 16) xf_140_16 (zmem 1 rfl) (zz_ireturn (pc := 17) xf_140_17 rfl (by decide +kernel) (by decide +kernel) (by exact ⟨zq_i (by have h := f2 c hc.1; first | (by_cases h9 : c < zlow C zn1; exact absurd (by assumption) (h h9); omega)), rfl⟩))) (fun (zc2 : ¬ (zfree C zn1 c)) => zz_iinc (pc := 10) xf_140_10 (zmem 1 rfl) (by decide +kernel) (zG_ro (ρ' := [(1, .int (Int32.ofInt (c + 1))), (0, .ref 115)]) rfl (zz_goto (pc := 13) xf_140_13 (zG_mono (N := zn * 6 + 6) (by omega) (zG_sub (List.forall_mem_cons.mpr ⟨zmem 1 rfl, (List.forall_mem_cons.mpr ⟨zmem 0 rfl, (fun p hp => absurd hp List.not_mem_nil)⟩)⟩) (ih (c + 1)  (by have h9 : ¬ c = zlow C zn1 := (fun e => absurd (e ▸ f1 : zfree C zn1 c) (by assumption)); omega) (by omega)))))))))))
theorem sp_firstFreeR {xs : List Int32} {d : Nat} {w : Bool} {M : zM} {C : zM} {n : Int} (hB : zBI n C zn1) (hA : rA C M) : xrun2 xs (d + 2) 140 [.ref 115] (w, zheap M) = some (.inl (some (.int (Int32.ofInt (zlow C zn1)))), (w, zheap M)) := by
  obtain ⟨⟨a1, a2⟩, a3⟩ := id hA
  obtain ⟨⟨g1, g2⟩, ⟨g3, g4⟩, g5⟩ := id hB.g
  obtain ⟨g6, g7⟩ := hB.g.sz
  have hz : zsz C zn1 = C (zn1 + 1) 0 * C (zn1 + 1) 1 := rfl
  obtain ⟨f1, f2⟩ := zlow_f hB.b1.2.2.2
  have f3 := f1.2.1
  exact zrun_v (N := 236) (by decide) rfl (zz_iconst (pc := 0) xf_140_0 (zz_istore_n (pc := 1) xf_140_1 (by decide +kernel) (zG_ro (ρ' := [(1, .int (Int32.ofInt (0))), (0, .ref 115)]) rfl (zG_mono (N := 234) (by omega) (zG_sub (List.forall_mem_cons.mpr ⟨zmem 1 rfl, (List.forall_mem_cons.mpr ⟨zmem 0 rfl, (fun p hp => absurd hp List.not_mem_nil)⟩)⟩) (zl_firstFreeR_2 hB hA 38 _ (by have := f1.1; omega) (by omega)))))))
end
