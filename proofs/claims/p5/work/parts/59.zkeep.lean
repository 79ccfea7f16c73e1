/-! What the class keeps: moves, sights, grids. -/
theorem zB4_clr {n : Int} {M : zM} {a : Nat} {c : Int} (hn : 0 ≤ n) (h : zTr M a) (hg : zGr M a) (hc : c = -1 ∨ zfree M a c) : zB4 n (zclM M a c) a := by
  obtain ⟨e0, e1, e2⟩ := zclM_8 (M := M) (a := a) (c := c)
  have hc2 : -1 ≤ c ∧ c ≤ 35 := by
    rcases hc with rfl | hc
    · decide
    · have := zfree_b hg hc
      omega
  have hE : zE2 (zclM M a c) M a := ⟨zclM_o (by omega), zclM_o (by omega)⟩
  refine ⟨zTr_cl h hc2, by rw [e1, e2]; exact ⟨hn, hn⟩, fun i hi => ?_, ?_⟩
  · exfalso
    have e : ztot (zclM M a c) a = 0 := by unfold ztot; rw [e1, e2]; rfl
    rw [e] at hi
    unfold zmi at hi
    rw [if_pos (by decide)] at hi
    omega
  · rw [e0]
    exact hc.imp id (fun e => (hE.ef.2 _).mpr e)
theorem zev_12 {K : zM} {j : Nat} : zevM K zn1 12 j = zscM (ztab K 102 (zsz K zn1).toNat (zevW K zn1)) 12 (zsz K zn1).toNat j := rfl
/-- forgetting makes the beliefs even and the trail empty -/
theorem zBI_fg {n : Int} {K : zM} (hn : 0 ≤ n) (h1 : zB1 K zn1) (hbl : zBl K zn1) (h3 : zB3 K zn1) (h4 : zTr K zn1) (h5 : zCo K zn1) (h6 : zB6 K zn1) : zBI n (zfgM K) zn1 := by
  have hq : ∀ q : Nat, q ≠ 9 → q ≠ 12 → q ≠ 102 → q ≠ 103 → zfgM K q = K q := fun q a b c d => zfg_o b c d a
  have hE : zE2 (zfgM K) K zn1 := ⟨hq _ (by decide) (by decide) (by decide) (by decide), hq _ (by decide) (by decide) (by decide) (by decide)⟩
  have hp := zev_pos h1.2.2.2
  have hY : zE2 (zevM K zn1 (zn1 + 11)) K zn1 := ⟨zev_o (by decide) (by decide) (by decide), zev_o (by decide) (by decide) (by decide)⟩
  refine ⟨zB1_c hE.ef (zGr_c hE h1.1) (fun j _ => by rw [hq _ (by decide) (by decide) (by decide) (by decide)]) h1, ?_, zB3_c ⟨by rw [hq _ (by decide) (by decide) (by decide) (by decide)], by rw [hq _ (by decide) (by decide) (by decide) (by decide)]⟩ (fun j _ => by rw [hq _ (by decide) (by decide) (by decide) (by decide)]) (fun j _ => by rw [hq _ (by decide) (by decide) (by decide) (by decide)]) h3, ?_, zCo_cc (fun j _ => by rw [hq _ (by decide) (by decide) (by decide) (by decide)]) h5, zB6_c hE.ef (by rw [hq _ (by decide) (by decide) (by decide) (by decide)]) h6⟩
  · refine zB2_sc hE.ef h1.1 hbl (W := ztab K 102 (zsz K zn1).toNat (zevW K zn1) 102) hp.1 hp.2 (fun j hj hf => ?_) (fun j => ?_)
    · rw [ztab_i (by omega)]
      exact zb_f hf
    · unfold zfgM
      rw [zclM_o (by decide)]
      unfold zevM
      rw [zscM_v (by decide), ztab_o (show ¬ zn1 + 11 = 102 by decide)]
  · exact zB4_clr hn (zTr_c (zev_o (by decide) (by decide) (by decide)) (zev_o (by decide) (by decide) (by decide)) (zev_o (by decide) (by decide) (by decide)) h4) (zGr_c hY h1.1) (Or.inl rfl)
/-- a move -/
theorem zBI_go {n : Int} {M : zM} {e : Int} (hn : n + 1 ≤ 1000000) (he : 0 ≤ e ∧ e < 4) (h : zBI n M zn1) : zBI (n + 1) (zgoM M e) zn1 := by
  have hq : ∀ q : Nat, q ≠ 9 → q ≠ 10 → q ≠ 11 → q ≠ 12 → q ≠ 102 → q ≠ 103 → zgoM M e q = M q := fun q a b c d e f => zgo_o a b c d e f
  have hE : zE2 (zgoM M e) M zn1 := ⟨hq _ (by decide) (by decide) (by decide) (by decide) (by decide) (by decide), hq _ (by decide) (by decide) (by decide) (by decide) (by decide) (by decide)⟩
  have hY : ∀ q : Nat, q ≠ 12 → q ≠ 102 → q ≠ 103 → zmvM M zn1 e (zn1 + 11) q = M q := fun q a b c => zmvM_o a b c
  have hYE : zE2 (zmvM M zn1 e (zn1 + 11)) M zn1 := ⟨hY _ (by decide) (by decide) (by decide), hY _ (by decide) (by decide) (by decide)⟩
  have h3 : zB3 (zmvM M zn1 e (zn1 + 11)) zn1 := zB3_c ⟨by rw [hY _ (by decide) (by decide) (by decide)], by rw [hY _ (by decide) (by decide) (by decide)]⟩ (fun j _ => by rw [hY _ (by decide) (by decide) (by decide)]) (fun j _ => by rw [hY _ (by decide) (by decide) (by decide)]) h.b3
  have h4 : zB4 n (zmvM M zn1 e (zn1 + 11)) zn1 := zB4_c hYE.ef (fun j _ => by rw [hY _ (by decide) (by decide) (by decide)]) (fun j _ => by rw [hY _ (by decide) (by decide) (by decide)]) (fun j _ => by rw [hY _ (by decide) (by decide) (by decide)]) h.b4
  refine ⟨zB1_c hE.ef (zGr_c hE h.g) (fun j _ => by rw [hq _ (by decide) (by decide) (by decide) (by decide) (by decide) (by decide)]) h.b1, ?_, zB3_c ⟨by rw [hq _ (by decide) (by decide) (by decide) (by decide) (by decide) (by decide)], by rw [hq _ (by decide) (by decide) (by decide) (by decide) (by decide) (by decide)]⟩ (fun j _ => by rw [hq _ (by decide) (by decide) (by decide) (by decide) (by decide) (by decide)]) (fun j _ => by rw [hq _ (by decide) (by decide) (by decide) (by decide) (by decide) (by decide)]) h.b3, zB4_am hn he h3 h4, zCo_cc (fun j _ => by rw [hq _ (by decide) (by decide) (by decide) (by decide) (by decide) (by decide)]) h.b5, zB6_c hE.ef (by rw [hq _ (by decide) (by decide) (by decide) (by decide) (by decide) (by decide)]) h.b6⟩
  refine zB2_sc hE.ef h.g h.b2.1 (W := zmw M zn1 e) (fun j hj => (zmw_b hzn1 h.g h.b2.1 h.b3.1 hj).1) (zmw_pos hzn1 h.b1 h.b2 h.b3 he) (fun j hj hf => zmw_wall hzn1 h.b1 h.b2 he hj hf) (fun j => ?_)
  unfold zgoM
  rw [zamM_o (by decide) (by decide) (by decide)]
  unfold zmvM
  rw [zscM_v (by decide), zmwM_w]
  unfold zmwM
  rw [zrow_o (by decide)]
/-- a sight that is taken -/
theorem zBI_ts {n : Int} {K : zM} {k o : Int} (hn : n + 1 ≤ 1000000) (hn0 : 0 ≤ n) (hk : 0 ≤ k ∧ k < 4) (hW : ∀ j, j < (zsz K zn1).toNat → 0 ≤ K 102 j) (hS : 0 < zsum (K 102) (zsz K zn1).toNat) (hw : ∀ j : Nat, (j : Int) < zsz K zn1 → ¬ zfreeN K zn1 j → K 102 j = 0) (h : zBI n K zn1) : zBI (n + 1) (ztsM K k o) zn1 := by
  have hq : ∀ q : Nat, q ≠ 1 → q ≠ 9 → q ≠ 10 → q ≠ 11 → q ≠ 12 → q ≠ 103 → ztsM K k o q = K q := fun q a b c d e f => zts_o a b c d e f
  have hE : zE2 (ztsM K k o) K zn1 := ⟨hq _ (by decide) (by decide) (by decide) (by decide) (by decide) (by decide), hq _ (by decide) (by decide) (by decide) (by decide) (by decide) (by decide)⟩
  have h1 : ∀ q : Nat, q ≠ 12 → q ≠ 103 → zts1 K q = K q := fun q a b => zscM_o a b
  have h1E : zE2 (zts1 K) K zn1 := ⟨h1 _ (by decide) (by decide), h1 _ (by decide) (by decide)⟩
  have h2 : ∀ q : Nat, q ≠ 1 → q ≠ 9 → q ≠ 12 → q ≠ 103 → zts2 (zts1 K) q = K q := fun q a b c d => by
    unfold zts2
    rw [zclM_o b, zup_or a, h1 q c d]
  have h2E : zE2 (zts2 (zts1 K)) K zn1 := ⟨h2 _ (by decide) (by decide) (by decide) (by decide), h2 _ (by decide) (by decide) (by decide) (by decide)⟩
  have b4 : zB4 (n + 1) (ztsM K k o) zn1 := by
    unfold ztsM
    split
    · refine zB4_as hn hk (zGr_c h2E h.g) (zB3_c ⟨by rw [h2 _ (by decide) (by decide) (by decide) (by decide)], by rw [h2 _ (by decide) (by decide) (by decide) (by decide)]⟩ (fun j _ => by rw [h2 _ (by decide) (by decide) (by decide) (by decide)]) (fun j _ => by rw [h2 _ (by decide) (by decide) (by decide) (by decide)]) h.b3) ?_
      unfold zts2
      have hu : zE2 (zup (zts1 K) zn1 6 (zts1 K zn1 6 + 1)) K zn1 := ⟨by rw [zup_or (by decide)]; exact h1 _ (by decide) (by decide), by rw [zup_or (by decide)]; exact h1 _ (by decide) (by decide)⟩
      exact zB4_clr hn0 (zTr_c (by rw [zup_or (by decide)]; exact h1 _ (by decide) (by decide)) (by rw [zup_or (by decide)]; exact h1 _ (by decide) (by decide)) (by rw [zup_or (by decide)]; exact h1 _ (by decide) (by decide)) h.b4.1) (zGr_c hu h.g) (Or.inl rfl)
    · exact zB4_as hn hk (zGr_c h1E h.g) (zB3_c ⟨by rw [h1 _ (by decide) (by decide)], by rw [h1 _ (by decide) (by decide)]⟩ (fun j _ => by rw [h1 _ (by decide) (by decide)]) (fun j _ => by rw [h1 _ (by decide) (by decide)]) h.b3) (zB4_c h1E.ef (fun j _ => by rw [h1 _ (by decide) (by decide)]) (fun j _ => by rw [h1 _ (by decide) (by decide)]) (fun j _ => by rw [h1 _ (by decide) (by decide)]) h.b4)
  have h12 : ∀ X : zM, zasM X zn1 k 12 = X 12 := fun X => zasM_o (by decide) (by decide) (by decide)
  refine ⟨zB1_c hE.ef (zGr_c hE h.g) (fun j _ => by rw [hq _ (by decide) (by decide) (by decide) (by decide) (by decide) (by decide)]) h.b1, ?_, zB3_c ⟨by rw [hq _ (by decide) (by decide) (by decide) (by decide) (by decide) (by decide)], by rw [hq _ (by decide) (by decide) (by decide) (by decide) (by decide) (by decide)]⟩ (fun j _ => by rw [hq _ (by decide) (by decide) (by decide) (by decide) (by decide) (by decide)]) (fun j _ => by rw [hq _ (by decide) (by decide) (by decide) (by decide) (by decide) (by decide)]) h.b3, b4, zCo_cc (fun j _ => by rw [hq _ (by decide) (by decide) (by decide) (by decide) (by decide) (by decide)]) h.b5, zB6_c hE.ef zts_4 h.b6⟩
  refine zB2_sc hE.ef h.g h.b2.1 (W := K 102) hW hS hw (fun j => ?_)
  have e : ztsM K k o (zn1 + 11) j = zts1 K (zn1 + 11) j := by
    unfold ztsM
    split
    · rw [show zasM (zts2 (zts1 K)) zn1 k (zn1 + 11) = zts2 (zts1 K) (zn1 + 11) from h12 _]
      unfold zts2
      rw [zclM_o (by decide), zup_or (by decide)]
    · rw [show zasM (zts1 K) zn1 k (zn1 + 11) = zts1 K (zn1 + 11) from h12 _]
  rw [e]
  unfold zts1
  exact zscM_v (by decide)
/-- a field of the now; a hit -/
theorem zBI_up {n : Int} {M : zM} {j : Nat} {x : Int} (hj : j = 4 → zfree M zn1 x) (h : zBI n M zn1) : zBI n (zup M zn1 j x) zn1 := by
  have hq : ∀ q : Nat, q ≠ 1 → zup M zn1 j x q = M q := fun q a => zup_or a
  have hE : zE2 (zup M zn1 j x) M zn1 := ⟨hq _ (by decide), hq _ (by decide)⟩
  refine ⟨zB1_c hE.ef (zGr_c hE h.g) (fun j _ => by rw [hq _ (by decide)]) h.b1, zB2_c hE.ef h.g (fun j _ => by rw [hq _ (by decide)]) h.b2, zB3_c ⟨by rw [hq _ (by decide)], by rw [hq _ (by decide)]⟩ (fun j _ => by rw [hq _ (by decide)]) (fun j _ => by rw [hq _ (by decide)]) h.b3, zB4_c hE.ef (fun j _ => by rw [hq _ (by decide)]) (fun j _ => by rw [hq _ (by decide)]) (fun j _ => by rw [hq _ (by decide)]) h.b4, zCo_cc (fun j _ => by rw [hq _ (by decide)]) h.b5, ?_⟩
  unfold zB6
  rw [zup_at]
  split
  · next e => exact (hE.ef.2 x).mpr (hj e.symm)
  · exact (hE.ef.2 _).mpr h.b6
theorem zch_o {M : zM} {q : Nat} (h1 : q ≠ 1) (h2 : q ≠ 106) (h3 : q ≠ 107) : zchM M q = M q := by
  unfold zchM
  split
  · rw [zup_or h1, zrkM_o h2 h3]
  · exact zrkM_o h2 h3
theorem zBI_ch {n : Int} {M : zM} (h : zBI n M zn1) : zBI n (zchM M) zn1 := by
  have h1 : zBI n (zrkM M zn1) zn1 := zBI_c (zBE_1 (fun q a b => zrkM_o (by omega) (by omega))) h
  unfold zchM
  split
  · exact zBI_up (fun e => absurd e (by decide)) h1
  · exact h1
theorem zKX_ch {M : zM} (hg : zGr M zn1) (hbl : zBl M zn1) (h : zKX M) : zKX (zchM M) := by
  obtain ⟨g6, g7⟩ := hg.sz
  have hz : zsz M zn1 = M (zn1 + 1) 0 * M (zn1 + 1) 1 := rfl
  have hF : ∀ j : Nat, j < 36 → zr32 (M (zn1 + 11) j) := fun j hj => by have := hbl j hj; unfold zr32; omega
  have e7 : zchM M 107 = (zrk (M (zn1 + 11)) (zsz M zn1).toNat (M 107, M 106)).1 := by
    unfold zchM
    split
    · rw [zup_or (by decide)]; exact zrw_7
    · exact zrw_7
  have e6 : zchM M 106 = (zrk (M (zn1 + 11)) (zsz M zn1).toNat (M 107, M 106)).2 := by
    unfold zchM
    split
    · rw [zup_or (by decide)]; exact zrw_6
    · exact zrw_6
  have hq : ∀ q : Nat, q ≠ 1 → q ≠ 106 → q ≠ 107 → zchM M q = M q := fun q a b c => zch_o a b c
  obtain ⟨a1, a2, a3, a4, a5, a6, a7, a8, a9⟩ := h
  refine ⟨?_, ?_, ?_, ?_, ?_, ?_, ?_, by rw [hq _ (by decide) (by decide) (by decide)]; exact a8, by rw [hq _ (by decide) (by decide) (by decide)]; exact a9⟩
  · unfold zBu; rw [hq 99 (by decide) (by decide) (by decide), hq 100 (by decide) (by decide) (by decide)]; exact a1
  · rw [e7]; exact zrk_r hF a2 _ (by omega)
  · rw [e6]; exact zrk_o a3 _ (by omega)
  · rw [hq _ (by decide) (by decide) (by decide)]; exact a4
  · unfold zBr; rw [hq _ (by decide) (by decide) (by decide)]; exact a5
  · rw [hq _ (by decide) (by decide) (by decide)]; exact a6
  · unfold zRs; rw [hq _ (by decide) (by decide) (by decide)]; exact a7
theorem zKX_rk {M : zM} (hg : zGr M zn1) (hbl : zBl M zn1) (h : zKX M) : zKX (zrkM M zn1) := by
  obtain ⟨g6, g7⟩ := hg.sz
  have hz : zsz M zn1 = M (zn1 + 1) 0 * M (zn1 + 1) 1 := rfl
  have hF : ∀ j : Nat, j < 36 → zr32 (M (zn1 + 11) j) := fun j hj => by have := hbl j hj; unfold zr32; omega
  have e7 : zrkM M zn1 107 = (zrk (M (zn1 + 11)) (zsz M zn1).toNat (M 107, M 106)).1 := zrw_7
  have e6 : zrkM M zn1 106 = (zrk (M (zn1 + 11)) (zsz M zn1).toNat (M 107, M 106)).2 := zrw_6
  have hq : ∀ q : Nat, q ≠ 106 → q ≠ 107 → zrkM M zn1 q = M q := fun q b c => zrkM_o b c
  obtain ⟨a1, a2, a3, a4, a5, a6, a7, a8, a9⟩ := h
  refine ⟨?_, ?_, ?_, ?_, ?_, ?_, ?_, by rw [hq _ (by decide) (by decide)]; exact a8, by rw [hq _ (by decide) (by decide)]; exact a9⟩
  · unfold zBu; rw [hq 99 (by decide) (by decide), hq 100 (by decide) (by decide)]; exact a1
  · rw [e7]; exact zrk_r hF a2 _ (by omega)
  · rw [e6]; exact zrk_o a3 _ (by omega)
  · rw [hq _ (by decide) (by decide)]; exact a4
  · unfold zBr; rw [hq _ (by decide) (by decide)]; exact a5
  · rw [hq _ (by decide) (by decide)]; exact a6
  · unfold zRs; rw [hq _ (by decide) (by decide)]; exact a7
theorem zKX_4 {M M0 : zM} (h : zKX M0) (hq : ∀ q : Nat, 99 ≤ q → q < 115 → q ≠ 102 → q ≠ 103 → q ≠ 104 → M q = M0 q) (hb : zBr M 104) (h2 : M 0 2 = M0 0 2) (h5 : M 0 5 = M0 0 5) : zKX M := by
  refine ⟨?_, ?_, ?_, ?_, hb, ?_, ?_, by rw [h2]; exact h.k, by rw [h5]; exact h.ea⟩
  · unfold zBu; rw [hq 99 (by decide) (by decide) (by decide) (by decide) (by decide), hq 100 (by decide) (by decide) (by decide) (by decide) (by decide)]; exact h.bu
  · rw [hq 107 (by decide) (by decide) (by decide) (by decide) (by decide)]; exact h.r7
  · rw [hq 106 (by decide) (by decide) (by decide) (by decide) (by decide)]; exact h.r6
  · rw [hq 114 (by decide) (by decide) (by decide) (by decide) (by decide)]; exact h.w
  · rw [hq 109 (by decide) (by decide) (by decide) (by decide) (by decide)]; exact h.er
  · unfold zRs; rw [hq 111 (by decide) (by decide) (by decide) (by decide) (by decide)]; exact h.rs
