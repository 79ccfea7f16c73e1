noncomputable section
/-! Both: beliefs made even, places, moves, drives. -/
theorem rfo_o {M : zM} {x : Int} {q : Nat} (h : ¬ q = 115) : rfoM M x q = M q := by
  unfold rfoM
  rw [zup_or h, zup_or h, zup_or h]
theorem rfo_5 {M : zM} {x : Int} {j : Nat} (h1 : ¬ j = 19) (h2 : ¬ j = 20) (h3 : ¬ j = 21) : rfoM M x 115 j = M 115 j := by
  unfold rfoM
  rw [zup_ne h3, zup_ne h2, zup_ne h1]
theorem rfo_i {M : zM} {x : Int} : rfoM M x 115 19 = 0 ∧ rfoM M x 115 20 = 0 ∧ rfoM M x 115 21 = x := by
  unfold rfoM
  refine ⟨?_, ?_, zup_i⟩
  · rw [zup_ne (by decide), zup_ne (by decide), zup_i]
  · rw [zup_ne (by decide), zup_i]
theorem zev_rev {X C K : zM} (h : zEf X zn1 C zn1) {j : Nat} (hj : (j : Int) < zsz C zn1) : revM K C 120 120 j = zevM X zn1 12 12 j := by
  unfold revM zevM
  rw [h.sz, rsc_q (by decide) (by omega), zscM_q (by decide) (by omega)]
  refine zsc_c (fun i hi => ?_) j (by omega)
  rw [ztab_i hi, ztab_i hi]
  unfold zevW
  rw [show zfreeN C zn1 i = zfreeN X zn1 i from propext (h.fr i).symm]
theorem rL_0 {C' M' : zM} {c : Int} (h8 : C' (zn1 + 8) 0 = c ∧ C' (zn1 + 8) 1 = 0 ∧ C' (zn1 + 8) 2 = 0) (m : M' 115 19 = 0 ∧ M' 115 20 = 0 ∧ M' 115 21 = c) : rL C' M' := by
  have ht : ztot C' zn1 = 0 := by unfold ztot; rw [h8.2.1, h8.2.2]; rfl
  refine ⟨⟨m.1.trans h8.2.1.symm, m.2.1.trans h8.2.2.symm, m.2.2.trans h8.1.symm⟩, fun i hi => ?_⟩
  rw [ht] at hi
  unfold zmi at hi
  split at hi <;> omega
/-- a move is put to the steps of both -/
theorem rL_mv {C C' M M' : zM} {x : Int} (h : rL C M) (ht : 0 ≤ ztot C zn1) (hx : x < 10) (h1 : C' (zn1 + 1) = C (zn1 + 1)) (hf : ∀ c : Nat, zfreeN C' zn1 c → zfreeN C zn1 c) (hz : zsz C zn1 ≤ 36)
    (h8 : ∀ j, C' (zn1 + 8) j = if j = 1 then C (zn1 + 8) 1 + 1 else C (zn1 + 8) j) (h9 : ∀ j, C' (zn1 + 9) j = if ztot C zn1 < 8 ∧ j = (ztot C zn1).toNat then x else C (zn1 + 9) j) (h10 : ∀ j, C' (zn1 + 10) j = if ztot C zn1 < 8 ∧ (ztot C zn1 * 36).toNat ≤ j ∧ j < (ztot C zn1 * 36).toNat + 4 then C (zn1 + 6) (j - (ztot C zn1 * 36).toNat) else C (zn1 + 10) j)
    (m19 : M' 115 19 = M 115 19 + 1) (m20 : M' 115 20 = M 115 20) (m21 : M' 115 21 = M 115 21) (m3 : ∀ j, M' 123 j = if ztot C zn1 < 8 ∧ j = (ztot C zn1).toNat then x else M 123 j) (m4 : ∀ j, M' 124 j = if ztot C zn1 < 8 ∧ (4 * ztot C zn1).toNat ≤ j ∧ j < (4 * ztot C zn1).toNat + 4 then M 118 (j - (4 * ztot C zn1).toNat) else M 124 j) (m5 : M' 125 = M 125) (hm : ∀ y : Nat, y < 4 → M 118 y = C (zn1 + 6) y) : rL C' M' := by
  obtain ⟨⟨r1, r2, r3⟩, r4⟩ := h
  have e0 : C' (zn1 + 8) 0 = C (zn1 + 8) 0 := by rw [h8]; rfl
  have e1 : C' (zn1 + 8) 1 = C (zn1 + 8) 1 + 1 := by rw [h8]; rfl
  have e2 : C' (zn1 + 8) 2 = C (zn1 + 8) 2 := by rw [h8]; rfl
  have htt : ztot C' zn1 = ztot C zn1 + 1 := by unfold ztot; rw [e1, e2]; omega
  have hs : zsz C' zn1 = zsz C zn1 := by unfold zsz; rw [h1]
  refine ⟨⟨by rw [m19, r1, e1], by rw [m20, r2, e2], by rw [m21, r3, e0]⟩, fun i hi => ?_⟩
  rw [htt] at hi
  have hi2 : (i : Int) < ztot C zn1 + 1 ∧ (i : Int) < 8 := by unfold zmi at hi; split at hi <;> omega
  rw [h9, m3, hs]
  by_cases hc : ztot C zn1 < 8 ∧ i = (ztot C zn1).toNat
  · rw [if_pos hc, if_pos hc]
    refine ⟨rfl, fun _ y hy => ?_, fun e => absurd hx e⟩
    rw [h10, m4, if_pos ⟨hc.1, by omega, by omega⟩, if_pos ⟨hc.1, by omega, by omega⟩, show 4 * i + y - (4 * ztot C zn1).toNat = y by omega, show i * 36 + y - (ztot C zn1 * 36).toNat = y by omega]
    exact hm y hy
  · rw [if_neg hc, if_neg hc]
    have hil : (i : Int) < zmi (ztot C zn1) 8 := by unfold zmi; split <;> omega
    obtain ⟨s1, s2, s3⟩ := r4 i hil
    refine ⟨s1, fun e y hy => ?_, fun e c hcs hcf => ?_⟩
    · rw [h10, m4, if_neg (fun e => by omega), if_neg (fun e => by omega)]
      exact s2 e y hy
    · rw [h10, m5, if_neg (fun e => by omega)]
      exact s3 e c hcs (hf c hcf)
/-- a sight is put to the steps of both -/
theorem rL_sg {C C' M M' : zM} {k : Int} {F G : zF} (h : rL C M) (ht : 0 ≤ ztot C zn1) (hk : 0 ≤ k) (h1 : C' (zn1 + 1) = C (zn1 + 1)) (hf : ∀ c : Nat, zfreeN C' zn1 c → zfreeN C zn1 c) (hz : zsz C zn1 ≤ 36)
    (h8 : ∀ j, C' (zn1 + 8) j = if j = 2 then C (zn1 + 8) 2 + 1 else C (zn1 + 8) j) (h9 : ∀ j, C' (zn1 + 9) j = if ztot C zn1 < 8 ∧ j = (ztot C zn1).toNat then 10 + k else C (zn1 + 9) j) (h10 : ∀ j, C' (zn1 + 10) j = if ztot C zn1 < 8 ∧ (ztot C zn1 * 36).toNat ≤ j ∧ j < (ztot C zn1 * 36).toNat + (zsz C zn1).toNat then F (j - (ztot C zn1 * 36).toNat) else C (zn1 + 10) j)
    (m19 : M' 115 19 = M 115 19) (m20 : M' 115 20 = M 115 20 + 1) (m21 : M' 115 21 = M 115 21) (m3 : ∀ j, M' 123 j = if ztot C zn1 < 8 ∧ j = (ztot C zn1).toNat then 10 + k else M 123 j) (m5 : ∀ j, M' 125 j = if ztot C zn1 < 8 ∧ (36 * ztot C zn1).toNat ≤ j ∧ j < (36 * ztot C zn1).toNat + (zsz C zn1).toNat then G (j - (36 * ztot C zn1).toNat) else M 125 j) (m4 : M' 124 = M 124) (hm : ∀ c : Nat, (c : Int) < zsz C zn1 → zfreeN C zn1 c → G c = F c) : rL C' M' := by
  obtain ⟨⟨r1, r2, r3⟩, r4⟩ := h
  have e0 : C' (zn1 + 8) 0 = C (zn1 + 8) 0 := by rw [h8]; rfl
  have e1 : C' (zn1 + 8) 1 = C (zn1 + 8) 1 := by rw [h8]; rfl
  have e2 : C' (zn1 + 8) 2 = C (zn1 + 8) 2 + 1 := by rw [h8]; rfl
  have htt : ztot C' zn1 = ztot C zn1 + 1 := by unfold ztot; rw [e1, e2]; omega
  have hs : zsz C' zn1 = zsz C zn1 := by unfold zsz; rw [h1]
  refine ⟨⟨by rw [m19, r1, e1], by rw [m20, r2, e2], by rw [m21, r3, e0]⟩, fun i hi => ?_⟩
  rw [htt] at hi
  have hi2 : (i : Int) < ztot C zn1 + 1 ∧ (i : Int) < 8 := by unfold zmi at hi; split at hi <;> omega
  rw [h9, m3, hs]
  by_cases hc : ztot C zn1 < 8 ∧ i = (ztot C zn1).toNat
  · rw [if_pos hc, if_pos hc]
    refine ⟨rfl, fun e => by omega, fun _ c hcs hcf => ?_⟩
    rw [h10, m5, if_pos ⟨hc.1, by omega, by omega⟩, if_pos ⟨hc.1, by omega, by omega⟩, show 36 * i + c - (36 * ztot C zn1).toNat = c by omega, show i * 36 + c - (ztot C zn1 * 36).toNat = c by omega]
    exact hm c hcs (hf c hcf)
  · rw [if_neg hc, if_neg hc]
    have hil : (i : Int) < zmi (ztot C zn1) 8 := by unfold zmi; split <;> omega
    obtain ⟨s1, s2, s3⟩ := r4 i hil
    refine ⟨s1, fun e y hy => ?_, fun e c hcs hcf => ?_⟩
    · rw [h10, m4, if_neg (fun e => by omega)]
      exact s2 e y hy
    · rw [h10, m5, if_neg (fun e => by omega), if_neg (fun e => by omega)]
      exact s3 e c hcs (hf c hcf)
theorem rkm_3 {M : zM} {x : Int} {j : Nat} : rkmM M x 123 j = if rtt M < 8 ∧ j = (rtt M).toNat then x else M 123 j := by
  unfold rkmM rkmX
  by_cases h : rtt M < 8
  · rw [if_pos h, ztao_o (by decide), zup_at, zup_o (fun e => absurd e.1 (by decide))]
    by_cases hj : j = (rtt M).toNat
    · rw [if_pos hj, if_pos ⟨h, hj⟩]
    · rw [if_neg hj, if_neg (fun e => hj e.2)]
  · rw [if_neg h, if_neg (fun e => h e.1), zup_o (fun e => absurd e.1 (by decide))]
theorem rkm_4 {M : zM} {x : Int} {j : Nat} : rkmM M x 124 j = if rtt M < 8 ∧ (4 * rtt M).toNat ≤ j ∧ j < (4 * rtt M).toNat + 4 then M 118 (j - (4 * rtt M).toNat) else M 124 j := by
  unfold rkmM rkmX
  by_cases h : rtt M < 8
  · rw [if_pos h]
    unfold ztao
    by_cases hj : (4 * rtt M).toNat ≤ j ∧ j < (4 * rtt M).toNat + 4
    · rw [if_pos ⟨rfl, hj⟩, if_pos ⟨h, hj⟩]
    · rw [if_neg (fun e => hj e.2), if_neg (fun e => hj e.2), zup_o (fun e => absurd e.1 (by decide)), zup_o (fun e => absurd e.1 (by decide))]
  · rw [if_neg h, if_neg (fun e => h e.1), zup_o (fun e => absurd e.1 (by decide))]
theorem rkm_19 {M : zM} {x : Int} : rkmM M x 115 19 = M 115 19 + 1 := by
  unfold rkmM rkmX
  split
  · rw [ztao_o (by decide), zup_o (fun e => absurd e.1 (by decide)), zup_i]
  · exact zup_i
theorem rkm_o {M : zM} {x : Int} {q : Nat} (h1 : ¬ q = 115) (h2 : ¬ q = 123) (h3 : ¬ q = 124) : rkmM M x q = M q := by
  unfold rkmM rkmX
  split
  · rw [ztao_or h3, zup_or h2, zup_or h1]
  · exact zup_or h1
theorem rmv_o {C M : zM} {e : Int} {q : Nat} (h1 : ¬ q = 115) (h2 : ¬ q = 123) (h3 : ¬ q = 124) (h4 : ¬ q = 120) (h5 : ¬ q = 121) (h6 : ¬ q = 122) : rmvM C M e q = M q := by
  unfold rmvM
  rw [rkm_o h1 h2 h3, rmw_o h4 h6 h5]
theorem rks_3 {C M : zM} {x : Int} {j : Nat} : rksM C M x 123 j = if rtt M < 8 ∧ j = (rtt M).toNat then 10 + x else M 123 j := by
  unfold rksM rksX
  by_cases h : rtt M < 8
  · rw [if_pos h, ztao_o (by decide), zup_at, zup_o (fun e => absurd e.1 (by decide))]
    by_cases hj : j = (rtt M).toNat
    · rw [if_pos hj, if_pos ⟨h, hj⟩]
    · rw [if_neg hj, if_neg (fun e => hj e.2)]
  · rw [if_neg h, if_neg (fun e => h e.1), zup_o (fun e => absurd e.1 (by decide))]
theorem rks_25 {C M : zM} {x : Int} {j : Nat} : rksM C M x 125 j = if rtt M < 8 ∧ (36 * rtt M).toNat ≤ j ∧ j < (36 * rtt M).toNat + (zsz C zn1).toNat then rksF C x (j - (36 * rtt M).toNat) else M 125 j := by
  unfold rksM rksX
  by_cases h : rtt M < 8
  · rw [if_pos h]
    unfold ztao
    by_cases hj : (36 * rtt M).toNat ≤ j ∧ j < (36 * rtt M).toNat + (zsz C zn1).toNat
    · rw [if_pos ⟨rfl, hj⟩, if_pos ⟨h, hj⟩]
    · rw [if_neg (fun e => hj e.2), if_neg (fun e => hj e.2), zup_o (fun e => absurd e.1 (by decide)), zup_o (fun e => absurd e.1 (by decide))]
  · rw [if_neg h, if_neg (fun e => h e.1), zup_o (fun e => absurd e.1 (by decide))]
theorem rks_20 {C M : zM} {x : Int} : rksM C M x 115 20 = M 115 20 + 1 := by
  unfold rksM rksX
  split
  · rw [ztao_o (by decide), zup_o (fun e => absurd e.1 (by decide)), zup_i]
  · exact zup_i
theorem zE9_k {M : zM} : zE9 (zkpM M zn1) M zn1 := ⟨zkp_o (by decide), zkp_o (by decide), zkp_o (by decide), zkp_o (by decide), zkp_o (by decide), zkp_o (by decide), zkp_o (by decide)⟩
/-- beliefs behind a move -/
theorem rB_mv {C Y K : zM} {e : Int} (hE : zE9 Y C zn1) (h102 : Y 102 = C 102) {j : Nat} (hj : (j : Int) < zsz C zn1) : rmvM C K e 120 j = zmvM Y zn1 e 12 12 j := by
  rw [rmv_120 (by omega)]
  unfold zmvM
  rw [zsz_c hE.e2, zscM_q (by decide) (by omega)]
  unfold zmwM
  rw [zrow_q, zmw_c hE h102]
/-- what a move does to the rows of both; the rover and the number may differ from those that the ghost has -/
theorem zmove_6 {C Y K : zM} {n x : Int} (hB : zBI n C zn1) (hE : zE9 Y C zn1) (hY : ∀ q : Nat, q = 4 ∨ q = 9 ∨ q = 10 ∨ q = 11 → Y q = C q) (h102 : Y 102 = C 102) (hx : 0 ≤ x ∧ x < 4) (hA : rA C K) (hC : rC C K) (hT : rT C K) (hL : rB C K) (hR : rL C K) : rA (zgoM Y x) (rmvM C K x) ∧ rC (zgoM Y x) (rmvM C K x) ∧ rT (zgoM Y x) (rmvM C K x) ∧ rB (zgoM Y x) (rmvM C K x) ∧ rL (zgoM Y x) (rmvM C K x) := by
  obtain ⟨g6, g7⟩ := hB.g.sz
  have hz : zsz C zn1 = C (zn1 + 1) 0 * C (zn1 + 1) 1 := rfl
  have c1 : zgoM Y x (zn1 + 1) = C (zn1 + 1) := (zgo_o (by decide) (by decide) (by decide) (by decide) (by decide) (by decide)).trans hE.1
  have c2 : zgoM Y x (zn1 + 2) = C (zn1 + 2) := (zgo_o (by decide) (by decide) (by decide) (by decide) (by decide) (by decide)).trans hE.2.1
  have c3 : zgoM Y x (zn1 + 3) = C (zn1 + 3) := (zgo_o (by decide) (by decide) (by decide) (by decide) (by decide) (by decide)).trans (hY 4 (by omega))
  have c5 : zgoM Y x (zn1 + 5) = C (zn1 + 5) := (zgo_o (by decide) (by decide) (by decide) (by decide) (by decide) (by decide)).trans hE.2.2.2.1
  have c6 : zgoM Y x (zn1 + 6) = C (zn1 + 6) := (zgo_o (by decide) (by decide) (by decide) (by decide) (by decide) (by decide)).trans hE.2.2.2.2.1
  have c7 : zgoM Y x (zn1 + 7) = C (zn1 + 7) := (zgo_o (by decide) (by decide) (by decide) (by decide) (by decide) (by decide)).trans hE.2.2.2.2.2.1
  have hrt : rtt (rmwM C K x) = ztot C zn1 := by
    unfold rtt
    rw [rmw_o (by decide) (by decide) (by decide)]
    rw [hR.1.1, hR.1.2.1]
    rfl
  refine ⟨?_, ?_, ?_, ?_, ?_⟩
  · exact rA_t c1 c2 (rmv_5 (by decide)) (rmv_5 (by decide)) (rmv_o (by decide) (by decide) (by decide) (by decide) (by decide) (by decide)) hA
  · exact rC_t c1 c3 (rmv_o (by decide) (by decide) (by decide) (by decide) (by decide) (by decide)) hC
  · exact rT_t c5 c6 c7 (rmv_5 (by decide)) (rmv_5 (by decide)) (rmv_o (by decide) (by decide) (by decide) (by decide) (by decide) (by decide)) (rmv_o (by decide) (by decide) (by decide) (by decide) (by decide) (by decide)) hT
  · intro j hj
    have hj2 : (j : Int) < zsz C zn1 := by
      unfold zsz at hj ⊢
      rw [c1] at hj
      exact hj
    rw [rB_mv hE h102 hj2]
    unfold zgoM
    rw [zamM_o (by decide) (by decide) (by decide)]
  · have y8 : zmvM Y zn1 x (zn1 + 11) (zn1 + 8) = C (zn1 + 8) := (zmvM_o (by decide) (by decide) (by decide)).trans (hY 9 (by omega))
    have y9 : zmvM Y zn1 x (zn1 + 11) (zn1 + 9) = C (zn1 + 9) := (zmvM_o (by decide) (by decide) (by decide)).trans (hY 10 (by omega))
    have y10 : zmvM Y zn1 x (zn1 + 11) (zn1 + 10) = C (zn1 + 10) := (zmvM_o (by decide) (by decide) (by decide)).trans (hY 11 (by omega))
    have y6 : zmvM Y zn1 x (zn1 + 11) (zn1 + 6) = C (zn1 + 6) := (zmvM_o (by decide) (by decide) (by decide)).trans hE.2.2.2.2.1
    have yt : ztot (zmvM Y zn1 x (zn1 + 11)) zn1 = ztot C zn1 := by unfold ztot; rw [y8]
    refine rL_mv (C := C) (M := K) (x := x) hR hB.t0 (by omega) c1 (zfr_t c1 c2) (by omega) (fun j => ?_) (fun j => ?_) (fun j => ?_) ?_ (rmv_5 (by decide)) (rmv_5 (by decide)) (fun j => ?_) (fun j => ?_) (rmv_o (by decide) (by decide) (by decide) (by decide) (by decide) (by decide)) (fun y hy => hT.2.1 y hy)
    · unfold zgoM
      rw [zam_8, y8]
    · unfold zgoM
      rw [zam_9, yt, y9]
    · unfold zgoM
      rw [zam_10, yt, y10, y6]
    · unfold rmvM
      rw [rkm_19, rmw_o (by decide) (by decide) (by decide)]
    · unfold rmvM
      rw [rkm_3, hrt, rmw_o (by decide) (by decide) (by decide)]
    · unfold rmvM
      rw [rkm_4, hrt, rmw_o (by decide) (by decide) (by decide), rmw_o (by decide) (by decide) (by decide)]
/-- the greatest belief of both -/
theorem zgr_zbest {F : zF} : ∀ n : Nat, (∀ j, j < n + 1 → 0 ≤ F j) → F (zbestf F n) = zgr F (n + 1)
  | 0, h => by
    show F 0 = zmx 0 (F 0)
    have := h 0 (by omega)
    unfold zmx
    split <;> omega
  | n + 1, h => by
    have ih := zgr_zbest n (fun j hj => h j (by omega))
    show F (if F (zbestf F n) < F (n + 1) then n + 1 else zbestf F n) = zmx (zgr F (n + 1)) (F (n + 1))
    rw [← ih]
    unfold zmx
    split
    · rfl
    · rfl
theorem zgr_cc {F G : zF} : ∀ n, (∀ j, j < n → F j = G j) → zgr F n = zgr G n
  | 0, _ => rfl
  | n + 1, h => by
    show zmx (zgr F n) (F n) = zmx (zgr G n) (G n)
    rw [zgr_cc n (fun j hj => h j (by omega)), h n (by omega)]
theorem zgr_bb {F G : zF} {n : Nat} (h0 : 0 < n) (hF : ∀ j, j < n → 0 ≤ F j) (h : ∀ j, j < n → F j = G j) : F (zbest F n) = zgr G n := by
  unfold zbest
  rw [zgr_zbest (n - 1) (fun j hj => hF j (by omega)), show n - 1 + 1 = n by omega]
  exact zgr_cc n h
theorem zdv3_9 {M : zM} {x : Int} : zE9 (zdv3 M x) M zn1 := ⟨by unfold zdv3 zdv2; rw [zup_or (by decide), zup_or (by decide), zkp_o (by decide)], by unfold zdv3 zdv2; rw [zup_or (by decide), zup_or (by decide), zkp_o (by decide)], by unfold zdv3 zdv2; rw [zup_or (by decide), zup_or (by decide), zkp_o (by decide)], by unfold zdv3 zdv2; rw [zup_or (by decide), zup_or (by decide), zkp_o (by decide)], by unfold zdv3 zdv2; rw [zup_or (by decide), zup_or (by decide), zkp_o (by decide)], by unfold zdv3 zdv2; rw [zup_or (by decide), zup_or (by decide), zkp_o (by decide)], by unfold zdv3 zdv2; rw [zup_or (by decide), zup_or (by decide), zkp_o (by decide)]⟩
theorem zdv3_o {M : zM} {x : Int} {q : Nat} (h : ¬ q = zn1) : zdv3 M x q = zkpM M zn1 q := by
  unfold zdv3 zdv2
  rw [zup_or h, zup_or h]
/-- the counted hits of both -/
theorem zhit_7 {C Y K : zM} {n : Int} (hg : zGr Y zn1) (hs : zsz Y zn1 = zsz C zn1) (hL : ∀ j : Nat, (j : Int) < zsz C zn1 → K 120 j = Y (zn1 + 11) j) (h4 : K 115 10 = Y zn1 4) (h7 : K 115 13 = Y zn1 7) : rteM C K 115 13 = zchM Y zn1 7 := by
  obtain ⟨g6, g7⟩ := hg.sz
  have hz : zsz Y zn1 = Y (zn1 + 1) 0 * Y (zn1 + 1) 1 := rfl
  have e : rord (K 120) (zsz C zn1).toNat (0 : Int).toNat = zrkM Y zn1 106 0 := by
    rw [← hs]
    exact rord_c (C := Y) (fun j hj => hL j (by omega)) (by show 0 < _; omega)
  have e4 : zrkM Y zn1 zn1 4 = Y zn1 4 := by rw [zrkM_o (by decide) (by decide)]
  have e7 : zrkM Y zn1 zn1 7 = Y zn1 7 := by rw [zrkM_o (by decide) (by decide)]
  unfold rteM zchM
  rw [zup_i, e, h4, e4, h7]
  by_cases h : zrkM Y zn1 106 0 = Y zn1 4
  · rw [zb_t h, if_pos h, zup_i, e7]
  · rw [zb_f h, if_neg h, e7, Int.add_zero]
theorem zch_5 {Y : zM} {j : Nat} (h : ¬ j = 7) : zchM Y zn1 j = Y zn1 j := by
  unfold zchM
  split
  · rw [zup_ne h, zrkM_o (by decide) (by decide)]
  · rw [zrkM_o (by decide) (by decide)]
theorem rte_o {C K : zM} {q : Nat} (h : ¬ q = 115) : rteM C K q = K q := zup_or h
theorem rte_5 {C K : zM} {j : Nat} (h : ¬ j = 13) : rteM C K 115 j = K 115 j := zup_ne h
theorem zdr_16 {z : Int} : zdr z 16 = zus z 16 % 16 := if_pos (by decide)
/-- behind a drive: the rows of both -/
theorem zdrive_6 {M K : zM} {n x : Int} (hB : zBI n M zn1) (hx : 0 ≤ x ∧ x < 4) (h6 : zR6 M K) : zR6 (zdvM M x) (rdvM M K x) := by
  obtain ⟨hA, hC, hT, hL, hS, hR⟩ := h6
  obtain ⟨g6, g7⟩ := hB.g.sz
  have hz : zsz M zn1 = M (zn1 + 1) 0 * M (zn1 + 1) 1 := rfl
  have s10 : rm1 K 115 10 = M zn1 4 := (rm1_5 (by decide) (by decide) (by decide) (by decide)).trans hS.1
  have s11 : rm1 K 115 11 = M zn1 5 := (rm1_5 (by decide) (by decide) (by decide) (by decide)).trans hS.2.1
  have s12 : rm1 K 115 12 = M zn1 6 := (rm1_5 (by decide) (by decide) (by decide) (by decide)).trans hS.2.2.1
  have s13 : rm1 K 115 13 = M zn1 7 := (rm1_5 (by decide) (by decide) (by decide) (by decide)).trans hS.2.2.2
  have k4 : zkpM M zn1 zn1 = M zn1 := zkp_o (by decide)
  have d5 : zdv2 M zn1 5 = znn (M zn1 5) := by unfold zdv2; rw [zup_i, k4]
  have d4 : zdv2 M zn1 4 = M zn1 4 := by unfold zdv2; rw [zup_ne (by decide), k4]
  have dq : ∀ q : Nat, ¬ q = zn1 → q < 25 → zdv2 M q = M q := fun q h h2 => by unfold zdv2; rw [zup_or h, zkp_o (Or.inl h2)]
  have hw : zdvW M = zway M zn1 (zus (znn (rm1 K 115 11)) 16 % 16) := by
    unfold zdvW
    rw [d5, s11, zdr_16]
    unfold zway zms
    rw [dq _ (by decide) (by decide)]
  have htg : ∀ v : Int, ztarget (zdv2 M) zn1 (M zn1 4) x v = ztarget M zn1 (M zn1 4) x v := fun v => by
    unfold ztarget
    rw [dq _ (by decide) (by decide)]
  have y4 : zdv3 M x zn1 4 = ztarget M zn1 (M zn1 4) x (zdvW M) := by unfold zdv3; rw [zup_i, d4, htg]
  have y5 : zdv3 M x zn1 5 = znn (M zn1 5) := by unfold zdv3; rw [zup_ne (by decide), d5]
  have y6 : zdv3 M x zn1 6 = M zn1 6 := by unfold zdv3 zdv2; rw [zup_ne (by decide), zup_ne (by decide), k4]
  have y7 : zdv3 M x zn1 7 = M zn1 7 := by unfold zdv3 zdv2; rw [zup_ne (by decide), zup_ne (by decide), k4]
  generalize hv : zway M zn1 (zus (znn (rm1 K 115 11)) 16 % 16) = v at hw
  have w10 : rdv1 M (rdv2 K) x v 115 10 = ztarget M zn1 (M zn1 4) x v := by unfold rdv1; rw [zup_i, rd2_5 (by decide) (by decide) (by decide) (by decide) (by decide), hS.1]
  have w11 : rdv1 M (rdv2 K) x v 115 11 = znn (M zn1 5) := by unfold rdv1; rw [zup_ne (by decide), rd2_11, hS.2.1]
  have wq : ∀ q : Nat, ¬ q = 115 → ¬ q = 135 → rdv1 M (rdv2 K) x v q = K q := fun q a b => by unfold rdv1; rw [zup_or a, rd2_o a b]
  have w5 : ∀ j : Nat, ¬ j = 0 → ¬ j = 39 → ¬ j = 40 → ¬ j = 42 → ¬ j = 10 → ¬ j = 11 → rdv1 M (rdv2 K) x v 115 j = K 115 j := fun j a b c d e f => by unfold rdv1; rw [zup_ne e, rd2_5 a b c d f]
  have eY : ∀ q : Nat, q = 4 ∨ q = 9 ∨ q = 10 ∨ q = 11 → zdv3 M x q = M q := fun q h => by rw [zdv3_o (by have : zn1 = 1 := rfl; omega), zkp_o (by omega)]
  have hm := zmove_6 (C := M) (Y := zdv3 M x) (K := rdv1 M (rdv2 K) x v) hB zdv3_9 eY (by rw [zdv3_o (by decide), zkp_o (by decide)]) hx
    (rA_t rfl rfl (w5 6 (by decide) (by decide) (by decide) (by decide) (by decide) (by decide)) (w5 7 (by decide) (by decide) (by decide) (by decide) (by decide) (by decide)) (wq _ (by decide) (by decide)) hA)
    (rC_t rfl rfl (wq _ (by decide) (by decide)) hC)
    (rT_t rfl rfl rfl (w5 8 (by decide) (by decide) (by decide) (by decide) (by decide) (by decide)) (w5 9 (by decide) (by decide) (by decide) (by decide) (by decide) (by decide)) (wq _ (by decide) (by decide)) (wq _ (by decide) (by decide)) hT)
    (rB_t rfl rfl (wq _ (by decide) (by decide)) hL)
    (rL_t rfl (fun c h => h) rfl rfl rfl (w5 19 (by decide) (by decide) (by decide) (by decide) (by decide) (by decide)) (w5 20 (by decide) (by decide) (by decide) (by decide) (by decide) (by decide)) (w5 21 (by decide) (by decide) (by decide) (by decide) (by decide) (by decide)) (wq _ (by decide) (by decide)) (wq _ (by decide) (by decide)) (wq _ (by decide) (by decide)) hR)
  obtain ⟨mA, mC, mT, mL, mR⟩ := hm
  have hrd : rdvM M K x = rteM M (rmvM M (rdv1 M (rdv2 K) x v) x) := by unfold rdvM rdvE; rw [hv]
  have hzd : zdvM M x = zchM (zgoM (zdv3 M x) x) := rfl
  have gz : zsz (zgoM (zdv3 M x) x) zn1 = zsz M zn1 := by
    unfold zsz
    rw [zgo_o (by decide) (by decide) (by decide) (by decide) (by decide) (by decide), zdv3_9.1]
  have gg : zGr (zgoM (zdv3 M x) x) zn1 := zGr_c ⟨(zgo_o (by decide) (by decide) (by decide) (by decide) (by decide) (by decide)).trans zdv3_9.1, (zgo_o (by decide) (by decide) (by decide) (by decide) (by decide) (by decide)).trans zdv3_9.2.1⟩ hB.g
  have g1 : zgoM (zdv3 M x) x zn1 = zdv3 M x zn1 := zgo_o (by decide) (by decide) (by decide) (by decide) (by decide) (by decide)
  rw [hrd, hzd]
  refine ⟨?_, ?_, ?_, ?_, ⟨?_, ?_, ?_, ?_⟩, ?_⟩
  · exact rA_t (zch_o (by decide) (by decide) (by decide)) (zch_o (by decide) (by decide) (by decide)) (rte_5 (by decide)) (rte_5 (by decide)) (rte_o (by decide)) mA
  · exact rC_t (zch_o (by decide) (by decide) (by decide)) (zch_o (by decide) (by decide) (by decide)) (rte_o (by decide)) mC
  · exact rT_t (zch_o (by decide) (by decide) (by decide)) (zch_o (by decide) (by decide) (by decide)) (zch_o (by decide) (by decide) (by decide)) (rte_5 (by decide)) (rte_5 (by decide)) (rte_o (by decide)) (rte_o (by decide)) mT
  · exact rB_t (zch_o (by decide) (by decide) (by decide)) (zch_o (by decide) (by decide) (by decide)) (rte_o (by decide)) mL
  · rw [rte_5 (by decide), rmv_5 (by decide), w10, zch_5 (by decide), g1, y4, hw]
  · rw [rte_5 (by decide), rmv_5 (by decide), w11, zch_5 (by decide), g1, y5]
  · rw [rte_5 (by decide), rmv_5 (by decide), w5 12 (by decide) (by decide) (by decide) (by decide) (by decide) (by decide), zch_5 (by decide), g1, y6]
    exact hS.2.2.1
  · refine zhit_7 (n := n) gg gz (fun j hj => mL j (by rw [gz]; exact hj)) ?_ ?_
    · rw [rmv_5 (by decide), w10, g1, y4, hw]
    · rw [rmv_5 (by decide), w5 13 (by decide) (by decide) (by decide) (by decide) (by decide) (by decide), g1, y7]
      exact hS.2.2.2
  · exact rL_t (zch_o (by decide) (by decide) (by decide)) (zfr_t (zch_o (by decide) (by decide) (by decide)) (zch_o (by decide) (by decide) (by decide))) (zch_o (by decide) (by decide) (by decide)) (zch_o (by decide) (by decide) (by decide)) (zch_o (by decide) (by decide) (by decide)) (rte_5 (by decide)) (rte_5 (by decide)) (rte_5 (by decide)) (rte_o (by decide)) (rte_o (by decide)) (rte_o (by decide)) mR
theorem zdv_o {M : zM} {x : Int} {q : Nat} (h : 13 ≤ q ∧ q < 102 ∨ 115 ≤ q ∨ q = 0) : zdvM M x q = zkpM M zn1 q := by
  have hz1 : zn1 = 1 := rfl
  unfold zdvM
  rw [zch_o (by omega) (by omega) (by omega), zgo_o (by omega) (by omega) (by omega) (by omega) (by omega) (by omega), zdv3_o (by omega)]
theorem rdv_o {M K : zM} {x : Int} {q : Nat} (h : q < 115 ∨ q = 127 ∨ 136 ≤ q) : rdvM M K x q = K q := by
  unfold rdvM rdvE
  rw [rte_o (by omega), rmv_o (by omega) (by omega) (by omega) (by omega) (by omega) (by omega)]
  unfold rdv1
  rw [zup_or (by omega), rd2_o (by omega) (by omega)]
theorem rdv_135 {M K : zM} {x : Int} : rdvM M K x 135 = rm1 K 135 := by
  unfold rdvM rdvE
  rw [rte_o (by decide), rmv_o (by decide) (by decide) (by decide) (by decide) (by decide) (by decide)]
  unfold rdv1 rdv2
  rw [zup_or (by decide), zup_or (by decide)]
theorem rdv_5 {M K : zM} {x : Int} {j : Nat} (h : ¬ j = 10 ∧ ¬ j = 11 ∧ ¬ j = 13 ∧ ¬ j = 19) : rdvM M K x 115 j = rm1 K 115 j := by
  unfold rdvM rdvE
  rw [rte_5 (by omega), rmv_5 (by omega)]
  unfold rdv1 rdv2
  rw [zup_ne (by omega), zup_ne (by omega)]
theorem zj_spread {xs : List Int32} {d : Nat} {n : Int} {M : zM} (hJ : zJo n M) (hn : n + 1 ≤ 600) : zStep xs (d + 13) (d + 13) 84 [.ref 0] 172 [.ref 115] [] 0 True n M := by
  have hI := hJ.k.ci
  (have h6M := hJ.a; exact zst_w (X := M) hJ (fun w => ⟨_, sp_spreadP (d := d + 8) hI   ⟩) (zFo_v zTy_i) (zki_spread hJ.k hn) (fun _ _ => rfl) (fun q a b => (zfg_o (by omega) (by omega) (by omega) (by omega))) (by simp (disch := decide) only [zfg_o, zkp_o]) (by simp (disch := decide) only [zfg_o, zkp_o]) (by simp (disch := decide) only [zfg_o, zkp_o]) (fun q a => (by rw [zfg_o (by omega) (by omega) (by omega) (by omega), zkp_o (by omega)])) (fun K hQ hKq h6 h39 => ⟨_, _, K, (fun w => sp_spreadR (d := d + 8) hJ.b h6.1 h39), zTy_i, (fun q hq => (by rw [rfo_o (by omega), rev_o (by omega) (by omega) (by omega), rm1_o (by omega) (by omega)])), rSc_id, ⟨by simp (disch := decide) only [rfo_o, rev_o], by simp (disch := decide) only [rfo_5, rev_o]⟩, ⟨by simp (disch := decide) only [rfo_5, rev_o, rm1_5], by simp (disch := decide) only [rfo_5, rev_o, rm1_5], by simp (disch := decide) only [rfo_5, rev_o, rm1_5]⟩, ⟨(rA_t (by simp (disch := decide) only [zup_or, zup_ne, zkp_o, rm1_o, rm1_5, rfo_o, rfo_5, rev_o, zfg_o, hKq]) (by simp (disch := decide) only [zup_or, zup_ne, zkp_o, rm1_o, rm1_5, rfo_o, rfo_5, rev_o, zfg_o, hKq]) (by simp (disch := decide) only [zup_or, zup_ne, zkp_o, rm1_o, rm1_5, rfo_o, rfo_5, rev_o, zfg_o, hKq]) (by simp (disch := decide) only [zup_or, zup_ne, zkp_o, rm1_o, rm1_5, rfo_o, rfo_5, rev_o, zfg_o, hKq]) (by simp (disch := decide) only [zup_or, zup_ne, zkp_o, rm1_o, rm1_5, rfo_o, rfo_5, rev_o, zfg_o, hKq]) h6M.1), (rC_t (by simp (disch := decide) only [zup_or, zup_ne, zkp_o, rm1_o, rm1_5, rfo_o, rfo_5, rev_o, zfg_o, hKq]) (by simp (disch := decide) only [zup_or, zup_ne, zkp_o, rm1_o, rm1_5, rfo_o, rfo_5, rev_o, zfg_o, hKq]) (by simp (disch := decide) only [zup_or, zup_ne, zkp_o, rm1_o, rm1_5, rfo_o, rfo_5, rev_o, zfg_o, hKq]) h6M.2.1), (rT_t (by simp (disch := decide) only [zup_or, zup_ne, zkp_o, rm1_o, rm1_5, rfo_o, rfo_5, rev_o, zfg_o, hKq]) (by simp (disch := decide) only [zup_or, zup_ne, zkp_o, rm1_o, rm1_5, rfo_o, rfo_5, rev_o, zfg_o, hKq]) (by simp (disch := decide) only [zup_or, zup_ne, zkp_o, rm1_o, rm1_5, rfo_o, rfo_5, rev_o, zfg_o, hKq]) (by simp (disch := decide) only [zup_or, zup_ne, zkp_o, rm1_o, rm1_5, rfo_o, rfo_5, rev_o, zfg_o, hKq]) (by simp (disch := decide) only [zup_or, zup_ne, zkp_o, rm1_o, rm1_5, rfo_o, rfo_5, rev_o, zfg_o, hKq]) (by simp (disch := decide) only [zup_or, zup_ne, zkp_o, rm1_o, rm1_5, rfo_o, rfo_5, rev_o, zfg_o, hKq]) (by simp (disch := decide) only [zup_or, zup_ne, zkp_o, rm1_o, rm1_5, rfo_o, rfo_5, rev_o, zfg_o, hKq]) h6M.2.2.1), (fun j hj => (by have e9 : zsz (zfgM (zkpM M zn1)) zn1 = zsz M zn1 := (by unfold zsz; simp (disch := decide) only [zfg_o, zkp_o]); rw [e9] at hj; have h9 := zev_rev (K := rm1 K) (show zE2 (zkpM M zn1) M zn1 from ⟨zkp_o (by decide), zkp_o (by decide)⟩).ef hj; simp (disch := decide) only [rfo_o]; rw [h9]; unfold zfgM; rw [zclM_o (by decide)])), (rS_t (by simp (disch := decide) only [zup_or, zup_ne, zkp_o, rm1_o, rm1_5, rfo_o, rfo_5, rev_o, zfg_o, hKq]) (by simp (disch := decide) only [zup_or, zup_ne, zkp_o, rm1_o, rm1_5, rfo_o, rfo_5, rev_o, zfg_o, hKq]) (by simp (disch := decide) only [zup_or, zup_ne, zkp_o, rm1_o, rm1_5, rfo_o, rfo_5, rev_o, zfg_o, hKq]) (by simp (disch := decide) only [zup_or, zup_ne, zkp_o, rm1_o, rm1_5, rfo_o, rfo_5, rev_o, zfg_o, hKq]) (by simp (disch := decide) only [zup_or, zup_ne, zkp_o, rm1_o, rm1_5, rfo_o, rfo_5, rev_o, zfg_o, hKq]) (by simp (disch := decide) only [zup_or, zup_ne, zkp_o, rm1_o, rm1_5, rfo_o, rfo_5, rev_o, zfg_o, hKq]) (by simp (disch := decide) only [zup_or, zup_ne, zkp_o, rm1_o, rm1_5, rfo_o, rfo_5, rev_o, zfg_o, hKq]) (by simp (disch := decide) only [zup_or, zup_ne, zkp_o, rm1_o, rm1_5, rfo_o, rfo_5, rev_o, zfg_o, hKq]) h6M.2.2.2.2.1), (rL_0 zclM_8 rfo_i)⟩, fun _ => Or.inr ⟨(by rw [rfo_5 (by decide) (by decide) (by decide), rev_o (by decide) (by decide) (by decide), rm1_0]), zq_i (by rw [zmany_c (show zE2 (zfgM (zkpM M zn1)) M zn1 from ⟨(by simp (disch := decide) only [zup_or, zup_ne, zkp_o, rm1_o, rm1_5, rfo_o, rfo_5, rev_o, zfg_o]), (by simp (disch := decide) only [zup_or, zup_ne, zkp_o, rm1_o, rm1_5, rfo_o, rfo_5, rev_o, zfg_o])⟩)])⟩⟩))
theorem zpl_o {K : zM} {x : Int} {q : Nat} (h1 : ¬ q = 9) (h2 : ¬ q = 12) : zplM K x q = K q := by
  unfold zplM
  rw [zclM_o h1, zup_or h2, ztab_or h2]
theorem rpl_o {K : zM} {x : Int} {q : Nat} (h1 : ¬ q = 115) (h2 : ¬ q = 120) : rplM K x q = rm1 K q := by
  unfold rplM
  rw [rfo_o h1, ztab_or h2]
theorem rpl_5 {K : zM} {x : Int} {j : Nat} (h1 : ¬ j = 19) (h2 : ¬ j = 20) (h3 : ¬ j = 21) : rplM K x 115 j = rm1 K 115 j := by
  unfold rplM
  rw [rfo_5 h1 h2 h3, ztab_or (by decide)]
theorem zj_place {xs : List Int32} {d : Nat} {n : Int} {M : zM} (hJ : zJo n M) (hn : n + 1 ≤ 600) {x : Int} (hx : zr32 x) : zStep xs (d + 12) (d + 13) 85 [.ref 0, .int (Int32.ofInt x)] 173 [.ref 115, .int (Int32.ofInt x)] [(2, 1), (1, 2)] 0 True n M := by
  have hI := hJ.k.ci
  by_cases c0 : ¬ (0 ≤ x ∧ x < zsz M zn1)
  · exact zst_r hJ hn (fun w => ⟨_, sp_placeP_0 (d := d + 8) hI hx  c0⟩) (zFo_e (by decide)) hJ.k (fun _ _ => rfl) (fun K hK h6 h39 h115 => ⟨_, _, (fun w => sp_placeR_0 (d := d + 9) hJ.b hx h6.1 h39 c0), zTy_i, zup_or (by decide), rSc_z, fun _ => Or.inl ⟨_, 1, rfl, by decide, zup_i⟩⟩)
  by_cases c1 : ¬ zfree M zn1 x
  · exact zst_r hJ hn (fun w => ⟨_, sp_placeP_1 (d := d + 8) hI hx  c0 c1⟩) (zFo_e (by decide)) hJ.k (fun _ _ => rfl) (fun K hK h6 h39 h115 => ⟨_, _, (fun w => sp_placeR_1 (d := d + 9) hJ.b hx h6.1 h39 c0 c1), zTy_i, zup_or (by decide), rSc_z, fun _ => Or.inl ⟨_, 2, rfl, by decide, zup_i⟩⟩)
  (have h6M := hJ.a; exact zst_w (X := M) hJ (fun w => ⟨_, sp_placeP_2 (d := d + 8) hI hx  c0 c1⟩) (zFo_v zTy_i) (zki_place hJ.k hn (Classical.not_not.mp c1)) (fun _ _ => rfl) (fun q a b => (zpl_o (by omega) (by omega))) (by simp (disch := decide) only [zpl_o, zkp_o]) (by simp (disch := decide) only [zpl_o, zkp_o]) (by simp (disch := decide) only [zpl_o, zkp_o]) (fun q a => (by rw [zpl_o (by omega) (by omega), zkp_o (by omega)])) (fun K hQ hKq h6 h39 => ⟨_, _, K, (fun w => sp_placeR_2 (d := d + 9) hJ.b hx h6.1 h39 c0 c1), zTy_i, (fun q hq => (by rw [rpl_o (by omega) (by omega), rm1_o (by omega) (by omega)])), rSc_id, ⟨rpl_o (by decide) (by decide), rpl_5 (by decide) (by decide) (by decide)⟩, ⟨by simp (disch := decide) only [rpl_5, rm1_5], by simp (disch := decide) only [rpl_5, rm1_5], by simp (disch := decide) only [rpl_5, rm1_5]⟩, ⟨(rA_t (by simp (disch := decide) only [zup_or, zup_ne, zkp_o, rm1_o, rm1_5, zpl_o, rpl_o, rpl_5, hKq]) (by simp (disch := decide) only [zup_or, zup_ne, zkp_o, rm1_o, rm1_5, zpl_o, rpl_o, rpl_5, hKq]) (by simp (disch := decide) only [zup_or, zup_ne, zkp_o, rm1_o, rm1_5, zpl_o, rpl_o, rpl_5, hKq]) (by simp (disch := decide) only [zup_or, zup_ne, zkp_o, rm1_o, rm1_5, zpl_o, rpl_o, rpl_5, hKq]) (by simp (disch := decide) only [zup_or, zup_ne, zkp_o, rm1_o, rm1_5, zpl_o, rpl_o, rpl_5, hKq]) h6M.1), (rC_t (by simp (disch := decide) only [zup_or, zup_ne, zkp_o, rm1_o, rm1_5, zpl_o, rpl_o, rpl_5, hKq]) (by simp (disch := decide) only [zup_or, zup_ne, zkp_o, rm1_o, rm1_5, zpl_o, rpl_o, rpl_5, hKq]) (by simp (disch := decide) only [zup_or, zup_ne, zkp_o, rm1_o, rm1_5, zpl_o, rpl_o, rpl_5, hKq]) h6M.2.1), (rT_t (by simp (disch := decide) only [zup_or, zup_ne, zkp_o, rm1_o, rm1_5, zpl_o, rpl_o, rpl_5, hKq]) (by simp (disch := decide) only [zup_or, zup_ne, zkp_o, rm1_o, rm1_5, zpl_o, rpl_o, rpl_5, hKq]) (by simp (disch := decide) only [zup_or, zup_ne, zkp_o, rm1_o, rm1_5, zpl_o, rpl_o, rpl_5, hKq]) (by simp (disch := decide) only [zup_or, zup_ne, zkp_o, rm1_o, rm1_5, zpl_o, rpl_o, rpl_5, hKq]) (by simp (disch := decide) only [zup_or, zup_ne, zkp_o, rm1_o, rm1_5, zpl_o, rpl_o, rpl_5, hKq]) (by simp (disch := decide) only [zup_or, zup_ne, zkp_o, rm1_o, rm1_5, zpl_o, rpl_o, rpl_5, hKq]) (by simp (disch := decide) only [zup_or, zup_ne, zkp_o, rm1_o, rm1_5, zpl_o, rpl_o, rpl_5, hKq]) h6M.2.2.1), (fun j hj => (by have e9 : zsz (zplM (zkpM M zn1) x) zn1 = zsz M zn1 := (by unfold zsz; simp (disch := decide) only [zpl_o, zkp_o]); rw [e9] at hj; have g := hJ.b.g.sz; have hz : zsz M zn1 = M (zn1 + 1) 0 * M (zn1 + 1) 1 := rfl; unfold rplM zplM; rw [rfo_o (by decide), ztab_i (by omega), zclM_o (by decide), zup_at]; unfold rplF; by_cases h9 : (j : Int) = x; (rw [if_pos h9, if_pos (by omega)]); (rw [if_neg h9, if_neg (by omega), ztab_i (by omega)]))), (rS_t (by simp (disch := decide) only [zup_or, zup_ne, zkp_o, rm1_o, rm1_5, zpl_o, rpl_o, rpl_5, hKq]) (by simp (disch := decide) only [zup_or, zup_ne, zkp_o, rm1_o, rm1_5, zpl_o, rpl_o, rpl_5, hKq]) (by simp (disch := decide) only [zup_or, zup_ne, zkp_o, rm1_o, rm1_5, zpl_o, rpl_o, rpl_5, hKq]) (by simp (disch := decide) only [zup_or, zup_ne, zkp_o, rm1_o, rm1_5, zpl_o, rpl_o, rpl_5, hKq]) (by simp (disch := decide) only [zup_or, zup_ne, zkp_o, rm1_o, rm1_5, zpl_o, rpl_o, rpl_5, hKq]) (by simp (disch := decide) only [zup_or, zup_ne, zkp_o, rm1_o, rm1_5, zpl_o, rpl_o, rpl_5, hKq]) (by simp (disch := decide) only [zup_or, zup_ne, zkp_o, rm1_o, rm1_5, zpl_o, rpl_o, rpl_5, hKq]) (by simp (disch := decide) only [zup_or, zup_ne, zkp_o, rm1_o, rm1_5, zpl_o, rpl_o, rpl_5, hKq]) h6M.2.2.2.2.1), (rL_0 zclM_8 rfo_i)⟩, fun _ => Or.inr ⟨(by rw [rpl_5 (by decide) (by decide) (by decide), rm1_0]), zq_i (by have h9 : M 120 x.toNat = M (zn1 + 11) x.toNat := h6M.2.2.2.1 _ (by omega); simp (disch := decide) only [zkp_o, rm1_o, hKq]; exact h9.symm)⟩⟩))
theorem zj_move {xs : List Int32} {d : Nat} {n : Int} {M : zM} (hJ : zJo n M) (hn : n + 1 ≤ 600) {x : Int} (hx : zr32 x) : zStep xs (d + 12) (d + 13) 86 [.ref 0, .int (Int32.ofInt x)] 174 [.ref 115, .int (Int32.ofInt x)] [(0, 1)] 0 True n M := by
  have hI := hJ.k.ci
  by_cases c0 : ¬ (0 ≤ x ∧ x < 4)
  · exact zst_r hJ hn (fun w => ⟨_, sp_moveP_0 (d := d + 5) hI hx  c0⟩) (zFo_e (by decide)) hJ.k (fun _ _ => rfl) (fun K hK h6 h39 h115 => ⟨_, _, (fun w => sp_moveR_0 (d := d + 6) hJ.b hx h6.1 h6.2.2.2.1 h6.2.2.1 h6.2.2.2.2.2 (by have := zK4 hJ; omega) h39 c0), zTy_i, zup_or (by decide), rSc_z, fun _ => Or.inl ⟨_, 1, rfl, by decide, zup_i⟩⟩)
  (have h6M := hJ.a; exact zst_w (X := M) hJ (fun w => ⟨_, sp_moveP_1 (d := d + 5) hI hx  c0⟩) (zFo_v zTy_i) (zki_move hJ.k hn (by omega)) (fun _ _ => rfl) (fun q a b => (zgo_o (by omega) (by omega) (by omega) (by omega) (by omega) (by omega))) (by simp (disch := decide) only [zgo_o, zkp_o]) (by simp (disch := decide) only [zgo_o, zkp_o]) (by simp (disch := decide) only [zgo_o, zkp_o]) (fun q a => (by rw [zgo_o (by omega) (by omega) (by omega) (by omega) (by omega) (by omega), zkp_o (by omega)])) (fun K hQ hKq h6 h39 => ⟨_, _, K, (fun w => sp_moveR_1 (d := d + 6) hJ.b hx h6.1 h6.2.2.2.1 h6.2.2.1 h6.2.2.2.2.2 (by have := zK4 hJ; omega) h39 c0), zTy_i, (fun q hq => (by rw [rmv_o (by omega) (by omega) (by omega) (by omega) (by omega) (by omega), rm1_o (by omega) (by omega)])), rSc_id, ⟨rmv_o (by decide) (by decide) (by decide) (by decide) (by decide) (by decide), rmv_5 (by decide)⟩, ⟨by simp (disch := decide) only [rmv_5, rm1_5], by simp (disch := decide) only [rmv_5, rm1_5], by simp (disch := decide) only [rmv_5, rm1_5]⟩, (by have hm := zmove_6 (C := M) (Y := zkpM M zn1) (K := rm1 K) (x := x) hJ.b zE9_k (fun q h => zkp_o (by omega)) (zkp_o (by decide)) (by omega) (rm1_A h6.1) (rm1_C h6.2.1) (rm1_T h6.2.2.1) (rm1_L h6.2.2.2.1) (rm1_R h6.2.2.2.2.2); exact ⟨hm.1, hm.2.1, hm.2.2.1, hm.2.2.2.1, rS_t (by simp (disch := decide) only [zgo_o, zkp_o, rmv_5, rm1_5, hKq]) (by simp (disch := decide) only [zgo_o, zkp_o, rmv_5, rm1_5, hKq]) (by simp (disch := decide) only [zgo_o, zkp_o, rmv_5, rm1_5, hKq]) (by simp (disch := decide) only [zgo_o, zkp_o, rmv_5, rm1_5, hKq]) (by simp (disch := decide) only [zgo_o, zkp_o, rmv_5, rm1_5, hKq]) (by simp (disch := decide) only [zgo_o, zkp_o, rmv_5, rm1_5, hKq]) (by simp (disch := decide) only [zgo_o, zkp_o, rmv_5, rm1_5, hKq]) (by simp (disch := decide) only [zgo_o, zkp_o, rmv_5, rm1_5, hKq]) h6M.2.2.2.2.1, hm.2.2.2.2⟩), fun _ => Or.inr ⟨(by rw [rmv_5 (by decide), rm1_0]), zq_i (by have hs : zsz (zgoM (zkpM M zn1) x) zn1 = zsz M zn1 := (by unfold zsz; simp (disch := decide) only [zgo_o, zkp_o]); have g := hJ.b.g.sz; have hz : zsz M zn1 = M (zn1 + 1) 0 * M (zn1 + 1) 1 := rfl; rw [hs, Int.toNat_natCast]; refine (zgr_bb (by omega) (fun j hj => (rmv_r hJ.b (by omega) j (by omega)).1) (fun j hj => ?_)).symm; rw [rB_mv (C := M) (Y := zkpM M zn1) (K := rm1 K) (e := x) (j := j) zE9_k (zkp_o (by decide)) (by omega)]; unfold zgoM; rw [zamM_o (by decide) (by decide) (by decide)])⟩⟩))
theorem zj_drive {xs : List Int32} {d : Nat} {n : Int} {M : zM} (hJ : zJo n M) (hn : n + 1 ≤ 600) {x : Int} (hx : zr32 x) : zStep xs (d + 12) (d + 13) 104 [.ref 0, .int (Int32.ofInt x)] 204 [.ref 115, .int (Int32.ofInt x)] [(0, 1)] 0 True n M := by
  have hI := hJ.k.ci
  by_cases c0 : ¬ (0 ≤ x ∧ x < 4)
  · exact zst_r hJ hn (fun w => ⟨_, sp_driveP_0 (d := d + 5) hI hx  c0⟩) (zFo_e (by decide)) hJ.k (fun _ _ => rfl) (fun K hK h6 h39 h115 => ⟨_, _, (fun w => sp_driveR_0 (d := d + 6) hJ.b hx h6.1 h6.2.2.2.1 h6.2.2.1 h6.2.2.2.2.2 (by have := zK4 hJ; omega) h6.2.2.2.2.1 h39 c0), zTy_i, zup_or (by decide), rSc_z, fun _ => Or.inl ⟨_, 1, rfl, by decide, zup_i⟩⟩)
  (have h6M := hJ.a; exact zst_w (X := M) hJ (fun w => ⟨_, sp_driveP_1 (d := d + 5) hI hx  c0⟩) (zFo_v zTy_i) (zki_drive hJ.k hn (by omega)) (fun _ _ => rfl) (fun q a b => (zdv_o (by omega))) (by rw [zdv_o (by decide), zkp_o (by decide)]) (by rw [zdv_o (by decide), zkp_o (by decide)]) (by rw [zdv_o (by decide), zkp_o (by decide)]) (fun q a => (by rw [zdv_o (by omega), zkp_o (by omega)])) (fun K hQ hKq h6 h39 => ⟨_, _, K, (fun w => sp_driveR_1 (d := d + 6) hJ.b hx h6.1 h6.2.2.2.1 h6.2.2.1 h6.2.2.2.2.2 (by have := zK4 hJ; omega) h6.2.2.2.2.1 h39 c0), zTy_i, (fun q hq => (by rw [rdv_o (by omega)])), rSc_id, ⟨rdv_135, rdv_5 (by decide)⟩, ⟨by rw [rdv_5 (by decide), rm1_5 (by decide) (by decide) (by decide) (by decide)], by rw [rdv_5 (by decide), rm1_5 (by decide) (by decide) (by decide) (by decide)], by rw [rdv_5 (by decide), rm1_5 (by decide) (by decide) (by decide) (by decide)]⟩, (zdrive_6 hJ.b (by omega) h6), fun _ => Or.inr ⟨(by rw [rdv_5 (by decide), rm1_0]), zq_i (zdrive_6 hJ.b (by omega) h6).2.2.2.2.1.1.symm⟩⟩))
end
noncomputable section
/-! Both: sights. -/
/-- a sight is kept by both -/
theorem zas_6 {C P R : zM} {k : Int} (h1 : P (zn1 + 1) = C (zn1 + 1)) (h2 : P (zn1 + 2) = C (zn1 + 2)) (h7 : P (zn1 + 7) = C (zn1 + 7)) (ht : 0 ≤ ztot P zn1) (hk : 0 ≤ k) (hz : zsz P zn1 ≤ 36) (h6 : zR6 P R) : zR6 (zasM P zn1 k) (rksM C R k) := by
  have hrt := h6.tt
  obtain ⟨hA, hC, hT, hL, hS, hR⟩ := h6
  have hs : zsz C zn1 = zsz P zn1 := by unfold zsz; rw [h1]
  have hE : zE2 P C zn1 := ⟨h1, h2⟩
  refine ⟨?_, ?_, ?_, ?_, ?_, ?_⟩
  · exact rA_t (zasM_o (by decide) (by decide) (by decide)) (zasM_o (by decide) (by decide) (by decide)) (rks_5 (by decide)) (rks_5 (by decide)) (rks_o (by decide) (by decide) (by decide)) hA
  · exact rC_t (zasM_o (by decide) (by decide) (by decide)) (zasM_o (by decide) (by decide) (by decide)) (rks_o (by decide) (by decide) (by decide)) hC
  · exact rT_t (zasM_o (by decide) (by decide) (by decide)) (zasM_o (by decide) (by decide) (by decide)) (zasM_o (by decide) (by decide) (by decide)) (rks_5 (by decide)) (rks_5 (by decide)) (rks_o (by decide) (by decide) (by decide)) (rks_o (by decide) (by decide) (by decide)) hT
  · exact rB_t (zasM_o (by decide) (by decide) (by decide)) (zasM_o (by decide) (by decide) (by decide)) (rks_o (by decide) (by decide) (by decide)) hL
  · exact rS_t (by rw [zasM_o (by decide) (by decide) (by decide)]) (by rw [zasM_o (by decide) (by decide) (by decide)]) (by rw [zasM_o (by decide) (by decide) (by decide)]) (by rw [zasM_o (by decide) (by decide) (by decide)]) (rks_5 (by decide)) (rks_5 (by decide)) (rks_5 (by decide)) (rks_5 (by decide)) hS
  · refine rL_sg (C := P) (M := R) (k := k) (F := zasF P zn1 k) (G := rksF C k) hR ht hk (zasM_o (by decide) (by decide) (by decide)) (zfr_t (zasM_o (by decide) (by decide) (by decide)) (zasM_o (by decide) (by decide) (by decide))) hz (fun j => zas_8) (fun j => zas_9) (fun j => zas_10) (rks_5 (by decide)) rks_20 (rks_5 (by decide)) (fun j => by rw [rks_3, hrt]) (fun j => by rw [rks_25, hrt, hs]) (rks_o (by decide) (by decide) (by decide)) (fun c hc hcf => ?_)
    unfold rksF zasF
    rw [if_pos (zfr_t (C' := P) (C := C) h1 h2 c hcf), h7, zmark_c hE]
/-- behind a sight: the rows of both -/
theorem zsight_6 {C Y R : zM} {n k o : Int} (hB : zBI n C zn1) (h1 : Y (zn1 + 1) = C (zn1 + 1)) (h2 : Y (zn1 + 2) = C (zn1 + 2)) (h7 : Y (zn1 + 7) = C (zn1 + 7)) (ht : 0 ≤ ztot Y zn1) (hk : 0 ≤ k) (hw : ∀ j : Nat, (j : Int) < zsz C zn1 → R 121 j = Y 102 j) (h6 : zR6 Y R) : zR6 (ztsM Y k o) (rksM C (if o = 2 then rsc1 C R else rsc0 C R) k) := by
  obtain ⟨g6, g7⟩ := hB.g.sz
  have hz : zsz C zn1 = C (zn1 + 1) 0 * C (zn1 + 1) 1 := rfl
  have hs : zsz Y zn1 = zsz C zn1 := by unfold zsz; rw [h1]
  obtain ⟨hA, hC, hT, hL, hS, hR⟩ := h6
  have p : ∀ q : Nat, q ≠ 12 → q ≠ 103 → zts1 Y q = Y q := fun q a b => zscM_o a b
  have r : ∀ q : Nat, ¬ q = 120 → ¬ q = 122 → rsc0 C R q = R q := fun q a b => rsc0_o a b
  have hp6 : zR6 (zts1 Y) (rsc0 C R) := by
    refine ⟨?_, ?_, ?_, ?_, ?_, ?_⟩
    · exact rA_t (p _ (by decide) (by decide)) (p _ (by decide) (by decide)) (by rw [r _ (by decide) (by decide)]) (by rw [r _ (by decide) (by decide)]) (r _ (by decide) (by decide)) hA
    · exact rC_t (p _ (by decide) (by decide)) (p _ (by decide) (by decide)) (r _ (by decide) (by decide)) hC
    · exact rT_t (p _ (by decide) (by decide)) (p _ (by decide) (by decide)) (p _ (by decide) (by decide)) (by rw [r _ (by decide) (by decide)]) (by rw [r _ (by decide) (by decide)]) (r _ (by decide) (by decide)) (r _ (by decide) (by decide)) hT
    · intro j hj
      have hj2 : (j : Int) < zsz C zn1 := by
        unfold zsz at hj ⊢
        rw [p _ (by decide) (by decide), h1] at hj
        exact hj
      unfold rsc0 zts1
      rw [rsc_q (by decide) (by omega), hs, zscM_q (by decide) (by omega)]
      exact zsc_c (fun i hi => hw i (by omega)) j (by omega)
    · exact rS_t (by rw [p _ (by decide) (by decide)]) (by rw [p _ (by decide) (by decide)]) (by rw [p _ (by decide) (by decide)]) (by rw [p _ (by decide) (by decide)]) (by rw [r _ (by decide) (by decide)]) (by rw [r _ (by decide) (by decide)]) (by rw [r _ (by decide) (by decide)]) (by rw [r _ (by decide) (by decide)]) hS
    · exact rL_t (p _ (by decide) (by decide)) (zfr_t (p _ (by decide) (by decide)) (p _ (by decide) (by decide))) (p _ (by decide) (by decide)) (p _ (by decide) (by decide)) (p _ (by decide) (by decide)) (by rw [r _ (by decide) (by decide)]) (by rw [r _ (by decide) (by decide)]) (by rw [r _ (by decide) (by decide)]) (r _ (by decide) (by decide)) (r _ (by decide) (by decide)) (r _ (by decide) (by decide)) hR
  have hpt : ztot (zts1 Y) zn1 = ztot Y zn1 := by unfold ztot; rw [p _ (by decide) (by decide)]
  have hps : zsz (zts1 Y) zn1 ≤ 36 := by unfold zsz; rw [p _ (by decide) (by decide), h1]; exact g7
  unfold ztsM
  by_cases ho : o = 2
  · rw [if_pos ho, if_pos ho]
    obtain ⟨pA, pC, pT, pL, pS, pR⟩ := hp6
    have u : ∀ q : Nat, ¬ q = 9 → ¬ q = 1 → zts2 (zts1 Y) q = zts1 Y q := fun q a b => by
      unfold zts2
      rw [zclM_o a, zup_or b]
    have u1 : ∀ j : Nat, ¬ j = 6 → zts2 (zts1 Y) zn1 j = zts1 Y zn1 j := fun j a => by
      unfold zts2
      rw [zclM_o (by decide), zup_ne a]
    have u8 : zts2 (zts1 Y) (zn1 + 8) 0 = -1 ∧ zts2 (zts1 Y) (zn1 + 8) 1 = 0 ∧ zts2 (zts1 Y) (zn1 + 8) 2 = 0 := zclM_8
    have v : ∀ q : Nat, ¬ q = 115 → rsc1 C R q = rsc0 C R q := fun q a => by
      unfold rsc1
      rw [rfo_o a, zup_or a]
    have v5 : ∀ j : Nat, ¬ j = 12 → ¬ j = 19 → ¬ j = 20 → ¬ j = 21 → rsc1 C R 115 j = rsc0 C R 115 j := fun j a b c d => by
      unfold rsc1
      rw [rfo_5 b c d, zup_ne a]
    refine zas_6 (by rw [u _ (by decide) (by decide), p _ (by decide) (by decide), h1]) (by rw [u _ (by decide) (by decide), p _ (by decide) (by decide), h2]) (by rw [u _ (by decide) (by decide), p _ (by decide) (by decide), h7]) (by unfold ztot; rw [u8.2.1, u8.2.2]; decide) hk (by unfold zsz; rw [u _ (by decide) (by decide)]; exact hps) ⟨?_, ?_, ?_, ?_, ⟨?_, ?_, ?_, ?_⟩, ?_⟩
    · exact rA_t (u _ (by decide) (by decide)) (u _ (by decide) (by decide)) (v5 _ (by decide) (by decide) (by decide) (by decide)) (v5 _ (by decide) (by decide) (by decide) (by decide)) (v _ (by decide)) pA
    · exact rC_t (u _ (by decide) (by decide)) (u _ (by decide) (by decide)) (v _ (by decide)) pC
    · exact rT_t (u _ (by decide) (by decide)) (u _ (by decide) (by decide)) (u _ (by decide) (by decide)) (v5 _ (by decide) (by decide) (by decide) (by decide)) (v5 _ (by decide) (by decide) (by decide) (by decide)) (v _ (by decide)) (v _ (by decide)) pT
    · exact rB_t (u _ (by decide) (by decide)) (u _ (by decide) (by decide)) (v _ (by decide)) pL
    · rw [v5 _ (by decide) (by decide) (by decide) (by decide), u1 _ (by decide)]; exact pS.1
    · rw [v5 _ (by decide) (by decide) (by decide) (by decide), u1 _ (by decide)]; exact pS.2.1
    · have e1 : rsc1 C R 115 12 = rsc0 C R 115 12 + 1 := by unfold rsc1; rw [rfo_5 (by decide) (by decide) (by decide), zup_i]
      have e2 : zts2 (zts1 Y) zn1 6 = zts1 Y zn1 6 + 1 := by unfold zts2; rw [zclM_o (by decide), zup_i]
      rw [e1, e2, pS.2.2.1]
    · rw [v5 _ (by decide) (by decide) (by decide) (by decide), u1 _ (by decide)]; exact pS.2.2.2
    · exact rL_0 u8 rfo_i
  · rw [if_neg ho, if_neg ho]
    exact zas_6 ((p _ (by decide) (by decide)).trans h1) ((p _ (by decide) (by decide)).trans h2) ((p _ (by decide) (by decide)).trans h7) (by rw [hpt]; exact ht) hk hps hp6
/-- behind counting a hit -/
theorem zch_6 {C Y K : zM} (hg : zGr Y zn1) (hs : zsz Y zn1 = zsz C zn1) (h6 : zR6 Y K) : zR6 (zchM Y) (rteM C K) := by
  obtain ⟨mA, mC, mT, mL, mS, mR⟩ := h6
  refine ⟨?_, ?_, ?_, ?_, ⟨?_, ?_, ?_, ?_⟩, ?_⟩
  · exact rA_t (zch_o (by decide) (by decide) (by decide)) (zch_o (by decide) (by decide) (by decide)) (rte_5 (by decide)) (rte_5 (by decide)) (rte_o (by decide)) mA
  · exact rC_t (zch_o (by decide) (by decide) (by decide)) (zch_o (by decide) (by decide) (by decide)) (rte_o (by decide)) mC
  · exact rT_t (zch_o (by decide) (by decide) (by decide)) (zch_o (by decide) (by decide) (by decide)) (zch_o (by decide) (by decide) (by decide)) (rte_5 (by decide)) (rte_5 (by decide)) (rte_o (by decide)) (rte_o (by decide)) mT
  · exact rB_t (zch_o (by decide) (by decide) (by decide)) (zch_o (by decide) (by decide) (by decide)) (rte_o (by decide)) mL
  · rw [rte_5 (by decide), zch_5 (by decide)]; exact mS.1
  · rw [rte_5 (by decide), zch_5 (by decide)]; exact mS.2.1
  · rw [rte_5 (by decide), zch_5 (by decide)]; exact mS.2.2.1
  · exact zhit_7 (n := 0) hg hs (fun j hj => mL j (by rw [hs]; exact hj)) mS.1 mS.2.2.2
  · exact rL_t (zch_o (by decide) (by decide) (by decide)) (zfr_t (zch_o (by decide) (by decide) (by decide)) (zch_o (by decide) (by decide) (by decide))) (zch_o (by decide) (by decide) (by decide)) (zch_o (by decide) (by decide) (by decide)) (zch_o (by decide) (by decide) (by decide)) (rte_5 (by decide)) (rte_5 (by decide)) (rte_5 (by decide)) (rte_o (by decide)) (rte_o (by decide)) (rte_o (by decide)) mR
/-- the class's memory before a sight is kept, its scratch but for the weights, and the number -/
def zPre (Y M : zM) : Prop := (∀ q : Nat, 2 ≤ q → q < 13 → Y q = M q) ∧ Y zn1 4 = M zn1 4 ∧ Y zn1 6 = M zn1 6 ∧ Y zn1 7 = M zn1 7
theorem zpre_6 {C Y M R K : zM} (hY : zPre Y M) (h5 : R 115 11 = Y zn1 5) (hq : ∀ q : Nat, zpl1 q → R q = K q) (hj : ∀ j : Nat, zpl5 j → ¬ j = 11 → R 115 j = K 115 j) (h6 : zR6 M K) : zR6 Y R := by
  obtain ⟨mA, mC, mT, mL, mS, mR⟩ := h6
  obtain ⟨y, y4, y6, y7⟩ := hY
  refine ⟨?_, ?_, ?_, ?_, ⟨?_, h5, ?_, ?_⟩, ?_⟩
  · exact rA_t (y 2 (by decide) (by decide)) (y 3 (by decide) (by decide)) (hj 6 (by unfold zpl5; omega) (by decide)) (hj 7 (by unfold zpl5; omega) (by decide)) (hq _ (by unfold zpl1; omega)) mA
  · exact rC_t (y 2 (by decide) (by decide)) (y 4 (by decide) (by decide)) (hq _ (by unfold zpl1; omega)) mC
  · exact rT_t (y 6 (by decide) (by decide)) (y 7 (by decide) (by decide)) (y 8 (by decide) (by decide)) (hj 8 (by unfold zpl5; omega) (by decide)) (hj 9 (by unfold zpl5; omega) (by decide)) (hq _ (by unfold zpl1; omega)) (hq _ (by unfold zpl1; omega)) mT
  · exact rB_t (y 2 (by decide) (by decide)) (y 12 (by decide) (by decide)) (hq _ (by unfold zpl1; omega)) mL
  · rw [hj 10 (by unfold zpl5; omega) (by decide), y4]; exact mS.1
  · rw [hj 12 (by unfold zpl5; omega) (by decide), y6]; exact mS.2.2.1
  · rw [hj 13 (by unfold zpl5; omega) (by decide), y7]; exact mS.2.2.2
  · exact rL_t (y 2 (by decide) (by decide)) (zfr_t (y 2 (by decide) (by decide)) (y 3 (by decide) (by decide))) (y 9 (by decide) (by decide)) (y 10 (by decide) (by decide)) (y 11 (by decide) (by decide)) (hj 19 (by unfold zpl5; omega) (by decide)) (hj 20 (by unfold zpl5; omega) (by decide)) (hj 21 (by unfold zpl5; omega) (by decide)) (hq _ (by unfold zpl1; omega)) (hq _ (by unfold zpl1; omega)) (hq _ (by unfold zpl1; omega)) mR
theorem zPre_s {M X : zM} (hX : ∀ q : Nat, q < 13 → X q = M q) : zPre (zkpM X zn1) M := ⟨fun q a b => (zkp_o (by omega)).trans (hX q b), by rw [zkp_o (by decide), hX _ (by decide)], by rw [zkp_o (by decide), hX _ (by decide)], by rw [zkp_o (by decide), hX _ (by decide)]⟩
theorem zPre_z {Y M : zM} {z : Int} (h : zPre Y M) : zPre (zup Y zn1 5 z) M := ⟨fun q a b => (zup_or (by have : zn1 = 1 := rfl; omega)).trans (h.1 q a b), by rw [zup_ne (by decide)]; exact h.2.1, by rw [zup_ne (by decide)]; exact h.2.2.1, by rw [zup_ne (by decide)]; exact h.2.2.2⟩
/-- the weights of both -/
theorem zwt_T {M K : zM} {k : Int} (hL : rB M K) {j : Nat} (hj : (j : Int) < zsz M zn1) : rsT0 M K k 121 j = zsT M k 102 j := by
  unfold rsT0 rsT zsT zsgM
  rw [zup_or (by decide), ztab_i (by omega), ztab_i (by omega)]
  exact rsF_1 hL hj
theorem zwt_R {M K : zM} {k : Int} {j : Nat} (hj : (j : Int) < zsz M zn1) : rsR M K k 121 j = zsR M k 102 j := by
  have hX : ∀ q : Nat, q < 99 → zrsM M zn1 k q = M q := fun q h => zrsM_o (by omega) (by omega) (by omega)
  have hE : zE2 (zrsM M zn1 k) M zn1 := ⟨hX _ (by decide), hX _ (by decide)⟩
  unfold rsR zsR zsgM
  rw [zsz_c hE, ztab_i (by omega), ztab_i (by omega)]
  unfold rsF zsgF
  rw [rse_q (by omega), zfreeN_c hE, hX (zn1 + 7) (by decide), zmark_c hE]
theorem zsT_o {M : zM} {k : Int} {q : Nat} (h : q ≠ 102) : zsT M k q = M q := zsgM_o h
theorem zsR_o {M : zM} {k : Int} {q : Nat} (h : q ≠ 102) (h2 : q ≠ 103) (h3 : q ≠ 104) : zsR M k q = M q := by
  unfold zsR
  rw [zsgM_o h, zrsM_o h h2 h3]
theorem zSc_T {M : zM} {k : Int} : zSc (zsT M k) M := fun q h => zsT_o (by omega)
theorem zSc_R {M : zM} {k : Int} : zSc (zsR M k) M := fun q h => zsR_o (by omega) (by omega) (by omega)
theorem rEq.sc {K M : zM} (h : rEq K M) : rSc K M := ⟨fun q a b => h.1 q (by omega) a (by omega) (by omega), fun j a => h.2 j (by omega)⟩
/-- the reference's rows behind remembering, its number perhaps changed -/
theorem rpre {K K' R : zM} {z : Int} (h : rEq K' K) (hR : R = zup (rm1 K') 115 11 z ∨ R = rm1 K') : (∀ q : Nat, zpl1 q → R q = K q) ∧ (∀ j : Nat, zpl5 j → ¬ j = 11 → R 115 j = K 115 j) ∧ R 121 = K' 121 ∧ (∀ q : Nat, ¬ q = 115 → R q = rm1 K' q) ∧ (∀ j : Nat, ¬ j = 11 → R 115 j = rm1 K' 115 j) := by
  have a1 : ∀ q : Nat, ¬ q = 115 → R q = rm1 K' q := fun q a => by
    rcases hR with rfl | rfl
    · exact zup_or a
    · rfl
  have a2 : ∀ j : Nat, ¬ j = 11 → R 115 j = rm1 K' 115 j := fun j a => by
    rcases hR with rfl | rfl
    · exact zup_ne a
    · rfl
  refine ⟨fun q hq => ?_, fun j hj h11 => ?_, ?_, a1, a2⟩
  · rw [a1 q (by unfold zpl1 at hq; omega), rm1_o (by unfold zpl1 at hq; omega) (by unfold zpl1 at hq; omega), h.1 q (by unfold zpl1 at hq; omega) (by unfold zpl1 at hq; omega) (by unfold zpl1 at hq; omega) (by unfold zpl1 at hq; omega)]
  · rw [a2 j h11, rm1_5 (by unfold zpl5 at hj; omega) (by unfold zpl5 at hj; omega) (by unfold zpl5 at hj; omega) (by unfold zpl5 at hj; omega), h.2 j (by unfold zpl5 at hj; omega)]
  · rw [a1 _ (by decide), rm1_o (by decide) (by decide)]
theorem rksc_o {C R : zM} {k o : Int} {q : Nat} (h : q < 115 ∨ q = 127 ∨ q = 135 ∨ 136 ≤ q) : rksM C (if o = 2 then rsc1 C R else rsc0 C R) k q = R q := by
  rw [rks_o (by omega) (by omega) (by omega)]
  split
  · exact rsc1_o (by omega) (by omega) (by omega)
  · exact rsc0_o (by omega) (by omega)
theorem rksc_5 {C R : zM} {k o : Int} {j : Nat} (h : ¬ j = 12 ∧ ¬ j = 19 ∧ ¬ j = 20 ∧ ¬ j = 21) : rksM C (if o = 2 then rsc1 C R else rsc0 C R) k 115 j = R 115 j := by
  rw [rks_5 h.2.2.1]
  split
  · exact rsc1_5 h.1 h.2.1 h.2.2.1 h.2.2.2
  · rw [rsc0_o (by decide) (by decide)]
/-- all that a sight needs of both -/
theorem zsee_w {xs : List Int32} {dc dr kc kr : Nat} {ac ar : List Value} {hh : List (Nat × Int)} {n : Int} {M X Y M1 : zM} {o : XO} {k ou ov : Int} (hJ : zJo n M) (hr : zRun xs dc kc ac M (.inl (some (.int (Int32.ofInt ov)))) M1) (hX : zSc X M) (hX4 : ∀ q : Nat, q < 13 → X q = M q) (hY : Y = zkpM X zn1 ∨ ∃ z, Y = zup (zkpM X zn1) zn1 5 z) (hk : 0 ≤ k) (hm : M1 = ztsM Y k ou ∨ M1 = zchM (ztsM Y k ou)) (hK : zKI (n + 1) M1)
    (h2 : ∀ K : zM, (∀ q : Nat, 115 ≤ q ∧ q < 137 → K q = M q) → zR6 M K → (0 ≤ K 115 39 ∧ K 115 39 ≤ 6) → ∃ (M2 K' R : zM), (∀ w : Bool, xrun2 xs dr kr ar (w, zheap K) = some (.inl (some (.int (Int32.ofInt ov))), (w, zheap M2))) ∧ rEq K' K ∧ (∀ j : Nat, (j : Int) < zsz M zn1 → K' 121 j = X 102 j) ∧ (R = rm1 K' ∨ ∃ z, R = zup (rm1 K') 115 11 z) ∧ R 115 11 = Y zn1 5 ∧ ((M1 = ztsM Y k ou ∧ M2 = rksM M (if ou = 2 then rsc1 M R else rsc0 M R) k) ∨ (M1 = zchM (ztsM Y k ou) ∧ M2 = rteM M (rksM M (if ou = 2 then rsc1 M R else rsc0 M R) k)))) : zStep xs dc dr kc ac kr ar hh 0 True n M := by
  have hz1 : zn1 = 1 := rfl
  have hY1 : ∀ q : Nat, ¬ q = 1 → Y q = zkpM X zn1 q := fun q a => by
    rcases hY with rfl | ⟨z, rfl⟩
    · rfl
    · exact zup_or (by omega)
  have hpre : zPre Y M := by
    rcases hY with rfl | ⟨z, rfl⟩
    · exact zPre_s hX4
    · exact zPre_z (zPre_s hX4)
  have hM1 : ∀ q : Nat, 13 ≤ q ∧ q < 102 ∨ 115 ≤ q ∨ q = 0 → M1 q = zkpM X zn1 q := fun q h => by
    rcases hm with rfl | rfl
    · rw [zts_o (by omega) (by omega) (by omega) (by omega) (by omega) (by omega), hY1 q (by omega)]
    · rw [zch_o (by omega) (by omega) (by omega), zts_o (by omega) (by omega) (by omega) (by omega) (by omega) (by omega), hY1 q (by omega)]
  have hXk : ∀ q : Nat, q = 0 ∨ 99 ≤ q ∧ q < 101 ∨ 115 ≤ q → zkpM X zn1 q = M q := fun q h => (zkp_o (by omega)).trans (hX q (by omega))
  refine zst_w (X := X) hJ hr (zFo_v zTy_i) hK hX (fun q a b => hM1 q (by omega)) ((hM1 0 (by omega)).trans (hXk 0 (by omega))) ((hM1 99 (by omega)).trans (hXk 99 (by omega))) ((hM1 100 (by omega)).trans (hXk 100 (by omega))) (fun q a => (hM1 q (by omega)).trans (hXk q (by omega))) (fun K hQ hKq h6 h39 => ?_)
  obtain ⟨M2, K', R, a1, a2, a3, a4, a5, a6⟩ := h2 K hKq h6 h39
  have hr' : ∃ z, R = zup (rm1 K') 115 11 z ∨ R = rm1 K' := by
    rcases a4 with h | ⟨z, h⟩
    · exact ⟨0, Or.inr h⟩
    · exact ⟨z, Or.inl h⟩
  obtain ⟨z, hr'⟩ := hr'
  obtain ⟨b1, b2, b3, b4, b5⟩ := rpre a2 hr'
  have hp6 : zR6 Y R := zpre_6 (C := M) hpre a5 b1 b2 h6
  have ht : ztot Y zn1 = ztot M zn1 := by unfold ztot; rw [show Y (zn1 + 8) = M (zn1 + 8) from hpre.1 9 (by decide) (by decide)]
  have h6' := zsight_6 (C := M) (Y := Y) (R := R) (k := k) (o := ou) hJ.b (hpre.1 2 (by decide) (by decide)) (hpre.1 3 (by decide) (by decide)) (hpre.1 8 (by decide) (by decide)) (by rw [ht]; exact hJ.b.t0) hk (fun j hj => by rw [b3, a3 j hj, hY1 102 (by decide), zkp_o (by decide)]) hp6
  have y1 : ztsM Y k ou (zn1 + 1) = M (zn1 + 1) := (zts_o (by decide) (by decide) (by decide) (by decide) (by decide) (by decide)).trans (hpre.1 2 (by decide) (by decide))
  have y2 : ztsM Y k ou (zn1 + 2) = M (zn1 + 2) := (zts_o (by decide) (by decide) (by decide) (by decide) (by decide) (by decide)).trans (hpre.1 3 (by decide) (by decide))
  have hsc : rSc K' K := a2.sc
  have frame : ∀ q : Nat, q < 115 ∨ q = 127 ∨ 136 ≤ q → R q = K q := fun q h => by rw [b4 q (by omega), rm1_o (by omega) (by omega), a2.1 q (by omega) (by omega) (by omega) (by omega)]
  have s5 : ∀ j : Nat, j = 41 ∨ j = 30 ∨ j = 26 → R 115 j = K 115 j := fun j h => by rw [b5 j (by omega), rm1_5 (by omega) (by omega) (by omega) (by omega), a2.2 j (by omega)]
  rcases a6 with ⟨e1, e2⟩ | ⟨e1, e2⟩
  · subst e2
    refine ⟨_, _, K', a1, zTy_i, fun q hq => ?_, hsc, ⟨?_, ?_⟩, ⟨?_, ?_, ?_⟩, by rw [e1]; exact h6', fun _ => Or.inr ⟨?_, rfl⟩⟩
    · rw [rksc_o (by omega), frame q (by omega)]
    · rw [rksc_o (by omega), b4 _ (by decide)]
    · rw [rksc_5 (by decide), b5 _ (by decide)]
    · rw [rksc_5 (by decide), s5 _ (by decide)]
    · rw [rksc_5 (by decide), s5 _ (by decide)]
    · rw [rksc_5 (by decide), s5 _ (by decide)]
    · rw [rksc_5 (by decide), b5 _ (by decide), rm1_0]
  · subst e2
    refine ⟨_, _, K', a1, zTy_i, fun q hq => ?_, hsc, ⟨?_, ?_⟩, ⟨?_, ?_, ?_⟩, by rw [e1]; exact zch_6 (zGr_c ⟨y1, y2⟩ hJ.b.g) (by unfold zsz; rw [y1]) h6', fun _ => Or.inr ⟨?_, rfl⟩⟩
    · rw [rte_o (by omega), rksc_o (by omega), frame q (by omega)]
    · rw [rte_o (by decide), rksc_o (by omega), b4 _ (by decide)]
    · rw [rte_5 (by decide), rksc_5 (by decide), b5 _ (by decide)]
    · rw [rte_5 (by decide), rksc_5 (by decide), s5 _ (by decide)]
    · rw [rte_5 (by decide), rksc_5 (by decide), s5 _ (by decide)]
    · rw [rte_5 (by decide), rksc_5 (by decide), s5 _ (by decide)]
    · rw [rte_5 (by decide), rksc_5 (by decide), b5 _ (by decide), rm1_0]
theorem zrs_2 {M : zM} {k : Int} (h : ¬ zrs M zn1 k = 0) : zrs M zn1 k = 2 := zrs_b.resolve_left h
theorem zj_see {xs : List Int32} {d : Nat} {n : Int} {M : zM} (hJ : zJo n M) (hn : n + 1 ≤ 600) {x : Int} (hx : zr32 x) : zStep xs (d + 12) (d + 13) 87 [.ref 0, .int (Int32.ofInt x)] 175 [.ref 115, .int (Int32.ofInt x)] [(0, 1), (1, 2)] 0 True n M := by
  have hI := hJ.k.ci
  by_cases c0 : ¬ (0 ≤ x ∧ x < 4)
  · exact zst_r hJ hn (fun w => ⟨_, sp_seeP_0 (d := d + 7) hI hx  c0⟩) (zFo_e (by decide)) hJ.k (fun _ _ => rfl) (fun K hK h6 h39 h115 => ⟨_, _, (fun w => sp_seeR_0 (d := d + 8) hJ.b hx h6.1 h6.2.2.2.1 h6.2.2.1 h6.2.2.2.2.2 (by have := zK4 hJ; omega) h39 c0), zTy_i, zup_or (by decide), rSc_z, fun _ => Or.inl ⟨_, 1, rfl, by decide, zup_i⟩⟩)
  by_cases c1 : zok M zn1 x
  · exact zsee_w (o := .inr 0) (X := zsT M x) (Y := zkpM (zsT M x) zn1) (k := x) (ou := 1) (ov := 0) hJ (fun w => ⟨_, sp_seeP_1 (d := d + 7) hI hx  c0 c1⟩) zSc_T (fun q h => zsT_o (by omega)) (Or.inl rfl) (by omega) (Or.inl rfl) (zki_seeT hJ.k hn (by omega) c1) (fun K hKq h6 h39 => ⟨_, rsT0 M K x, rm1 (rsT0 M K x), (fun w => sp_seeR_1 (d := d + 8) hJ.b hx h6.1 h6.2.2.2.1 h6.2.2.1 h6.2.2.2.2.2 (by have := zK4 hJ; omega) h39 c0 c1), rEq_T, fun j hj => zwt_T h6.2.2.2.1 hj, Or.inl rfl, by rw [rm1_5 (by decide) (by decide) (by decide) (by decide), rsT0_5 (by decide), zkp_o (by decide), zsT_o (by decide)]; exact h6.2.2.2.2.1.2.1, Or.inl ⟨rfl, (by rw [if_neg (show ¬ (1 : Int) = 2 by decide)])⟩⟩)
  by_cases c2 : zrs M zn1 x = 0
  · exact zst_r hJ hn (fun w => ⟨_, sp_seeP_2 (d := d + 7) hI hx  c0 c1 c2⟩) (zFo_e (by decide)) (zki_R hJ.k) zSc_R (fun K hK h6 h39 h115 => ⟨_, _, (fun w => sp_seeR_2 (d := d + 8) hJ.b hx h6.1 h6.2.2.2.1 h6.2.2.1 h6.2.2.2.2.2 (by have := zK4 hJ; omega) h39 c0 c1 c2), zTy_i, (zup_or (by decide)).trans (rsR_o (by decide) (by decide) (by decide) (by decide)), rSc_tr rSc_z rEq_R.sc, fun _ => Or.inl ⟨_, 2, rfl, by decide, zup_i⟩⟩)
  have h22 := zrs_2 c2
  exact zsee_w (o := .inr 0) (X := zsR M x) (Y := zkpM (zsR M x) zn1) (k := x) (ou := (zrs M zn1 x)) (ov := 1) hJ (fun w => ⟨_, sp_seeP_3 (d := d + 7) hI hx  c0 c1 c2⟩) zSc_R (fun q h => zsR_o (by omega) (by omega) (by omega)) (Or.inl rfl) (by omega) (Or.inl rfl) (zki_seeR hJ.k hn (by omega) c2) (fun K hKq h6 h39 => ⟨_, rsR M K x, rm1 (rsR M K x), (fun w => sp_seeR_3 (d := d + 8) hJ.b hx h6.1 h6.2.2.2.1 h6.2.2.1 h6.2.2.2.2.2 (by have := zK4 hJ; omega) h39 c0 c1 c2), rEq_R, fun j hj => zwt_R hj, Or.inl rfl, by rw [rm1_5 (by decide) (by decide) (by decide) (by decide), rsR_5 (by decide), zkp_o (by decide), zsR_o (by decide) (by decide) (by decide)]; exact h6.2.2.2.2.1.2.1, Or.inl ⟨rfl, (by rw [if_pos h22])⟩⟩)
noncomputable def zkz (M : zM) : Int := if 0 < rall M then znn (M zn1 5) else M zn1 5
noncomputable def zkk (M : zM) : Int := rkk M (znn (M zn1 5))
theorem zkk_c {M : zM} : zseen M zn1 (zmark M zn1 (M zn1 4)) (zdr (znn (M zn1 5)) (zss M zn1 (zmark M zn1 (M zn1 4)) 4)) = zkk M ∨ ¬ 0 < zss M zn1 (zmark M zn1 (M zn1 4)) 4 := by
  by_cases h : 0 < zss M zn1 (zmark M zn1 (M zn1 4)) 4
  · refine Or.inl ?_
    unfold zkk rkk rsek rall rmk
    rw [if_pos h]
    unfold zdr
    rw [if_pos h]
  · exact Or.inr h
theorem zkk_0 {M : zM} (h : ¬ 0 < zss M zn1 (zmark M zn1 (M zn1 4)) 4) : zkk M = zmark M zn1 (M zn1 4) ∧ zkz M = M zn1 5 := by
  unfold zkk rkk rsek zkz rall rmk
  rw [if_neg h, if_neg h]
  exact ⟨rfl, rfl⟩
theorem zkz_1 {M : zM} (h : 0 < zss M zn1 (zmark M zn1 (M zn1 4)) 4) : zkz M = znn (M zn1 5) := if_pos h
/-- the class's sensing, by the mark that is seen -/
theorem zsense_c {xs : List Int32} {d : Nat} {M : zM} (hI : zCI M) : (zok M zn1 (zkk M) → zRun xs (d + 12) 105 [.ref 0] M (.inl (some (.int (Int32.ofInt (zkk M))))) (zseM (zsT M (zkk M)) (zkz M) (zkk M) 1)) ∧ (¬ zok M zn1 (zkk M) → zrs M zn1 (zkk M) = 0 → zRun xs (d + 12) 105 [.ref 0] M (.inr 1) (zsR M (zkk M))) ∧ (¬ zok M zn1 (zkk M) → ¬ zrs M zn1 (zkk M) = 0 → zRun xs (d + 12) 105 [.ref 0] M (.inl (some (.int (Int32.ofInt (zkk M))))) (zseM (zsR M (zkk M)) (zkz M) (zkk M) (zrs M zn1 (zkk M)))) := by
  by_cases hS : 0 < zss M zn1 (zmark M zn1 (M zn1 4)) 4
  · have hk := (zkk_c (M := M)).resolve_right (fun h => h hS)
    have hz := zkz_1 hS
    rw [hz, ← hk]
    exact ⟨fun h w => ⟨_, sp_senseP_0 (d := d + 7) hI ⟨hS, h⟩⟩, fun h h2 w => ⟨_, sp_senseP_1 (d := d + 7) hI (fun e => h e.2) ⟨hS, h2⟩⟩, fun h h2 w => ⟨_, sp_senseP_2 (d := d + 7) hI (fun e => h e.2) (fun e => h2 e.2) hS⟩⟩
  · obtain ⟨hk, hz⟩ := zkk_0 hS
    rw [hz, hk]
    exact ⟨fun h w => ⟨_, sp_senseP_3 (d := d + 7) hI (fun e => hS e.1) (fun e => hS e.1) hS h⟩, fun h h2 w => ⟨_, sp_senseP_4 (d := d + 7) hI (fun e => hS e.1) (fun e => hS e.1) hS h h2⟩, fun h h2 w => ⟨_, sp_senseP_5 (d := d + 7) hI (fun e => hS e.1) (fun e => hS e.1) hS h h2⟩⟩
theorem rsn_z {M K K' : zM} (h : rEq K' K) (h11 : K 115 11 = M zn1 5) : rsn K' (rall M) (znn (K 115 11)) 115 11 = zkz M := by
  unfold rsn zkz
  rw [zup_i, h11, rm1_5 (by decide) (by decide) (by decide) (by decide), h.2 11 (by decide), h11]
theorem zj_sense {xs : List Int32} {d : Nat} {n : Int} {M : zM} (hJ : zJo n M) (hn : n + 1 ≤ 600) : zStep xs (d + 12) (d + 13) 105 [.ref 0] 205 [.ref 115] [(1, 1)] 0 True n M := by
  have hI := hJ.k.ci
  have hkb : 0 ≤ zkk M ∧ zkk M < 4 := rkk_b hJ.b
  have hn6 : n ≤ 1000 := by have := zK4 hJ; omega
  obtain ⟨s1, s2, s3⟩ := zsense_c (xs := xs) (d := d) hI
  have hkK : ∀ K : zM, zR6 M K → rkk M (znn (K 115 11)) = zkk M := fun K h6 => by rw [h6.2.2.2.2.1.2.1]; rfl
  by_cases c1 : zok M zn1 (zkk M)
  · refine zsee_w (o := .inr 0) (X := zsT M (zkk M)) (Y := zup (zkpM (zsT M (zkk M)) zn1) zn1 5 (zkz M)) (k := zkk M) (ou := 1) (ov := zkk M) hJ (s1 c1) zSc_T (fun q h => zsT_o (by omega)) (Or.inr ⟨_, rfl⟩) hkb.1 (Or.inr rfl) (zki_senseT hJ.k hn hkb c1) (fun K hKq h6 h39 => ?_)
    have e := hkK K h6
    have hr := fun w : Bool => sp_senseR_0 (xs := xs) (w := w) (d := d + 8) (M := K) hJ.b h6.1 h6.2.2.2.1 h6.2.2.1 h6.2.2.2.2.2 hn6 h6.2.2.2.2.1 h39 (by rw [e]; exact c1)
    rw [e] at hr
    exact ⟨_, rsT0 M K (zkk M), rsn (rsT0 M K (zkk M)) (rall M) (znn (K 115 11)), hr, rEq_T, fun j hj => zwt_T h6.2.2.2.1 hj, Or.inr ⟨_, rfl⟩, by rw [zup_i]; exact rsn_z rEq_T h6.2.2.2.2.1.2.1, Or.inr ⟨rfl, by rw [if_neg (show ¬ (1 : Int) = 2 by decide)]⟩⟩
  · by_cases c2 : zrs M zn1 (zkk M) = 0
    · refine zst_r hJ hn (s2 c1 c2) (zFo_e (by decide)) (zki_R hJ.k) zSc_R (fun K hK h6 h39 h115 => ?_)
      have e := hkK K h6
      have hr := fun w : Bool => sp_senseR_1 (xs := xs) (w := w) (d := d + 8) (M := K) hJ.b h6.1 h6.2.2.2.1 h6.2.2.1 h6.2.2.2.2.2 hn6 h6.2.2.2.2.1 h39 (by rw [e]; exact c1) (by rw [e]; exact c2)
      rw [e] at hr
      exact ⟨_, _, hr, zTy_i, (zup_or (by decide)).trans (rsR_o (by decide) (by decide) (by decide) (by decide)), rSc_tr rSc_z rEq_R.sc, fun _ => Or.inl ⟨_, 1, rfl, by decide, zup_i⟩⟩
    · have h22 := zrs_2 c2
      refine zsee_w (o := .inr 0) (X := zsR M (zkk M)) (Y := zup (zkpM (zsR M (zkk M)) zn1) zn1 5 (zkz M)) (k := zkk M) (ou := zrs M zn1 (zkk M)) (ov := zkk M) hJ (s3 c1 c2) zSc_R (fun q h => zsR_o (by omega) (by omega) (by omega)) (Or.inr ⟨_, rfl⟩) hkb.1 (Or.inr rfl) (zki_senseR hJ.k hn hkb c2) (fun K hKq h6 h39 => ?_)
      have e := hkK K h6
      have hr := fun w : Bool => sp_senseR_2 (xs := xs) (w := w) (d := d + 8) (M := K) hJ.b h6.1 h6.2.2.2.1 h6.2.2.1 h6.2.2.2.2.2 hn6 h6.2.2.2.2.1 h39 (by rw [e]; exact c1) (by rw [e]; exact c2)
      rw [e] at hr
      exact ⟨_, rsR M K (zkk M), rsn (rsR M K (zkk M)) (rall M) (znn (K 115 11)), hr, rEq_R, fun j hj => zwt_R hj, Or.inr ⟨_, rfl⟩, by rw [zup_i]; exact rsn_z rEq_R h6.2.2.2.2.1.2.1, Or.inr ⟨rfl, by rw [if_pos h22]⟩⟩
end
noncomputable section
/-! Both: walls. -/
theorem zsw_o {M : zM} {x v : Int} {q : Nat} (h1 : q ≠ 12) (h2 : q ≠ 102) (h3 : q ≠ 103) (h4 : q ≠ 9) (h5 : ¬ q = 5) (h6 : ¬ q = 3) (h7 : ¬ q = 4) : zswM M x v q = zkpM M zn1 q := by
  have hz1 : zn1 = 1 := rfl
  unfold zswM
  rw [zfg_o h1 h2 h3 h4]
  unfold zcoM
  rw [ztab_or (by omega)]
  unfold zbuM
  rw [zup_or (by omega), zup_or (by omega)]
theorem zsw_3 {M : zM} {x v : Int} {j : Nat} : zswM M x v (zn1 + 2) j = if j = x.toNat then v else M (zn1 + 2) j := by
  unfold zswM
  rw [zfg_o (by decide) (by decide) (by decide) (by decide)]
  unfold zcoM
  rw [ztab_or (by decide)]
  unfold zbuM
  rw [zup_or (by decide), zup_at, zkp_o (by decide)]
theorem zsw_4 {M : zM} {x v : Int} {j : Nat} : zswM M x v (zn1 + 3) j = if j = x.toNat then 1 else M (zn1 + 3) j := by
  unfold zswM
  rw [zfg_o (by decide) (by decide) (by decide) (by decide)]
  unfold zcoM
  rw [ztab_or (by decide)]
  unfold zbuM
  rw [zup_at, zup_or (by decide), zkp_o (by decide)]
theorem zsw_2 {M : zM} {x v : Int} : zswM M x v (zn1 + 1) = M (zn1 + 1) := (zsw_o (by decide) (by decide) (by decide) (by decide) (by decide) (by decide) (by decide)).trans (zkp_o (by decide))
theorem rbu_o {K : zM} {x v : Int} {q : Nat} (h1 : ¬ q = 116) (h2 : ¬ q = 117) : rbuM K x v q = rm1 K q := by
  unfold rbuM
  rw [zup_or h2, zup_or h1]
theorem rbu_116 {K : zM} {x v : Int} {j : Nat} : rbuM K x v 116 j = if j = x.toNat then v else K 116 j := by
  unfold rbuM
  rw [zup_or (by decide), zup_at, rm1_o (by decide) (by decide)]
theorem rbu_117 {K : zM} {x v : Int} {j : Nat} : rbuM K x v 117 j = if j = x.toNat then 1 else K 117 j := by
  unfold rbuM
  rw [zup_at, zup_or (by decide), rm1_o (by decide) (by decide)]
theorem zwall_A {M K : zM} {x v : Int} (h6 : zR6 M K) : rA (zswM M x v) (rbuM K x v) := by
  refine ⟨⟨?_, ?_⟩, fun j hj => ?_⟩
  · rw [rbu_o (by decide) (by decide), rm1_5 (by decide) (by decide) (by decide) (by decide), zsw_2]; exact h6.1.1.1
  · rw [rbu_o (by decide) (by decide), rm1_5 (by decide) (by decide) (by decide) (by decide), zsw_2]; exact h6.1.1.2
  · unfold zsz at hj
    rw [zsw_2] at hj
    rw [rbu_116, zsw_3, h6.1.2 j hj]
theorem zwall_D {M K : zM} {n x y : Int} (hJ : zJo n M) (hn : n + 1 ≤ 600) (h6 : zR6 M K) (h : rswC M x y (K 115 10)) : zBI (n + 1) (zswM M x (if y = 1 then -1 else 0)) zn1 ∧ rA (zswM M x (if y = 1 then -1 else 0)) (rbuM K x (if y = 1 then -1 else 0)) := by
  refine ⟨?_, zwall_A h6⟩
  rcases h with ⟨rfl, hf, ho⟩ | ⟨rfl, hf, h0, h1⟩
  · rw [h6.2.2.2.2.1.1] at ho
    exact (zki_wall hJ.k hn ⟨hf.1, hf.2.1⟩ (Or.inl ⟨if_pos rfl, fun e => ho (Or.inl e), fun e => ho (Or.inr e), hf⟩)).b
  · exact (zki_wall hJ.k hn ⟨h0, h1⟩ (Or.inr ⟨if_neg (by decide), hf⟩)).b
/-- the rows of both behind a wall is built or taken away -/
theorem zwall_6 {M K : zM} {n x v : Int} (hB : zBI n (zswM M x v) zn1) (h6 : zR6 M K) : zR6 (zswM M x v) (rswM (zswM M x v) K x v) := by
  have hA := zwall_A (x := x) (v := v) h6
  obtain ⟨mA, mC, mT, mL, mS, mR⟩ := h6
  have c : ∀ q : Nat, q ≠ 12 → q ≠ 9 → ¬ q = 5 → ¬ q = 3 → ¬ q = 4 → q < 13 → zswM M x v q = M q := fun q a b d e f g => (zsw_o a (by omega) (by omega) b d e f).trans (zkp_o (by omega))
  have r : ∀ q : Nat, ¬ q = 115 → ¬ q = 120 → ¬ q = 122 → ¬ q = 121 → ¬ q = 116 → ¬ q = 117 → ¬ q = 135 → rswM (zswM M x v) K x v q = K q := fun q a b d e f g i => by
    unfold rswM
    rw [rfo_o a, rev_o b d e, rbu_o f g, rm1_o a i]
  have r5 : ∀ j : Nat, ¬ j = 19 → ¬ j = 20 → ¬ j = 21 → ¬ j = 0 → ¬ j = 39 → ¬ j = 40 → ¬ j = 42 → rswM (zswM M x v) K x v 115 j = K 115 j := fun j a b d e f g i => by
    unfold rswM
    rw [rfo_5 a b d, rev_o (by decide) (by decide) (by decide), rbu_o (by decide) (by decide), rm1_5 e f g i]
  refine ⟨rev_fo hA, fun j hj => ?_, ?_, fun j hj => ?_, ?_, rL_0 (c := -1) (by unfold zswM zfgM; exact zclM_8) rfo_i⟩
  · unfold zsz at hj
    rw [zsw_2] at hj
    unfold rswM
    rw [rfo_o (by decide), rev_o (by decide) (by decide) (by decide), rbu_117, zsw_4, mC j hj]
  · exact rT_t (c _ (by decide) (by decide) (by decide) (by decide) (by decide) (by decide)) (c _ (by decide) (by decide) (by decide) (by decide) (by decide) (by decide)) (c _ (by decide) (by decide) (by decide) (by decide) (by decide) (by decide)) (r5 _ (by decide) (by decide) (by decide) (by decide) (by decide) (by decide) (by decide)) (r5 _ (by decide) (by decide) (by decide) (by decide) (by decide) (by decide) (by decide)) (r _ (by decide) (by decide) (by decide) (by decide) (by decide) (by decide) (by decide)) (r _ (by decide) (by decide) (by decide) (by decide) (by decide) (by decide) (by decide)) mT
  · have hE : zE2 (zcoM (zbuM (zkpM M zn1) x v) zn1) (zswM M x v) zn1 := by
      unfold zswM
      exact ⟨(zfg_o (by decide) (by decide) (by decide) (by decide)).symm, (zfg_o (by decide) (by decide) (by decide) (by decide)).symm⟩
    unfold rswM
    rw [rfo_o (by decide), zev_rev hE.ef hj]
    unfold zswM zfgM
    rw [zclM_o (by decide)]
  · have c1 : zswM M x v zn1 = M zn1 := c 1 (by decide) (by decide) (by decide) (by decide) (by decide) (by decide)
    exact rS_t (by rw [c1]) (by rw [c1]) (by rw [c1]) (by rw [c1]) (r5 _ (by decide) (by decide) (by decide) (by decide) (by decide) (by decide) (by decide)) (r5 _ (by decide) (by decide) (by decide) (by decide) (by decide) (by decide) (by decide)) (r5 _ (by decide) (by decide) (by decide) (by decide) (by decide) (by decide) (by decide)) (r5 _ (by decide) (by decide) (by decide) (by decide) (by decide) (by decide) (by decide)) mS
theorem rsw_o {D K : zM} {x v : Int} {q : Nat} (h : q < 115 ∨ q = 127 ∨ 136 ≤ q) : rswM D K x v q = K q := by
  unfold rswM
  rw [rfo_o (by omega), rev_o (by omega) (by omega) (by omega), rbu_o (by omega) (by omega), rm1_o (by omega) (by omega)]
theorem rsw_135 {D K : zM} {x v : Int} : rswM D K x v 135 = rm1 K 135 := by
  unfold rswM
  rw [rfo_o (by decide), rev_o (by decide) (by decide) (by decide), rbu_o (by decide) (by decide)]
theorem rsw_5 {D K : zM} {x v : Int} {j : Nat} (h : ¬ j = 19 ∧ ¬ j = 20 ∧ ¬ j = 21) : rswM D K x v 115 j = rm1 K 115 j := by
  unfold rswM
  rw [rfo_5 h.1 h.2.1 h.2.2, rev_o (by decide) (by decide) (by decide), rbu_o (by decide) (by decide)]
theorem zj_setWall {xs : List Int32} {d : Nat} {n : Int} {M : zM} (hJ : zJo n M) (hn : n + 1 ≤ 600) {x y : Int} (hx : zr32 x) (hy : zr32 y) (hy01 : y = 0 ∨ y = 1) : zStep xs (d + 12) (d + 13) 74 [.ref 0, .int (Int32.ofInt x), .int (Int32.ofInt y)] 162 [.ref 115, .int (Int32.ofInt x), .int (Int32.ofInt y)] [(2, 1), (1, 2)] 0 True n M := by
  have hI := hJ.k.ci
  by_cases c0 : ¬ (0 ≤ x ∧ x < zsz M zn1)
  · exact zst_r hJ hn (fun w => ⟨_, sp_setWallP_0 (d := d + 7) hI hx hy hy01 c0⟩) (zFo_e (by decide)) hJ.k (fun _ _ => rfl) (fun K hK h6 h39 h115 => ⟨_, _, (fun w => sp_setWallR_0 (d := d + 8) (D := zswM M x (if y = 1 then -1 else 0)) (nD := n + 1) hJ.b hx h6.2.2.2.2.1 hy01 h6.1 h39 (fun h => zwall_D hJ hn h6 h) c0), zTy_i, zup_or (by decide), rSc_z, fun _ => Or.inl ⟨_, 1, rfl, by decide, zup_i⟩⟩)
  by_cases c1 : y = 1 ∧ zfree M zn1 x ∧ (zmany M zn1 = 1 ∨ M zn1 4 = x)
  · exact zst_r hJ hn (fun w => ⟨_, sp_setWallP_1 (d := d + 7) hI hx hy hy01 c0 c1⟩) (zFo_e (by decide)) hJ.k (fun _ _ => rfl) (fun K hK h6 h39 h115 => ⟨_, _, (fun w => sp_setWallR_1 (d := d + 8) (D := zswM M x (if y = 1 then -1 else 0)) (nD := n + 1) hJ.b hx h6.2.2.2.2.1 hy01 h6.1 h39 (fun h => zwall_D hJ hn h6 h) c0 (by rw [h6.2.2.2.2.1.1]; exact c1)), zTy_i, zup_or (by decide), rSc_z, fun _ => Or.inl ⟨_, 2, rfl, by decide, zup_i⟩⟩)
  by_cases c2 : y = 1 ∧ ¬ zfree M zn1 x
  · (have h6M := hJ.a; exact zst_w (X := M) hJ (fun w => ⟨_, sp_setWallP_2 (d := d + 7) hI hx hy hy01 c0 c1 c2⟩) (zFo_v zTy_i) (zki_keep hJ.k hn) (fun _ _ => rfl) (fun q a b => rfl) (zkp_o (by decide)) (zkp_o (by decide)) (zkp_o (by decide)) (fun q a => (zkp_o (by omega))) (fun K hQ hKq h6 h39 => ⟨_, _, K, (fun w => sp_setWallR_2 (d := d + 8) (D := zswM M x (if y = 1 then -1 else 0)) (nD := n + 1) hJ.b hx h6.2.2.2.2.1 hy01 h6.1 h39 (fun h => zwall_D hJ hn h6 h) c0 (by rw [h6.2.2.2.2.1.1]; exact c1) c2), zTy_i, (fun q hq => (rm1_o (by omega) (by omega))), rSc_id, ⟨rfl, rfl⟩, ⟨rm1_5 (by decide) (by decide) (by decide) (by decide), rm1_5 (by decide) (by decide) (by decide) (by decide), rm1_5 (by decide) (by decide) (by decide) (by decide)⟩, ⟨(rA_t (by simp (disch := decide) only [zkp_o, rm1_o, rm1_5, hKq]) (by simp (disch := decide) only [zkp_o, rm1_o, rm1_5, hKq]) (by simp (disch := decide) only [zkp_o, rm1_o, rm1_5, hKq]) (by simp (disch := decide) only [zkp_o, rm1_o, rm1_5, hKq]) (by simp (disch := decide) only [zkp_o, rm1_o, rm1_5, hKq]) h6M.1), (rC_t (by simp (disch := decide) only [zkp_o, rm1_o, rm1_5, hKq]) (by simp (disch := decide) only [zkp_o, rm1_o, rm1_5, hKq]) (by simp (disch := decide) only [zkp_o, rm1_o, rm1_5, hKq]) h6M.2.1), (rT_t (by simp (disch := decide) only [zkp_o, rm1_o, rm1_5, hKq]) (by simp (disch := decide) only [zkp_o, rm1_o, rm1_5, hKq]) (by simp (disch := decide) only [zkp_o, rm1_o, rm1_5, hKq]) (by simp (disch := decide) only [zkp_o, rm1_o, rm1_5, hKq]) (by simp (disch := decide) only [zkp_o, rm1_o, rm1_5, hKq]) (by simp (disch := decide) only [zkp_o, rm1_o, rm1_5, hKq]) (by simp (disch := decide) only [zkp_o, rm1_o, rm1_5, hKq]) h6M.2.2.1), (rB_t (by simp (disch := decide) only [zkp_o, rm1_o, rm1_5, hKq]) (by simp (disch := decide) only [zkp_o, rm1_o, rm1_5, hKq]) (by simp (disch := decide) only [zkp_o, rm1_o, rm1_5, hKq]) h6M.2.2.2.1), (rS_t (by simp (disch := decide) only [zkp_o, rm1_o, rm1_5, hKq]) (by simp (disch := decide) only [zkp_o, rm1_o, rm1_5, hKq]) (by simp (disch := decide) only [zkp_o, rm1_o, rm1_5, hKq]) (by simp (disch := decide) only [zkp_o, rm1_o, rm1_5, hKq]) (by simp (disch := decide) only [zkp_o, rm1_o, rm1_5, hKq]) (by simp (disch := decide) only [zkp_o, rm1_o, rm1_5, hKq]) (by simp (disch := decide) only [zkp_o, rm1_o, rm1_5, hKq]) (by simp (disch := decide) only [zkp_o, rm1_o, rm1_5, hKq]) h6M.2.2.2.2.1), (rL_t (by simp (disch := decide) only [zkp_o, rm1_o, rm1_5, hKq]) (fun c => zfr_t (by simp (disch := decide) only [zkp_o, rm1_o, rm1_5, hKq]) (by simp (disch := decide) only [zkp_o, rm1_o, rm1_5, hKq]) c) (by simp (disch := decide) only [zkp_o, rm1_o, rm1_5, hKq]) (by simp (disch := decide) only [zkp_o, rm1_o, rm1_5, hKq]) (by simp (disch := decide) only [zkp_o, rm1_o, rm1_5, hKq]) (by simp (disch := decide) only [zkp_o, rm1_o, rm1_5, hKq]) (by simp (disch := decide) only [zkp_o, rm1_o, rm1_5, hKq]) (by simp (disch := decide) only [zkp_o, rm1_o, rm1_5, hKq]) (by simp (disch := decide) only [zkp_o, rm1_o, rm1_5, hKq]) (by simp (disch := decide) only [zkp_o, rm1_o, rm1_5, hKq]) (by simp (disch := decide) only [zkp_o, rm1_o, rm1_5, hKq]) h6M.2.2.2.2.2)⟩, fun _ => Or.inr ⟨rm1_0, zq_i rfl⟩⟩))
  by_cases c3 : y = 1
  · (have h6M := hJ.a; exact zst_w (X := M) hJ (fun w => ⟨_, sp_setWallP_3 (d := d + 7) hI hx hy hy01 c0 c1 c2 c3⟩) (zFo_v zTy_i) (zki_wall hJ.k hn (Classical.not_not.mp c0) (Or.inl ⟨rfl, fun e => c1 ⟨c3, (Classical.not_not.mp (fun e => c2 ⟨c3, e⟩)), Or.inl e⟩, fun e => c1 ⟨c3, (Classical.not_not.mp (fun e => c2 ⟨c3, e⟩)), Or.inr e⟩, (Classical.not_not.mp (fun e => c2 ⟨c3, e⟩))⟩)) (fun _ _ => rfl) (fun q a b => (zsw_o (by omega) (by omega) (by omega) (by omega) (by omega) (by omega) (by omega))) ((zsw_o (by decide) (by decide) (by decide) (by decide) (by decide) (by decide) (by decide)).trans (zkp_o (by decide))) ((zsw_o (by decide) (by decide) (by decide) (by decide) (by decide) (by decide) (by decide)).trans (zkp_o (by decide))) ((zsw_o (by decide) (by decide) (by decide) (by decide) (by decide) (by decide) (by decide)).trans (zkp_o (by decide))) (fun q a => ((zsw_o (by omega) (by omega) (by omega) (by omega) (by omega) (by omega) (by omega)).trans (zkp_o (by omega)))) (fun K hQ hKq h6 h39 => ⟨_, _, K, (by have e9 : (if y = 1 then (-1 : Int) else 0) = (-1) := if_pos c3; have hr := fun w : Bool => sp_setWallR_3 (xs := xs) (d := d + 8) (w := w) (D := zswM M x (if y = 1 then -1 else 0)) (nD := n + 1) hJ.b hx h6.2.2.2.2.1 hy01 h6.1 h39 (fun h => zwall_D hJ hn h6 h) c0 (by rw [h6.2.2.2.2.1.1]; exact c1) c2 c3; rw [e9] at hr; exact hr), zTy_i, (fun q hq => (rsw_o (by omega))), rSc_id, ⟨by rw [rsw_135], by rw [rsw_5 (by decide)]⟩, ⟨by rw [rsw_5 (by decide), rm1_5 (by decide) (by decide) (by decide) (by decide)], by rw [rsw_5 (by decide), rm1_5 (by decide) (by decide) (by decide) (by decide)], by rw [rsw_5 (by decide), rm1_5 (by decide) (by decide) (by decide) (by decide)]⟩, (zwall_6 (zki_wall hJ.k hn (Classical.not_not.mp c0) (Or.inl ⟨rfl, fun e => c1 ⟨c3, (Classical.not_not.mp (fun e => c2 ⟨c3, e⟩)), Or.inl e⟩, fun e => c1 ⟨c3, (Classical.not_not.mp (fun e => c2 ⟨c3, e⟩)), Or.inr e⟩, (Classical.not_not.mp (fun e => c2 ⟨c3, e⟩))⟩)).b h6), fun _ => Or.inr ⟨(by show rswM _ _ _ _ 115 0 = 0; rw [rsw_5 (by decide), rm1_0]), zq_i rfl⟩⟩))
  by_cases c4 : zfree M zn1 x
  · (have h6M := hJ.a; exact zst_w (X := M) hJ (fun w => ⟨_, sp_setWallP_4 (d := d + 7) hI hx hy hy01 c0 c1 c2 c3 c4⟩) (zFo_v zTy_i) (zki_keep hJ.k hn) (fun _ _ => rfl) (fun q a b => rfl) (zkp_o (by decide)) (zkp_o (by decide)) (zkp_o (by decide)) (fun q a => (zkp_o (by omega))) (fun K hQ hKq h6 h39 => ⟨_, _, K, (fun w => sp_setWallR_4 (d := d + 8) (D := zswM M x (if y = 1 then -1 else 0)) (nD := n + 1) hJ.b hx h6.2.2.2.2.1 hy01 h6.1 h39 (fun h => zwall_D hJ hn h6 h) c0 (by rw [h6.2.2.2.2.1.1]; exact c1) c2 c3 c4), zTy_i, (fun q hq => (rm1_o (by omega) (by omega))), rSc_id, ⟨rfl, rfl⟩, ⟨rm1_5 (by decide) (by decide) (by decide) (by decide), rm1_5 (by decide) (by decide) (by decide) (by decide), rm1_5 (by decide) (by decide) (by decide) (by decide)⟩, ⟨(rA_t (by simp (disch := decide) only [zkp_o, rm1_o, rm1_5, hKq]) (by simp (disch := decide) only [zkp_o, rm1_o, rm1_5, hKq]) (by simp (disch := decide) only [zkp_o, rm1_o, rm1_5, hKq]) (by simp (disch := decide) only [zkp_o, rm1_o, rm1_5, hKq]) (by simp (disch := decide) only [zkp_o, rm1_o, rm1_5, hKq]) h6M.1), (rC_t (by simp (disch := decide) only [zkp_o, rm1_o, rm1_5, hKq]) (by simp (disch := decide) only [zkp_o, rm1_o, rm1_5, hKq]) (by simp (disch := decide) only [zkp_o, rm1_o, rm1_5, hKq]) h6M.2.1), (rT_t (by simp (disch := decide) only [zkp_o, rm1_o, rm1_5, hKq]) (by simp (disch := decide) only [zkp_o, rm1_o, rm1_5, hKq]) (by simp (disch := decide) only [zkp_o, rm1_o, rm1_5, hKq]) (by simp (disch := decide) only [zkp_o, rm1_o, rm1_5, hKq]) (by simp (disch := decide) only [zkp_o, rm1_o, rm1_5, hKq]) (by simp (disch := decide) only [zkp_o, rm1_o, rm1_5, hKq]) (by simp (disch := decide) only [zkp_o, rm1_o, rm1_5, hKq]) h6M.2.2.1), (rB_t (by simp (disch := decide) only [zkp_o, rm1_o, rm1_5, hKq]) (by simp (disch := decide) only [zkp_o, rm1_o, rm1_5, hKq]) (by simp (disch := decide) only [zkp_o, rm1_o, rm1_5, hKq]) h6M.2.2.2.1), (rS_t (by simp (disch := decide) only [zkp_o, rm1_o, rm1_5, hKq]) (by simp (disch := decide) only [zkp_o, rm1_o, rm1_5, hKq]) (by simp (disch := decide) only [zkp_o, rm1_o, rm1_5, hKq]) (by simp (disch := decide) only [zkp_o, rm1_o, rm1_5, hKq]) (by simp (disch := decide) only [zkp_o, rm1_o, rm1_5, hKq]) (by simp (disch := decide) only [zkp_o, rm1_o, rm1_5, hKq]) (by simp (disch := decide) only [zkp_o, rm1_o, rm1_5, hKq]) (by simp (disch := decide) only [zkp_o, rm1_o, rm1_5, hKq]) h6M.2.2.2.2.1), (rL_t (by simp (disch := decide) only [zkp_o, rm1_o, rm1_5, hKq]) (fun c => zfr_t (by simp (disch := decide) only [zkp_o, rm1_o, rm1_5, hKq]) (by simp (disch := decide) only [zkp_o, rm1_o, rm1_5, hKq]) c) (by simp (disch := decide) only [zkp_o, rm1_o, rm1_5, hKq]) (by simp (disch := decide) only [zkp_o, rm1_o, rm1_5, hKq]) (by simp (disch := decide) only [zkp_o, rm1_o, rm1_5, hKq]) (by simp (disch := decide) only [zkp_o, rm1_o, rm1_5, hKq]) (by simp (disch := decide) only [zkp_o, rm1_o, rm1_5, hKq]) (by simp (disch := decide) only [zkp_o, rm1_o, rm1_5, hKq]) (by simp (disch := decide) only [zkp_o, rm1_o, rm1_5, hKq]) (by simp (disch := decide) only [zkp_o, rm1_o, rm1_5, hKq]) (by simp (disch := decide) only [zkp_o, rm1_o, rm1_5, hKq]) h6M.2.2.2.2.2)⟩, fun _ => Or.inr ⟨rm1_0, zq_i rfl⟩⟩))
  (have h6M := hJ.a; exact zst_w (X := M) hJ (fun w => ⟨_, sp_setWallP_5 (d := d + 7) hI hx hy hy01 c0 c1 c2 c3 c4⟩) (zFo_v zTy_i) (zki_wall hJ.k hn (Classical.not_not.mp c0) (Or.inr ⟨rfl, c4⟩)) (fun _ _ => rfl) (fun q a b => (zsw_o (by omega) (by omega) (by omega) (by omega) (by omega) (by omega) (by omega))) ((zsw_o (by decide) (by decide) (by decide) (by decide) (by decide) (by decide) (by decide)).trans (zkp_o (by decide))) ((zsw_o (by decide) (by decide) (by decide) (by decide) (by decide) (by decide) (by decide)).trans (zkp_o (by decide))) ((zsw_o (by decide) (by decide) (by decide) (by decide) (by decide) (by decide) (by decide)).trans (zkp_o (by decide))) (fun q a => ((zsw_o (by omega) (by omega) (by omega) (by omega) (by omega) (by omega) (by omega)).trans (zkp_o (by omega)))) (fun K hQ hKq h6 h39 => ⟨_, _, K, (by have e9 : (if y = 1 then (-1 : Int) else 0) = 0 := if_neg c3; have hr := fun w : Bool => sp_setWallR_5 (xs := xs) (d := d + 8) (w := w) (D := zswM M x (if y = 1 then -1 else 0)) (nD := n + 1) hJ.b hx h6.2.2.2.2.1 hy01 h6.1 h39 (fun h => zwall_D hJ hn h6 h) c0 (by rw [h6.2.2.2.2.1.1]; exact c1) c2 c3 c4; rw [e9] at hr; exact hr), zTy_i, (fun q hq => (rsw_o (by omega))), rSc_id, ⟨by rw [rsw_135], by rw [rsw_5 (by decide)]⟩, ⟨by rw [rsw_5 (by decide), rm1_5 (by decide) (by decide) (by decide) (by decide)], by rw [rsw_5 (by decide), rm1_5 (by decide) (by decide) (by decide) (by decide)], by rw [rsw_5 (by decide), rm1_5 (by decide) (by decide) (by decide) (by decide)]⟩, (zwall_6 (zki_wall hJ.k hn (Classical.not_not.mp c0) (Or.inr ⟨rfl, c4⟩)).b h6), fun _ => Or.inr ⟨(by show rswM _ _ _ _ 115 0 = 0; rw [rsw_5 (by decide), rm1_0]), zq_i rfl⟩⟩))
end
noncomputable section
/-! Both: kept, saved, taken back; the buffer. -/
/-- the places, passed back from a row -/
theorem rvw_rt {M : zM} {p w : Nat} {k : Nat} (hk : k < 467) : rvw (rtS M p w 467) k = M p (w + k) := by
  have s5 : ∀ f i : Nat, rix 115 f = i → i < 467 → rtS M p w 467 115 f = M p (w + i) := fun f i h1 h2 => by
    rw [rtS_i (by omega) (by decide), h1]
  have sq : ∀ (q i j : Nat), rix q j = i → i < 467 → rtS M p w 467 q j = M p (w + i) := fun q i j h1 h2 => by
    rw [rtS_i (by omega) (by decide), h1]
  unfold rvw
  by_cases c : k < 36
  · rw [if_pos c]
    exact sq _ _ _ ((rixi_116 (by omega)).trans (by omega)) hk
  rw [if_neg c]
  by_cases c : k < 72
  · rw [if_pos c]
    exact sq _ _ _ ((rixi_117 (by omega)).trans (by omega)) hk
  rw [if_neg c]
  by_cases c : k < 76
  · rw [if_pos c]
    exact sq _ _ _ ((rixi_118 (by omega)).trans (by omega)) hk
  rw [if_neg c]
  by_cases c : k < 92
  · rw [if_pos c]
    exact sq _ _ _ ((rixi_119 (by omega)).trans (by omega)) hk
  rw [if_neg c]
  by_cases c : k < 128
  · rw [if_pos c]
    exact sq _ _ _ ((rixi_120 (by omega)).trans (by omega)) hk
  rw [if_neg c]
  by_cases c : k < 136
  · rw [if_pos c]
    exact sq _ _ _ ((rixi_123 (by omega)).trans (by omega)) hk
  rw [if_neg c]
  by_cases c : k < 168
  · rw [if_pos c]
    exact sq _ _ _ ((rixi_124 (by omega)).trans (by omega)) hk
  rw [if_neg c]
  by_cases c : k < 456
  · rw [if_pos c]
    exact sq _ _ _ ((rixi_125 (by omega)).trans (by omega)) hk
  rw [if_neg c]
  by_cases c : k = 456
  · rw [if_pos c]
    subst c
    exact s5 _ _ (by rfl) hk
  rw [if_neg c]
  by_cases c : k = 457
  · rw [if_pos c]
    subst c
    exact s5 _ _ (by rfl) hk
  rw [if_neg c]
  by_cases c : k = 458
  · rw [if_pos c]
    subst c
    exact s5 _ _ (by rfl) hk
  rw [if_neg c]
  by_cases c : k = 459
  · rw [if_pos c]
    subst c
    exact s5 _ _ (by rfl) hk
  rw [if_neg c]
  by_cases c : k = 460
  · rw [if_pos c]
    subst c
    exact s5 _ _ (by rfl) hk
  rw [if_neg c]
  by_cases c : k = 461
  · rw [if_pos c]
    subst c
    exact s5 _ _ (by rfl) hk
  rw [if_neg c]
  by_cases c : k = 462
  · rw [if_pos c]
    subst c
    exact s5 _ _ (by rfl) hk
  rw [if_neg c]
  by_cases c : k = 463
  · rw [if_pos c]
    subst c
    exact s5 _ _ (by rfl) hk
  rw [if_neg c]
  by_cases c : k = 464
  · rw [if_pos c]
    subst c
    exact s5 _ _ (by rfl) hk
  rw [if_neg c]
  by_cases c : k = 465
  · rw [if_pos c]
    subst c
    exact s5 _ _ (by rfl) hk
  rw [if_neg c]
  have h : k = 466 := by omega
  subst h
  exact s5 _ _ (by rfl) hk
theorem rix_r {q j : Nat} (h : ¬ zpl1 q) (h5 : ¬ q = 115) : rix q j = 1000 := by
  unfold zpl1 at h
  unfold rix
  rw [if_neg (by omega), if_neg (by omega), if_neg (by omega), if_neg (by omega), if_neg (by omega), if_neg (by omega), if_neg (by omega), if_neg (by omega), if_neg (by omega), if_neg (by omega), if_neg (by omega), if_neg (by omega), if_neg (by omega), if_neg (by omega), if_neg (by omega), if_neg (by omega), if_neg (by omega), if_neg (by omega), if_neg (by omega)]
theorem rix_r5 {j : Nat} (h : ¬ zpl5 j) : rix 115 j = 1000 := by
  unfold zpl5 at h
  unfold rix
  rw [if_neg (by omega), if_neg (by omega), if_neg (by omega), if_neg (by omega), if_neg (by omega), if_neg (by omega), if_neg (by omega), if_neg (by omega), if_neg (by omega), if_neg (by omega), if_neg (by omega), if_neg (by omega), if_neg (by omega), if_neg (by omega), if_neg (by omega), if_neg (by omega), if_neg (by omega), if_neg (by omega), if_neg (by omega)]
theorem rtS_q {M : zM} {p w q : Nat} (h : ¬ zpl1 q) (h5 : ¬ q = 115) : rtS M p w 467 q = M q := by
  funext j
  exact rtS_o (by rw [rix_r h h5]; decide) (fun e => h5 e.1) (fun e => h5 e.1)
theorem rtS_5 {M : zM} {p w j : Nat} (h : ¬ zpl5 j) (h2 : ¬ j = 42) (h3 : ¬ j = 40) : rtS M p w 467 115 j = M 115 j := rtS_o (by rw [rix_r5 h]; decide) (fun e => h2 e.2) (fun e => h3 e.2)
theorem ztb_o {M : zM} {q : Nat} (h : 13 ≤ q ∨ q = 0) (h25 : ¬ q = 25) : ztbM M zn1 q = M q := by
  unfold ztbM
  rw [zcpM_o (by have : zn1 = 1 := rfl; omega), zup_or h25]
theorem ztb_25 {M : zM} {j : Nat} : ztbM M zn1 25 j = if j = 2 then M 25 2 - 1 else M 25 j := by
  unfold ztbM
  rw [zcpM_o (by have : zn1 = 1 := rfl; omega), zup_at]
theorem zj_undo {xs : List Int32} {d : Nat} {n : Int} {M : zM} (hJ : zJo n M) (hn : n + 1 ≤ 600) : zStep xs (d + 12) (d + 13) 109 [.ref 0] 213 [.ref 115] [(1, 1)] 0 True n M := by
  have hI := hJ.k.ci
  have hch := hJ.k.ch.2
  by_cases c0 : M 25 2 = 0
  · exact zst_r hJ hn (fun w => ⟨_, sp_undoP_0 (d := d + 8) hI c0⟩) (zFo_e (by decide)) hJ.k (fun _ _ => rfl) (fun K hK h6 h39 h115 => ⟨_, _, fun w => sp_undoR_0 (d := d + 10) h39 (by rw [h115, hJ.x.1.1]; exact c0), zTy_i, zup_or (by decide), rSc_z, fun _ => Or.inl ⟨_, 1, rfl, by decide, zup_i⟩⟩)
  · refine ⟨_, _, fun w => ⟨_, sp_undoP_1 (d := d + 8) hI c0⟩, zFo_v zTy_i, fun K hQ => ?_⟩
    have hx : ∀ q : Nat, 115 ≤ q → q < 137 → K q = M q := fun q a b => (hQ q b).trans (ztb_o (Or.inl (by omega)) (by omega))
    have e115 := hx 115 (by decide) (by decide)
    have h39 : K 115 39 = M 25 2 := by rw [e115]; exact hJ.x.1.1
    have hKu := zki_undo hJ.k c0
    have ru : ∀ q : Nat, ¬ zpl1 q → ¬ q = 115 → runM K q = K q := fun q a b => by
      unfold runM ruM
      rw [rtS_q a b, zup_or b, zup_or b]
    have ru5 : ∀ j : Nat, ¬ zpl5 j → ¬ j = 42 → ¬ j = 40 → ¬ j = 39 → ¬ j = 0 → runM K 115 j = K 115 j := fun j a b c d e => by
      unfold runM ruM
      rw [rtS_5 a b c, zup_ne d, zup_ne e]
    have hc : ∀ q : Nat, q < 115 → runM K q = ztbM M zn1 q := fun q h => (ru q (by unfold zpl1; omega) (by omega)).trans (hQ q (by omega))
    have hJ2 : zJo n (runM K) := by
      have hsl : ∀ i : Int, zslo (ztbM M zn1) i = zslo M i := fun i => by unfold zslo; rw [ztb_25]; rfl
      have hi0 : (((M 25 2 - 1).toNat : Nat) : Int) = M 25 2 - 1 := by omega
      have hst := zslo_st M (M 25 2 - 1)
      have hbe : zBE (ztbM M zn1) zn1 M (zslo M (M 25 2 - 1)) := fun o j hs => by
        unfold ztbM
        rw [ztb_sl, zcpM_i hzn1 hst (by have h27 : 27 ≤ zslo M (M 25 2 - 1) := (by unfold zslo zring; omega); have : zn1 = 1 := rfl; omega) hs, zup_or (by have := zslot_lt hs; have h27 : 27 ≤ zslo M (M 25 2 - 1) := (by unfold zslo zring; omega); omega)]
      have hr := hJ.r (M 25 2 - 1).toNat (by omega)
      rw [hi0] at hr
      have hV : rV (rvw (runM K)) (ztbM M zn1) zn1 := by
        refine rV_c hbe (hJ.k.r _ (by omega) (by omega)).g (fun k hk => ?_) hr
        have e1 : runM K = rtS (ruM K) 135 (512 * (M 25 2 - 1).toNat) 467 := by
          unfold runM
          rw [h39, show (512 * (M 25 2 - 1)).toNat = 512 * (M 25 2 - 1).toNat by omega]
        have e2 : ruM K 135 = M 135 := by unfold ruM; rw [zup_or (by decide), zup_or (by decide), hx _ (by decide) (by decide)]
        rw [e1, rvw_rt hk, e2]
      have hK2 : zKI n (runM K) := zKI_f hKu (fun q a b => by rw [hc q (by omega)]) (by rw [hc 0 (by decide)]) (zKX_c hKu.x (fun q a b _ _ => hc q b) (by rw [hc 0 (by decide)]) (by rw [hc 0 (by decide)]))
      have e25 : runM K 25 2 = M 25 2 - 1 := by rw [hc 25 (by decide), ztb_25, if_pos rfl]
      refine ⟨hK2, rV_c (zBE_q (fun q a b => hc q (by have : zn1 = 1 := rfl; omega))) hKu.b.g (fun _ _ => rfl) hV, fun hs => ?_, fun i hi => ?_, ⟨⟨?_, ?_, ?_⟩, ?_, ?_⟩⟩
      · have hs' : M 0 2 = 1 := by rw [hc 0 (by decide), ztb_o (by omega) (by decide)] at hs; exact hs
        rw [ru 136 (by unfold zpl1; omega) (by decide), hx 136 (by decide) (by decide)]
        exact rV_c (zBE_q (fun q a b => (hc q (by have : zn13 = 13 := rfl; omega)).trans (ztb_o (by have : zn13 = 13 := rfl; omega) (by have : zn13 = 13 := rfl; omega)))) (hJ.k.s hs').g (fun _ _ => rfl) (hJ.s hs')
      · rw [e25] at hi
        have es : zslo (runM K) (i : Int) = zslo M (i : Int) := by
          have h1 : runM K 25 1 = M 25 1 := by rw [hc 25 (by decide), ztb_25, if_neg (by decide)]
          unfold zslo
          rw [h1]
        have hst2 := zSt_le (zslo_st M (i : Int))
        have h27 : 27 ≤ zslo M (i : Int) := by unfold zslo zring; omega
        rw [es, ru 135 (by unfold zpl1; omega) (by decide), hx 135 (by decide) (by decide)]
        exact rV_c (zBE_q (fun q a b => (hc q (by omega)).trans (ztb_o (by omega) (by omega)))) (hJ.k.r _ (by omega) (by omega)).g (fun _ _ => rfl) (hJ.r i (by omega))
      · rw [runM_39, h39, e25]
      · rw [ru5 41 (by unfold zpl5; omega) (by decide) (by decide) (by decide) (by decide), e115, hc 0 (by decide), ztb_o (by omega) (by decide)]; exact hJ.x.1.2.1
      · rw [ru5 30 (by unfold zpl5; omega) (by decide) (by decide) (by decide) (by decide), e115, hc 0 (by decide), ztb_o (by omega) (by decide)]; exact hJ.x.1.2.2
      · rw [ru5 26 (by unfold zpl5; omega) (by decide) (by decide) (by decide) (by decide), e115, hc 99 (by decide), ztb_o (by omega) (by decide)]; exact hJ.x.2.1
      · rw [ru 127 (by unfold zpl1; omega) (by decide), hx 127 (by decide) (by decide), hc 99 (by decide), ztb_o (by omega) (by decide), hc 100 (by decide), ztb_o (by omega) (by decide)]; exact hJ.x.2.2
    refine ⟨_, _, fun w => sp_undoR_1 (d := d + 10) (by rw [h39]; exact hch) (by rw [h39]; exact c0), zTy_i, ru 137 (by unfold zpl1; omega) (by decide), zJo_n hJ2 (by omega) hn, fun _ => Or.inr ⟨?_, zq_i ?_⟩⟩
    · unfold runM ruM
      rw [rtS_5 (by unfold zpl5; omega) (by decide) (by decide), zup_ne (by decide), zup_i]
    · rw [ztb_25, if_pos rfl, h39]
theorem rSave_v {K : zM} {k : Nat} (hk : k < 467) : rsvM K 136 k = rvw K k := by
  unfold rsvM rkS
  rw [zup_or (by decide), zup_or (by decide)]
  have h := ztao_i (M := zup (zup K 115 0 0) 115 41 1) (q := 136) (o := 0) (n := 467) (j := k) (F := rvw (zup (zup K 115 0 0) 115 41 1)) hk
  rw [Nat.zero_add] at h
  rw [h]
  exact rvw_c (fun j hj => by rw [zup_ne (by unfold zpl5 at hj; omega), zup_ne (by unfold zpl5 at hj; omega)]) (fun q hq => by rw [zup_or (by unfold zpl1 at hq; omega), zup_or (by unfold zpl1 at hq; omega)]) k
theorem rsv_o {K : zM} {q : Nat} (h : ¬ q = 115) (h2 : ¬ q = 136) : rsvM K q = K q := by
  unfold rsvM
  rw [rkS_o h2 h, zup_or h, zup_or h]
theorem rsv_5 {K : zM} {j : Nat} (h : ¬ j = 40) (h2 : ¬ j = 42) (h3 : ¬ j = 41) (h4 : ¬ j = 0) : rsvM K 115 j = K 115 j := by
  unfold rsvM
  rw [rkS_5 (Or.inr rfl) h h2, zup_ne h3, zup_ne h4]
theorem zsv_o {M : zM} {q : Nat} (h : q < 13 ∨ 25 ≤ q) (h0 : ¬ q = 0) : zup (zcpM M zn13 zn1) 0 2 1 q = M q := by
  rw [zup_or h0, zcpM_o (by have : zn13 = 13 := rfl; omega)]
theorem zj_save {xs : List Int32} {d : Nat} {n : Int} {M : zM} (hJ : zJo n M) (hn : n + 1 ≤ 600) : zStep xs (d + 13) (d + 13) 110 [.ref 0] 214 [.ref 115] [] 0 True n M := by
  have hI := hJ.k.ci
  refine ⟨_, _, fun w => ⟨_, sp_saveP (d := d + 10) hI⟩, zFo_v zTy_i, fun K hQ => ?_⟩
  have hx : ∀ q : Nat, 115 ≤ q → q < 137 → K q = M q := fun q a b => (hQ q b).trans (zsv_o (by omega) (by omega))
  have e115 := hx 115 (by decide) (by decide)
  obtain ⟨hA, hC, hT, hL, hS, hR⟩ := zJo_A hJ hx
  have hKs := zki_save hJ.k
  have h0j : ∀ j : Nat, ¬ j = 2 → zup (zcpM M zn13 zn1) 0 2 1 0 j = M 0 j := fun j h => by rw [zup_ne h, zcpM_o (by have : zn13 = 13 := rfl; omega)]
  have hc : ∀ q : Nat, q < 115 → rsvM K q = zup (zcpM M zn13 zn1) 0 2 1 q := fun q h => (rsv_o (by omega) (by omega)).trans (hQ q (by omega))
  have hvK : ∀ k, rvw K k = rvw M k := rvw_c (fun j _ => by rw [e115]) (fun q hq => hx q (by unfold zpl1 at hq; omega) (by unfold zpl1 at hq; omega))
  have hv2 : ∀ k, rvw (rsvM K) k = rvw M k := fun k => (rvw_c (fun j hj => rsv_5 (by unfold zpl5 at hj; omega) (by unfold zpl5 at hj; omega) (by unfold zpl5 at hj; omega) (by unfold zpl5 at hj; omega)) (fun q hq => rsv_o (by unfold zpl1 at hq; omega) (by unfold zpl1 at hq; omega)) k).trans (hvK k)
  have hJ2 : zJo n (rsvM K) := by
    have hK2 : zKI n (rsvM K) := zKI_f hKs (fun q a b => by rw [hc q (by omega)]) (by rw [hc 0 (by decide)]) (zKX_c hKs.x (fun q a b _ _ => hc q b) (by rw [hc 0 (by decide)]) (by rw [hc 0 (by decide)]))
    have e25 : rsvM K 25 = M 25 := (hc 25 (by decide)).trans (zsv_o (by omega) (by decide))
    refine ⟨hK2, ?_, fun hs => ?_, fun i hi => ?_, ⟨⟨?_, ?_, ?_⟩, ?_, ?_⟩⟩
    · exact rV_c (zBE_q (fun q a b => (hc q (by have : zn1 = 1 := rfl; omega)).trans (zsv_o (by have : zn1 = 1 := rfl; omega) (by have : zn1 = 1 := rfl; omega)))) hJ.b.g (fun k _ => hv2 k) hJ.v
    · have hbe : zBE (rsvM K) zn13 M zn1 := fun o j hs => by
        rw [hc (zn13 + o) (by have := zslot_lt hs; have : zn13 = 13 := rfl; omega), zup_or (by have : zn13 = 13 := rfl; omega), zcpM_i (by unfold zSt; decide) hzn1 (by decide) hs]
      exact rV_c hbe hJ.b.g (fun k hk => (rSave_v hk).trans (hvK k)) hJ.v
    · rw [e25] at hi
      have es : zslo (rsvM K) (i : Int) = zslo M (i : Int) := by unfold zslo; rw [e25]
      have hst2 := zSt_le (zslo_st M (i : Int))
      have h27 : 27 ≤ zslo M (i : Int) := by unfold zslo zring; omega
      rw [es, rsv_o (show ¬ 135 = 115 by decide) (by decide), hx 135 (by decide) (by decide)]
      exact rV_c (zBE_q (fun q a b => (hc q (by omega)).trans (zsv_o (by omega) (by omega)))) (hJ.k.r _ (by omega) hi).g (fun _ _ => rfl) (hJ.r i hi)
    · rw [rsv_5 (by decide) (by decide) (by decide) (by decide), e115, e25]; exact hJ.x.1.1
    · have e1 : rsvM K 115 41 = 1 := by
        unfold rsvM
        rw [rkS_5 (Or.inr rfl) (by decide) (by decide), zup_i]
      rw [e1, hc 0 (by decide), zup_i]
    · rw [rsv_5 (by decide) (by decide) (by decide) (by decide), e115, hc 0 (by decide), h0j 5 (by decide)]; exact hJ.x.1.2.2
    · rw [rsv_5 (by decide) (by decide) (by decide) (by decide), e115, hc 99 (by decide), zsv_o (by omega) (by decide)]; exact hJ.x.2.1
    · rw [rsv_o (show ¬ 127 = 115 by decide) (by decide), hx 127 (by decide) (by decide), hc 99 (by decide), zsv_o (by omega) (by decide), hc 100 (by decide), zsv_o (by omega) (by decide)]; exact hJ.x.2.2
  refine ⟨_, _, fun w => sp_saveR (d := d + 9) hJ.b hA, zTy_i, rsv_o (by decide) (by decide), zJo_n hJ2 (by omega) hn, fun _ => Or.inr ⟨?_, zq_i ?_⟩⟩
  · unfold rsvM
    rw [rkS_5 (Or.inr rfl) (by decide) (by decide), zup_ne (by decide), zup_i]
  · exact zmany_c (show zE2 _ M zn1 from ⟨zsv_o (by decide) (by decide), zsv_o (by decide) (by decide)⟩)
theorem zre_o {M : zM} {q : Nat} (h : 13 ≤ q ∨ q = 0) : zcpM (zkpM M zn1) zn1 zn13 q = zkpM M zn1 q := zcpM_o (by have : zn1 = 1 := rfl; omega)
theorem zj_restore {xs : List Int32} {d : Nat} {n : Int} {M : zM} (hJ : zJo n M) (hn : n + 1 ≤ 600) : zStep xs (d + 12) (d + 13) 111 [.ref 0] 215 [.ref 115] [(1, 1)] 0 True n M := by
  have hI := hJ.k.ci
  have hk13 : M 0 2 = 1 → zGr M zn13 := fun e => (hJ.k.s e).g
  have h01 := hJ.k.x.k
  have h41 : ∀ K : zM, K 115 = M 115 → K 115 41 = M 0 2 := fun K h => by rw [h]; exact hJ.x.1.2.1
  by_cases c0 : M 0 2 = 0
  · exact zst_r hJ hn (fun w => ⟨_, sp_restoreP_0 (d := d + 8) hI hk13 c0⟩) (zFo_e (by decide)) hJ.k (fun _ _ => rfl) (fun K hK h6 h39 h115 => ⟨_, _, fun w => sp_restoreR_0 (d := d + 9) (C := M) hJ.b h39 (by rw [h41 K h115]; exact h01) (fun e => by rw [h41 K h115] at e; omega) (by rw [h41 K h115]; exact c0), zTy_i, zup_or (by decide), rSc_z, fun _ => Or.inl ⟨_, 1, rfl, by decide, zup_i⟩⟩)
  · have c1 : M 0 2 = 1 := by omega
    have hKr := zki_restore hJ.k hn c1
    have h6M : ∀ K : zM, (∀ q : Nat, 115 ≤ q ∧ q < 137 → K q = M q) → zR6 (zcpM (zkpM M zn1) zn1 zn13) (rreM K) := fun K hKq => by
      refine rV_to hKr.b ?_
      have hbe : zBE (zcpM (zkpM M zn1) zn1 zn13) zn1 M zn13 := fun o j hs => by
        rw [zcpM_i hzn1 (by unfold zSt; decide) (by decide) hs, zkp_o (by have := zslot_lt hs; have : zn13 = 13 := rfl; omega)]
      refine rV_c hbe (hJ.k.s c1).g (fun k hk => ?_) (hJ.s c1)
      unfold rreM
      rw [rvw_rt hk, Nat.zero_add, remM_o (by decide) (by decide), zup_or (by decide), hKq _ (by decide)]
    have rr : ∀ (K : zM) (q : Nat), ¬ zpl1 q → ¬ q = 115 → rreM K q = rm1 K q := fun K q a b => by
      unfold rreM
      rw [rtS_q a b]
      rfl
    have rr5 : ∀ (K : zM) (j : Nat), ¬ zpl5 j → ¬ j = 42 → ¬ j = 40 → rreM K 115 j = rm1 K 115 j := fun K j a b c => by
      unfold rreM
      rw [rtS_5 a b c]
      rfl
    exact zst_w (X := M) hJ (fun w => ⟨_, sp_restoreP_1 (d := d + 8) hI hk13 c0⟩) (zFo_v zTy_i) hKr (fun _ _ => rfl) (fun q a b => zre_o (by omega)) ((zre_o (by omega)).trans (zkp_o (by decide))) ((zre_o (by omega)).trans (zkp_o (by decide))) ((zre_o (by omega)).trans (zkp_o (by decide))) (fun q a => (zre_o (by omega)).trans (zkp_o (by omega))) (fun K hQ hKq h6 h39 => ⟨_, _, K, fun w => sp_restoreR_1 (d := d + 9) (C := zcpM (zkpM M zn1) zn1 zn13) hKr.b h39 (by rw [h41 K (hKq 115 (by decide))]; exact h01) (fun _ => (h6M K hKq).1) (by rw [h41 K (hKq 115 (by decide))]; exact c0), zTy_i, (fun q hq => by rw [rr K q (by unfold zpl1; omega) (by omega), rm1_o (by omega) (by omega)]), rSc_id, ⟨rr K 135 (by unfold zpl1; omega) (by decide), rr5 K 39 (by unfold zpl5; omega) (by decide) (by decide)⟩, ⟨by rw [rr5 K _ (by unfold zpl5; omega) (by decide) (by decide), rm1_5 (by decide) (by decide) (by decide) (by decide)], by rw [rr5 K _ (by unfold zpl5; omega) (by decide) (by decide), rm1_5 (by decide) (by decide) (by decide) (by decide)], by rw [rr5 K _ (by unfold zpl5; omega) (by decide) (by decide), rm1_5 (by decide) (by decide) (by decide) (by decide)]⟩, h6M K hKq, fun _ => Or.inr ⟨by rw [rr5 K _ (by unfold zpl5; omega) (by decide) (by decide), rm1_0], rfl⟩⟩)
/-- the buffers of both -/
theorem zad_2 {M K : zM} {x : Int} (hu : zBu M) (e26 : K 115 26 = M 99 1) (e127 : ∀ j : Nat, (j : Int) < M 99 1 → K 127 j = M 100 j) (hs : M 99 1 + zsgn x ≤ 45) : ∀ i : Nat, i ≤ 4 → zadM M x i 99 1 = M 99 1 + zcount (zsgp x) i ∧ radM K x i 115 26 = M 99 1 + zcount (zsgp x) i ∧ ∀ j : Nat, (j : Int) < M 99 1 + zcount (zsgp x) i → radM K x i 127 j = zadM M x i 100 j
  | 0, _ => ⟨(Int.add_zero _).symm, e26.trans (Int.add_zero _).symm, fun j hj => e127 j (by have : (j : Int) < M 99 1 + 0 := hj; omega)⟩
  | i + 1, hi => by
    obtain ⟨h1, h2, h3⟩ := zad_2 hu e26 e127 hs i (by omega)
    obtain ⟨⟨u1, u2⟩, u3⟩ := hu
    have hb := zcount_b (zsgp x) i
    have hcs : zcount (zsgp x) (i + 1) = zcount (zsgp x) i + zb (zsgp x i) := rfl
    have hle := zcount_le (P := zsgp x) (i + 1) 4 hi
    have h4 : zsgn x = zcount (zsgp x) 4 := rfl
    show zput (zadM M x i) (zby x (i : Int)) 99 1 = _ ∧ rput (radM K x i) (zby x (i : Int)) 115 26 = _ ∧ ∀ j : Nat, (j : Int) < _ → rput (radM K x i) (zby x (i : Int)) 127 j = zput (zadM M x i) (zby x (i : Int)) 100 j
    unfold zput rput
    by_cases hz : zby x (i : Int) = 0
    · have e : zb (zsgp x i) = 0 := zb_f (fun e => e hz)
      rw [if_pos (Or.inl hz), if_pos hz, hcs, e, Int.add_zero]
      exact ⟨h1, h2, h3⟩
    · have e : zb (zsgp x i) = 1 := zb_t (show zsgp x i from hz)
      rw [if_neg (show ¬ (zby x (i : Int) = 0 ∨ ¬ zadM M x i 99 1 < 45) from fun h => h.elim hz (fun h => h (by omega))), if_neg hz, hcs, e]
      refine ⟨by rw [zup_i, zup_o (by omega), h1, Int.add_assoc], by rw [zup_i, h2, Int.add_assoc], fun j hj => ?_⟩
      rw [zup_o (show ¬ (100 = 99 ∧ j = 1) by omega), zup_o (show ¬ (127 = 115 ∧ j = 26) by omega), zup_at, zup_at, h1, h2]
      split
      · rfl
      · exact h3 j (by omega)
theorem rad_o {K : zM} {x : Int} {q : Nat} (h : ¬ q = 115) (h2 : ¬ q = 127) : ∀ i, radM K x i q = K q
  | 0 => rfl
  | i + 1 => by
    show rput (radM K x i) _ q = _
    unfold rput
    split
    · exact rad_o h h2 i
    · rw [zup_or h, zup_or h2]
      exact rad_o h h2 i
theorem rad_5 {K : zM} {x : Int} {j : Nat} (h : ¬ j = 26) : ∀ i, radM K x i 115 j = K 115 j
  | 0 => rfl
  | i + 1 => by
    show rput (radM K x i) _ 115 j = _
    unfold rput
    split
    · exact rad_5 h i
    · rw [zup_ne h, zup_or (by decide)]
      exact rad_5 h i
theorem zj_append {xs : List Int32} {d : Nat} {n : Int} {M : zM} (hJ : zJo n M) (hn : n + 1 ≤ 600) {x : Int} (hx : zr32 x) : zStep xs (d + 12) (d + 13) 71 [.ref 0, .int (Int32.ofInt x)] 157 [.ref 115, .int (Int32.ofInt x)] [(0, 1), (1, 2)] 0 True n M := by
  have hI := hJ.k.ci
  have hu := hJ.k.x.bu
  have h26 : ∀ K : zM, K 115 = M 115 → K 115 26 = M 99 1 := fun K h => by rw [h]; exact hJ.x.2.1
  by_cases c0 : ¬ zprn x
  · exact zst_r hJ hn (fun w => ⟨_, sp_appendP_0 (d := d + 10) hI hx c0⟩) (zFo_e (by decide)) hJ.k (fun _ _ => rfl) (fun K hK h6 h39 h115 => by
      have e : rapM K x = zup K 115 0 1 := if_neg c0
      have hr := fun w : Bool => sp_appendR (xs := xs) (d := d + 11) (w := w) (M := K) (x := x) (by rw [h26 K h115]; exact hu.1)
      rw [e] at hr
      exact ⟨_, _, hr, zTy_i, zup_or (by decide), rSc_z, fun _ => Or.inl ⟨_, 1, rfl, by decide, zup_i⟩⟩)
  have hp := Classical.not_not.mp c0
  by_cases c1 : 45 < M 99 1 + zsgn x
  · exact zst_r hJ hn (fun w => ⟨_, sp_appendP_1 (d := d + 10) hI hx c0 c1⟩) (zFo_e (by decide)) hJ.k (fun _ _ => rfl) (fun K hK h6 h39 h115 => by
      have e : rapM K x = zup K 115 0 2 := (if_pos hp).trans (if_pos (by rw [h26 K h115]; exact c1))
      have hr := fun w : Bool => sp_appendR (xs := xs) (d := d + 11) (w := w) (M := K) (x := x) (by rw [h26 K h115]; exact hu.1)
      rw [e] at hr
      exact ⟨_, _, hr, zTy_i, zup_or (by decide), rSc_z, fun _ => Or.inl ⟨_, 2, rfl, by decide, zup_i⟩⟩)
  · refine ⟨_, _, fun w => ⟨_, sp_appendP_2 (d := d + 10) hI hx c0 c1⟩, zFo_v zTy_i, fun K hQ => ?_⟩
    have hxx : ∀ q : Nat, 115 ≤ q → q < 137 → K q = M q := fun q a b => (hQ q b).trans (zad_o (by omega) (by omega) 4)
    have e115 := hxx 115 (by decide) (by decide)
    have e : rapM K x = radM (zup K 115 0 0) x 4 := (if_pos hp).trans (if_neg (by rw [h26 K e115]; exact c1))
    have eo : rapO K x = M 99 1 + zsgn x := ((if_pos hp).trans (if_neg (by rw [h26 K e115]; exact c1))).trans (by rw [h26 K e115])
    have hr := fun w : Bool => sp_appendR (xs := xs) (d := d + 11) (w := w) (M := K) (x := x) (by rw [h26 K e115]; exact hu.1)
    rw [e, eo] at hr
    obtain ⟨b1, b2, b3⟩ := zad_2 (M := M) (K := zup K 115 0 0) (x := x) hu (by rw [zup_ne (by decide), h26 K e115]) (fun j hj => by rw [zup_or (by decide), hxx 127 (by decide) (by decide)]; exact hJ.x.2.2 j hj) (by omega) 4 (by decide)
    have ro : ∀ q : Nat, ¬ q = 115 → ¬ q = 127 → radM (zup K 115 0 0) x 4 q = K q := fun q a b => (rad_o a b 4).trans (zup_or a)
    have r5 : ∀ j : Nat, ¬ j = 26 → ¬ j = 0 → radM (zup K 115 0 0) x 4 115 j = K 115 j := fun j a b => (rad_5 a 4).trans (zup_ne b)
    have hc : ∀ q : Nat, q < 115 → radM (zup K 115 0 0) x 4 q = zadM M x 4 q := fun q h => (ro q (by omega) (by omega)).trans (hQ q (by omega))
    have hz : ∀ q : Nat, q < 99 → zadM M x 4 q = M q := fun q h => zad_o (by omega) (by omega) 4
    have hJ2 : zJo n (radM (zup K 115 0 0) x 4) := by
      refine zJo_r hJ (zki_append hJ.k) hc (fun q a b => hz q b) (by rw [hz 0 (by decide)]) (fun q a b => zad_o (by omega) (by omega) 4) (fun q hq => (ro q (by unfold zpl1 at hq; omega) (by unfold zpl1 at hq; omega)).trans (hQ q (by unfold zpl1 at hq; omega))) (fun j hj => (r5 j (by unfold zpl5 at hj; omega) (by unfold zpl5 at hj; omega)).trans (by rw [hQ 115 (by decide)])) ⟨⟨?_, ?_, ?_⟩, ?_, ?_⟩
      · rw [r5 39 (by decide) (by decide), e115, hc 25 (by decide), hz 25 (by decide)]; exact hJ.x.1.1
      · rw [r5 41 (by decide) (by decide), e115, hc 0 (by decide), hz 0 (by decide)]; exact hJ.x.1.2.1
      · rw [r5 30 (by decide) (by decide), e115, hc 0 (by decide), hz 0 (by decide)]; exact hJ.x.1.2.2
      · rw [hc 99 (by decide), b1, b2]
      · rw [hc 99 (by decide), b1, hc 100 (by decide)]
        exact b3
    exact ⟨_, _, hr, zTy_i, ro 137 (by decide) (by decide), zJo_n hJ2 (by omega) hn, fun _ => Or.inr ⟨(rad_5 (by decide) 4).trans zup_i, zq_i b1⟩⟩
end
noncomputable section
/-! Both: load. -/
theorem rtk_cB {B B' : zF} : ∀ (k : Nat) (i n f : Int) (M : zM), 0 ≤ i → (∀ j : Int, i ≤ j → j < i + (k : Int) → B' j.toNat = B j.toNat) → rtk B' k i n f M = rtk B k i n f M
  | 0, _, _, _, _, _, _ => rfl
  | k + 1, i, n, f, M, hi, h => by
    have e := h i (Int.le_refl _) (by omega)
    have ih := fun n' f' M' => rtk_cB (B := B) (B' := B') k (i + 1) n' f' M' (by omega) (fun j a b => h j (by omega) (by omega))
    unfold rtk
    rw [e, ih, ih]
theorem zmn {x : Int} {r c w c' : Int} (hw : 1 ≤ w) (h : r < x) (hc : c' < w) (hc0 : 0 ≤ c) : r * w + c' < x * w + c := by
  have h1 : (r + 1) * w ≤ x * w := Int.mul_le_mul_of_nonneg_right (by omega) (by omega)
  rw [Int.add_mul, Int.one_mul] at h1
  omega
/-- both go over the text side by side -/
theorem zlock {B : zF} {a : Nat} {L : Int} (hL : L ≤ 45) : ∀ (k : Nat) (i w h c f v t : Int) (P R : zM), 0 ≤ i → i + k = L → zwp w h c v t → R 115 27 = i → R 115 29 = h - 1 → R 115 28 = (if w = 0 then 6 else w) →
    (∀ r c' : Int, 0 ≤ r → 0 ≤ c' → (r < h - 1 ∧ c' < w ∨ r = h - 1 ∧ c' < c) → R 128 (6 * r + c').toNat = P (a + 2) (r * w + c').toNat) → (∀ j : Nat, (j : Int) < t → P (a + 3) j = 1) →
    (zferr B L k i w h c f = -1 → (rtk B k i c f R).2 = 1 ∧ (rtk B k i c f R).1 115 28 = (zwt B a k i h v t P).2.2 ∧ (rtk B k i c f R).1 115 29 = (zwt B a k i h v t P).2.1 ∧ (∀ r c' : Int, 0 ≤ r → r < (zwt B a k i h v t P).2.1 → 0 ≤ c' → c' < (zwt B a k i h v t P).2.2 → (rtk B k i c f R).1 128 (6 * r + c').toNat = (zwt B a k i h v t P).1 (a + 2) (r * (zwt B a k i h v t P).2.2 + c').toNat) ∧ ∀ j : Nat, (j : Int) < (zwt B a k i h v t P).2.2 * (zwt B a k i h v t P).2.1 → (zwt B a k i h v t P).1 (a + 3) j = 1) ∧ (¬ zferr B L k i w h c f = -1 → (rtk B k i c f R).2 = 0 ∧ (rtk B k i c f R).1 115 27 = zferr B L k i w h c f)
  | 0, i, w, h, c, f, v, t, P, R, hi, hk, hp, h27, h29, h28, hcel, hcost => by
    have hb := zwp_b hp
    have hk0 : i + ((0 : Nat) : Int) = L := hk
    unfold zferr
    by_cases hx : ¬ f = 0 ∧ zfull c w
    · rw [if_pos hx]
      refine ⟨fun _ => ?_, fun e => absurd rfl e⟩
      obtain ⟨hf, hu⟩ := hx
      unfold zfull at hu
      have hn : ¬ (c = 0 ∨ (0 < R 115 29 ∧ c < R 115 28) ∨ f = 0) := by
        rcases hp with ⟨rfl, rfl, rfl, rfl, h1, h2⟩ | ⟨h1, h2, h3, h4, rfl, rfl, h5, h6⟩
        · rw [if_pos rfl] at hu
          omega
        · rw [if_neg (by omega)] at hu
          rw [if_neg (by omega)] at h28
          omega
      have e : rtk B 0 i c f R = (zup (zup R 115 28 c) 115 29 (R 115 29 + 1), 1) := if_neg hn
      rw [e]
      have hcw : c = v := by
        rcases hp with ⟨rfl, rfl, rfl, rfl, h1, h2⟩ | ⟨h1, h2, h3, h4, rfl, rfl, h5, h6⟩
        · rfl
        · rw [if_neg (by omega)] at hu
          exact hu
      refine ⟨rfl, ?_, ?_, fun r c' r0 r1 c0 c1 => ?_, fun j hj => ?_⟩
      · show zup (zup R 115 28 c) 115 29 (R 115 29 + 1) 115 28 = v
        rw [zup_ne (by decide), zup_i, hcw]
      · show zup (zup R 115 28 c) 115 29 (R 115 29 + 1) 115 29 = h
        rw [zup_i, h29]
        omega
      · show zup (zup R 115 28 c) 115 29 (R 115 29 + 1) 128 _ = P (a + 2) (r * v + c').toNat
        rw [zup_or (by decide), zup_or (by decide)]
        have r1' : r < h := r1
        have c1' : c' < v := c1
        have hw : r * w + c' = r * v + c' := by
          rcases hp with ⟨rfl, rfl, rfl, rfl, h1, h2⟩ | ⟨h1, h2, h3, h4, rfl, rfl, h5, h6⟩
          · rw [show r = 0 by omega, Int.zero_mul, Int.zero_mul]
          · rfl
        rw [← hw]
        refine hcel r c' r0 c0 ?_
        rcases hp with ⟨rfl, rfl, rfl, rfl, h1, h2⟩ | ⟨h1, h2, h3, h4, rfl, rfl, h5, h6⟩ <;> omega
      · have hj' : (j : Int) < v * h := hj
        refine hcost j ?_
        rcases hp with ⟨rfl, rfl, rfl, rfl, h1, h2⟩ | ⟨h1, h2, h3, h4, rfl, rfl, h5, h6⟩
        · omega
        · rw [show v * h = (h - 1) * v + c by rw [Int.sub_mul, Int.one_mul, Int.mul_comm v h]; omega] at hj'
          exact hj'
    · rw [if_neg hx]
      refine ⟨fun e => by omega, fun _ => ?_⟩
      have hn : c = 0 ∨ (0 < R 115 29 ∧ c < R 115 28) ∨ f = 0 := by
        by_cases hf : f = 0
        · omega
        · have hu : ¬ zfull c w := fun e => hx ⟨hf, e⟩
          unfold zfull at hu
          rcases hp with ⟨rfl, rfl, rfl, rfl, h1, h2⟩ | ⟨h1, h2, h3, h4, rfl, rfl, h5, h6⟩
          · rw [if_pos rfl] at hu
            omega
          · rw [if_neg (by omega)] at hu
            rw [if_neg (by omega)] at h28
            omega
      have e : rtk B 0 i c f R = (R, 0) := if_pos hn
      rw [e]
      exact ⟨rfl, h27.trans (by omega)⟩
  | k + 1, i, w, h, c, f, v, t, P, R, hi, hk, hp, h27, h29, h28, hcel, hcost => by
    have hb := zwp_b hp
    have hk1 : i + 1 + (k : Int) = L := by omega
    unfold zferr rtk
    by_cases hs : B i.toNat = 47
    · rw [if_pos hs, if_pos hs]
      have hiff : (c = 0 ∨ (0 < R 115 29 ∧ c < R 115 28) ∨ R 115 29 = 5) ↔ (¬ zfull c w ∨ h = 6) := by
        unfold zfull
        rcases hp with ⟨rfl, rfl, rfl, rfl, h1, h2⟩ | ⟨h1, h2, h3, h4, rfl, rfl, h5, h6⟩
        · rw [if_pos rfl]
          omega
        · rw [if_neg (by omega)] at h28
          rw [if_neg (show ¬ v = 0 by omega)]
          omega
      by_cases hx : ¬ zfull c w ∨ h = 6
      · rw [if_pos hx, if_pos (hiff.mpr hx)]
        exact ⟨fun e => by omega, fun _ => ⟨rfl, h27⟩⟩
      · rw [if_neg hx, if_neg (fun e => hx (hiff.mp e))]
        have h6 : ¬ h = 6 := fun e => hx (Or.inr e)
        have hu : zfull c w := Classical.not_not.mp (fun e => hx (Or.inl e))
        unfold zfull at hu
        have hcv : c = v ∧ 1 ≤ v ∧ v ≤ 6 := by
          rcases hp with ⟨rfl, rfl, rfl, rfl, h1, h2⟩ | ⟨h1, h2, h3, h4, rfl, rfl, h5, h7⟩
          · rw [if_pos rfl] at hu
            omega
          · rw [if_neg (by omega)] at hu
            omega
        have ht : t = h * c := by
          rcases hp with ⟨rfl, rfl, rfl, rfl, h1, h2⟩ | ⟨h1, h2, h3, h4, rfl, rfl, h5, h7⟩
          · omega
          · rw [if_neg (by omega)] at hu
            rw [hu, Int.sub_mul, Int.one_mul]
            omega
        have hh : 1 ≤ h ∧ h ≤ 6 := by
          rcases hp with ⟨rfl, rfl, rfl, rfl, h1, h2⟩ | ⟨h1, h2, h3, h4, rfl, rfl, h5, h7⟩ <;> omega
        have hp2 : zwp c (h + 1) 0 v t := Or.inr ⟨by omega, by omega, by omega, by omega, by omega, by rw [ht, show h + 1 - 1 = h by omega]; omega, by omega, by omega⟩
        have ht36 : t < 36 := by
          have h5 : h * c ≤ 5 * c := Int.mul_le_mul_of_nonneg_right (by omega) (by omega)
          omega
        have e : zwt B a (k + 1) i h v t P = zwt B a k (i + 1) (h + 1) v t P := by
          show (if t < 36 then _ else _) = _
          rw [if_pos ht36, if_pos hs]
        rw [e]
        refine zlock hL k (i + 1) c (h + 1) 0 f v t P _ (by omega) hk1 hp2 zup_i (by rw [zup_ne (by decide), zup_i, h29]; omega) (by rw [zup_ne (by decide), zup_ne (by decide), zup_i, if_neg (by omega)]) (fun r c' r0 c0 hr => ?_) hcost
        rw [zup_or (by decide), zup_or (by decide), zup_or (by decide)]
        have hr' : r < h ∧ c' < c := by omega
        have hwc : r * w + c' = r * c + c' := by
          rcases hp with ⟨rfl, rfl, rfl, rfl, h1, h2⟩ | ⟨h1, h2, h3, h4, rfl, rfl, h5, h7⟩
          · rw [show r = 0 by omega, Int.zero_mul, Int.zero_mul]
          · rw [hcv.1]
        rw [← hwc]
        refine hcel r c' r0 c0 ?_
        rcases hp with ⟨rfl, rfl, rfl, rfl, h1, h2⟩ | ⟨h1, h2, h3, h4, rfl, rfl, h5, h7⟩ <;> omega
    · rw [if_neg hs, if_neg hs]
      have h28' : (zmks (B i.toNat) = -2 ∨ c = R 115 28) ↔ (zmks (B i.toNat) = -2 ∨ c = (if w = 0 then 6 else w)) := by rw [h28]
      by_cases hx : zmks (B i.toNat) = -2 ∨ c = (if w = 0 then 6 else w)
      · rw [if_pos hx, if_pos (h28'.mpr hx)]
        exact ⟨fun e => by omega, fun _ => ⟨rfl, h27⟩⟩
      · rw [if_neg hx, if_neg (fun e => hx (h28'.mp e))]
        have hc : ¬ c = (if w = 0 then 6 else w) := fun e => hx (Or.inr e)
        have ht36 : t < 36 := by
          rcases hp with ⟨rfl, rfl, rfl, rfl, h1, h2⟩ | ⟨h1, h2, h3, h4, rfl, rfl, h5, h6⟩
          · omega
          · have e1 := (hb.2 (by omega)).1
            rw [if_neg (by omega)] at hc
            omega
        have ht0 := hb.1
        have hp2 : zwp w h (c + 1) (v + (if h = 1 then 1 else 0)) (t + 1) := by
          rcases hp with ⟨rfl, rfl, rfl, rfl, h1, h2⟩ | ⟨h1, h2, h3, h4, rfl, rfl, h5, h6⟩
          · rw [if_pos rfl] at hc
            exact Or.inl ⟨rfl, rfl, by rw [if_pos rfl], rfl, by omega, by omega⟩
          · rw [if_neg (by omega)] at hc
            exact Or.inr ⟨h1, h2, h3, h4, by rw [if_neg (by omega)]; omega, by omega, by omega, by omega⟩
        have e : zwt B a (k + 1) i h v t P = zwt B a k (i + 1) h (v + (if h = 1 then 1 else 0)) (t + 1) (zup (zup P (a + 2) t.toNat (zmks (B i.toNat))) (a + 3) t.toNat 1) := by
          show (if t < 36 then _ else _) = _
          rw [if_pos ht36, if_neg hs]
        rw [e]
        refine zlock hL k (i + 1) w h (c + 1) _ (v + (if h = 1 then 1 else 0)) (t + 1) _ _ (by omega) hk1 hp2 zup_i (by rw [zup_ne (by decide), zup_or (by decide), h29]) (by rw [zup_ne (by decide), zup_or (by decide), h28]) (fun r c' r0 c0 hr => ?_) (fun j hj => ?_)
        · rw [zup_or (show ¬ 128 = 115 by decide), zup_at, zup_or (show ¬ a + 2 = a + 3 by omega), zup_at, h29]
          have hrow : t = (h - 1) * w + c := by
            rcases hp with ⟨rfl, rfl, rfl, rfl, h1, h2⟩ | ⟨h1, h2, h3, h4, rfl, rfl, h5, h6⟩
            · omega
            · rfl
          have hcb : 0 ≤ c ∧ c < 6 ∧ 1 ≤ h := by
            rcases hp with ⟨rfl, rfl, rfl, rfl, h1, h2⟩ | ⟨h1, h2, h3, h4, rfl, rfl, h5, h6⟩
            · rw [if_pos rfl] at hc
              omega
            · rw [if_neg (by omega)] at hc
              omega
          by_cases hlast : r = h - 1 ∧ c' = c
          · rw [if_pos (by omega), if_pos (by rw [hlast.1, hlast.2, hrow])]
          · have hr2 : r < h - 1 ∧ c' < w ∨ r = h - 1 ∧ c' < c := by omega
            have hne : (r * w + c').toNat ≠ t.toNat := by
              rcases hr2 with ⟨q1, q2⟩ | ⟨q1, q2⟩
              · have h9 := zmn (x := h - 1) (c := c) (w := w) (by omega) q1 q2 hcb.1
                have h8 : 0 ≤ r * w := Int.mul_nonneg r0 (by omega)
                omega
              · have h8 : 0 ≤ r * w := by
                  rcases hp with ⟨rfl, rfl, rfl, rfl, h1, h2⟩ | ⟨h1, h2, h3, h4, rfl, rfl, h5, h6⟩
                  · rw [Int.mul_zero]; omega
                  · exact Int.mul_nonneg r0 (by omega)
                rw [q1] at h8 ⊢
                omega
            have hne2 : (6 * r + c').toNat ≠ (6 * (h - 1) + c).toNat := by
              have hw6 : w ≤ 6 := by
                rcases hp with ⟨rfl, rfl, rfl, rfl, h1, h2⟩ | ⟨h1, h2, h3, h4, rfl, rfl, h5, h6⟩ <;> omega
              omega
            rw [if_neg hne2, if_neg hne]
            exact hcel r c' r0 c0 hr2
        · rw [zup_at]
          split
          · rfl
          · rw [zup_o (by omega)]
            exact hcost j (by omega)

theorem zlo_rel {M K : zM} {n : Int} (hJ : zJo n M) (hx : ∀ q : Nat, 115 ≤ q → q < 137 → K q = M q) : (zfe M = -1 → (rtkR K).2 = 1 ∧ (rtkR K).1 115 28 = (zwtR (zloK M) zn1).2.2 ∧ (rtkR K).1 115 29 = (zwtR (zloK M) zn1).2.1 ∧ (∀ r c' : Int, 0 ≤ r → r < (zwtR (zloK M) zn1).2.1 → 0 ≤ c' → c' < (zwtR (zloK M) zn1).2.2 → (rtkR K).1 128 (6 * r + c').toNat = (zwtR (zloK M) zn1).1 (zn1 + 2) (r * (zwtR (zloK M) zn1).2.2 + c').toNat) ∧ ∀ j : Nat, (j : Int) < (zwtR (zloK M) zn1).2.2 * (zwtR (zloK M) zn1).2.1 → (zwtR (zloK M) zn1).1 (zn1 + 3) j = 1) ∧ (¬ zfe M = -1 → (rtkR K).2 = 0 ∧ (rtkR K).1 115 27 = zfe M) := by
  obtain ⟨⟨u1, u2⟩, u3⟩ := hJ.k.x.bu
  have e115 := hx 115 (by decide) (by decide)
  have e26 : K 115 26 = M 99 1 := by rw [e115]; exact hJ.x.2.1
  have e1 : rtkR K = rtk (M 100) (M 99 1).toNat 0 0 0 (rtk0 K) := by
    unfold rtkR
    rw [e26]
    exact rtk_cB _ _ _ _ _ (by omega) (fun j h0 h1 => by rw [hx 127 (by decide) (by decide)]; exact hJ.x.2.2 j.toNat (by omega))
  have e2 : zwtR (zloK M) zn1 = zwt (M 100) zn1 (M 99 1).toNat 0 1 0 0 (zloK M) := by
    unfold zwtR zloK
    rw [zkp_o (by decide), zkp_o (by decide), zup_or (by decide), zup_or (by decide)]
  have h := zlock (B := M 100) (a := zn1) (L := M 99 1) u2 (M 99 1).toNat 0 0 1 0 0 0 0 (zloK M) (rtk0 K) (by omega) (by omega) (Or.inl ⟨rfl, rfl, rfl, rfl, by omega, by omega⟩) (by unfold rtk0; rw [zup_ne (by decide), zup_ne (by decide), zup_i]) (by unfold rtk0; rw [zup_i]; rfl) (by unfold rtk0; rw [zup_ne (by decide), zup_i]; rfl) (fun r c' r0 c0 hr => by omega) (fun j hj => by omega)
  rw [← e1, ← e2] at h
  exact h
theorem zlo_q {M : zM} {n : Int} (hJ : zJo n M) (he : zfe M = -1) : (∀ q : Nat, q ≠ 1 → q ≠ 2 → q ≠ 3 → q ≠ 4 → q ≠ 5 → q ≠ 9 → q ≠ 12 → q ≠ 99 → q ≠ 102 → q ≠ 103 → zloM M q = zloK M q) ∧ (zloM M (zn1 + 1) 0 = (zwtR (zloK M) zn1).2.2 ∧ zloM M (zn1 + 1) 1 = (zwtR (zloK M) zn1).2.1) ∧ zloM M (zn1 + 2) = (zwtR (zloK M) zn1).1 (zn1 + 2) ∧ zloM M (zn1 + 3) = (zwtR (zloK M) zn1).1 (zn1 + 3) ∧ ((1 ≤ (zwtR (zloK M) zn1).2.2 ∧ (zwtR (zloK M) zn1).2.2 ≤ 6) ∧ (1 ≤ (zwtR (zloK M) zn1).2.1 ∧ (zwtR (zloK M) zn1).2.1 ≤ 6)) := by
  have hX := zki_e5 hJ.k (zfe_b hJ.k.x.bu)
  have hK : zBI n (zloK M) zn1 := zKb hX
  have hKx : zKX (zloK M) := zKX_k hX
  have hu := hKx.bu
  obtain ⟨⟨u1, u2⟩, u3⟩ := id hu
  have hfk : zfe (zloK M) = -1 := by
    rw [← he]
    exact zfe_c (by unfold zloK; rw [zkp_o (by decide), zup_or (by decide)]) (by unfold zloK; rw [zkp_o (by decide), zup_or (by decide)])
  obtain ⟨r1, r2, r3, r4⟩ := zwt_ok (B := zloK M 100) (a := zn1) (L := zloK M 99 1) (zloK M 99 1).toNat 0 0 1 0 0 0 0 (zloK M) (by omega) (by omega) hfk (Or.inl ⟨rfl, rfl, rfl, rfl, by omega, by omega⟩) ⟨hK.g.2.2, fun e => absurd rfl e⟩
  have hgo : ∀ q : Nat, q ≠ 2 → q ≠ 3 → q ≠ 4 → zwtG (zloK M) zn1 q = zloK M q := fun q a b c => by
    unfold zwtG
    rw [zup_or a, zup_or a]
    exact r4 q b c
  have hco : ∀ q : Nat, q ≠ 5 → zwtM (zloK M) zn1 q = zwtG (zloK M) zn1 q := fun q a => by
    unfold zwtM zcoM
    funext j
    exact ztab_o a
  have hq5 : ∀ q : Nat, q ≠ 1 → q ≠ 99 → zlo5 M q = zwtM (zloK M) zn1 q := fun q a f => by
    unfold zlo5 zlo4
    rw [zup_or a, zup_or f]
  refine ⟨fun q a b c d e f g i j k => ?_, ⟨?_, ?_⟩, ?_, ?_, r1, r2⟩
  · unfold zloM
    rw [zfg_o g j k f, hq5 q a i, hco q e, hgo q b c d]
  · unfold zloM
    rw [zfg_o (by decide) (by decide) (by decide) (by decide), hq5 _ (by decide) (by decide), hco _ (by decide)]
    unfold zwtG
    rw [zup_i]
  · unfold zloM
    rw [zfg_o (by decide) (by decide) (by decide) (by decide), hq5 _ (by decide) (by decide), hco _ (by decide)]
    unfold zwtG
    rw [zup_ne (by decide), zup_i]
  · unfold zloM
    rw [zfg_o (by decide) (by decide) (by decide) (by decide), hq5 _ (by decide) (by decide), hco _ (by decide)]
    unfold zwtG
    rw [zup_or (by decide), zup_or (by decide)]
  · unfold zloM
    rw [zfg_o (by decide) (by decide) (by decide) (by decide), hq5 _ (by decide) (by decide), hco _ (by decide)]
    unfold zwtG
    rw [zup_or (by decide), zup_or (by decide)]
theorem rlo2_o {K : zM} {q : Nat} (h : ¬ q = 115) (h2 : ¬ q = 135) (h3 : ¬ q = 128) : rlo2 K q = K q := by
  unfold rlo2
  rw [zup_or h, zup_or h, rm1_o h h2, rlo1_o h h3]
theorem rlo2_5 {K : zM} {j : Nat} (h0 : ¬ j = 0) (h1 : ¬ j = 6) (h2 : ¬ j = 7) (h : 8 ≤ j ∧ j < 26 ∨ j = 41) : rlo2 K 115 j = K 115 j := by
  unfold rlo2
  rw [zup_ne h2, zup_ne h1, rm1_5 h0 (by omega) (by omega) (by omega), rlo1_5 (by omega) (by omega) (by omega) (by omega) (by omega)]
theorem rlo1_2 {K : zM} {j : Nat} (h : j = 28 ∨ j = 29) : rlo1 K 115 j = (rtkR K).1 115 j := by
  unfold rlo1
  rw [zup_ne (by omega), zup_ne (by omega)]
theorem rlo2_w {K : zM} : rlo2 K 115 6 = (rtkR K).1 115 28 ∧ rlo2 K 115 7 = (rtkR K).1 115 29 ∧ rlo2 K 128 = (rtkR K).1 128 := by
  unfold rlo2
  refine ⟨?_, ?_, ?_⟩
  · rw [zup_ne (by decide), zup_i, rm1_5 (by decide) (by decide) (by decide) (by decide), rlo1_2 (by decide)]
  · rw [zup_i, rm1_5 (by decide) (by decide) (by decide) (by decide), rlo1_2 (by decide)]
  · rw [zup_or (by decide), zup_or (by decide), rm1_o (by decide) (by decide)]
    unfold rlo1
    rw [zup_or (by decide), zup_or (by decide)]
/-- the map of both behind load -/
theorem zlo_A {M K : zM} {n : Int} (hJ : zJo n M) (hx : ∀ q : Nat, 115 ≤ q → q < 137 → K q = M q) (he : zfe M = -1) : (1 ≤ rlo2 K 115 6 ∧ rlo2 K 115 6 ≤ 6) ∧ (1 ≤ rlo2 K 115 7 ∧ rlo2 K 115 7 ≤ 6) ∧ rA (zloM M) (rlo4 K) ∧ rC (zloM M) (rlo4 K) := by
  obtain ⟨r1, r2, r3, r4, r5⟩ := (zlo_rel hJ hx).1 he
  obtain ⟨q1, ⟨q2, q3⟩, q4, q5, q6, q7⟩ := zlo_q hJ he
  obtain ⟨w1, w2, w3⟩ := rlo2_w (K := K)
  have hs : zsz (zloM M) zn1 = rlo2 K 115 6 * rlo2 K 115 7 := by unfold zsz; rw [q2, q3, w1, w2, r2, r3]
  refine ⟨by rw [w1, r2]; exact q6, by rw [w2, r3]; exact q7, ⟨⟨?_, ?_⟩, fun j hj => ?_⟩, fun j hj => ?_⟩
  · unfold rlo4
    rw [rlo3_o (by decide) (by decide), q2, w1, r2]
  · unfold rlo4
    rw [rlo3_o (by decide) (by decide), q3, w2, r3]
  · rw [hs] at hj
    unfold rlo4 rlo3
    rw [ztab_or (by decide), ztab_i (by omega), q4]
    unfold rloF
    rw [w1, w2, r2, r3] at hj
    rw [w1, w3, r2]
    obtain ⟨⟨d1, d2⟩, ⟨d3, d4⟩, d5⟩ := zdiv6 (c := (j : Int)) q6 q7 ⟨by omega, hj⟩
    rw [r4 _ _ d1 d2 d3 d4, ← d5, Int.toNat_natCast]
  · rw [hs] at hj
    unfold rlo4 rlo3
    rw [ztab_i (by omega), q5]
    exact (r5 j (by rw [← r2, ← r3, ← w1, ← w2]; exact hj)).symm
theorem rloM_o {D K : zM} {q : Nat} (h1 : ¬ q = 115) (h2 : ¬ q = 120) (h3 : ¬ q = 122) (h4 : ¬ q = 121) (h5 : ¬ q = 116) (h6 : ¬ q = 117) : rloM D K q = rlo2 K q := by
  unfold rloM
  rw [zup_or h1, rfo_o h1, rev_o h2 h3 h4]
  unfold rlo4
  rw [rlo3_o h5 h6]
theorem rloM_5 {D K : zM} {j : Nat} (h1 : ¬ j = 10) (h2 : ¬ j = 19) (h3 : ¬ j = 20) (h4 : ¬ j = 21) : rloM D K 115 j = rlo2 K 115 j := by
  unfold rloM
  rw [zup_ne h1, rfo_5 h2 h3 h4, rev_o (by decide) (by decide) (by decide)]
  unfold rlo4
  rw [rlo3_o (by decide) (by decide)]
/-- the rows of both behind load -/
theorem zload_6 {M K : zM} {n : Int} (hJ : zJo n M) (hx : ∀ q : Nat, 115 ≤ q → q < 137 → K q = M q) (he : zfe M = -1) : zR6 (zloM M) (rloM (zloM M) K) := by
  obtain ⟨a1, a2, hA, hC⟩ := zlo_A hJ hx he
  obtain ⟨q1, ⟨q2, q3⟩, q4, q5, q6, q7⟩ := zlo_q hJ he
  obtain ⟨mA, mC, mT, mL, mS, mR⟩ := zJo_A hJ hx
  have c : ∀ q : Nat, q ≠ 1 → q ≠ 2 → q ≠ 3 → q ≠ 4 → q ≠ 5 → q ≠ 9 → q ≠ 12 → q < 13 → ¬ q = 0 → zloM M q = M q := fun q a b d e f g i j k => by
    rw [q1 q a b d e f g i (by omega) (by omega) (by omega)]
    unfold zloK
    rw [zkp_o (by omega), zup_or k]
  have e5 : ∀ j : Nat, ¬ j = 0 → ¬ j = 10 → ¬ j = 6 → ¬ j = 7 → ¬ j = 19 → ¬ j = 20 → ¬ j = 21 → 8 ≤ j ∧ j < 26 → rloM (zloM M) K 115 j = K 115 j := fun j a b d e f g i k => by
    rw [rloM_5 b f g i, rlo2_5 a d e (Or.inl k)]
  have z1 : ∀ j : Nat, ¬ j = 4 → zloM M zn1 j = M zn1 j := fun j h => by
    unfold zloM
    rw [zfg_o (by decide) (by decide) (by decide) (by decide)]
    unfold zlo5
    rw [zup_ne h]
    unfold zlo4
    rw [zup_or (by decide)]
    have hX := zki_e5 hJ.k (zfe_b hJ.k.x.bu)
    have hK : zBI n (zloK M) zn1 := zKb hX
    have hKx : zKX (zloK M) := zKX_k hX
    obtain ⟨⟨u1, u2⟩, u3⟩ := hKx.bu
    have hfk : zfe (zloK M) = -1 := by
      rw [← he]
      exact zfe_c (by unfold zloK; rw [zkp_o (by decide), zup_or (by decide)]) (by unfold zloK; rw [zkp_o (by decide), zup_or (by decide)])
    obtain ⟨r1, r2, r3, r4⟩ := zwt_ok (B := zloK M 100) (a := zn1) (L := zloK M 99 1) (zloK M 99 1).toNat 0 0 1 0 0 0 0 (zloK M) (by omega) (by omega) hfk (Or.inl ⟨rfl, rfl, rfl, rfl, by omega, by omega⟩) ⟨hK.g.2.2, fun e => absurd rfl e⟩
    unfold zwtM zcoM
    rw [ztab_o (by decide)]
    unfold zwtG
    rw [zup_or (by decide), zup_or (by decide)]
    have := r4 zn1 (by decide) (by decide)
    unfold zwtR
    rw [this]
    unfold zloK
    rw [zkp_o (by decide), zup_or (by decide)]
  refine ⟨?_, fun j hj => ?_, ?_, fun j hj => ?_, ⟨?_, ?_, ?_, ?_⟩, ?_⟩
  · exact rA_c (zup_ne (by decide)) (zup_ne (by decide)) (zup_or (by decide)) (rev_fo hA)
  · unfold rloM
    rw [zup_or (by decide), rfo_o (by decide), rev_o (by decide) (by decide) (by decide)]
    exact hC j hj
  · refine rT_t (c _ (by decide) (by decide) (by decide) (by decide) (by decide) (by decide) (by decide) (by decide) (by decide)) (c _ (by decide) (by decide) (by decide) (by decide) (by decide) (by decide) (by decide) (by decide) (by decide)) (c _ (by decide) (by decide) (by decide) (by decide) (by decide) (by decide) (by decide) (by decide) (by decide)) (e5 _ (by decide) (by decide) (by decide) (by decide) (by decide) (by decide) (by decide) (by decide)) (e5 _ (by decide) (by decide) (by decide) (by decide) (by decide) (by decide) (by decide) (by decide)) ?_ ?_ mT
    · rw [rloM_o (by decide) (by decide) (by decide) (by decide) (by decide) (by decide), rlo2_o (by decide) (by decide) (by decide)]
    · rw [rloM_o (by decide) (by decide) (by decide) (by decide) (by decide) (by decide), rlo2_o (by decide) (by decide) (by decide)]
  · have hE : zE2 (zlo5 M) (zloM M) zn1 := by
      unfold zloM
      exact ⟨(zfg_o (by decide) (by decide) (by decide) (by decide)).symm, (zfg_o (by decide) (by decide) (by decide) (by decide)).symm⟩
    unfold rloM
    rw [zup_or (by decide), rfo_o (by decide), zev_rev hE.ef hj]
    unfold zloM zfgM
    rw [zclM_o (by decide)]
  · have hE : zE2 (zloM M) (zlo4 M) zn1 := by
      unfold zloM
      refine ⟨(zfg_o (by decide) (by decide) (by decide) (by decide)).trans ?_, (zfg_o (by decide) (by decide) (by decide) (by decide)).trans ?_⟩
      · unfold zlo5; rw [zup_or (by decide)]
      · unfold zlo5; rw [zup_or (by decide)]
    have e4 : zloM M zn1 4 = zlow (zlo4 M) zn1 := by
      unfold zloM
      rw [zfg_o (by decide) (by decide) (by decide) (by decide)]
      unfold zlo5
      rw [zup_i]
    unfold rloM
    rw [zup_i, e4]
    unfold zlow
    rw [zsz_c hE, zfreeN_c hE]
  · rw [e5 11 (by decide) (by decide) (by decide) (by decide) (by decide) (by decide) (by decide) (by decide), z1 5 (by decide)]; exact mS.2.1
  · rw [e5 12 (by decide) (by decide) (by decide) (by decide) (by decide) (by decide) (by decide) (by decide), z1 6 (by decide)]; exact mS.2.2.1
  · rw [e5 13 (by decide) (by decide) (by decide) (by decide) (by decide) (by decide) (by decide) (by decide), z1 7 (by decide)]; exact mS.2.2.2
  · refine rL_0 (c := -1) (by unfold zloM zfgM; exact zclM_8) ?_
    unfold rloM
    rw [zup_ne (by decide), zup_ne (by decide), zup_ne (by decide)]
    exact rfo_i
theorem zj_load {xs : List Int32} {d : Nat} {n : Int} {M : zM} (hJ : zJo n M) (hn : n + 1 ≤ 600) : zStep xs (d + 12) (d + 13) 72 [.ref 0] 160 [.ref 115] [(0, 1)] 0 True n M := by
  have hI := hJ.k.ci
  have hu := hJ.k.x.bu
  have hld : ∀ K : zM, (∀ q : Nat, 115 ≤ q → q < 137 → K q = M q) → (0 ≤ K 115 26 ∧ K 115 26 ≤ 45) ∧ (∀ j : Nat, (j : Int) < K 115 26 → 0 ≤ K 127 j ∧ K 127 j ≤ 255) ∧ (0 ≤ K 115 39 ∧ K 115 39 ≤ 6) := fun K hx => by
    have e115 := hx 115 (by decide) (by decide)
    have e26 : K 115 26 = M 99 1 := by rw [e115]; exact hJ.x.2.1
    rw [e26]
    exact ⟨hu.1, fun j hj => by rw [hx 127 (by decide) (by decide), hJ.x.2.2 j hj]; exact hu.2 j (by have := hu.1.2; omega), zJo_39 hJ e115⟩
  by_cases c0 : ¬ zfe M = -1
  · refine ⟨_, _, fun w => ⟨_, sp_loadP_0 (d := d + 7) hI c0⟩, zFo_e (by decide), fun K hQ => ?_⟩
    have hm : ∀ q : Nat, ¬ q = 0 → ¬ q = 99 → zup (zup M 0 5 (zfe M)) 99 1 0 q = M q := fun q a b => by rw [zup_or b, zup_or a]
    have hx : ∀ q : Nat, 115 ≤ q → q < 137 → K q = M q := fun q a b => (hQ q b).trans (hm q (by omega) (by omega))
    have e115 := hx 115 (by decide) (by decide)
    obtain ⟨l1, l2, l3⟩ := hld K hx
    obtain ⟨r1, r2⟩ := (zlo_rel hJ hx).2 c0
    have hr := fun w : Bool => sp_loadR_0 (xs := xs) (d := d + 8) (w := w) (M := K) (D := M) (nD := n) l1 l2 l3 (fun e => absurd r1 e) r1
    have hc : ∀ q : Nat, q < 115 → zup (rlo1 K) 115 0 1 q = zup (zup M 0 5 (zfe M)) 99 1 0 q := fun q h => (zup_or (by omega)).trans ((rlo1_o (by omega) (by omega)).trans (hQ q (by omega)))
    have o5 : ∀ j : Nat, ¬ j = 0 → ¬ j = 26 → ¬ j = 27 → ¬ j = 28 → ¬ j = 29 → ¬ j = 30 → zup (rlo1 K) 115 0 1 115 j = K 115 j := fun j a b c d e f => by rw [zup_ne a, rlo1_5 c d e b f]
    have hJ2 : zJo n (zup (rlo1 K) 115 0 1) := by
      refine zJo_r hJ (zki_loadE hJ.k) hc (fun q a b => hm q (by omega) (by omega)) (by rw [zup_or (by decide), zup_ne (by decide)]) (fun q a b => hm q (by omega) (by omega)) (fun q hq => (zup_or (by unfold zpl1 at hq; omega)).trans ((rlo1_o (by unfold zpl1 at hq; omega) (by unfold zpl1 at hq; omega)).trans (hQ q (by unfold zpl1 at hq; omega)))) (fun j hj => (o5 j (by unfold zpl5 at hj; omega) (by unfold zpl5 at hj; omega) (by unfold zpl5 at hj; omega) (by unfold zpl5 at hj; omega) (by unfold zpl5 at hj; omega) (by unfold zpl5 at hj; omega)).trans (by rw [hQ 115 (by decide)])) ⟨⟨?_, ?_, ?_⟩, ?_, ?_⟩
      · rw [o5 39 (by decide) (by decide) (by decide) (by decide) (by decide) (by decide), e115, hc 25 (by decide), hm 25 (by decide) (by decide)]; exact hJ.x.1.1
      · rw [o5 41 (by decide) (by decide) (by decide) (by decide) (by decide) (by decide), e115, hc 0 (by decide), zup_or (by decide), zup_ne (by decide)]; exact hJ.x.1.2.1
      · rw [zup_ne (by decide), hc 0 (by decide), zup_or (by decide), zup_i]
        unfold rlo1
        rw [zup_i, if_pos r1, r2]
      · rw [zup_ne (by decide), hc 99 (by decide), zup_i]
        unfold rlo1
        rw [zup_ne (by decide), zup_i]
      · rw [hc 99 (by decide), zup_i]
        exact fun j hj => by omega
    exact ⟨_, _, hr, zTy_i, (zup_or (by decide)).trans (rlo1_o (by decide) (by decide)), zJo_n hJ2 (by omega) hn, fun _ => Or.inl ⟨_, 1, rfl, by decide, zup_i⟩⟩
  · have he := Classical.not_not.mp c0
    refine ⟨_, _, fun w => ⟨_, sp_loadP_1 (d := d + 7) hI c0⟩, zFo_v zTy_i, fun K hQ => ?_⟩
    obtain ⟨q1, ⟨q2, q3⟩, q4, q5, q6, q7⟩ := zlo_q hJ he
    have hk : ∀ q : Nat, ¬ q = 0 → q < 25 ∨ 99 ≤ q → zloK M q = M q := fun q a b => by unfold zloK; rw [zkp_o b, zup_or a]
    have hx : ∀ q : Nat, 115 ≤ q → q < 137 → K q = M q := fun q a b => (hQ q b).trans ((q1 q (by omega) (by omega) (by omega) (by omega) (by omega) (by omega) (by omega) (by omega) (by omega) (by omega)).trans (hk q (by omega) (by omega)))
    have e115 := hx 115 (by decide) (by decide)
    obtain ⟨l1, l2, l3⟩ := hld K hx
    obtain ⟨r1, r2, r3, r4, r5⟩ := (zlo_rel hJ hx).1 he
    obtain ⟨a1, a2, a3, a4⟩ := zlo_A hJ hx he
    have hKl := zki_load hJ.k hn he
    have hne : ¬ (rtkR K).2 = 0 := by omega
    have hr := fun w : Bool => sp_loadR_1 (xs := xs) (d := d + 8) (w := w) (M := K) (D := zloM M) (nD := n + 1) l1 l2 l3 (fun _ => ⟨a1, a2, hKl.b, a3⟩) hne
    have ro : ∀ q : Nat, ¬ q = 115 → ¬ q = 120 → ¬ q = 122 → ¬ q = 121 → ¬ q = 116 → ¬ q = 117 → ¬ q = 135 → ¬ q = 128 → rloM (zloM M) K q = K q := fun q a b c d e f g i => (rloM_o a b c d e f).trans (rlo2_o a g i)
    have hc : ∀ q : Nat, q < 115 → rloM (zloM M) K q = zloM M q := fun q h => (ro q (by omega) (by omega) (by omega) (by omega) (by omega) (by omega) (by omega) (by omega)).trans (hQ q (by omega))
    have hv1 : ∀ k, rvw (rlo1 K) k = rvw M k := rvw_c (fun j hj => by rw [rlo1_5 (by unfold zpl5 at hj; omega) (by unfold zpl5 at hj; omega) (by unfold zpl5 at hj; omega) (by unfold zpl5 at hj; omega) (by unfold zpl5 at hj; omega), e115]) (fun q hq => by rw [rlo1_o (by unfold zpl1 at hq; omega) (by unfold zpl1 at hq; omega), hx q (by unfold zpl1 at hq; omega) (by unfold zpl1 at hq; omega)])
    obtain ⟨m1, m2⟩ := rm1_e (K := rlo1 K) (M := M) (by rw [rlo1_o (by decide) (by decide), hx 135 (by decide) (by decide)]) (by rw [rlo1_39, e115]) hv1
    obtain ⟨vA, vC, vT, vL, vS, vR⟩ := zload_6 hJ hx he
    have w135 : rlo2 K 135 = rm1 (rlo1 K) 135 := by unfold rlo2; rw [zup_or (by decide), zup_or (by decide)]
    have w5 : ∀ j : Nat, ¬ j = 6 → ¬ j = 7 → rlo2 K 115 j = rm1 (rlo1 K) 115 j := fun j a b => by unfold rlo2; rw [zup_ne b, zup_ne a]
    have m0 : zloM M 0 = zup M 0 5 (zfe M) 0 := by
      rw [q1 0 (by decide) (by decide) (by decide) (by decide) (by decide) (by decide) (by decide) (by decide) (by decide) (by decide)]
      unfold zloK
      rw [zkp_o (by decide)]
    have m99 : zloM M 99 1 = 0 := by
      unfold zloM
      rw [zfg_o (by decide) (by decide) (by decide) (by decide)]
      unfold zlo5 zlo4
      rw [zup_or (by decide), zup_i]
    have hJ2 : zJo (n + 1) (rloM (zloM M) K) := by
      refine zJo_k (X := zup M 0 5 (zfe M)) hJ hKl hc (fun q a b => zup_or (by omega)) (fun q a b => q1 q (by omega) (by omega) (by omega) (by omega) (by omega) (by omega) (by omega) (by omega) (by omega) (by omega)) (by rw [m0, zup_ne (by decide)]) (fun q a b => (q1 q (by omega) (by omega) (by omega) (by omega) (by omega) (by omega) (by omega) (by omega) (by omega) (by omega)).trans (hk q (by omega) (by omega))) ?_ ?_ ?_ ⟨⟨?_, ?_, ?_⟩, ?_, ?_⟩ (rV_of hKl.b vA vC vT vL vS vR)
      · rw [rloM_o (by decide) (by decide) (by decide) (by decide) (by decide) (by decide), w135, m1]
      · rw [ro 136 (by decide) (by decide) (by decide) (by decide) (by decide) (by decide) (by decide) (by decide), hx 136 (by decide) (by decide)]
      · rw [rloM_5 (by decide) (by decide) (by decide) (by decide), w5 39 (by decide) (by decide), m2]
      · rw [rloM_5 (by decide) (by decide) (by decide) (by decide), w5 39 (by decide) (by decide), m2, rm1_39, hc 25 (by decide), q1 25 (by decide) (by decide) (by decide) (by decide) (by decide) (by decide) (by decide) (by decide) (by decide) (by decide), hJ.x.1.1]
        unfold zloK
        rw [zkp_2]
        unfold zkn
        rw [zup_or (by decide)]
      · rw [rloM_5 (by decide) (by decide) (by decide) (by decide), rlo2_5 (by decide) (by decide) (by decide) (Or.inr rfl), e115, hc 0 (by decide), m0, zup_ne (by decide)]
        exact hJ.x.1.2.1
      · rw [rloM_5 (by decide) (by decide) (by decide) (by decide), w5 30 (by decide) (by decide), rm1_5 (by decide) (by decide) (by decide) (by decide), hc 0 (by decide), m0, zup_i, he]
        unfold rlo1
        rw [zup_i, if_neg hne]
      · rw [rloM_5 (by decide) (by decide) (by decide) (by decide), w5 26 (by decide) (by decide), rm1_5 (by decide) (by decide) (by decide) (by decide), hc 99 (by decide), m99]
        unfold rlo1
        rw [zup_ne (by decide), zup_i]
      · rw [hc 99 (by decide), m99]
        exact fun j hj => by omega
    refine ⟨_, _, hr, zTy_i, ro 137 (by decide) (by decide) (by decide) (by decide) (by decide) (by decide) (by decide) (by decide), hJ2, fun _ => Or.inr ⟨?_, rfl⟩⟩
    rw [rloM_5 (by decide) (by decide) (by decide) (by decide), w5 0 (by decide) (by decide), rm1_0]
end
