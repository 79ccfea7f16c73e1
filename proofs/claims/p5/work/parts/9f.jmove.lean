/-! Both: beliefs made even, places, moves, drives. -/
theorem rfo_o {M : zM} {x : Int} {q : Nat} (h : ¬ q = 115) : rfoM M x q = M q := by
  unfold rfoM
  rw [zup_or h, zup_or h, zup_or h]
theorem rfo_5 {M : zM} {x : Int} {j : Nat} (h1 : ¬ j = 19) (h2 : ¬ j = 20) (h3 : ¬ j = 21) : rfoM M x 115 j = M 115 j := by
  unfold rfoM
  rw [zup_ne h3, zup_ne h2, zup_ne h1]
theorem rfo_i {M : zM} {x : Int} : rfoM M x 115 19 = 0 ∧ rfoM M x 115 20 = 0 ∧ rfoM M x 115 21 = x := by
  unfold rfoM
  refine ⟨?_, ?_, zup_i⟩
  · rw [zup_ne (by decide), zup_ne (by decide), zup_i]
  · rw [zup_ne (by decide), zup_i]
theorem zev_rev {X C K : zM} (h : zEf X zn1 C zn1) {j : Nat} (hj : (j : Int) < zsz C zn1) : revM K C 120 120 j = zevM X zn1 12 12 j := by
  unfold revM zevM
  rw [h.sz, rsc_q (by decide) (by omega), zscM_q (by decide) (by omega)]
  refine zsc_c (fun i hi => ?_) j (by omega)
  rw [ztab_i hi, ztab_i hi]
  unfold zevW
  rw [show zfreeN C zn1 i = zfreeN X zn1 i from propext (h.fr i).symm]
theorem rL_0 {C' M' : zM} {c : Int} (h8 : C' (zn1 + 8) 0 = c ∧ C' (zn1 + 8) 1 = 0 ∧ C' (zn1 + 8) 2 = 0) (m : M' 115 19 = 0 ∧ M' 115 20 = 0 ∧ M' 115 21 = c) : rL C' M' := by
  have ht : ztot C' zn1 = 0 := by unfold ztot; rw [h8.2.1, h8.2.2]; rfl
  refine ⟨⟨m.1.trans h8.2.1.symm, m.2.1.trans h8.2.2.symm, m.2.2.trans h8.1.symm⟩, fun i hi => ?_⟩
  rw [ht] at hi
  unfold zmi at hi
  split at hi <;> omega
/-- a move is put to the steps of both -/
theorem rL_mv {C C' M M' : zM} {x : Int} (h : rL C M) (ht : 0 ≤ ztot C zn1) (hx : x < 10) (h1 : C' (zn1 + 1) = C (zn1 + 1)) (hf : ∀ c : Nat, zfreeN C' zn1 c → zfreeN C zn1 c) (hz : zsz C zn1 ≤ 36)
    (h8 : ∀ j, C' (zn1 + 8) j = if j = 1 then C (zn1 + 8) 1 + 1 else C (zn1 + 8) j) (h9 : ∀ j, C' (zn1 + 9) j = if ztot C zn1 < 8 ∧ j = (ztot C zn1).toNat then x else C (zn1 + 9) j) (h10 : ∀ j, C' (zn1 + 10) j = if ztot C zn1 < 8 ∧ (ztot C zn1 * 36).toNat ≤ j ∧ j < (ztot C zn1 * 36).toNat + 4 then C (zn1 + 6) (j - (ztot C zn1 * 36).toNat) else C (zn1 + 10) j)
    (m19 : M' 115 19 = M 115 19 + 1) (m20 : M' 115 20 = M 115 20) (m21 : M' 115 21 = M 115 21) (m3 : ∀ j, M' 123 j = if ztot C zn1 < 8 ∧ j = (ztot C zn1).toNat then x else M 123 j) (m4 : ∀ j, M' 124 j = if ztot C zn1 < 8 ∧ (4 * ztot C zn1).toNat ≤ j ∧ j < (4 * ztot C zn1).toNat + 4 then M 118 (j - (4 * ztot C zn1).toNat) else M 124 j) (m5 : M' 125 = M 125) (hm : ∀ y : Nat, y < 4 → M 118 y = C (zn1 + 6) y) : rL C' M' := by
  obtain ⟨⟨r1, r2, r3⟩, r4⟩ := h
  have e0 : C' (zn1 + 8) 0 = C (zn1 + 8) 0 := by rw [h8]; rfl
  have e1 : C' (zn1 + 8) 1 = C (zn1 + 8) 1 + 1 := by rw [h8]; rfl
  have e2 : C' (zn1 + 8) 2 = C (zn1 + 8) 2 := by rw [h8]; rfl
  have htt : ztot C' zn1 = ztot C zn1 + 1 := by unfold ztot; rw [e1, e2]; omega
  have hs : zsz C' zn1 = zsz C zn1 := by unfold zsz; rw [h1]
  refine ⟨⟨by rw [m19, r1, e1], by rw [m20, r2, e2], by rw [m21, r3, e0]⟩, fun i hi => ?_⟩
  rw [htt] at hi
  have hi2 : (i : Int) < ztot C zn1 + 1 ∧ (i : Int) < 8 := by unfold zmi at hi; split at hi <;> omega
  rw [h9, m3, hs]
  by_cases hc : ztot C zn1 < 8 ∧ i = (ztot C zn1).toNat
  · rw [if_pos hc, if_pos hc]
    refine ⟨rfl, fun _ y hy => ?_, fun e => absurd hx e⟩
    rw [h10, m4, if_pos ⟨hc.1, by omega, by omega⟩, if_pos ⟨hc.1, by omega, by omega⟩, show 4 * i + y - (4 * ztot C zn1).toNat = y by omega, show i * 36 + y - (ztot C zn1 * 36).toNat = y by omega]
    exact hm y hy
  · rw [if_neg hc, if_neg hc]
    have hil : (i : Int) < zmi (ztot C zn1) 8 := by unfold zmi; split <;> omega
    obtain ⟨s1, s2, s3⟩ := r4 i hil
    refine ⟨s1, fun e y hy => ?_, fun e c hcs hcf => ?_⟩
    · rw [h10, m4, if_neg (fun e => by omega), if_neg (fun e => by omega)]
      exact s2 e y hy
    · rw [h10, m5, if_neg (fun e => by omega)]
      exact s3 e c hcs (hf c hcf)
/-- a sight is put to the steps of both -/
theorem rL_sg {C C' M M' : zM} {k : Int} {F G : zF} (h : rL C M) (ht : 0 ≤ ztot C zn1) (hk : 0 ≤ k) (h1 : C' (zn1 + 1) = C (zn1 + 1)) (hf : ∀ c : Nat, zfreeN C' zn1 c → zfreeN C zn1 c) (hz : zsz C zn1 ≤ 36)
    (h8 : ∀ j, C' (zn1 + 8) j = if j = 2 then C (zn1 + 8) 2 + 1 else C (zn1 + 8) j) (h9 : ∀ j, C' (zn1 + 9) j = if ztot C zn1 < 8 ∧ j = (ztot C zn1).toNat then 10 + k else C (zn1 + 9) j) (h10 : ∀ j, C' (zn1 + 10) j = if ztot C zn1 < 8 ∧ (ztot C zn1 * 36).toNat ≤ j ∧ j < (ztot C zn1 * 36).toNat + (zsz C zn1).toNat then F (j - (ztot C zn1 * 36).toNat) else C (zn1 + 10) j)
    (m19 : M' 115 19 = M 115 19) (m20 : M' 115 20 = M 115 20 + 1) (m21 : M' 115 21 = M 115 21) (m3 : ∀ j, M' 123 j = if ztot C zn1 < 8 ∧ j = (ztot C zn1).toNat then 10 + k else M 123 j) (m5 : ∀ j, M' 125 j = if ztot C zn1 < 8 ∧ (36 * ztot C zn1).toNat ≤ j ∧ j < (36 * ztot C zn1).toNat + (zsz C zn1).toNat then G (j - (36 * ztot C zn1).toNat) else M 125 j) (m4 : M' 124 = M 124) (hm : ∀ c : Nat, (c : Int) < zsz C zn1 → zfreeN C zn1 c → G c = F c) : rL C' M' := by
  obtain ⟨⟨r1, r2, r3⟩, r4⟩ := h
  have e0 : C' (zn1 + 8) 0 = C (zn1 + 8) 0 := by rw [h8]; rfl
  have e1 : C' (zn1 + 8) 1 = C (zn1 + 8) 1 := by rw [h8]; rfl
  have e2 : C' (zn1 + 8) 2 = C (zn1 + 8) 2 + 1 := by rw [h8]; rfl
  have htt : ztot C' zn1 = ztot C zn1 + 1 := by unfold ztot; rw [e1, e2]; omega
  have hs : zsz C' zn1 = zsz C zn1 := by unfold zsz; rw [h1]
  refine ⟨⟨by rw [m19, r1, e1], by rw [m20, r2, e2], by rw [m21, r3, e0]⟩, fun i hi => ?_⟩
  rw [htt] at hi
  have hi2 : (i : Int) < ztot C zn1 + 1 ∧ (i : Int) < 8 := by unfold zmi at hi; split at hi <;> omega
  rw [h9, m3, hs]
  by_cases hc : ztot C zn1 < 8 ∧ i = (ztot C zn1).toNat
  · rw [if_pos hc, if_pos hc]
    refine ⟨rfl, fun e => by omega, fun _ c hcs hcf => ?_⟩
    rw [h10, m5, if_pos ⟨hc.1, by omega, by omega⟩, if_pos ⟨hc.1, by omega, by omega⟩, show 36 * i + c - (36 * ztot C zn1).toNat = c by omega, show i * 36 + c - (ztot C zn1 * 36).toNat = c by omega]
    exact hm c hcs (hf c hcf)
  · rw [if_neg hc, if_neg hc]
    have hil : (i : Int) < zmi (ztot C zn1) 8 := by unfold zmi; split <;> omega
    obtain ⟨s1, s2, s3⟩ := r4 i hil
    refine ⟨s1, fun e y hy => ?_, fun e c hcs hcf => ?_⟩
    · rw [h10, m4, if_neg (fun e => by omega)]
      exact s2 e y hy
    · rw [h10, m5, if_neg (fun e => by omega), if_neg (fun e => by omega)]
      exact s3 e c hcs (hf c hcf)
theorem rkm_3 {M : zM} {x : Int} {j : Nat} : rkmM M x 123 j = if rtt M < 8 ∧ j = (rtt M).toNat then x else M 123 j := by
  unfold rkmM rkmX
  by_cases h : rtt M < 8
  · rw [if_pos h, ztao_o (by decide), zup_at, zup_o (fun e => absurd e.1 (by decide))]
    by_cases hj : j = (rtt M).toNat
    · rw [if_pos hj, if_pos ⟨h, hj⟩]
    · rw [if_neg hj, if_neg (fun e => hj e.2)]
  · rw [if_neg h, if_neg (fun e => h e.1), zup_o (fun e => absurd e.1 (by decide))]
theorem rkm_4 {M : zM} {x : Int} {j : Nat} : rkmM M x 124 j = if rtt M < 8 ∧ (4 * rtt M).toNat ≤ j ∧ j < (4 * rtt M).toNat + 4 then M 118 (j - (4 * rtt M).toNat) else M 124 j := by
  unfold rkmM rkmX
  by_cases h : rtt M < 8
  · rw [if_pos h]
    unfold ztao
    by_cases hj : (4 * rtt M).toNat ≤ j ∧ j < (4 * rtt M).toNat + 4
    · rw [if_pos ⟨rfl, hj⟩, if_pos ⟨h, hj⟩]
    · rw [if_neg (fun e => hj e.2), if_neg (fun e => hj e.2), zup_o (fun e => absurd e.1 (by decide)), zup_o (fun e => absurd e.1 (by decide))]
  · rw [if_neg h, if_neg (fun e => h e.1), zup_o (fun e => absurd e.1 (by decide))]
theorem rkm_19 {M : zM} {x : Int} : rkmM M x 115 19 = M 115 19 + 1 := by
  unfold rkmM rkmX
  split
  · rw [ztao_o (by decide), zup_o (fun e => absurd e.1 (by decide)), zup_i]
  · exact zup_i
theorem rkm_o {M : zM} {x : Int} {q : Nat} (h1 : ¬ q = 115) (h2 : ¬ q = 123) (h3 : ¬ q = 124) : rkmM M x q = M q := by
  unfold rkmM rkmX
  split
  · rw [ztao_or h3, zup_or h2, zup_or h1]
  · exact zup_or h1
theorem rmv_o {C M : zM} {e : Int} {q : Nat} (h1 : ¬ q = 115) (h2 : ¬ q = 123) (h3 : ¬ q = 124) (h4 : ¬ q = 120) (h5 : ¬ q = 121) (h6 : ¬ q = 122) : rmvM C M e q = M q := by
  unfold rmvM
  rw [rkm_o h1 h2 h3, rmw_o h4 h6 h5]
theorem rks_3 {C M : zM} {x : Int} {j : Nat} : rksM C M x 123 j = if rtt M < 8 ∧ j = (rtt M).toNat then 10 + x else M 123 j := by
  unfold rksM rksX
  by_cases h : rtt M < 8
  · rw [if_pos h, ztao_o (by decide), zup_at, zup_o (fun e => absurd e.1 (by decide))]
    by_cases hj : j = (rtt M).toNat
    · rw [if_pos hj, if_pos ⟨h, hj⟩]
    · rw [if_neg hj, if_neg (fun e => hj e.2)]
  · rw [if_neg h, if_neg (fun e => h e.1), zup_o (fun e => absurd e.1 (by decide))]
theorem rks_25 {C M : zM} {x : Int} {j : Nat} : rksM C M x 125 j = if rtt M < 8 ∧ (36 * rtt M).toNat ≤ j ∧ j < (36 * rtt M).toNat + (zsz C zn1).toNat then rksF C x (j - (36 * rtt M).toNat) else M 125 j := by
  unfold rksM rksX
  by_cases h : rtt M < 8
  · rw [if_pos h]
    unfold ztao
    by_cases hj : (36 * rtt M).toNat ≤ j ∧ j < (36 * rtt M).toNat + (zsz C zn1).toNat
    · rw [if_pos ⟨rfl, hj⟩, if_pos ⟨h, hj⟩]
    · rw [if_neg (fun e => hj e.2), if_neg (fun e => hj e.2), zup_o (fun e => absurd e.1 (by decide)), zup_o (fun e => absurd e.1 (by decide))]
  · rw [if_neg h, if_neg (fun e => h e.1), zup_o (fun e => absurd e.1 (by decide))]
theorem rks_20 {C M : zM} {x : Int} : rksM C M x 115 20 = M 115 20 + 1 := by
  unfold rksM rksX
  split
  · rw [ztao_o (by decide), zup_o (fun e => absurd e.1 (by decide)), zup_i]
  · exact zup_i
theorem zE9_k {M : zM} : zE9 (zkpM M zn1) M zn1 := ⟨zkp_o (by decide), zkp_o (by decide), zkp_o (by decide), zkp_o (by decide), zkp_o (by decide), zkp_o (by decide), zkp_o (by decide)⟩
/-- beliefs behind a move -/
theorem rB_mv {C Y K : zM} {e : Int} (hE : zE9 Y C zn1) (h102 : Y 102 = C 102) {j : Nat} (hj : (j : Int) < zsz C zn1) : rmvM C K e 120 j = zmvM Y zn1 e 12 12 j := by
  rw [rmv_120 (by omega)]
  unfold zmvM
  rw [zsz_c hE.e2, zscM_q (by decide) (by omega)]
  unfold zmwM
  rw [zrow_q, zmw_c hE h102]
/-- what a move does to the rows of both; the rover and the number may differ from those that the ghost has -/
theorem zmove_6 {C Y K : zM} {n x : Int} (hB : zBI n C zn1) (hE : zE9 Y C zn1) (hY : ∀ q : Nat, q = 4 ∨ q = 9 ∨ q = 10 ∨ q = 11 → Y q = C q) (h102 : Y 102 = C 102) (hx : 0 ≤ x ∧ x < 4) (hA : rA C K) (hC : rC C K) (hT : rT C K) (hL : rB C K) (hR : rL C K) : rA (zgoM Y x) (rmvM C K x) ∧ rC (zgoM Y x) (rmvM C K x) ∧ rT (zgoM Y x) (rmvM C K x) ∧ rB (zgoM Y x) (rmvM C K x) ∧ rL (zgoM Y x) (rmvM C K x) := by
  obtain ⟨g6, g7⟩ := hB.g.sz
  have hz : zsz C zn1 = C (zn1 + 1) 0 * C (zn1 + 1) 1 := rfl
  have c1 : zgoM Y x (zn1 + 1) = C (zn1 + 1) := (zgo_o (by decide) (by decide) (by decide) (by decide) (by decide) (by decide)).trans hE.1
  have c2 : zgoM Y x (zn1 + 2) = C (zn1 + 2) := (zgo_o (by decide) (by decide) (by decide) (by decide) (by decide) (by decide)).trans hE.2.1
  have c3 : zgoM Y x (zn1 + 3) = C (zn1 + 3) := (zgo_o (by decide) (by decide) (by decide) (by decide) (by decide) (by decide)).trans (hY 4 (by omega))
  have c5 : zgoM Y x (zn1 + 5) = C (zn1 + 5) := (zgo_o (by decide) (by decide) (by decide) (by decide) (by decide) (by decide)).trans hE.2.2.2.1
  have c6 : zgoM Y x (zn1 + 6) = C (zn1 + 6) := (zgo_o (by decide) (by decide) (by decide) (by decide) (by decide) (by decide)).trans hE.2.2.2.2.1
  have c7 : zgoM Y x (zn1 + 7) = C (zn1 + 7) := (zgo_o (by decide) (by decide) (by decide) (by decide) (by decide) (by decide)).trans hE.2.2.2.2.2.1
  have hrt : rtt (rmwM C K x) = ztot C zn1 := by
    unfold rtt
    rw [rmw_o (by decide) (by decide) (by decide)]
    rw [hR.1.1, hR.1.2.1]
    rfl
  refine ⟨?_, ?_, ?_, ?_, ?_⟩
  · exact rA_t c1 c2 (rmv_5 (by decide)) (rmv_5 (by decide)) (rmv_o (by decide) (by decide) (by decide) (by decide) (by decide) (by decide)) hA
  · exact rC_t c1 c3 (rmv_o (by decide) (by decide) (by decide) (by decide) (by decide) (by decide)) hC
  · exact rT_t c5 c6 c7 (rmv_5 (by decide)) (rmv_5 (by decide)) (rmv_o (by decide) (by decide) (by decide) (by decide) (by decide) (by decide)) (rmv_o (by decide) (by decide) (by decide) (by decide) (by decide) (by decide)) hT
  · intro j hj
    have hj2 : (j : Int) < zsz C zn1 := by
      unfold zsz at hj ⊢
      rw [c1] at hj
      exact hj
    rw [rB_mv hE h102 hj2]
    unfold zgoM
    rw [zamM_o (by decide) (by decide) (by decide)]
  · have y8 : zmvM Y zn1 x (zn1 + 11) (zn1 + 8) = C (zn1 + 8) := (zmvM_o (by decide) (by decide) (by decide)).trans (hY 9 (by omega))
    have y9 : zmvM Y zn1 x (zn1 + 11) (zn1 + 9) = C (zn1 + 9) := (zmvM_o (by decide) (by decide) (by decide)).trans (hY 10 (by omega))
    have y10 : zmvM Y zn1 x (zn1 + 11) (zn1 + 10) = C (zn1 + 10) := (zmvM_o (by decide) (by decide) (by decide)).trans (hY 11 (by omega))
    have y6 : zmvM Y zn1 x (zn1 + 11) (zn1 + 6) = C (zn1 + 6) := (zmvM_o (by decide) (by decide) (by decide)).trans hE.2.2.2.2.1
    have yt : ztot (zmvM Y zn1 x (zn1 + 11)) zn1 = ztot C zn1 := by unfold ztot; rw [y8]
    refine rL_mv (C := C) (M := K) (x := x) hR hB.t0 (by omega) c1 (zfr_t c1 c2) (by omega) (fun j => ?_) (fun j => ?_) (fun j => ?_) ?_ (rmv_5 (by decide)) (rmv_5 (by decide)) (fun j => ?_) (fun j => ?_) (rmv_o (by decide) (by decide) (by decide) (by decide) (by decide) (by decide)) (fun y hy => hT.2.1 y hy)
    · unfold zgoM
      rw [zam_8, y8]
    · unfold zgoM
      rw [zam_9, yt, y9]
    · unfold zgoM
      rw [zam_10, yt, y10, y6]
    · unfold rmvM
      rw [rkm_19, rmw_o (by decide) (by decide) (by decide)]
    · unfold rmvM
      rw [rkm_3, hrt, rmw_o (by decide) (by decide) (by decide)]
    · unfold rmvM
      rw [rkm_4, hrt, rmw_o (by decide) (by decide) (by decide), rmw_o (by decide) (by decide) (by decide)]
/-- the greatest belief of both -/
theorem zgr_zbest {F : zF} : ∀ n : Nat, (∀ j, j < n + 1 → 0 ≤ F j) → F (zbestf F n) = zgr F (n + 1)
  | 0, h => by
    show F 0 = zmx 0 (F 0)
    have := h 0 (by omega)
    unfold zmx
    split <;> omega
  | n + 1, h => by
    have ih := zgr_zbest n (fun j hj => h j (by omega))
    show F (if F (zbestf F n) < F (n + 1) then n + 1 else zbestf F n) = zmx (zgr F (n + 1)) (F (n + 1))
    rw [← ih]
    unfold zmx
    split
    · rfl
    · rfl
theorem zgr_cc {F G : zF} : ∀ n, (∀ j, j < n → F j = G j) → zgr F n = zgr G n
  | 0, _ => rfl
  | n + 1, h => by
    show zmx (zgr F n) (F n) = zmx (zgr G n) (G n)
    rw [zgr_cc n (fun j hj => h j (by omega)), h n (by omega)]
theorem zgr_bb {F G : zF} {n : Nat} (h0 : 0 < n) (hF : ∀ j, j < n → 0 ≤ F j) (h : ∀ j, j < n → F j = G j) : F (zbest F n) = zgr G n := by
  unfold zbest
  rw [zgr_zbest (n - 1) (fun j hj => hF j (by omega)), show n - 1 + 1 = n by omega]
  exact zgr_cc n h
theorem zdv3_9 {M : zM} {x : Int} : zE9 (zdv3 M x) M zn1 := ⟨by unfold zdv3 zdv2; rw [zup_or (by decide), zup_or (by decide), zkp_o (by decide)], by unfold zdv3 zdv2; rw [zup_or (by decide), zup_or (by decide), zkp_o (by decide)], by unfold zdv3 zdv2; rw [zup_or (by decide), zup_or (by decide), zkp_o (by decide)], by unfold zdv3 zdv2; rw [zup_or (by decide), zup_or (by decide), zkp_o (by decide)], by unfold zdv3 zdv2; rw [zup_or (by decide), zup_or (by decide), zkp_o (by decide)], by unfold zdv3 zdv2; rw [zup_or (by decide), zup_or (by decide), zkp_o (by decide)], by unfold zdv3 zdv2; rw [zup_or (by decide), zup_or (by decide), zkp_o (by decide)]⟩
theorem zdv3_o {M : zM} {x : Int} {q : Nat} (h : ¬ q = zn1) : zdv3 M x q = zkpM M zn1 q := by
  unfold zdv3 zdv2
  rw [zup_or h, zup_or h]
/-- the counted hits of both -/
theorem zhit_7 {C Y K : zM} {n : Int} (hg : zGr Y zn1) (hs : zsz Y zn1 = zsz C zn1) (hL : ∀ j : Nat, (j : Int) < zsz C zn1 → K 120 j = Y (zn1 + 11) j) (h4 : K 115 10 = Y zn1 4) (h7 : K 115 13 = Y zn1 7) : rteM C K 115 13 = zchM Y zn1 7 := by
  obtain ⟨g6, g7⟩ := hg.sz
  have hz : zsz Y zn1 = Y (zn1 + 1) 0 * Y (zn1 + 1) 1 := rfl
  have e : rord (K 120) (zsz C zn1).toNat (0 : Int).toNat = zrkM Y zn1 106 0 := by
    rw [← hs]
    exact rord_c (C := Y) (fun j hj => hL j (by omega)) (by show 0 < _; omega)
  have e4 : zrkM Y zn1 zn1 4 = Y zn1 4 := by rw [zrkM_o (by decide) (by decide)]
  have e7 : zrkM Y zn1 zn1 7 = Y zn1 7 := by rw [zrkM_o (by decide) (by decide)]
  unfold rteM zchM
  rw [zup_i, e, h4, e4, h7]
  by_cases h : zrkM Y zn1 106 0 = Y zn1 4
  · rw [zb_t h, if_pos h, zup_i, e7]
  · rw [zb_f h, if_neg h, e7, Int.add_zero]
theorem zch_5 {Y : zM} {j : Nat} (h : ¬ j = 7) : zchM Y zn1 j = Y zn1 j := by
  unfold zchM
  split
  · rw [zup_ne h, zrkM_o (by decide) (by decide)]
  · rw [zrkM_o (by decide) (by decide)]
theorem rte_o {C K : zM} {q : Nat} (h : ¬ q = 115) : rteM C K q = K q := zup_or h
theorem rte_5 {C K : zM} {j : Nat} (h : ¬ j = 13) : rteM C K 115 j = K 115 j := zup_ne h
theorem zdr_16 {z : Int} : zdr z 16 = zus z 16 % 16 := if_pos (by decide)
/-- behind a drive: the rows of both -/
theorem zdrive_6 {M K : zM} {n x : Int} (hB : zBI n M zn1) (hx : 0 ≤ x ∧ x < 4) (h6 : zR6 M K) : zR6 (zdvM M x) (rdvM M K x) := by
  obtain ⟨hA, hC, hT, hL, hS, hR⟩ := h6
  obtain ⟨g6, g7⟩ := hB.g.sz
  have hz : zsz M zn1 = M (zn1 + 1) 0 * M (zn1 + 1) 1 := rfl
  have s10 : rm1 K 115 10 = M zn1 4 := (rm1_5 (by decide) (by decide) (by decide) (by decide)).trans hS.1
  have s11 : rm1 K 115 11 = M zn1 5 := (rm1_5 (by decide) (by decide) (by decide) (by decide)).trans hS.2.1
  have s12 : rm1 K 115 12 = M zn1 6 := (rm1_5 (by decide) (by decide) (by decide) (by decide)).trans hS.2.2.1
  have s13 : rm1 K 115 13 = M zn1 7 := (rm1_5 (by decide) (by decide) (by decide) (by decide)).trans hS.2.2.2
  have k4 : zkpM M zn1 zn1 = M zn1 := zkp_o (by decide)
  have d5 : zdv2 M zn1 5 = znn (M zn1 5) := by unfold zdv2; rw [zup_i, k4]
  have d4 : zdv2 M zn1 4 = M zn1 4 := by unfold zdv2; rw [zup_ne (by decide), k4]
  have dq : ∀ q : Nat, ¬ q = zn1 → q < 25 → zdv2 M q = M q := fun q h h2 => by unfold zdv2; rw [zup_or h, zkp_o (Or.inl h2)]
  have hw : zdvW M = zway M zn1 (zus (znn (rm1 K 115 11)) 16 % 16) := by
    unfold zdvW
    rw [d5, s11, zdr_16]
    unfold zway zms
    rw [dq _ (by decide) (by decide)]
  have htg : ∀ v : Int, ztarget (zdv2 M) zn1 (M zn1 4) x v = ztarget M zn1 (M zn1 4) x v := fun v => by
    unfold ztarget
    rw [dq _ (by decide) (by decide)]
  have y4 : zdv3 M x zn1 4 = ztarget M zn1 (M zn1 4) x (zdvW M) := by unfold zdv3; rw [zup_i, d4, htg]
  have y5 : zdv3 M x zn1 5 = znn (M zn1 5) := by unfold zdv3; rw [zup_ne (by decide), d5]
  have y6 : zdv3 M x zn1 6 = M zn1 6 := by unfold zdv3 zdv2; rw [zup_ne (by decide), zup_ne (by decide), k4]
  have y7 : zdv3 M x zn1 7 = M zn1 7 := by unfold zdv3 zdv2; rw [zup_ne (by decide), zup_ne (by decide), k4]
  generalize hv : zway M zn1 (zus (znn (rm1 K 115 11)) 16 % 16) = v at hw
  have w10 : rdv1 M (rdv2 K) x v 115 10 = ztarget M zn1 (M zn1 4) x v := by unfold rdv1; rw [zup_i, rd2_5 (by decide) (by decide) (by decide) (by decide) (by decide), hS.1]
  have w11 : rdv1 M (rdv2 K) x v 115 11 = znn (M zn1 5) := by unfold rdv1; rw [zup_ne (by decide), rd2_11, hS.2.1]
  have wq : ∀ q : Nat, ¬ q = 115 → ¬ q = 135 → rdv1 M (rdv2 K) x v q = K q := fun q a b => by unfold rdv1; rw [zup_or a, rd2_o a b]
  have w5 : ∀ j : Nat, ¬ j = 0 → ¬ j = 39 → ¬ j = 40 → ¬ j = 42 → ¬ j = 10 → ¬ j = 11 → rdv1 M (rdv2 K) x v 115 j = K 115 j := fun j a b c d e f => by unfold rdv1; rw [zup_ne e, rd2_5 a b c d f]
  have eY : ∀ q : Nat, q = 4 ∨ q = 9 ∨ q = 10 ∨ q = 11 → zdv3 M x q = M q := fun q h => by rw [zdv3_o (by have : zn1 = 1 := rfl; omega), zkp_o (by omega)]
  have hm := zmove_6 (C := M) (Y := zdv3 M x) (K := rdv1 M (rdv2 K) x v) hB zdv3_9 eY (by rw [zdv3_o (by decide), zkp_o (by decide)]) hx
    (rA_t rfl rfl (w5 6 (by decide) (by decide) (by decide) (by decide) (by decide) (by decide)) (w5 7 (by decide) (by decide) (by decide) (by decide) (by decide) (by decide)) (wq _ (by decide) (by decide)) hA)
    (rC_t rfl rfl (wq _ (by decide) (by decide)) hC)
    (rT_t rfl rfl rfl (w5 8 (by decide) (by decide) (by decide) (by decide) (by decide) (by decide)) (w5 9 (by decide) (by decide) (by decide) (by decide) (by decide) (by decide)) (wq _ (by decide) (by decide)) (wq _ (by decide) (by decide)) hT)
    (rB_t rfl rfl (wq _ (by decide) (by decide)) hL)
    (rL_t rfl (fun c h => h) rfl rfl rfl (w5 19 (by decide) (by decide) (by decide) (by decide) (by decide) (by decide)) (w5 20 (by decide) (by decide) (by decide) (by decide) (by decide) (by decide)) (w5 21 (by decide) (by decide) (by decide) (by decide) (by decide) (by decide)) (wq _ (by decide) (by decide)) (wq _ (by decide) (by decide)) (wq _ (by decide) (by decide)) hR)
  obtain ⟨mA, mC, mT, mL, mR⟩ := hm
  have hrd : rdvM M K x = rteM M (rmvM M (rdv1 M (rdv2 K) x v) x) := by unfold rdvM rdvE; rw [hv]
  have hzd : zdvM M x = zchM (zgoM (zdv3 M x) x) := rfl
  have gz : zsz (zgoM (zdv3 M x) x) zn1 = zsz M zn1 := by
    unfold zsz
    rw [zgo_o (by decide) (by decide) (by decide) (by decide) (by decide) (by decide), zdv3_9.1]
  have gg : zGr (zgoM (zdv3 M x) x) zn1 := zGr_c ⟨(zgo_o (by decide) (by decide) (by decide) (by decide) (by decide) (by decide)).trans zdv3_9.1, (zgo_o (by decide) (by decide) (by decide) (by decide) (by decide) (by decide)).trans zdv3_9.2.1⟩ hB.g
  have g1 : zgoM (zdv3 M x) x zn1 = zdv3 M x zn1 := zgo_o (by decide) (by decide) (by decide) (by decide) (by decide) (by decide)
  rw [hrd, hzd]
  refine ⟨?_, ?_, ?_, ?_, ⟨?_, ?_, ?_, ?_⟩, ?_⟩
  · exact rA_t (zch_o (by decide) (by decide) (by decide)) (zch_o (by decide) (by decide) (by decide)) (rte_5 (by decide)) (rte_5 (by decide)) (rte_o (by decide)) mA
  · exact rC_t (zch_o (by decide) (by decide) (by decide)) (zch_o (by decide) (by decide) (by decide)) (rte_o (by decide)) mC
  · exact rT_t (zch_o (by decide) (by decide) (by decide)) (zch_o (by decide) (by decide) (by decide)) (zch_o (by decide) (by decide) (by decide)) (rte_5 (by decide)) (rte_5 (by decide)) (rte_o (by decide)) (rte_o (by decide)) mT
  · exact rB_t (zch_o (by decide) (by decide) (by decide)) (zch_o (by decide) (by decide) (by decide)) (rte_o (by decide)) mL
  · rw [rte_5 (by decide), rmv_5 (by decide), w10, zch_5 (by decide), g1, y4, hw]
  · rw [rte_5 (by decide), rmv_5 (by decide), w11, zch_5 (by decide), g1, y5]
  · rw [rte_5 (by decide), rmv_5 (by decide), w5 12 (by decide) (by decide) (by decide) (by decide) (by decide) (by decide), zch_5 (by decide), g1, y6]
    exact hS.2.2.1
  · refine zhit_7 (n := n) gg gz (fun j hj => mL j (by rw [gz]; exact hj)) ?_ ?_
    · rw [rmv_5 (by decide), w10, g1, y4, hw]
    · rw [rmv_5 (by decide), w5 13 (by decide) (by decide) (by decide) (by decide) (by decide) (by decide), g1, y7]
      exact hS.2.2.2
  · exact rL_t (zch_o (by decide) (by decide) (by decide)) (zfr_t (zch_o (by decide) (by decide) (by decide)) (zch_o (by decide) (by decide) (by decide))) (zch_o (by decide) (by decide) (by decide)) (zch_o (by decide) (by decide) (by decide)) (zch_o (by decide) (by decide) (by decide)) (rte_5 (by decide)) (rte_5 (by decide)) (rte_5 (by decide)) (rte_o (by decide)) (rte_o (by decide)) (rte_o (by decide)) mR
theorem zdv_o {M : zM} {x : Int} {q : Nat} (h : 13 ≤ q ∧ q < 102 ∨ 115 ≤ q ∨ q = 0) : zdvM M x q = zkpM M zn1 q := by
  have hz1 : zn1 = 1 := rfl
  unfold zdvM
  rw [zch_o (by omega) (by omega) (by omega), zgo_o (by omega) (by omega) (by omega) (by omega) (by omega) (by omega), zdv3_o (by omega)]
theorem rdv_o {M K : zM} {x : Int} {q : Nat} (h : q < 115 ∨ q = 127 ∨ 136 ≤ q) : rdvM M K x q = K q := by
  unfold rdvM rdvE
  rw [rte_o (by omega), rmv_o (by omega) (by omega) (by omega) (by omega) (by omega) (by omega)]
  unfold rdv1
  rw [zup_or (by omega), rd2_o (by omega) (by omega)]
theorem rdv_135 {M K : zM} {x : Int} : rdvM M K x 135 = rm1 K 135 := by
  unfold rdvM rdvE
  rw [rte_o (by decide), rmv_o (by decide) (by decide) (by decide) (by decide) (by decide) (by decide)]
  unfold rdv1 rdv2
  rw [zup_or (by decide), zup_or (by decide)]
theorem rdv_5 {M K : zM} {x : Int} {j : Nat} (h : ¬ j = 10 ∧ ¬ j = 11 ∧ ¬ j = 13 ∧ ¬ j = 19) : rdvM M K x 115 j = rm1 K 115 j := by
  unfold rdvM rdvE
  rw [rte_5 (by omega), rmv_5 (by omega)]
  unfold rdv1 rdv2
  rw [zup_ne (by omega), zup_ne (by omega)]
theorem zj_spread {xs : List Int32} {d : Nat} {n : Int} {M : zM} (hJ : zJo n M) (hn : n + 1 ≤ 600) : zStep xs (d + 13) (d + 13) 84 [.ref 0] 172 [.ref 115] [] 0 True n M := by
  have hI := hJ.k.ci
  (have h6M := hJ.a; exact zst_w (X := M) hJ (fun w => ⟨_, sp_spreadP (d := d + 8) hI   ⟩) (zFo_v zTy_i) (zki_spread hJ.k hn) (fun _ _ => rfl) (fun q a b => (zfg_o (by omega) (by omega) (by omega) (by omega))) (by simp (disch := decide) only [zfg_o, zkp_o]) (by simp (disch := decide) only [zfg_o, zkp_o]) (by simp (disch := decide) only [zfg_o, zkp_o]) (fun q a => (by rw [zfg_o (by omega) (by omega) (by omega) (by omega), zkp_o (by omega)])) (fun K hQ hKq h6 h39 => ⟨_, _, K, (fun w => sp_spreadR (d := d + 8) hJ.b h6.1 h39), zTy_i, (fun q hq => (by rw [rfo_o (by omega), rev_o (by omega) (by omega) (by omega), rm1_o (by omega) (by omega)])), rSc_id, ⟨by simp (disch := decide) only [rfo_o, rev_o], by simp (disch := decide) only [rfo_5, rev_o]⟩, ⟨by simp (disch := decide) only [rfo_5, rev_o, rm1_5], by simp (disch := decide) only [rfo_5, rev_o, rm1_5], by simp (disch := decide) only [rfo_5, rev_o, rm1_5]⟩, ⟨(rA_t (by simp (disch := decide) only [zup_or, zup_ne, zkp_o, rm1_o, rm1_5, rfo_o, rfo_5, rev_o, zfg_o, hKq]) (by simp (disch := decide) only [zup_or, zup_ne, zkp_o, rm1_o, rm1_5, rfo_o, rfo_5, rev_o, zfg_o, hKq]) (by simp (disch := decide) only [zup_or, zup_ne, zkp_o, rm1_o, rm1_5, rfo_o, rfo_5, rev_o, zfg_o, hKq]) (by simp (disch := decide) only [zup_or, zup_ne, zkp_o, rm1_o, rm1_5, rfo_o, rfo_5, rev_o, zfg_o, hKq]) (by simp (disch := decide) only [zup_or, zup_ne, zkp_o, rm1_o, rm1_5, rfo_o, rfo_5, rev_o, zfg_o, hKq]) h6M.1), (rC_t (by simp (disch := decide) only [zup_or, zup_ne, zkp_o, rm1_o, rm1_5, rfo_o, rfo_5, rev_o, zfg_o, hKq]) (by simp (disch := decide) only [zup_or, zup_ne, zkp_o, rm1_o, rm1_5, rfo_o, rfo_5, rev_o, zfg_o, hKq]) (by simp (disch := decide) only [zup_or, zup_ne, zkp_o, rm1_o, rm1_5, rfo_o, rfo_5, rev_o, zfg_o, hKq]) h6M.2.1), (rT_t (by simp (disch := decide) only [zup_or, zup_ne, zkp_o, rm1_o, rm1_5, rfo_o, rfo_5, rev_o, zfg_o, hKq]) (by simp (disch := decide) only [zup_or, zup_ne, zkp_o, rm1_o, rm1_5, rfo_o, rfo_5, rev_o, zfg_o, hKq]) (by simp (disch := decide) only [zup_or, zup_ne, zkp_o, rm1_o, rm1_5, rfo_o, rfo_5, rev_o, zfg_o, hKq]) (by simp (disch := decide) only [zup_or, zup_ne, zkp_o, rm1_o, rm1_5, rfo_o, rfo_5, rev_o, zfg_o, hKq]) (by simp (disch := decide) only [zup_or, zup_ne, zkp_o, rm1_o, rm1_5, rfo_o, rfo_5, rev_o, zfg_o, hKq]) (by simp (disch := decide) only [zup_or, zup_ne, zkp_o, rm1_o, rm1_5, rfo_o, rfo_5, rev_o, zfg_o, hKq]) (by simp (disch := decide) only [zup_or, zup_ne, zkp_o, rm1_o, rm1_5, rfo_o, rfo_5, rev_o, zfg_o, hKq]) h6M.2.2.1), (fun j hj => (by have e9 : zsz (zfgM (zkpM M zn1)) zn1 = zsz M zn1 := (by unfold zsz; simp (disch := decide) only [zfg_o, zkp_o]); rw [e9] at hj; have h9 := zev_rev (K := rm1 K) (show zE2 (zkpM M zn1) M zn1 from ⟨zkp_o (by decide), zkp_o (by decide)⟩).ef hj; simp (disch := decide) only [rfo_o]; rw [h9]; unfold zfgM; rw [zclM_o (by decide)])), (rS_t (by simp (disch := decide) only [zup_or, zup_ne, zkp_o, rm1_o, rm1_5, rfo_o, rfo_5, rev_o, zfg_o, hKq]) (by simp (disch := decide) only [zup_or, zup_ne, zkp_o, rm1_o, rm1_5, rfo_o, rfo_5, rev_o, zfg_o, hKq]) (by simp (disch := decide) only [zup_or, zup_ne, zkp_o, rm1_o, rm1_5, rfo_o, rfo_5, rev_o, zfg_o, hKq]) (by simp (disch := decide) only [zup_or, zup_ne, zkp_o, rm1_o, rm1_5, rfo_o, rfo_5, rev_o, zfg_o, hKq]) (by simp (disch := decide) only [zup_or, zup_ne, zkp_o, rm1_o, rm1_5, rfo_o, rfo_5, rev_o, zfg_o, hKq]) (by simp (disch := decide) only [zup_or, zup_ne, zkp_o, rm1_o, rm1_5, rfo_o, rfo_5, rev_o, zfg_o, hKq]) (by simp (disch := decide) only [zup_or, zup_ne, zkp_o, rm1_o, rm1_5, rfo_o, rfo_5, rev_o, zfg_o, hKq]) (by simp (disch := decide) only [zup_or, zup_ne, zkp_o, rm1_o, rm1_5, rfo_o, rfo_5, rev_o, zfg_o, hKq]) h6M.2.2.2.2.1), (rL_0 zclM_8 rfo_i)⟩, fun _ => Or.inr ⟨(by rw [rfo_5 (by decide) (by decide) (by decide), rev_o (by decide) (by decide) (by decide), rm1_0]), zq_i (by rw [zmany_c (show zE2 (zfgM (zkpM M zn1)) M zn1 from ⟨(by simp (disch := decide) only [zup_or, zup_ne, zkp_o, rm1_o, rm1_5, rfo_o, rfo_5, rev_o, zfg_o]), (by simp (disch := decide) only [zup_or, zup_ne, zkp_o, rm1_o, rm1_5, rfo_o, rfo_5, rev_o, zfg_o])⟩)])⟩⟩))
theorem zpl_o {K : zM} {x : Int} {q : Nat} (h1 : ¬ q = 9) (h2 : ¬ q = 12) : zplM K x q = K q := by
  unfold zplM
  rw [zclM_o h1, zup_or h2, ztab_or h2]
theorem rpl_o {K : zM} {x : Int} {q : Nat} (h1 : ¬ q = 115) (h2 : ¬ q = 120) : rplM K x q = rm1 K q := by
  unfold rplM
  rw [rfo_o h1, ztab_or h2]
theorem rpl_5 {K : zM} {x : Int} {j : Nat} (h1 : ¬ j = 19) (h2 : ¬ j = 20) (h3 : ¬ j = 21) : rplM K x 115 j = rm1 K 115 j := by
  unfold rplM
  rw [rfo_5 h1 h2 h3, ztab_or (by decide)]
theorem zj_place {xs : List Int32} {d : Nat} {n : Int} {M : zM} (hJ : zJo n M) (hn : n + 1 ≤ 600) {x : Int} (hx : zr32 x) : zStep xs (d + 12) (d + 13) 85 [.ref 0, .int (Int32.ofInt x)] 173 [.ref 115, .int (Int32.ofInt x)] [(2, 1), (1, 2)] 0 True n M := by
  have hI := hJ.k.ci
  by_cases c0 : ¬ (0 ≤ x ∧ x < zsz M zn1)
  · exact zst_r hJ hn (fun w => ⟨_, sp_placeP_0 (d := d + 8) hI hx  c0⟩) (zFo_e (by decide)) hJ.k (fun _ _ => rfl) (fun K hK h6 h39 h115 => ⟨_, _, (fun w => sp_placeR_0 (d := d + 9) hJ.b hx h6.1 h39 c0), zTy_i, zup_or (by decide), rSc_z, fun _ => Or.inl ⟨_, 1, rfl, by decide, zup_i⟩⟩)
  by_cases c1 : ¬ zfree M zn1 x
  · exact zst_r hJ hn (fun w => ⟨_, sp_placeP_1 (d := d + 8) hI hx  c0 c1⟩) (zFo_e (by decide)) hJ.k (fun _ _ => rfl) (fun K hK h6 h39 h115 => ⟨_, _, (fun w => sp_placeR_1 (d := d + 9) hJ.b hx h6.1 h39 c0 c1), zTy_i, zup_or (by decide), rSc_z, fun _ => Or.inl ⟨_, 2, rfl, by decide, zup_i⟩⟩)
  (have h6M := hJ.a; exact zst_w (X := M) hJ (fun w => ⟨_, sp_placeP_2 (d := d + 8) hI hx  c0 c1⟩) (zFo_v zTy_i) (zki_place hJ.k hn (Classical.not_not.mp c1)) (fun _ _ => rfl) (fun q a b => (zpl_o (by omega) (by omega))) (by simp (disch := decide) only [zpl_o, zkp_o]) (by simp (disch := decide) only [zpl_o, zkp_o]) (by simp (disch := decide) only [zpl_o, zkp_o]) (fun q a => (by rw [zpl_o (by omega) (by omega), zkp_o (by omega)])) (fun K hQ hKq h6 h39 => ⟨_, _, K, (fun w => sp_placeR_2 (d := d + 9) hJ.b hx h6.1 h39 c0 c1), zTy_i, (fun q hq => (by rw [rpl_o (by omega) (by omega), rm1_o (by omega) (by omega)])), rSc_id, ⟨rpl_o (by decide) (by decide), rpl_5 (by decide) (by decide) (by decide)⟩, ⟨by simp (disch := decide) only [rpl_5, rm1_5], by simp (disch := decide) only [rpl_5, rm1_5], by simp (disch := decide) only [rpl_5, rm1_5]⟩, ⟨(rA_t (by simp (disch := decide) only [zup_or, zup_ne, zkp_o, rm1_o, rm1_5, zpl_o, rpl_o, rpl_5, hKq]) (by simp (disch := decide) only [zup_or, zup_ne, zkp_o, rm1_o, rm1_5, zpl_o, rpl_o, rpl_5, hKq]) (by simp (disch := decide) only [zup_or, zup_ne, zkp_o, rm1_o, rm1_5, zpl_o, rpl_o, rpl_5, hKq]) (by simp (disch := decide) only [zup_or, zup_ne, zkp_o, rm1_o, rm1_5, zpl_o, rpl_o, rpl_5, hKq]) (by simp (disch := decide) only [zup_or, zup_ne, zkp_o, rm1_o, rm1_5, zpl_o, rpl_o, rpl_5, hKq]) h6M.1), (rC_t (by simp (disch := decide) only [zup_or, zup_ne, zkp_o, rm1_o, rm1_5, zpl_o, rpl_o, rpl_5, hKq]) (by simp (disch := decide) only [zup_or, zup_ne, zkp_o, rm1_o, rm1_5, zpl_o, rpl_o, rpl_5, hKq]) (by simp (disch := decide) only [zup_or, zup_ne, zkp_o, rm1_o, rm1_5, zpl_o, rpl_o, rpl_5, hKq]) h6M.2.1), (rT_t (by simp (disch := decide) only [zup_or, zup_ne, zkp_o, rm1_o, rm1_5, zpl_o, rpl_o, rpl_5, hKq]) (by simp (disch := decide) only [zup_or, zup_ne, zkp_o, rm1_o, rm1_5, zpl_o, rpl_o, rpl_5, hKq]) (by simp (disch := decide) only [zup_or, zup_ne, zkp_o, rm1_o, rm1_5, zpl_o, rpl_o, rpl_5, hKq]) (by simp (disch := decide) only [zup_or, zup_ne, zkp_o, rm1_o, rm1_5, zpl_o, rpl_o, rpl_5, hKq]) (by simp (disch := decide) only [zup_or, zup_ne, zkp_o, rm1_o, rm1_5, zpl_o, rpl_o, rpl_5, hKq]) (by simp (disch := decide) only [zup_or, zup_ne, zkp_o, rm1_o, rm1_5, zpl_o, rpl_o, rpl_5, hKq]) (by simp (disch := decide) only [zup_or, zup_ne, zkp_o, rm1_o, rm1_5, zpl_o, rpl_o, rpl_5, hKq]) h6M.2.2.1), (fun j hj => (by have e9 : zsz (zplM (zkpM M zn1) x) zn1 = zsz M zn1 := (by unfold zsz; simp (disch := decide) only [zpl_o, zkp_o]); rw [e9] at hj; have g := hJ.b.g.sz; have hz : zsz M zn1 = M (zn1 + 1) 0 * M (zn1 + 1) 1 := rfl; unfold rplM zplM; rw [rfo_o (by decide), ztab_i (by omega), zclM_o (by decide), zup_at]; unfold rplF; by_cases h9 : (j : Int) = x; (rw [if_pos h9, if_pos (by omega)]); (rw [if_neg h9, if_neg (by omega), ztab_i (by omega)]))), (rS_t (by simp (disch := decide) only [zup_or, zup_ne, zkp_o, rm1_o, rm1_5, zpl_o, rpl_o, rpl_5, hKq]) (by simp (disch := decide) only [zup_or, zup_ne, zkp_o, rm1_o, rm1_5, zpl_o, rpl_o, rpl_5, hKq]) (by simp (disch := decide) only [zup_or, zup_ne, zkp_o, rm1_o, rm1_5, zpl_o, rpl_o, rpl_5, hKq]) (by simp (disch := decide) only [zup_or, zup_ne, zkp_o, rm1_o, rm1_5, zpl_o, rpl_o, rpl_5, hKq]) (by simp (disch := decide) only [zup_or, zup_ne, zkp_o, rm1_o, rm1_5, zpl_o, rpl_o, rpl_5, hKq]) (by simp (disch := decide) only [zup_or, zup_ne, zkp_o, rm1_o, rm1_5, zpl_o, rpl_o, rpl_5, hKq]) (by simp (disch := decide) only [zup_or, zup_ne, zkp_o, rm1_o, rm1_5, zpl_o, rpl_o, rpl_5, hKq]) (by simp (disch := decide) only [zup_or, zup_ne, zkp_o, rm1_o, rm1_5, zpl_o, rpl_o, rpl_5, hKq]) h6M.2.2.2.2.1), (rL_0 zclM_8 rfo_i)⟩, fun _ => Or.inr ⟨(by rw [rpl_5 (by decide) (by decide) (by decide), rm1_0]), zq_i (by have h9 : M 120 x.toNat = M (zn1 + 11) x.toNat := h6M.2.2.2.1 _ (by omega); simp (disch := decide) only [zkp_o, rm1_o, hKq]; exact h9.symm)⟩⟩))
theorem zj_move {xs : List Int32} {d : Nat} {n : Int} {M : zM} (hJ : zJo n M) (hn : n + 1 ≤ 600) {x : Int} (hx : zr32 x) : zStep xs (d + 12) (d + 13) 86 [.ref 0, .int (Int32.ofInt x)] 174 [.ref 115, .int (Int32.ofInt x)] [(0, 1)] 0 True n M := by
  have hI := hJ.k.ci
  by_cases c0 : ¬ (0 ≤ x ∧ x < 4)
  · exact zst_r hJ hn (fun w => ⟨_, sp_moveP_0 (d := d + 5) hI hx  c0⟩) (zFo_e (by decide)) hJ.k (fun _ _ => rfl) (fun K hK h6 h39 h115 => ⟨_, _, (fun w => sp_moveR_0 (d := d + 6) hJ.b hx h6.1 h6.2.2.2.1 h6.2.2.1 h6.2.2.2.2.2 (by have := zK4 hJ; omega) h39 c0), zTy_i, zup_or (by decide), rSc_z, fun _ => Or.inl ⟨_, 1, rfl, by decide, zup_i⟩⟩)
  (have h6M := hJ.a; exact zst_w (X := M) hJ (fun w => ⟨_, sp_moveP_1 (d := d + 5) hI hx  c0⟩) (zFo_v zTy_i) (zki_move hJ.k hn (by omega)) (fun _ _ => rfl) (fun q a b => (zgo_o (by omega) (by omega) (by omega) (by omega) (by omega) (by omega))) (by simp (disch := decide) only [zgo_o, zkp_o]) (by simp (disch := decide) only [zgo_o, zkp_o]) (by simp (disch := decide) only [zgo_o, zkp_o]) (fun q a => (by rw [zgo_o (by omega) (by omega) (by omega) (by omega) (by omega) (by omega), zkp_o (by omega)])) (fun K hQ hKq h6 h39 => ⟨_, _, K, (fun w => sp_moveR_1 (d := d + 6) hJ.b hx h6.1 h6.2.2.2.1 h6.2.2.1 h6.2.2.2.2.2 (by have := zK4 hJ; omega) h39 c0), zTy_i, (fun q hq => (by rw [rmv_o (by omega) (by omega) (by omega) (by omega) (by omega) (by omega), rm1_o (by omega) (by omega)])), rSc_id, ⟨rmv_o (by decide) (by decide) (by decide) (by decide) (by decide) (by decide), rmv_5 (by decide)⟩, ⟨by simp (disch := decide) only [rmv_5, rm1_5], by simp (disch := decide) only [rmv_5, rm1_5], by simp (disch := decide) only [rmv_5, rm1_5]⟩, (by have hm := zmove_6 (C := M) (Y := zkpM M zn1) (K := rm1 K) (x := x) hJ.b zE9_k (fun q h => zkp_o (by omega)) (zkp_o (by decide)) (by omega) (rm1_A h6.1) (rm1_C h6.2.1) (rm1_T h6.2.2.1) (rm1_L h6.2.2.2.1) (rm1_R h6.2.2.2.2.2); exact ⟨hm.1, hm.2.1, hm.2.2.1, hm.2.2.2.1, rS_t (by simp (disch := decide) only [zgo_o, zkp_o, rmv_5, rm1_5, hKq]) (by simp (disch := decide) only [zgo_o, zkp_o, rmv_5, rm1_5, hKq]) (by simp (disch := decide) only [zgo_o, zkp_o, rmv_5, rm1_5, hKq]) (by simp (disch := decide) only [zgo_o, zkp_o, rmv_5, rm1_5, hKq]) (by simp (disch := decide) only [zgo_o, zkp_o, rmv_5, rm1_5, hKq]) (by simp (disch := decide) only [zgo_o, zkp_o, rmv_5, rm1_5, hKq]) (by simp (disch := decide) only [zgo_o, zkp_o, rmv_5, rm1_5, hKq]) (by simp (disch := decide) only [zgo_o, zkp_o, rmv_5, rm1_5, hKq]) h6M.2.2.2.2.1, hm.2.2.2.2⟩), fun _ => Or.inr ⟨(by rw [rmv_5 (by decide), rm1_0]), zq_i (by have hs : zsz (zgoM (zkpM M zn1) x) zn1 = zsz M zn1 := (by unfold zsz; simp (disch := decide) only [zgo_o, zkp_o]); have g := hJ.b.g.sz; have hz : zsz M zn1 = M (zn1 + 1) 0 * M (zn1 + 1) 1 := rfl; rw [hs, Int.toNat_natCast]; refine (zgr_bb (by omega) (fun j hj => (rmv_r hJ.b (by omega) j (by omega)).1) (fun j hj => ?_)).symm; rw [rB_mv (C := M) (Y := zkpM M zn1) (K := rm1 K) (e := x) (j := j) zE9_k (zkp_o (by decide)) (by omega)]; unfold zgoM; rw [zamM_o (by decide) (by decide) (by decide)])⟩⟩))
theorem zj_drive {xs : List Int32} {d : Nat} {n : Int} {M : zM} (hJ : zJo n M) (hn : n + 1 ≤ 600) {x : Int} (hx : zr32 x) : zStep xs (d + 12) (d + 13) 104 [.ref 0, .int (Int32.ofInt x)] 204 [.ref 115, .int (Int32.ofInt x)] [(0, 1)] 0 True n M := by
  have hI := hJ.k.ci
  by_cases c0 : ¬ (0 ≤ x ∧ x < 4)
  · exact zst_r hJ hn (fun w => ⟨_, sp_driveP_0 (d := d + 5) hI hx  c0⟩) (zFo_e (by decide)) hJ.k (fun _ _ => rfl) (fun K hK h6 h39 h115 => ⟨_, _, (fun w => sp_driveR_0 (d := d + 6) hJ.b hx h6.1 h6.2.2.2.1 h6.2.2.1 h6.2.2.2.2.2 (by have := zK4 hJ; omega) h6.2.2.2.2.1 h39 c0), zTy_i, zup_or (by decide), rSc_z, fun _ => Or.inl ⟨_, 1, rfl, by decide, zup_i⟩⟩)
  (have h6M := hJ.a; exact zst_w (X := M) hJ (fun w => ⟨_, sp_driveP_1 (d := d + 5) hI hx  c0⟩) (zFo_v zTy_i) (zki_drive hJ.k hn (by omega)) (fun _ _ => rfl) (fun q a b => (zdv_o (by omega))) (by rw [zdv_o (by decide), zkp_o (by decide)]) (by rw [zdv_o (by decide), zkp_o (by decide)]) (by rw [zdv_o (by decide), zkp_o (by decide)]) (fun q a => (by rw [zdv_o (by omega), zkp_o (by omega)])) (fun K hQ hKq h6 h39 => ⟨_, _, K, (fun w => sp_driveR_1 (d := d + 6) hJ.b hx h6.1 h6.2.2.2.1 h6.2.2.1 h6.2.2.2.2.2 (by have := zK4 hJ; omega) h6.2.2.2.2.1 h39 c0), zTy_i, (fun q hq => (by rw [rdv_o (by omega)])), rSc_id, ⟨rdv_135, rdv_5 (by decide)⟩, ⟨by rw [rdv_5 (by decide), rm1_5 (by decide) (by decide) (by decide) (by decide)], by rw [rdv_5 (by decide), rm1_5 (by decide) (by decide) (by decide) (by decide)], by rw [rdv_5 (by decide), rm1_5 (by decide) (by decide) (by decide) (by decide)]⟩, (zdrive_6 hJ.b (by omega) h6), fun _ => Or.inr ⟨(by rw [rdv_5 (by decide), rm1_0]), zq_i (zdrive_6 hJ.b (by omega) h6).2.2.2.2.1.1.symm⟩⟩))
