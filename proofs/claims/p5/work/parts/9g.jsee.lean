/-! Both: sights. -/
/-- a sight is kept by both -/
theorem zas_6 {C P R : zM} {k : Int} (h1 : P (zn1 + 1) = C (zn1 + 1)) (h2 : P (zn1 + 2) = C (zn1 + 2)) (h7 : P (zn1 + 7) = C (zn1 + 7)) (ht : 0 ≤ ztot P zn1) (hk : 0 ≤ k) (hz : zsz P zn1 ≤ 36) (h6 : zR6 P R) : zR6 (zasM P zn1 k) (rksM C R k) := by
  have hrt := h6.tt
  obtain ⟨hA, hC, hT, hL, hS, hR⟩ := h6
  have hs : zsz C zn1 = zsz P zn1 := by unfold zsz; rw [h1]
  have hE : zE2 P C zn1 := ⟨h1, h2⟩
  refine ⟨?_, ?_, ?_, ?_, ?_, ?_⟩
  · exact rA_t (zasM_o (by decide) (by decide) (by decide)) (zasM_o (by decide) (by decide) (by decide)) (rks_5 (by decide)) (rks_5 (by decide)) (rks_o (by decide) (by decide) (by decide)) hA
  · exact rC_t (zasM_o (by decide) (by decide) (by decide)) (zasM_o (by decide) (by decide) (by decide)) (rks_o (by decide) (by decide) (by decide)) hC
  · exact rT_t (zasM_o (by decide) (by decide) (by decide)) (zasM_o (by decide) (by decide) (by decide)) (zasM_o (by decide) (by decide) (by decide)) (rks_5 (by decide)) (rks_5 (by decide)) (rks_o (by decide) (by decide) (by decide)) (rks_o (by decide) (by decide) (by decide)) hT
  · exact rB_t (zasM_o (by decide) (by decide) (by decide)) (zasM_o (by decide) (by decide) (by decide)) (rks_o (by decide) (by decide) (by decide)) hL
  · exact rS_t (by rw [zasM_o (by decide) (by decide) (by decide)]) (by rw [zasM_o (by decide) (by decide) (by decide)]) (by rw [zasM_o (by decide) (by decide) (by decide)]) (by rw [zasM_o (by decide) (by decide) (by decide)]) (rks_5 (by decide)) (rks_5 (by decide)) (rks_5 (by decide)) (rks_5 (by decide)) hS
  · refine rL_sg (C := P) (M := R) (k := k) (F := zasF P zn1 k) (G := rksF C k) hR ht hk (zasM_o (by decide) (by decide) (by decide)) (zfr_t (zasM_o (by decide) (by decide) (by decide)) (zasM_o (by decide) (by decide) (by decide))) hz (fun j => zas_8) (fun j => zas_9) (fun j => zas_10) (rks_5 (by decide)) rks_20 (rks_5 (by decide)) (fun j => by rw [rks_3, hrt]) (fun j => by rw [rks_25, hrt, hs]) (rks_o (by decide) (by decide) (by decide)) (fun c hc hcf => ?_)
    unfold rksF zasF
    rw [if_pos (zfr_t (C' := P) (C := C) h1 h2 c hcf), h7, zmark_c hE]
/-- behind a sight: the rows of both -/
theorem zsight_6 {C Y R : zM} {n k o : Int} (hB : zBI n C zn1) (h1 : Y (zn1 + 1) = C (zn1 + 1)) (h2 : Y (zn1 + 2) = C (zn1 + 2)) (h7 : Y (zn1 + 7) = C (zn1 + 7)) (ht : 0 ≤ ztot Y zn1) (hk : 0 ≤ k) (hw : ∀ j : Nat, (j : Int) < zsz C zn1 → R 121 j = Y 102 j) (h6 : zR6 Y R) : zR6 (ztsM Y k o) (rksM C (if o = 2 then rsc1 C R else rsc0 C R) k) := by
  obtain ⟨g6, g7⟩ := hB.g.sz
  have hz : zsz C zn1 = C (zn1 + 1) 0 * C (zn1 + 1) 1 := rfl
  have hs : zsz Y zn1 = zsz C zn1 := by unfold zsz; rw [h1]
  obtain ⟨hA, hC, hT, hL, hS, hR⟩ := h6
  have p : ∀ q : Nat, q ≠ 12 → q ≠ 103 → zts1 Y q = Y q := fun q a b => zscM_o a b
  have r : ∀ q : Nat, ¬ q = 120 → ¬ q = 122 → rsc0 C R q = R q := fun q a b => rsc0_o a b
  have hp6 : zR6 (zts1 Y) (rsc0 C R) := by
    refine ⟨?_, ?_, ?_, ?_, ?_, ?_⟩
    · exact rA_t (p _ (by decide) (by decide)) (p _ (by decide) (by decide)) (by rw [r _ (by decide) (by decide)]) (by rw [r _ (by decide) (by decide)]) (r _ (by decide) (by decide)) hA
    · exact rC_t (p _ (by decide) (by decide)) (p _ (by decide) (by decide)) (r _ (by decide) (by decide)) hC
    · exact rT_t (p _ (by decide) (by decide)) (p _ (by decide) (by decide)) (p _ (by decide) (by decide)) (by rw [r _ (by decide) (by decide)]) (by rw [r _ (by decide) (by decide)]) (r _ (by decide) (by decide)) (r _ (by decide) (by decide)) hT
    · intro j hj
      have hj2 : (j : Int) < zsz C zn1 := by
        unfold zsz at hj ⊢
        rw [p _ (by decide) (by decide), h1] at hj
        exact hj
      unfold rsc0 zts1
      rw [rsc_q (by decide) (by omega), hs, zscM_q (by decide) (by omega)]
      exact zsc_c (fun i hi => hw i (by omega)) j (by omega)
    · exact rS_t (by rw [p _ (by decide) (by decide)]) (by rw [p _ (by decide) (by decide)]) (by rw [p _ (by decide) (by decide)]) (by rw [p _ (by decide) (by decide)]) (by rw [r _ (by decide) (by decide)]) (by rw [r _ (by decide) (by decide)]) (by rw [r _ (by decide) (by decide)]) (by rw [r _ (by decide) (by decide)]) hS
    · exact rL_t (p _ (by decide) (by decide)) (zfr_t (p _ (by decide) (by decide)) (p _ (by decide) (by decide))) (p _ (by decide) (by decide)) (p _ (by decide) (by decide)) (p _ (by decide) (by decide)) (by rw [r _ (by decide) (by decide)]) (by rw [r _ (by decide) (by decide)]) (by rw [r _ (by decide) (by decide)]) (r _ (by decide) (by decide)) (r _ (by decide) (by decide)) (r _ (by decide) (by decide)) hR
  have hpt : ztot (zts1 Y) zn1 = ztot Y zn1 := by unfold ztot; rw [p _ (by decide) (by decide)]
  have hps : zsz (zts1 Y) zn1 ≤ 36 := by unfold zsz; rw [p _ (by decide) (by decide), h1]; exact g7
  unfold ztsM
  by_cases ho : o = 2
  · rw [if_pos ho, if_pos ho]
    obtain ⟨pA, pC, pT, pL, pS, pR⟩ := hp6
    have u : ∀ q : Nat, ¬ q = 9 → ¬ q = 1 → zts2 (zts1 Y) q = zts1 Y q := fun q a b => by
      unfold zts2
      rw [zclM_o a, zup_or b]
    have u1 : ∀ j : Nat, ¬ j = 6 → zts2 (zts1 Y) zn1 j = zts1 Y zn1 j := fun j a => by
      unfold zts2
      rw [zclM_o (by decide), zup_ne a]
    have u8 : zts2 (zts1 Y) (zn1 + 8) 0 = -1 ∧ zts2 (zts1 Y) (zn1 + 8) 1 = 0 ∧ zts2 (zts1 Y) (zn1 + 8) 2 = 0 := zclM_8
    have v : ∀ q : Nat, ¬ q = 115 → rsc1 C R q = rsc0 C R q := fun q a => by
      unfold rsc1
      rw [rfo_o a, zup_or a]
    have v5 : ∀ j : Nat, ¬ j = 12 → ¬ j = 19 → ¬ j = 20 → ¬ j = 21 → rsc1 C R 115 j = rsc0 C R 115 j := fun j a b c d => by
      unfold rsc1
      rw [rfo_5 b c d, zup_ne a]
    refine zas_6 (by rw [u _ (by decide) (by decide), p _ (by decide) (by decide), h1]) (by rw [u _ (by decide) (by decide), p _ (by decide) (by decide), h2]) (by rw [u _ (by decide) (by decide), p _ (by decide) (by decide), h7]) (by unfold ztot; rw [u8.2.1, u8.2.2]; decide) hk (by unfold zsz; rw [u _ (by decide) (by decide)]; exact hps) ⟨?_, ?_, ?_, ?_, ⟨?_, ?_, ?_, ?_⟩, ?_⟩
    · exact rA_t (u _ (by decide) (by decide)) (u _ (by decide) (by decide)) (v5 _ (by decide) (by decide) (by decide) (by decide)) (v5 _ (by decide) (by decide) (by decide) (by decide)) (v _ (by decide)) pA
    · exact rC_t (u _ (by decide) (by decide)) (u _ (by decide) (by decide)) (v _ (by decide)) pC
    · exact rT_t (u _ (by decide) (by decide)) (u _ (by decide) (by decide)) (u _ (by decide) (by decide)) (v5 _ (by decide) (by decide) (by decide) (by decide)) (v5 _ (by decide) (by decide) (by decide) (by decide)) (v _ (by decide)) (v _ (by decide)) pT
    · exact rB_t (u _ (by decide) (by decide)) (u _ (by decide) (by decide)) (v _ (by decide)) pL
    · rw [v5 _ (by decide) (by decide) (by decide) (by decide), u1 _ (by decide)]; exact pS.1
    · rw [v5 _ (by decide) (by decide) (by decide) (by decide), u1 _ (by decide)]; exact pS.2.1
    · have e1 : rsc1 C R 115 12 = rsc0 C R 115 12 + 1 := by unfold rsc1; rw [rfo_5 (by decide) (by decide) (by decide), zup_i]
      have e2 : zts2 (zts1 Y) zn1 6 = zts1 Y zn1 6 + 1 := by unfold zts2; rw [zclM_o (by decide), zup_i]
      rw [e1, e2, pS.2.2.1]
    · rw [v5 _ (by decide) (by decide) (by decide) (by decide), u1 _ (by decide)]; exact pS.2.2.2
    · exact rL_0 u8 rfo_i
  · rw [if_neg ho, if_neg ho]
    exact zas_6 ((p _ (by decide) (by decide)).trans h1) ((p _ (by decide) (by decide)).trans h2) ((p _ (by decide) (by decide)).trans h7) (by rw [hpt]; exact ht) hk hps hp6
/-- behind counting a hit -/
theorem zch_6 {C Y K : zM} (hg : zGr Y zn1) (hs : zsz Y zn1 = zsz C zn1) (h6 : zR6 Y K) : zR6 (zchM Y) (rteM C K) := by
  obtain ⟨mA, mC, mT, mL, mS, mR⟩ := h6
  refine ⟨?_, ?_, ?_, ?_, ⟨?_, ?_, ?_, ?_⟩, ?_⟩
  · exact rA_t (zch_o (by decide) (by decide) (by decide)) (zch_o (by decide) (by decide) (by decide)) (rte_5 (by decide)) (rte_5 (by decide)) (rte_o (by decide)) mA
  · exact rC_t (zch_o (by decide) (by decide) (by decide)) (zch_o (by decide) (by decide) (by decide)) (rte_o (by decide)) mC
  · exact rT_t (zch_o (by decide) (by decide) (by decide)) (zch_o (by decide) (by decide) (by decide)) (zch_o (by decide) (by decide) (by decide)) (rte_5 (by decide)) (rte_5 (by decide)) (rte_o (by decide)) (rte_o (by decide)) mT
  · exact rB_t (zch_o (by decide) (by decide) (by decide)) (zch_o (by decide) (by decide) (by decide)) (rte_o (by decide)) mL
  · rw [rte_5 (by decide), zch_5 (by decide)]; exact mS.1
  · rw [rte_5 (by decide), zch_5 (by decide)]; exact mS.2.1
  · rw [rte_5 (by decide), zch_5 (by decide)]; exact mS.2.2.1
  · exact zhit_7 (n := 0) hg hs (fun j hj => mL j (by rw [hs]; exact hj)) mS.1 mS.2.2.2
  · exact rL_t (zch_o (by decide) (by decide) (by decide)) (zfr_t (zch_o (by decide) (by decide) (by decide)) (zch_o (by decide) (by decide) (by decide))) (zch_o (by decide) (by decide) (by decide)) (zch_o (by decide) (by decide) (by decide)) (zch_o (by decide) (by decide) (by decide)) (rte_5 (by decide)) (rte_5 (by decide)) (rte_5 (by decide)) (rte_o (by decide)) (rte_o (by decide)) (rte_o (by decide)) mR
/-- the class's memory before a sight is kept, its scratch but for the weights, and the number -/
def zPre (Y M : zM) : Prop := (∀ q : Nat, 2 ≤ q → q < 13 → Y q = M q) ∧ Y zn1 4 = M zn1 4 ∧ Y zn1 6 = M zn1 6 ∧ Y zn1 7 = M zn1 7
theorem zpre_6 {C Y M R K : zM} (hY : zPre Y M) (h5 : R 115 11 = Y zn1 5) (hq : ∀ q : Nat, zpl1 q → R q = K q) (hj : ∀ j : Nat, zpl5 j → ¬ j = 11 → R 115 j = K 115 j) (h6 : zR6 M K) : zR6 Y R := by
  obtain ⟨mA, mC, mT, mL, mS, mR⟩ := h6
  obtain ⟨y, y4, y6, y7⟩ := hY
  refine ⟨?_, ?_, ?_, ?_, ⟨?_, h5, ?_, ?_⟩, ?_⟩
  · exact rA_t (y 2 (by decide) (by decide)) (y 3 (by decide) (by decide)) (hj 6 (by unfold zpl5; omega) (by decide)) (hj 7 (by unfold zpl5; omega) (by decide)) (hq _ (by unfold zpl1; omega)) mA
  · exact rC_t (y 2 (by decide) (by decide)) (y 4 (by decide) (by decide)) (hq _ (by unfold zpl1; omega)) mC
  · exact rT_t (y 6 (by decide) (by decide)) (y 7 (by decide) (by decide)) (y 8 (by decide) (by decide)) (hj 8 (by unfold zpl5; omega) (by decide)) (hj 9 (by unfold zpl5; omega) (by decide)) (hq _ (by unfold zpl1; omega)) (hq _ (by unfold zpl1; omega)) mT
  · exact rB_t (y 2 (by decide) (by decide)) (y 12 (by decide) (by decide)) (hq _ (by unfold zpl1; omega)) mL
  · rw [hj 10 (by unfold zpl5; omega) (by decide), y4]; exact mS.1
  · rw [hj 12 (by unfold zpl5; omega) (by decide), y6]; exact mS.2.2.1
  · rw [hj 13 (by unfold zpl5; omega) (by decide), y7]; exact mS.2.2.2
  · exact rL_t (y 2 (by decide) (by decide)) (zfr_t (y 2 (by decide) (by decide)) (y 3 (by decide) (by decide))) (y 9 (by decide) (by decide)) (y 10 (by decide) (by decide)) (y 11 (by decide) (by decide)) (hj 19 (by unfold zpl5; omega) (by decide)) (hj 20 (by unfold zpl5; omega) (by decide)) (hj 21 (by unfold zpl5; omega) (by decide)) (hq _ (by unfold zpl1; omega)) (hq _ (by unfold zpl1; omega)) (hq _ (by unfold zpl1; omega)) mR
theorem zPre_s {M X : zM} (hX : ∀ q : Nat, q < 13 → X q = M q) : zPre (zkpM X zn1) M := ⟨fun q a b => (zkp_o (by omega)).trans (hX q b), by rw [zkp_o (by decide), hX _ (by decide)], by rw [zkp_o (by decide), hX _ (by decide)], by rw [zkp_o (by decide), hX _ (by decide)]⟩
theorem zPre_z {Y M : zM} {z : Int} (h : zPre Y M) : zPre (zup Y zn1 5 z) M := ⟨fun q a b => (zup_or (by have : zn1 = 1 := rfl; omega)).trans (h.1 q a b), by rw [zup_ne (by decide)]; exact h.2.1, by rw [zup_ne (by decide)]; exact h.2.2.1, by rw [zup_ne (by decide)]; exact h.2.2.2⟩
/-- the weights of both -/
theorem zwt_T {M K : zM} {k : Int} (hL : rB M K) {j : Nat} (hj : (j : Int) < zsz M zn1) : rsT0 M K k 121 j = zsT M k 102 j := by
  unfold rsT0 rsT zsT zsgM
  rw [zup_or (by decide), ztab_i (by omega), ztab_i (by omega)]
  exact rsF_1 hL hj
theorem zwt_R {M K : zM} {k : Int} {j : Nat} (hj : (j : Int) < zsz M zn1) : rsR M K k 121 j = zsR M k 102 j := by
  have hX : ∀ q : Nat, q < 99 → zrsM M zn1 k q = M q := fun q h => zrsM_o (by omega) (by omega) (by omega)
  have hE : zE2 (zrsM M zn1 k) M zn1 := ⟨hX _ (by decide), hX _ (by decide)⟩
  unfold rsR zsR zsgM
  rw [zsz_c hE, ztab_i (by omega), ztab_i (by omega)]
  unfold rsF zsgF
  rw [rse_q (by omega), zfreeN_c hE, hX (zn1 + 7) (by decide), zmark_c hE]
theorem zsT_o {M : zM} {k : Int} {q : Nat} (h : q ≠ 102) : zsT M k q = M q := zsgM_o h
theorem zsR_o {M : zM} {k : Int} {q : Nat} (h : q ≠ 102) (h2 : q ≠ 103) (h3 : q ≠ 104) : zsR M k q = M q := by
  unfold zsR
  rw [zsgM_o h, zrsM_o h h2 h3]
theorem zSc_T {M : zM} {k : Int} : zSc (zsT M k) M := fun q h => zsT_o (by omega)
theorem zSc_R {M : zM} {k : Int} : zSc (zsR M k) M := fun q h => zsR_o (by omega) (by omega) (by omega)
theorem rEq.sc {K M : zM} (h : rEq K M) : rSc K M := ⟨fun q a b => h.1 q (by omega) a (by omega) (by omega), fun j a => h.2 j (by omega)⟩
/-- the reference's rows behind remembering, its number perhaps changed -/
theorem rpre {K K' R : zM} {z : Int} (h : rEq K' K) (hR : R = zup (rm1 K') 115 11 z ∨ R = rm1 K') : (∀ q : Nat, zpl1 q → R q = K q) ∧ (∀ j : Nat, zpl5 j → ¬ j = 11 → R 115 j = K 115 j) ∧ R 121 = K' 121 ∧ (∀ q : Nat, ¬ q = 115 → R q = rm1 K' q) ∧ (∀ j : Nat, ¬ j = 11 → R 115 j = rm1 K' 115 j) := by
  have a1 : ∀ q : Nat, ¬ q = 115 → R q = rm1 K' q := fun q a => by
    rcases hR with rfl | rfl
    · exact zup_or a
    · rfl
  have a2 : ∀ j : Nat, ¬ j = 11 → R 115 j = rm1 K' 115 j := fun j a => by
    rcases hR with rfl | rfl
    · exact zup_ne a
    · rfl
  refine ⟨fun q hq => ?_, fun j hj h11 => ?_, ?_, a1, a2⟩
  · rw [a1 q (by unfold zpl1 at hq; omega), rm1_o (by unfold zpl1 at hq; omega) (by unfold zpl1 at hq; omega), h.1 q (by unfold zpl1 at hq; omega) (by unfold zpl1 at hq; omega) (by unfold zpl1 at hq; omega) (by unfold zpl1 at hq; omega)]
  · rw [a2 j h11, rm1_5 (by unfold zpl5 at hj; omega) (by unfold zpl5 at hj; omega) (by unfold zpl5 at hj; omega) (by unfold zpl5 at hj; omega), h.2 j (by unfold zpl5 at hj; omega)]
  · rw [a1 _ (by decide), rm1_o (by decide) (by decide)]
theorem rksc_o {C R : zM} {k o : Int} {q : Nat} (h : q < 115 ∨ q = 127 ∨ q = 135 ∨ 136 ≤ q) : rksM C (if o = 2 then rsc1 C R else rsc0 C R) k q = R q := by
  rw [rks_o (by omega) (by omega) (by omega)]
  split
  · exact rsc1_o (by omega) (by omega) (by omega)
  · exact rsc0_o (by omega) (by omega)
theorem rksc_5 {C R : zM} {k o : Int} {j : Nat} (h : ¬ j = 12 ∧ ¬ j = 19 ∧ ¬ j = 20 ∧ ¬ j = 21) : rksM C (if o = 2 then rsc1 C R else rsc0 C R) k 115 j = R 115 j := by
  rw [rks_5 h.2.2.1]
  split
  · exact rsc1_5 h.1 h.2.1 h.2.2.1 h.2.2.2
  · rw [rsc0_o (by decide) (by decide)]
/-- all that a sight needs of both -/
theorem zsee_w {xs : List Int32} {dc dr kc kr : Nat} {ac ar : List Value} {hh : List (Nat × Int)} {n : Int} {M X Y M1 : zM} {o : XO} {k ou ov : Int} (hJ : zJo n M) (hr : zRun xs dc kc ac M (.inl (some (.int (Int32.ofInt ov)))) M1) (hX : zSc X M) (hX4 : ∀ q : Nat, q < 13 → X q = M q) (hY : Y = zkpM X zn1 ∨ ∃ z, Y = zup (zkpM X zn1) zn1 5 z) (hk : 0 ≤ k) (hm : M1 = ztsM Y k ou ∨ M1 = zchM (ztsM Y k ou)) (hK : zKI (n + 1) M1)
    (h2 : ∀ K : zM, (∀ q : Nat, 115 ≤ q ∧ q < 137 → K q = M q) → zR6 M K → (0 ≤ K 115 39 ∧ K 115 39 ≤ 6) → ∃ (M2 K' R : zM), (∀ w : Bool, xrun2 xs dr kr ar (w, zheap K) = some (.inl (some (.int (Int32.ofInt ov))), (w, zheap M2))) ∧ rEq K' K ∧ (∀ j : Nat, (j : Int) < zsz M zn1 → K' 121 j = X 102 j) ∧ (R = rm1 K' ∨ ∃ z, R = zup (rm1 K') 115 11 z) ∧ R 115 11 = Y zn1 5 ∧ ((M1 = ztsM Y k ou ∧ M2 = rksM M (if ou = 2 then rsc1 M R else rsc0 M R) k) ∨ (M1 = zchM (ztsM Y k ou) ∧ M2 = rteM M (rksM M (if ou = 2 then rsc1 M R else rsc0 M R) k)))) : zStep xs dc dr kc ac kr ar hh 0 True n M := by
  have hz1 : zn1 = 1 := rfl
  have hY1 : ∀ q : Nat, ¬ q = 1 → Y q = zkpM X zn1 q := fun q a => by
    rcases hY with rfl | ⟨z, rfl⟩
    · rfl
    · exact zup_or (by omega)
  have hpre : zPre Y M := by
    rcases hY with rfl | ⟨z, rfl⟩
    · exact zPre_s hX4
    · exact zPre_z (zPre_s hX4)
  have hM1 : ∀ q : Nat, 13 ≤ q ∧ q < 102 ∨ 115 ≤ q ∨ q = 0 → M1 q = zkpM X zn1 q := fun q h => by
    rcases hm with rfl | rfl
    · rw [zts_o (by omega) (by omega) (by omega) (by omega) (by omega) (by omega), hY1 q (by omega)]
    · rw [zch_o (by omega) (by omega) (by omega), zts_o (by omega) (by omega) (by omega) (by omega) (by omega) (by omega), hY1 q (by omega)]
  have hXk : ∀ q : Nat, q = 0 ∨ 99 ≤ q ∧ q < 101 ∨ 115 ≤ q → zkpM X zn1 q = M q := fun q h => (zkp_o (by omega)).trans (hX q (by omega))
  refine zst_w (X := X) hJ hr (zFo_v zTy_i) hK hX (fun q a b => hM1 q (by omega)) ((hM1 0 (by omega)).trans (hXk 0 (by omega))) ((hM1 99 (by omega)).trans (hXk 99 (by omega))) ((hM1 100 (by omega)).trans (hXk 100 (by omega))) (fun q a => (hM1 q (by omega)).trans (hXk q (by omega))) (fun K hQ hKq h6 h39 => ?_)
  obtain ⟨M2, K', R, a1, a2, a3, a4, a5, a6⟩ := h2 K hKq h6 h39
  have hr' : ∃ z, R = zup (rm1 K') 115 11 z ∨ R = rm1 K' := by
    rcases a4 with h | ⟨z, h⟩
    · exact ⟨0, Or.inr h⟩
    · exact ⟨z, Or.inl h⟩
  obtain ⟨z, hr'⟩ := hr'
  obtain ⟨b1, b2, b3, b4, b5⟩ := rpre a2 hr'
  have hp6 : zR6 Y R := zpre_6 (C := M) hpre a5 b1 b2 h6
  have ht : ztot Y zn1 = ztot M zn1 := by unfold ztot; rw [show Y (zn1 + 8) = M (zn1 + 8) from hpre.1 9 (by decide) (by decide)]
  have h6' := zsight_6 (C := M) (Y := Y) (R := R) (k := k) (o := ou) hJ.b (hpre.1 2 (by decide) (by decide)) (hpre.1 3 (by decide) (by decide)) (hpre.1 8 (by decide) (by decide)) (by rw [ht]; exact hJ.b.t0) hk (fun j hj => by rw [b3, a3 j hj, hY1 102 (by decide), zkp_o (by decide)]) hp6
  have y1 : ztsM Y k ou (zn1 + 1) = M (zn1 + 1) := (zts_o (by decide) (by decide) (by decide) (by decide) (by decide) (by decide)).trans (hpre.1 2 (by decide) (by decide))
  have y2 : ztsM Y k ou (zn1 + 2) = M (zn1 + 2) := (zts_o (by decide) (by decide) (by decide) (by decide) (by decide) (by decide)).trans (hpre.1 3 (by decide) (by decide))
  have hsc : rSc K' K := a2.sc
  have frame : ∀ q : Nat, q < 115 ∨ q = 127 ∨ 136 ≤ q → R q = K q := fun q h => by rw [b4 q (by omega), rm1_o (by omega) (by omega), a2.1 q (by omega) (by omega) (by omega) (by omega)]
  have s5 : ∀ j : Nat, j = 41 ∨ j = 30 ∨ j = 26 → R 115 j = K 115 j := fun j h => by rw [b5 j (by omega), rm1_5 (by omega) (by omega) (by omega) (by omega), a2.2 j (by omega)]
  rcases a6 with ⟨e1, e2⟩ | ⟨e1, e2⟩
  · subst e2
    refine ⟨_, _, K', a1, zTy_i, fun q hq => ?_, hsc, ⟨?_, ?_⟩, ⟨?_, ?_, ?_⟩, by rw [e1]; exact h6', fun _ => Or.inr ⟨?_, rfl⟩⟩
    · rw [rksc_o (by omega), frame q (by omega)]
    · rw [rksc_o (by omega), b4 _ (by decide)]
    · rw [rksc_5 (by decide), b5 _ (by decide)]
    · rw [rksc_5 (by decide), s5 _ (by decide)]
    · rw [rksc_5 (by decide), s5 _ (by decide)]
    · rw [rksc_5 (by decide), s5 _ (by decide)]
    · rw [rksc_5 (by decide), b5 _ (by decide), rm1_0]
  · subst e2
    refine ⟨_, _, K', a1, zTy_i, fun q hq => ?_, hsc, ⟨?_, ?_⟩, ⟨?_, ?_, ?_⟩, by rw [e1]; exact zch_6 (zGr_c ⟨y1, y2⟩ hJ.b.g) (by unfold zsz; rw [y1]) h6', fun _ => Or.inr ⟨?_, rfl⟩⟩
    · rw [rte_o (by omega), rksc_o (by omega), frame q (by omega)]
    · rw [rte_o (by decide), rksc_o (by omega), b4 _ (by decide)]
    · rw [rte_5 (by decide), rksc_5 (by decide), b5 _ (by decide)]
    · rw [rte_5 (by decide), rksc_5 (by decide), s5 _ (by decide)]
    · rw [rte_5 (by decide), rksc_5 (by decide), s5 _ (by decide)]
    · rw [rte_5 (by decide), rksc_5 (by decide), s5 _ (by decide)]
    · rw [rte_5 (by decide), rksc_5 (by decide), b5 _ (by decide), rm1_0]
theorem zrs_2 {M : zM} {k : Int} (h : ¬ zrs M zn1 k = 0) : zrs M zn1 k = 2 := zrs_b.resolve_left h
theorem zj_see {xs : List Int32} {d : Nat} {n : Int} {M : zM} (hJ : zJo n M) (hn : n + 1 ≤ 600) {x : Int} (hx : zr32 x) : zStep xs (d + 12) (d + 13) 87 [.ref 0, .int (Int32.ofInt x)] 175 [.ref 115, .int (Int32.ofInt x)] [(0, 1), (1, 2)] 0 True n M := by
  have hI := hJ.k.ci
  by_cases c0 : ¬ (0 ≤ x ∧ x < 4)
  · exact zst_r hJ hn (fun w => ⟨_, sp_seeP_0 (d := d + 7) hI hx  c0⟩) (zFo_e (by decide)) hJ.k (fun _ _ => rfl) (fun K hK h6 h39 h115 => ⟨_, _, (fun w => sp_seeR_0 (d := d + 8) hJ.b hx h6.1 h6.2.2.2.1 h6.2.2.1 h6.2.2.2.2.2 (by have := zK4 hJ; omega) h39 c0), zTy_i, zup_or (by decide), rSc_z, fun _ => Or.inl ⟨_, 1, rfl, by decide, zup_i⟩⟩)
  by_cases c1 : zok M zn1 x
  · exact zsee_w (o := .inr 0) (X := zsT M x) (Y := zkpM (zsT M x) zn1) (k := x) (ou := 1) (ov := 0) hJ (fun w => ⟨_, sp_seeP_1 (d := d + 7) hI hx  c0 c1⟩) zSc_T (fun q h => zsT_o (by omega)) (Or.inl rfl) (by omega) (Or.inl rfl) (zki_seeT hJ.k hn (by omega) c1) (fun K hKq h6 h39 => ⟨_, rsT0 M K x, rm1 (rsT0 M K x), (fun w => sp_seeR_1 (d := d + 8) hJ.b hx h6.1 h6.2.2.2.1 h6.2.2.1 h6.2.2.2.2.2 (by have := zK4 hJ; omega) h39 c0 c1), rEq_T, fun j hj => zwt_T h6.2.2.2.1 hj, Or.inl rfl, by rw [rm1_5 (by decide) (by decide) (by decide) (by decide), rsT0_5 (by decide), zkp_o (by decide), zsT_o (by decide)]; exact h6.2.2.2.2.1.2.1, Or.inl ⟨rfl, (by rw [if_neg (show ¬ (1 : Int) = 2 by decide)])⟩⟩)
  by_cases c2 : zrs M zn1 x = 0
  · exact zst_r hJ hn (fun w => ⟨_, sp_seeP_2 (d := d + 7) hI hx  c0 c1 c2⟩) (zFo_e (by decide)) (zki_R hJ.k) zSc_R (fun K hK h6 h39 h115 => ⟨_, _, (fun w => sp_seeR_2 (d := d + 8) hJ.b hx h6.1 h6.2.2.2.1 h6.2.2.1 h6.2.2.2.2.2 (by have := zK4 hJ; omega) h39 c0 c1 c2), zTy_i, (zup_or (by decide)).trans (rsR_o (by decide) (by decide) (by decide) (by decide)), rSc_tr rSc_z rEq_R.sc, fun _ => Or.inl ⟨_, 2, rfl, by decide, zup_i⟩⟩)
  have h22 := zrs_2 c2
  exact zsee_w (o := .inr 0) (X := zsR M x) (Y := zkpM (zsR M x) zn1) (k := x) (ou := (zrs M zn1 x)) (ov := 1) hJ (fun w => ⟨_, sp_seeP_3 (d := d + 7) hI hx  c0 c1 c2⟩) zSc_R (fun q h => zsR_o (by omega) (by omega) (by omega)) (Or.inl rfl) (by omega) (Or.inl rfl) (zki_seeR hJ.k hn (by omega) c2) (fun K hKq h6 h39 => ⟨_, rsR M K x, rm1 (rsR M K x), (fun w => sp_seeR_3 (d := d + 8) hJ.b hx h6.1 h6.2.2.2.1 h6.2.2.1 h6.2.2.2.2.2 (by have := zK4 hJ; omega) h39 c0 c1 c2), rEq_R, fun j hj => zwt_R hj, Or.inl rfl, by rw [rm1_5 (by decide) (by decide) (by decide) (by decide), rsR_5 (by decide), zkp_o (by decide), zsR_o (by decide) (by decide) (by decide)]; exact h6.2.2.2.2.1.2.1, Or.inl ⟨rfl, (by rw [if_pos h22])⟩⟩)
noncomputable def zkz (M : zM) : Int := if 0 < rall M then znn (M zn1 5) else M zn1 5
noncomputable def zkk (M : zM) : Int := rkk M (znn (M zn1 5))
theorem zkk_c {M : zM} : zseen M zn1 (zmark M zn1 (M zn1 4)) (zdr (znn (M zn1 5)) (zss M zn1 (zmark M zn1 (M zn1 4)) 4)) = zkk M ∨ ¬ 0 < zss M zn1 (zmark M zn1 (M zn1 4)) 4 := by
  by_cases h : 0 < zss M zn1 (zmark M zn1 (M zn1 4)) 4
  · refine Or.inl ?_
    unfold zkk rkk rsek rall rmk
    rw [if_pos h]
    unfold zdr
    rw [if_pos h]
  · exact Or.inr h
theorem zkk_0 {M : zM} (h : ¬ 0 < zss M zn1 (zmark M zn1 (M zn1 4)) 4) : zkk M = zmark M zn1 (M zn1 4) ∧ zkz M = M zn1 5 := by
  unfold zkk rkk rsek zkz rall rmk
  rw [if_neg h, if_neg h]
  exact ⟨rfl, rfl⟩
theorem zkz_1 {M : zM} (h : 0 < zss M zn1 (zmark M zn1 (M zn1 4)) 4) : zkz M = znn (M zn1 5) := if_pos h
/-- the class's sensing, by the mark that is seen -/
theorem zsense_c {xs : List Int32} {d : Nat} {M : zM} (hI : zCI M) : (zok M zn1 (zkk M) → zRun xs (d + 12) 105 [.ref 0] M (.inl (some (.int (Int32.ofInt (zkk M))))) (zseM (zsT M (zkk M)) (zkz M) (zkk M) 1)) ∧ (¬ zok M zn1 (zkk M) → zrs M zn1 (zkk M) = 0 → zRun xs (d + 12) 105 [.ref 0] M (.inr 1) (zsR M (zkk M))) ∧ (¬ zok M zn1 (zkk M) → ¬ zrs M zn1 (zkk M) = 0 → zRun xs (d + 12) 105 [.ref 0] M (.inl (some (.int (Int32.ofInt (zkk M))))) (zseM (zsR M (zkk M)) (zkz M) (zkk M) (zrs M zn1 (zkk M)))) := by
  by_cases hS : 0 < zss M zn1 (zmark M zn1 (M zn1 4)) 4
  · have hk := (zkk_c (M := M)).resolve_right (fun h => h hS)
    have hz := zkz_1 hS
    rw [hz, ← hk]
    exact ⟨fun h w => ⟨_, sp_senseP_0 (d := d + 7) hI ⟨hS, h⟩⟩, fun h h2 w => ⟨_, sp_senseP_1 (d := d + 7) hI (fun e => h e.2) ⟨hS, h2⟩⟩, fun h h2 w => ⟨_, sp_senseP_2 (d := d + 7) hI (fun e => h e.2) (fun e => h2 e.2) hS⟩⟩
  · obtain ⟨hk, hz⟩ := zkk_0 hS
    rw [hz, hk]
    exact ⟨fun h w => ⟨_, sp_senseP_3 (d := d + 7) hI (fun e => hS e.1) (fun e => hS e.1) hS h⟩, fun h h2 w => ⟨_, sp_senseP_4 (d := d + 7) hI (fun e => hS e.1) (fun e => hS e.1) hS h h2⟩, fun h h2 w => ⟨_, sp_senseP_5 (d := d + 7) hI (fun e => hS e.1) (fun e => hS e.1) hS h h2⟩⟩
theorem rsn_z {M K K' : zM} (h : rEq K' K) (h11 : K 115 11 = M zn1 5) : rsn K' (rall M) (znn (K 115 11)) 115 11 = zkz M := by
  unfold rsn zkz
  rw [zup_i, h11, rm1_5 (by decide) (by decide) (by decide) (by decide), h.2 11 (by decide), h11]
theorem zj_sense {xs : List Int32} {d : Nat} {n : Int} {M : zM} (hJ : zJo n M) (hn : n + 1 ≤ 600) : zStep xs (d + 12) (d + 13) 105 [.ref 0] 205 [.ref 115] [(1, 1)] 0 True n M := by
  have hI := hJ.k.ci
  have hkb : 0 ≤ zkk M ∧ zkk M < 4 := rkk_b hJ.b
  have hn6 : n ≤ 1000 := by have := zK4 hJ; omega
  obtain ⟨s1, s2, s3⟩ := zsense_c (xs := xs) (d := d) hI
  have hkK : ∀ K : zM, zR6 M K → rkk M (znn (K 115 11)) = zkk M := fun K h6 => by rw [h6.2.2.2.2.1.2.1]; rfl
  by_cases c1 : zok M zn1 (zkk M)
  · refine zsee_w (o := .inr 0) (X := zsT M (zkk M)) (Y := zup (zkpM (zsT M (zkk M)) zn1) zn1 5 (zkz M)) (k := zkk M) (ou := 1) (ov := zkk M) hJ (s1 c1) zSc_T (fun q h => zsT_o (by omega)) (Or.inr ⟨_, rfl⟩) hkb.1 (Or.inr rfl) (zki_senseT hJ.k hn hkb c1) (fun K hKq h6 h39 => ?_)
    have e := hkK K h6
    have hr := fun w : Bool => sp_senseR_0 (xs := xs) (w := w) (d := d + 8) (M := K) hJ.b h6.1 h6.2.2.2.1 h6.2.2.1 h6.2.2.2.2.2 hn6 h6.2.2.2.2.1 h39 (by rw [e]; exact c1)
    rw [e] at hr
    exact ⟨_, rsT0 M K (zkk M), rsn (rsT0 M K (zkk M)) (rall M) (znn (K 115 11)), hr, rEq_T, fun j hj => zwt_T h6.2.2.2.1 hj, Or.inr ⟨_, rfl⟩, by rw [zup_i]; exact rsn_z rEq_T h6.2.2.2.2.1.2.1, Or.inr ⟨rfl, by rw [if_neg (show ¬ (1 : Int) = 2 by decide)]⟩⟩
  · by_cases c2 : zrs M zn1 (zkk M) = 0
    · refine zst_r hJ hn (s2 c1 c2) (zFo_e (by decide)) (zki_R hJ.k) zSc_R (fun K hK h6 h39 h115 => ?_)
      have e := hkK K h6
      have hr := fun w : Bool => sp_senseR_1 (xs := xs) (w := w) (d := d + 8) (M := K) hJ.b h6.1 h6.2.2.2.1 h6.2.2.1 h6.2.2.2.2.2 hn6 h6.2.2.2.2.1 h39 (by rw [e]; exact c1) (by rw [e]; exact c2)
      rw [e] at hr
      exact ⟨_, _, hr, zTy_i, (zup_or (by decide)).trans (rsR_o (by decide) (by decide) (by decide) (by decide)), rSc_tr rSc_z rEq_R.sc, fun _ => Or.inl ⟨_, 1, rfl, by decide, zup_i⟩⟩
    · have h22 := zrs_2 c2
      refine zsee_w (o := .inr 0) (X := zsR M (zkk M)) (Y := zup (zkpM (zsR M (zkk M)) zn1) zn1 5 (zkz M)) (k := zkk M) (ou := zrs M zn1 (zkk M)) (ov := zkk M) hJ (s3 c1 c2) zSc_R (fun q h => zsR_o (by omega) (by omega) (by omega)) (Or.inr ⟨_, rfl⟩) hkb.1 (Or.inr rfl) (zki_senseR hJ.k hn hkb c2) (fun K hKq h6 h39 => ?_)
      have e := hkK K h6
      have hr := fun w : Bool => sp_senseR_2 (xs := xs) (w := w) (d := d + 8) (M := K) hJ.b h6.1 h6.2.2.2.1 h6.2.2.1 h6.2.2.2.2.2 hn6 h6.2.2.2.2.1 h39 (by rw [e]; exact c1) (by rw [e]; exact c2)
      rw [e] at hr
      exact ⟨_, rsR M K (zkk M), rsn (rsR M K (zkk M)) (rall M) (znn (K 115 11)), hr, rEq_R, fun j hj => zwt_R hj, Or.inr ⟨_, rfl⟩, by rw [zup_i]; exact rsn_z rEq_R h6.2.2.2.2.1.2.1, Or.inr ⟨rfl, by rw [if_pos h22]⟩⟩
