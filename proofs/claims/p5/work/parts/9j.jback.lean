/-! Both: kept, saved, taken back; the buffer. -/
/-- the places, passed back from a row -/
theorem rvw_rt {M : zM} {p w : Nat} {k : Nat} (hk : k < 467) : rvw (rtS M p w 467) k = M p (w + k) := by
  have s5 : ∀ f i : Nat, rix 115 f = i → i < 467 → rtS M p w 467 115 f = M p (w + i) := fun f i h1 h2 => by
    rw [rtS_i (by omega) (by decide), h1]
  have sq : ∀ (q i j : Nat), rix q j = i → i < 467 → rtS M p w 467 q j = M p (w + i) := fun q i j h1 h2 => by
    rw [rtS_i (by omega) (by decide), h1]
  unfold rvw
  by_cases c : k < 36
  · rw [if_pos c]
    exact sq _ _ _ ((rixi_116 (by omega)).trans (by omega)) hk
  rw [if_neg c]
  by_cases c : k < 72
  · rw [if_pos c]
    exact sq _ _ _ ((rixi_117 (by omega)).trans (by omega)) hk
  rw [if_neg c]
  by_cases c : k < 76
  · rw [if_pos c]
    exact sq _ _ _ ((rixi_118 (by omega)).trans (by omega)) hk
  rw [if_neg c]
  by_cases c : k < 92
  · rw [if_pos c]
    exact sq _ _ _ ((rixi_119 (by omega)).trans (by omega)) hk
  rw [if_neg c]
  by_cases c : k < 128
  · rw [if_pos c]
    exact sq _ _ _ ((rixi_120 (by omega)).trans (by omega)) hk
  rw [if_neg c]
  by_cases c : k < 136
  · rw [if_pos c]
    exact sq _ _ _ ((rixi_123 (by omega)).trans (by omega)) hk
  rw [if_neg c]
  by_cases c : k < 168
  · rw [if_pos c]
    exact sq _ _ _ ((rixi_124 (by omega)).trans (by omega)) hk
  rw [if_neg c]
  by_cases c : k < 456
  · rw [if_pos c]
    exact sq _ _ _ ((rixi_125 (by omega)).trans (by omega)) hk
  rw [if_neg c]
  by_cases c : k = 456
  · rw [if_pos c]
    subst c
    exact s5 _ _ (by rfl) hk
  rw [if_neg c]
  by_cases c : k = 457
  · rw [if_pos c]
    subst c
    exact s5 _ _ (by rfl) hk
  rw [if_neg c]
  by_cases c : k = 458
  · rw [if_pos c]
    subst c
    exact s5 _ _ (by rfl) hk
  rw [if_neg c]
  by_cases c : k = 459
  · rw [if_pos c]
    subst c
    exact s5 _ _ (by rfl) hk
  rw [if_neg c]
  by_cases c : k = 460
  · rw [if_pos c]
    subst c
    exact s5 _ _ (by rfl) hk
  rw [if_neg c]
  by_cases c : k = 461
  · rw [if_pos c]
    subst c
    exact s5 _ _ (by rfl) hk
  rw [if_neg c]
  by_cases c : k = 462
  · rw [if_pos c]
    subst c
    exact s5 _ _ (by rfl) hk
  rw [if_neg c]
  by_cases c : k = 463
  · rw [if_pos c]
    subst c
    exact s5 _ _ (by rfl) hk
  rw [if_neg c]
  by_cases c : k = 464
  · rw [if_pos c]
    subst c
    exact s5 _ _ (by rfl) hk
  rw [if_neg c]
  by_cases c : k = 465
  · rw [if_pos c]
    subst c
    exact s5 _ _ (by rfl) hk
  rw [if_neg c]
  have h : k = 466 := by omega
  subst h
  exact s5 _ _ (by rfl) hk
theorem rix_r {q j : Nat} (h : ¬ zpl1 q) (h5 : ¬ q = 115) : rix q j = 1000 := by
  unfold zpl1 at h
  unfold rix
  rw [if_neg (by omega), if_neg (by omega), if_neg (by omega), if_neg (by omega), if_neg (by omega), if_neg (by omega), if_neg (by omega), if_neg (by omega), if_neg (by omega), if_neg (by omega), if_neg (by omega), if_neg (by omega), if_neg (by omega), if_neg (by omega), if_neg (by omega), if_neg (by omega), if_neg (by omega), if_neg (by omega), if_neg (by omega)]
theorem rix_r5 {j : Nat} (h : ¬ zpl5 j) : rix 115 j = 1000 := by
  unfold zpl5 at h
  unfold rix
  rw [if_neg (by omega), if_neg (by omega), if_neg (by omega), if_neg (by omega), if_neg (by omega), if_neg (by omega), if_neg (by omega), if_neg (by omega), if_neg (by omega), if_neg (by omega), if_neg (by omega), if_neg (by omega), if_neg (by omega), if_neg (by omega), if_neg (by omega), if_neg (by omega), if_neg (by omega), if_neg (by omega), if_neg (by omega)]
theorem rtS_q {M : zM} {p w q : Nat} (h : ¬ zpl1 q) (h5 : ¬ q = 115) : rtS M p w 467 q = M q := by
  funext j
  exact rtS_o (by rw [rix_r h h5]; decide) (fun e => h5 e.1) (fun e => h5 e.1)
theorem rtS_5 {M : zM} {p w j : Nat} (h : ¬ zpl5 j) (h2 : ¬ j = 42) (h3 : ¬ j = 40) : rtS M p w 467 115 j = M 115 j := rtS_o (by rw [rix_r5 h]; decide) (fun e => h2 e.2) (fun e => h3 e.2)
theorem ztb_o {M : zM} {q : Nat} (h : 13 ≤ q ∨ q = 0) (h25 : ¬ q = 25) : ztbM M zn1 q = M q := by
  unfold ztbM
  rw [zcpM_o (by have : zn1 = 1 := rfl; omega), zup_or h25]
theorem ztb_25 {M : zM} {j : Nat} : ztbM M zn1 25 j = if j = 2 then M 25 2 - 1 else M 25 j := by
  unfold ztbM
  rw [zcpM_o (by have : zn1 = 1 := rfl; omega), zup_at]
theorem zj_undo {xs : List Int32} {d : Nat} {n : Int} {M : zM} (hJ : zJo n M) (hn : n + 1 ≤ 600) : zStep xs (d + 12) (d + 13) 109 [.ref 0] 213 [.ref 115] [(1, 1)] 0 True n M := by
  have hI := hJ.k.ci
  have hch := hJ.k.ch.2
  by_cases c0 : M 25 2 = 0
  · exact zst_r hJ hn (fun w => ⟨_, sp_undoP_0 (d := d + 8) hI c0⟩) (zFo_e (by decide)) hJ.k (fun _ _ => rfl) (fun K hK h6 h39 h115 => ⟨_, _, fun w => sp_undoR_0 (d := d + 10) h39 (by rw [h115, hJ.x.1.1]; exact c0), zTy_i, zup_or (by decide), rSc_z, fun _ => Or.inl ⟨_, 1, rfl, by decide, zup_i⟩⟩)
  · refine ⟨_, _, fun w => ⟨_, sp_undoP_1 (d := d + 8) hI c0⟩, zFo_v zTy_i, fun K hQ => ?_⟩
    have hx : ∀ q : Nat, 115 ≤ q → q < 137 → K q = M q := fun q a b => (hQ q b).trans (ztb_o (Or.inl (by omega)) (by omega))
    have e115 := hx 115 (by decide) (by decide)
    have h39 : K 115 39 = M 25 2 := by rw [e115]; exact hJ.x.1.1
    have hKu := zki_undo hJ.k c0
    have ru : ∀ q : Nat, ¬ zpl1 q → ¬ q = 115 → runM K q = K q := fun q a b => by
      unfold runM ruM
      rw [rtS_q a b, zup_or b, zup_or b]
    have ru5 : ∀ j : Nat, ¬ zpl5 j → ¬ j = 42 → ¬ j = 40 → ¬ j = 39 → ¬ j = 0 → runM K 115 j = K 115 j := fun j a b c d e => by
      unfold runM ruM
      rw [rtS_5 a b c, zup_ne d, zup_ne e]
    have hc : ∀ q : Nat, q < 115 → runM K q = ztbM M zn1 q := fun q h => (ru q (by unfold zpl1; omega) (by omega)).trans (hQ q (by omega))
    have hJ2 : zJo n (runM K) := by
      have hsl : ∀ i : Int, zslo (ztbM M zn1) i = zslo M i := fun i => by unfold zslo; rw [ztb_25]; rfl
      have hi0 : (((M 25 2 - 1).toNat : Nat) : Int) = M 25 2 - 1 := by omega
      have hst := zslo_st M (M 25 2 - 1)
      have hbe : zBE (ztbM M zn1) zn1 M (zslo M (M 25 2 - 1)) := fun o j hs => by
        unfold ztbM
        rw [ztb_sl, zcpM_i hzn1 hst (by have h27 : 27 ≤ zslo M (M 25 2 - 1) := (by unfold zslo zring; omega); have : zn1 = 1 := rfl; omega) hs, zup_or (by have := zslot_lt hs; have h27 : 27 ≤ zslo M (M 25 2 - 1) := (by unfold zslo zring; omega); omega)]
      have hr := hJ.r (M 25 2 - 1).toNat (by omega)
      rw [hi0] at hr
      have hV : rV (rvw (runM K)) (ztbM M zn1) zn1 := by
        refine rV_c hbe (hJ.k.r _ (by omega) (by omega)).g (fun k hk => ?_) hr
        have e1 : runM K = rtS (ruM K) 135 (512 * (M 25 2 - 1).toNat) 467 := by
          unfold runM
          rw [h39, show (512 * (M 25 2 - 1)).toNat = 512 * (M 25 2 - 1).toNat by omega]
        have e2 : ruM K 135 = M 135 := by unfold ruM; rw [zup_or (by decide), zup_or (by decide), hx _ (by decide) (by decide)]
        rw [e1, rvw_rt hk, e2]
      have hK2 : zKI n (runM K) := zKI_f hKu (fun q a b => by rw [hc q (by omega)]) (by rw [hc 0 (by decide)]) (zKX_c hKu.x (fun q a b _ _ => hc q b) (by rw [hc 0 (by decide)]) (by rw [hc 0 (by decide)]))
      have e25 : runM K 25 2 = M 25 2 - 1 := by rw [hc 25 (by decide), ztb_25, if_pos rfl]
      refine ⟨hK2, rV_c (zBE_q (fun q a b => hc q (by have : zn1 = 1 := rfl; omega))) hKu.b.g (fun _ _ => rfl) hV, fun hs => ?_, fun i hi => ?_, ⟨⟨?_, ?_, ?_⟩, ?_, ?_⟩⟩
      · have hs' : M 0 2 = 1 := by rw [hc 0 (by decide), ztb_o (by omega) (by decide)] at hs; exact hs
        rw [ru 136 (by unfold zpl1; omega) (by decide), hx 136 (by decide) (by decide)]
        exact rV_c (zBE_q (fun q a b => (hc q (by have : zn13 = 13 := rfl; omega)).trans (ztb_o (by have : zn13 = 13 := rfl; omega) (by have : zn13 = 13 := rfl; omega)))) (hJ.k.s hs').g (fun _ _ => rfl) (hJ.s hs')
      · rw [e25] at hi
        have es : zslo (runM K) (i : Int) = zslo M (i : Int) := by
          have h1 : runM K 25 1 = M 25 1 := by rw [hc 25 (by decide), ztb_25, if_neg (by decide)]
          unfold zslo
          rw [h1]
        have hst2 := zSt_le (zslo_st M (i : Int))
        have h27 : 27 ≤ zslo M (i : Int) := by unfold zslo zring; omega
        rw [es, ru 135 (by unfold zpl1; omega) (by decide), hx 135 (by decide) (by decide)]
        exact rV_c (zBE_q (fun q a b => (hc q (by omega)).trans (ztb_o (by omega) (by omega)))) (hJ.k.r _ (by omega) (by omega)).g (fun _ _ => rfl) (hJ.r i (by omega))
      · rw [runM_39, h39, e25]
      · rw [ru5 41 (by unfold zpl5; omega) (by decide) (by decide) (by decide) (by decide), e115, hc 0 (by decide), ztb_o (by omega) (by decide)]; exact hJ.x.1.2.1
      · rw [ru5 30 (by unfold zpl5; omega) (by decide) (by decide) (by decide) (by decide), e115, hc 0 (by decide), ztb_o (by omega) (by decide)]; exact hJ.x.1.2.2
      · rw [ru5 26 (by unfold zpl5; omega) (by decide) (by decide) (by decide) (by decide), e115, hc 99 (by decide), ztb_o (by omega) (by decide)]; exact hJ.x.2.1
      · rw [ru 127 (by unfold zpl1; omega) (by decide), hx 127 (by decide) (by decide), hc 99 (by decide), ztb_o (by omega) (by decide), hc 100 (by decide), ztb_o (by omega) (by decide)]; exact hJ.x.2.2
    refine ⟨_, _, fun w => sp_undoR_1 (d := d + 10) (by rw [h39]; exact hch) (by rw [h39]; exact c0), zTy_i, ru 137 (by unfold zpl1; omega) (by decide), zJo_n hJ2 (by omega) hn, fun _ => Or.inr ⟨?_, zq_i ?_⟩⟩
    · unfold runM ruM
      rw [rtS_5 (by unfold zpl5; omega) (by decide) (by decide), zup_ne (by decide), zup_i]
    · rw [ztb_25, if_pos rfl, h39]
theorem rSave_v {K : zM} {k : Nat} (hk : k < 467) : rsvM K 136 k = rvw K k := by
  unfold rsvM rkS
  rw [zup_or (by decide), zup_or (by decide)]
  have h := ztao_i (M := zup (zup K 115 0 0) 115 41 1) (q := 136) (o := 0) (n := 467) (j := k) (F := rvw (zup (zup K 115 0 0) 115 41 1)) hk
  rw [Nat.zero_add] at h
  rw [h]
  exact rvw_c (fun j hj => by rw [zup_ne (by unfold zpl5 at hj; omega), zup_ne (by unfold zpl5 at hj; omega)]) (fun q hq => by rw [zup_or (by unfold zpl1 at hq; omega), zup_or (by unfold zpl1 at hq; omega)]) k
theorem rsv_o {K : zM} {q : Nat} (h : ¬ q = 115) (h2 : ¬ q = 136) : rsvM K q = K q := by
  unfold rsvM
  rw [rkS_o h2 h, zup_or h, zup_or h]
theorem rsv_5 {K : zM} {j : Nat} (h : ¬ j = 40) (h2 : ¬ j = 42) (h3 : ¬ j = 41) (h4 : ¬ j = 0) : rsvM K 115 j = K 115 j := by
  unfold rsvM
  rw [rkS_5 (Or.inr rfl) h h2, zup_ne h3, zup_ne h4]
theorem zsv_o {M : zM} {q : Nat} (h : q < 13 ∨ 25 ≤ q) (h0 : ¬ q = 0) : zup (zcpM M zn13 zn1) 0 2 1 q = M q := by
  rw [zup_or h0, zcpM_o (by have : zn13 = 13 := rfl; omega)]
theorem zj_save {xs : List Int32} {d : Nat} {n : Int} {M : zM} (hJ : zJo n M) (hn : n + 1 ≤ 600) : zStep xs (d + 13) (d + 13) 110 [.ref 0] 214 [.ref 115] [] 0 True n M := by
  have hI := hJ.k.ci
  refine ⟨_, _, fun w => ⟨_, sp_saveP (d := d + 10) hI⟩, zFo_v zTy_i, fun K hQ => ?_⟩
  have hx : ∀ q : Nat, 115 ≤ q → q < 137 → K q = M q := fun q a b => (hQ q b).trans (zsv_o (by omega) (by omega))
  have e115 := hx 115 (by decide) (by decide)
  obtain ⟨hA, hC, hT, hL, hS, hR⟩ := zJo_A hJ hx
  have hKs := zki_save hJ.k
  have h0j : ∀ j : Nat, ¬ j = 2 → zup (zcpM M zn13 zn1) 0 2 1 0 j = M 0 j := fun j h => by rw [zup_ne h, zcpM_o (by have : zn13 = 13 := rfl; omega)]
  have hc : ∀ q : Nat, q < 115 → rsvM K q = zup (zcpM M zn13 zn1) 0 2 1 q := fun q h => (rsv_o (by omega) (by omega)).trans (hQ q (by omega))
  have hvK : ∀ k, rvw K k = rvw M k := rvw_c (fun j _ => by rw [e115]) (fun q hq => hx q (by unfold zpl1 at hq; omega) (by unfold zpl1 at hq; omega))
  have hv2 : ∀ k, rvw (rsvM K) k = rvw M k := fun k => (rvw_c (fun j hj => rsv_5 (by unfold zpl5 at hj; omega) (by unfold zpl5 at hj; omega) (by unfold zpl5 at hj; omega) (by unfold zpl5 at hj; omega)) (fun q hq => rsv_o (by unfold zpl1 at hq; omega) (by unfold zpl1 at hq; omega)) k).trans (hvK k)
  have hJ2 : zJo n (rsvM K) := by
    have hK2 : zKI n (rsvM K) := zKI_f hKs (fun q a b => by rw [hc q (by omega)]) (by rw [hc 0 (by decide)]) (zKX_c hKs.x (fun q a b _ _ => hc q b) (by rw [hc 0 (by decide)]) (by rw [hc 0 (by decide)]))
    have e25 : rsvM K 25 = M 25 := (hc 25 (by decide)).trans (zsv_o (by omega) (by decide))
    refine ⟨hK2, ?_, fun hs => ?_, fun i hi => ?_, ⟨⟨?_, ?_, ?_⟩, ?_, ?_⟩⟩
    · exact rV_c (zBE_q (fun q a b => (hc q (by have : zn1 = 1 := rfl; omega)).trans (zsv_o (by have : zn1 = 1 := rfl; omega) (by have : zn1 = 1 := rfl; omega)))) hJ.b.g (fun k _ => hv2 k) hJ.v
    · have hbe : zBE (rsvM K) zn13 M zn1 := fun o j hs => by
        rw [hc (zn13 + o) (by have := zslot_lt hs; have : zn13 = 13 := rfl; omega), zup_or (by have : zn13 = 13 := rfl; omega), zcpM_i (by unfold zSt; decide) hzn1 (by decide) hs]
      exact rV_c hbe hJ.b.g (fun k hk => (rSave_v hk).trans (hvK k)) hJ.v
    · rw [e25] at hi
      have es : zslo (rsvM K) (i : Int) = zslo M (i : Int) := by unfold zslo; rw [e25]
      have hst2 := zSt_le (zslo_st M (i : Int))
      have h27 : 27 ≤ zslo M (i : Int) := by unfold zslo zring; omega
      rw [es, rsv_o (show ¬ 135 = 115 by decide) (by decide), hx 135 (by decide) (by decide)]
      exact rV_c (zBE_q (fun q a b => (hc q (by omega)).trans (zsv_o (by omega) (by omega)))) (hJ.k.r _ (by omega) hi).g (fun _ _ => rfl) (hJ.r i hi)
    · rw [rsv_5 (by decide) (by decide) (by decide) (by decide), e115, e25]; exact hJ.x.1.1
    · have e1 : rsvM K 115 41 = 1 := by
        unfold rsvM
        rw [rkS_5 (Or.inr rfl) (by decide) (by decide), zup_i]
      rw [e1, hc 0 (by decide), zup_i]
    · rw [rsv_5 (by decide) (by decide) (by decide) (by decide), e115, hc 0 (by decide), h0j 5 (by decide)]; exact hJ.x.1.2.2
    · rw [rsv_5 (by decide) (by decide) (by decide) (by decide), e115, hc 99 (by decide), zsv_o (by omega) (by decide)]; exact hJ.x.2.1
    · rw [rsv_o (show ¬ 127 = 115 by decide) (by decide), hx 127 (by decide) (by decide), hc 99 (by decide), zsv_o (by omega) (by decide), hc 100 (by decide), zsv_o (by omega) (by decide)]; exact hJ.x.2.2
  refine ⟨_, _, fun w => sp_saveR (d := d + 9) hJ.b hA, zTy_i, rsv_o (by decide) (by decide), zJo_n hJ2 (by omega) hn, fun _ => Or.inr ⟨?_, zq_i ?_⟩⟩
  · unfold rsvM
    rw [rkS_5 (Or.inr rfl) (by decide) (by decide), zup_ne (by decide), zup_i]
  · exact zmany_c (show zE2 _ M zn1 from ⟨zsv_o (by decide) (by decide), zsv_o (by decide) (by decide)⟩)
theorem zre_o {M : zM} {q : Nat} (h : 13 ≤ q ∨ q = 0) : zcpM (zkpM M zn1) zn1 zn13 q = zkpM M zn1 q := zcpM_o (by have : zn1 = 1 := rfl; omega)
theorem zj_restore {xs : List Int32} {d : Nat} {n : Int} {M : zM} (hJ : zJo n M) (hn : n + 1 ≤ 600) : zStep xs (d + 12) (d + 13) 111 [.ref 0] 215 [.ref 115] [(1, 1)] 0 True n M := by
  have hI := hJ.k.ci
  have hk13 : M 0 2 = 1 → zGr M zn13 := fun e => (hJ.k.s e).g
  have h01 := hJ.k.x.k
  have h41 : ∀ K : zM, K 115 = M 115 → K 115 41 = M 0 2 := fun K h => by rw [h]; exact hJ.x.1.2.1
  by_cases c0 : M 0 2 = 0
  · exact zst_r hJ hn (fun w => ⟨_, sp_restoreP_0 (d := d + 8) hI hk13 c0⟩) (zFo_e (by decide)) hJ.k (fun _ _ => rfl) (fun K hK h6 h39 h115 => ⟨_, _, fun w => sp_restoreR_0 (d := d + 9) (C := M) hJ.b h39 (by rw [h41 K h115]; exact h01) (fun e => by rw [h41 K h115] at e; omega) (by rw [h41 K h115]; exact c0), zTy_i, zup_or (by decide), rSc_z, fun _ => Or.inl ⟨_, 1, rfl, by decide, zup_i⟩⟩)
  · have c1 : M 0 2 = 1 := by omega
    have hKr := zki_restore hJ.k hn c1
    have h6M : ∀ K : zM, (∀ q : Nat, 115 ≤ q ∧ q < 137 → K q = M q) → zR6 (zcpM (zkpM M zn1) zn1 zn13) (rreM K) := fun K hKq => by
      refine rV_to hKr.b ?_
      have hbe : zBE (zcpM (zkpM M zn1) zn1 zn13) zn1 M zn13 := fun o j hs => by
        rw [zcpM_i hzn1 (by unfold zSt; decide) (by decide) hs, zkp_o (by have := zslot_lt hs; have : zn13 = 13 := rfl; omega)]
      refine rV_c hbe (hJ.k.s c1).g (fun k hk => ?_) (hJ.s c1)
      unfold rreM
      rw [rvw_rt hk, Nat.zero_add, remM_o (by decide) (by decide), zup_or (by decide), hKq _ (by decide)]
    have rr : ∀ (K : zM) (q : Nat), ¬ zpl1 q → ¬ q = 115 → rreM K q = rm1 K q := fun K q a b => by
      unfold rreM
      rw [rtS_q a b]
      rfl
    have rr5 : ∀ (K : zM) (j : Nat), ¬ zpl5 j → ¬ j = 42 → ¬ j = 40 → rreM K 115 j = rm1 K 115 j := fun K j a b c => by
      unfold rreM
      rw [rtS_5 a b c]
      rfl
    exact zst_w (X := M) hJ (fun w => ⟨_, sp_restoreP_1 (d := d + 8) hI hk13 c0⟩) (zFo_v zTy_i) hKr (fun _ _ => rfl) (fun q a b => zre_o (by omega)) ((zre_o (by omega)).trans (zkp_o (by decide))) ((zre_o (by omega)).trans (zkp_o (by decide))) ((zre_o (by omega)).trans (zkp_o (by decide))) (fun q a => (zre_o (by omega)).trans (zkp_o (by omega))) (fun K hQ hKq h6 h39 => ⟨_, _, K, fun w => sp_restoreR_1 (d := d + 9) (C := zcpM (zkpM M zn1) zn1 zn13) hKr.b h39 (by rw [h41 K (hKq 115 (by decide))]; exact h01) (fun _ => (h6M K hKq).1) (by rw [h41 K (hKq 115 (by decide))]; exact c0), zTy_i, (fun q hq => by rw [rr K q (by unfold zpl1; omega) (by omega), rm1_o (by omega) (by omega)]), rSc_id, ⟨rr K 135 (by unfold zpl1; omega) (by decide), rr5 K 39 (by unfold zpl5; omega) (by decide) (by decide)⟩, ⟨by rw [rr5 K _ (by unfold zpl5; omega) (by decide) (by decide), rm1_5 (by decide) (by decide) (by decide) (by decide)], by rw [rr5 K _ (by unfold zpl5; omega) (by decide) (by decide), rm1_5 (by decide) (by decide) (by decide) (by decide)], by rw [rr5 K _ (by unfold zpl5; omega) (by decide) (by decide), rm1_5 (by decide) (by decide) (by decide) (by decide)]⟩, h6M K hKq, fun _ => Or.inr ⟨by rw [rr5 K _ (by unfold zpl5; omega) (by decide) (by decide), rm1_0], rfl⟩⟩)
/-- the buffers of both -/
theorem zad_2 {M K : zM} {x : Int} (hu : zBu M) (e26 : K 115 26 = M 99 1) (e127 : ∀ j : Nat, (j : Int) < M 99 1 → K 127 j = M 100 j) (hs : M 99 1 + zsgn x ≤ 45) : ∀ i : Nat, i ≤ 4 → zadM M x i 99 1 = M 99 1 + zcount (zsgp x) i ∧ radM K x i 115 26 = M 99 1 + zcount (zsgp x) i ∧ ∀ j : Nat, (j : Int) < M 99 1 + zcount (zsgp x) i → radM K x i 127 j = zadM M x i 100 j
  | 0, _ => ⟨(Int.add_zero _).symm, e26.trans (Int.add_zero _).symm, fun j hj => e127 j (by have : (j : Int) < M 99 1 + 0 := hj; omega)⟩
  | i + 1, hi => by
    obtain ⟨h1, h2, h3⟩ := zad_2 hu e26 e127 hs i (by omega)
    obtain ⟨⟨u1, u2⟩, u3⟩ := hu
    have hb := zcount_b (zsgp x) i
    have hcs : zcount (zsgp x) (i + 1) = zcount (zsgp x) i + zb (zsgp x i) := rfl
    have hle := zcount_le (P := zsgp x) (i + 1) 4 hi
    have h4 : zsgn x = zcount (zsgp x) 4 := rfl
    show zput (zadM M x i) (zby x (i : Int)) 99 1 = _ ∧ rput (radM K x i) (zby x (i : Int)) 115 26 = _ ∧ ∀ j : Nat, (j : Int) < _ → rput (radM K x i) (zby x (i : Int)) 127 j = zput (zadM M x i) (zby x (i : Int)) 100 j
    unfold zput rput
    by_cases hz : zby x (i : Int) = 0
    · have e : zb (zsgp x i) = 0 := zb_f (fun e => e hz)
      rw [if_pos (Or.inl hz), if_pos hz, hcs, e, Int.add_zero]
      exact ⟨h1, h2, h3⟩
    · have e : zb (zsgp x i) = 1 := zb_t (show zsgp x i from hz)
      rw [if_neg (show ¬ (zby x (i : Int) = 0 ∨ ¬ zadM M x i 99 1 < 45) from fun h => h.elim hz (fun h => h (by omega))), if_neg hz, hcs, e]
      refine ⟨by rw [zup_i, zup_o (by omega), h1, Int.add_assoc], by rw [zup_i, h2, Int.add_assoc], fun j hj => ?_⟩
      rw [zup_o (show ¬ (100 = 99 ∧ j = 1) by omega), zup_o (show ¬ (127 = 115 ∧ j = 26) by omega), zup_at, zup_at, h1, h2]
      split
      · rfl
      · exact h3 j (by omega)
theorem rad_o {K : zM} {x : Int} {q : Nat} (h : ¬ q = 115) (h2 : ¬ q = 127) : ∀ i, radM K x i q = K q
  | 0 => rfl
  | i + 1 => by
    show rput (radM K x i) _ q = _
    unfold rput
    split
    · exact rad_o h h2 i
    · rw [zup_or h, zup_or h2]
      exact rad_o h h2 i
theorem rad_5 {K : zM} {x : Int} {j : Nat} (h : ¬ j = 26) : ∀ i, radM K x i 115 j = K 115 j
  | 0 => rfl
  | i + 1 => by
    show rput (radM K x i) _ 115 j = _
    unfold rput
    split
    · exact rad_5 h i
    · rw [zup_ne h, zup_or (by decide)]
      exact rad_5 h i
theorem zj_append {xs : List Int32} {d : Nat} {n : Int} {M : zM} (hJ : zJo n M) (hn : n + 1 ≤ 600) {x : Int} (hx : zr32 x) : zStep xs (d + 12) (d + 13) 71 [.ref 0, .int (Int32.ofInt x)] 157 [.ref 115, .int (Int32.ofInt x)] [(0, 1), (1, 2)] 0 True n M := by
  have hI := hJ.k.ci
  have hu := hJ.k.x.bu
  have h26 : ∀ K : zM, K 115 = M 115 → K 115 26 = M 99 1 := fun K h => by rw [h]; exact hJ.x.2.1
  by_cases c0 : ¬ zprn x
  · exact zst_r hJ hn (fun w => ⟨_, sp_appendP_0 (d := d + 10) hI hx c0⟩) (zFo_e (by decide)) hJ.k (fun _ _ => rfl) (fun K hK h6 h39 h115 => by
      have e : rapM K x = zup K 115 0 1 := if_neg c0
      have hr := fun w : Bool => sp_appendR (xs := xs) (d := d + 11) (w := w) (M := K) (x := x) (by rw [h26 K h115]; exact hu.1)
      rw [e] at hr
      exact ⟨_, _, hr, zTy_i, zup_or (by decide), rSc_z, fun _ => Or.inl ⟨_, 1, rfl, by decide, zup_i⟩⟩)
  have hp := Classical.not_not.mp c0
  by_cases c1 : 45 < M 99 1 + zsgn x
  · exact zst_r hJ hn (fun w => ⟨_, sp_appendP_1 (d := d + 10) hI hx c0 c1⟩) (zFo_e (by decide)) hJ.k (fun _ _ => rfl) (fun K hK h6 h39 h115 => by
      have e : rapM K x = zup K 115 0 2 := (if_pos hp).trans (if_pos (by rw [h26 K h115]; exact c1))
      have hr := fun w : Bool => sp_appendR (xs := xs) (d := d + 11) (w := w) (M := K) (x := x) (by rw [h26 K h115]; exact hu.1)
      rw [e] at hr
      exact ⟨_, _, hr, zTy_i, zup_or (by decide), rSc_z, fun _ => Or.inl ⟨_, 2, rfl, by decide, zup_i⟩⟩)
  · refine ⟨_, _, fun w => ⟨_, sp_appendP_2 (d := d + 10) hI hx c0 c1⟩, zFo_v zTy_i, fun K hQ => ?_⟩
    have hxx : ∀ q : Nat, 115 ≤ q → q < 137 → K q = M q := fun q a b => (hQ q b).trans (zad_o (by omega) (by omega) 4)
    have e115 := hxx 115 (by decide) (by decide)
    have e : rapM K x = radM (zup K 115 0 0) x 4 := (if_pos hp).trans (if_neg (by rw [h26 K e115]; exact c1))
    have eo : rapO K x = M 99 1 + zsgn x := ((if_pos hp).trans (if_neg (by rw [h26 K e115]; exact c1))).trans (by rw [h26 K e115])
    have hr := fun w : Bool => sp_appendR (xs := xs) (d := d + 11) (w := w) (M := K) (x := x) (by rw [h26 K e115]; exact hu.1)
    rw [e, eo] at hr
    obtain ⟨b1, b2, b3⟩ := zad_2 (M := M) (K := zup K 115 0 0) (x := x) hu (by rw [zup_ne (by decide), h26 K e115]) (fun j hj => by rw [zup_or (by decide), hxx 127 (by decide) (by decide)]; exact hJ.x.2.2 j hj) (by omega) 4 (by decide)
    have ro : ∀ q : Nat, ¬ q = 115 → ¬ q = 127 → radM (zup K 115 0 0) x 4 q = K q := fun q a b => (rad_o a b 4).trans (zup_or a)
    have r5 : ∀ j : Nat, ¬ j = 26 → ¬ j = 0 → radM (zup K 115 0 0) x 4 115 j = K 115 j := fun j a b => (rad_5 a 4).trans (zup_ne b)
    have hc : ∀ q : Nat, q < 115 → radM (zup K 115 0 0) x 4 q = zadM M x 4 q := fun q h => (ro q (by omega) (by omega)).trans (hQ q (by omega))
    have hz : ∀ q : Nat, q < 99 → zadM M x 4 q = M q := fun q h => zad_o (by omega) (by omega) 4
    have hJ2 : zJo n (radM (zup K 115 0 0) x 4) := by
      refine zJo_r hJ (zki_append hJ.k) hc (fun q a b => hz q b) (by rw [hz 0 (by decide)]) (fun q a b => zad_o (by omega) (by omega) 4) (fun q hq => (ro q (by unfold zpl1 at hq; omega) (by unfold zpl1 at hq; omega)).trans (hQ q (by unfold zpl1 at hq; omega))) (fun j hj => (r5 j (by unfold zpl5 at hj; omega) (by unfold zpl5 at hj; omega)).trans (by rw [hQ 115 (by decide)])) ⟨⟨?_, ?_, ?_⟩, ?_, ?_⟩
      · rw [r5 39 (by decide) (by decide), e115, hc 25 (by decide), hz 25 (by decide)]; exact hJ.x.1.1
      · rw [r5 41 (by decide) (by decide), e115, hc 0 (by decide), hz 0 (by decide)]; exact hJ.x.1.2.1
      · rw [r5 30 (by decide) (by decide), e115, hc 0 (by decide), hz 0 (by decide)]; exact hJ.x.1.2.2
      · rw [hc 99 (by decide), b1, b2]
      · rw [hc 99 (by decide), b1, hc 100 (by decide)]
        exact b3
    exact ⟨_, _, hr, zTy_i, ro 137 (by decide) (by decide), zJo_n hJ2 (by omega) hn, fun _ => Or.inr ⟨(rad_5 (by decide) 4).trans zup_i, zq_i b1⟩⟩
