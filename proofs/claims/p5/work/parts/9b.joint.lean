/-! The two states together. -/
/-- the reference's places of a state, as numbers, hold what a block of the class holds -/
def rV (v : Nat → Int) (C : zM) (a : Nat) : Prop :=
  ((v 456 = C (a + 1) 0 ∧ v 457 = C (a + 1) 1) ∧ ∀ j : Nat, (j : Int) < zsz C a → v j = C (a + 2) j) ∧
  (∀ j : Nat, (j : Int) < zsz C a → v (36 + j) = C (a + 3) j) ∧
  ((v 458 = C (a + 5) 2 ∧ v 459 = C (a + 5) 3) ∧ (∀ j : Nat, j < 4 → v (72 + j) = C (a + 6) j) ∧ (∀ j : Nat, j < 16 → v (76 + j) = C (a + 7) j)) ∧
  (∀ j : Nat, (j : Int) < zsz C a → v (92 + j) = C (a + 11) j) ∧
  (v 460 = C a 4 ∧ v 461 = C a 5 ∧ v 462 = C a 6 ∧ v 463 = C a 7) ∧
  ((v 464 = C (a + 8) 1 ∧ v 465 = C (a + 8) 2 ∧ v 466 = C (a + 8) 0) ∧ ∀ i : Nat, (i : Int) < zmi (ztot C a) 8 → v (128 + i) = C (a + 9) i ∧ (C (a + 9) i < 10 → ∀ y : Nat, y < 4 → v (136 + (4 * i + y)) = C (a + 10) (i * 36 + y)) ∧ (¬ C (a + 9) i < 10 → ∀ c : Nat, (c : Int) < zsz C a → zfreeN C a c → v (168 + (36 * i + c)) = C (a + 10) (i * 36 + c)))
theorem zmi_8 (x : Int) : zmi x 8 ≤ 8 := by
  unfold zmi
  split <;> omega
theorem rV_c {v v' : Nat → Int} {C C' : zM} {a b : Nat} (h : zBE C a C' b) (hg : zGr C' b) (hv : ∀ k : Nat, k < 467 → v k = v' k) (hV : rV v' C' b) : rV v C a := by
  obtain ⟨⟨⟨v1, v2⟩, v3⟩, v4, ⟨⟨v5, v6⟩, v7, v8⟩, v9, ⟨v10, v11, v12, v13⟩, ⟨v14, v15, v16⟩, v17⟩ := hV
  obtain ⟨g6, g7⟩ := hg.sz
  have hz : zsz C' b = C' (b + 1) 0 * C' (b + 1) 1 := rfl
  have hs : zsz C a = zsz C' b := (h.ef hg).sz
  have e1 := h 8 1 (by unfold zslot; omega)
  have e2 := h 8 2 (by unfold zslot; omega)
  have ht : ztot C a = ztot C' b := by unfold ztot; rw [e1, e2]
  have h8 := zmi_8 (ztot C' b)
  refine ⟨⟨⟨?_, ?_⟩, fun j hj => ?_⟩, fun j hj => ?_, ⟨⟨?_, ?_⟩, fun j hj => ?_, fun j hj => ?_⟩, fun j hj => ?_, ⟨?_, ?_, ?_, ?_⟩, ⟨?_, ?_, ?_⟩, fun i hi => ⟨?_, fun hc y hy => ?_, fun hc c hcs hcf => ?_⟩⟩
  · rw [hv _ (by decide), h 1 0 (by unfold zslot; omega)]; exact v1
  · rw [hv _ (by decide), h 1 1 (by unfold zslot; omega)]; exact v2
  · rw [hs] at hj; rw [hv _ (by omega), h 2 j (by unfold zslot; omega)]; exact v3 j hj
  · rw [hs] at hj; rw [hv _ (by omega), h 3 j (by unfold zslot; omega)]; exact v4 j hj
  · rw [hv _ (by decide), h 5 2 (by unfold zslot; omega)]; exact v5
  · rw [hv _ (by decide), h 5 3 (by unfold zslot; omega)]; exact v6
  · rw [hv _ (by omega), h 6 j (by unfold zslot; omega)]; exact v7 j hj
  · rw [hv _ (by omega), h 7 j (by unfold zslot; omega)]; exact v8 j hj
  · rw [hs] at hj; rw [hv _ (by omega), h 11 j (by unfold zslot; omega)]; exact v9 j hj
  · rw [hv _ (by decide), show C a 4 = C' b 4 from h 0 4 (by unfold zslot; omega)]; exact v10
  · rw [hv _ (by decide), show C a 5 = C' b 5 from h 0 5 (by unfold zslot; omega)]; exact v11
  · rw [hv _ (by decide), show C a 6 = C' b 6 from h 0 6 (by unfold zslot; omega)]; exact v12
  · rw [hv _ (by decide), show C a 7 = C' b 7 from h 0 7 (by unfold zslot; omega)]; exact v13
  · rw [hv _ (by decide), e1]; exact v14
  · rw [hv _ (by decide), e2]; exact v15
  · rw [hv _ (by decide), h 8 0 (by unfold zslot; omega)]; exact v16
  · rw [ht] at hi; rw [hv _ (by omega), h 9 i (by unfold zslot; omega)]; exact (v17 i hi).1
  · rw [ht] at hi
    rw [h 9 i (by unfold zslot; omega)] at hc
    rw [hv _ (by omega), h 10 _ (by unfold zslot; omega)]; exact (v17 i hi).2.1 hc y hy
  · rw [ht] at hi
    rw [hs] at hcs
    rw [h 9 i (by unfold zslot; omega)] at hc
    rw [hv _ (by omega), h 10 _ (by unfold zslot; omega)]; exact (v17 i hi).2.2 hc c hcs (((h.ef hg).fr c).mp hcf)
theorem rV_of {n : Int} {C M : zM} (hB : zBI n C zn1) (hA : rA C M) (hC : rC C M) (hT : rT C M) (hL : rB C M) (hS : rS C M) (hR : rL C M) : rV (rvw M) C zn1 := by
  obtain ⟨g6, g7⟩ := hB.g.sz
  have hz : zsz C zn1 = C (zn1 + 1) 0 * C (zn1 + 1) 1 := rfl
  have h8 := zmi_8 (ztot C zn1)
  refine ⟨⟨⟨hA.1.1, hA.1.2⟩, fun j hj => ?_⟩, fun j hj => ?_, ⟨⟨hT.1.1, hT.1.2⟩, fun j hj => ?_, fun j hj => ?_⟩, fun j hj => ?_, ⟨hS.1, hS.2.1, hS.2.2.1, hS.2.2.2⟩, ⟨hR.1.1, hR.1.2.1, hR.1.2.2⟩, fun i hi => ⟨?_, fun hc y hy => ?_, fun hc c hcs hcf => ?_⟩⟩
  · have e := rvw_116 (M := M) j (by omega)
    rw [Nat.zero_add] at e
    rw [e]; exact hA.2 j hj
  · rw [rvw_117 j (by omega)]; exact hC j hj
  · rw [rvw_118 j hj]; exact hT.2.1 j hj
  · rw [rvw_119 j hj]; exact hT.2.2 j hj
  · rw [rvw_120 j (by omega)]; exact hL j hj
  · rw [rvw_123 i (by omega)]; exact (hR.2 i hi).1
  · rw [rvw_124 _ (by omega)]; exact (hR.2 i hi).2.1 hc y hy
  · rw [rvw_125 _ (by omega)]; exact (hR.2 i hi).2.2 hc c hcs hcf
theorem rV_to {n : Int} {C M : zM} (hB : zBI n C zn1) (h : rV (rvw M) C zn1) : rA C M ∧ rC C M ∧ rT C M ∧ rB C M ∧ rS C M ∧ rL C M := by
  obtain ⟨g6, g7⟩ := hB.g.sz
  have hz : zsz C zn1 = C (zn1 + 1) 0 * C (zn1 + 1) 1 := rfl
  have h8 := zmi_8 (ztot C zn1)
  obtain ⟨⟨⟨v1, v2⟩, v3⟩, v4, ⟨⟨v5, v6⟩, v7, v8⟩, v9, ⟨v10, v11, v12, v13⟩, ⟨v14, v15, v16⟩, v17⟩ := h
  refine ⟨⟨⟨v1, v2⟩, fun j hj => ?_⟩, fun j hj => ?_, ⟨⟨v5, v6⟩, fun j hj => ?_, fun j hj => ?_⟩, fun j hj => ?_, ⟨v10, v11, v12, v13⟩, ⟨v14, v15, v16⟩, fun i hi => ⟨?_, fun hc y hy => ?_, fun hc c hcs hcf => ?_⟩⟩
  · have e := rvw_116 (M := M) j (by omega)
    rw [Nat.zero_add] at e
    rw [← e]; exact v3 j hj
  · rw [← rvw_117 (M := M) j (by omega)]; exact v4 j hj
  · rw [← rvw_118 (M := M) j hj]; exact v7 j hj
  · rw [← rvw_119 (M := M) j hj]; exact v8 j hj
  · rw [← rvw_120 (M := M) j (by omega)]; exact v9 j hj
  · rw [← rvw_123 (M := M) i (by omega)]; exact (v17 i hi).1
  · rw [← rvw_124 (M := M) _ (by omega)]; exact (v17 i hi).2.1 hc y hy
  · rw [← rvw_125 (M := M) _ (by omega)]; exact (v17 i hi).2.2 hc c hcs hcf
/-- what is no place of a state may differ -/
def zpl5 (j : Nat) : Prop := j = 6 ∨ j = 7 ∨ j = 8 ∨ j = 9 ∨ j = 10 ∨ j = 11 ∨ j = 12 ∨ j = 13 ∨ j = 19 ∨ j = 20 ∨ j = 21
def zpl1 (q : Nat) : Prop := q = 116 ∨ q = 117 ∨ q = 118 ∨ q = 119 ∨ q = 120 ∨ q = 123 ∨ q = 124 ∨ q = 125
theorem rvw_c {M M' : zM} (h5 : ∀ j : Nat, zpl5 j → M 115 j = M' 115 j) (hq : ∀ q : Nat, zpl1 q → M q = M' q) (k : Nat) : rvw M k = rvw M' k := by
  unfold rvw
  rw [hq 116 (by unfold zpl1; omega), hq 117 (by unfold zpl1; omega), hq 118 (by unfold zpl1; omega), hq 119 (by unfold zpl1; omega), hq 120 (by unfold zpl1; omega), hq 123 (by unfold zpl1; omega), hq 124 (by unfold zpl1; omega), hq 125 (by unfold zpl1; omega), h5 6 (by unfold zpl5; omega), h5 7 (by unfold zpl5; omega), h5 8 (by unfold zpl5; omega), h5 9 (by unfold zpl5; omega), h5 10 (by unfold zpl5; omega), h5 11 (by unfold zpl5; omega), h5 12 (by unfold zpl5; omega), h5 13 (by unfold zpl5; omega), h5 19 (by unfold zpl5; omega), h5 20 (by unfold zpl5; omega), h5 21 (by unfold zpl5; omega)]
/-- the state of both, behind n calls -/
def zJox (M : zM) : Prop := (M 115 39 = M 25 2 ∧ M 115 41 = M 0 2 ∧ M 115 30 = M 0 5) ∧ (M 115 26 = M 99 1 ∧ ∀ j : Nat, (j : Int) < M 99 1 → M 127 j = M 100 j)
def zJo (n : Int) (M : zM) : Prop := zKI n M ∧ rV (rvw M) M zn1 ∧ (M 0 2 = 1 → rV (M 136) M zn13) ∧ (∀ i : Nat, (i : Int) < M 25 2 → rV (fun k => M 135 (512 * i + k)) M (zslo M (i : Int))) ∧ zJox M
theorem zJo.k {n : Int} {M : zM} (h : zJo n M) : zKI n M := h.1
theorem zJo.b {n : Int} {M : zM} (h : zJo n M) : zBI n M zn1 := h.1.b
theorem zJo.v {n : Int} {M : zM} (h : zJo n M) : rV (rvw M) M zn1 := h.2.1
theorem zJo.s {n : Int} {M : zM} (h : zJo n M) : M 0 2 = 1 → rV (M 136) M zn13 := h.2.2.1
theorem zJo.r {n : Int} {M : zM} (h : zJo n M) : ∀ i : Nat, (i : Int) < M 25 2 → rV (fun k => M 135 (512 * i + k)) M (zslo M (i : Int)) := h.2.2.2.1
theorem zJo.x {n : Int} {M : zM} (h : zJo n M) : zJox M := h.2.2.2.2
theorem zJo.a {n : Int} {M : zM} (h : zJo n M) : rA M M ∧ rC M M ∧ rT M M ∧ rB M M ∧ rS M M ∧ rL M M := rV_to h.b h.v
theorem zJo_n {n n' : Int} {M : zM} (h : zJo n M) (hn : n ≤ n') (hn2 : n' ≤ 600) : zJo n' M := ⟨zki_n h.k hn hn2, h.2⟩
/-- the reference's relations with the class's memory before, for a memory that differs in the class's rows alone -/
theorem zJo_A {n : Int} {M K : zM} (h : zJo n M) (hq : ∀ q : Nat, 115 ≤ q → q < 137 → K q = M q) : rA M K ∧ rC M K ∧ rT M K ∧ rB M K ∧ rS M K ∧ rL M K := by
  obtain ⟨hA, hC, hT, hL, hS, hR⟩ := h.a
  have e := hq 115 (by decide) (by decide)
  exact ⟨rA_c (by rw [e]) (by rw [e]) (hq _ (by decide) (by decide)) hA, rC_c (hq _ (by decide) (by decide)) hC, rT_c (by rw [e]) (by rw [e]) (hq _ (by decide) (by decide)) (hq _ (by decide) (by decide)) hT, rB_c (hq _ (by decide) (by decide)) hL, rS_c (by rw [e]) (by rw [e]) (by rw [e]) (by rw [e]) hS, rL_c (by rw [e]) (by rw [e]) (by rw [e]) (hq _ (by decide) (by decide)) (hq _ (by decide) (by decide)) (hq _ (by decide) (by decide)) hR⟩
/-- nothing but scratch rows has changed: the class's first, then the reference's -/
theorem zJo_r {n : Int} {M M1 M2 : zM} (hJ : zJo n M) (hK : zKI n M1) (hc : ∀ q : Nat, q < 115 → M2 q = M1 q) (h1 : ∀ q : Nat, 1 ≤ q → q < 99 → M1 q = M q) (h2 : M1 0 2 = M 0 2) (hx : ∀ q : Nat, 115 ≤ q → q < 137 → M1 q = M q) (hq : ∀ q : Nat, zpl1 q ∨ q = 135 ∨ q = 136 → M2 q = M1 q) (h5 : ∀ j : Nat, zpl5 j ∨ j = 39 ∨ j = 41 → M2 115 j = M1 115 j) (hX : zJox M2) : zJo n M2 := by
  have e1 : ∀ q : Nat, 1 ≤ q → q < 99 → M2 q = M q := fun q a b => (hc q (by omega)).trans (h1 q a b)
  have e2 : M2 0 2 = M 0 2 := by rw [hc 0 (by decide)]; exact h2
  have hK2 : zKI n M2 := zKI_f hK (fun q a b => by rw [hc q (by omega)]) (by rw [hc 0 (by decide)]) (zKX_c hK.x (fun q a b _ _ => hc q b) (by rw [hc 0 (by decide)]) (by rw [hc 0 (by decide)]))
  have hv : ∀ k, rvw M2 k = rvw M k := rvw_c (fun j hj => (h5 j (Or.inl hj)).trans (by rw [hx 115 (by decide) (by decide)])) (fun q hq1 => (hq q (Or.inl hq1)).trans (hx q (by unfold zpl1 at hq1; omega) (by unfold zpl1 at hq1; omega)))
  have e135 : M2 135 = M 135 := (hq 135 (Or.inr (Or.inl rfl))).trans (hx 135 (by decide) (by decide))
  have e136 : M2 136 = M 136 := (hq 136 (Or.inr (Or.inr rfl))).trans (hx 136 (by decide) (by decide))
  refine ⟨hK2, ?_, fun hs => ?_, fun i hi => ?_, hX⟩
  · exact rV_c (zBE_q (fun q a b => e1 q a (by have : zn1 = 1 := rfl; omega))) hJ.b.g (fun k _ => hv k) hJ.v
  · rw [e2] at hs
    rw [e136]
    exact rV_c (zBE_q (fun q a b => e1 q (by have : zn13 = 13 := rfl; omega) (by have : zn13 = 13 := rfl; omega))) (hJ.k.s hs).g (fun _ _ => rfl) (hJ.s hs)
  · have e25 : M2 25 = M 25 := e1 25 (by decide) (by decide)
    rw [e25] at hi
    have es : zslo M2 (i : Int) = zslo M (i : Int) := by unfold zslo; rw [e25]
    have hst := zSt_le (zslo_st M (i : Int))
    rw [es, e135]
    exact rV_c (zBE_q (fun q a b => e1 q (by omega) (by omega))) (hJ.k.r _ (by omega) hi).g (fun _ _ => rfl) (hJ.r i hi)
/-- the reference's ring behind remembering -/
theorem rm1_ring {M : zM} (h0 : 0 ≤ M 115 39 ∧ M 115 39 ≤ 6) {i k : Nat} (hk : k < 467) (hi : (i : Int) < M 115 39 + (if M 115 39 = 6 then 0 else 1)) : rm1 M 135 (512 * i + k) = if (i : Int) = M 115 39 + (if M 115 39 = 6 then 0 else 1) - 1 then rvw M k else M 135 (512 * (i + (if M 115 39 = 6 then 1 else 0)) + k) := by
  have hz : zup M 115 0 0 115 39 = M 115 39 := zup_ne (by decide)
  have h9 : rmm0 (zup M 115 0 0) 115 39 = if M 115 39 = 6 then 5 else M 115 39 := by rw [rmm0_39, hz]
  have hv : rvw (rmm0 (zup M 115 0 0)) k = rvw M k := rvw_c (fun j hj => by rw [rmm0_5 (by unfold zpl5 at hj; omega), zup_ne (by unfold zpl5 at hj; omega)]) (fun q hq => by rw [rmm0_o (by unfold zpl1 at hq; omega) (by unfold zpl1 at hq; omega), zup_or (by unfold zpl1 at hq; omega)]) k
  have e : rm1 M 135 (512 * i + k) = ztao (rmm0 (zup M 115 0 0)) 135 (512 * rmm0 (zup M 115 0 0) 115 39).toNat 467 (rvw (rmm0 (zup M 115 0 0))) 135 (512 * i + k) := by
    unfold rm1 remM rkS
    rw [zup_or (by decide), zup_or (by decide), zup_or (by decide)]
  rw [e, h9]
  by_cases h6 : M 115 39 = 6
  · rw [if_pos h6, if_pos h6, if_pos h6]
    rw [if_pos h6] at hi
    by_cases h5 : (i : Int) = M 115 39 + 0 - 1
    · rw [if_pos h5, show 512 * i + k = (512 * (5 : Int)).toNat + k by omega, ztao_i hk]
      exact hv
    · rw [if_neg h5, ztao_g (by omega)]
      unfold rmm0
      rw [if_pos (hz.trans h6), zup_or (by decide), ztab_i (by omega)]
      unfold rmmF
      rw [zup_or (by decide), show 512 * i + k + 512 = 512 * (i + 1) + k by omega]
  · rw [if_neg h6, if_neg h6, if_neg h6]
    rw [if_neg h6] at hi
    by_cases h5 : (i : Int) = M 115 39 + 1 - 1
    · rw [if_pos h5, show 512 * i + k = (512 * M 115 39).toNat + k by omega, ztao_i hk]
      exact hv
    · rw [if_neg h5, ztao_g (by omega)]
      unfold rmm0
      rw [if_neg (fun e => h6 (hz.symm.trans e)), zup_or (by decide), Nat.add_zero]
theorem rm1_39 {M : zM} : rm1 M 115 39 = M 115 39 + (if M 115 39 = 6 then 0 else 1) := by
  unfold rm1 remM
  rw [zup_i, rmm0_39, zup_ne (by decide)]
  split <;> omega
/-- the state was kept by both, then the now was changed -/
theorem zJo_k {n : Int} {M X M1 M2 : zM} (hJ : zJo n M) (hK : zKI (n + 1) M1) (hc : ∀ q : Nat, q < 115 → M2 q = M1 q) (hX1 : ∀ q : Nat, 1 ≤ q → q < 99 → X q = M q) (h1 : ∀ q : Nat, 13 ≤ q → q < 99 → M1 q = zkpM X zn1 q) (h2 : M1 0 2 = M 0 2) (hx : ∀ q : Nat, 115 ≤ q → q < 137 → M1 q = M q) (e135 : M2 135 = rm1 M 135) (e136 : M2 136 = M 136) (e39 : M2 115 39 = rm1 M 115 39) (hX : zJox M2) (hV : rV (rvw M2) M1 zn1) : zJo (n + 1) M2 := by
  have hKX : zKI n X ∨ True := Or.inr trivial
  have e2 : M2 0 2 = M 0 2 := by rw [hc 0 (by decide)]; exact h2
  have hK2 : zKI (n + 1) M2 := zKI_f hK (fun q a b => by rw [hc q (by omega)]) (by rw [hc 0 (by decide)]) (zKX_c hK.x (fun q a b _ _ => hc q b) (by rw [hc 0 (by decide)]) (by rw [hc 0 (by decide)]))
  have hX25 : X 25 = M 25 := hX1 25 (by decide) (by decide)
  have hch : zCh X := zCh_c hX25 hJ.k.ch
  have hxx := hJ.x.1.1
  refine ⟨hK2, ?_, fun hs => ?_, fun i hi => ?_, hX⟩
  · exact rV_c (zBE_q (fun q a b => hc q (by have : zn1 = 1 := rfl; omega))) hK.b.g (fun k _ => rfl) hV
  · rw [e2] at hs
    rw [e136]
    exact rV_c (zBE_q (fun q a b => by
      have : zn13 = 13 := rfl
      rw [hc q (by omega), h1 q (by omega) (by omega), zkp_o (by omega), hX1 q (by omega) (by omega)])) (hJ.k.s hs).g (fun _ _ => rfl) (hJ.s hs)
  · have e25 : M2 25 = zkpM X zn1 25 := (hc 25 (by decide)).trans (h1 25 (by decide) (by decide))
    have hi' : (i : Int) < zkn X := by rw [e25, zkp_2] at hi; exact hi
    have hkn : zkn X = M 115 39 + (if M 115 39 = 6 then 0 else 1) := by unfold zkn; rw [hX25, hxx]
    have es : zslo M2 (i : Int) = zslo (zkpM X zn1) (i : Int) := by unfold zslo; rw [e25]
    have hst := zSt_le (zslo_st (zkpM X zn1) (i : Int))
    have h27 : 27 ≤ zslo (zkpM X zn1) (i : Int) := by unfold zslo zring; omega
    have hr := zkp_ring hzn1 (by decide) hch (show (0 : Int) ≤ (i : Int) by omega) hi'
    have hch2 := hJ.k.ch.2
    rw [es]
    have hbe : zBE M2 (zslo (zkpM X zn1) (i : Int)) X (if (i : Int) = zkn X - 1 then zn1 else zslo X ((i : Int) + (if X 25 2 = 6 then 1 else 0))) := (zBE_q (fun q a b => by rw [hc q (by omega), h1 q (by omega) (by omega)])).tr hr
    have hring : ∀ k : Nat, k < 467 → M2 135 (512 * i + k) = if (i : Int) = zkn X - 1 then rvw M k else M 135 (512 * (i + (if M 115 39 = 6 then 1 else 0)) + k) := fun k hk => by
      rw [e135, rm1_ring (by rw [hxx]; omega) hk (by rw [← hkn]; exact hi'), hkn]
    by_cases hl : (i : Int) = zkn X - 1
    · rw [if_pos hl] at hbe
      have hbe2 : zBE M2 (zslo (zkpM X zn1) (i : Int)) M zn1 := hbe.tr (zBE_q (fun q a b => hX1 q (by have : zn1 = 1 := rfl; omega) (by have : zn1 = 1 := rfl; omega)))
      exact rV_c hbe2 hJ.b.g (fun k hk => by rw [hring k hk, if_pos hl]) hJ.v
    · rw [if_neg hl] at hbe
      have hsx : zslo X ((i : Int) + (if X 25 2 = 6 then 1 else 0)) = zslo M (((i + (if M 115 39 = 6 then 1 else 0) : Nat)) : Int) := by
        unfold zslo
        rw [hX25, hxx]
        split <;> simp
      have hst2 := zSt_le (zslo_st M (((i + (if M 115 39 = 6 then 1 else 0) : Nat)) : Int))
      have hii : (((i + (if M 115 39 = 6 then 1 else 0) : Nat)) : Int) < M 25 2 := by
        rw [hxx]
        rw [hkn, hxx] at hl hi'
        split at hl <;> split <;> simp at * <;> omega
      rw [hsx] at hbe
      have hbe2 := hbe.tr (zBE_q (M0 := M) (fun q a b => hX1 q (by have h27b : 27 ≤ zslo M (((i + (if M 115 39 = 6 then 1 else 0) : Nat)) : Int) := by { unfold zslo zring; omega }; omega) (by omega)))
      exact rV_c hbe2 (hJ.k.r _ (by omega) hii).g (fun k hk => by rw [hring k hk, if_neg hl]) (hJ.r _ hii)
