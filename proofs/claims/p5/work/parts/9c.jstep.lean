/-! What calls do to the two states. -/
theorem rA_t {C C' M M' : zM} (h1 : C' (zn1 + 1) = C (zn1 + 1)) (h2 : C' (zn1 + 2) = C (zn1 + 2)) (m6 : M' 115 6 = M 115 6) (m7 : M' 115 7 = M 115 7) (m : M' 116 = M 116) (h : rA C M) : rA C' M' := by
  unfold rA zsz at *
  rw [h1, h2, m6, m7, m]
  exact h
theorem rC_t {C C' M M' : zM} (h1 : C' (zn1 + 1) = C (zn1 + 1)) (h3 : C' (zn1 + 3) = C (zn1 + 3)) (m : M' 117 = M 117) (h : rC C M) : rC C' M' := by
  unfold rC zsz at *
  rw [h1, h3, m]
  exact h
theorem rT_t {C C' M M' : zM} (h5 : C' (zn1 + 5) = C (zn1 + 5)) (h6 : C' (zn1 + 6) = C (zn1 + 6)) (h7 : C' (zn1 + 7) = C (zn1 + 7)) (m8 : M' 115 8 = M 115 8) (m9 : M' 115 9 = M 115 9) (m : M' 118 = M 118) (m' : M' 119 = M 119) (h : rT C M) : rT C' M' := by
  unfold rT at *
  rw [h5, h6, h7, m8, m9, m, m']
  exact h
theorem rB_t {C C' M M' : zM} (h1 : C' (zn1 + 1) = C (zn1 + 1)) (h11 : C' (zn1 + 11) = C (zn1 + 11)) (m : M' 120 = M 120) (h : rB C M) : rB C' M' := by
  unfold rB zsz at *
  rw [h1, h11, m]
  exact h
theorem rS_t {C C' M M' : zM} (h : C' zn1 4 = C zn1 4) (h5 : C' zn1 5 = C zn1 5) (h6 : C' zn1 6 = C zn1 6) (h7 : C' zn1 7 = C zn1 7) (m10 : M' 115 10 = M 115 10) (m11 : M' 115 11 = M 115 11) (m12 : M' 115 12 = M 115 12) (m13 : M' 115 13 = M 115 13) (hS : rS C M) : rS C' M' := by
  unfold rS at *
  rw [h, h5, h6, h7, m10, m11, m12, m13]
  exact hS
theorem rL_t {C C' M M' : zM} (h1 : C' (zn1 + 1) = C (zn1 + 1)) (hf : ∀ c : Nat, zfreeN C' zn1 c → zfreeN C zn1 c) (h8 : C' (zn1 + 8) = C (zn1 + 8)) (h9 : C' (zn1 + 9) = C (zn1 + 9)) (h10 : C' (zn1 + 10) = C (zn1 + 10)) (m19 : M' 115 19 = M 115 19) (m20 : M' 115 20 = M 115 20) (m21 : M' 115 21 = M 115 21) (m3 : M' 123 = M 123) (m4 : M' 124 = M 124) (m5 : M' 125 = M 125) (h : rL C M) : rL C' M' := by
  obtain ⟨⟨a, b, c⟩, d⟩ := h
  have ht : ztot C' zn1 = ztot C zn1 := by unfold ztot; rw [h8]
  have hs : zsz C' zn1 = zsz C zn1 := by unfold zsz; rw [h1]
  refine ⟨⟨by rw [m19, h8]; exact a, by rw [m20, h8]; exact b, by rw [m21, h8]; exact c⟩, fun i hi => ?_⟩
  rw [ht] at hi
  obtain ⟨d1, d2, d3⟩ := d i hi
  rw [m3, m4, m5, h9, h10, hs]
  exact ⟨d1, d2, fun e c hc hcf => d3 e c hc (hf c hcf)⟩
theorem zfr_t {C C' : zM} (h1 : C' (zn1 + 1) = C (zn1 + 1)) (h2 : C' (zn1 + 2) = C (zn1 + 2)) (c : Nat) (h : zfreeN C' zn1 c) : zfreeN C zn1 c := by
  unfold zfreeN zfree at *
  rw [h1, h2] at h
  exact h
/-- only scratch rows of the class differ -/
def zSc (M1 M : zM) : Prop := ∀ q : Nat, q < 101 ∨ 115 ≤ q → M1 q = M q
/-- only scratch of the reference differs -/
def rSc (M2 M1 : zM) : Prop := (∀ q : Nat, ¬ q = 115 → ¬ (q = 121 ∨ q = 122 ∨ q = 126 ∨ (128 ≤ q ∧ q ≤ 134)) → M2 q = M1 q) ∧ ∀ j : Nat, ¬ (j = 0 ∨ j = 23 ∨ j = 27 ∨ j = 28 ∨ j = 29 ∨ j = 40 ∨ j = 42) → M2 115 j = M1 115 j
theorem rSc_z {K : zM} {x : Int} : rSc (zup K 115 0 x) K := ⟨fun q h _ => zup_or h, fun j h => zup_ne (by omega)⟩
theorem rSc_tr {A B C : zM} (h : rSc A B) (h' : rSc B C) : rSc A C := ⟨fun q a b => (h.1 q a b).trans (h'.1 q a b), fun j a => (h.2 j a).trans (h'.2 j a)⟩
theorem rSc_id {K : zM} : rSc K K := ⟨fun _ _ _ => rfl, fun _ _ => rfl⟩
theorem rSc_v {A B : zM} (h : rSc A B) : ∀ k, rvw A k = rvw B k := rvw_c (fun j hj => h.2 j (by unfold zpl5 at hj; omega)) (fun q hq => h.1 q (by unfold zpl1 at hq; omega) (by unfold zpl1 at hq; omega))
theorem zJo_s {n : Int} {M M1 K M2 : zM} (hJ : zJo n M) (hK : zKI n M1) (h1 : zSc M1 M) (hQ : ∀ q : Nat, q < 137 → K q = M1 q) (h2 : rSc M2 K) : zJo n M2 := by
  have hc : ∀ q : Nat, q < 115 → M2 q = M1 q := fun q h => (h2.1 q (by omega) (by omega)).trans (hQ q (by omega))
  have h115 : K 115 = M1 115 := hQ 115 (by decide)
  refine zJo_r hJ hK hc (fun q a b => h1 q (Or.inl (by omega))) (by rw [h1 0 (Or.inl (by decide))]) (fun q a b => h1 q (Or.inr a)) (fun q hq => (h2.1 q (by unfold zpl1 at hq; omega) (by unfold zpl1 at hq; omega)).trans (hQ q (by unfold zpl1 at hq; omega))) (fun j hj => (h2.2 j (by unfold zpl5 at hj; omega)).trans (by rw [h115])) ?_
  obtain ⟨⟨x1, x2, x3⟩, x4, x5⟩ := hJ.x
  have e115 : K 115 = M 115 := h115.trans (h1 115 (Or.inr (by decide)))
  have e25 : M2 25 = M 25 := (hc 25 (by decide)).trans (h1 25 (Or.inl (by decide)))
  have e0 : M2 0 = M 0 := (hc 0 (by decide)).trans (h1 0 (Or.inl (by decide)))
  have e99 : M2 99 = M 99 := (hc 99 (by decide)).trans (h1 99 (Or.inl (by decide)))
  have e100 : M2 100 = M 100 := (hc 100 (by decide)).trans (h1 100 (Or.inl (by decide)))
  have e127 : M2 127 = M 127 := ((h2.1 127 (by decide) (by decide)).trans (hQ 127 (by decide))).trans (h1 127 (Or.inr (by decide)))
  refine ⟨⟨?_, ?_, ?_⟩, ?_, ?_⟩
  · rw [h2.2 39 (by decide), e115, e25]; exact x1
  · rw [h2.2 41 (by decide), e115, e0]; exact x2
  · rw [h2.2 30 (by decide), e115, e0]; exact x3
  · rw [h2.2 26 (by decide), e115, e99]; exact x4
  · rw [e127, e99, e100]; exact x5
theorem rm1_135 {M : zM} {j : Nat} : rm1 M 135 j = if (512 * (if M 115 39 = 6 then 5 else M 115 39)).toNat ≤ j ∧ j < (512 * (if M 115 39 = 6 then 5 else M 115 39)).toNat + 467 then rvw M (j - (512 * (if M 115 39 = 6 then 5 else M 115 39)).toNat) else if M 115 39 = 6 ∧ j < 2560 then M 135 (j + 512) else M 135 j := by
  have hz : zup M 115 0 0 115 39 = M 115 39 := zup_ne (by decide)
  have h9 : rmm0 (zup M 115 0 0) 115 39 = if M 115 39 = 6 then 5 else M 115 39 := by rw [rmm0_39, hz]
  have hv : ∀ k, rvw (rmm0 (zup M 115 0 0)) k = rvw M k := rvw_c (fun j hj => by rw [rmm0_5 (by unfold zpl5 at hj; omega), zup_ne (by unfold zpl5 at hj; omega)]) (fun q hq => by rw [rmm0_o (by unfold zpl1 at hq; omega) (by unfold zpl1 at hq; omega), zup_or (by unfold zpl1 at hq; omega)])
  have e : rm1 M 135 j = ztao (rmm0 (zup M 115 0 0)) 135 (512 * rmm0 (zup M 115 0 0) 115 39).toNat 467 (rvw (rmm0 (zup M 115 0 0))) 135 j := by
    unfold rm1 remM rkS
    rw [zup_or (by decide), zup_or (by decide), zup_or (by decide)]
  rw [e, h9]
  unfold ztao
  by_cases hc : (512 * (if M 115 39 = 6 then 5 else M 115 39)).toNat ≤ j ∧ j < (512 * (if M 115 39 = 6 then 5 else M 115 39)).toNat + 467
  · rw [if_pos ⟨rfl, hc⟩, if_pos hc]
    exact hv _
  · rw [if_neg (fun h => hc h.2), if_neg hc]
    unfold rmm0
    rw [hz]
    by_cases h6 : M 115 39 = 6
    · rw [if_pos h6, zup_or (by decide)]
      by_cases hj : j < 2560
      · rw [ztab_i hj, if_pos ⟨h6, hj⟩]
        unfold rmmF
        rw [zup_or (by decide)]
      · rw [ztab_g (by omega), if_neg (fun h => hj h.2), zup_or (by decide)]
    · rw [if_neg h6, if_neg (fun h => h6 h.1), zup_or (by decide)]
theorem rm1_e {K M : zM} (h1 : K 135 = M 135) (h2 : K 115 39 = M 115 39) (h3 : ∀ k, rvw K k = rvw M k) : rm1 K 135 = rm1 M 135 ∧ rm1 K 115 39 = rm1 M 115 39 := by
  refine ⟨?_, by rw [rm1_39, rm1_39, h2]⟩
  funext j
  rw [rm1_135, rm1_135, h1, h2, h3]
/-- the state was kept by both, then the now was changed by both -/
theorem zJo_w {n : Int} {M X M1 K K' M2 : zM} (hJ : zJo n M) (hK : zKI (n + 1) M1) (hQ : ∀ q : Nat, q < 137 → K q = M1 q) (hc : ∀ q : Nat, q < 115 → M2 q = K q) (hX : zSc X M) (h1 : ∀ q : Nat, 13 ≤ q → q < 99 → M1 q = zkpM X zn1 q) (h0 : M1 0 = M 0) (h99 : M1 99 = M 99) (h100 : M1 100 = M 100) (hx : ∀ q : Nat, 115 ≤ q → M1 q = M q) (hK' : rSc K' K) (e135 : M2 135 = rm1 K' 135) (e136 : M2 136 = K 136) (e127 : M2 127 = K 127) (e39 : M2 115 39 = rm1 K' 115 39) (e41 : M2 115 41 = K 115 41) (e30 : M2 115 30 = K 115 30) (e26 : M2 115 26 = K 115 26) (hV : rA M1 M2 ∧ rC M1 M2 ∧ rT M1 M2 ∧ rB M1 M2 ∧ rS M1 M2 ∧ rL M1 M2) : zJo (n + 1) M2 := by
  have hKM : ∀ q : Nat, 115 ≤ q → q < 137 → K q = M q := fun q a b => (hQ q b).trans (hx q a)
  have h115 := hKM 115 (by decide) (by decide)
  obtain ⟨r1, r2⟩ := rm1_e (K := K') (M := M) ((hK'.1 135 (by decide) (by decide)).trans (hKM 135 (by decide) (by decide))) ((hK'.2 39 (by decide)).trans (by rw [h115])) (fun k => (rSc_v hK' k).trans (rvw_c (fun j _ => by rw [h115]) (fun q hq => hKM q (by unfold zpl1 at hq; omega) (by unfold zpl1 at hq; omega)) k))
  obtain ⟨⟨x1, x2, x3⟩, x4, x5⟩ := hJ.x
  have hcc : ∀ q : Nat, q < 115 → M2 q = M1 q := fun q h => (hc q h).trans (hQ q (by omega))
  obtain ⟨vA, vC, vT, vL, vS, vR⟩ := hV
  refine zJo_k hJ hK hcc (fun q a b => hX q (Or.inl (by omega))) h1 (by rw [h0]) (fun q a b => hx q a) (e135.trans r1) (e136.trans (hKM 136 (by decide) (by decide))) (e39.trans r2) ?_ (rV_of hK.b vA vC vT vL vS vR)
  have e25 : M2 25 2 = zkn M := by
    rw [hcc 25 (by decide), h1 25 (by decide) (by decide), zkp_2]
    unfold zkn
    rw [hX 25 (Or.inl (by decide))]
  refine ⟨⟨?_, ?_, ?_⟩, ?_, ?_⟩
  · rw [e39, r2, rm1_39, e25, x1]; rfl
  · rw [e41, h115, hcc 0 (by decide), h0]; exact x2
  · rw [e30, h115, hcc 0 (by decide), h0]; exact x3
  · rw [e26, h115, hcc 99 (by decide), h99]; exact x4
  · rw [e127, hKM 127 (by decide) (by decide), hcc 99 (by decide), h99, hcc 100 (by decide), h100]; exact x5
/-! A call of both. -/
def zTy (t : Nat) (v : Value) : Prop := (t = 0 ∧ ∃ i : Int32, v = .int i) ∨ (t = 1 ∧ ∃ i : Int64, v = .long i)
def zAg (hh : List (Nat × Int)) (o : XO) (v : Value) (M2 : zM) : Prop := (∃ E k, o = .inr E ∧ (E, k) ∈ hh ∧ M2 115 0 = k) ∨ (M2 115 0 = 0 ∧ o = .inl (some v))
def zFo (hh : List (Nat × Int)) (t : Nat) (o : XO) : Prop := (∃ E, o = .inr E ∧ E ∈ hh.map Prod.fst) ∨ ∃ x, o = .inl (some x) ∧ zTy t x
def zRun (xs : List Int32) (d k : Nat) (as : List Value) (M : zM) (o : XO) (M1 : zM) : Prop := ∀ w : Bool, ∃ w1 : Bool, xrun2 xs d k as (w, zheap M) = some (o, (w1, zheap M1))
def zRef (xs : List Int32) (d k : Nat) (as : List Value) (hh : List (Nat × Int)) (t : Nat) (ag : Prop) (n : Int) (o : XO) (K : zM) : Prop := ∃ (v : Value) (M2 : zM), (∀ w : Bool, xrun2 xs d k as (w, zheap K) = some (.inl (some v), (w, zheap M2))) ∧ zTy t v ∧ M2 137 = K 137 ∧ zJo n M2 ∧ (ag → zAg hh o v M2)
def zStep (xs : List Int32) (dc dr kc : Nat) (ac : List Value) (kr : Nat) (ar : List Value) (hh : List (Nat × Int)) (t : Nat) (ag : Prop) (n : Int) (M : zM) : Prop := ∃ (o : XO) (M1 : zM), zRun xs dc kc ac M o M1 ∧ zFo hh t o ∧ ∀ K : zM, (∀ q : Nat, q < 137 → K q = M1 q) → zRef xs dr kr ar hh t ag (n + 1) o K
theorem zTy_i {i : Int32} : zTy 0 (.int i) := Or.inl ⟨rfl, i, rfl⟩
theorem zTy_j {i : Int64} : zTy 1 (.long i) := Or.inr ⟨rfl, i, rfl⟩
theorem zFo_e {hh : List (Nat × Int)} {t E : Nat} (h : E ∈ hh.map Prod.fst) : zFo hh t (.inr E) := Or.inl ⟨E, rfl, h⟩
theorem zFo_v {hh : List (Nat × Int)} {t : Nat} {x : Value} (h : zTy t x) : zFo hh t (.inl (some x)) := Or.inr ⟨x, rfl, h⟩
/-- the relations of the reference's rows with the class's memory before -/
def zR6 (C M : zM) : Prop := rA C M ∧ rC C M ∧ rT C M ∧ rB C M ∧ rS C M ∧ rL C M
theorem zJo_39 {n : Int} {M K : zM} (hJ : zJo n M) (h : K 115 = M 115) : 0 ≤ K 115 39 ∧ K 115 39 ≤ 6 := by
  rw [h, hJ.x.1.1]
  exact hJ.k.ch.2
/-- a call that leaves the state -/
theorem zst_r {xs : List Int32} {dc dr kc kr t : Nat} {ac ar : List Value} {hh : List (Nat × Int)} {ag : Prop} {n : Int} {M M1 : zM} {o : XO} (hJ : zJo n M) (hn : n + 1 ≤ 600) (hr : zRun xs dc kc ac M o M1) (hf : zFo hh t o) (hK : zKI n M1) (h1 : zSc M1 M) (h2 : ∀ K : zM, (∀ q : Nat, q < 137 → K q = M1 q) → zR6 M K → (0 ≤ K 115 39 ∧ K 115 39 ≤ 6) → K 115 = M 115 → ∃ (v : Value) (M2 : zM), (∀ w : Bool, xrun2 xs dr kr ar (w, zheap K) = some (.inl (some v), (w, zheap M2))) ∧ zTy t v ∧ M2 137 = K 137 ∧ rSc M2 K ∧ (ag → zAg hh o v M2)) : zStep xs dc dr kc ac kr ar hh t ag n M := by
  refine ⟨o, M1, hr, hf, fun K hQ => ?_⟩
  have e115 : K 115 = M 115 := (hQ 115 (by decide)).trans (h1 115 (Or.inr (by decide)))
  obtain ⟨v, M2, a, b, c, e, f⟩ := h2 K hQ (zJo_A hJ (fun q a b => (hQ q b).trans (h1 q (Or.inr a)))) (zJo_39 hJ e115) e115
  exact ⟨v, M2, a, b, c, zJo_n (zJo_s hJ hK h1 hQ e) (by omega) hn, f⟩
/-- a call that changes the now -/
theorem zst_w {xs : List Int32} {dc dr kc kr t : Nat} {ac ar : List Value} {hh : List (Nat × Int)} {ag : Prop} {n : Int} {M X M1 : zM} {o : XO} (hJ : zJo n M) (hr : zRun xs dc kc ac M o M1) (hf : zFo hh t o) (hK : zKI (n + 1) M1) (hX : zSc X M) (h1 : ∀ q : Nat, 13 ≤ q → q < 99 → M1 q = zkpM X zn1 q) (h0 : M1 0 = M 0) (h99 : M1 99 = M 99) (h100 : M1 100 = M 100) (hx : ∀ q : Nat, 115 ≤ q → M1 q = M q)
    (h2 : ∀ K : zM, (∀ q : Nat, q < 137 → K q = M1 q) → (∀ q : Nat, 115 ≤ q ∧ q < 137 → K q = M q) → zR6 M K → (0 ≤ K 115 39 ∧ K 115 39 ≤ 6) → ∃ (v : Value) (M2 K' : zM), (∀ w : Bool, xrun2 xs dr kr ar (w, zheap K) = some (.inl (some v), (w, zheap M2))) ∧ zTy t v ∧ (∀ q : Nat, q < 115 ∨ q = 137 ∨ q = 136 ∨ q = 127 → M2 q = K q) ∧ rSc K' K ∧ (M2 135 = rm1 K' 135 ∧ M2 115 39 = rm1 K' 115 39) ∧ (M2 115 41 = K 115 41 ∧ M2 115 30 = K 115 30 ∧ M2 115 26 = K 115 26) ∧ zR6 M1 M2 ∧ (ag → zAg hh o v M2)) : zStep xs dc dr kc ac kr ar hh t ag n M := by
  refine ⟨o, M1, hr, hf, fun K hQ => ?_⟩
  have hKM : ∀ q : Nat, 115 ≤ q ∧ q < 137 → K q = M q := fun q a => (hQ q a.2).trans (hx q a.1)
  obtain ⟨v, M2, K', a, b, c, e, f, g, i, j⟩ := h2 K hQ hKM (zJo_A hJ (fun q a b => hKM q ⟨a, b⟩)) (zJo_39 hJ (hKM 115 (by decide)))
  exact ⟨v, M2, a, b, c 137 (by omega), zJo_w hJ hK hQ (fun q h => c q (Or.inl h)) hX h1 h0 h99 h100 hx e f.1 (c 136 (by omega)) (c 127 (by omega)) f.2 g.1 g.2.1 g.2.2 i, j⟩
