/-! What the class keeps. -/
def zp100 : Nat → Int
  | 0 => 1
  | n + 1 => zp100 n * 100
def zRs (M : zM) : Prop := ∀ i : Nat, i ≤ 8 → ∀ c : Nat, c < 36 → 0 ≤ M 111 (i * 36 + c) ∧ M 111 (i * 36 + c) ≤ zp100 (8 - i)
def zKX (M : zM) : Prop := zBu M ∧ (∀ j : Nat, j < 36 → zr32 (M 107 j)) ∧ (∀ j : Nat, j < 36 → zr32 (M 106 j)) ∧ zWr (M 114) ∧ zBr M 104 ∧ zEr (M 109) ∧ zRs M ∧ (M 0 2 = 0 ∨ M 0 2 = 1) ∧ (-1 ≤ M 0 5 ∧ M 0 5 ≤ 45)
theorem zKX.bu {M : zM} (h : zKX M) : zBu M := h.1
theorem zKX.r7 {M : zM} (h : zKX M) : ∀ j : Nat, j < 36 → zr32 (M 107 j) := h.2.1
theorem zKX.r6 {M : zM} (h : zKX M) : ∀ j : Nat, j < 36 → zr32 (M 106 j) := h.2.2.1
theorem zKX.w {M : zM} (h : zKX M) : zWr (M 114) := h.2.2.2.1
theorem zKX.br {M : zM} (h : zKX M) : zBr M 104 := h.2.2.2.2.1
theorem zKX.er {M : zM} (h : zKX M) : zEr (M 109) := h.2.2.2.2.2.1
theorem zKX.rs {M : zM} (h : zKX M) : zRs M := h.2.2.2.2.2.2.1
theorem zKX.k {M : zM} (h : zKX M) : M 0 2 = 0 ∨ M 0 2 = 1 := h.2.2.2.2.2.2.2.1
theorem zKX.ea {M : zM} (h : zKX M) : -1 ≤ M 0 5 ∧ M 0 5 ≤ 45 := h.2.2.2.2.2.2.2.2
def zKI (n : Int) (M : zM) : Prop := (0 ≤ n ∧ n ≤ 600) ∧ zBI n M zn1 ∧ (M 0 2 = 1 → zBI n M zn13) ∧ (∀ i : Int, 0 ≤ i → i < M 25 2 → zBI n M (zslo M i)) ∧ zCh M ∧ zKX M
theorem zKI.n {n : Int} {M : zM} (h : zKI n M) : 0 ≤ n ∧ n ≤ 600 := h.1
theorem zKI.b {n : Int} {M : zM} (h : zKI n M) : zBI n M zn1 := h.2.1
theorem zKI.s {n : Int} {M : zM} (h : zKI n M) : M 0 2 = 1 → zBI n M zn13 := h.2.2.1
theorem zKI.r {n : Int} {M : zM} (h : zKI n M) : ∀ i : Int, 0 ≤ i → i < M 25 2 → zBI n M (zslo M i) := h.2.2.2.1
theorem zKI.ch {n : Int} {M : zM} (h : zKI n M) : zCh M := h.2.2.2.2.1
theorem zKI.x {n : Int} {M : zM} (h : zKI n M) : zKX M := h.2.2.2.2.2
theorem zKI.ci {n : Int} {M : zM} (h : zKI n M) : zCI M := by
  have b := h.b
  have hro := zfree_b b.g b.b6
  exact ⟨b.g, b.b1.2.1, b.b2.1, b.b3.1, b.b4.1, b.b1.2.2.2, b.b5, by omega, h.ch, h.x.bu, h.x.r7, h.x.r6, h.x.w, h.x.br, fun e he => zmw_pos hzn1 b.b1 b.b2 b.b3 he, h.x.k, h.x.ea⟩
theorem zKX_c {M M0 : zM} (h : zKX M0) (hq : ∀ q : Nat, 99 ≤ q → q < 115 → q ≠ 102 → q ≠ 103 → M q = M0 q) (h2 : M 0 2 = M0 0 2) (h5 : M 0 5 = M0 0 5) : zKX M := by
  refine ⟨?_, ?_, ?_, ?_, ?_, ?_, ?_, by rw [h2]; exact h.k, by rw [h5]; exact h.ea⟩
  · unfold zBu; rw [hq 99 (by decide) (by decide) (by decide) (by decide), hq 100 (by decide) (by decide) (by decide) (by decide)]; exact h.bu
  · rw [hq 107 (by decide) (by decide) (by decide) (by decide)]; exact h.r7
  · rw [hq 106 (by decide) (by decide) (by decide) (by decide)]; exact h.r6
  · rw [hq 114 (by decide) (by decide) (by decide) (by decide)]; exact h.w
  · unfold zBr; rw [hq 104 (by decide) (by decide) (by decide) (by decide)]; exact h.br
  · rw [hq 109 (by decide) (by decide) (by decide) (by decide)]; exact h.er
  · unfold zRs; rw [hq 111 (by decide) (by decide) (by decide) (by decide)]; exact h.rs
theorem zBE_1 {M M0 : zM} (h : ∀ q : Nat, 1 ≤ q → q < 13 → M q = M0 q) : zBE M zn1 M0 zn1 := zBE_q h
theorem zBE_13 {M M0 : zM} (h : ∀ q : Nat, 13 ≤ q → q < 25 → M q = M0 q) : zBE M zn13 M0 zn13 := zBE_q h
/-- nothing of what is kept has changed -/
theorem zKI_f {n : Int} {M M0 : zM} (h : zKI n M0) (hq : ∀ q : Nat, q ≠ 0 → q < 99 → M q = M0 q) (h2 : M 0 2 = M0 0 2) (hx : zKX M) : zKI n M := by
  have h25 := hq 25 (by decide) (by decide)
  refine ⟨h.n, zBI_c (zBE_1 (fun q h1 h2 => hq q (by omega) (by omega))) h.b, fun e => zBI_c (zBE_13 (fun q h1 h2 => hq q (by omega) (by omega))) (h.s (h2 ▸ e)), fun i h0 h1 => ?_, zCh_c h25 h.ch, hx⟩
  have e : zslo M i = zslo M0 i := by unfold zslo; rw [h25]
  have hs := zSt_le (zslo_st M0 i)
  rw [e]
  rw [h25] at h1
  exact zBI_c (zBE_q (fun q h1 h2 => hq q (by omega) (by omega))) (h.r i h0 h1)
/-- the state was kept, then the now was changed -/
theorem zKI_k {n : Int} {X M : zM} (h : zKI n X) (hn : n + 1 ≤ 600) (hq : ∀ q : Nat, 13 ≤ q → q < 99 → M q = zkpM X zn1 q) (h2 : M 0 2 = X 0 2) (hb : zBI (n + 1) M zn1) (hx : zKX M) : zKI (n + 1) M := by
  have h25 := hq 25 (by decide) (by decide)
  have hn0 := h.n
  refine ⟨by omega, hb, fun e => ?_, fun i h0 h1 => ?_, zCh_c h25 (zCh_kp h.ch), hx⟩
  · exact zBI_n (n := n) (by omega) (zBI_c (zBE_13 (fun q h1 h2 => by rw [hq q (by omega) (by omega), zkp_o (by omega)])) (h.s (h2 ▸ e)))
  · have e : zslo M i = zslo (zkpM X zn1) i := by unfold zslo; rw [h25]
    rw [h25, zkp_2] at h1
    have hs := zSt_le (zslo_st (zkpM X zn1) i)
    have h27 : 27 ≤ zslo (zkpM X zn1) i := by unfold zslo zring; omega
    have hr := zkp_ring hzn1 (by decide) h.ch h0 h1
    rw [e]
    refine zBI_n (n := n) (by omega) (zBI_c ((zBE_q (fun q h1 h2 => hq q (by omega) (by omega))).tr hr) ?_)
    split
    · exact h.b
    · next hne =>
      refine h.r _ (by split <;> omega) ?_
      unfold zkn at h1 hne
      split <;> omega
theorem zKb {n : Int} {M : zM} (h : zKI n M) : zBI n (zkpM M zn1) zn1 := zBI_c (zBE_1 (fun q h1 h2 => zkp_o (by omega))) h.b
theorem zKX_k {n : Int} {M : zM} (h : zKI n M) : zKX (zkpM M zn1) := zKX_c h.x (fun q h1 h2 _ _ => zkp_o (by omega)) (by rw [zkp_o (by decide)]) (by rw [zkp_o (by decide)])
theorem zup_at {M : zM} {q j i : Nat} {x : Int} : zup M q j x q i = if i = j then x else M q i := by
  unfold zup
  by_cases h : i = j
  · rw [if_pos ⟨rfl, h⟩, if_pos h]
  · rw [if_neg (fun e => h e.2), if_neg h]
theorem zBI_n4 {n : Int} {M M0 : zM} {a : Nat} (h : zEf M a M0 a) (h8 : ∀ j : Nat, j < 3 → M (a + 8) j = M0 (a + 8) j) (h9 : ∀ j : Nat, j < 8 → M (a + 9) j = M0 (a + 9) j) (h10 : ∀ j : Nat, j < 288 → M (a + 10) j = M0 (a + 10) j) (hB : zBI n M0 a) : zB4 (n + 1) M a := by
  have h1 := zB4_c h h8 h9 h10 hB.b4
  exact ⟨h1.1, ⟨by have := h1.2.1.1; omega, by have := h1.2.1.2; omega⟩, h1.2.2.1, h1.2.2.2⟩
theorem zki_mark {n : Int} {M : zM} {x y : Int} (hf : zfree M zn1 x) (hy : 0 ≤ y ∧ y < 4) (h : zKI n M) (hn : n + 1 ≤ 600) : zKI (n + 1) (zup (zkpM M zn1) (zn1 + 2) x.toNat y) := by
  have hK := zKb h
  have hG : zGr (zup (zkpM M zn1) (zn1 + 2) x.toNat y) zn1 := by
    refine ⟨by rw [zup_or (by decide)]; exact hK.g.1, by rw [zup_or (by decide)]; exact hK.g.2.1, fun c hc => ?_⟩
    rw [zup_at]
    split
    · omega
    · exact hK.g.2.2 c hc
  have hE : zEf (zup (zkpM M zn1) (zn1 + 2) x.toNat y) zn1 (zkpM M zn1) zn1 := by
    refine ⟨⟨by rw [zup_or (by decide)], by rw [zup_or (by decide)]⟩, fun c => ?_⟩
    unfold zfree
    rw [zup_or (show ¬ zn1 + 1 = zn1 + 2 by decide), zup_at]
    have hx : ¬ zkpM M zn1 (zn1 + 2) x.toNat = -1 := by rw [zkp_o (by decide)]; exact hf.2.2
    by_cases hc : c.toNat = x.toNat
    · rw [if_pos hc, hc]
      exact ⟨fun e => ⟨e.1, e.2.1, hx⟩, fun e => ⟨e.1, e.2.1, by omega⟩⟩
    · rw [if_neg hc]
  exact zKI_k h hn (fun q h1 h2 => zup_or (show ¬ q = 3 by omega)) (by rw [zup_or (by decide), zkp_o (by decide)]) ⟨zB1_c hE hG (fun j _ => by rw [zup_or (show ¬ zn1 + 4 = zn1 + 2 by decide)]) hK.b1, zB2_c hE hK.g (fun j _ => by rw [zup_or (show ¬ zn1 + 11 = zn1 + 2 by decide)]) hK.b2, zB3_c ⟨by rw [zup_or (show ¬ zn1 + 5 = zn1 + 2 by decide)], by rw [zup_or (show ¬ zn1 + 5 = zn1 + 2 by decide)]⟩ (fun j _ => by rw [zup_or (show ¬ zn1 + 6 = zn1 + 2 by decide)]) (fun j _ => by rw [zup_or (show ¬ zn1 + 7 = zn1 + 2 by decide)]) hK.b3, zBI_n4 hE (fun j _ => by rw [zup_or (show ¬ zn1 + 8 = zn1 + 2 by decide)]) (fun j _ => by rw [zup_or (show ¬ zn1 + 9 = zn1 + 2 by decide)]) (fun j _ => by rw [zup_or (show ¬ zn1 + 10 = zn1 + 2 by decide)]) hK, zCo_cc (fun j _ => by rw [zup_or (show ¬ zn1 + 3 = zn1 + 2 by decide)]) hK.b5, zB6_c hE (by rw [zup_or (show ¬ zn1 = zn1 + 2 by decide)]) hK.b6⟩ (zKX_c (zKX_k h) (fun q h1 h2 _ _ => zup_or (show ¬ q = 3 by omega)) (by rw [zup_or (by decide)]) (by rw [zup_or (by decide)]))
theorem zki_cost {n : Int} {M : zM} {x y : Int} (hy : 1 ≤ y ∧ y ≤ 9) (h : zKI n M) (hn : n + 1 ≤ 600) : zKI (n + 1) (zup (zkpM M zn1) (zn1 + 3) x.toNat y) := by
  have hK := zKb h
  have hG : zGr (zup (zkpM M zn1) (zn1 + 3) x.toNat y) zn1 := zGr_c ⟨zup_or (by decide), zup_or (by decide)⟩ hK.g
  have hE : zEf (zup (zkpM M zn1) (zn1 + 3) x.toNat y) zn1 (zkpM M zn1) zn1 := (show zE2 (zup (zkpM M zn1) (zn1 + 3) x.toNat y) (zkpM M zn1) zn1 from ⟨zup_or (by decide), zup_or (by decide)⟩).ef
  exact zKI_k h hn (fun q h1 h2 => zup_or (show ¬ q = 4 by omega)) (by rw [zup_or (by decide), zkp_o (by decide)]) ⟨zB1_c hE hG (fun j _ => by rw [zup_or (show ¬ zn1 + 4 = zn1 + 3 by decide)]) hK.b1, zB2_c hE hK.g (fun j _ => by rw [zup_or (show ¬ zn1 + 11 = zn1 + 3 by decide)]) hK.b2, zB3_c ⟨by rw [zup_or (show ¬ zn1 + 5 = zn1 + 3 by decide)], by rw [zup_or (show ¬ zn1 + 5 = zn1 + 3 by decide)]⟩ (fun j _ => by rw [zup_or (show ¬ zn1 + 6 = zn1 + 3 by decide)]) (fun j _ => by rw [zup_or (show ¬ zn1 + 7 = zn1 + 3 by decide)]) hK.b3, zBI_n4 hE (fun j _ => by rw [zup_or (show ¬ zn1 + 8 = zn1 + 3 by decide)]) (fun j _ => by rw [zup_or (show ¬ zn1 + 9 = zn1 + 3 by decide)]) (fun j _ => by rw [zup_or (show ¬ zn1 + 10 = zn1 + 3 by decide)]) hK, (fun j hj => by rw [zup_at]; split; exact hy; exact hK.b5 j hj), zB6_c hE (by rw [zup_or (show ¬ zn1 = zn1 + 3 by decide)]) hK.b6⟩ (zKX_c (zKX_k h) (fun q h1 h2 _ _ => zup_or (show ¬ q = 4 by omega)) (by rw [zup_or (by decide)]) (by rw [zup_or (by decide)]))
theorem zki_carry {n : Int} {M : zM} {x : Int} (hf : zfree M zn1 x) (h : zKI n M) (hn : n + 1 ≤ 600) : zKI (n + 1) (zup (zkpM M zn1) (zn1) 4 x) := by
  have hK := zKb h
  have hG : zGr (zup (zkpM M zn1) (zn1) 4 x) zn1 := zGr_c ⟨zup_or (by decide), zup_or (by decide)⟩ hK.g
  have hE : zEf (zup (zkpM M zn1) (zn1) 4 x) zn1 (zkpM M zn1) zn1 := (show zE2 (zup (zkpM M zn1) (zn1) 4 x) (zkpM M zn1) zn1 from ⟨zup_or (by decide), zup_or (by decide)⟩).ef
  exact zKI_k h hn (fun q h1 h2 => zup_or (show ¬ q = 1 by omega)) (by rw [zup_or (by decide), zkp_o (by decide)]) ⟨zB1_c hE hG (fun j _ => by rw [zup_or (show ¬ zn1 + 4 = zn1 by decide)]) hK.b1, zB2_c hE hK.g (fun j _ => by rw [zup_or (show ¬ zn1 + 11 = zn1 by decide)]) hK.b2, zB3_c ⟨by rw [zup_or (show ¬ zn1 + 5 = zn1 by decide)], by rw [zup_or (show ¬ zn1 + 5 = zn1 by decide)]⟩ (fun j _ => by rw [zup_or (show ¬ zn1 + 6 = zn1 by decide)]) (fun j _ => by rw [zup_or (show ¬ zn1 + 7 = zn1 by decide)]) hK.b3, zBI_n4 hE (fun j _ => by rw [zup_or (show ¬ zn1 + 8 = zn1 by decide)]) (fun j _ => by rw [zup_or (show ¬ zn1 + 9 = zn1 by decide)]) (fun j _ => by rw [zup_or (show ¬ zn1 + 10 = zn1 by decide)]) hK, zCo_cc (fun j _ => by rw [zup_or (show ¬ zn1 + 3 = zn1 by decide)]) hK.b5, (by unfold zB6; rw [zup_i]; exact (hE.2 x).mpr ((zfree_c ⟨zkp_o (by decide), zkp_o (by decide)⟩).mpr hf))⟩ (zKX_c (zKX_k h) (fun q h1 h2 _ _ => zup_or (show ¬ q = 1 by omega)) (by rw [zup_or (by decide)]) (by rw [zup_or (by decide)]))
theorem zki_rate {n : Int} {M : zM} {x : Int} (hx : 0 ≤ x ∧ x ≤ 100) (h : zKI n M) (hn : n + 1 ≤ 600) : zKI (n + 1) (zup (zkpM M zn1) (zn1 + 5) 2 x) := by
  have hK := zKb h
  have hG : zGr (zup (zkpM M zn1) (zn1 + 5) 2 x) zn1 := zGr_c ⟨zup_or (by decide), zup_or (by decide)⟩ hK.g
  have hE : zEf (zup (zkpM M zn1) (zn1 + 5) 2 x) zn1 (zkpM M zn1) zn1 := (show zE2 (zup (zkpM M zn1) (zn1 + 5) 2 x) (zkpM M zn1) zn1 from ⟨zup_or (by decide), zup_or (by decide)⟩).ef
  exact zKI_k h hn (fun q h1 h2 => zup_or (show ¬ q = 6 by omega)) (by rw [zup_or (by decide), zkp_o (by decide)]) ⟨zB1_c hE hG (fun j _ => by rw [zup_or (show ¬ zn1 + 4 = zn1 + 5 by decide)]) hK.b1, zB2_c hE hK.g (fun j _ => by rw [zup_or (show ¬ zn1 + 11 = zn1 + 5 by decide)]) hK.b2, (by obtain ⟨⟨t1, t2, t3, t4⟩, t5⟩ := hK.b3; exact ⟨⟨fun j hj => by rw [zup_or (by decide)]; exact t1 j hj, fun j hj => by rw [zup_or (by decide)]; exact t2 j hj, by rw [zup_i]; exact hx, by rw [zup_ne (by decide)]; exact t4⟩, t5⟩), zBI_n4 hE (fun j _ => by rw [zup_or (show ¬ zn1 + 8 = zn1 + 5 by decide)]) (fun j _ => by rw [zup_or (show ¬ zn1 + 9 = zn1 + 5 by decide)]) (fun j _ => by rw [zup_or (show ¬ zn1 + 10 = zn1 + 5 by decide)]) hK, zCo_cc (fun j _ => by rw [zup_or (show ¬ zn1 + 3 = zn1 + 5 by decide)]) hK.b5, zB6_c hE (by rw [zup_or (show ¬ zn1 = zn1 + 5 by decide)]) hK.b6⟩ (zKX_c (zKX_k h) (fun q h1 h2 _ _ => zup_or (show ¬ q = 6 by omega)) (by rw [zup_or (by decide)]) (by rw [zup_or (by decide)]))
theorem zki_limit {n : Int} {M : zM} {x : Int} (hx : 0 ≤ x ∧ x ≤ 100) (h : zKI n M) (hn : n + 1 ≤ 600) : zKI (n + 1) (zup (zkpM M zn1) (zn1 + 5) 3 x) := by
  have hK := zKb h
  have hG : zGr (zup (zkpM M zn1) (zn1 + 5) 3 x) zn1 := zGr_c ⟨zup_or (by decide), zup_or (by decide)⟩ hK.g
  have hE : zEf (zup (zkpM M zn1) (zn1 + 5) 3 x) zn1 (zkpM M zn1) zn1 := (show zE2 (zup (zkpM M zn1) (zn1 + 5) 3 x) (zkpM M zn1) zn1 from ⟨zup_or (by decide), zup_or (by decide)⟩).ef
  exact zKI_k h hn (fun q h1 h2 => zup_or (show ¬ q = 6 by omega)) (by rw [zup_or (by decide), zkp_o (by decide)]) ⟨zB1_c hE hG (fun j _ => by rw [zup_or (show ¬ zn1 + 4 = zn1 + 5 by decide)]) hK.b1, zB2_c hE hK.g (fun j _ => by rw [zup_or (show ¬ zn1 + 11 = zn1 + 5 by decide)]) hK.b2, (by obtain ⟨⟨t1, t2, t3, t4⟩, t5⟩ := hK.b3; exact ⟨⟨fun j hj => by rw [zup_or (by decide)]; exact t1 j hj, fun j hj => by rw [zup_or (by decide)]; exact t2 j hj, by rw [zup_ne (by decide)]; exact t3, by rw [zup_i]; exact hx⟩, t5⟩), zBI_n4 hE (fun j _ => by rw [zup_or (show ¬ zn1 + 8 = zn1 + 5 by decide)]) (fun j _ => by rw [zup_or (show ¬ zn1 + 9 = zn1 + 5 by decide)]) (fun j _ => by rw [zup_or (show ¬ zn1 + 10 = zn1 + 5 by decide)]) hK, zCo_cc (fun j _ => by rw [zup_or (show ¬ zn1 + 3 = zn1 + 5 by decide)]) hK.b5, zB6_c hE (by rw [zup_or (show ¬ zn1 = zn1 + 5 by decide)]) hK.b6⟩ (zKX_c (zKX_k h) (fun q h1 h2 _ _ => zup_or (show ¬ q = 6 by omega)) (by rw [zup_or (by decide)]) (by rw [zup_or (by decide)]))
theorem zki_seed {n : Int} {M : zM} {x : Int} (h : zKI n M) (hn : n + 1 ≤ 600) : zKI (n + 1) (zup (zkpM M zn1) (zn1) 5 x) := by
  have hK := zKb h
  have hG : zGr (zup (zkpM M zn1) (zn1) 5 x) zn1 := zGr_c ⟨zup_or (by decide), zup_or (by decide)⟩ hK.g
  have hE : zEf (zup (zkpM M zn1) (zn1) 5 x) zn1 (zkpM M zn1) zn1 := (show zE2 (zup (zkpM M zn1) (zn1) 5 x) (zkpM M zn1) zn1 from ⟨zup_or (by decide), zup_or (by decide)⟩).ef
  exact zKI_k h hn (fun q h1 h2 => zup_or (show ¬ q = 1 by omega)) (by rw [zup_or (by decide), zkp_o (by decide)]) ⟨zB1_c hE hG (fun j _ => by rw [zup_or (show ¬ zn1 + 4 = zn1 by decide)]) hK.b1, zB2_c hE hK.g (fun j _ => by rw [zup_or (show ¬ zn1 + 11 = zn1 by decide)]) hK.b2, zB3_c ⟨by rw [zup_or (show ¬ zn1 + 5 = zn1 by decide)], by rw [zup_or (show ¬ zn1 + 5 = zn1 by decide)]⟩ (fun j _ => by rw [zup_or (show ¬ zn1 + 6 = zn1 by decide)]) (fun j _ => by rw [zup_or (show ¬ zn1 + 7 = zn1 by decide)]) hK.b3, zBI_n4 hE (fun j _ => by rw [zup_or (show ¬ zn1 + 8 = zn1 by decide)]) (fun j _ => by rw [zup_or (show ¬ zn1 + 9 = zn1 by decide)]) (fun j _ => by rw [zup_or (show ¬ zn1 + 10 = zn1 by decide)]) hK, zCo_cc (fun j _ => by rw [zup_or (show ¬ zn1 + 3 = zn1 by decide)]) hK.b5, zB6_c hE (by rw [zup_ne (by decide)]) hK.b6⟩ (zKX_c (zKX_k h) (fun q h1 h2 _ _ => zup_or (show ¬ q = 1 by omega)) (by rw [zup_or (by decide)]) (by rw [zup_or (by decide)]))
theorem zki_sensor {n : Int} {M : zM} {x y v : Int} (hv : 0 ≤ v ∧ v ≤ 100) (h : zKI n M) (hn : n + 1 ≤ 600) : zKI (n + 1) (zup (zkpM M zn1) (zn1 + 7) (x * 4 + y).toNat v) := by
  have hK := zKb h
  have hG : zGr (zup (zkpM M zn1) (zn1 + 7) (x * 4 + y).toNat v) zn1 := zGr_c ⟨zup_or (by decide), zup_or (by decide)⟩ hK.g
  have hE : zEf (zup (zkpM M zn1) (zn1 + 7) (x * 4 + y).toNat v) zn1 (zkpM M zn1) zn1 := (show zE2 (zup (zkpM M zn1) (zn1 + 7) (x * 4 + y).toNat v) (zkpM M zn1) zn1 from ⟨zup_or (by decide), zup_or (by decide)⟩).ef
  exact zKI_k h hn (fun q h1 h2 => zup_or (show ¬ q = 8 by omega)) (by rw [zup_or (by decide), zkp_o (by decide)]) ⟨zB1_c hE hG (fun j _ => by rw [zup_or (show ¬ zn1 + 4 = zn1 + 7 by decide)]) hK.b1, zB2_c hE hK.g (fun j _ => by rw [zup_or (show ¬ zn1 + 11 = zn1 + 7 by decide)]) hK.b2, (by obtain ⟨⟨t1, t2, t3, t4⟩, t5⟩ := hK.b3; exact ⟨⟨fun j hj => by rw [zup_or (by decide)]; exact t1 j hj, fun j hj => by rw [zup_at]; split; exact hv; exact t2 j hj, by rw [zup_or (by decide)]; exact t3, by rw [zup_or (by decide)]; exact t4⟩, t5⟩), zBI_n4 hE (fun j _ => by rw [zup_or (show ¬ zn1 + 8 = zn1 + 7 by decide)]) (fun j _ => by rw [zup_or (show ¬ zn1 + 9 = zn1 + 7 by decide)]) (fun j _ => by rw [zup_or (show ¬ zn1 + 10 = zn1 + 7 by decide)]) hK, zCo_cc (fun j _ => by rw [zup_or (show ¬ zn1 + 3 = zn1 + 7 by decide)]) hK.b5, zB6_c hE (by rw [zup_or (show ¬ zn1 = zn1 + 7 by decide)]) hK.b6⟩ (zKX_c (zKX_k h) (fun q h1 h2 _ _ => zup_or (show ¬ q = 8 by omega)) (by rw [zup_or (by decide)]) (by rw [zup_or (by decide)]))
