/-! What the class keeps, method by method. -/
theorem zki_keep {n : Int} {M : zM} (h : zKI n M) (hn : n + 1 ≤ 600) : zKI (n + 1) (zkpM M zn1) := zKI_k h hn (fun _ _ _ => rfl) (by rw [zkp_o (by decide)]) (zBI_n (by omega) (zKb h)) (zKX_k h)
theorem zki_n {n n' : Int} {M : zM} (h : zKI n M) (hn : n ≤ n') (hn2 : n' ≤ 600) : zKI n' M := ⟨⟨Int.le_trans h.n.1 hn, hn2⟩, zBI_n hn h.b, fun e => zBI_n hn (h.s e), fun i h0 h1 => zBI_n hn (h.r i h0 h1), h.ch, h.x⟩
theorem zki_motion {n : Int} {M : zM} {x y v : Int} (h : zKI n M) (hn : n + 1 ≤ 600) (hx : 0 ≤ x ∧ x ≤ 16) (hy : 0 ≤ y ∧ y ≤ 16) (hv : 0 ≤ v ∧ v ≤ 16) (hs : x + y + v ≤ 16) : zKI (n + 1) (zup (zup (zup (zup (zkpM M zn1) (zn1 + 6) 0 x) (zn1 + 6) 1 y) (zn1 + 6) 2 v) (zn1 + 6) 3 (16 - x - y - v)) := by
  have hK := zKb h
  generalize hM' : zup (zup (zup (zup (zkpM M zn1) (zn1 + 6) 0 x) (zn1 + 6) 1 y) (zn1 + 6) 2 v) (zn1 + 6) 3 (16 - x - y - v) = M'
  have hq : ∀ q : Nat, q ≠ 7 → M' q = zkpM M zn1 q := fun q a => by rw [← hM', zup_or a, zup_or a, zup_or a, zup_or a]
  have h0 : M' (zn1 + 6) 0 = x := by rw [← hM', zup_ne (by decide), zup_ne (by decide), zup_ne (by decide), zup_i]
  have h1 : M' (zn1 + 6) 1 = y := by rw [← hM', zup_ne (by decide), zup_ne (by decide), zup_i]
  have h2 : M' (zn1 + 6) 2 = v := by rw [← hM', zup_ne (by decide), zup_i]
  have h3 : M' (zn1 + 6) 3 = 16 - x - y - v := by rw [← hM', zup_i]
  have hE : zE2 M' (zkpM M zn1) zn1 := ⟨hq _ (by decide), hq _ (by decide)⟩
  obtain ⟨⟨t1, t2, t3, t4⟩, t5⟩ := hK.b3
  refine zKI_k h hn (fun q a b => hq q (by omega)) (by rw [hq _ (by decide), zkp_o (by decide)]) ⟨zB1_c hE.ef (zGr_c hE hK.g) (fun j _ => by rw [hq _ (by decide)]) hK.b1, zB2_c hE.ef hK.g (fun j _ => by rw [hq _ (by decide)]) hK.b2, ⟨⟨fun j hj => ?_, fun j hj => by rw [hq _ (by decide)]; exact t2 j hj, by rw [hq _ (by decide)]; exact t3, by rw [hq _ (by decide)]; exact t4⟩, ?_⟩, zBI_n4 hE.ef (fun j _ => by rw [hq _ (by decide)]) (fun j _ => by rw [hq _ (by decide)]) (fun j _ => by rw [hq _ (by decide)]) hK, zCo_cc (fun j _ => by rw [hq _ (by decide)]) hK.b5, zB6_c hE.ef (by rw [hq _ (by decide)]) hK.b6⟩ (zKX_c (zKX_k h) (fun q a b _ _ => hq q (by omega)) (by rw [hq _ (by decide)]) (by rw [hq _ (by decide)]))
  · have hj4 : j = 0 ∨ j = 1 ∨ j = 2 ∨ j = 3 := by omega
    rcases hj4 with rfl | rfl | rfl | rfl
    · rw [h0]; exact hx
    · rw [h1]; exact hy
    · rw [h2]; exact hv
    · rw [h3]; omega
  · show 0 + M' (zn1 + 6) 0 + M' (zn1 + 6) 1 + M' (zn1 + 6) 2 + M' (zn1 + 6) 3 = 16
    rw [h0, h1, h2, h3]
    omega
theorem zki_spread {n : Int} {M : zM} (h : zKI n M) (hn : n + 1 ≤ 600) : zKI (n + 1) (zfgM (zkpM M zn1)) := by
  have hK := zKb h
  have hn0 := h.n
  have hq : ∀ q : Nat, q ≠ 9 → q ≠ 12 → q ≠ 102 → q ≠ 103 → zfgM (zkpM M zn1) q = zkpM M zn1 q := fun q a b c d => zfg_o b c d a
  exact zKI_k h hn (fun q a b => hq q (by omega) (by omega) (by omega) (by omega)) (by rw [hq _ (by decide) (by decide) (by decide) (by decide), zkp_o (by decide)]) (zBI_fg (by omega) hK.b1 hK.b2.1 hK.b3 hK.b4.1 hK.b5 hK.b6) (zKX_c (zKX_k h) (fun q a b c d => hq q (by omega) (by omega) c d) (by rw [hq _ (by decide) (by decide) (by decide) (by decide)]) (by rw [hq _ (by decide) (by decide) (by decide) (by decide)]))
theorem zki_place {n : Int} {M : zM} {x : Int} (h : zKI n M) (hn : n + 1 ≤ 600) (hf : zfree M zn1 x) : zKI (n + 1) (zplM (zkpM M zn1) x) := by
  have hK := zKb h
  have hn0 := h.n
  have hfK : zfree (zkpM M zn1) zn1 x := (zfree_c ⟨zkp_o (by decide), zkp_o (by decide)⟩).mpr hf
  have hxb := zfree_b hK.g hfK
  have hY : ∀ q : Nat, q ≠ 12 → zup (ztab (zkpM M zn1) (zn1 + 11) 36 (fun _ => 0)) (zn1 + 11) x.toNat 1000000 q = zkpM M zn1 q := fun q a => by
    rw [zup_or a]
    funext j
    exact ztab_o a
  have hq : ∀ q : Nat, q ≠ 9 → q ≠ 12 → zplM (zkpM M zn1) x q = zkpM M zn1 q := fun q a b => by
    unfold zplM
    rw [zclM_o a, hY q b]
  have hE : zE2 (zplM (zkpM M zn1) x) (zkpM M zn1) zn1 := ⟨hq _ (by decide) (by decide), hq _ (by decide) (by decide)⟩
  have hYE : zE2 (zup (ztab (zkpM M zn1) (zn1 + 11) 36 (fun _ => 0)) (zn1 + 11) x.toNat 1000000) (zkpM M zn1) zn1 := ⟨hY _ (by decide), hY _ (by decide)⟩
  have h12 : ∀ j, j < 36 → zplM (zkpM M zn1) x (zn1 + 11) j = if x.toNat = j then 1000000 else 0 := fun j hj => by
    unfold zplM
    rw [zclM_o (by decide), zup_at, ztab_i hj]
    by_cases e : j = x.toNat
    · rw [if_pos e, if_pos e.symm]
    · rw [if_neg e, if_neg (fun h => e h.symm)]
  obtain ⟨g6, g7⟩ := hK.g.sz
  have hz : zsz (zkpM M zn1) zn1 = zkpM M zn1 (zn1 + 1) 0 * zkpM M zn1 (zn1 + 1) 1 := rfl
  have hxs := hfK.2.1
  refine zKI_k h hn (fun q a b => hq q (by omega) (by omega)) (by rw [hq _ (by decide) (by decide), zkp_o (by decide)]) ⟨zB1_c hE.ef (zGr_c hE hK.g) (fun j _ => by rw [hq _ (by decide) (by decide)]) hK.b1, ⟨fun j hj => ?_, ?_, fun j hj hw => ?_⟩, zB3_c ⟨by rw [hq _ (by decide) (by decide)], by rw [hq _ (by decide) (by decide)]⟩ (fun j _ => by rw [hq _ (by decide) (by decide)]) (fun j _ => by rw [hq _ (by decide) (by decide)]) hK.b3, zB4_clr (by omega) (zTr_c (hY _ (by decide)) (hY _ (by decide)) (hY _ (by decide)) hK.b4.1) (zGr_c hYE hK.g) (Or.inr ((zfree_c hYE).mpr hfK)), zCo_cc (fun j _ => by rw [hq _ (by decide) (by decide)]) hK.b5, zB6_c hE.ef (by rw [hq _ (by decide) (by decide)]) hK.b6⟩ (zKX_c (zKX_k h) (fun q a b c d => hq q (by omega) (by omega)) (by rw [hq _ (by decide) (by decide)]) (by rw [hq _ (by decide) (by decide)]))
  · rw [h12 j hj]
    split <;> decide
  · rw [zsz_c hE, zsum_c (K := fun j => if x.toNat = j then 1000000 else 0) _ (fun j hj => h12 j (by omega)), zsum_one, if_pos (by omega)]
  · rw [zsz_c hE] at hj
    rw [h12 j (by omega), if_neg (fun e => hw ((zfreeN_c hE).symm ▸ (by subst e; exact (zfreeN_i hfK.1).mpr hfK)))]
theorem zki_move {n : Int} {M : zM} {x : Int} (h : zKI n M) (hn : n + 1 ≤ 600) (hx : 0 ≤ x ∧ x < 4) : zKI (n + 1) (zgoM (zkpM M zn1) x) := by
  have hK := zKb h
  have hq : ∀ q : Nat, q ≠ 9 → q ≠ 10 → q ≠ 11 → q ≠ 12 → q ≠ 102 → q ≠ 103 → zgoM (zkpM M zn1) x q = zkpM M zn1 q := fun q a b c d e f => zgo_o a b c d e f
  exact zKI_k h hn (fun q a b => hq q (by omega) (by omega) (by omega) (by omega) (by omega) (by omega)) (by rw [hq _ (by decide) (by decide) (by decide) (by decide) (by decide) (by decide), zkp_o (by decide)]) (zBI_go (by omega) hx hK) (zKX_c (zKX_k h) (fun q a b c d => hq q (by omega) (by omega) (by omega) (by omega) c d) (by rw [hq _ (by decide) (by decide) (by decide) (by decide) (by decide) (by decide)]) (by rw [hq _ (by decide) (by decide) (by decide) (by decide) (by decide) (by decide)]))
/-- scratch rows of the filter -/
theorem zki_scr {n : Int} {M X : zM} (h : zKI n M) (hq : ∀ q : Nat, q < 115 → q ≠ 102 → q ≠ 103 → q ≠ 104 → X q = M q) (hb : zBr X 104) : zKI n X := zKI_f h (fun q a b => hq q (by omega) (by omega) (by omega) (by omega)) (by rw [hq 0 (by decide) (by decide) (by decide) (by decide)]) (zKX_4 h.x (fun q a b c d e => hq q (by omega) c d e) hb (by rw [hq 0 (by decide) (by decide) (by decide) (by decide)]) (by rw [hq 0 (by decide) (by decide) (by decide) (by decide)]))
theorem zki_T {n : Int} {M : zM} {k : Int} (h : zKI n M) : zKI n (zsT M k) := zki_scr h (fun q _ a _ _ => zsgM_o a) (by unfold zBr zsT; rw [zsgM_o (by decide)]; exact h.x.br)
theorem zki_R {n : Int} {M : zM} {k : Int} (h : zKI n M) : zKI n (zsR M k) := zki_scr h (fun q _ a b c => by unfold zsR; rw [zsgM_o a, zrsM_o a b c]) (zCI_rs h.ci).br
theorem zsg_wall {X : zM} {q : Nat} {k : Int} {j : Nat} (hj : (j : Int) < zsz X zn1) (hf : ¬ zfreeN X zn1 j) : zsgM X zn1 q k 102 j = 0 := by
  unfold zsgM
  rw [ztab_i (by omega)]
  exact if_neg hf
theorem zkt_wall {M : zM} {k : Int} {j : Nat} (hj : (j : Int) < zsz (zkpM (zsT M k) zn1) zn1) (hf : ¬ zfreeN (zkpM (zsT M k) zn1) zn1 j) : zkpM (zsT M k) zn1 102 j = 0 := by
  have hE : zE2 (zkpM (zsT M k) zn1) M zn1 := ⟨by rw [zkp_o (by decide)]; exact zsgM_o (by decide), by rw [zkp_o (by decide)]; exact zsgM_o (by decide)⟩
  rw [zsz_c hE] at hj
  rw [zkp_o (by decide)]
  exact zsg_wall hj (fun e => hf (by rw [zfreeN_c hE]; exact e))
theorem zkr_wall {M : zM} {k : Int} {j : Nat} (hj : (j : Int) < zsz (zkpM (zsR M k) zn1) zn1) (hf : ¬ zfreeN (zkpM (zsR M k) zn1) zn1 j) : zkpM (zsR M k) zn1 102 j = 0 := by
  have hE : zE2 (zkpM (zsR M k) zn1) (zrsM M zn1 k) zn1 := ⟨by rw [zkp_o (by decide)]; exact zsgM_o (by decide), by rw [zkp_o (by decide)]; exact zsgM_o (by decide)⟩
  rw [zsz_c hE] at hj
  rw [zkp_o (by decide)]
  exact zsg_wall hj (fun e => hf (by rw [zfreeN_c hE]; exact e))
/-- a sight behind keeping the state -/
theorem zki_ts {n : Int} {X : zM} {k o : Int} (h : zKI n X) (hn : n + 1 ≤ 600) (hk : 0 ≤ k ∧ k < 4) (hw : (∀ j : Nat, (j : Int) < zsz (zkpM X zn1) zn1 → 0 ≤ zkpM X zn1 102 j ∧ zkpM X zn1 102 j ≤ 9000000000000) ∧ 0 < zsum (zkpM X zn1 102) (zsz (zkpM X zn1) zn1).toNat) (hwl : ∀ j : Nat, (j : Int) < zsz (zkpM X zn1) zn1 → ¬ zfreeN (zkpM X zn1) zn1 j → zkpM X zn1 102 j = 0) : zKI (n + 1) (ztsM (zkpM X zn1) k o) := by
  have hK := zKb h
  have hn0 := h.n
  have hq : ∀ q : Nat, q ≠ 1 → q ≠ 9 → q ≠ 10 → q ≠ 11 → q ≠ 12 → q ≠ 103 → ztsM (zkpM X zn1) k o q = zkpM X zn1 q := fun q a b c d e f => zts_o a b c d e f
  exact zKI_k h hn (fun q a b => hq q (by omega) (by omega) (by omega) (by omega) (by omega) (by omega)) (by rw [hq _ (by decide) (by decide) (by decide) (by decide) (by decide) (by decide), zkp_o (by decide)]) (zBI_ts (by omega) hn0.1 hk (fun j hj => (hw.1 j (by omega)).1) hw.2 hwl hK) (zKX_c (zKX_k h) (fun q a b c d => hq q (by omega) (by omega) (by omega) (by omega) (by omega) d) (by rw [hq _ (by decide) (by decide) (by decide) (by decide) (by decide) (by decide)]) (by rw [hq _ (by decide) (by decide) (by decide) (by decide) (by decide) (by decide)]))
theorem zki_seeT {n : Int} {M : zM} {k o : Int} (h : zKI n M) (hn : n + 1 ≤ 600) (hk : 0 ≤ k ∧ k < 4) (ho : zok M zn1 k) : zKI (n + 1) (ztsM (zkpM (zsT M k) zn1) k o) := zki_ts (zki_T h) hn hk (zkw_T h.ci hk ho) (fun j hj hf => zkt_wall hj hf)
theorem zki_seeR {n : Int} {M : zM} {k o : Int} (h : zKI n M) (hn : n + 1 ≤ 600) (hk : 0 ≤ k ∧ k < 4) (ho : ¬ zrs M zn1 k = 0) : zKI (n + 1) (ztsM (zkpM (zsR M k) zn1) k o) := zki_ts (zki_R h) hn hk (zkw_R h.ci hk ho) (fun j hj hf => zkr_wall hj hf)
theorem zki_drive {n : Int} {M : zM} {x : Int} (h : zKI n M) (hn : n + 1 ≤ 600) (hx : 0 ≤ x ∧ x < 4) : zKI (n + 1) (zdvM M x) := by
  have hK := zKb h
  have h2 : zBI n (zdv2 M) zn1 := zBI_up (fun e => absurd e (by decide)) hK
  have hro : zfree (zdv2 M) zn1 (zdv2 M zn1 4) := h2.b6
  have htg := ztg_n h2.b1 (c := zdv2 M zn1 4) (e := x) (zdvW M) ⟨hro.1, hro.2.1⟩ hx
  have h3 : zBI n (zdv3 M x) zn1 := zBI_up (fun _ => by
    rcases htg.2 with e | e
    · rw [e]; exact hro
    · exact e.2) h2
  have hn0 := h.n
  have h4 := zBI_go (n := n) (e := x) (by omega) hx h3
  have hq3 : ∀ q : Nat, q ≠ 1 → zdv3 M x q = zkpM M zn1 q := fun q a => by unfold zdv3 zdv2; rw [zup_or a, zup_or a]
  have hq4 : ∀ q : Nat, q ≠ 1 → q ≠ 9 → q ≠ 10 → q ≠ 11 → q ≠ 12 → q ≠ 102 → q ≠ 103 → zgoM (zdv3 M x) x q = zkpM M zn1 q := fun q z a b c d e f => by rw [zgo_o a b c d e f, hq3 q z]
  have hq : ∀ q : Nat, q ≠ 1 → q ≠ 9 → q ≠ 10 → q ≠ 11 → q ≠ 12 → q ≠ 102 → q ≠ 103 → q ≠ 106 → q ≠ 107 → zdvM M x q = zkpM M zn1 q := fun q z a b c d e f g g' => by unfold zdvM; rw [zch_o z g g', hq4 q z a b c d e f]
  have hx4 : zKX (zgoM (zdv3 M x) x) := zKX_c (zKX_k h) (fun q a b c d => hq4 q (by omega) (by omega) (by omega) (by omega) (by omega) c d) (by rw [hq4 _ (by decide) (by decide) (by decide) (by decide) (by decide) (by decide) (by decide)]) (by rw [hq4 _ (by decide) (by decide) (by decide) (by decide) (by decide) (by decide) (by decide)])
  exact zKI_k h hn (fun q a b => hq q (by omega) (by omega) (by omega) (by omega) (by omega) (by omega) (by omega) (by omega) (by omega)) (by rw [hq _ (by decide) (by decide) (by decide) (by decide) (by decide) (by decide) (by decide) (by decide) (by decide), zkp_o (by decide)]) (zBI_ch h4) (zKX_ch h4.g h4.b2.1 hx4)
theorem zki_sense {n : Int} {X : zM} {z k o : Int} (h : zKI n X) (hn : n + 1 ≤ 600) (hk : 0 ≤ k ∧ k < 4) (hw : (∀ j : Nat, (j : Int) < zsz (zkpM X zn1) zn1 → 0 ≤ zkpM X zn1 102 j ∧ zkpM X zn1 102 j ≤ 9000000000000) ∧ 0 < zsum (zkpM X zn1 102) (zsz (zkpM X zn1) zn1).toNat) (hwl : ∀ j : Nat, (j : Int) < zsz (zkpM X zn1) zn1 → ¬ zfreeN (zkpM X zn1) zn1 j → zkpM X zn1 102 j = 0) : zKI (n + 1) (zseM X z k o) := by
  have hK := zKb h
  have hn0 := h.n
  have hU : zBI n (zup (zkpM X zn1) zn1 5 z) zn1 := zBI_up (fun e => absurd e (by decide)) hK
  have hE : zE2 (zup (zkpM X zn1) zn1 5 z) (zkpM X zn1) zn1 := ⟨zup_or (by decide), zup_or (by decide)⟩
  have h102 : zup (zkpM X zn1) zn1 5 z 102 = zkpM X zn1 102 := zup_or (by decide)
  have h4 : zBI (n + 1) (ztsM (zup (zkpM X zn1) zn1 5 z) k o) zn1 := zBI_ts (by omega) hn0.1 hk (fun j hj => by rw [zsz_c hE] at hj; rw [h102]; exact (hw.1 j (by omega)).1) (by rw [h102, zsz_c hE]; exact hw.2) (fun j hj hf => by rw [zsz_c hE] at hj; rw [h102]; exact hwl j hj (fun e => hf (by rw [zfreeN_c hE]; exact e))) hU
  have hq4 : ∀ q : Nat, q ≠ 1 → q ≠ 9 → q ≠ 10 → q ≠ 11 → q ≠ 12 → q ≠ 103 → ztsM (zup (zkpM X zn1) zn1 5 z) k o q = zkpM X zn1 q := fun q a b c d e f => by rw [zts_o a b c d e f, zup_or a]
  have hq : ∀ q : Nat, q ≠ 1 → q ≠ 9 → q ≠ 10 → q ≠ 11 → q ≠ 12 → q ≠ 103 → q ≠ 106 → q ≠ 107 → zseM X z k o q = zkpM X zn1 q := fun q a b c d e f g g' => by unfold zseM; rw [zch_o a g g', hq4 q a b c d e f]
  have hx4 : zKX (ztsM (zup (zkpM X zn1) zn1 5 z) k o) := zKX_c (zKX_k h) (fun q a b c d => hq4 q (by omega) (by omega) (by omega) (by omega) (by omega) d) (by rw [hq4 _ (by decide) (by decide) (by decide) (by decide) (by decide) (by decide)]) (by rw [hq4 _ (by decide) (by decide) (by decide) (by decide) (by decide) (by decide)])
  exact zKI_k h hn (fun q a b => hq q (by omega) (by omega) (by omega) (by omega) (by omega) (by omega) (by omega) (by omega)) (by rw [hq _ (by decide) (by decide) (by decide) (by decide) (by decide) (by decide) (by decide) (by decide), zkp_o (by decide)]) (zBI_ch h4) (zKX_ch h4.g h4.b2.1 hx4)
theorem zki_senseT {n : Int} {M : zM} {z k o : Int} (h : zKI n M) (hn : n + 1 ≤ 600) (hk : 0 ≤ k ∧ k < 4) (ho : zok M zn1 k) : zKI (n + 1) (zseM (zsT M k) z k o) := zki_sense (zki_T h) hn hk (zkw_T h.ci hk ho) (fun j hj hf => zkt_wall hj hf)
theorem zki_senseR {n : Int} {M : zM} {z k o : Int} (h : zKI n M) (hn : n + 1 ≤ 600) (hk : 0 ≤ k ∧ k < 4) (ho : ¬ zrs M zn1 k = 0) : zKI (n + 1) (zseM (zsR M k) z k o) := zki_sense (zki_R h) hn hk (zkw_R h.ci hk ho) (fun j hj hf => zkr_wall hj hf)
/-- the neighbors of a new grid -/
theorem zB1_co {K : zM} (hg : zGr K zn1) (hnb : zNb K zn1) (hm : 0 < zmany K zn1) : zB1 (zcoM K zn1) zn1 := by
  have hE : zE2 (zcoM K zn1) K zn1 := zco_e2
  obtain ⟨g6, g7⟩ := hg.sz
  have hz : zsz K zn1 = K (zn1 + 1) 0 * K (zn1 + 1) 1 := rfl
  refine ⟨zGr_c hE hg, fun j hj => ?_, fun j hj => ?_, by rw [zmany_c hE]; exact hm⟩
  · unfold zcoM
    by_cases h : j < (zsz K zn1 * 4).toNat
    · rw [ztab_i h]
      unfold zcnF
      have := (zjn_n (M := K) (a := zn1) (c := (j : Int) / 4) (n := znx (K (zn1 + 1) 0) ((j : Int) / 4) ((j : Int) % 4)) (by omega)).1
      omega
    · rw [ztab_g (by omega)]
      exact hnb j hj
  · rw [zsz_c hE] at hj
    rw [hE.ef.cn]
    unfold zcoM
    rw [ztab_i (by omega)]
theorem zki_wall {n : Int} {M : zM} {x v : Int} (h : zKI n M) (hn : n + 1 ≤ 600) (hx : 0 ≤ x ∧ x < zsz M zn1) (hv : v = -1 ∧ ¬ zmany M zn1 = 1 ∧ ¬ M zn1 4 = x ∧ zfree M zn1 x ∨ v = 0 ∧ ¬ zfree M zn1 x) : zKI (n + 1) (zswM M x v) := by
  have hK := zKb h
  have hn0 := h.n
  have hKE : zE2 (zkpM M zn1) M zn1 := ⟨zkp_o (by decide), zkp_o (by decide)⟩
  have hxK : 0 ≤ x ∧ x < zsz (zkpM M zn1) zn1 := by rw [zsz_c hKE]; exact hx
  obtain ⟨g6, g7⟩ := hK.g.sz
  have hz : zsz (zkpM M zn1) zn1 = zkpM M zn1 (zn1 + 1) 0 * zkpM M zn1 (zn1 + 1) 1 := rfl
  have hmK := hK.b1.2.2.2
  have hmM := zmany_c hKE
  have hfM : zfree (zkpM M zn1) zn1 x ↔ zfree M zn1 x := zfree_c hKE
  have hB := zbu_many (M := zkpM M zn1) (x := x) (v := v) hxK
  have hg : zGr (zbuM (zkpM M zn1) x v) zn1 := zbu_gr hK.g (by omega)
  have hbo : ∀ q : Nat, q ≠ 3 → q ≠ 4 → zbuM (zkpM M zn1) x v q = zkpM M zn1 q := fun q a b => zbu_o a b
  have hm : 0 < zmany (zbuM (zkpM M zn1) x v) zn1 := by
    rcases hv with ⟨rfl, h1, h2, h3⟩ | ⟨rfl, h1⟩
    · rw [zb_t (hfM.mpr h3), zb_f (show ¬ ¬ (-1 : Int) = -1 by decide)] at hB
      omega
    · rw [zb_f (fun e => h1 (hfM.mp e)), zb_t (show ¬ (0 : Int) = -1 by decide)] at hB
      omega
  have h1 : zB1 (zcoM (zbuM (zkpM M zn1) x v) zn1) zn1 := zB1_co hg (by unfold zNb; rw [hbo _ (by decide) (by decide)]; exact hK.b1.2.1) hm
  have hco : ∀ q : Nat, q ≠ 5 → zcoM (zbuM (zkpM M zn1) x v) zn1 q = zbuM (zkpM M zn1) x v q := fun q a => by
    unfold zcoM
    funext j
    exact ztab_o a
  have hq2 : ∀ q : Nat, q ≠ 3 → q ≠ 4 → q ≠ 5 → zcoM (zbuM (zkpM M zn1) x v) zn1 q = zkpM M zn1 q := fun q a b c => by rw [hco q c, hbo q a b]
  have hq : ∀ q : Nat, q ≠ 3 → q ≠ 4 → q ≠ 5 → q ≠ 9 → q ≠ 12 → q ≠ 102 → q ≠ 103 → zswM M x v q = zkpM M zn1 q := fun q a b c d e f g => by
    unfold zswM
    rw [zfg_o e f g d, hq2 q a b c]
  refine zKI_k h hn (fun q a b => hq q (by omega) (by omega) (by omega) (by omega) (by omega) (by omega) (by omega)) (by rw [hq _ (by decide) (by decide) (by decide) (by decide) (by decide) (by decide) (by decide), zkp_o (by decide)]) (zBI_fg (by omega) h1 (by unfold zBl; rw [hq2 _ (by decide) (by decide) (by decide)]; exact hK.b2.1) (zB3_c ⟨by rw [hq2 _ (by decide) (by decide) (by decide)], by rw [hq2 _ (by decide) (by decide) (by decide)]⟩ (fun j _ => by rw [hq2 _ (by decide) (by decide) (by decide)]) (fun j _ => by rw [hq2 _ (by decide) (by decide) (by decide)]) hK.b3) (zTr_c (hq2 _ (by decide) (by decide) (by decide)) (hq2 _ (by decide) (by decide) (by decide)) (hq2 _ (by decide) (by decide) (by decide)) hK.b4.1) (fun j hj => ?_) ?_) (zKX_c (zKX_k h) (fun q a b c d => hq q (by omega) (by omega) (by omega) (by omega) (by omega) c d) (by rw [hq _ (by decide) (by decide) (by decide) (by decide) (by decide) (by decide) (by decide)]) (by rw [hq _ (by decide) (by decide) (by decide) (by decide) (by decide) (by decide) (by decide)]))
  · rw [hco _ (by decide)]
    unfold zbuM
    rw [zup_at]
    split
    · decide
    · rw [zup_or (by decide)]
      exact hK.b5 j hj
  · unfold zB6
    rw [hq2 _ (by decide) (by decide) (by decide)]
    refine (zfree_c zco_e2).mpr ?_
    have hro := hK.b6
    unfold zB6 at hro
    have hr4 : zkpM M zn1 zn1 4 = M zn1 4 := by rw [zkp_o (by decide)]
    unfold zfree
    rw [hbo _ (by decide) (by decide), zbu_2]
    refine ⟨hro.1, hro.2.1, ?_⟩
    split
    · next e =>
      rcases hv with ⟨rfl, h1, h2, h3⟩ | ⟨rfl, h1⟩
      · exfalso
        have hr0 := hro.1
        rw [hr4] at e hr0
        omega
      · decide
    · exact hro.2.2
