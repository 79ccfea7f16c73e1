/-! Seeing: the weights of a sight leave the locator as it is. -/
theorem zmw_w {M M0 : zM} {a : Nat} {e : Int} (ha : zSt a) (h : zE9 M M0 a) {t : Nat} (ht : t < (zsz M0 a).toNat) : zmw M a e t = zmw M0 a e t := by
  have hz := zsz_c h.e2
  have e1 : zmvF M a e (zsz M a).toNat (zsz M a).toNat t = zmvF M0 a e (zsz M0 a).toNat (zsz M0 a).toNat t := by
    unfold zmvF
    rw [hz, if_pos ht, if_pos ht]
    congr 1
    refine congrArg (fun F => zsum F (zsz M0 a).toNat) ?_
    funext c
    refine congrArg (fun F => zsum F 4) ?_
    funext y
    unfold zterm
    rw [ztarget_c h.2.2.1, h.2.2.2.2.1, h.2.2.2.2.2.2]
  have r1 : ∀ F : zF, zE9 (zrow M 102 F) M0 a := fun F => (zE9_row ha (by decide)).tr h
  have r2 : ∀ F : zF, zE9 (zrow M0 102 F) M0 a := fun F => zE9_row ha (by decide)
  unfold zmw zcaF
  rw [zfreeN_c (r1 _).e2, zfreeN_c (r2 _).e2, zmany_c (r1 _).e2, zmany_c (r2 _).e2, (r1 _).2.2.2.1, (r2 _).2.2.2.1, zrow_q, zrow_q, e1, hz]
/-- what the now needs, by what lies elsewhere but the filter's rows -/
theorem zCI_w {M M0 : zM} (h : zCI M0) (hq : ∀ q : Nat, q < 13 ∨ 99 ≤ q → q ≠ 102 → q ≠ 103 → q ≠ 104 → M q = M0 q) (hb : zBr M 104) (hc : zCh M) : zCI M := by
  have hX : ∀ q : Nat, q < 13 → M q = M0 q := fun q h => hq q (Or.inl h) (by omega) (by omega) (by omega)
  have hE : zE2 M M0 zn1 := ⟨hX _ (by decide), hX _ (by decide)⟩
  have hE9 : zE9 M M0 zn1 := ⟨hX _ (by decide), hX _ (by decide), hX _ (by decide), hX _ (by decide), hX _ (by decide), hX _ (by decide), hX _ (by decide)⟩
  refine ⟨zGr_c hE h.g, ?_, ?_, hE9.tb h.tb, zTr_c (hX _ (by decide)) (hX _ (by decide)) (hX _ (by decide)) h.tr, by rw [zmany_c hE]; exact h.f, ?_, ?_, hc, ?_, ?_, ?_, ?_, hb, ?_, ?_, ?_⟩
  · unfold zNb; rw [hX _ (by decide)]; exact h.nb
  · unfold zBl; rw [hX _ (by decide)]; exact h.bl
  · unfold zCo; rw [hX _ (by decide)]; exact h.co
  · rw [hX _ (by decide)]; exact h.ro
  · unfold zBu; rw [hq 99 (by decide) (by decide) (by decide) (by decide), hq 100 (by decide) (by decide) (by decide) (by decide)]; exact h.bu
  · rw [hq 107 (by decide) (by decide) (by decide) (by decide)]; exact h.r7
  · rw [hq 106 (by decide) (by decide) (by decide) (by decide)]; exact h.r6
  · rw [hq 114 (by decide) (by decide) (by decide) (by decide)]; exact h.w
  · intro e he
    rw [zsz_c hE, zsum_c _ (fun j hj => zmw_w hzn1 hE9 hj)]
    exact h.mv e he
  · rw [hX _ (by decide)]; exact h.k
  · rw [hX _ (by decide)]; exact h.ea
theorem zsgM_o {M : zM} {a q n : Nat} {k : Int} (h : n ≠ 102) : zsgM M a q k n = M n := by
  unfold zsgM
  funext j
  exact ztab_o h
/-- the weights that a sight finds -/
theorem zsg_w {X : zM} {a q : Nat} {k : Int} (hg : zGr X a) (ht : zTb X a) (hb : zBr X q) (hk : 0 ≤ k ∧ k < 4) : (∀ j : Nat, (j : Int) < zsz X a → 0 ≤ zsgM X a q k 102 j ∧ zsgM X a q k 102 j ≤ 9000000000000) ∧ zsum (zsgM X a q k 102) (zsz X a).toNat = zs1 X a q k := by
  obtain ⟨g6, g7⟩ := hg.sz
  have hz : zsz X a = X (a + 1) 0 * X (a + 1) 1 := rfl
  have e : ∀ j, j < (zsz X a).toNat → zsgM X a q k 102 j = zsgF X a q k j := fun j hj => ztab_i hj
  constructor
  · intro j hj
    rw [e j (by omega)]
    have := zsgF_b (q := q) hg ht hb hk (j := j) (by omega)
    omega
  · exact zsum_c _ e
theorem zCh_c {M M0 : zM} (h : M 25 = M0 25) (hc : zCh M0) : zCh M := by
  unfold zCh
  rw [h]
  exact hc
theorem zrsM_o {M : zM} {a q : Nat} {k : Int} (h1 : q ≠ 102) (h2 : q ≠ 103) (h3 : q ≠ 104) : zrsM M a k q = M q := by
  unfold zrsM
  rw [zev_o h3 h1 h2, zsgM_o h1]
theorem zCI_sg {M : zM} {k : Int} (h : zCI M) : zCI (zsgM M zn1 (zn1 + 11) k) := zCI_w h (fun q _ h2 _ _ => zsgM_o h2) (by unfold zBr; rw [zsgM_o (by decide)]; exact h.br) (zCh_c (zsgM_o (by decide)) h.ch)
theorem zBr_rs {M : zM} {k : Int} (h : zCI M) : zBr (zrsM M zn1 k) 104 := by
  have h1 := zCI_sg (k := k) h
  exact zBr_ev (by decide) (by decide) h1.f h1.br
theorem zCI_rs {M : zM} {k : Int} (h : zCI M) : zCI (zsgM (zrsM M zn1 k) zn1 104 k) := zCI_w h (fun q _ h2 h3 h4 => by rw [zsgM_o h2, zrsM_o h2 h3 h4]) (by unfold zBr; rw [zsgM_o (by decide)]; exact zBr_rs h) (zCh_c (by rw [zsgM_o (by decide), zrsM_o (by decide) (by decide) (by decide)]) h.ch)
