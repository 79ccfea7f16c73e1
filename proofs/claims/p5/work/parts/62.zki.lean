/-! What the class keeps: loading, undoing, restoring, saving, reading. -/
theorem zcount_ex {P : Nat → Prop} : ∀ n, 0 < zcount P n → ∃ j, j < n ∧ P j
  | 0, h => absurd h (by show ¬ (0 : Int) < 0; decide)
  | n + 1, h => by
    by_cases hp : P n
    · exact ⟨n, Nat.lt_succ_self n, hp⟩
    · have h1 : 0 < zcount P n + zb (P n) := h
      rw [zb_f hp] at h1
      obtain ⟨j, hj, hpj⟩ := zcount_ex (P := P) n (by omega)
      exact ⟨j, by omega, hpj⟩
theorem zfirst_ok {P : Nat → Prop} {e : Int} : ∀ k i, (∃ j, i ≤ j ∧ j < i + k ∧ P j) → P (zfirst P e i k).toNat ∧ (i : Int) ≤ zfirst P e i k ∧ zfirst P e i k < (i + k : Nat) ∧ ∀ j, i ≤ j → (j : Int) < zfirst P e i k → ¬ P j
  | 0, i, ⟨j, h1, h2, _⟩ => by omega
  | k + 1, i, ⟨j, h1, h2, h3⟩ => by
    unfold zfirst
    by_cases hp : P i
    · rw [if_pos hp]
      exact ⟨by rw [Int.toNat_natCast]; exact hp, Int.le_refl _, by omega, fun j a b => by omega⟩
    · rw [if_neg hp]
      have hji : j ≠ i := fun e => hp (e ▸ h3)
      obtain ⟨a, b, c, d⟩ := zfirst_ok (P := P) (e := e) k (i + 1) ⟨j, by omega, by omega, h3⟩
      refine ⟨a, by omega, by omega, fun m hm1 hm2 => ?_⟩
      by_cases hmi : m = i
      · rw [hmi]; exact hp
      · exact d m (by omega) hm2
theorem zlow_f {M : zM} {a : Nat} (hm : 0 < zmany M a) : zfree M a (zlow M a) ∧ ∀ c : Int, 0 ≤ c → c < zlow M a → ¬ zfree M a c := by
  obtain ⟨j, hj, hp⟩ := zcount_ex (zsz M a).toNat hm
  obtain ⟨h1, h2, h3, h4⟩ := zfirst_ok (P := zfreeN M a) (e := 0) (zsz M a).toNat 0 ⟨j, by omega, by omega, hp⟩
  have h0 : 0 ≤ zlow M a := h2
  refine ⟨(zfreeN_i h0).mp h1, fun c hc hl hf => ?_⟩
  exact h4 c.toNat (by omega) (by rw [Int.toNat_of_nonneg hc]; exact hl) ((zfreeN_i hc).mpr hf)
theorem zwt_co {B : zF} {a : Nat} : ∀ (k : Nat) (i h v t : Int) (M : zM), zCo M a → zCo (zwt B a k i h v t M).1 a
  | 0, i, h, v, t, M, hc => hc
  | k + 1, i, h, v, t, M, hc => by
    unfold zwt
    split
    · split
      · exact zwt_co k _ _ _ _ _ hc
      · refine zwt_co k _ _ _ _ _ (fun j hj => ?_)
        rw [zup_at]
        split
        · decide
        · rw [zup_or (by omega)]
          exact hc j hj
    · exact hc
theorem zki_e5 {n : Int} {M : zM} {x : Int} (h : zKI n M) (hx : -1 ≤ x ∧ x ≤ 45) : zKI n (zup M 0 5 x) := by
  have hq : ∀ q : Nat, q ≠ 0 → zup M 0 5 x q = M q := fun q a => zup_or a
  have hX := h.x
  refine zKI_f h (fun q a _ => hq q a) (by rw [zup_ne (by decide)]) ⟨?_, ?_, ?_, ?_, ?_, ?_, ?_, by rw [zup_ne (by decide)]; exact hX.k, by rw [zup_i]; exact hx⟩
  · unfold zBu; rw [hq 99 (by decide), hq 100 (by decide)]; exact hX.bu
  · rw [hq _ (by decide)]; exact hX.r7
  · rw [hq _ (by decide)]; exact hX.r6
  · rw [hq _ (by decide)]; exact hX.w
  · unfold zBr; rw [hq _ (by decide)]; exact hX.br
  · rw [hq _ (by decide)]; exact hX.er
  · unfold zRs; rw [hq _ (by decide)]; exact hX.rs
theorem zKX_b0 {M : zM} (hX : zKX M) : zKX (zup M 99 1 0) := by
  have hq : ∀ q : Nat, q ≠ 99 → zup M 99 1 0 q = M q := fun q a => zup_or a
  refine ⟨?_, ?_, ?_, ?_, ?_, ?_, ?_, by rw [hq _ (by decide)]; exact hX.k, by rw [hq _ (by decide)]; exact hX.ea⟩
  · unfold zBu; rw [zup_i, hq 100 (by decide)]; exact ⟨by decide, hX.bu.2⟩
  · rw [hq _ (by decide)]; exact hX.r7
  · rw [hq _ (by decide)]; exact hX.r6
  · rw [hq _ (by decide)]; exact hX.w
  · unfold zBr; rw [hq _ (by decide)]; exact hX.br
  · rw [hq _ (by decide)]; exact hX.er
  · unfold zRs; rw [hq _ (by decide)]; exact hX.rs
theorem zki_b0 {n : Int} {M : zM} (h : zKI n M) : zKI n (zup M 99 1 0) := zKI_f h (fun q a b => zup_or (by omega)) (by rw [zup_or (by decide)]) (zKX_b0 h.x)
theorem zki_loadE {n : Int} {M : zM} (h : zKI n M) : zKI n (zup (zup M 0 5 (zfe M)) 99 1 0) := zki_b0 (zki_e5 h (zfe_b h.x.bu))
theorem zki_load {n : Int} {M : zM} (h : zKI n M) (hn : n + 1 ≤ 600) (he : zfe M = -1) : zKI (n + 1) (zloM M) := by
  have hX := zki_e5 h (zfe_b h.x.bu)
  have hK : zBI n (zloK M) zn1 := zKb hX
  have hKx : zKX (zloK M) := zKX_k hX
  have hn0 := h.n
  have hu := hKx.bu
  obtain ⟨⟨u1, u2⟩, u3⟩ := id hu
  have hfk : zfe (zloK M) = -1 := by
    rw [← he]
    exact zfe_c (by unfold zloK; rw [zkp_o (by decide), zup_or (by decide)]) (by unfold zloK; rw [zkp_o (by decide), zup_or (by decide)])
  obtain ⟨hG, hm⟩ := zwtG_ok hu hK.g hfk
  obtain ⟨r1, r2, r3, r4⟩ := zwt_ok (B := zloK M 100) (a := zn1) (L := zloK M 99 1) (zloK M 99 1).toNat 0 0 1 0 0 0 0 (zloK M) (by omega) (by omega) hfk (Or.inl ⟨rfl, rfl, rfl, rfl, by omega, by omega⟩) ⟨hK.g.2.2, fun e => absurd rfl e⟩
  have hgo : ∀ q : Nat, q ≠ 2 → q ≠ 3 → q ≠ 4 → zwtG (zloK M) zn1 q = zloK M q := fun q a b c => by
    unfold zwtG
    rw [zup_or a, zup_or a]
    exact r4 q b c
  have hco : ∀ q : Nat, q ≠ 5 → zwtM (zloK M) zn1 q = zwtG (zloK M) zn1 q := fun q a => by
    unfold zwtM zcoM
    funext j
    exact ztab_o a
  have hq5 : ∀ q : Nat, q ≠ 1 → q ≠ 2 → q ≠ 3 → q ≠ 4 → q ≠ 5 → q ≠ 99 → zlo5 M q = zloK M q := fun q a b c d e f => by
    unfold zlo5 zlo4
    rw [zup_or a, zup_or f, hco q e, hgo q b c d]
  have hq : ∀ q : Nat, q ≠ 1 → q ≠ 2 → q ≠ 3 → q ≠ 4 → q ≠ 5 → q ≠ 9 → q ≠ 12 → q ≠ 99 → q ≠ 102 → q ≠ 103 → zloM M q = zloK M q := fun q a b c d e f g i j k => by
    unfold zloM
    rw [zfg_o g j k f, hq5 q a b c d e i]
  have h1 : zB1 (zwtM (zloK M) zn1) zn1 := zB1_co hG (by unfold zNb; rw [hgo _ (by decide) (by decide) (by decide)]; exact hK.b1.2.1) hm
  have hE5 : zE2 (zlo5 M) (zwtM (zloK M) zn1) zn1 := ⟨by unfold zlo5 zlo4; rw [zup_or (by decide), zup_or (by decide)], by unfold zlo5 zlo4; rw [zup_or (by decide), zup_or (by decide)]⟩
  have hE4 : zE2 (zlo4 M) (zwtM (zloK M) zn1) zn1 := ⟨by unfold zlo4; rw [zup_or (by decide)], by unfold zlo4; rw [zup_or (by decide)]⟩
  have h15 : zB1 (zlo5 M) zn1 := zB1_c hE5.ef (zGr_c hE5 h1.1) (fun j _ => by unfold zlo5 zlo4; rw [zup_or (by decide), zup_or (by decide)]) h1
  have hm4 : 0 < zmany (zlo4 M) zn1 := by rw [zmany_c hE4]; exact h1.2.2.2
  have hk2 : zloK M 0 2 = zup M 0 5 (zfe M) 0 2 := by unfold zloK; rw [zkp_o (by decide)]
  refine zKI_k hX hn (fun q a b => hq q (by omega) (by omega) (by omega) (by omega) (by omega) (by omega) (by omega) (by omega) (by omega) (by omega)) (by rw [hq _ (by decide) (by decide) (by decide) (by decide) (by decide) (by decide) (by decide) (by decide) (by decide) (by decide)]; exact hk2) (zBI_fg (by omega) h15 (by unfold zBl; rw [hq5 _ (by decide) (by decide) (by decide) (by decide) (by decide) (by decide)]; exact hK.b2.1) (zB3_c ⟨by rw [hq5 _ (by decide) (by decide) (by decide) (by decide) (by decide) (by decide)], by rw [hq5 _ (by decide) (by decide) (by decide) (by decide) (by decide) (by decide)]⟩ (fun j _ => by rw [hq5 _ (by decide) (by decide) (by decide) (by decide) (by decide) (by decide)]) (fun j _ => by rw [hq5 _ (by decide) (by decide) (by decide) (by decide) (by decide) (by decide)]) hK.b3) (zTr_c (hq5 _ (by decide) (by decide) (by decide) (by decide) (by decide) (by decide)) (hq5 _ (by decide) (by decide) (by decide) (by decide) (by decide) (by decide)) (hq5 _ (by decide) (by decide) (by decide) (by decide) (by decide) (by decide)) hK.b4.1) ?_ ?_) ?_
  · intro j hj
    have h9 := zwt_co (B := zloK M 100) (a := zn1) (zloK M 99 1).toNat 0 1 0 0 (zloK M) hK.b5 j hj
    have e9 : zlo5 M (zn1 + 3) = (zwtR (zloK M) zn1).1 (zn1 + 3) := by
      unfold zlo5 zlo4
      rw [zup_or (by decide), zup_or (by decide), hco _ (by decide)]
      unfold zwtG
      rw [zup_or (by decide), zup_or (by decide)]
    rw [e9]
    exact h9
  · unfold zB6
    have e4 : zlo5 M zn1 4 = zlow (zlo4 M) zn1 := by unfold zlo5; rw [zup_i]
    rw [e4]
    exact (zfree_c ⟨by unfold zlo5; rw [zup_or (by decide)], by unfold zlo5; rw [zup_or (by decide)]⟩).mpr (zlow_f hm4).1
  · have hx1 := zKX_b0 hKx
    refine zKX_c hx1 (fun q a b c d => ?_) ?_ ?_
    · by_cases e : q = 99
      · subst e
        unfold zloM
        rw [zfg_o (by decide) (by decide) (by decide) (by decide)]
        unfold zlo5 zlo4
        rw [zup_or (by decide)]
        funext j
        rw [zup_at, zup_at, hco _ (by decide), hgo _ (by decide) (by decide) (by decide)]
      · rw [hq q (by omega) (by omega) (by omega) (by omega) (by omega) (by omega) (by omega) e c d, zup_or e]
    · rw [hq _ (by decide) (by decide) (by decide) (by decide) (by decide) (by decide) (by decide) (by decide) (by decide) (by decide), zup_or (by decide)]
    · rw [hq _ (by decide) (by decide) (by decide) (by decide) (by decide) (by decide) (by decide) (by decide) (by decide) (by decide), zup_or (by decide)]
theorem ztb_sl {M : zM} : zslt (zup M 25 2 (M 25 2 - 1)) = zslo M (M 25 2 - 1) := by
  unfold zslt zslo
  rw [zup_i, zup_ne (by decide)]
theorem zki_undo {n : Int} {M : zM} (h : zKI n M) (h0 : ¬ M 25 2 = 0) : zKI n (ztbM M zn1) := by
  obtain ⟨⟨c1, c2⟩, c3, c4⟩ := id h.ch
  have hst := zslo_st M (M 25 2 - 1)
  have h27 : 27 ≤ zslo M (M 25 2 - 1) := by unfold zslo zring; omega
  have hq : ∀ q : Nat, q < 1 ∨ 13 ≤ q → ztbM M zn1 q = zup M 25 2 (M 25 2 - 1) q := fun q a => by unfold ztbM; exact zcpM_o a
  have e1 : ztbM M zn1 25 1 = M 25 1 := by rw [hq 25 (by omega), zup_ne (by decide)]
  have e2 : ztbM M zn1 25 2 = M 25 2 - 1 := by rw [hq 25 (by omega), zup_i]
  have hB : zBE (ztbM M zn1) zn1 M (zslo M (M 25 2 - 1)) := fun o j hs => by
    have ho := zslot_lt hs
    unfold ztbM
    rw [ztb_sl, zcpM_i hzn1 hst (by show 1 ≠ _; omega) hs, zup_or (by omega)]
  refine ⟨h.n, zBI_c hB (h.r _ (by omega) (by omega)), fun e => zBI_c (zBE_13 (fun q a b => by rw [hq q (by omega), zup_or (by omega)])) (h.s (by rw [hq 0 (by omega), zup_or (by decide)] at e; exact e)), fun i a b => ?_, ?_, zKX_c h.x (fun q a b _ _ => by rw [hq q (by omega), zup_or (by omega)]) (by rw [hq 0 (by omega), zup_or (by decide)]) (by rw [hq 0 (by omega), zup_or (by decide)])⟩
  · have e : zslo (ztbM M zn1) i = zslo M i := by unfold zslo; rw [e1]
    rw [e2] at b
    rw [e]
    have h27' : 27 ≤ zslo M i := by unfold zslo zring; omega
    exact zBI_c (zBE_q (fun q c d => by rw [hq q (by omega), zup_or (by omega)])) (h.r i a (by omega))
  · unfold zCh
    rw [e1, e2]
    omega
theorem zki_restore {n : Int} {M : zM} (h : zKI n M) (hn : n + 1 ≤ 600) (hk : M 0 2 = 1) : zKI (n + 1) (zcpM (zkpM M zn1) zn1 zn13) := by
  have hq : ∀ q : Nat, q < 1 ∨ 13 ≤ q → zcpM (zkpM M zn1) zn1 zn13 q = zkpM M zn1 q := fun q a => zcpM_o a
  have hB : zBE (zcpM (zkpM M zn1) zn1 zn13) zn1 M zn13 := fun o j hs => by
    have ho := zslot_lt hs
    rw [zcpM_i hzn1 hzn13 (by decide) hs, zkp_o (by show 13 + o < 25 ∨ _; omega)]
  exact zKI_k h hn (fun q a b => hq q (by omega)) (by rw [hq 0 (by omega), zkp_o (by decide)]) (zBI_n (n := n) (by omega) (zBI_c hB (h.s hk))) (zKX_c (zKX_k h) (fun q a b _ _ => hq q (by omega)) (by rw [hq 0 (by omega)]) (by rw [hq 0 (by omega)]))
theorem zki_save {n : Int} {M : zM} (h : zKI n M) : zKI n (zup (zcpM M zn13 zn1) 0 2 1) := by
  have hq : ∀ q : Nat, q ≠ 0 → q < 13 ∨ 25 ≤ q → zup (zcpM M zn13 zn1) 0 2 1 q = M q := fun q z a => by rw [zup_or z]; exact zcpM_o a
  have hB : zBE (zup (zcpM M zn13 zn1) 0 2 1) zn13 M zn1 := fun o j hs => by
    rw [zup_or (by show ¬ 13 + o = 0; omega)]
    exact zcpM_i hzn13 hzn1 (by decide) hs
  have h25 := hq 25 (by decide) (by omega)
  have hX := h.x
  refine ⟨h.n, zBI_c (zBE_1 (fun q a b => hq q (by omega) (by omega))) h.b, fun _ => zBI_c hB h.b, fun i a b => ?_, zCh_c h25 h.ch, ?_⟩
  · have e : zslo (zup (zcpM M zn13 zn1) 0 2 1) i = zslo M i := by unfold zslo; rw [h25]
    have h27' : 27 ≤ zslo M i := by unfold zslo zring; omega
    rw [h25] at b
    rw [e]
    exact zBI_c (zBE_q (fun q c d => hq q (by omega) (by omega))) (h.r i a b)
  · have h02 : zup (zcpM M zn13 zn1) 0 2 1 0 2 = 1 := zup_i
    have h05 : zup (zcpM M zn13 zn1) 0 2 1 0 5 = M 0 5 := by rw [zup_ne (by decide), zcpM_o (by decide)]
    refine ⟨?_, ?_, ?_, ?_, ?_, ?_, ?_, Or.inr h02, by rw [h05]; exact hX.ea⟩
    · unfold zBu; rw [hq 99 (by decide) (by omega), hq 100 (by decide) (by omega)]; exact hX.bu
    · rw [hq _ (by decide) (by omega)]; exact hX.r7
    · rw [hq _ (by decide) (by omega)]; exact hX.r6
    · rw [hq _ (by decide) (by omega)]; exact hX.w
    · unfold zBr; rw [hq _ (by decide) (by omega)]; exact hX.br
    · rw [hq _ (by decide) (by omega)]; exact hX.er
    · unfold zRs; rw [hq _ (by decide) (by omega)]; exact hX.rs
theorem zput_o {M : zM} {b : Int} {q : Nat} (h1 : q ≠ 99) (h2 : q ≠ 100) : zput M b q = M q := by
  unfold zput
  split
  · rfl
  · rw [zup_or h1, zup_or h2]
theorem zad_o {M : zM} {p : Int} {q : Nat} (h1 : q ≠ 99) (h2 : q ≠ 100) : ∀ n, zadM M p n q = M q
  | 0 => rfl
  | n + 1 => by
    show zput (zadM M p n) (zby p (n : Int)) q = _
    rw [zput_o h1 h2, zad_o h1 h2 n]
theorem zki_append {n : Int} {M : zM} {x : Int} (h : zKI n M) : zKI n (zadM M x 4) := by
  have hq : ∀ q : Nat, q ≠ 99 → q ≠ 100 → zadM M x 4 q = M q := fun q a b => zad_o a b 4
  have hX := h.x
  refine zKI_f h (fun q a b => hq q (by omega) (by omega)) (by rw [hq _ (by decide) (by decide)]) ⟨zBu_ad hX.bu 4, ?_, ?_, ?_, ?_, ?_, ?_, by rw [hq _ (by decide) (by decide)]; exact hX.k, by rw [hq _ (by decide) (by decide)]; exact hX.ea⟩
  · rw [hq _ (by decide) (by decide)]; exact hX.r7
  · rw [hq _ (by decide) (by decide)]; exact hX.r6
  · rw [hq _ (by decide) (by decide)]; exact hX.w
  · unfold zBr; rw [hq _ (by decide) (by decide)]; exact hX.br
  · rw [hq _ (by decide) (by decide)]; exact hX.er
  · unfold zRs; rw [hq _ (by decide) (by decide)]; exact hX.rs
/-! Readings: only rows that hold nothing change. -/
theorem zki_rank {n : Int} {M : zM} (h : zKI n M) : zKI n (zrkM M zn1) := zKI_f h (fun q a b => zrkM_o (by omega) (by omega)) (by rw [zrkM_o (by decide) (by decide)]) (zKX_rk h.b.g h.b.b2.1 h.x)
theorem zki_prom {n : Int} {M : zM} (h : zKI n M) : zKI n (zpr M 4).1 := by
  have ho : ∀ m : Nat, m ≤ 4 → ∀ q : Nat, q ≠ 102 → q ≠ 103 → q ≠ 104 → (zpr M m).1 q = M q := by
    intro m
    induction m with
    | zero => intro _ q _ _ _; rfl
    | succ m ih =>
      intro hm q a b c
      rw [zpr_1, zpo_o a b c, ih (by omega) q a b c]
  exact zki_scr h (fun q _ a b c => ho 4 (by decide) q a b c) (zCI_pr h.ci 4 (by decide)).br
theorem zki_ways {n : Int} {M : zM} {t : Int} (h : zKI n M) : zKI n (zfaM M zn1 t) := by
  have hq : ∀ q : Nat, q ≠ 114 → zfaM M zn1 t q = M q := fun q a => zfaM_o a
  have hX := h.x
  refine zKI_f h (fun q a b => hq q (by omega)) (by rw [hq _ (by decide)]) ⟨?_, ?_, ?_, zfaM_w h.b.g h.b.b1.2.1 h.b.b5 hX.w, ?_, ?_, ?_, by rw [hq _ (by decide)]; exact hX.k, by rw [hq _ (by decide)]; exact hX.ea⟩
  · unfold zBu; rw [hq 99 (by decide), hq 100 (by decide)]; exact hX.bu
  · rw [hq _ (by decide)]; exact hX.r7
  · rw [hq _ (by decide)]; exact hX.r6
  · unfold zBr; rw [hq _ (by decide)]; exact hX.br
  · rw [hq _ (by decide)]; exact hX.er
  · unfold zRs; rw [hq _ (by decide)]; exact hX.rs
theorem zkm8 {n : Int} {M : zM} (h : zKI n M) : ((zmi (ztot M zn1) 8).toNat : Int) = zmi (ztot M zn1) 8 := by
  have := zmi8 h.b.t0
  omega
theorem zki_ends {n : Int} {M : zM} (h : zKI n M) : zKI n (zweM M zn1) := by
  have hq : ∀ q : Nat, q ≠ 109 → q ≠ 110 → zweM M zn1 q = M q := fun q a b => zwe_o a b _
  have hX := h.x
  refine zKI_f h (fun q a b => hq q (by omega) (by omega)) (by rw [hq _ (by decide) (by decide)]) ⟨?_, ?_, ?_, ?_, ?_, zwe_er hzn1 h.b hX.er (by rw [zkm8 h]; exact Int.le_refl _), ?_, by rw [hq _ (by decide) (by decide)]; exact hX.k, by rw [hq _ (by decide) (by decide)]; exact hX.ea⟩
  · unfold zBu; rw [hq 99 (by decide) (by decide), hq 100 (by decide) (by decide)]; exact hX.bu
  · rw [hq _ (by decide) (by decide)]; exact hX.r7
  · rw [hq _ (by decide) (by decide)]; exact hX.r6
  · rw [hq _ (by decide) (by decide)]; exact hX.w
  · unfold zBr; rw [hq _ (by decide) (by decide)]; exact hX.br
  · unfold zRs; rw [hq _ (by decide) (by decide)]; exact hX.rs
theorem zki_path {n : Int} {M : zM} (h : zKI n M) : zKI n (zfbM (zRM M zn1) zn1 (zmi (ztot M zn1) 8)) := by
  have hq : ∀ q : Nat, q ≠ 111 → q ≠ 112 → zfbM (zRM M zn1) zn1 (zmi (ztot M zn1) 8) q = M q := fun q a b => by
    unfold zfbM
    funext j
    rw [ztab_o b]
    unfold zRM
    rw [zwrM_o a]
  have hX := h.x
  refine zKI_f h (fun q a b => hq q (by omega) (by omega)) (by rw [hq _ (by decide) (by decide)]) ⟨?_, ?_, ?_, ?_, ?_, ?_, ?_, by rw [hq _ (by decide) (by decide)]; exact hX.k, by rw [hq _ (by decide) (by decide)]; exact hX.ea⟩
  · unfold zBu; rw [hq 99 (by decide) (by decide), hq 100 (by decide) (by decide)]; exact hX.bu
  · rw [hq _ (by decide) (by decide)]; exact hX.r7
  · rw [hq _ (by decide) (by decide)]; exact hX.r6
  · rw [hq _ (by decide) (by decide)]; exact hX.w
  · unfold zBr; rw [hq _ (by decide) (by decide)]; exact hX.br
  · rw [hq _ (by decide) (by decide)]; exact hX.er
  · have h1 := zwr_b hzn1 h.b hX.rs (zmi (ztot M zn1) 8).toNat (by rw [zkm8 h]; exact Int.le_refl _)
    unfold zRs
    rw [show zfbM (zRM M zn1) zn1 (zmi (ztot M zn1) 8) 111 = zRM M zn1 111 from by unfold zfbM; funext j; exact ztab_o (by decide)]
    exact h1
