/-! Ways: the rounds come to an end. -/
def zuw (M : zM) (W W' : zF) : Prop := ∃ c e : Int, zfree M zn1 c ∧ (0 ≤ e ∧ e < 4) ∧ zco M zn1 W c e < W c.toNat ∧ W' = zrup W c.toNat (zco M zn1 W c e)
theorem zim_ind {M : zM} {c : Int} {P : zF → Prop} (hc : zfree M zn1 c) (hU : ∀ W W', zuw M W W' → P W → P W') : ∀ n, n ≤ 4 → ∀ p : zF × Int, P p.1 → P (zim M zn1 c n p).1
  | 0, _, p, h => h
  | n + 1, hn, p, h => by
    have ih := zim_ind hc hU n (by omega) p h
    unfold zim
    split
    · next h1 => exact hU _ _ ⟨c, n, hc, by omega, h1, rfl⟩ ih
    · exact ih
theorem zrd_ind {M : zM} {P : zF → Prop} (hU : ∀ W W', zuw M W W' → P W → P W') : ∀ n, ∀ p : zF × Int, P p.1 → P (zrd M zn1 n p).1
  | 0, p, h => h
  | n + 1, p, h => by
    have ih := zrd_ind hU n p h
    unfold zrd
    split
    · next h1 => exact zim_ind h1 hU 4 (by omega) _ ih
    · exact ih
theorem zuw_le {M : zM} {W0 W W' : zF} (h : zuw M W W') (hW : ∀ j, W j ≤ W0 j) : ∀ j, W' j ≤ W0 j := by
  obtain ⟨c, e, h1, h2, h3, rfl⟩ := h
  intro j
  have := hW j
  unfold zrup
  split
  · next hj =>
    subst hj
    omega
  · exact this
theorem zrd_le {M : zM} (n : Nat) (p : zF × Int) : ∀ j, (zrd M zn1 n p).1 j ≤ p.1 j :=
  zrd_ind (P := fun W => ∀ j, W j ≤ p.1 j) (fun _ _ h hW => zuw_le h hW) n p (fun _ => Int.le_refl _)
/-- no cell can be improved -/
def zst (M : zM) (d : zF) : Prop := ∀ c e : Int, zfree M zn1 c → 0 ≤ e → e < 4 → ¬ zco M zn1 d c e < d c.toNat
theorem zim_0 {M : zM} {c : Int} : ∀ n, ∀ p : zF × Int, (∀ e : Nat, e < n → ¬ zco M zn1 p.1 c (e : Int) < p.1 c.toNat) → zim M zn1 c n p = p
  | 0, _, _ => rfl
  | n + 1, p, h => by
    have ih := zim_0 n p (fun e he => h e (by omega))
    unfold zim
    rw [ih]
    exact if_neg (h n (by omega))
theorem zim_1 {M : zM} {c : Int} : ∀ n, ∀ W : zF, (zim M zn1 c n (W, 0)).2 = 0 → (zim M zn1 c n (W, 0)).1 = W ∧ ∀ e : Nat, e < n → ¬ zco M zn1 W c (e : Int) < W c.toNat
  | 0, _, _ => ⟨rfl, fun e he => absurd he (Nat.not_lt_zero e)⟩
  | n + 1, W, h => by
    by_cases h1 : zco M zn1 (zim M zn1 c n (W, 0)).1 c (n : Int) < (zim M zn1 c n (W, 0)).1 c.toNat
    · exfalso
      rw [show zim M zn1 c (n + 1) (W, 0) = _ from if_pos h1] at h
      exact absurd (show (1 : Int) = 0 from h) (by decide)
    · have e1 : zim M zn1 c (n + 1) (W, 0) = zim M zn1 c n (W, 0) := if_neg h1
      rw [e1] at h ⊢
      obtain ⟨i1, i2⟩ := zim_1 n W h
      refine ⟨i1, fun e he => ?_⟩
      by_cases h2 : e = n
      · subst h2
        rw [i1] at h1
        exact h1
      · exact i2 e (by omega)
theorem zim_2 {M : zM} {c : Int} : ∀ n, ∀ W : zF, ¬ (zim M zn1 c n (W, 0)).2 = 0 → (zim M zn1 c n (W, 0)).1 c.toNat < W c.toNat
  | 0, _, h => absurd rfl h
  | n + 1, W, h => by
    by_cases h1 : zco M zn1 (zim M zn1 c n (W, 0)).1 c (n : Int) < (zim M zn1 c n (W, 0)).1 c.toNat
    · rw [show zim M zn1 c (n + 1) (W, 0) = _ from if_pos h1]
      have h2 := zim_le (M := M) (a := zn1) (c := c) n (W, 0) c.toNat
      show zrup _ c.toNat _ c.toNat < _
      unfold zrup
      rw [if_pos rfl]
      exact Int.lt_of_lt_of_le h1 h2
    · rw [show zim M zn1 c (n + 1) (W, 0) = zim M zn1 c n (W, 0) from if_neg h1] at h ⊢
      exact zim_2 n W h
theorem zrd_1 {M : zM} : ∀ n, ∀ W : zF, (zrd M zn1 n (W, 0)).2 = 0 → (zrd M zn1 n (W, 0)).1 = W ∧ ∀ c : Nat, c < n → zfreeN M zn1 c → ∀ e : Nat, e < 4 → ¬ zco M zn1 W (c : Int) (e : Int) < W c
  | 0, _, _ => ⟨rfl, fun c he => absurd he (Nat.not_lt_zero c)⟩
  | n + 1, W, h => by
    by_cases h1 : zfreeN M zn1 n
    · rw [show zrd M zn1 (n + 1) (W, 0) = _ from if_pos h1] at h ⊢
      by_cases h2 : (zim M zn1 (n : Int) 4 ((zrd M zn1 n (W, 0)).1, 0)).2 = 0
      · have h3 : (zrd M zn1 n (W, 0)).2 = 0 := (if_pos h2).symm.trans h
        obtain ⟨i1, i2⟩ := zrd_1 n W h3
        obtain ⟨k1, k2⟩ := zim_1 4 _ h2
        refine ⟨k1.trans i1, fun c hc hf e he => ?_⟩
        by_cases hcn : c = n
        · subst hcn
          have := k2 e he
          rw [i1, Int.toNat_natCast] at this
          exact this
        · exact i2 c (by omega) hf e he
      · exact absurd ((if_neg h2).symm.trans h) (by decide)
    · rw [show zrd M zn1 (n + 1) (W, 0) = zrd M zn1 n (W, 0) from if_neg h1] at h ⊢
      obtain ⟨i1, i2⟩ := zrd_1 n W h
      refine ⟨i1, fun c hc hf e he => ?_⟩
      by_cases hcn : c = n
      · subst hcn
        exact absurd hf h1
      · exact i2 c (by omega) hf e he
theorem zrd_2 {M : zM} : ∀ n, ∀ W : zF, ¬ (zrd M zn1 n (W, 0)).2 = 0 → ∃ j, j < n ∧ (zrd M zn1 n (W, 0)).1 j < W j
  | 0, _, h => absurd rfl h
  | n + 1, W, h => by
    by_cases h1 : zfreeN M zn1 n
    · have e1 : zrd M zn1 (n + 1) (W, 0) = _ := if_pos h1
      by_cases h2 : (zim M zn1 (n : Int) 4 ((zrd M zn1 n (W, 0)).1, 0)).2 = 0
      · have h3 : ¬ (zrd M zn1 n (W, 0)).2 = 0 := fun e => h (by rw [e1]; exact (if_pos h2).trans e)
        obtain ⟨j, hj, hl⟩ := zrd_2 n W h3
        refine ⟨j, by omega, ?_⟩
        rw [e1]
        show (zim M zn1 (n : Int) 4 ((zrd M zn1 n (W, 0)).1, 0)).1 j < W j
        rw [(zim_1 4 _ h2).1]
        exact hl
      · have h4 := zim_2 4 _ h2
        have h5 := zrd_le (M := M) n (W, 0) n
        refine ⟨n, by omega, ?_⟩
        rw [e1]
        rw [Int.toNat_natCast] at h4
        exact Int.lt_of_lt_of_le h4 h5
    · rw [show zrd M zn1 (n + 1) (W, 0) = zrd M zn1 n (W, 0) from if_neg h1] at h ⊢
      obtain ⟨j, hj, hl⟩ := zrd_2 n W h
      exact ⟨j, by omega, hl⟩
theorem zrd_0 {M : zM} {W : zF} (h : zst M W) : ∀ n, zrd M zn1 n (W, 0) = (W, 0)
  | 0 => rfl
  | n + 1 => by
    have ih := zrd_0 h n
    by_cases h1 : zfreeN M zn1 n
    · have e2 : zim M zn1 (n : Int) 4 ((zrd M zn1 n (W, 0)).1, 0) = (W, 0) := by
        rw [ih]
        exact zim_0 4 (W, 0) (fun e he => h (n : Int) (e : Int) h1 (by omega) (by omega))
      rw [show zrd M zn1 (n + 1) (W, 0) = _ from if_pos h1, e2, ih]
      rfl
    · exact (if_neg h1).trans ih
theorem zrd_st {M : zM} {W : zF} (h : (zrd M zn1 (zsz M zn1).toNat (W, 0)).2 = 0) : zst M W := by
  intro c e hc h0 h4
  have h1 := (zrd_1 _ W h).2 c.toNat (by have := hc.2.1; show c.toNat < (M (zn1 + 1) 0 * M (zn1 + 1) 1).toNat; have := hc.1; omega) ((zfreeN_i hc.1).mpr hc) e.toNat (by omega)
  rw [Int.toNat_of_nonneg hc.1, Int.toNat_of_nonneg h0] at h1
  exact h1
theorem zsum_mo {F G : Nat → Int} : ∀ n, (∀ j, j < n → F j ≤ G j) → zsum F n ≤ zsum G n
  | 0, _ => Int.le_refl _
  | n + 1, h => by
    have h1 := zsum_mo n (fun j hj => h j (by omega))
    have h2 := h n (by omega)
    show zsum F n + F n ≤ zsum G n + G n
    omega
theorem zsum_lt {F G : Nat → Int} : ∀ n, (∀ j, j < n → F j ≤ G j) → (∃ j, j < n ∧ F j < G j) → zsum F n < zsum G n
  | 0, _, h => by
    obtain ⟨j, hj, _⟩ := h
    omega
  | n + 1, h, ⟨j, hj, hl⟩ => by
    show zsum F n + F n < zsum G n + G n
    by_cases h1 : j = n
    · subst h1
      have h2 := zsum_mo j (fun i hi => h i (by omega))
      omega
    · have h2 := zsum_lt n (fun i hi => h i (by omega)) ⟨j, by omega, hl⟩
      have h3 := h n (by omega)
      omega
/-- the facts of the grid that ways need -/
theorem zwn {M : zM} {n : Int} (hB : zBI n M zn1) {c e : Int} (hc : zfree M zn1 c) (he : 0 ≤ e ∧ e < 4) : (0 ≤ M (zn1 + 4) (c * 4 + e).toNat ∧ M (zn1 + 4) (c * 4 + e).toNat < zsz M zn1) ∧ (1 ≤ M (zn1 + 3) (M (zn1 + 4) (c * 4 + e).toNat).toNat ∧ M (zn1 + 3) (M (zn1 + 4) (c * 4 + e).toNat).toNat ≤ 9) ∧ (M (zn1 + 4) (c * 4 + e).toNat = c ∨ zfree M zn1 (M (zn1 + 4) (c * 4 + e).toNat)) := by
  obtain ⟨g6, g7⟩ := hB.g.sz
  have hz : zsz M zn1 = M (zn1 + 1) 0 * M (zn1 + 1) 1 := rfl
  have hc0 := hc.1
  have hc1 := hc.2.1
  have h1 : (0 ≤ M (zn1 + 4) (c * 4 + e).toNat ∧ M (zn1 + 4) (c * 4 + e).toNat < zsz M zn1) ∧ (M (zn1 + 4) (c * 4 + e).toNat = c ∨ zfree M zn1 c ∧ zfree M zn1 (M (zn1 + 4) (c * 4 + e).toNat)) := by
    rw [hB.b1.2.2.1 (c * 4 + e).toNat (by omega), zcn_at hc0 he rfl]
    exact zjn_n ⟨hc0, by rw [hz]; exact hc1⟩
  refine ⟨h1.1, hB.b5 _ (by omega), ?_⟩
  rcases h1.2 with h | h
  · exact Or.inl h
  · exact Or.inr h.2
/-- each cost is none, that of the goal, or that over a neighbor at least -/
def zwi (M : zM) (t : Int) (W : zF) : Prop := (∀ j : Nat, (j : Int) < zsz M zn1 → 0 ≤ W j ∧ W j ≤ 1000000) ∧ (0 ≤ t ∧ t < zsz M zn1) ∧ W t.toNat = 0 ∧ ∀ c : Int, 0 ≤ c → c < zsz M zn1 → W c.toNat = 1000000 ∨ c = t ∨ (zfree M zn1 c ∧ ∃ e : Int, (0 ≤ e ∧ e < 4) ∧ W (M (zn1 + 4) (c * 4 + e).toNat).toNat < 1000000 ∧ W (M (zn1 + 4) (c * 4 + e).toNat).toNat + M (zn1 + 3) (M (zn1 + 4) (c * 4 + e).toNat).toNat ≤ W c.toNat)
theorem zuw_i {M : zM} {n t : Int} (hB : zBI n M zn1) {W W' : zF} (h : zuw M W W') (hW : zwi M t W) : zwi M t W' := by
  obtain ⟨c, e, h1, h2, h3, rfl⟩ := h
  obtain ⟨w1, w2, w3, w4⟩ := hW
  obtain ⟨k1, k2, k3⟩ := zwn hB h1 h2
  have hc0 := h1.1
  have hz : zsz M zn1 = M (zn1 + 1) 0 * M (zn1 + 1) 1 := rfl
  have hc1 : c < zsz M zn1 := by rw [hz]; exact h1.2.1
  have hwn := w1 (M (zn1 + 4) (c * 4 + e).toNat).toNat (by omega)
  have hwc := w1 c.toNat (by omega)
  have hco : zco M zn1 W c e = W (M (zn1 + 4) (c * 4 + e).toNat).toNat + M (zn1 + 3) (M (zn1 + 4) (c * 4 + e).toNat).toNat ∧ W (M (zn1 + 4) (c * 4 + e).toNat).toNat < 1000000 := by
    unfold zco at h3 ⊢
    by_cases hh : W (M (zn1 + 4) (c * 4 + e).toNat).toNat < 1000000
    · rw [if_pos hh]
      exact ⟨rfl, hh⟩
    · rw [if_neg hh] at h3
      omega
  have hne : ¬ (M (zn1 + 4) (c * 4 + e).toNat).toNat = c.toNat := fun h => by
    rw [h] at hco
    have := k2.1
    rw [h] at this
    omega
  have hct : ¬ c = t := fun h => by
    subst h
    omega
  generalize hx : zco M zn1 W c e = x at h3 hco ⊢
  have up : ∀ j : Nat, zrup W c.toNat x j ≤ W j := fun j => by
    unfold zrup
    split
    · next hj =>
      subst hj
      omega
    · exact Int.le_refl _
  have upn : ∀ j : Nat, ¬ j = c.toNat → zrup W c.toNat x j = W j := fun j hj => if_neg hj
  have upc : zrup W c.toNat x c.toNat = x := if_pos rfl
  refine ⟨fun j hj => ?_, w2, by rw [upn _ (by omega)]; exact w3, fun c' hc'0 hc'1 => ?_⟩
  · by_cases hj2 : j = c.toNat
    · rw [hj2, upc]
      omega
    · rw [upn j hj2]
      exact w1 j hj
  · by_cases hcc : c' = c
    · subst hcc
      refine Or.inr (Or.inr ⟨h1, e, h2, ?_⟩)
      rw [upc, upn _ hne]
      omega
    · rcases w4 c' hc'0 hc'1 with h | h | ⟨hf, e', he', h5, h6⟩
      · exact Or.inl (by rw [upn _ (by omega)]; exact h)
      · exact Or.inr (Or.inl h)
      · refine Or.inr (Or.inr ⟨hf, e', he', ?_⟩)
        have h7 := up (M (zn1 + 4) (c' * 4 + e').toNat).toNat
        rw [upn c'.toNat (by omega)]
        omega
theorem zuw_d {M : zM} {n : Int} (hB : zBI n M zn1) {d W W' : zF} (hd : zst M d) (hdb : ∀ j : Nat, (j : Int) < zsz M zn1 → d j ≤ 1000000) (hWb : ∀ j : Nat, (j : Int) < zsz M zn1 → W j ≤ 1000000) (h : zuw M W W') (hW : ∀ j : Nat, (j : Int) < zsz M zn1 → d j ≤ W j) : ∀ j : Nat, (j : Int) < zsz M zn1 → d j ≤ W' j := by
  obtain ⟨c, e, h1, h2, h3, rfl⟩ := h
  obtain ⟨k1, k2, k3⟩ := zwn hB h1 h2
  have h4 := hd c e h1 h2.1 h2.2
  intro j hj
  unfold zrup
  split
  · next hjc =>
    subst hjc
    have h5 := hW (M (zn1 + 4) (c * 4 + e).toNat).toNat (by omega)
    have h6 := hdb (M (zn1 + 4) (c * 4 + e).toNat).toNat (by omega)
    have h7 := hdb c.toNat hj
    have h8 := hWb c.toNat hj
    unfold zco at h3 h4 ⊢
    split at h3
    · split at h4
      · split <;> omega
      · omega
    · omega
  · exact hW j hj
theorem zim_4 {M : zM} {c e : Int} (he : 0 ≤ e) (hne : ¬ (M (zn1 + 4) (c * 4 + e).toNat).toNat = c.toNat) : ∀ n : Nat, e < (n : Int) → ∀ p : zF × Int, (zim M zn1 c n p).1 c.toNat ≤ zco M zn1 p.1 c e
  | 0, h, _ => by omega
  | n + 1, h, p => by
    have hoth : ∀ m, ∀ j : Nat, ¬ j = c.toNat → (zim M zn1 c m p).1 j = p.1 j := by
      intro m
      induction m with
      | zero => exact fun _ _ => rfl
      | succ m ih =>
        intro j hj
        unfold zim
        split
        · exact (if_neg hj).trans (ih j hj)
        · exact ih j hj
    have hzc : zco M zn1 (zim M zn1 c n p).1 c e = zco M zn1 p.1 c e := by
      unfold zco
      rw [hoth n _ hne]
    by_cases h1 : zco M zn1 (zim M zn1 c n p).1 c (n : Int) < (zim M zn1 c n p).1 c.toNat
    · rw [show zim M zn1 c (n + 1) p = _ from if_pos h1]
      show zrup _ c.toNat _ c.toNat ≤ _
      unfold zrup
      rw [if_pos rfl]
      by_cases h2 : e = (n : Int)
      · subst h2
        rw [hzc]
        exact Int.le_refl _
      · have ih := zim_4 he hne n (by omega) p
        omega
    · rw [show zim M zn1 c (n + 1) p = zim M zn1 c n p from if_neg h1]
      by_cases h2 : e = (n : Int)
      · subst h2
        omega
      · exact zim_4 he hne n (by omega) p
theorem zrd_se {M : zM} {n : Int} (hB : zBI n M zn1) {d W : zF} (hd : zst M d) (hdb : ∀ j : Nat, (j : Int) < zsz M zn1 → d j ≤ 1000000) (hWb : ∀ j : Nat, (j : Int) < zsz M zn1 → W j ≤ 1000000) (hW : ∀ j : Nat, (j : Int) < zsz M zn1 → d j ≤ W j) (m : Nat) : ∀ j : Nat, (j : Int) < zsz M zn1 → d j ≤ (zrd M zn1 m (W, 0)).1 j := by
  have h := zrd_ind (M := M) (P := fun V => (∀ j, V j ≤ W j) ∧ ∀ j : Nat, (j : Int) < zsz M zn1 → d j ≤ V j) (fun V V' hu hV => ⟨zuw_le hu hV.1, zuw_d hB hd hdb (fun j hj => Int.le_trans (hV.1 j) (hWb j hj)) hu hV.2⟩) m (W, 0) ⟨fun _ => Int.le_refl _, hW⟩
  exact h.2
/-- a cell whose least cost comes over a settled neighbor is settled in the round -/
theorem zrd_go {M : zM} {n : Int} (hB : zBI n M zn1) {d W : zF} (hd : zst M d) (hdb : ∀ j : Nat, (j : Int) < zsz M zn1 → d j ≤ 1000000) (hWb : ∀ j : Nat, (j : Int) < zsz M zn1 → W j ≤ 1000000) (hW : ∀ j : Nat, (j : Int) < zsz M zn1 → d j ≤ W j) {c e : Int} (hc : zfree M zn1 c) (he : 0 ≤ e ∧ e < 4) (hne : ¬ (M (zn1 + 4) (c * 4 + e).toNat).toNat = c.toNat) (hs : W (M (zn1 + 4) (c * 4 + e).toNat).toNat = d (M (zn1 + 4) (c * 4 + e).toNat).toNat) (hdc : zco M zn1 d c e ≤ d c.toNat) : ∀ m : Nat, c < (m : Int) → (zrd M zn1 m (W, 0)).1 c.toNat ≤ d c.toNat
  | 0, h => by have := hc.1; omega
  | m + 1, h => by
    have hc0 := hc.1
    by_cases h1 : c = (m : Int)
    · subst h1
      have h2 : zfreeN M zn1 m := hc
      rw [show zrd M zn1 (m + 1) (W, 0) = _ from if_pos h2]
      have h3 := zim_4 he.1 hne 4 (by omega) ((zrd M zn1 m (W, 0)).1, 0)
      refine Int.le_trans h3 (Int.le_trans ?_ hdc)
      obtain ⟨k1, k2, k3⟩ := zwn hB hc he
      have h4 := zrd_se hB hd hdb hWb hW m (M (zn1 + 4) ((m : Int) * 4 + e).toNat).toNat (by omega)
      have h5 := zrd_le (M := M) m (W, 0) (M (zn1 + 4) ((m : Int) * 4 + e).toNat).toNat
      have h6 : (zrd M zn1 m (W, 0)).1 (M (zn1 + 4) ((m : Int) * 4 + e).toNat).toNat = d (M (zn1 + 4) ((m : Int) * 4 + e).toNat).toNat := by
        refine Int.le_antisymm ?_ h4
        rw [← hs]
        exact h5
      unfold zco
      show (if (zrd M zn1 m (W, 0)).1 _ < 1000000 then (zrd M zn1 m (W, 0)).1 _ + _ else 1000000) ≤ _
      rw [h6]
      exact Int.le_refl _
    · have ih := zrd_go hB hd hdb hWb hW hc he hne hs hdc m (by omega)
      have h2 : (zrd M zn1 (m + 1) (W, 0)).1 c.toNat ≤ (zrd M zn1 m (W, 0)).1 c.toNat := by
        by_cases h3 : zfreeN M zn1 m
        · rw [show zrd M zn1 (m + 1) (W, 0) = _ from if_pos h3]
          exact zim_le 4 ((zrd M zn1 m (W, 0)).1, 0) c.toNat
        · rw [show zrd M zn1 (m + 1) (W, 0) = zrd M zn1 m (W, 0) from if_neg h3]
          exact Int.le_refl _
      omega
/-- of the unsettled cells one of the least cost -/
theorem zmin {d W : zF} {n : Nat} (h0 : ∀ j, j < n → 0 ≤ d j) : ∀ v : Nat, ∀ j, j < n → ¬ W j = d j → d j ≤ (v : Int) → ∃ i, i < n ∧ ¬ W i = d i ∧ ∀ k, k < n → d k < d i → W k = d k
  | 0, j, hj, hu, hv => ⟨j, hj, hu, fun k hk hl => by have := h0 k hk; omega⟩
  | v + 1, j, hj, hu, hv => by
    by_cases h : ∃ k, k < n ∧ d k < d j ∧ ¬ W k = d k
    · obtain ⟨k, hk, hl, hku⟩ := h
      exact zmin h0 v k hk hku (by omega)
    · refine ⟨j, hj, hu, fun k hk hl => Classical.byContradiction (fun e => h ⟨k, hk, hl, e⟩)⟩
/-- the rounds end within a number of them -/
def zend (M : zM) : Nat → zF → Prop
  | 0, _ => False
  | k + 1, W => (zrd M zn1 (zsz M zn1).toNat (W, 0)).2 = 0 ∨ zend M k (zrd M zn1 (zsz M zn1).toNat (W, 0)).1
theorem zend_m {M : zM} : ∀ k, ∀ W, zend M k W → zend M (k + 1) W
  | 0, _, h => h.elim
  | k + 1, W, h => by
    rcases h with h | h
    · exact Or.inl h
    · exact Or.inr (zend_m k _ h)
theorem zrd_i {M : zM} {n t : Int} (hB : zBI n M zn1) (m : Nat) {W : zF} (hW : zwi M t W) : zwi M t (zrd M zn1 m (W, 0)).1 :=
  zrd_ind (P := zwi M t) (fun _ _ hu hV => zuw_i hB hu hV) m (W, 0) hW
/-- the rounds come to an end -/
theorem zex {M : zM} {n t : Int} (hB : zBI n M zn1) : ∀ m : Nat, ∀ W, zwi M t W → zsum W (zsz M zn1).toNat ≤ (m : Int) → ∃ d : zF, zwi M t d ∧ zst M d ∧ ∀ j, d j ≤ W j
  | m, W, hW, hm => by
    by_cases h : (zrd M zn1 (zsz M zn1).toNat (W, 0)).2 = 0
    · exact ⟨W, hW, zrd_st h, fun _ => Int.le_refl _⟩
    · have h1 := zrd_i hB (zsz M zn1).toNat hW
      have h2 := zsum_lt (zsz M zn1).toNat (fun j _ => zrd_le (M := M) (zsz M zn1).toNat (W, 0) j) (zrd_2 _ W h)
      have h3 := (zsum_b (l := 0) (u := 1000000) (zsz M zn1).toNat (fun j hj => h1.1 j (by omega))).1
      match m, hm with
      | 0, hm =>
        exfalso
        have h4 : zsum W (zsz M zn1).toNat ≤ 0 := hm
        have h5 : zsum (zrd M zn1 (zsz M zn1).toNat (W, 0)).1 (zsz M zn1).toNat < zsum W (zsz M zn1).toNat := h2
        omega
      | m + 1, hm =>
        have h5 : zsum (zrd M zn1 (zsz M zn1).toNat (W, 0)).1 (zsz M zn1).toNat < zsum W (zsz M zn1).toNat := h2
        obtain ⟨d, d1, d2, d3⟩ := zex hB m _ h1 (by omega)
        exact ⟨d, d1, d2, fun j => Int.le_trans (d3 j) (zrd_le (M := M) _ (W, 0) j)⟩
noncomputable def zun (d W : zF) : zF := fun j => if W j = d j then 0 else 1
theorem zend_of {M : zM} {n t : Int} (hB : zBI n M zn1) {d : zF} (hd : zst M d) (hdi : zwi M t d) : ∀ k : Nat, ∀ W, zwi M t W → (∀ j : Nat, (j : Int) < zsz M zn1 → d j ≤ W j) → zsum (zun d W) (zsz M zn1).toNat ≤ (k : Int) → zend M (k + 1) W
  | k, W, hW, hl, hk => by
    obtain ⟨d1, d2, d3, d4⟩ := hdi
    obtain ⟨w1, w2, w3, w4⟩ := id hW
    by_cases hu : ∃ j, j < (zsz M zn1).toNat ∧ ¬ W j = d j
    · obtain ⟨j, hj, hju⟩ := hu
      obtain ⟨i, hi, hiu, hmin⟩ := zmin (d := d) (W := W) (n := (zsz M zn1).toNat) (fun j hj => (d1 j (by omega)).1) (d j).toNat j hj hju (by omega)
      have hli := hl i (by omega)
      have hwi := w1 i (by omega)
      have hset : (zrd M zn1 (zsz M zn1).toNat (W, 0)).1 i = d i := by
        have hlow := zrd_se hB hd (fun j hj => (d1 j hj).2) (fun j hj => (w1 j hj).2) hl (zsz M zn1).toNat i (by omega)
        refine Int.le_antisymm ?_ hlow
        rcases d4 (i : Int) (by omega) (by omega) with h | h | ⟨hf, e, he, h5, h6⟩
        · rw [Int.toNat_natCast] at h
          omega
        · exfalso
          have : i = t.toNat := by omega
          rw [this] at hiu
          exact hiu (w3.trans d3.symm)
        · obtain ⟨k1, k2, k3⟩ := zwn hB hf he
          rw [Int.toNat_natCast] at h6
          have hns := hmin (M (zn1 + 4) ((i : Int) * 4 + e).toNat).toNat (by omega) (by omega)
          have hgo := zrd_go hB hd (fun j hj => (d1 j hj).2) (fun j hj => (w1 j hj).2) hl hf he (fun h => by rw [h, Int.toNat_natCast] at h6 k2; omega) hns (by unfold zco; rw [if_pos h5, Int.toNat_natCast]; exact h6) (zsz M zn1).toNat (by omega)
          rw [Int.toNat_natCast] at hgo
          exact hgo
      have hfall : zsum (zun d (zrd M zn1 (zsz M zn1).toNat (W, 0)).1) (zsz M zn1).toNat < zsum (zun d W) (zsz M zn1).toNat := by
        refine zsum_lt _ (fun j hj => ?_) ⟨i, hi, ?_⟩
        · have hlow := zrd_se hB hd (fun j hj => (d1 j hj).2) (fun j hj => (w1 j hj).2) hl (zsz M zn1).toNat j (by omega)
          have hup : (zrd M zn1 (zsz M zn1).toNat (W, 0)).1 j ≤ W j := zrd_le (M := M) (zsz M zn1).toNat (W, 0) j
          unfold zun
          split <;> split <;> omega
        · unfold zun
          rw [if_pos hset, if_neg hiu]
          decide
      match k, hk with
      | 0, hk =>
        exfalso
        have h3 := (zsum_b (F := zun d (zrd M zn1 (zsz M zn1).toNat (W, 0)).1) (l := 0) (u := 1) (zsz M zn1).toNat (fun j hj => by unfold zun; split <;> decide)).1
        have hk0 : zsum (zun d W) (zsz M zn1).toNat ≤ 0 := hk
        omega
      | k + 1, hk =>
        refine Or.inr (zend_of hB hd ⟨d1, d2, d3, d4⟩ k _ (zrd_i hB _ hW) (zrd_se hB hd (fun j hj => (d1 j hj).2) (fun j hj => (w1 j hj).2) hl _) (by omega))
    · refine Or.inl ?_
      have hWd : ∀ j : Nat, (j : Int) < zsz M zn1 → W j = d j := fun j hj => Classical.byContradiction (fun e => hu ⟨j, by omega, e⟩)
      have hst : zst M W := by
        intro c e hc h0 h4
        obtain ⟨k1, k2, k3⟩ := zwn hB hc ⟨h0, h4⟩
        have h5 := hd c e hc h0 h4
        have hz : zsz M zn1 = M (zn1 + 1) 0 * M (zn1 + 1) 1 := rfl
        have hc0 := hc.1
        have hc1 := hc.2.1
        have e1 := hWd (M (zn1 + 4) (c * 4 + e).toNat).toNat (by omega)
        have e2 := hWd c.toNat (by omega)
        unfold zco at h5 ⊢
        rw [e1, e2]
        exact h5
      rw [zrd_0 hst]
theorem zsum_ones : ∀ n : Nat, zsum (fun _ => 1) n = (n : Int)
  | 0 => rfl
  | n + 1 => by
    show zsum (fun _ => 1) n + 1 = _
    rw [zsum_ones n]
    omega
noncomputable def zv0 (M : zM) (t : Int) : zF := ztab M 114 (zsz M zn1).toNat (zw0 t) 114
theorem zv0_at {M : zM} {t : Int} {j : Nat} (hj : (j : Int) < zsz M zn1) : zv0 M t j = if (j : Int) = t then 0 else 1000000 := if_pos ⟨rfl, by omega⟩
theorem zv0_i {M : zM} {t : Int} (ht : 0 ≤ t ∧ t < zsz M zn1) : zwi M t (zv0 M t) := by
  refine ⟨fun j hj => by rw [zv0_at hj]; split <;> decide, ht, by rw [zv0_at (by omega), if_pos (by omega)], fun c h0 h1 => ?_⟩
  by_cases h : c = t
  · exact Or.inr (Or.inl h)
  · exact Or.inl (by rw [zv0_at (by omega), if_neg (by omega)])
theorem zend_n {M : zM} {n t : Int} (hB : zBI n M zn1) (ht : 0 ≤ t ∧ t < zsz M zn1) : zend M (zsz M zn1).toNat (zv0 M t) := by
  obtain ⟨g6, g7⟩ := hB.g.sz
  have hz : zsz M zn1 = M (zn1 + 1) 0 * M (zn1 + 1) 1 := rfl
  have hi := zv0_i (M := M) ht
  obtain ⟨d, d1, d2, d3⟩ := zex hB (zsum (zv0 M t) (zsz M zn1).toNat).toNat (zv0 M t) hi (by omega)
  have h1 : zsum (zun d (zv0 M t)) (zsz M zn1).toNat < (((zsz M zn1).toNat : Nat) : Int) := by
    rw [← zsum_ones (zsz M zn1).toNat]
    refine zsum_lt _ (fun j _ => by unfold zun; split <;> decide) ⟨t.toNat, by omega, ?_⟩
    unfold zun
    rw [if_pos (hi.2.2.1.trans d1.2.2.1.symm)]
    decide
  have h2 := zend_of hB d2 d1 ((zsz M zn1).toNat - 1) (zv0 M t) hi (fun j _ => d3 j) (by omega)
  rw [show (zsz M zn1).toNat - 1 + 1 = (zsz M zn1).toNat by omega] at h2
  exact h2
/-- the row behind the rounds -/
noncomputable def zvf (M : zM) (t : Int) : zF := zfa M zn1 (zsz M zn1).toNat (zv0 M t)
theorem zfa_st {M : zM} {n t : Int} (hB : zBI n M zn1) : ∀ k, ∀ W, zwi M t W → zend M k W → zwi M t (zfa M zn1 k W) ∧ zst M (zfa M zn1 k W)
  | 0, _, _, h => h.elim
  | k + 1, W, hW, h => by
    unfold zfa
    by_cases h1 : (zrd M zn1 (zsz M zn1).toNat (W, 0)).2 = 0
    · rw [if_pos h1]
      refine ⟨zrd_i hB _ hW, ?_⟩
      rw [(zrd_1 _ W h1).1]
      exact zrd_st h1
    · rw [if_neg h1]
      exact zfa_st hB k _ (zrd_i hB _ hW) (h.resolve_left h1)
theorem zvf_st {M : zM} {n t : Int} (hB : zBI n M zn1) (ht : 0 ≤ t ∧ t < zsz M zn1) : zwi M t (zvf M t) ∧ zst M (zvf M t) := zfa_st hB _ _ (zv0_i ht) (zend_n hB ht)
theorem zfaM_vf {M : zM} {t : Int} : zfaM M zn1 t 114 = zvf M t := zrow_q
theorem zend_a {M : zM} {W : zF} {a : Nat} (h : zend M a W) : ∀ b, zend M (a + b) W
  | 0 => h
  | b + 1 => zend_m _ _ (zend_a h b)
theorem zend_36 {M : zM} {W : zF} {a : Nat} (h : zend M a W) (ha : a ≤ 36) : zend M 36 W := by
  have h1 := zend_a h (36 - a)
  rw [show a + (36 - a) = 36 by omega] at h1
  exact h1
theorem zfa_m {M : zM} : ∀ k, ∀ b, ∀ W, zend M k W → zfa M zn1 (k + b) W = zfa M zn1 k W
  | 0, _, _, h => h.elim
  | k + 1, b, W, h => by
    rw [show k + 1 + b = (k + b) + 1 by omega]
    unfold zfa
    by_cases h1 : (zrd M zn1 (zsz M zn1).toNat (W, 0)).2 = 0
    · rw [if_pos h1, if_pos h1]
    · rw [if_neg h1, if_neg h1]
      exact zfa_m k b _ (h.resolve_left h1)
theorem zfa_36 {M : zM} {t : Int} (h : zend M (zsz M zn1).toNat (zv0 M t)) (ha : (zsz M zn1).toNat ≤ 36) : zfa M zn1 36 (zv0 M t) = zvf M t := by
  have h1 := zfa_m _ (36 - (zsz M zn1).toNat) _ h
  rw [show (zsz M zn1).toNat + (36 - (zsz M zn1).toNat) = 36 by omega] at h1
  exact h1
