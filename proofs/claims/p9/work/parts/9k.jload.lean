/-! Both: load. -/
theorem rtk_cB {B B' : zF} : ∀ (k : Nat) (i n f : Int) (M : zM), 0 ≤ i → (∀ j : Int, i ≤ j → j < i + (k : Int) → B' j.toNat = B j.toNat) → rtk B' k i n f M = rtk B k i n f M
  | 0, _, _, _, _, _, _ => rfl
  | k + 1, i, n, f, M, hi, h => by
    have e := h i (Int.le_refl _) (by omega)
    have ih := fun n' f' M' => rtk_cB (B := B) (B' := B') k (i + 1) n' f' M' (by omega) (fun j a b => h j (by omega) (by omega))
    unfold rtk
    rw [e, ih, ih]
theorem zmn {x : Int} {r c w c' : Int} (hw : 1 ≤ w) (h : r < x) (hc : c' < w) (hc0 : 0 ≤ c) : r * w + c' < x * w + c := by
  have h1 : (r + 1) * w ≤ x * w := Int.mul_le_mul_of_nonneg_right (by omega) (by omega)
  rw [Int.add_mul, Int.one_mul] at h1
  omega
/-- both go over the text side by side -/
theorem zlock {B : zF} {a : Nat} {L : Int} (hL : L ≤ 45) : ∀ (k : Nat) (i w h c f v t : Int) (P R : zM), 0 ≤ i → i + k = L → zwp w h c v t → R 115 27 = i → R 115 29 = h - 1 → R 115 28 = (if w = 0 then 6 else w) →
    (∀ r c' : Int, 0 ≤ r → 0 ≤ c' → (r < h - 1 ∧ c' < w ∨ r = h - 1 ∧ c' < c) → R 128 (6 * r + c').toNat = P (a + 2) (r * w + c').toNat) → (∀ j : Nat, (j : Int) < t → P (a + 3) j = 1) →
    (zferr B L k i w h c f = -1 → (rtk B k i c f R).2 = 1 ∧ (rtk B k i c f R).1 115 28 = (zwt B a k i h v t P).2.2 ∧ (rtk B k i c f R).1 115 29 = (zwt B a k i h v t P).2.1 ∧ (∀ r c' : Int, 0 ≤ r → r < (zwt B a k i h v t P).2.1 → 0 ≤ c' → c' < (zwt B a k i h v t P).2.2 → (rtk B k i c f R).1 128 (6 * r + c').toNat = (zwt B a k i h v t P).1 (a + 2) (r * (zwt B a k i h v t P).2.2 + c').toNat) ∧ ∀ j : Nat, (j : Int) < (zwt B a k i h v t P).2.2 * (zwt B a k i h v t P).2.1 → (zwt B a k i h v t P).1 (a + 3) j = 1) ∧ (¬ zferr B L k i w h c f = -1 → (rtk B k i c f R).2 = 0 ∧ (rtk B k i c f R).1 115 27 = zferr B L k i w h c f)
  | 0, i, w, h, c, f, v, t, P, R, hi, hk, hp, h27, h29, h28, hcel, hcost => by
    have hb := zwp_b hp
    have hk0 : i + ((0 : Nat) : Int) = L := hk
    unfold zferr
    by_cases hx : ¬ f = 0 ∧ zfull c w
    · rw [if_pos hx]
      refine ⟨fun _ => ?_, fun e => absurd rfl e⟩
      obtain ⟨hf, hu⟩ := hx
      unfold zfull at hu
      have hn : ¬ (c = 0 ∨ (0 < R 115 29 ∧ c < R 115 28) ∨ f = 0) := by
        rcases hp with ⟨rfl, rfl, rfl, rfl, h1, h2⟩ | ⟨h1, h2, h3, h4, rfl, rfl, h5, h6⟩
        · rw [if_pos rfl] at hu
          omega
        · rw [if_neg (by omega)] at hu
          rw [if_neg (by omega)] at h28
          omega
      have e : rtk B 0 i c f R = (zup (zup R 115 28 c) 115 29 (R 115 29 + 1), 1) := if_neg hn
      rw [e]
      have hcw : c = v := by
        rcases hp with ⟨rfl, rfl, rfl, rfl, h1, h2⟩ | ⟨h1, h2, h3, h4, rfl, rfl, h5, h6⟩
        · rfl
        · rw [if_neg (by omega)] at hu
          exact hu
      refine ⟨rfl, ?_, ?_, fun r c' r0 r1 c0 c1 => ?_, fun j hj => ?_⟩
      · show zup (zup R 115 28 c) 115 29 (R 115 29 + 1) 115 28 = v
        rw [zup_ne (by decide), zup_i, hcw]
      · show zup (zup R 115 28 c) 115 29 (R 115 29 + 1) 115 29 = h
        rw [zup_i, h29]
        omega
      · show zup (zup R 115 28 c) 115 29 (R 115 29 + 1) 128 _ = P (a + 2) (r * v + c').toNat
        rw [zup_or (by decide), zup_or (by decide)]
        have r1' : r < h := r1
        have c1' : c' < v := c1
        have hw : r * w + c' = r * v + c' := by
          rcases hp with ⟨rfl, rfl, rfl, rfl, h1, h2⟩ | ⟨h1, h2, h3, h4, rfl, rfl, h5, h6⟩
          · rw [show r = 0 by omega, Int.zero_mul, Int.zero_mul]
          · rfl
        rw [← hw]
        refine hcel r c' r0 c0 ?_
        rcases hp with ⟨rfl, rfl, rfl, rfl, h1, h2⟩ | ⟨h1, h2, h3, h4, rfl, rfl, h5, h6⟩ <;> omega
      · have hj' : (j : Int) < v * h := hj
        refine hcost j ?_
        rcases hp with ⟨rfl, rfl, rfl, rfl, h1, h2⟩ | ⟨h1, h2, h3, h4, rfl, rfl, h5, h6⟩
        · omega
        · rw [show v * h = (h - 1) * v + c by rw [Int.sub_mul, Int.one_mul, Int.mul_comm v h]; omega] at hj'
          exact hj'
    · rw [if_neg hx]
      refine ⟨fun e => by omega, fun _ => ?_⟩
      have hn : c = 0 ∨ (0 < R 115 29 ∧ c < R 115 28) ∨ f = 0 := by
        by_cases hf : f = 0
        · omega
        · have hu : ¬ zfull c w := fun e => hx ⟨hf, e⟩
          unfold zfull at hu
          rcases hp with ⟨rfl, rfl, rfl, rfl, h1, h2⟩ | ⟨h1, h2, h3, h4, rfl, rfl, h5, h6⟩
          · rw [if_pos rfl] at hu
            omega
          · rw [if_neg (by omega)] at hu
            rw [if_neg (by omega)] at h28
            omega
      have e : rtk B 0 i c f R = (R, 0) := if_pos hn
      rw [e]
      exact ⟨rfl, h27.trans (by omega)⟩
  | k + 1, i, w, h, c, f, v, t, P, R, hi, hk, hp, h27, h29, h28, hcel, hcost => by
    have hb := zwp_b hp
    have hk1 : i + 1 + (k : Int) = L := by omega
    unfold zferr rtk
    by_cases hs : B i.toNat = 47
    · rw [if_pos hs, if_pos hs]
      have hiff : (c = 0 ∨ (0 < R 115 29 ∧ c < R 115 28) ∨ R 115 29 = 5) ↔ (¬ zfull c w ∨ h = 6) := by
        unfold zfull
        rcases hp with ⟨rfl, rfl, rfl, rfl, h1, h2⟩ | ⟨h1, h2, h3, h4, rfl, rfl, h5, h6⟩
        · rw [if_pos rfl]
          omega
        · rw [if_neg (by omega)] at h28
          rw [if_neg (show ¬ v = 0 by omega)]
          omega
      by_cases hx : ¬ zfull c w ∨ h = 6
      · rw [if_pos hx, if_pos (hiff.mpr hx)]
        exact ⟨fun e => by omega, fun _ => ⟨rfl, h27⟩⟩
      · rw [if_neg hx, if_neg (fun e => hx (hiff.mp e))]
        have h6 : ¬ h = 6 := fun e => hx (Or.inr e)
        have hu : zfull c w := Classical.not_not.mp (fun e => hx (Or.inl e))
        unfold zfull at hu
        have hcv : c = v ∧ 1 ≤ v ∧ v ≤ 6 := by
          rcases hp with ⟨rfl, rfl, rfl, rfl, h1, h2⟩ | ⟨h1, h2, h3, h4, rfl, rfl, h5, h7⟩
          · rw [if_pos rfl] at hu
            omega
          · rw [if_neg (by omega)] at hu
            omega
        have ht : t = h * c := by
          rcases hp with ⟨rfl, rfl, rfl, rfl, h1, h2⟩ | ⟨h1, h2, h3, h4, rfl, rfl, h5, h7⟩
          · omega
          · rw [if_neg (by omega)] at hu
            rw [hu, Int.sub_mul, Int.one_mul]
            omega
        have hh : 1 ≤ h ∧ h ≤ 6 := by
          rcases hp with ⟨rfl, rfl, rfl, rfl, h1, h2⟩ | ⟨h1, h2, h3, h4, rfl, rfl, h5, h7⟩ <;> omega
        have hp2 : zwp c (h + 1) 0 v t := Or.inr ⟨by omega, by omega, by omega, by omega, by omega, by rw [ht, show h + 1 - 1 = h by omega]; omega, by omega, by omega⟩
        have ht36 : t < 36 := by
          have h5 : h * c ≤ 5 * c := Int.mul_le_mul_of_nonneg_right (by omega) (by omega)
          omega
        have e : zwt B a (k + 1) i h v t P = zwt B a k (i + 1) (h + 1) v t P := by
          show (if t < 36 then _ else _) = _
          rw [if_pos ht36, if_pos hs]
        rw [e]
        refine zlock hL k (i + 1) c (h + 1) 0 f v t P _ (by omega) hk1 hp2 zup_i (by rw [zup_ne (by decide), zup_i, h29]; omega) (by rw [zup_ne (by decide), zup_ne (by decide), zup_i, if_neg (by omega)]) (fun r c' r0 c0 hr => ?_) hcost
        rw [zup_or (by decide), zup_or (by decide), zup_or (by decide)]
        have hr' : r < h ∧ c' < c := by omega
        have hwc : r * w + c' = r * c + c' := by
          rcases hp with ⟨rfl, rfl, rfl, rfl, h1, h2⟩ | ⟨h1, h2, h3, h4, rfl, rfl, h5, h7⟩
          · rw [show r = 0 by omega, Int.zero_mul, Int.zero_mul]
          · rw [hcv.1]
        rw [← hwc]
        refine hcel r c' r0 c0 ?_
        rcases hp with ⟨rfl, rfl, rfl, rfl, h1, h2⟩ | ⟨h1, h2, h3, h4, rfl, rfl, h5, h7⟩ <;> omega
    · rw [if_neg hs, if_neg hs]
      have h28' : (zmks (B i.toNat) = -2 ∨ c = R 115 28) ↔ (zmks (B i.toNat) = -2 ∨ c = (if w = 0 then 6 else w)) := by rw [h28]
      by_cases hx : zmks (B i.toNat) = -2 ∨ c = (if w = 0 then 6 else w)
      · rw [if_pos hx, if_pos (h28'.mpr hx)]
        exact ⟨fun e => by omega, fun _ => ⟨rfl, h27⟩⟩
      · rw [if_neg hx, if_neg (fun e => hx (h28'.mp e))]
        have hc : ¬ c = (if w = 0 then 6 else w) := fun e => hx (Or.inr e)
        have ht36 : t < 36 := by
          rcases hp with ⟨rfl, rfl, rfl, rfl, h1, h2⟩ | ⟨h1, h2, h3, h4, rfl, rfl, h5, h6⟩
          · omega
          · have e1 := (hb.2 (by omega)).1
            rw [if_neg (by omega)] at hc
            omega
        have ht0 := hb.1
        have hp2 : zwp w h (c + 1) (v + (if h = 1 then 1 else 0)) (t + 1) := by
          rcases hp with ⟨rfl, rfl, rfl, rfl, h1, h2⟩ | ⟨h1, h2, h3, h4, rfl, rfl, h5, h6⟩
          · rw [if_pos rfl] at hc
            exact Or.inl ⟨rfl, rfl, by rw [if_pos rfl], rfl, by omega, by omega⟩
          · rw [if_neg (by omega)] at hc
            exact Or.inr ⟨h1, h2, h3, h4, by rw [if_neg (by omega)]; omega, by omega, by omega, by omega⟩
        have e : zwt B a (k + 1) i h v t P = zwt B a k (i + 1) h (v + (if h = 1 then 1 else 0)) (t + 1) (zup (zup P (a + 2) t.toNat (zmks (B i.toNat))) (a + 3) t.toNat 1) := by
          show (if t < 36 then _ else _) = _
          rw [if_pos ht36, if_neg hs]
        rw [e]
        refine zlock hL k (i + 1) w h (c + 1) _ (v + (if h = 1 then 1 else 0)) (t + 1) _ _ (by omega) hk1 hp2 zup_i (by rw [zup_ne (by decide), zup_or (by decide), h29]) (by rw [zup_ne (by decide), zup_or (by decide), h28]) (fun r c' r0 c0 hr => ?_) (fun j hj => ?_)
        · rw [zup_or (show ¬ 128 = 115 by decide), zup_at, zup_or (show ¬ a + 2 = a + 3 by omega), zup_at, h29]
          have hrow : t = (h - 1) * w + c := by
            rcases hp with ⟨rfl, rfl, rfl, rfl, h1, h2⟩ | ⟨h1, h2, h3, h4, rfl, rfl, h5, h6⟩
            · omega
            · rfl
          have hcb : 0 ≤ c ∧ c < 6 ∧ 1 ≤ h := by
            rcases hp with ⟨rfl, rfl, rfl, rfl, h1, h2⟩ | ⟨h1, h2, h3, h4, rfl, rfl, h5, h6⟩
            · rw [if_pos rfl] at hc
              omega
            · rw [if_neg (by omega)] at hc
              omega
          by_cases hlast : r = h - 1 ∧ c' = c
          · rw [if_pos (by omega), if_pos (by rw [hlast.1, hlast.2, hrow])]
          · have hr2 : r < h - 1 ∧ c' < w ∨ r = h - 1 ∧ c' < c := by omega
            have hne : (r * w + c').toNat ≠ t.toNat := by
              rcases hr2 with ⟨q1, q2⟩ | ⟨q1, q2⟩
              · have h9 := zmn (x := h - 1) (c := c) (w := w) (by omega) q1 q2 hcb.1
                have h8 : 0 ≤ r * w := Int.mul_nonneg r0 (by omega)
                omega
              · have h8 : 0 ≤ r * w := by
                  rcases hp with ⟨rfl, rfl, rfl, rfl, h1, h2⟩ | ⟨h1, h2, h3, h4, rfl, rfl, h5, h6⟩
                  · rw [Int.mul_zero]; omega
                  · exact Int.mul_nonneg r0 (by omega)
                rw [q1] at h8 ⊢
                omega
            have hne2 : (6 * r + c').toNat ≠ (6 * (h - 1) + c).toNat := by
              have hw6 : w ≤ 6 := by
                rcases hp with ⟨rfl, rfl, rfl, rfl, h1, h2⟩ | ⟨h1, h2, h3, h4, rfl, rfl, h5, h6⟩ <;> omega
              omega
            rw [if_neg hne2, if_neg hne]
            exact hcel r c' r0 c0 hr2
        · rw [zup_at]
          split
          · rfl
          · rw [zup_o (by omega)]
            exact hcost j (by omega)

theorem zlo_rel {M K : zM} {n : Int} (hJ : zJo n M) (hx : ∀ q : Nat, 115 ≤ q → q < 137 → K q = M q) : (zfe M = -1 → (rtkR K).2 = 1 ∧ (rtkR K).1 115 28 = (zwtR (zloK M) zn1).2.2 ∧ (rtkR K).1 115 29 = (zwtR (zloK M) zn1).2.1 ∧ (∀ r c' : Int, 0 ≤ r → r < (zwtR (zloK M) zn1).2.1 → 0 ≤ c' → c' < (zwtR (zloK M) zn1).2.2 → (rtkR K).1 128 (6 * r + c').toNat = (zwtR (zloK M) zn1).1 (zn1 + 2) (r * (zwtR (zloK M) zn1).2.2 + c').toNat) ∧ ∀ j : Nat, (j : Int) < (zwtR (zloK M) zn1).2.2 * (zwtR (zloK M) zn1).2.1 → (zwtR (zloK M) zn1).1 (zn1 + 3) j = 1) ∧ (¬ zfe M = -1 → (rtkR K).2 = 0 ∧ (rtkR K).1 115 27 = zfe M) := by
  obtain ⟨⟨u1, u2⟩, u3⟩ := hJ.k.x.bu
  have e115 := hx 115 (by decide) (by decide)
  have e26 : K 115 26 = M 99 1 := by rw [e115]; exact hJ.x.2.1
  have e1 : rtkR K = rtk (M 100) (M 99 1).toNat 0 0 0 (rtk0 K) := by
    unfold rtkR
    rw [e26]
    exact rtk_cB _ _ _ _ _ (by omega) (fun j h0 h1 => by rw [hx 127 (by decide) (by decide)]; exact hJ.x.2.2 j.toNat (by omega))
  have e2 : zwtR (zloK M) zn1 = zwt (M 100) zn1 (M 99 1).toNat 0 1 0 0 (zloK M) := by
    unfold zwtR zloK
    rw [zkp_o (by decide), zkp_o (by decide), zup_or (by decide), zup_or (by decide)]
  have h := zlock (B := M 100) (a := zn1) (L := M 99 1) u2 (M 99 1).toNat 0 0 1 0 0 0 0 (zloK M) (rtk0 K) (by omega) (by omega) (Or.inl ⟨rfl, rfl, rfl, rfl, by omega, by omega⟩) (by unfold rtk0; rw [zup_ne (by decide), zup_ne (by decide), zup_i]) (by unfold rtk0; rw [zup_i]; rfl) (by unfold rtk0; rw [zup_ne (by decide), zup_i]; rfl) (fun r c' r0 c0 hr => by omega) (fun j hj => by omega)
  rw [← e1, ← e2] at h
  exact h
theorem zlo_q {M : zM} {n : Int} (hJ : zJo n M) (he : zfe M = -1) : (∀ q : Nat, q ≠ 1 → q ≠ 2 → q ≠ 3 → q ≠ 4 → q ≠ 5 → q ≠ 9 → q ≠ 12 → q ≠ 99 → q ≠ 102 → q ≠ 103 → zloM M q = zloK M q) ∧ (zloM M (zn1 + 1) 0 = (zwtR (zloK M) zn1).2.2 ∧ zloM M (zn1 + 1) 1 = (zwtR (zloK M) zn1).2.1) ∧ zloM M (zn1 + 2) = (zwtR (zloK M) zn1).1 (zn1 + 2) ∧ zloM M (zn1 + 3) = (zwtR (zloK M) zn1).1 (zn1 + 3) ∧ ((1 ≤ (zwtR (zloK M) zn1).2.2 ∧ (zwtR (zloK M) zn1).2.2 ≤ 6) ∧ (1 ≤ (zwtR (zloK M) zn1).2.1 ∧ (zwtR (zloK M) zn1).2.1 ≤ 6)) := by
  have hX := zki_e5 hJ.k (zfe_b hJ.k.x.bu)
  have hK : zBI n (zloK M) zn1 := zKb hX
  have hKx : zKX (zloK M) := zKX_k hX
  have hu := hKx.bu
  obtain ⟨⟨u1, u2⟩, u3⟩ := id hu
  have hfk : zfe (zloK M) = -1 := by
    rw [← he]
    exact zfe_c (by unfold zloK; rw [zkp_o (by decide), zup_or (by decide)]) (by unfold zloK; rw [zkp_o (by decide), zup_or (by decide)])
  obtain ⟨r1, r2, r3, r4⟩ := zwt_ok (B := zloK M 100) (a := zn1) (L := zloK M 99 1) (zloK M 99 1).toNat 0 0 1 0 0 0 0 (zloK M) (by omega) (by omega) hfk (Or.inl ⟨rfl, rfl, rfl, rfl, by omega, by omega⟩) ⟨hK.g.2.2, fun e => absurd rfl e⟩
  have hgo : ∀ q : Nat, q ≠ 2 → q ≠ 3 → q ≠ 4 → zwtG (zloK M) zn1 q = zloK M q := fun q a b c => by
    unfold zwtG
    rw [zup_or a, zup_or a]
    exact r4 q b c
  have hco : ∀ q : Nat, q ≠ 5 → zwtM (zloK M) zn1 q = zwtG (zloK M) zn1 q := fun q a => by
    unfold zwtM zcoM
    funext j
    exact ztab_o a
  have hq5 : ∀ q : Nat, q ≠ 1 → q ≠ 99 → zlo5 M q = zwtM (zloK M) zn1 q := fun q a f => by
    unfold zlo5 zlo4
    rw [zup_or a, zup_or f]
  refine ⟨fun q a b c d e f g i j k => ?_, ⟨?_, ?_⟩, ?_, ?_, r1, r2⟩
  · unfold zloM
    rw [zfg_o g j k f, hq5 q a i, hco q e, hgo q b c d]
  · unfold zloM
    rw [zfg_o (by decide) (by decide) (by decide) (by decide), hq5 _ (by decide) (by decide), hco _ (by decide)]
    unfold zwtG
    rw [zup_i]
  · unfold zloM
    rw [zfg_o (by decide) (by decide) (by decide) (by decide), hq5 _ (by decide) (by decide), hco _ (by decide)]
    unfold zwtG
    rw [zup_ne (by decide), zup_i]
  · unfold zloM
    rw [zfg_o (by decide) (by decide) (by decide) (by decide), hq5 _ (by decide) (by decide), hco _ (by decide)]
    unfold zwtG
    rw [zup_or (by decide), zup_or (by decide)]
  · unfold zloM
    rw [zfg_o (by decide) (by decide) (by decide) (by decide), hq5 _ (by decide) (by decide), hco _ (by decide)]
    unfold zwtG
    rw [zup_or (by decide), zup_or (by decide)]
theorem rlo2_o {K : zM} {q : Nat} (h : ¬ q = 115) (h2 : ¬ q = 135) (h3 : ¬ q = 128) : rlo2 K q = K q := by
  unfold rlo2
  rw [zup_or h, zup_or h, rm1_o h h2, rlo1_o h h3]
theorem rlo2_5 {K : zM} {j : Nat} (h0 : ¬ j = 0) (h1 : ¬ j = 6) (h2 : ¬ j = 7) (h : 8 ≤ j ∧ j < 26 ∨ j = 41) : rlo2 K 115 j = K 115 j := by
  unfold rlo2
  rw [zup_ne h2, zup_ne h1, rm1_5 h0 (by omega) (by omega) (by omega), rlo1_5 (by omega) (by omega) (by omega) (by omega) (by omega)]
theorem rlo1_2 {K : zM} {j : Nat} (h : j = 28 ∨ j = 29) : rlo1 K 115 j = (rtkR K).1 115 j := by
  unfold rlo1
  rw [zup_ne (by omega), zup_ne (by omega)]
theorem rlo2_w {K : zM} : rlo2 K 115 6 = (rtkR K).1 115 28 ∧ rlo2 K 115 7 = (rtkR K).1 115 29 ∧ rlo2 K 128 = (rtkR K).1 128 := by
  unfold rlo2
  refine ⟨?_, ?_, ?_⟩
  · rw [zup_ne (by decide), zup_i, rm1_5 (by decide) (by decide) (by decide) (by decide), rlo1_2 (by decide)]
  · rw [zup_i, rm1_5 (by decide) (by decide) (by decide) (by decide), rlo1_2 (by decide)]
  · rw [zup_or (by decide), zup_or (by decide), rm1_o (by decide) (by decide)]
    unfold rlo1
    rw [zup_or (by decide), zup_or (by decide)]
/-- the map of both behind load -/
theorem zlo_A {M K : zM} {n : Int} (hJ : zJo n M) (hx : ∀ q : Nat, 115 ≤ q → q < 137 → K q = M q) (he : zfe M = -1) : (1 ≤ rlo2 K 115 6 ∧ rlo2 K 115 6 ≤ 6) ∧ (1 ≤ rlo2 K 115 7 ∧ rlo2 K 115 7 ≤ 6) ∧ rA (zloM M) (rlo4 K) ∧ rC (zloM M) (rlo4 K) := by
  obtain ⟨r1, r2, r3, r4, r5⟩ := (zlo_rel hJ hx).1 he
  obtain ⟨q1, ⟨q2, q3⟩, q4, q5, q6, q7⟩ := zlo_q hJ he
  obtain ⟨w1, w2, w3⟩ := rlo2_w (K := K)
  have hs : zsz (zloM M) zn1 = rlo2 K 115 6 * rlo2 K 115 7 := by unfold zsz; rw [q2, q3, w1, w2, r2, r3]
  refine ⟨by rw [w1, r2]; exact q6, by rw [w2, r3]; exact q7, ⟨⟨?_, ?_⟩, fun j hj => ?_⟩, fun j hj => ?_⟩
  · unfold rlo4
    rw [rlo3_o (by decide) (by decide), q2, w1, r2]
  · unfold rlo4
    rw [rlo3_o (by decide) (by decide), q3, w2, r3]
  · rw [hs] at hj
    unfold rlo4 rlo3
    rw [ztab_or (by decide), ztab_i (by omega), q4]
    unfold rloF
    rw [w1, w2, r2, r3] at hj
    rw [w1, w3, r2]
    obtain ⟨⟨d1, d2⟩, ⟨d3, d4⟩, d5⟩ := zdiv6 (c := (j : Int)) q6 q7 ⟨by omega, hj⟩
    rw [r4 _ _ d1 d2 d3 d4, ← d5, Int.toNat_natCast]
  · rw [hs] at hj
    unfold rlo4 rlo3
    rw [ztab_i (by omega), q5]
    exact (r5 j (by rw [← r2, ← r3, ← w1, ← w2]; exact hj)).symm
theorem rloM_o {D K : zM} {q : Nat} (h1 : ¬ q = 115) (h2 : ¬ q = 120) (h3 : ¬ q = 122) (h4 : ¬ q = 121) (h5 : ¬ q = 116) (h6 : ¬ q = 117) : rloM D K q = rlo2 K q := by
  unfold rloM
  rw [zup_or h1, rfo_o h1, rev_o h2 h3 h4]
  unfold rlo4
  rw [rlo3_o h5 h6]
theorem rloM_5 {D K : zM} {j : Nat} (h1 : ¬ j = 10) (h2 : ¬ j = 19) (h3 : ¬ j = 20) (h4 : ¬ j = 21) : rloM D K 115 j = rlo2 K 115 j := by
  unfold rloM
  rw [zup_ne h1, rfo_5 h2 h3 h4, rev_o (by decide) (by decide) (by decide)]
  unfold rlo4
  rw [rlo3_o (by decide) (by decide)]
/-- the rows of both behind load -/
theorem zload_6 {M K : zM} {n : Int} (hJ : zJo n M) (hx : ∀ q : Nat, 115 ≤ q → q < 137 → K q = M q) (he : zfe M = -1) : zR6 (zloM M) (rloM (zloM M) K) := by
  obtain ⟨a1, a2, hA, hC⟩ := zlo_A hJ hx he
  obtain ⟨q1, ⟨q2, q3⟩, q4, q5, q6, q7⟩ := zlo_q hJ he
  obtain ⟨mA, mC, mT, mL, mS, mR⟩ := zJo_A hJ hx
  have c : ∀ q : Nat, q ≠ 1 → q ≠ 2 → q ≠ 3 → q ≠ 4 → q ≠ 5 → q ≠ 9 → q ≠ 12 → q < 13 → ¬ q = 0 → zloM M q = M q := fun q a b d e f g i j k => by
    rw [q1 q a b d e f g i (by omega) (by omega) (by omega)]
    unfold zloK
    rw [zkp_o (by omega), zup_or k]
  have e5 : ∀ j : Nat, ¬ j = 0 → ¬ j = 10 → ¬ j = 6 → ¬ j = 7 → ¬ j = 19 → ¬ j = 20 → ¬ j = 21 → 8 ≤ j ∧ j < 26 → rloM (zloM M) K 115 j = K 115 j := fun j a b d e f g i k => by
    rw [rloM_5 b f g i, rlo2_5 a d e (Or.inl k)]
  have z1 : ∀ j : Nat, ¬ j = 4 → zloM M zn1 j = M zn1 j := fun j h => by
    unfold zloM
    rw [zfg_o (by decide) (by decide) (by decide) (by decide)]
    unfold zlo5
    rw [zup_ne h]
    unfold zlo4
    rw [zup_or (by decide)]
    have hX := zki_e5 hJ.k (zfe_b hJ.k.x.bu)
    have hK : zBI n (zloK M) zn1 := zKb hX
    have hKx : zKX (zloK M) := zKX_k hX
    obtain ⟨⟨u1, u2⟩, u3⟩ := hKx.bu
    have hfk : zfe (zloK M) = -1 := by
      rw [← he]
      exact zfe_c (by unfold zloK; rw [zkp_o (by decide), zup_or (by decide)]) (by unfold zloK; rw [zkp_o (by decide), zup_or (by decide)])
    obtain ⟨r1, r2, r3, r4⟩ := zwt_ok (B := zloK M 100) (a := zn1) (L := zloK M 99 1) (zloK M 99 1).toNat 0 0 1 0 0 0 0 (zloK M) (by omega) (by omega) hfk (Or.inl ⟨rfl, rfl, rfl, rfl, by omega, by omega⟩) ⟨hK.g.2.2, fun e => absurd rfl e⟩
    unfold zwtM zcoM
    rw [ztab_o (by decide)]
    unfold zwtG
    rw [zup_or (by decide), zup_or (by decide)]
    have := r4 zn1 (by decide) (by decide)
    unfold zwtR
    rw [this]
    unfold zloK
    rw [zkp_o (by decide), zup_or (by decide)]
  refine ⟨?_, fun j hj => ?_, ?_, fun j hj => ?_, ⟨?_, ?_, ?_, ?_⟩, ?_⟩
  · exact rA_c (zup_ne (by decide)) (zup_ne (by decide)) (zup_or (by decide)) (rev_fo hA)
  · unfold rloM
    rw [zup_or (by decide), rfo_o (by decide), rev_o (by decide) (by decide) (by decide)]
    exact hC j hj
  · refine rT_t (c _ (by decide) (by decide) (by decide) (by decide) (by decide) (by decide) (by decide) (by decide) (by decide)) (c _ (by decide) (by decide) (by decide) (by decide) (by decide) (by decide) (by decide) (by decide) (by decide)) (c _ (by decide) (by decide) (by decide) (by decide) (by decide) (by decide) (by decide) (by decide) (by decide)) (e5 _ (by decide) (by decide) (by decide) (by decide) (by decide) (by decide) (by decide) (by decide)) (e5 _ (by decide) (by decide) (by decide) (by decide) (by decide) (by decide) (by decide) (by decide)) ?_ ?_ mT
    · rw [rloM_o (by decide) (by decide) (by decide) (by decide) (by decide) (by decide), rlo2_o (by decide) (by decide) (by decide)]
    · rw [rloM_o (by decide) (by decide) (by decide) (by decide) (by decide) (by decide), rlo2_o (by decide) (by decide) (by decide)]
  · have hE : zE2 (zlo5 M) (zloM M) zn1 := by
      unfold zloM
      exact ⟨(zfg_o (by decide) (by decide) (by decide) (by decide)).symm, (zfg_o (by decide) (by decide) (by decide) (by decide)).symm⟩
    unfold rloM
    rw [zup_or (by decide), rfo_o (by decide), zev_rev hE.ef hj]
    unfold zloM zfgM
    rw [zclM_o (by decide)]
  · have hE : zE2 (zloM M) (zlo4 M) zn1 := by
      unfold zloM
      refine ⟨(zfg_o (by decide) (by decide) (by decide) (by decide)).trans ?_, (zfg_o (by decide) (by decide) (by decide) (by decide)).trans ?_⟩
      · unfold zlo5; rw [zup_or (by decide)]
      · unfold zlo5; rw [zup_or (by decide)]
    have e4 : zloM M zn1 4 = zlow (zlo4 M) zn1 := by
      unfold zloM
      rw [zfg_o (by decide) (by decide) (by decide) (by decide)]
      unfold zlo5
      rw [zup_i]
    unfold rloM
    rw [zup_i, e4]
    unfold zlow
    rw [zsz_c hE, zfreeN_c hE]
  · rw [e5 11 (by decide) (by decide) (by decide) (by decide) (by decide) (by decide) (by decide) (by decide), z1 5 (by decide)]; exact mS.2.1
  · rw [e5 12 (by decide) (by decide) (by decide) (by decide) (by decide) (by decide) (by decide) (by decide), z1 6 (by decide)]; exact mS.2.2.1
  · rw [e5 13 (by decide) (by decide) (by decide) (by decide) (by decide) (by decide) (by decide) (by decide), z1 7 (by decide)]; exact mS.2.2.2
  · refine rL_0 (c := -1) (by unfold zloM zfgM; exact zclM_8) ?_
    unfold rloM
    rw [zup_ne (by decide), zup_ne (by decide), zup_ne (by decide)]
    exact rfo_i
theorem zj_load {xs : List Int32} {d : Nat} {n : Int} {M : zM} (hJ : zJo n M) (hn : n + 1 ≤ 600) : zStep xs (d + 12) (d + 13) 72 [.ref 0] 160 [.ref 115] [(0, 1)] 0 True n M := by
  have hI := hJ.k.ci
  have hu := hJ.k.x.bu
  have hld : ∀ K : zM, (∀ q : Nat, 115 ≤ q → q < 137 → K q = M q) → (0 ≤ K 115 26 ∧ K 115 26 ≤ 45) ∧ (∀ j : Nat, (j : Int) < K 115 26 → 0 ≤ K 127 j ∧ K 127 j ≤ 255) ∧ (0 ≤ K 115 39 ∧ K 115 39 ≤ 6) := fun K hx => by
    have e115 := hx 115 (by decide) (by decide)
    have e26 : K 115 26 = M 99 1 := by rw [e115]; exact hJ.x.2.1
    rw [e26]
    exact ⟨hu.1, fun j hj => by rw [hx 127 (by decide) (by decide), hJ.x.2.2 j hj]; exact hu.2 j (by have := hu.1.2; omega), zJo_39 hJ e115⟩
  by_cases c0 : ¬ zfe M = -1
  · refine ⟨_, _, fun w => ⟨_, sp_loadP_0 (d := d + 7) hI c0⟩, zFo_e (by decide), fun K hQ => ?_⟩
    have hm : ∀ q : Nat, ¬ q = 0 → ¬ q = 99 → zup (zup M 0 5 (zfe M)) 99 1 0 q = M q := fun q a b => by rw [zup_or b, zup_or a]
    have hx : ∀ q : Nat, 115 ≤ q → q < 137 → K q = M q := fun q a b => (hQ q b).trans (hm q (by omega) (by omega))
    have e115 := hx 115 (by decide) (by decide)
    obtain ⟨l1, l2, l3⟩ := hld K hx
    obtain ⟨r1, r2⟩ := (zlo_rel hJ hx).2 c0
    have hr := fun w : Bool => sp_loadR_0 (xs := xs) (d := d + 8) (w := w) (M := K) (D := M) (nD := n) l1 l2 l3 (fun e => absurd r1 e) r1
    have hc : ∀ q : Nat, q < 115 → zup (rlo1 K) 115 0 1 q = zup (zup M 0 5 (zfe M)) 99 1 0 q := fun q h => (zup_or (by omega)).trans ((rlo1_o (by omega) (by omega)).trans (hQ q (by omega)))
    have o5 : ∀ j : Nat, ¬ j = 0 → ¬ j = 26 → ¬ j = 27 → ¬ j = 28 → ¬ j = 29 → ¬ j = 30 → zup (rlo1 K) 115 0 1 115 j = K 115 j := fun j a b c d e f => by rw [zup_ne a, rlo1_5 c d e b f]
    have hJ2 : zJo n (zup (rlo1 K) 115 0 1) := by
      refine zJo_r hJ (zki_loadE hJ.k) hc (fun q a b => hm q (by omega) (by omega)) (by rw [zup_or (by decide), zup_ne (by decide)]) (fun q a b => hm q (by omega) (by omega)) (fun q hq => (zup_or (by unfold zpl1 at hq; omega)).trans ((rlo1_o (by unfold zpl1 at hq; omega) (by unfold zpl1 at hq; omega)).trans (hQ q (by unfold zpl1 at hq; omega)))) (fun j hj => (o5 j (by unfold zpl5 at hj; omega) (by unfold zpl5 at hj; omega) (by unfold zpl5 at hj; omega) (by unfold zpl5 at hj; omega) (by unfold zpl5 at hj; omega) (by unfold zpl5 at hj; omega)).trans (by rw [hQ 115 (by decide)])) ⟨⟨?_, ?_, ?_⟩, ?_, ?_⟩
      · rw [o5 39 (by decide) (by decide) (by decide) (by decide) (by decide) (by decide), e115, hc 25 (by decide), hm 25 (by decide) (by decide)]; exact hJ.x.1.1
      · rw [o5 41 (by decide) (by decide) (by decide) (by decide) (by decide) (by decide), e115, hc 0 (by decide), zup_or (by decide), zup_ne (by decide)]; exact hJ.x.1.2.1
      · rw [zup_ne (by decide), hc 0 (by decide), zup_or (by decide), zup_i]
        unfold rlo1
        rw [zup_i, if_pos r1, r2]
      · rw [zup_ne (by decide), hc 99 (by decide), zup_i]
        unfold rlo1
        rw [zup_ne (by decide), zup_i]
      · rw [hc 99 (by decide), zup_i]
        exact fun j hj => by omega
    exact ⟨_, _, hr, zTy_i, (zup_or (by decide)).trans (rlo1_o (by decide) (by decide)), zJo_n hJ2 (by omega) hn, fun _ => Or.inl ⟨_, 1, rfl, by decide, zup_i⟩⟩
  · have he := Classical.not_not.mp c0
    refine ⟨_, _, fun w => ⟨_, sp_loadP_1 (d := d + 7) hI c0⟩, zFo_v zTy_i, fun K hQ => ?_⟩
    obtain ⟨q1, ⟨q2, q3⟩, q4, q5, q6, q7⟩ := zlo_q hJ he
    have hk : ∀ q : Nat, ¬ q = 0 → q < 25 ∨ 99 ≤ q → zloK M q = M q := fun q a b => by unfold zloK; rw [zkp_o b, zup_or a]
    have hx : ∀ q : Nat, 115 ≤ q → q < 137 → K q = M q := fun q a b => (hQ q b).trans ((q1 q (by omega) (by omega) (by omega) (by omega) (by omega) (by omega) (by omega) (by omega) (by omega) (by omega)).trans (hk q (by omega) (by omega)))
    have e115 := hx 115 (by decide) (by decide)
    obtain ⟨l1, l2, l3⟩ := hld K hx
    obtain ⟨r1, r2, r3, r4, r5⟩ := (zlo_rel hJ hx).1 he
    obtain ⟨a1, a2, a3, a4⟩ := zlo_A hJ hx he
    have hKl := zki_load hJ.k hn he
    have hne : ¬ (rtkR K).2 = 0 := by omega
    have hr := fun w : Bool => sp_loadR_1 (xs := xs) (d := d + 8) (w := w) (M := K) (D := zloM M) (nD := n + 1) l1 l2 l3 (fun _ => ⟨a1, a2, hKl.b, a3⟩) hne
    have ro : ∀ q : Nat, ¬ q = 115 → ¬ q = 120 → ¬ q = 122 → ¬ q = 121 → ¬ q = 116 → ¬ q = 117 → ¬ q = 135 → ¬ q = 128 → rloM (zloM M) K q = K q := fun q a b c d e f g i => (rloM_o a b c d e f).trans (rlo2_o a g i)
    have hc : ∀ q : Nat, q < 115 → rloM (zloM M) K q = zloM M q := fun q h => (ro q (by omega) (by omega) (by omega) (by omega) (by omega) (by omega) (by omega) (by omega)).trans (hQ q (by omega))
    have hv1 : ∀ k, rvw (rlo1 K) k = rvw M k := rvw_c (fun j hj => by rw [rlo1_5 (by unfold zpl5 at hj; omega) (by unfold zpl5 at hj; omega) (by unfold zpl5 at hj; omega) (by unfold zpl5 at hj; omega) (by unfold zpl5 at hj; omega), e115]) (fun q hq => by rw [rlo1_o (by unfold zpl1 at hq; omega) (by unfold zpl1 at hq; omega), hx q (by unfold zpl1 at hq; omega) (by unfold zpl1 at hq; omega)])
    obtain ⟨m1, m2⟩ := rm1_e (K := rlo1 K) (M := M) (by rw [rlo1_o (by decide) (by decide), hx 135 (by decide) (by decide)]) (by rw [rlo1_39, e115]) hv1
    obtain ⟨vA, vC, vT, vL, vS, vR⟩ := zload_6 hJ hx he
    have w135 : rlo2 K 135 = rm1 (rlo1 K) 135 := by unfold rlo2; rw [zup_or (by decide), zup_or (by decide)]
    have w5 : ∀ j : Nat, ¬ j = 6 → ¬ j = 7 → rlo2 K 115 j = rm1 (rlo1 K) 115 j := fun j a b => by unfold rlo2; rw [zup_ne b, zup_ne a]
    have m0 : zloM M 0 = zup M 0 5 (zfe M) 0 := by
      rw [q1 0 (by decide) (by decide) (by decide) (by decide) (by decide) (by decide) (by decide) (by decide) (by decide) (by decide)]
      unfold zloK
      rw [zkp_o (by decide)]
    have m99 : zloM M 99 1 = 0 := by
      unfold zloM
      rw [zfg_o (by decide) (by decide) (by decide) (by decide)]
      unfold zlo5 zlo4
      rw [zup_or (by decide), zup_i]
    have hJ2 : zJo (n + 1) (rloM (zloM M) K) := by
      refine zJo_k (X := zup M 0 5 (zfe M)) hJ hKl hc (fun q a b => zup_or (by omega)) (fun q a b => q1 q (by omega) (by omega) (by omega) (by omega) (by omega) (by omega) (by omega) (by omega) (by omega) (by omega)) (by rw [m0, zup_ne (by decide)]) (fun q a b => (q1 q (by omega) (by omega) (by omega) (by omega) (by omega) (by omega) (by omega) (by omega) (by omega) (by omega)).trans (hk q (by omega) (by omega))) ?_ ?_ ?_ ⟨⟨?_, ?_, ?_⟩, ?_, ?_⟩ (rV_of hKl.b vA vC vT vL vS vR)
      · rw [rloM_o (by decide) (by decide) (by decide) (by decide) (by decide) (by decide), w135, m1]
      · rw [ro 136 (by decide) (by decide) (by decide) (by decide) (by decide) (by decide) (by decide) (by decide), hx 136 (by decide) (by decide)]
      · rw [rloM_5 (by decide) (by decide) (by decide) (by decide), w5 39 (by decide) (by decide), m2]
      · rw [rloM_5 (by decide) (by decide) (by decide) (by decide), w5 39 (by decide) (by decide), m2, rm1_39, hc 25 (by decide), q1 25 (by decide) (by decide) (by decide) (by decide) (by decide) (by decide) (by decide) (by decide) (by decide) (by decide), hJ.x.1.1]
        unfold zloK
        rw [zkp_2]
        unfold zkn
        rw [zup_or (by decide)]
      · rw [rloM_5 (by decide) (by decide) (by decide) (by decide), rlo2_5 (by decide) (by decide) (by decide) (Or.inr rfl), e115, hc 0 (by decide), m0, zup_ne (by decide)]
        exact hJ.x.1.2.1
      · rw [rloM_5 (by decide) (by decide) (by decide) (by decide), w5 30 (by decide) (by decide), rm1_5 (by decide) (by decide) (by decide) (by decide), hc 0 (by decide), m0, zup_i, he]
        unfold rlo1
        rw [zup_i, if_neg hne]
      · rw [rloM_5 (by decide) (by decide) (by decide) (by decide), w5 26 (by decide) (by decide), rm1_5 (by decide) (by decide) (by decide) (by decide), hc 99 (by decide), m99]
        unfold rlo1
        rw [zup_ne (by decide), zup_i]
      · rw [hc 99 (by decide), m99]
        exact fun j hj => by omega
    refine ⟨_, _, hr, zTy_i, ro 137 (by decide) (by decide) (by decide) (by decide) (by decide) (by decide) (by decide) (by decide), hJ2, fun _ => Or.inr ⟨?_, rfl⟩⟩
    rw [rloM_5 (by decide) (by decide) (by decide) (by decide), w5 0 (by decide) (by decide), rm1_0]
