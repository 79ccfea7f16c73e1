/-! The reference: exact weights of the cells. -/
noncomputable def rxG (C : zM) (i : Int) (E : zF) (t : Nat) : zF := fun c => @ite _ ((zfreeN C zn1 c ∧ zfreeN C zn1 t) ∧ 0 < E c) (Classical.propDecidable _) (E c * zfac C zn1 i (c : Int) (t : Int)) 0
noncomputable def rxE (C : zM) : Nat → zF
  | 0 => fun j => zb ((j : Int) < zsz C zn1 ∧ zmb C zn1 (j : Int))
  | i + 1 => fun t => if t < (zsz C zn1).toNat then zsum (rxG C (i : Int) (rxE C i) t) (zsz C zn1).toNat else rxE C i t
theorem zsum_1 {F : zF} {t : Nat} : ∀ n, (∀ c, c < n → ¬ c = t → F c = 0) → t < n → zsum F n = F t
  | 0, _, h => absurd h (Nat.not_lt_zero t)
  | n + 1, h, ht => by
    show zsum F n + F n = F t
    by_cases e : n = t
    · subst e
      rw [zsum_0 n (fun c hc => h c (by omega) (by omega)), Int.zero_add]
    · rw [zsum_1 n (fun c hc => h c (by omega)) (by omega), h n (by omega) e, Int.add_zero]
theorem rxE_w {C : zM} {n : Int} (hB : zBI n C zn1) (h8 : ztot C zn1 ≤ 8) : ∀ k : Nat, (k : Int) ≤ ztot C zn1 → (∀ t, t < (zsz C zn1).toNat → rxE C k t = zwe C zn1 k 109 t) ∧ (∀ t, t < (zsz C zn1).toNat → ¬ zfreeN C zn1 t → zwe C zn1 k 109 t = 0)
  | 0, _ => by
    have e : ∀ j, j < (zsz C zn1).toNat → zwe C zn1 0 109 j = zb (zmb C zn1 (j : Int)) := fun j hj => ztab_i hj
    refine ⟨fun t ht => ?_, fun t ht hf => ?_⟩
    · rw [e t ht]
      show zb ((t : Int) < zsz C zn1 ∧ zmb C zn1 (t : Int)) = _
      by_cases h : zmb C zn1 (t : Int)
      · rw [zb_t ⟨by omega, h⟩, zb_t h]
      · rw [zb_f (fun e => h e.2), zb_f h]
    · rw [e t ht]
      exact zb_f (fun h => hf h.1)
  | k + 1, hk => by
    obtain ⟨i1, i2⟩ := rxE_w hB h8 k (by omega)
    have hm8 : zmi (ztot C zn1) 8 = ztot C zn1 := if_pos h8
    obtain ⟨g6, g7⟩ := hB.g.sz
    have hz : zsz C zn1 = C (zn1 + 1) 0 * C (zn1 + 1) 1 := rfl
    have hn := (zwe_b hzn1 hB k (by omega)).1
    have hX : ∀ q : Nat, q ≠ 109 → q ≠ 110 → zwe C zn1 k q = C q := fun q a b => zwe_o a b k
    have hzX : zsz (zwe C zn1 k) zn1 = zsz C zn1 := zsz_c ⟨hX _ (by decide) (by decide), hX _ (by decide) (by decide)⟩
    have hcd := hB.b4.1.2.2.2.1 k (by omega)
    have eR : ∀ t, t < (zsz C zn1).toNat → rxE C (k + 1) t = zsum (rxG C (k : Int) (rxE C k) t) (zsz C zn1).toNat := fun t ht => if_pos ht
    have hkn : ((k : Int)).toNat = k := Int.toNat_natCast k
    have A : ∀ t, t < (zsz C zn1).toNat → rxE C (k + 1) t = zwe C zn1 (k + 1) 109 t := by
      intro t ht
      rw [eR t ht]
      by_cases hc : C (zn1 + 9) k < 10
      · have e : zwe C zn1 (k + 1) = zldM (zwe C zn1 k) zn1 (k : Int) := if_pos hc
        have hts := (hB.b4.2.2.1 k (by omega)).resolve_right (by omega)
        have e1 : zldM (zwe C zn1 k) zn1 (k : Int) 109 t = zsum (fun c => zsum (fun y => if (ztarget C zn1 (c : Int) (C (zn1 + 9) k) (y : Int)).toNat = t then zwe C zn1 k 109 c * C (zn1 + 10) ((k : Int) * 36 + (y : Int)).toNat else 0) 4) (zsz C zn1).toNat := by
          unfold zldM zcp
          rw [hzX, if_pos ⟨rfl, by omega, by omega⟩, zrow_q]
          unfold zlF
          rw [if_pos (by omega), Int.zero_add]
          refine zsum_c _ (fun c _ => zsum_c _ (fun y _ => ?_))
          unfold zlt
          rw [hX (zn1 + 9) (by decide) (by decide), hX (zn1 + 10) (by decide) (by decide), Int.toNat_natCast, ztarget_c (hX (zn1 + 4) (by decide) (by decide)), show 0 + (t - 0) = t by omega]
        rw [e, e1]
        refine zsum_c _ (fun c hcn => ?_)
        unfold rxG
        rw [i1 c hcn]
        have htg := fun y : Nat => ztg_n hB.b1 (c := (c : Int)) (e := C (zn1 + 9) k) (y : Int) (by omega) (by omega)
        by_cases hfc : zfreeN C zn1 c
        · by_cases h0 : 0 < zwe C zn1 k 109 c
          · by_cases hft : zfreeN C zn1 t
            · rw [if_pos ⟨⟨hfc, hft⟩, h0⟩]
              unfold zfac
              rw [hkn, if_pos hc, Int.mul_comm, ← zsum_mul]
              refine zsum_c _ (fun y _ => ?_)
              have h1 := (htg y).1
              unfold zfcF
              rw [hkn]
              by_cases h2 : ztarget C zn1 (c : Int) (C (zn1 + 9) k) (y : Int) = (t : Int)
              · rw [if_pos h2, if_pos (by omega), Int.mul_comm]
              · rw [if_neg h2, if_neg (by omega), Int.zero_mul]
            · rw [if_neg (fun e => hft e.1.2)]
              refine (zsum_0 _ (fun y _ => ?_)).symm
              refine if_neg (fun h2 => ?_)
              obtain ⟨h1, h3⟩ := htg y
              have h4 : ztarget C zn1 (c : Int) (C (zn1 + 9) k) (y : Int) = (t : Int) := by omega
              rcases h3 with h3 | h3
              · have : c = t := by omega
                exact hft (this ▸ hfc)
              · rw [h4] at h3
                exact hft h3.2
          · rw [if_neg (fun e => h0 e.2)]
            have := hn c hcn
            refine (zsum_0 _ (fun y _ => ?_)).symm
            rw [show zwe C zn1 k 109 c = 0 by omega, Int.zero_mul]
            split <;> rfl
        · rw [if_neg (fun e => hfc e.1.1)]
          refine (zsum_0 _ (fun y _ => ?_)).symm
          rw [i2 c hcn hfc, Int.zero_mul]
          split <;> rfl
      · have e : zwe C zn1 (k + 1) = ztab (zwe C zn1 k) 109 (zsz C zn1).toNat (fun c => zwe C zn1 k 109 c * C (zn1 + 10) ((k : Int) * 36 + (c : Int)).toNat) := if_neg hc
        rw [e, ztab_i ht]
        have hfa : ∀ c : Nat, zfac C zn1 (k : Int) (c : Int) (t : Int) = if (c : Int) = (t : Int) then C (zn1 + 10) ((k : Int) * 36 + (c : Int)).toNat else 0 := fun c => by
          unfold zfac
          rw [hkn, if_neg hc]
        rw [zsum_1 (t := t) (zsz C zn1).toNat (fun c hcn hne => by
          unfold rxG
          rw [hfa, if_neg (show ¬ (c : Int) = (t : Int) by omega), Int.mul_zero]
          split <;> rfl) ht]
        unfold rxG
        rw [i1 t ht, hfa, if_pos rfl]
        by_cases hft : zfreeN C zn1 t
        · by_cases h0 : 0 < zwe C zn1 k 109 t
          · rw [if_pos ⟨⟨hft, hft⟩, h0⟩]
          · have := hn t ht
            rw [if_neg (fun e => h0 e.2), show zwe C zn1 k 109 t = 0 by omega, Int.zero_mul]
        · rw [if_neg (fun e => hft e.1.1), i2 t ht hft, Int.zero_mul]
    refine ⟨A, fun t ht hft => ?_⟩
    rw [← A t ht, eR t ht]
    exact zsum_0 _ (fun c _ => if_neg (fun e => hft e.1.2))
theorem rxE_b {C : zM} {n : Int} (hB : zBI n C zn1) (h8 : ztot C zn1 ≤ 8) {k : Nat} (hk : (k : Int) ≤ ztot C zn1) {t : Nat} (ht : t < (zsz C zn1).toNat) : 0 ≤ rxE C k t ∧ rxE C k t ≤ 1000000000000000000 := by
  have hm8 : zmi (ztot C zn1) 8 = ztot C zn1 := if_pos h8
  obtain ⟨h1, h2, h3⟩ := zwe_b hzn1 hB k (by omega)
  have hp := zp100_8 (n := k) (by omega)
  have := zsum_ge _ h1 t ht
  rw [(rxE_w hB h8 k hk).1 t ht]
  exact ⟨h1 t ht, by omega⟩
noncomputable def rxM (C M : zM) : Nat → zM
  | 0 => ztab M 130 36 (rxE C 0)
  | i + 1 => ztab (ztab (rxM C M i) 131 (zsz C zn1).toNat (rxE C (i + 1))) 130 (zsz C zn1).toNat (rxE C (i + 1))
