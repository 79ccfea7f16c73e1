/-! What changes do to a state block: moves, sights, trails. -/
theorem znb {M : zM} {a : Nat} (h : zB1 M a) {c e : Int} (hc : 0 ≤ c ∧ c < zsz M a) (he : 0 ≤ e ∧ e < 4) : M (a + 4) (c * 4 + e).toNat = zjn M a c (znx (M (a + 1) 0) c e) := by
  rw [h.2.2.1 _ (by omega)]
  exact zcn_at hc.1 he rfl
theorem zjn_n {M : zM} {a : Nat} {c n : Int} (hc : 0 ≤ c ∧ c < zsz M a) : (0 ≤ zjn M a c n ∧ zjn M a c n < zsz M a) ∧ (zjn M a c n = c ∨ zfree M a c ∧ zfree M a (zjn M a c n)) := by
  by_cases h : zfree M a c ∧ zfree M a n
  · rw [zjn_t h.1 h.2]
    exact ⟨⟨h.2.1, h.2.2.1⟩, Or.inr h⟩
  · have e : zjn M a c n = c := if_neg h
    rw [e]
    exact ⟨hc, Or.inl rfl⟩
theorem ztg_n {M : zM} {a : Nat} (h : zB1 M a) {c e : Int} (y : Int) (hc : 0 ≤ c ∧ c < zsz M a) (he : 0 ≤ e ∧ e < 4) : (0 ≤ ztarget M a c e y ∧ ztarget M a c e y < zsz M a) ∧ (ztarget M a c e y = c ∨ zfree M a c ∧ zfree M a (ztarget M a c e y)) := by
  unfold ztarget
  split
  · rw [znb h hc he]; exact zjn_n hc
  · split
    · rw [znb h hc (by omega)]; exact zjn_n hc
    · split
      · rw [znb h hc (by omega)]; exact zjn_n hc
      · exact ⟨hc, Or.inl rfl⟩
theorem zmv_in {M : zM} {a : Nat} {e : Int} {n t : Nat} (h : t < n) (i : Nat) : zmvF M a e n i t = zsum (fun c => zsum (fun y => zterm M a e c y t) 4) i := by
  unfold zmvF
  rw [if_pos h, Int.zero_add]
theorem zmv_sum {M : zM} {a : Nat} {e : Int} (h1 : zB1 M a) (h2 : zB2 M a) (h3 : zB3 M a) (he : 0 ≤ e ∧ e < 4) : zsum (zmvF M a e (zsz M a).toNat (zsz M a).toNat) (zsz M a).toNat = 16000000 := by
  have hs := zspread (E := M (a + 11)) (N := M (a + 6)) (tg := fun c y => (ztarget M a (c : Int) e (y : Int)).toNat) (n := (zsz M a).toNat) (fun c hc y _ => by
    have h := (ztg_n h1 (c := (c : Int)) (e := e) (y : Int) (by omega) he).1
    show (ztarget M a (c : Int) e (y : Int)).toNat < _
    omega)
  have e16 : zsum (M (a + 6)) 4 = 16 := by
    rw [← h3.2]
    exact zsum_c 4 (fun j _ => rfl)
  rw [e16, h2.2.1] at hs
  rw [zsum_c (K := fun t => zsum (fun c => zsum (fun y => zterm M a e c y t) 4) (zsz M a).toNat) _ (fun t ht => zmv_in ht _)]
  exact hs
theorem zmv_wall {M : zM} {a : Nat} {e : Int} (h1 : zB1 M a) (h2 : zB2 M a) (he : 0 ≤ e ∧ e < 4) {t : Nat} (ht : (t : Int) < zsz M a) (hf : ¬ zfreeN M a t) : zmvF M a e (zsz M a).toNat (zsz M a).toNat t = 0 := by
  rw [zmv_in (by omega)]
  refine zsum_0 _ (fun c hc => zsum_0 _ (fun y hy => ?_))
  unfold zterm
  split
  · next e1 =>
    have h := ztg_n h1 (c := (c : Int)) (e := e) (y : Int) (by omega) he
    have e2 : ztarget M a (c : Int) e (y : Int) = (t : Int) := by omega
    rw [e2] at h
    rcases h.2 with e3 | ⟨_, e3⟩
    · have e4 : c = t := by omega
      subst e4
      rw [h2.2.2 c (by omega) hf, Int.zero_mul]
    · exact absurd e3 hf
  · rfl
theorem zmw_in {M : zM} {a : Nat} {e : Int} {t : Nat} (ha : zSt a) (ht : t < (zsz M a).toNat) : (zfreeN M a t → zmw M a e t = (100 - M (a + 5) 2) * zmany M a * zmvF M a e (zsz M a).toNat (zsz M a).toNat t + M (a + 5) 2 * 16 * 1000000) ∧ (¬ zfreeN M a t → zmw M a e t = zmvF M a e (zsz M a).toNat (zsz M a).toNat t) := by
  have hle := zSt_le ha
  have r1 : zE2 (zrow M 102 (zmvF M a e (zsz M a).toNat (zsz M a).toNat)) M a := ⟨zrow_o (by omega), zrow_o (by omega)⟩
  have r5 : zrow M 102 (zmvF M a e (zsz M a).toNat (zsz M a).toNat) (a + 5) = M (a + 5) := zrow_o (by omega)
  unfold zmw zcaF
  rw [zfreeN_c r1, zmany_c r1, r5, zrow_q]
  constructor
  · intro hf
    rw [if_pos ⟨ht, hf⟩]
  · intro hf
    rw [if_neg (fun e => hf e.2)]
theorem zmw_wall {M : zM} {a : Nat} {e : Int} (ha : zSt a) (h1 : zB1 M a) (h2 : zB2 M a) (he : 0 ≤ e ∧ e < 4) {t : Nat} (ht : (t : Int) < zsz M a) (hf : ¬ zfreeN M a t) : zmw M a e t = 0 := by
  rw [(zmw_in ha (by omega)).2 hf]
  exact zmv_wall h1 h2 he ht hf
theorem zmw_pos {M : zM} {a : Nat} {e : Int} (ha : zSt a) (h1 : zB1 M a) (h2 : zB2 M a) (h3 : zB3 M a) (he : 0 ≤ e ∧ e < 4) : 0 < zsum (zmw M a e) (zsz M a).toNat := by
  have hnn : ∀ j, j < (zsz M a).toNat → 0 ≤ zmw M a e j := fun j hj => (zmw_b ha h1.1 h2.1 h3.1 hj).1
  obtain ⟨j, hj, hp⟩ := zsum_ex (F := zmvF M a e (zsz M a).toNat (zsz M a).toNat) (zsz M a).toNat (by rw [zmv_sum h1 h2 h3 he]; decide)
  have hr := h3.1.2.2.1
  have hm := h1.2.2.2
  refine zsum_pos _ hnn ⟨j, hj, ?_⟩
  by_cases hf : zfreeN M a j
  · rw [(zmw_in ha hj).1 hf]
    generalize zmvF M a e (zsz M a).toNat (zsz M a).toNat j = w at hp
    by_cases h0 : M (a + 5) 2 = 0
    · rw [h0]
      have e1 : 0 < (100 - 0) * zmany M a * w := Int.mul_pos (Int.mul_pos (by decide) hm) hp
      omega
    · have e1 : 0 ≤ (100 - M (a + 5) 2) * zmany M a * w := Int.mul_nonneg (Int.mul_nonneg (by omega) (by omega)) (by omega)
      omega
  · rw [(zmw_in ha hj).2 hf]
    exact hp
/-- beliefs that are scaled out of weights -/
theorem zB2_sc {M M0 : zM} {a : Nat} {W : zF} (h : zEf M a M0 a) (hg : zGr M0 a) (hb : zBl M0 a) (hW : ∀ j, j < (zsz M0 a).toNat → 0 ≤ W j) (hS : 0 < zsum W (zsz M0 a).toNat) (hw : ∀ j : Nat, (j : Int) < zsz M0 a → ¬ zfreeN M0 a j → W j = 0) (h11 : ∀ j, M (a + 11) j = if j < (zsz M0 a).toNat then (zsc W (zsz M0 a).toNat).1 j else M0 (a + 11) j) : zB2 M a := by
  obtain ⟨g6, g7⟩ := hg.sz
  have hz : zsz M0 a = M0 (a + 1) 0 * M0 (a + 1) 1 := rfl
  refine ⟨fun j hj => ?_, ?_, fun j hj hn => ?_⟩
  · rw [h11]
    split
    · next h1 => exact ⟨zsc_nn hW hS j h1, zsc_le hW hS j h1⟩
    · exact hb j hj
  · rw [h.sz, zsum_c (K := (zsc W (zsz M0 a).toNat).1) _ (fun j hj => by rw [h11, if_pos hj])]
    exact zsc_sum (by omega) hW hS
  · rw [h.sz] at hj
    rw [h11, if_pos (by omega)]
    exact zsc_0 hW hS (by omega) (hw j hj (fun e => hn ((h.fr j).mpr e)))
theorem zscM_v {M : zM} {q n j : Nat} (hq : q ≠ 103) : zscM M q n q j = if j < n then (zsc (M 102) n).1 j else M q j := by
  split
  · next h => exact zrows_q hq h
  · next h => exact zscM_g hq (by omega)
/-! Trails. -/
theorem zB4_cl {n : Int} {M : zM} {a : Nat} {c : Int} (hn : 0 ≤ n) (h : zB4 n M a) (hg : zGr M a) (hc : c = -1 ∨ zfree M a c) : zB4 n (zclM M a c) a := by
  obtain ⟨e0, e1, e2⟩ := zclM_8 (M := M) (a := a) (c := c)
  have hc2 : -1 ≤ c ∧ c ≤ 35 := by
    rcases hc with rfl | hc
    · decide
    · have := zfree_b hg hc
      omega
  have hE : zE2 (zclM M a c) M a := ⟨zclM_o (by omega), zclM_o (by omega)⟩
  refine ⟨zTr_cl h.1 hc2, by rw [e1, e2]; exact ⟨hn, hn⟩, fun i hi => ?_, ?_⟩
  · exfalso
    have e : ztot (zclM M a c) a = 0 := by unfold ztot; rw [e1, e2]; rfl
    rw [e] at hi
    unfold zmi at hi
    rw [if_pos (by decide)] at hi
    omega
  · rw [e0]
    exact hc.imp id (fun e => (hE.ef.2 _).mpr e)
theorem zam_9 {M : zM} {a : Nat} {e : Int} {j : Nat} : zamM M a e (a + 9) j = if ztot M a < 8 ∧ j = (ztot M a).toNat then e else M (a + 9) j := by
  unfold zamM
  split
  · next h =>
    rw [zin1_o (by omega)]
    unfold zamX zcp
    rw [if_neg (by omega)]
    unfold zup
    by_cases h2 : j = (ztot M a).toNat
    · rw [if_pos ⟨rfl, h2⟩, if_pos ⟨h, h2⟩]
    · rw [if_neg (fun e => h2 e.2), if_neg (fun e => h2 e.2)]
  · next h => rw [zin1_o (by omega), if_neg (fun e => h e.1)]
theorem zam_10 {M : zM} {a : Nat} {e : Int} {j : Nat} : zamM M a e (a + 10) j = if ztot M a < 8 ∧ (ztot M a * 36).toNat ≤ j ∧ j < (ztot M a * 36).toNat + 4 then M (a + 6) (j - (ztot M a * 36).toNat) else M (a + 10) j := by
  unfold zamM
  split
  · next h =>
    rw [zin1_o (by omega)]
    unfold zamX zcp
    by_cases h2 : (ztot M a * 36).toNat ≤ j ∧ j < (ztot M a * 36).toNat + 4
    · rw [if_pos ⟨rfl, h2⟩, if_pos ⟨h, h2⟩, zup_or (by omega), show (0 : Int).toNat = 0 from rfl, Nat.zero_add]
    · rw [if_neg (fun e => h2 e.2), if_neg (fun e => h2 e.2), zup_or (by omega)]
  · next h => rw [zin1_o (by omega), if_neg (fun e => h e.1)]
theorem zam_8 {M : zM} {a : Nat} {e : Int} {j : Nat} : zamM M a e (a + 8) j = if j = 1 then M (a + 8) 1 + 1 else M (a + 8) j := by
  have hX : zamX M a e (a + 8) = M (a + 8) := by
    unfold zamX
    funext j
    show (if _ then _ else _) = _
    rw [if_neg (by omega), zup_or (by omega)]
  unfold zamM zin1
  split
  · rw [hX]
    unfold zup
    by_cases h : j = 1
    · rw [if_pos ⟨rfl, h⟩, if_pos h]
    · rw [if_neg (fun e => h e.2), if_neg h, hX]
  · unfold zup
    by_cases h : j = 1
    · rw [if_pos ⟨rfl, h⟩, if_pos h]
    · rw [if_neg (fun e => h e.2), if_neg h]
theorem zB4_am {n : Int} {M : zM} {a : Nat} {e : Int} (hn : n + 1 ≤ 1000000) (he : 0 ≤ e ∧ e < 4) (h3 : zB3 M a) (h : zB4 n M a) : zB4 (n + 1) (zamM M a e) a := by
  obtain ⟨⟨r1, r2, r3, r4, r5⟩, ⟨n1, n2⟩, h5, h6⟩ := h
  have e0 : zamM M a e (a + 8) 0 = M (a + 8) 0 := zam_8
  have e1 : zamM M a e (a + 8) 1 = M (a + 8) 1 + 1 := zam_8
  have e2 : zamM M a e (a + 8) 2 = M (a + 8) 2 := zam_8
  have et : ztot (zamM M a e) a = ztot M a + 1 := by unfold ztot; rw [e1, e2]; omega
  have ht0 : 0 ≤ ztot M a := by unfold ztot; omega
  have hE : zE2 (zamM M a e) M a := ⟨zamM_o (by omega) (by omega) (by omega), zamM_o (by omega) (by omega) (by omega)⟩
  refine ⟨⟨by rw [e0]; exact r1, by rw [e1]; omega, by rw [e2]; exact r3, fun j hj => ?_, fun j hj => ?_⟩, by rw [e1, e2]; omega, fun i hi => ?_, ?_⟩
  · rw [zam_9]
    split
    · omega
    · exact r4 j hj
  · rw [zam_10]
    split
    · have := h3.1.1 (j - (ztot M a * 36).toNat) (by omega)
      omega
    · exact r5 j hj
  · rw [et] at hi
    have hi8 : (i : Int) < 8 ∧ (i : Int) < ztot M a + 1 := by unfold zmi at hi; split at hi <;> omega
    rw [zam_9]
    by_cases hc : (i : Int) = ztot M a
    · rw [if_pos ⟨by omega, by omega⟩]
      refine Or.inl ⟨by omega, fun y hy => ?_⟩
      rw [zam_10, if_pos ⟨by omega, by omega, by omega⟩]
      exact (h3.1.1 _ (by omega)).2
    · rw [if_neg (by omega)]
      rcases h5 i (by unfold zmi; split <;> omega) with h | h
      · exact Or.inl ⟨h.1, fun y hy => by rw [zam_10, if_neg (by omega)]; exact h.2 y hy⟩
      · exact Or.inr h
  · rw [e0]
    exact h6.imp id (fun e => (hE.ef.2 _).mpr e)
theorem zasM_o {M : zM} {a q : Nat} {k : Int} (h1 : q ≠ a + 8) (h2 : q ≠ a + 9) (h3 : q ≠ a + 10) : zasM M a k q = M q := by
  unfold zasM
  split
  · rw [zin1_o h1]
    unfold zasX
    rw [ztao_or h3, zup_or h2]
  · exact zin1_o h1
theorem zas_9 {M : zM} {a : Nat} {k : Int} {j : Nat} : zasM M a k (a + 9) j = if ztot M a < 8 ∧ j = (ztot M a).toNat then 10 + k else M (a + 9) j := by
  unfold zasM
  split
  · next h =>
    rw [zin1_o (by omega)]
    unfold zasX
    rw [ztao_or (by omega)]
    unfold zup
    by_cases h2 : j = (ztot M a).toNat
    · rw [if_pos ⟨rfl, h2⟩, if_pos ⟨h, h2⟩]
    · rw [if_neg (fun e => h2 e.2), if_neg (fun e => h2 e.2)]
  · next h => rw [zin1_o (by omega), if_neg (fun e => h e.1)]
theorem zas_10 {M : zM} {a : Nat} {k : Int} {j : Nat} : zasM M a k (a + 10) j = if ztot M a < 8 ∧ (ztot M a * 36).toNat ≤ j ∧ j < (ztot M a * 36).toNat + (zsz M a).toNat then zasF M a k (j - (ztot M a * 36).toNat) else M (a + 10) j := by
  unfold zasM
  split
  · next h =>
    rw [zin1_o (by omega)]
    unfold zasX ztao
    by_cases h2 : (ztot M a * 36).toNat ≤ j ∧ j < (ztot M a * 36).toNat + (zsz M a).toNat
    · rw [if_pos ⟨rfl, h2⟩, if_pos ⟨h, h2⟩]
    · rw [if_neg (fun e => h2 e.2), if_neg (fun e => h2 e.2), zup_or (by omega)]
  · next h => rw [zin1_o (by omega), if_neg (fun e => h e.1)]
theorem zas_8 {M : zM} {a : Nat} {k : Int} {j : Nat} : zasM M a k (a + 8) j = if j = 2 then M (a + 8) 2 + 1 else M (a + 8) j := by
  have hX : zasX M a k (zsz M a).toNat (a + 8) = M (a + 8) := by
    unfold zasX
    rw [ztao_or (by omega), zup_or (by omega)]
  unfold zasM zin1
  split
  · rw [hX]
    unfold zup
    by_cases h : j = 2
    · rw [if_pos ⟨rfl, h⟩, if_pos h]
    · rw [if_neg (fun e => h e.2), if_neg h, hX]
  · unfold zup
    by_cases h : j = 2
    · rw [if_pos ⟨rfl, h⟩, if_pos h]
    · rw [if_neg (fun e => h e.2), if_neg h]
theorem zB4_as {n : Int} {M : zM} {a : Nat} {k : Int} (hn : n + 1 ≤ 1000000) (hk : 0 ≤ k ∧ k < 4) (hg : zGr M a) (h3 : zB3 M a) (h : zB4 n M a) : zB4 (n + 1) (zasM M a k) a := by
  obtain ⟨⟨r1, r2, r3, r4, r5⟩, ⟨n1, n2⟩, h5, h6⟩ := h
  obtain ⟨g6, g7⟩ := hg.sz
  have hz : zsz M a = M (a + 1) 0 * M (a + 1) 1 := rfl
  have e0 : zasM M a k (a + 8) 0 = M (a + 8) 0 := zas_8
  have e1 : zasM M a k (a + 8) 1 = M (a + 8) 1 := zas_8
  have e2 : zasM M a k (a + 8) 2 = M (a + 8) 2 + 1 := zas_8
  have et : ztot (zasM M a k) a = ztot M a + 1 := by unfold ztot; rw [e1, e2]; omega
  have ht0 : 0 ≤ ztot M a := by unfold ztot; omega
  have hE : zE2 (zasM M a k) M a := ⟨zasM_o (by omega) (by omega) (by omega), zasM_o (by omega) (by omega) (by omega)⟩
  refine ⟨⟨by rw [e0]; exact r1, by rw [e1]; exact r2, by rw [e2]; omega, fun j hj => ?_, fun j hj => ?_⟩, by rw [e1, e2]; omega, fun i hi => ?_, ?_⟩
  · rw [zas_9]
    split
    · omega
    · exact r4 j hj
  · rw [zas_10]
    split
    · have hm := zmark_b (c := ((j - (ztot M a * 36).toNat : Nat) : Int)) hg
      exact h3.1.2.1 _ (by omega)
    · exact r5 j hj
  · rw [et] at hi
    have hi8 : (i : Int) < 8 ∧ (i : Int) < ztot M a + 1 := by unfold zmi at hi; split at hi <;> omega
    rw [zas_9]
    by_cases hc : (i : Int) = ztot M a
    · rw [if_pos ⟨by omega, by omega⟩]
      exact Or.inr (by omega)
    · rw [if_neg (by omega)]
      rcases h5 i (by unfold zmi; split <;> omega) with h | h
      · exact Or.inl ⟨h.1, fun y hy => by rw [zas_10, if_neg (by omega)]; exact h.2 y hy⟩
      · exact Or.inr h
  · rw [e0]
    exact h6.imp id (fun e => (hE.ef.2 _).mpr e)
