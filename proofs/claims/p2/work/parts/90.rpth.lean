/-! The reference: the path. -/
theorem raM_g {C M : zM} {n : Int} (hB : zBI n C zn1) {t : Nat} (ht : t < (zsz C zn1).toNat) : ∀ j k : Nat, (j : Int) ≤ ztot C zn1 → k ≤ j → raM C M j 132 ((36 * (ztot C zn1 - (k : Int))).toNat + t) = rahF C k t
  | 0, k, hj, hk => by
    rw [show k = 0 by omega]
    exact raM_i ht 0 hj
  | j + 1, k, hj, hk => by
    by_cases h : k = j + 1
    · subst h
      exact raM_i ht (j + 1) hj
    · obtain ⟨g6, g7⟩ := hB.g.sz
      have hz : zsz C zn1 = C (zn1 + 1) 0 * C (zn1 + 1) 1 := rfl
      unfold raM
      rw [ztao_g (by omega)]
      exact raM_g hB ht j k (by omega) (by omega)
theorem zgr_at {F : zF} : ∀ n, zgr F n = 0 ∨ ∃ t, t < n ∧ F t = zgr F n ∧ 0 < F t
  | 0 => Or.inl rfl
  | n + 1 => by
    show zmx (zgr F n) (F n) = 0 ∨ ∃ t, t < n + 1 ∧ F t = zmx (zgr F n) (F n) ∧ 0 < F t
    have hn : ∀ k, 0 ≤ zgr F k := by
      intro k
      induction k with
      | zero => exact Int.le_refl _
      | succ k ih => show 0 ≤ zmx (zgr F k) (F k); unfold zmx; split <;> omega
    have h0 := hn n
    unfold zmx
    split
    · exact Or.inr ⟨n, by omega, rfl, by omega⟩
    · rcases zgr_at (F := F) n with h | ⟨t, h1, h2, h3⟩
      · exact Or.inl h
      · exact Or.inr ⟨t, by omega, h2, h3⟩
theorem zgr_ge {F : zF} : ∀ n t, t < n → F t ≤ zgr F n
  | 0, t, h => absurd h (Nat.not_lt_zero t)
  | n + 1, t, h => by
    show F t ≤ zmx (zgr F n) (F n)
    by_cases e : t = n
    · subst e
      unfold zmx
      split <;> omega
    · have := zgr_ge (F := F) n t (by omega)
      unfold zmx
      split <;> omega
/-- a next cell that keeps the greatest weight -/
def rnx (C : zM) (j : Nat) (f : Int) (t : Nat) : Prop := zfreeN C zn1 t ∧ zfac C zn1 (ztot C zn1 - 1 - (j : Int)) f (t : Int) * rahF C j t = rahF C (j + 1) f.toNat
theorem rnx_e {C : zM} {n f : Int} {j : Nat} (hB : zBI n C zn1) (h8 : ztot C zn1 ≤ 8) (hj : (j : Int) < ztot C zn1) (hf : zfree C zn1 f) : ∃ t, 0 ≤ t ∧ t < 0 + (zsz C zn1).toNat ∧ rnx C j f t := by
  obtain ⟨g6, g7⟩ := hB.g.sz
  have hz : zsz C zn1 = C (zn1 + 1) 0 * C (zn1 + 1) 1 := rfl
  have hm8 : zmi (ztot C zn1) 8 = ztot C zn1 := if_pos h8
  have hf0 := hf.1
  have hf1 : f < zsz C zn1 := hf.2.1
  have hp := zp100_p j
  have e : rahF C (j + 1) f.toNat = zgr (rahG C (ztot C zn1 - 1 - (j : Int)) f (rahF C j)) (zsz C zn1).toNat := by
    conv => lhs; unfold rahF
    rw [if_pos ((zfreeN_i hf0).mpr hf), Int.toNat_of_nonneg hf0]
  have hG := rahG_b (R := rahF C j) (f := f) (i := ztot C zn1 - 1 - (j : Int)) hB (by omega) (by omega) (rahF_b hB h8 j (by omega)) (by omega : 0 ≤ zp100 j)
  rcases zgr_at (F := rahG C (ztot C zn1 - 1 - (j : Int)) f (rahF C j)) (zsz C zn1).toNat with h | ⟨t, h1, h2, h3⟩
  · refine ⟨f.toNat, Nat.zero_le _, by omega, (zfreeN_i hf0).mpr hf, ?_⟩
    have h4 := zgr_ge (F := rahG C (ztot C zn1 - 1 - (j : Int)) f (rahF C j)) (zsz C zn1).toNat f.toNat (by omega)
    have h5 := hG f.toNat (by omega)
    have h6 : rahG C (ztot C zn1 - 1 - (j : Int)) f (rahF C j) f.toNat = 0 := by omega
    rw [e, h, ← h6]
    unfold rahG
    rw [if_pos ((zfreeN_i hf0).mpr hf)]
  · have h7 : zfreeN C zn1 t := by
      by_cases h8 : zfreeN C zn1 t
      · exact h8
      · unfold rahG at h3
        rw [if_neg h8] at h3
        omega
    refine ⟨t, Nat.zero_le _, by omega, h7, ?_⟩
    rw [e, ← h2]
    unfold rahG
    rw [if_pos h7]
noncomputable def rpbF (C : zM) (R : zF) : Nat → Int
  | 0 => zlow C zn1
  | i + 1 => @ite _ (zfreeN C zn1 i ∧ R (rpbF C R i).toNat < R i) (Classical.propDecidable _) (i : Int) (rpbF C R i)
theorem rpbF_f {C : zM} {n : Int} {R : zF} (hB : zBI n C zn1) : ∀ i, zfree C zn1 (rpbF C R i)
  | 0 => (zlow_f hB.b1.2.2.2).1
  | i + 1 => by
    unfold rpbF
    split
    · next h => exact h.1
    · exact rpbF_f hB i
noncomputable def rpb (C : zM) : Int := if C (zn1 + 8) 0 < 0 then rpbF C (rahF C (ztot C zn1).toNat) (zsz C zn1).toNat else C (zn1 + 8) 0
theorem rpb_f {C : zM} {n : Int} (hB : zBI n C zn1) : zfree C zn1 (rpb C) := by
  unfold rpb
  split
  · exact rpbF_f hB _
  · rcases hB.b4.2.2.2 with h | h
    · omega
    · exact h
noncomputable def rpz (C : zM) : Nat → Int
  | 0 => rpb C
  | k + 1 => zfirst (rnx C ((ztot C zn1).toNat - 1 - k) (rpz C k)) 0 0 (zsz C zn1).toNat
theorem rpz_f {C : zM} {n : Int} (hB : zBI n C zn1) (h8 : ztot C zn1 ≤ 8) : ∀ k : Nat, (k : Int) ≤ ztot C zn1 → zfree C zn1 (rpz C k)
  | 0, _ => rpb_f hB
  | k + 1, hk => by
    have ih := rpz_f hB h8 k (by omega)
    have h := zfirst_ok (e := 0) (zsz C zn1).toNat 0 (rnx_e (j := (ztot C zn1).toNat - 1 - k) hB h8 (by omega) ih)
    unfold rpz
    exact (zfreeN_i (by omega)).mp h.1.1
noncomputable def rpM (C M : zM) (k : Nat) : zM := ztab M 133 k (rpz C)
theorem zl_findPathR_103 {xs : List Int32} {d : Nat} {w : Bool} {M : zM} {C : zM} {n : Int} (hB : zBI n C zn1) {M0 : zM} (hA : rA C M0) (hR : rL C M0) (h8 : ztot C zn1 ≤ 8) {m9 i : Int} {NK : Nat} (hi : 0 ≤ i ∧ i < ztot C zn1) (hM : M = rpM C (raM C M0 (ztot C zn1).toNat) (i.toNat + 1)) (hk : ∀ M2 : zM, M2 = rpM C (raM C M0 (ztot C zn1).toNat) (i.toNat + 2) → zG (xstep (xrun2 xs (d + 6)) xs 193) 193 NK 95 [(0, .ref 115), (1, .int (Int32.ofInt m9)), (3, .int (Int32.ofInt (i + 1)))] [] 0 0 w M2 (fun o σ => o = (.inl none : XO) ∧ σ = (w, zheap (rpM C (raM C M0 (ztot C zn1).toNat) ((ztot C zn1).toNat + 1))))) : ∀ (zn : Nat) (t : Int), (0 ≤ t ∧ t ≤ rpz C (i.toNat + 1)) → rpz C (i.toNat + 1) - t + 1 ≤ (zn : Int) → zG (xstep (xrun2 xs (d + 6)) xs 193) 193 (zn * 45 + (NK + 45)) 103 [(0, .ref 115), (1, .int (Int32.ofInt m9)), (3, .int (Int32.ofInt i)), (4, .int (Int32.ofInt t))] [] 0 0 w M (fun o σ => o = (.inl none : XO) ∧ σ = (w, zheap (rpM C (raM C M0 (ztot C zn1).toNat) ((ztot C zn1).toNat + 1)))) := by
  intro zn
  induction zn with
  | zero =>
    intro t ht hm
    have hX : ∀ q : Nat, ¬ q = 132 → ¬ q = 133 → M q = M0 q := fun q h h2 => by rw [hM]; unfold rpM; rw [ztab_or h2, raM_o h]
    have hM2 : M 132 = (raM C M0 (ztot C zn1).toNat) 132 := by rw [hM]; exact ztab_or (by decide)
    obtain ⟨⟨g1, g2⟩, ⟨g3, g4⟩, g5⟩ := id hB.g
    obtain ⟨g6, g7⟩ := hB.g.sz
    have hz : zsz C zn1 = C (zn1 + 1) 0 * C (zn1 + 1) 1 := rfl
    have hm8 : zmi (ztot C zn1) 8 = ztot C zn1 := if_pos h8
    have ht0 := hB.t0
    have hA2 : rA C M := rA_c (by rw [hX _ (by decide) (by decide)]) (by rw [hX _ (by decide) (by decide)]) (hX _ (by decide) (by decide)) hA
    have hR2 : rL C M := rL_c (by rw [hX _ (by decide) (by decide)]) (by rw [hX _ (by decide) (by decide)]) (by rw [hX _ (by decide) (by decide)]) (hX _ (by decide) (by decide)) (hX _ (by decide) (by decide)) (hX _ (by decide) (by decide)) hR
    have hrow : ∀ k t : Int, 0 ≤ k → k ≤ ztot C zn1 → 0 ≤ t → t < zsz C zn1 → M 132 (36 * k + t).toNat = rahF C (ztot C zn1 - k).toNat t.toNat := fun k t h1 h2 h3 h4 => by
      rw [hM2, show (36 * k + t).toNat = (36 * (ztot C zn1 - ((ztot C zn1 - k).toNat : Int))).toNat + t.toNat by omega]
      exact raM_g hB (by omega) _ _ (by omega) (by omega)
    have hbd : ∀ k t : Int, 0 ≤ k → k ≤ ztot C zn1 → 0 ≤ t → t < zsz C zn1 → 0 ≤ M 132 (36 * k + t).toNat ∧ M 132 (36 * k + t).toNat ≤ 10000000000000000 := fun k t h1 h2 h3 h4 => by
      have h5 := rahF_b hB h8 (ztot C zn1 - k).toNat (by omega) t.toNat (by omega)
      have h6 := zp100_8 (n := (ztot C zn1 - k).toNat) (by omega)
      rw [hrow k t h1 h2 h3 h4]
      omega
    have hpf := rpz_f hB h8 i.toNat (by omega)
    have hpf0 := hpf.1
    have hpf1 : rpz C i.toNat < zsz C zn1 := hpf.2.1
    have hp3 : M 133 i.toNat = rpz C i.toNat := by rw [hM]; exact ztab_i (by omega)
    obtain ⟨k1, k2, k3, k4⟩ := zfirst_ok (e := 0) (zsz C zn1).toNat 0 (rnx_e (j := (ztot C zn1).toNat - 1 - i.toNat) hB h8 (by omega) hpf)
    have hT : rpz C (i.toNat + 1) = zfirst (rnx C ((ztot C zn1).toNat - 1 - i.toNat) (rpz C i.toNat)) 0 0 (zsz C zn1).toNat := rfl
    rw [← hT] at k1 k2 k3 k4
    have hje : ztot C zn1 - 1 - (((ztot C zn1).toNat - 1 - i.toNat : Nat) : Int) = i := by omega
    have hrn : zfree C zn1 t → t < zsz C zn1 → (rnx C ((ztot C zn1).toNat - 1 - i.toNat) (rpz C i.toNat) t.toNat ↔ zfac C zn1 i (M 133 i.toNat) t * M 132 (36 * (i + 1) + t).toNat = M 132 (36 * i + M 133 i.toNat).toNat) := fun h1 h2 => by
      have h3 : zfreeN C zn1 t.toNat := (zfreeN_i ht.1).mpr h1
      rw [hp3, hrow (i + 1) t (by omega) (by omega) ht.1 h2, hrow i _ (by omega) (by omega) hpf0 hpf1]
      unfold rnx
      rw [hje, Int.toNat_of_nonneg ht.1, show (ztot C zn1 - (i + 1)).toNat = (ztot C zn1).toNat - 1 - i.toNat by omega, show (ztot C zn1 - i).toNat = (ztot C zn1).toNat - 1 - i.toNat + 1 by omega]
      exact ⟨fun h => h.2, fun h => ⟨h3, h⟩⟩
    have hup : t = rpz C (i.toNat + 1) → zfree C zn1 t ∧ t < zsz C zn1 := fun h => by
      have h5 := k1.1
      rw [← h] at h5 k3
      exact ⟨(zfreeN_i ht.1).mp h5, by omega⟩
    have hlt : t < zsz C zn1 := by omega
    have hb1 := hbd (i + 1) t (by omega) (by omega) ht.1 hlt
    have hb0 := hbd i (M 133 i.toNat) (by omega) (by omega) (by omega) (by omega)
    have hfb := zfac_b hB (t := t) (f := M 133 i.toNat) (i := i) (by omega) (by omega)
    have hpr := zmul_b hfb hb1
    have hpf3 : zfree C zn1 (M 133 i.toNat) := by rw [hp3]; exact hpf
    have hnx : t < rpz C (i.toNat + 1) ∨ t = rpz C (i.toNat + 1) := by omega
    have hnn : t < rpz C (i.toNat + 1) → ¬ rnx C ((ztot C zn1).toNat - 1 - i.toNat) (rpz C i.toNat) t.toNat := fun h => k4 t.toNat (Nat.zero_le _) (by omega)
    have hyy : t = rpz C (i.toNat + 1) → rnx C ((ztot C zn1).toNat - 1 - i.toNat) (rpz C i.toNat) t.toNat := fun h => by rw [h]; exact k1
    exact zG_mono (N := NK + 45) (by omega) (zz_aload_n (pc := 103) (show xcode 193 103 = some (.aload_n 0, 1, 0, 0) from by decide +kernel) (zmem 0 rfl) (zz_iload (pc := 104) (show xcode 193 104 = some (.iload 4, 2, 0, 0) from by decide +kernel) (zmem 3 rfl) (zz_call_v (pc := 106) (cu := 0) (su := 0) (fun ls hr => zz_calV (show xcode 193 106 = some (.invokevirtual 100, 3, 136, 0) from by decide +kernel) rfl zis_115 ls hr) rfl (sp_isFreeR (d := d + 5) hB (by omega) hA2) (zz_ifbeq (pc := 109) (show xcode 193 109 = some (.ifCond .eq 51, 3, 160, 0) from by decide +kernel) (fun (zc1 : ¬ (zfree C zn1 t)) => zz_iinc (pc := 160) (show xcode 193 160 = some (.iinc 4 1, 3, 0, 0) from by decide +kernel) (zmem 3 rfl) (by decide +kernel) (zG_ro (ρ' := [(4, .int (Int32.ofInt (t + 1))), (0, .ref 115), (1, .int (Int32.ofInt m9)), (3, .int (Int32.ofInt i))]) rfl (zz_goto (pc := 163) (show xcode 193 163 = some (.goto (-60), 3, 103, 0) from by decide +kernel) ((by exfalso; omega))))) (fun zc20 => have zc2 : zfree C zn1 t := Classical.not_not.mp zc20; zz_aload_n (pc := 112) (show xcode 193 112 = some (.aload_n 0, 1, 0, 0) from by decide +kernel) (zmem 0 rfl) (zz_iload_n (pc := 113) (show xcode 193 113 = some (.iload_n 3, 1, 0, 0) from by decide +kernel) (zmem 2 rfl) (zz_aload_n (pc := 114) (show xcode 193 114 = some (.aload_n 0, 1, 0, 0) from by decide +kernel) (zmem 0 rfl) (zz_getR (pc := 115) (show xcode 193 115 = some (.getfield 78, 3, 11, 35) from by decide +kernel) zis_115 (by decide +kernel) rfl (zz_iload_n (pc := 118) (show xcode 193 118 = some (.iload_n 3, 1, 0, 0) from by decide +kernel) (zmem 2 rfl) (zz_iald (pc := 119) (show xcode 193 119 = some (.iaload, 1, 0, 0) from by decide +kernel) zis_133 (by omega) (zz_iload (pc := 120) (show xcode 193 120 = some (.iload 4, 2, 0, 0) from by decide +kernel) (zmem 3 rfl) (zz_call_v (pc := 122) (cu := 0) (su := 0) (fun ls hr => zz_calV (show xcode 193 122 = some (.invokevirtual 262, 3, 188, 0) from by decide +kernel) rfl zis_115 ls hr) rfl (sp_factorR (d := d + 1) hB (by omega) hpf3 (by omega) hA2 hR2) (zz_aload_n (pc := 125) (show xcode 193 125 = some (.aload_n 0, 1, 0, 0) from by decide +kernel) (zmem 0 rfl) (zz_getR (pc := 126) (show xcode 193 126 = some (.getfield 75, 3, 11, 34) from by decide +kernel) zis_115 (by decide +kernel) rfl (zz_bipush (pc := 129) (x := 36) (show xcode 193 129 = some (.bipush 36, 2, 0, 0) from by decide +kernel) (by decide +kernel) (zz_iload_n (pc := 131) (show xcode 193 131 = some (.iload_n 3, 1, 0, 0) from by decide +kernel) (zmem 2 rfl) (zz_iconst (pc := 132) (show xcode 193 132 = some (.iconst 1, 1, 0, 0) from by decide +kernel) (zz_iadd (pc := 133) (show xcode 193 133 = some (.iadd, 1, 0, 0) from by decide +kernel) (zz_imul (pc := 134) (show xcode 193 134 = some (.imul, 1, 0, 0) from by decide +kernel) (zz_iload (pc := 135) (show xcode 193 135 = some (.iload 4, 2, 0, 0) from by decide +kernel) (zmem 3 rfl) (zz_iadd (pc := 137) (show xcode 193 137 = some (.iadd, 1, 0, 0) from by decide +kernel) (zz_lald (pc := 138) (show xcode 193 138 = some (.laload, 1, 0, 0) from by decide +kernel) zis_132 (by omega) (zz_lmul (pc := 139) (show xcode 193 139 = some (.lmul, 1, 0, 0) from by decide +kernel) (zz_aload_n (pc := 140) (show xcode 193 140 = some (.aload_n 0, 1, 0, 0) from by decide +kernel) (zmem 0 rfl) (zz_getR (pc := 141) (show xcode 193 141 = some (.getfield 75, 3, 11, 34) from by decide +kernel) zis_115 (by decide +kernel) rfl (zz_bipush (pc := 144) (x := 36) (show xcode 193 144 = some (.bipush 36, 2, 0, 0) from by decide +kernel) (by decide +kernel) (zz_iload_n (pc := 146) (show xcode 193 146 = some (.iload_n 3, 1, 0, 0) from by decide +kernel) (zmem 2 rfl) (zz_imul (pc := 147) (show xcode 193 147 = some (.imul, 1, 0, 0) from by decide +kernel) (zz_aload_n (pc := 148) (show xcode 193 148 = some (.aload_n 0, 1, 0, 0) from by decide +kernel) (zmem 0 rfl) (zz_getR (pc := 149) (show xcode 193 149 = some (.getfield 78, 3, 11, 35) from by decide +kernel) zis_115 (by decide +kernel) rfl (zz_iload_n (pc := 152) (show xcode 193 152 = some (.iload_n 3, 1, 0, 0) from by decide +kernel) (zmem 2 rfl) (zz_iald (pc := 153) (show xcode 193 153 = some (.iaload, 1, 0, 0) from by decide +kernel) zis_133 (by omega) (zz_iadd (pc := 154) (show xcode 193 154 = some (.iadd, 1, 0, 0) from by decide +kernel) (zz_lald (pc := 155) (show xcode 193 155 = some (.laload, 1, 0, 0) from by decide +kernel) zis_132 (by omega) (zz_lcmp (pc := 156) (show xcode 193 156 = some (.lcmp, 1, 0, 0) from by decide +kernel) (show xcode 193 157 = some (.ifCond .eq 9, 3, 166, 0) from by decide +kernel) (by unfold zr64; omega) (by unfold zr64; omega) (fun (zc3 : ((zfac C zn1 i (M 133 i.toNat) t) * (M 132 (((36) * (i + (1))) + t).toNat)) = (M 132 (((36) * i) + (M 133 i.toNat)).toNat)) => zz_aload_n (pc := 166) (show xcode 193 166 = some (.aload_n 0, 1, 0, 0) from by decide +kernel) (zmem 0 rfl) (zz_getR (pc := 167) (show xcode 193 167 = some (.getfield 78, 3, 11, 35) from by decide +kernel) zis_115 (by decide +kernel) rfl (zz_iload_n (pc := 170) (show xcode 193 170 = some (.iload_n 3, 1, 0, 0) from by decide +kernel) (zmem 2 rfl) (zz_iconst (pc := 171) (show xcode 193 171 = some (.iconst 1, 1, 0, 0) from by decide +kernel) (zz_iadd (pc := 172) (show xcode 193 172 = some (.iadd, 1, 0, 0) from by decide +kernel) (zz_iload (pc := 173) (show xcode 193 173 = some (.iload 4, 2, 0, 0) from by decide +kernel) (zmem 3 rfl) (zz_iast (pc := 175) (show xcode 193 175 = some (.iastore, 1, 0, 0) from by decide +kernel) zis_133 (by omega) (zm_as (fun zM5 (ezM5 : zM5 = zup M 133 (i + (1)).toNat t) => zz_iinc (pc := 176) (show xcode 193 176 = some (.iinc 3 1, 3, 0, 0) from by decide +kernel) (zmem 2 rfl) (by decide +kernel) (zG_ro (ρ' := [(3, .int (Int32.ofInt (i + 1))), (0, .ref 115), (1, .int (Int32.ofInt m9)), (4, .int (Int32.ofInt t))]) rfl (zz_goto (pc := 179) (show xcode 193 179 = some (.goto (-84), 3, 95, 0) from by decide +kernel) (zG_mono (N := NK) (by omega) (zG_sub (List.forall_mem_cons.mpr ⟨zmem 1 rfl, (List.forall_mem_cons.mpr ⟨zmem 2 rfl, (List.forall_mem_cons.mpr ⟨zmem 0 rfl, (fun p hp => absurd hp List.not_mem_nil)⟩)⟩)⟩) (hk _ (by have h9 : t = rpz C (i.toNat + 1) := (by rcases hnx with h | h; exact absurd ((hrn (by assumption) hlt).mpr (by assumption)) (hnn h); exact h); rw [ezM5, hM, h9]; unfold rpM; rw [show (i + 1).toNat = i.toNat + 1 by omega]; exact ztab_s rfl))))))))))))))) (fun (zc4 : ¬ (((zfac C zn1 i (M 133 i.toNat) t) * (M 132 (((36) * (i + (1))) + t).toNat)) = (M 132 (((36) * i) + (M 133 i.toNat)).toNat))) => zz_iinc (pc := 160) (show xcode 193 160 = some (.iinc 4 1, 3, 0, 0) from by decide +kernel) (zmem 3 rfl) (by decide +kernel) (zG_ro (ρ' := [(4, .int (Int32.ofInt (t + 1))), (0, .ref 115), (1, .int (Int32.ofInt m9)), (3, .int (Int32.ofInt i))]) rfl (zz_goto (pc := 163) (show xcode 193 163 = some (.goto (-60), 3, 103, 0) from by decide +kernel) ((by exfalso; omega))))))))))))))))))))))))))))))))))))))))
  | succ zn ih =>
    intro t ht hm
    have hX : ∀ q : Nat, ¬ q = 132 → ¬ q = 133 → M q = M0 q := fun q h h2 => by rw [hM]; unfold rpM; rw [ztab_or h2, raM_o h]
    have hM2 : M 132 = (raM C M0 (ztot C zn1).toNat) 132 := by rw [hM]; exact ztab_or (by decide)
    obtain ⟨⟨g1, g2⟩, ⟨g3, g4⟩, g5⟩ := id hB.g
    obtain ⟨g6, g7⟩ := hB.g.sz
    have hz : zsz C zn1 = C (zn1 + 1) 0 * C (zn1 + 1) 1 := rfl
    have hm8 : zmi (ztot C zn1) 8 = ztot C zn1 := if_pos h8
    have ht0 := hB.t0
    have hA2 : rA C M := rA_c (by rw [hX _ (by decide) (by decide)]) (by rw [hX _ (by decide) (by decide)]) (hX _ (by decide) (by decide)) hA
    have hR2 : rL C M := rL_c (by rw [hX _ (by decide) (by decide)]) (by rw [hX _ (by decide) (by decide)]) (by rw [hX _ (by decide) (by decide)]) (hX _ (by decide) (by decide)) (hX _ (by decide) (by decide)) (hX _ (by decide) (by decide)) hR
    have hrow : ∀ k t : Int, 0 ≤ k → k ≤ ztot C zn1 → 0 ≤ t → t < zsz C zn1 → M 132 (36 * k + t).toNat = rahF C (ztot C zn1 - k).toNat t.toNat := fun k t h1 h2 h3 h4 => by
      rw [hM2, show (36 * k + t).toNat = (36 * (ztot C zn1 - ((ztot C zn1 - k).toNat : Int))).toNat + t.toNat by omega]
      exact raM_g hB (by omega) _ _ (by omega) (by omega)
    have hbd : ∀ k t : Int, 0 ≤ k → k ≤ ztot C zn1 → 0 ≤ t → t < zsz C zn1 → 0 ≤ M 132 (36 * k + t).toNat ∧ M 132 (36 * k + t).toNat ≤ 10000000000000000 := fun k t h1 h2 h3 h4 => by
      have h5 := rahF_b hB h8 (ztot C zn1 - k).toNat (by omega) t.toNat (by omega)
      have h6 := zp100_8 (n := (ztot C zn1 - k).toNat) (by omega)
      rw [hrow k t h1 h2 h3 h4]
      omega
    have hpf := rpz_f hB h8 i.toNat (by omega)
    have hpf0 := hpf.1
    have hpf1 : rpz C i.toNat < zsz C zn1 := hpf.2.1
    have hp3 : M 133 i.toNat = rpz C i.toNat := by rw [hM]; exact ztab_i (by omega)
    obtain ⟨k1, k2, k3, k4⟩ := zfirst_ok (e := 0) (zsz C zn1).toNat 0 (rnx_e (j := (ztot C zn1).toNat - 1 - i.toNat) hB h8 (by omega) hpf)
    have hT : rpz C (i.toNat + 1) = zfirst (rnx C ((ztot C zn1).toNat - 1 - i.toNat) (rpz C i.toNat)) 0 0 (zsz C zn1).toNat := rfl
    rw [← hT] at k1 k2 k3 k4
    have hje : ztot C zn1 - 1 - (((ztot C zn1).toNat - 1 - i.toNat : Nat) : Int) = i := by omega
    have hrn : zfree C zn1 t → t < zsz C zn1 → (rnx C ((ztot C zn1).toNat - 1 - i.toNat) (rpz C i.toNat) t.toNat ↔ zfac C zn1 i (M 133 i.toNat) t * M 132 (36 * (i + 1) + t).toNat = M 132 (36 * i + M 133 i.toNat).toNat) := fun h1 h2 => by
      have h3 : zfreeN C zn1 t.toNat := (zfreeN_i ht.1).mpr h1
      rw [hp3, hrow (i + 1) t (by omega) (by omega) ht.1 h2, hrow i _ (by omega) (by omega) hpf0 hpf1]
      unfold rnx
      rw [hje, Int.toNat_of_nonneg ht.1, show (ztot C zn1 - (i + 1)).toNat = (ztot C zn1).toNat - 1 - i.toNat by omega, show (ztot C zn1 - i).toNat = (ztot C zn1).toNat - 1 - i.toNat + 1 by omega]
      exact ⟨fun h => h.2, fun h => ⟨h3, h⟩⟩
    have hup : t = rpz C (i.toNat + 1) → zfree C zn1 t ∧ t < zsz C zn1 := fun h => by
      have h5 := k1.1
      rw [← h] at h5 k3
      exact ⟨(zfreeN_i ht.1).mp h5, by omega⟩
    have hlt : t < zsz C zn1 := by omega
    have hb1 := hbd (i + 1) t (by omega) (by omega) ht.1 hlt
    have hb0 := hbd i (M 133 i.toNat) (by omega) (by omega) (by omega) (by omega)
    have hfb := zfac_b hB (t := t) (f := M 133 i.toNat) (i := i) (by omega) (by omega)
    have hpr := zmul_b hfb hb1
    have hpf3 : zfree C zn1 (M 133 i.toNat) := by rw [hp3]; exact hpf
    have hnx : t < rpz C (i.toNat + 1) ∨ t = rpz C (i.toNat + 1) := by omega
    have hnn : t < rpz C (i.toNat + 1) → ¬ rnx C ((ztot C zn1).toNat - 1 - i.toNat) (rpz C i.toNat) t.toNat := fun h => k4 t.toNat (Nat.zero_le _) (by omega)
    have hyy : t = rpz C (i.toNat + 1) → rnx C ((ztot C zn1).toNat - 1 - i.toNat) (rpz C i.toNat) t.toNat := fun h => by rw [h]; exact k1
    exact zG_mono (N := zn * 45 + (NK + 45) + 0 + 45) (by omega) (zz_aload_n (pc := 103) (show xcode 193 103 = some (.aload_n 0, 1, 0, 0) from by decide +kernel) (zmem 0 rfl) (zz_iload (pc := 104) (show xcode 193 104 = some (.iload 4, 2, 0, 0) from by decide +kernel) (zmem 3 rfl) (zz_call_v (pc := 106) (cu := 0) (su := 0) (fun ls hr => zz_calV (show xcode 193 106 = some (.invokevirtual 100, 3, 136, 0) from by decide +kernel) rfl zis_115 ls hr) rfl (sp_isFreeR (d := d + 5) hB (by omega) hA2) (zz_ifbeq (pc := 109) (show xcode 193 109 = some (.ifCond .eq 51, 3, 160, 0) from by decide +kernel) (fun (zc1 : ¬ (zfree C zn1 t)) => zz_iinc (pc := 160) (show xcode 193 160 = some (.iinc 4 1, 3, 0, 0) from by decide +kernel) (zmem 3 rfl) (by decide +kernel) (zG_ro (ρ' := [(4, .int (Int32.ofInt (t + 1))), (0, .ref 115), (1, .int (Int32.ofInt m9)), (3, .int (Int32.ofInt i))]) rfl (zz_goto (pc := 163) (show xcode 193 163 = some (.goto (-60), 3, 103, 0) from by decide +kernel) (zG_mono (N := zn * 45 + (NK + 45)) (by omega) (zG_sub (List.forall_mem_cons.mpr ⟨zmem 1 rfl, (List.forall_mem_cons.mpr ⟨zmem 2 rfl, (List.forall_mem_cons.mpr ⟨zmem 3 rfl, (List.forall_mem_cons.mpr ⟨zmem 0 rfl, (fun p hp => absurd hp List.not_mem_nil)⟩)⟩)⟩)⟩) (ih (t + 1)  (by have h9 : ¬ t = rpz C (i.toNat + 1) := (fun h => by first | exact absurd (hup h).1 (by assumption) | exact absurd ((hrn (hup h).1 hlt).mp (hyy h)) (by assumption)); omega) (by omega))))))) (fun zc20 => have zc2 : zfree C zn1 t := Classical.not_not.mp zc20; zz_aload_n (pc := 112) (show xcode 193 112 = some (.aload_n 0, 1, 0, 0) from by decide +kernel) (zmem 0 rfl) (zz_iload_n (pc := 113) (show xcode 193 113 = some (.iload_n 3, 1, 0, 0) from by decide +kernel) (zmem 2 rfl) (zz_aload_n (pc := 114) (show xcode 193 114 = some (.aload_n 0, 1, 0, 0) from by decide +kernel) (zmem 0 rfl) (zz_getR (pc := 115) (show xcode 193 115 = some (.getfield 78, 3, 11, 35) from by decide +kernel) zis_115 (by decide +kernel) rfl (zz_iload_n (pc := 118) (show xcode 193 118 = some (.iload_n 3, 1, 0, 0) from by decide +kernel) (zmem 2 rfl) (zz_iald (pc := 119) (show xcode 193 119 = some (.iaload, 1, 0, 0) from by decide +kernel) zis_133 (by omega) (zz_iload (pc := 120) (show xcode 193 120 = some (.iload 4, 2, 0, 0) from by decide +kernel) (zmem 3 rfl) (zz_call_v (pc := 122) (cu := 0) (su := 0) (fun ls hr => zz_calV (show xcode 193 122 = some (.invokevirtual 262, 3, 188, 0) from by decide +kernel) rfl zis_115 ls hr) rfl (sp_factorR (d := d + 1) hB (by omega) hpf3 (by omega) hA2 hR2) (zz_aload_n (pc := 125) (show xcode 193 125 = some (.aload_n 0, 1, 0, 0) from by decide +kernel) (zmem 0 rfl) (zz_getR (pc := 126) (show xcode 193 126 = some (.getfield 75, 3, 11, 34) from by decide +kernel) zis_115 (by decide +kernel) rfl (zz_bipush (pc := 129) (x := 36) (show xcode 193 129 = some (.bipush 36, 2, 0, 0) from by decide +kernel) (by decide +kernel) (zz_iload_n (pc := 131) (show xcode 193 131 = some (.iload_n 3, 1, 0, 0) from by decide +kernel) (zmem 2 rfl) (zz_iconst (pc := 132) (show xcode 193 132 = some (.iconst 1, 1, 0, 0) from by decide +kernel) (zz_iadd (pc := 133) (show xcode 193 133 = some (.iadd, 1, 0, 0) from by decide +kernel) (zz_imul (pc := 134) (show xcode 193 134 = some (.imul, 1, 0, 0) from by decide +kernel) (zz_iload (pc := 135) (show xcode 193 135 = some (.iload 4, 2, 0, 0) from by decide +kernel) (zmem 3 rfl) (zz_iadd (pc := 137) (show xcode 193 137 = some (.iadd, 1, 0, 0) from by decide +kernel) (zz_lald (pc := 138) (show xcode 193 138 = some (.laload, 1, 0, 0) from by decide +kernel) zis_132 (by omega) (zz_lmul (pc := 139) (show xcode 193 139 = some (.lmul, 1, 0, 0) from by decide +kernel) (zz_aload_n (pc := 140) (show xcode 193 140 = some (.aload_n 0, 1, 0, 0) from by decide +kernel) (zmem 0 rfl) (zz_getR (pc := 141) (show xcode 193 141 = some (.getfield 75, 3, 11, 34) from by decide +kernel) zis_115 (by decide +kernel) rfl (zz_bipush (pc := 144) (x := 36) (show xcode 193 144 = some (.bipush 36, 2, 0, 0) from by decide +kernel) (by decide +kernel) (zz_iload_n (pc := 146) (show xcode 193 146 = some (.iload_n 3, 1, 0, 0) from by decide +kernel) (zmem 2 rfl) (zz_imul (pc := 147) (show xcode 193 147 = some (.imul, 1, 0, 0) from by decide +kernel) (zz_aload_n (pc := 148) (show xcode 193 148 = some (.aload_n 0, 1, 0, 0) from by decide +kernel) (zmem 0 rfl) (zz_getR (pc := 149) (show xcode 193 149 = some (.getfield 78, 3, 11, 35) from by decide +kernel) zis_115 (by decide +kernel) rfl (zz_iload_n (pc := 152) (show xcode 193 152 = some (.iload_n 3, 1, 0, 0) from by decide +kernel) (zmem 2 rfl) (zz_iald (pc := 153) (show xcode 193 153 = some (.iaload, 1, 0, 0) from by decide +kernel) zis_133 (by omega) (zz_iadd (pc := 154) (show xcode 193 154 = some (.iadd, 1, 0, 0) from by decide +kernel) (zz_lald (pc := 155) (show xcode 193 155 = some (.laload, 1, 0, 0) from by decide +kernel) zis_132 (by omega) (zz_lcmp (pc := 156) (show xcode 193 156 = some (.lcmp, 1, 0, 0) from by decide +kernel) (show xcode 193 157 = some (.ifCond .eq 9, 3, 166, 0) from by decide +kernel) (by unfold zr64; omega) (by unfold zr64; omega) (fun (zc3 : ((zfac C zn1 i (M 133 i.toNat) t) * (M 132 (((36) * (i + (1))) + t).toNat)) = (M 132 (((36) * i) + (M 133 i.toNat)).toNat)) => zz_aload_n (pc := 166) (show xcode 193 166 = some (.aload_n 0, 1, 0, 0) from by decide +kernel) (zmem 0 rfl) (zz_getR (pc := 167) (show xcode 193 167 = some (.getfield 78, 3, 11, 35) from by decide +kernel) zis_115 (by decide +kernel) rfl (zz_iload_n (pc := 170) (show xcode 193 170 = some (.iload_n 3, 1, 0, 0) from by decide +kernel) (zmem 2 rfl) (zz_iconst (pc := 171) (show xcode 193 171 = some (.iconst 1, 1, 0, 0) from by decide +kernel) (zz_iadd (pc := 172) (show xcode 193 172 = some (.iadd, 1, 0, 0) from by decide +kernel) (zz_iload (pc := 173) (show xcode 193 173 = some (.iload 4, 2, 0, 0) from by decide +kernel) (zmem 3 rfl) (zz_iast (pc := 175) (show xcode 193 175 = some (.iastore, 1, 0, 0) from by decide +kernel) zis_133 (by omega) (zm_as (fun zM5 (ezM5 : zM5 = zup M 133 (i + (1)).toNat t) => zz_iinc (pc := 176) (show xcode 193 176 = some (.iinc 3 1, 3, 0, 0) from by decide +kernel) (zmem 2 rfl) (by decide +kernel) (zG_ro (ρ' := [(3, .int (Int32.ofInt (i + 1))), (0, .ref 115), (1, .int (Int32.ofInt m9)), (4, .int (Int32.ofInt t))]) rfl (zz_goto (pc := 179) (show xcode 193 179 = some (.goto (-84), 3, 95, 0) from by decide +kernel) (zG_mono (N := NK) (by omega) (zG_sub (List.forall_mem_cons.mpr ⟨zmem 1 rfl, (List.forall_mem_cons.mpr ⟨zmem 2 rfl, (List.forall_mem_cons.mpr ⟨zmem 0 rfl, (fun p hp => absurd hp List.not_mem_nil)⟩)⟩)⟩) (hk _ (by have h9 : t = rpz C (i.toNat + 1) := (by rcases hnx with h | h; exact absurd ((hrn (by assumption) hlt).mpr (by assumption)) (hnn h); exact h); rw [ezM5, hM, h9]; unfold rpM; rw [show (i + 1).toNat = i.toNat + 1 by omega]; exact ztab_s rfl))))))))))))))) (fun (zc4 : ¬ (((zfac C zn1 i (M 133 i.toNat) t) * (M 132 (((36) * (i + (1))) + t).toNat)) = (M 132 (((36) * i) + (M 133 i.toNat)).toNat))) => zz_iinc (pc := 160) (show xcode 193 160 = some (.iinc 4 1, 3, 0, 0) from by decide +kernel) (zmem 3 rfl) (by decide +kernel) (zG_ro (ρ' := [(4, .int (Int32.ofInt (t + 1))), (0, .ref 115), (1, .int (Int32.ofInt m9)), (3, .int (Int32.ofInt i))]) rfl (zz_goto (pc := 163) (show xcode 193 163 = some (.goto (-60), 3, 103, 0) from by decide +kernel) (zG_mono (N := zn * 45 + (NK + 45)) (by omega) (zG_sub (List.forall_mem_cons.mpr ⟨zmem 1 rfl, (List.forall_mem_cons.mpr ⟨zmem 2 rfl, (List.forall_mem_cons.mpr ⟨zmem 3 rfl, (List.forall_mem_cons.mpr ⟨zmem 0 rfl, (fun p hp => absurd hp List.not_mem_nil)⟩)⟩)⟩)⟩) (ih (t + 1)  (by have h9 : ¬ t = rpz C (i.toNat + 1) := (fun h => by first | exact absurd (hup h).1 (by assumption) | exact absurd ((hrn (hup h).1 hlt).mp (hyy h)) (by assumption)); omega) (by omega))))))))))))))))))))))))))))))))))))))))))
theorem zl_findPathR_95 {xs : List Int32} {d : Nat} {w : Bool}  {C : zM} {n : Int} (hB : zBI n C zn1) {M0 : zM} (hA : rA C M0) (hR : rL C M0) (h8 : ztot C zn1 ≤ 8) {m9 : Int} (h9 : m9 = ztot C zn1) : ∀ (zn : Nat) (i : Int) (M : zM), (M = rpM C (raM C M0 (ztot C zn1).toNat) (i.toNat + 1)) → (0 ≤ i ∧ i ≤ ztot C zn1) → ztot C zn1 - i ≤ (zn : Int) → zG (xstep (xrun2 xs (d + 6)) xs 193) 193 (zn * 1670 + 5) 95 [(0, .ref 115), (1, .int (Int32.ofInt m9)), (3, .int (Int32.ofInt i))] [] 0 0 w M (fun o σ => o = (.inl none : XO) ∧ σ = (w, zheap (rpM C (raM C M0 (ztot C zn1).toNat) ((ztot C zn1).toNat + 1)))) := by
  intro zn
  induction zn with
  | zero =>
    intro i M hM hi hm
    have hX : ∀ q : Nat, ¬ q = 132 → ¬ q = 133 → M q = M0 q := fun q h h2 => by rw [hM]; unfold rpM; rw [ztab_or h2, raM_o h]
    have hM2 : M 132 = (raM C M0 (ztot C zn1).toNat) 132 := by rw [hM]; exact ztab_or (by decide)
    obtain ⟨⟨g1, g2⟩, ⟨g3, g4⟩, g5⟩ := id hB.g
    obtain ⟨g6, g7⟩ := hB.g.sz
    have hz : zsz C zn1 = C (zn1 + 1) 0 * C (zn1 + 1) 1 := rfl
    have hm8 : zmi (ztot C zn1) 8 = ztot C zn1 := if_pos h8
    have ht0 := hB.t0
    have hA2 : rA C M := rA_c (by rw [hX _ (by decide) (by decide)]) (by rw [hX _ (by decide) (by decide)]) (hX _ (by decide) (by decide)) hA
    have hR2 : rL C M := rL_c (by rw [hX _ (by decide) (by decide)]) (by rw [hX _ (by decide) (by decide)]) (by rw [hX _ (by decide) (by decide)]) (hX _ (by decide) (by decide)) (hX _ (by decide) (by decide)) (hX _ (by decide) (by decide)) hR
    have hrow : ∀ k t : Int, 0 ≤ k → k ≤ ztot C zn1 → 0 ≤ t → t < zsz C zn1 → M 132 (36 * k + t).toNat = rahF C (ztot C zn1 - k).toNat t.toNat := fun k t h1 h2 h3 h4 => by
      rw [hM2, show (36 * k + t).toNat = (36 * (ztot C zn1 - ((ztot C zn1 - k).toNat : Int))).toNat + t.toNat by omega]
      exact raM_g hB (by omega) _ _ (by omega) (by omega)
    have hbd : ∀ k t : Int, 0 ≤ k → k ≤ ztot C zn1 → 0 ≤ t → t < zsz C zn1 → 0 ≤ M 132 (36 * k + t).toNat ∧ M 132 (36 * k + t).toNat ≤ 10000000000000000 := fun k t h1 h2 h3 h4 => by
      have h5 := rahF_b hB h8 (ztot C zn1 - k).toNat (by omega) t.toNat (by omega)
      have h6 := zp100_8 (n := (ztot C zn1 - k).toNat) (by omega)
      rw [hrow k t h1 h2 h3 h4]
      omega
    exact zG_mono (N := 0 + 5) (by omega) (zz_iload_n (pc := 95) (show xcode 193 95 = some (.iload_n 3, 1, 0, 0) from by decide +kernel) (zmem 2 rfl) (zz_iload_n (pc := 96) (show xcode 193 96 = some (.iload_n 1, 1, 0, 0) from by decide +kernel) (zmem 1 rfl) (zz_icmp (pc := 97) (show xcode 193 97 = some (.if_icmp .ge 85, 3, 182, 0) from by decide +kernel) (by unfold zr32; omega) (by unfold zr32; omega) (fun (zc1 : ¬ (i < m9)) => zz_return (pc := 182) (show xcode 193 182 = some (.return_, 1, 0, 0) from by decide +kernel) rfl (by decide +kernel) (by decide +kernel) (by exact ⟨rfl, by rw [hM, show i.toNat = (ztot C zn1).toNat by omega]⟩)) (fun zc20 => have zc2 : i < m9 := Classical.not_not.mp zc20; zz_iconst (pc := 100) (show xcode 193 100 = some (.iconst 0, 1, 0, 0) from by decide +kernel) (zz_istore (pc := 101) (show xcode 193 101 = some (.istore 4, 2, 0, 0) from by decide +kernel) (by decide +kernel) (zG_ro (ρ' := [(4, .int (Int32.ofInt (0))), (0, .ref 115), (1, .int (Int32.ofInt m9)), (3, .int (Int32.ofInt i))]) rfl ((by exfalso; omega))))))))
  | succ zn ih =>
    intro i M hM hi hm
    have hX : ∀ q : Nat, ¬ q = 132 → ¬ q = 133 → M q = M0 q := fun q h h2 => by rw [hM]; unfold rpM; rw [ztab_or h2, raM_o h]
    have hM2 : M 132 = (raM C M0 (ztot C zn1).toNat) 132 := by rw [hM]; exact ztab_or (by decide)
    obtain ⟨⟨g1, g2⟩, ⟨g3, g4⟩, g5⟩ := id hB.g
    obtain ⟨g6, g7⟩ := hB.g.sz
    have hz : zsz C zn1 = C (zn1 + 1) 0 * C (zn1 + 1) 1 := rfl
    have hm8 : zmi (ztot C zn1) 8 = ztot C zn1 := if_pos h8
    have ht0 := hB.t0
    have hA2 : rA C M := rA_c (by rw [hX _ (by decide) (by decide)]) (by rw [hX _ (by decide) (by decide)]) (hX _ (by decide) (by decide)) hA
    have hR2 : rL C M := rL_c (by rw [hX _ (by decide) (by decide)]) (by rw [hX _ (by decide) (by decide)]) (by rw [hX _ (by decide) (by decide)]) (hX _ (by decide) (by decide)) (hX _ (by decide) (by decide)) (hX _ (by decide) (by decide)) hR
    have hrow : ∀ k t : Int, 0 ≤ k → k ≤ ztot C zn1 → 0 ≤ t → t < zsz C zn1 → M 132 (36 * k + t).toNat = rahF C (ztot C zn1 - k).toNat t.toNat := fun k t h1 h2 h3 h4 => by
      rw [hM2, show (36 * k + t).toNat = (36 * (ztot C zn1 - ((ztot C zn1 - k).toNat : Int))).toNat + t.toNat by omega]
      exact raM_g hB (by omega) _ _ (by omega) (by omega)
    have hbd : ∀ k t : Int, 0 ≤ k → k ≤ ztot C zn1 → 0 ≤ t → t < zsz C zn1 → 0 ≤ M 132 (36 * k + t).toNat ∧ M 132 (36 * k + t).toNat ≤ 10000000000000000 := fun k t h1 h2 h3 h4 => by
      have h5 := rahF_b hB h8 (ztot C zn1 - k).toNat (by omega) t.toNat (by omega)
      have h6 := zp100_8 (n := (ztot C zn1 - k).toNat) (by omega)
      rw [hrow k t h1 h2 h3 h4]
      omega
    exact zG_mono (N := zn * 1670 + 5 + 1665 + 5) (by omega) (zz_iload_n (pc := 95) (show xcode 193 95 = some (.iload_n 3, 1, 0, 0) from by decide +kernel) (zmem 2 rfl) (zz_iload_n (pc := 96) (show xcode 193 96 = some (.iload_n 1, 1, 0, 0) from by decide +kernel) (zmem 1 rfl) (zz_icmp (pc := 97) (show xcode 193 97 = some (.if_icmp .ge 85, 3, 182, 0) from by decide +kernel) (by unfold zr32; omega) (by unfold zr32; omega) (fun (zc1 : ¬ (i < m9)) => zz_return (pc := 182) (show xcode 193 182 = some (.return_, 1, 0, 0) from by decide +kernel) rfl (by decide +kernel) (by decide +kernel) (by exact ⟨rfl, by rw [hM, show i.toNat = (ztot C zn1).toNat by omega]⟩)) (fun zc20 => have zc2 : i < m9 := Classical.not_not.mp zc20; zz_iconst (pc := 100) (show xcode 193 100 = some (.iconst 0, 1, 0, 0) from by decide +kernel) (zz_istore (pc := 101) (show xcode 193 101 = some (.istore 4, 2, 0, 0) from by decide +kernel) (by decide +kernel) (zG_ro (ρ' := [(4, .int (Int32.ofInt (0))), (0, .ref 115), (1, .int (Int32.ofInt m9)), (3, .int (Int32.ofInt i))]) rfl (zG_mono (N := (36 * 45 + ((zn * 1670 + 5) + 45))) (by omega) (zG_sub (List.forall_mem_cons.mpr ⟨zmem 1 rfl, (List.forall_mem_cons.mpr ⟨zmem 2 rfl, (List.forall_mem_cons.mpr ⟨zmem 3 rfl, (List.forall_mem_cons.mpr ⟨zmem 0 rfl, (fun p hp => absurd hp List.not_mem_nil)⟩)⟩)⟩)⟩) ((by have h7 := rpz_f hB h8 (i.toNat + 1) (by omega); have h70 := h7.1; have h71 : rpz C (i.toNat + 1) < zsz C zn1 := h7.2.1; exact zl_findPathR_103 (M := M) hB hA hR h8 (NK := (zn * 1670 + 5)) (m9 := m9) (i := i) (by omega) hM (fun M2 hM3 => ih _ _ (by rw [hM3, show (i + 1).toNat + 1 = i.toNat + 2 by omega]) (by omega) (by omega)) 36 _ (by omega) (by omega)))))))))))
theorem zl_findPathR_35 {xs : List Int32} {d : Nat} {w : Bool} {M : zM} {C : zM} {n : Int} (hB : zBI n C zn1) {M0 : zM} (hA : rA C M0) (hR : rL C M0) (h8 : ztot C zn1 ≤ 8) {m9 : Int} (h9 : m9 = ztot C zn1) (hM : M = raM C M0 (ztot C zn1).toNat) : ∀ (zn : Nat) (c i : Int), (c = (if C (zn1 + 8) 0 < 0 then rpbF C (rahF C (ztot C zn1).toNat) i.toNat else C (zn1 + 8) 0)) → (C (zn1 + 8) 0 < 0 ∨ i = 0) → (0 ≤ i ∧ i ≤ zsz C zn1) → zsz C zn1 - i ≤ (zn : Int) → zG (xstep (xrun2 xs (d + 6)) xs 193) 193 (zn * 26 + 13391) 35 [(0, .ref 115), (1, .int (Int32.ofInt m9)), (2, .int (Int32.ofInt c)), (3, .int (Int32.ofInt i))] [] 0 0 w M (fun o σ => o = (.inl none : XO) ∧ σ = (w, zheap (rpM C (raM C M0 (ztot C zn1).toNat) ((ztot C zn1).toNat + 1)))) := by
  intro zn
  induction zn with
  | zero =>
    intro c i hc hib hi hm
    have hX : ∀ q : Nat, ¬ q = 132 → ¬ q = 133 → M q = M0 q := fun q h h2 => by rw [hM, raM_o h]
    have hM2 : M 132 = (raM C M0 (ztot C zn1).toNat) 132 := by rw [hM]
    obtain ⟨⟨g1, g2⟩, ⟨g3, g4⟩, g5⟩ := id hB.g
    obtain ⟨g6, g7⟩ := hB.g.sz
    have hz : zsz C zn1 = C (zn1 + 1) 0 * C (zn1 + 1) 1 := rfl
    have hm8 : zmi (ztot C zn1) 8 = ztot C zn1 := if_pos h8
    have ht0 := hB.t0
    have hA2 : rA C M := rA_c (by rw [hX _ (by decide) (by decide)]) (by rw [hX _ (by decide) (by decide)]) (hX _ (by decide) (by decide)) hA
    have hR2 : rL C M := rL_c (by rw [hX _ (by decide) (by decide)]) (by rw [hX _ (by decide) (by decide)]) (by rw [hX _ (by decide) (by decide)]) (hX _ (by decide) (by decide)) (hX _ (by decide) (by decide)) (hX _ (by decide) (by decide)) hR
    have hrow : ∀ k t : Int, 0 ≤ k → k ≤ ztot C zn1 → 0 ≤ t → t < zsz C zn1 → M 132 (36 * k + t).toNat = rahF C (ztot C zn1 - k).toNat t.toNat := fun k t h1 h2 h3 h4 => by
      rw [hM2, show (36 * k + t).toNat = (36 * (ztot C zn1 - ((ztot C zn1 - k).toNat : Int))).toNat + t.toNat by omega]
      exact raM_g hB (by omega) _ _ (by omega) (by omega)
    have hbd : ∀ k t : Int, 0 ≤ k → k ≤ ztot C zn1 → 0 ≤ t → t < zsz C zn1 → 0 ≤ M 132 (36 * k + t).toNat ∧ M 132 (36 * k + t).toNat ≤ 10000000000000000 := fun k t h1 h2 h3 h4 => by
      have h5 := rahF_b hB h8 (ztot C zn1 - k).toNat (by omega) t.toNat (by omega)
      have h6 := zp100_8 (n := (ztot C zn1 - k).toNat) (by omega)
      rw [hrow k t h1 h2 h3 h4]
      omega
    have hb21 : M 115 21 = C (zn1 + 8) 0 := hR2.1.2.2
    have hm1 := rpbF_f (R := rahF C (ztot C zn1).toNat) hB i.toNat
    have hcb : C (zn1 + 8) 0 < 0 → c = rpbF C (rahF C (ztot C zn1).toNat) i.toNat := fun h => by rw [hc, if_pos h]
    have hcn : ¬ C (zn1 + 8) 0 < 0 → c = C (zn1 + 8) 0 := fun h => by rw [hc, if_neg h]
    have hcf : zfree C zn1 c := by
      by_cases h : C (zn1 + 8) 0 < 0
      · rw [hcb h]; exact hm1
      · rw [hcn h]
        rcases hB.b4.2.2.2 with h2 | h2
        · omega
        · exact h2
    have hcf0 := hcf.1
    have hcf1 : c < zsz C zn1 := hcf.2.1
    have hr0 : ∀ t : Int, 0 ≤ t → t < zsz C zn1 → M 132 t.toNat = rahF C (ztot C zn1).toNat t.toNat := fun t h1 h2 => by
      have h3 := hrow 0 t (by omega) (by omega) h1 h2
      rw [show 36 * 0 + t = t by omega, show ztot C zn1 - 0 = ztot C zn1 by omega] at h3
      exact h3
    have hd0 : ∀ t : Int, 0 ≤ t → t < zsz C zn1 → 0 ≤ M 132 t.toNat ∧ M 132 t.toNat ≤ 10000000000000000 := fun t h1 h2 => by
      have h3 := hbd 0 t (by omega) (by omega) h1 h2
      rw [show 36 * 0 + t = t by omega] at h3
      exact h3
    have hdc := hd0 c (by omega) (by omega)
    have hdi := hd0 i hi.1
    have hb81 := hB.b4.1
    have hbz : -1 ≤ C (zn1 + 8) 0 ∧ C (zn1 + 8) 0 ≤ 35 := by
      rcases hB.b4.2.2.2 with h2 | h2
      · omega
      · have := h2.1; have h4 := h2.2.1; omega
    exact zG_mono (N := 13365 + 26) (by omega) (zz_iload_n (pc := 35) (show xcode 193 35 = some (.iload_n 3, 1, 0, 0) from by decide +kernel) (zmem 3 rfl) (zz_aload_n (pc := 36) (show xcode 193 36 = some (.aload_n 0, 1, 0, 0) from by decide +kernel) (zmem 0 rfl) (zz_call_v (pc := 37) (cu := 0) (su := 0) (fun ls hr => zz_calV (show xcode 193 37 = some (.invokevirtual 96, 3, 134, 0) from by decide +kernel) rfl zis_115 ls hr) rfl (sp_cellsR (d := d + 5) hB hA2) (zz_icmp (pc := 40) (show xcode 193 40 = some (.if_icmp .ge 46, 3, 86, 0) from by decide +kernel) (by unfold zr32; omega) (by unfold zr32; omega) (fun (zc1 : ¬ (i < (zsz C zn1))) => zz_aload_n (pc := 86) (show xcode 193 86 = some (.aload_n 0, 1, 0, 0) from by decide +kernel) (zmem 0 rfl) (zz_getR (pc := 87) (show xcode 193 87 = some (.getfield 78, 3, 11, 35) from by decide +kernel) zis_115 (by decide +kernel) rfl (zz_iconst (pc := 90) (show xcode 193 90 = some (.iconst 0, 1, 0, 0) from by decide +kernel) (zz_iload_n (pc := 91) (show xcode 193 91 = some (.iload_n 2, 1, 0, 0) from by decide +kernel) (zmem 2 rfl) (zz_iast (pc := 92) (show xcode 193 92 = some (.iastore, 1, 0, 0) from by decide +kernel) zis_133 (by decide) (zm_as (fun zM3 (ezM3 : zM3 = zup M 133 0 c) => zz_iconst (pc := 93) (show xcode 193 93 = some (.iconst 0, 1, 0, 0) from by decide +kernel) (zz_istore_n (pc := 94) (show xcode 193 94 = some (.istore_n 3, 1, 0, 0) from by decide +kernel) (by decide +kernel) (zG_ro (ρ' := [(3, .int (Int32.ofInt (0))), (0, .ref 115), (1, .int (Int32.ofInt m9)), (2, .int (Int32.ofInt c))]) rfl (zG_mono (N := 13365) (by omega) (zG_sub (List.forall_mem_cons.mpr ⟨zmem 1 rfl, (List.forall_mem_cons.mpr ⟨zmem 2 rfl, (List.forall_mem_cons.mpr ⟨zmem 0 rfl, (fun p hp => absurd hp List.not_mem_nil)⟩)⟩)⟩) ((by have h10 : c = rpb C := (by unfold rpb; rcases hib with h11 | h11; (rw [if_pos h11, hcb h11, show i.toNat = (zsz C zn1).toNat by omega]); (by_cases h12 : C (zn1 + 8) 0 < 0; (rw [if_pos h12, hcb h12, show i.toNat = (zsz C zn1).toNat by omega]); (rw [if_neg h12, hcn h12]))); exact zl_findPathR_95 hB hA hR h8 h9 8 0 _ (by rw [ezM3, hM, h10]; show _ = ztab _ 133 (0 + 1) (rpz C); rw [← ztab_s (M := raM C M0 (ztot C zn1).toNat) (q := 133) (n := 0) (F := rpz C) rfl, ztab_0]; rfl) (by omega) (by omega)))))))))))))) (fun zc20 => have zc2 : i < (zsz C zn1) := Classical.not_not.mp zc20; zz_aload_n (pc := 43) (show xcode 193 43 = some (.aload_n 0, 1, 0, 0) from by decide +kernel) (zmem 0 rfl) (zz_getI (pc := 44) (show xcode 193 44 = some (.getfield 51, 3, 11, 21) from by decide +kernel) zis_115 (by decide +kernel) rfl (zz_if (pc := 47) (show xcode 193 47 = some (.ifCond .ge 39, 3, 86, 0) from by decide +kernel) (by unfold zr32; omega) (fun (zc4 : ¬ ((M 115 21) < 0)) => zz_aload_n (pc := 86) (show xcode 193 86 = some (.aload_n 0, 1, 0, 0) from by decide +kernel) (zmem 0 rfl) (zz_getR (pc := 87) (show xcode 193 87 = some (.getfield 78, 3, 11, 35) from by decide +kernel) zis_115 (by decide +kernel) rfl (zz_iconst (pc := 90) (show xcode 193 90 = some (.iconst 0, 1, 0, 0) from by decide +kernel) (zz_iload_n (pc := 91) (show xcode 193 91 = some (.iload_n 2, 1, 0, 0) from by decide +kernel) (zmem 2 rfl) (zz_iast (pc := 92) (show xcode 193 92 = some (.iastore, 1, 0, 0) from by decide +kernel) zis_133 (by decide) (zm_as (fun zM6 (ezM6 : zM6 = zup M 133 0 c) => zz_iconst (pc := 93) (show xcode 193 93 = some (.iconst 0, 1, 0, 0) from by decide +kernel) (zz_istore_n (pc := 94) (show xcode 193 94 = some (.istore_n 3, 1, 0, 0) from by decide +kernel) (by decide +kernel) (zG_ro (ρ' := [(3, .int (Int32.ofInt (0))), (0, .ref 115), (1, .int (Int32.ofInt m9)), (2, .int (Int32.ofInt c))]) rfl (zG_mono (N := 13365) (by omega) (zG_sub (List.forall_mem_cons.mpr ⟨zmem 1 rfl, (List.forall_mem_cons.mpr ⟨zmem 2 rfl, (List.forall_mem_cons.mpr ⟨zmem 0 rfl, (fun p hp => absurd hp List.not_mem_nil)⟩)⟩)⟩) ((by have h10 : c = rpb C := (by unfold rpb; rcases hib with h11 | h11; (rw [if_pos h11, hcb h11, show i.toNat = (zsz C zn1).toNat by omega]); (by_cases h12 : C (zn1 + 8) 0 < 0; (rw [if_pos h12, hcb h12, show i.toNat = (zsz C zn1).toNat by omega]); (rw [if_neg h12, hcn h12]))); exact zl_findPathR_95 hB hA hR h8 h9 8 0 _ (by rw [ezM6, hM, h10]; show _ = ztab _ 133 (0 + 1) (rpz C); rw [← ztab_s (M := raM C M0 (ztot C zn1).toNat) (q := 133) (n := 0) (F := rpz C) rfl, ztab_0]; rfl) (by omega) (by omega)))))))))))))) (fun zc50 => have zc5 : (M 115 21) < 0 := Classical.not_not.mp zc50; zz_aload_n (pc := 50) (show xcode 193 50 = some (.aload_n 0, 1, 0, 0) from by decide +kernel) (zmem 0 rfl) (zz_iload_n (pc := 51) (show xcode 193 51 = some (.iload_n 3, 1, 0, 0) from by decide +kernel) (zmem 3 rfl) (zz_call_v (pc := 52) (cu := 0) (su := 0) (fun ls hr => zz_calV (show xcode 193 52 = some (.invokevirtual 100, 3, 136, 0) from by decide +kernel) rfl zis_115 ls hr) rfl (sp_isFreeR (d := d + 5) hB (by omega) hA2) (zz_ifbeq (pc := 55) (show xcode 193 55 = some (.ifCond .eq 23, 3, 78, 0) from by decide +kernel) (fun (zc7 : ¬ (zfree C zn1 i)) => zz_iload_n (pc := 78) (show xcode 193 78 = some (.iload_n 2, 1, 0, 0) from by decide +kernel) (zmem 2 rfl) (zz_istore_n (pc := 79) (show xcode 193 79 = some (.istore_n 2, 1, 0, 0) from by decide +kernel) (by decide +kernel) (zG_ro (ρ' := [(2, .int (Int32.ofInt c)), (0, .ref 115), (1, .int (Int32.ofInt m9)), (3, .int (Int32.ofInt i))]) rfl (zz_iinc (pc := 80) (show xcode 193 80 = some (.iinc 3 1, 3, 0, 0) from by decide +kernel) (zmem 3 rfl) (by decide +kernel) (zG_ro (ρ' := [(3, .int (Int32.ofInt (i + 1))), (2, .int (Int32.ofInt c)), (0, .ref 115), (1, .int (Int32.ofInt m9))]) rfl (zz_goto (pc := 83) (show xcode 193 83 = some (.goto (-48), 3, 35, 0) from by decide +kernel) ((by exfalso; omega)))))))) (fun zc80 => have zc8 : zfree C zn1 i := Classical.not_not.mp zc80; zz_aload_n (pc := 58) (show xcode 193 58 = some (.aload_n 0, 1, 0, 0) from by decide +kernel) (zmem 0 rfl) (zz_getR (pc := 59) (show xcode 193 59 = some (.getfield 75, 3, 11, 34) from by decide +kernel) zis_115 (by decide +kernel) rfl (zz_iload_n (pc := 62) (show xcode 193 62 = some (.iload_n 3, 1, 0, 0) from by decide +kernel) (zmem 3 rfl) (zz_lald (pc := 63) (show xcode 193 63 = some (.laload, 1, 0, 0) from by decide +kernel) zis_132 (by omega) (zz_aload_n (pc := 64) (show xcode 193 64 = some (.aload_n 0, 1, 0, 0) from by decide +kernel) (zmem 0 rfl) (zz_getR (pc := 65) (show xcode 193 65 = some (.getfield 75, 3, 11, 34) from by decide +kernel) zis_115 (by decide +kernel) rfl (zz_iload_n (pc := 68) (show xcode 193 68 = some (.iload_n 2, 1, 0, 0) from by decide +kernel) (zmem 2 rfl) (zz_lald (pc := 69) (show xcode 193 69 = some (.laload, 1, 0, 0) from by decide +kernel) zis_132 (by omega) (zz_lcmp (pc := 70) (show xcode 193 70 = some (.lcmp, 1, 0, 0) from by decide +kernel) (show xcode 193 71 = some (.ifCond .le 7, 3, 78, 0) from by decide +kernel) (by unfold zr64; omega) (by unfold zr64; omega) (fun (zc9 : ¬ ((M 132 c.toNat) < (M 132 i.toNat))) => zz_iload_n (pc := 78) (show xcode 193 78 = some (.iload_n 2, 1, 0, 0) from by decide +kernel) (zmem 2 rfl) (zz_istore_n (pc := 79) (show xcode 193 79 = some (.istore_n 2, 1, 0, 0) from by decide +kernel) (by decide +kernel) (zG_ro (ρ' := [(2, .int (Int32.ofInt c)), (0, .ref 115), (1, .int (Int32.ofInt m9)), (3, .int (Int32.ofInt i))]) rfl (zz_iinc (pc := 80) (show xcode 193 80 = some (.iinc 3 1, 3, 0, 0) from by decide +kernel) (zmem 3 rfl) (by decide +kernel) (zG_ro (ρ' := [(3, .int (Int32.ofInt (i + 1))), (2, .int (Int32.ofInt c)), (0, .ref 115), (1, .int (Int32.ofInt m9))]) rfl (zz_goto (pc := 83) (show xcode 193 83 = some (.goto (-48), 3, 35, 0) from by decide +kernel) ((by exfalso; omega)))))))) (fun zc100 => have zc10 : (M 132 c.toNat) < (M 132 i.toNat) := Classical.not_not.mp zc100; zz_iload_n (pc := 74) (show xcode 193 74 = some (.iload_n 3, 1, 0, 0) from by decide +kernel) (zmem 3 rfl) (zz_goto (pc := 75) (show xcode 193 75 = some (.goto 4, 3, 79, 0) from by decide +kernel) (zz_istore_n (pc := 79) (show xcode 193 79 = some (.istore_n 2, 1, 0, 0) from by decide +kernel) (by decide +kernel) (zG_ro (ρ' := [(2, .int (Int32.ofInt i)), (0, .ref 115), (1, .int (Int32.ofInt m9)), (3, .int (Int32.ofInt i))]) rfl (zz_iinc (pc := 80) (show xcode 193 80 = some (.iinc 3 1, 3, 0, 0) from by decide +kernel) (zmem 3 rfl) (by decide +kernel) (zG_ro (ρ' := [(3, .int (Int32.ofInt (i + 1))), (2, .int (Int32.ofInt i)), (0, .ref 115), (1, .int (Int32.ofInt m9))]) rfl (zz_goto (pc := 83) (show xcode 193 83 = some (.goto (-48), 3, 35, 0) from by decide +kernel) ((by exfalso; omega)))))))))))))))))))))))))))))
  | succ zn ih =>
    intro c i hc hib hi hm
    have hX : ∀ q : Nat, ¬ q = 132 → ¬ q = 133 → M q = M0 q := fun q h h2 => by rw [hM, raM_o h]
    have hM2 : M 132 = (raM C M0 (ztot C zn1).toNat) 132 := by rw [hM]
    obtain ⟨⟨g1, g2⟩, ⟨g3, g4⟩, g5⟩ := id hB.g
    obtain ⟨g6, g7⟩ := hB.g.sz
    have hz : zsz C zn1 = C (zn1 + 1) 0 * C (zn1 + 1) 1 := rfl
    have hm8 : zmi (ztot C zn1) 8 = ztot C zn1 := if_pos h8
    have ht0 := hB.t0
    have hA2 : rA C M := rA_c (by rw [hX _ (by decide) (by decide)]) (by rw [hX _ (by decide) (by decide)]) (hX _ (by decide) (by decide)) hA
    have hR2 : rL C M := rL_c (by rw [hX _ (by decide) (by decide)]) (by rw [hX _ (by decide) (by decide)]) (by rw [hX _ (by decide) (by decide)]) (hX _ (by decide) (by decide)) (hX _ (by decide) (by decide)) (hX _ (by decide) (by decide)) hR
    have hrow : ∀ k t : Int, 0 ≤ k → k ≤ ztot C zn1 → 0 ≤ t → t < zsz C zn1 → M 132 (36 * k + t).toNat = rahF C (ztot C zn1 - k).toNat t.toNat := fun k t h1 h2 h3 h4 => by
      rw [hM2, show (36 * k + t).toNat = (36 * (ztot C zn1 - ((ztot C zn1 - k).toNat : Int))).toNat + t.toNat by omega]
      exact raM_g hB (by omega) _ _ (by omega) (by omega)
    have hbd : ∀ k t : Int, 0 ≤ k → k ≤ ztot C zn1 → 0 ≤ t → t < zsz C zn1 → 0 ≤ M 132 (36 * k + t).toNat ∧ M 132 (36 * k + t).toNat ≤ 10000000000000000 := fun k t h1 h2 h3 h4 => by
      have h5 := rahF_b hB h8 (ztot C zn1 - k).toNat (by omega) t.toNat (by omega)
      have h6 := zp100_8 (n := (ztot C zn1 - k).toNat) (by omega)
      rw [hrow k t h1 h2 h3 h4]
      omega
    have hb21 : M 115 21 = C (zn1 + 8) 0 := hR2.1.2.2
    have hm1 := rpbF_f (R := rahF C (ztot C zn1).toNat) hB i.toNat
    have hcb : C (zn1 + 8) 0 < 0 → c = rpbF C (rahF C (ztot C zn1).toNat) i.toNat := fun h => by rw [hc, if_pos h]
    have hcn : ¬ C (zn1 + 8) 0 < 0 → c = C (zn1 + 8) 0 := fun h => by rw [hc, if_neg h]
    have hcf : zfree C zn1 c := by
      by_cases h : C (zn1 + 8) 0 < 0
      · rw [hcb h]; exact hm1
      · rw [hcn h]
        rcases hB.b4.2.2.2 with h2 | h2
        · omega
        · exact h2
    have hcf0 := hcf.1
    have hcf1 : c < zsz C zn1 := hcf.2.1
    have hr0 : ∀ t : Int, 0 ≤ t → t < zsz C zn1 → M 132 t.toNat = rahF C (ztot C zn1).toNat t.toNat := fun t h1 h2 => by
      have h3 := hrow 0 t (by omega) (by omega) h1 h2
      rw [show 36 * 0 + t = t by omega, show ztot C zn1 - 0 = ztot C zn1 by omega] at h3
      exact h3
    have hd0 : ∀ t : Int, 0 ≤ t → t < zsz C zn1 → 0 ≤ M 132 t.toNat ∧ M 132 t.toNat ≤ 10000000000000000 := fun t h1 h2 => by
      have h3 := hbd 0 t (by omega) (by omega) h1 h2
      rw [show 36 * 0 + t = t by omega] at h3
      exact h3
    have hdc := hd0 c (by omega) (by omega)
    have hdi := hd0 i hi.1
    have hb81 := hB.b4.1
    have hbz : -1 ≤ C (zn1 + 8) 0 ∧ C (zn1 + 8) 0 ≤ 35 := by
      rcases hB.b4.2.2.2 with h2 | h2
      · omega
      · have := h2.1; have h4 := h2.2.1; omega
    exact zG_mono (N := zn * 26 + 13391 + 0 + 26) (by omega) (zz_iload_n (pc := 35) (show xcode 193 35 = some (.iload_n 3, 1, 0, 0) from by decide +kernel) (zmem 3 rfl) (zz_aload_n (pc := 36) (show xcode 193 36 = some (.aload_n 0, 1, 0, 0) from by decide +kernel) (zmem 0 rfl) (zz_call_v (pc := 37) (cu := 0) (su := 0) (fun ls hr => zz_calV (show xcode 193 37 = some (.invokevirtual 96, 3, 134, 0) from by decide +kernel) rfl zis_115 ls hr) rfl (sp_cellsR (d := d + 5) hB hA2) (zz_icmp (pc := 40) (show xcode 193 40 = some (.if_icmp .ge 46, 3, 86, 0) from by decide +kernel) (by unfold zr32; omega) (by unfold zr32; omega) (fun (zc1 : ¬ (i < (zsz C zn1))) => zz_aload_n (pc := 86) (show xcode 193 86 = some (.aload_n 0, 1, 0, 0) from by decide +kernel) (zmem 0 rfl) (zz_getR (pc := 87) (show xcode 193 87 = some (.getfield 78, 3, 11, 35) from by decide +kernel) zis_115 (by decide +kernel) rfl (zz_iconst (pc := 90) (show xcode 193 90 = some (.iconst 0, 1, 0, 0) from by decide +kernel) (zz_iload_n (pc := 91) (show xcode 193 91 = some (.iload_n 2, 1, 0, 0) from by decide +kernel) (zmem 2 rfl) (zz_iast (pc := 92) (show xcode 193 92 = some (.iastore, 1, 0, 0) from by decide +kernel) zis_133 (by decide) (zm_as (fun zM3 (ezM3 : zM3 = zup M 133 0 c) => zz_iconst (pc := 93) (show xcode 193 93 = some (.iconst 0, 1, 0, 0) from by decide +kernel) (zz_istore_n (pc := 94) (show xcode 193 94 = some (.istore_n 3, 1, 0, 0) from by decide +kernel) (by decide +kernel) (zG_ro (ρ' := [(3, .int (Int32.ofInt (0))), (0, .ref 115), (1, .int (Int32.ofInt m9)), (2, .int (Int32.ofInt c))]) rfl (zG_mono (N := 13365) (by omega) (zG_sub (List.forall_mem_cons.mpr ⟨zmem 1 rfl, (List.forall_mem_cons.mpr ⟨zmem 2 rfl, (List.forall_mem_cons.mpr ⟨zmem 0 rfl, (fun p hp => absurd hp List.not_mem_nil)⟩)⟩)⟩) ((by have h10 : c = rpb C := (by unfold rpb; rcases hib with h11 | h11; (rw [if_pos h11, hcb h11, show i.toNat = (zsz C zn1).toNat by omega]); (by_cases h12 : C (zn1 + 8) 0 < 0; (rw [if_pos h12, hcb h12, show i.toNat = (zsz C zn1).toNat by omega]); (rw [if_neg h12, hcn h12]))); exact zl_findPathR_95 hB hA hR h8 h9 8 0 _ (by rw [ezM3, hM, h10]; show _ = ztab _ 133 (0 + 1) (rpz C); rw [← ztab_s (M := raM C M0 (ztot C zn1).toNat) (q := 133) (n := 0) (F := rpz C) rfl, ztab_0]; rfl) (by omega) (by omega)))))))))))))) (fun zc20 => have zc2 : i < (zsz C zn1) := Classical.not_not.mp zc20; zz_aload_n (pc := 43) (show xcode 193 43 = some (.aload_n 0, 1, 0, 0) from by decide +kernel) (zmem 0 rfl) (zz_getI (pc := 44) (show xcode 193 44 = some (.getfield 51, 3, 11, 21) from by decide +kernel) zis_115 (by decide +kernel) rfl (zz_if (pc := 47) (show xcode 193 47 = some (.ifCond .ge 39, 3, 86, 0) from by decide +kernel) (by unfold zr32; omega) (fun (zc4 : ¬ ((M 115 21) < 0)) => zz_aload_n (pc := 86) (show xcode 193 86 = some (.aload_n 0, 1, 0, 0) from by decide +kernel) (zmem 0 rfl) (zz_getR (pc := 87) (show xcode 193 87 = some (.getfield 78, 3, 11, 35) from by decide +kernel) zis_115 (by decide +kernel) rfl (zz_iconst (pc := 90) (show xcode 193 90 = some (.iconst 0, 1, 0, 0) from by decide +kernel) (zz_iload_n (pc := 91) (show xcode 193 91 = some (.iload_n 2, 1, 0, 0) from by decide +kernel) (zmem 2 rfl) (zz_iast (pc := 92) (show xcode 193 92 = some (.iastore, 1, 0, 0) from by decide +kernel) zis_133 (by decide) (zm_as (fun zM6 (ezM6 : zM6 = zup M 133 0 c) => zz_iconst (pc := 93) (show xcode 193 93 = some (.iconst 0, 1, 0, 0) from by decide +kernel) (zz_istore_n (pc := 94) (show xcode 193 94 = some (.istore_n 3, 1, 0, 0) from by decide +kernel) (by decide +kernel) (zG_ro (ρ' := [(3, .int (Int32.ofInt (0))), (0, .ref 115), (1, .int (Int32.ofInt m9)), (2, .int (Int32.ofInt c))]) rfl (zG_mono (N := 13365) (by omega) (zG_sub (List.forall_mem_cons.mpr ⟨zmem 1 rfl, (List.forall_mem_cons.mpr ⟨zmem 2 rfl, (List.forall_mem_cons.mpr ⟨zmem 0 rfl, (fun p hp => absurd hp List.not_mem_nil)⟩)⟩)⟩) ((by have h10 : c = rpb C := (by unfold rpb; rcases hib with h11 | h11; (rw [if_pos h11, hcb h11, show i.toNat = (zsz C zn1).toNat by omega]); (by_cases h12 : C (zn1 + 8) 0 < 0; (rw [if_pos h12, hcb h12, show i.toNat = (zsz C zn1).toNat by omega]); (rw [if_neg h12, hcn h12]))); exact zl_findPathR_95 hB hA hR h8 h9 8 0 _ (by rw [ezM6, hM, h10]; show _ = ztab _ 133 (0 + 1) (rpz C); rw [← ztab_s (M := raM C M0 (ztot C zn1).toNat) (q := 133) (n := 0) (F := rpz C) rfl, ztab_0]; rfl) (by omega) (by omega)))))))))))))) (fun zc50 => have zc5 : (M 115 21) < 0 := Classical.not_not.mp zc50; zz_aload_n (pc := 50) (show xcode 193 50 = some (.aload_n 0, 1, 0, 0) from by decide +kernel) (zmem 0 rfl) (zz_iload_n (pc := 51) (show xcode 193 51 = some (.iload_n 3, 1, 0, 0) from by decide +kernel) (zmem 3 rfl) (zz_call_v (pc := 52) (cu := 0) (su := 0) (fun ls hr => zz_calV (show xcode 193 52 = some (.invokevirtual 100, 3, 136, 0) from by decide +kernel) rfl zis_115 ls hr) rfl (sp_isFreeR (d := d + 5) hB (by omega) hA2) (zz_ifbeq (pc := 55) (show xcode 193 55 = some (.ifCond .eq 23, 3, 78, 0) from by decide +kernel) (fun (zc7 : ¬ (zfree C zn1 i)) => zz_iload_n (pc := 78) (show xcode 193 78 = some (.iload_n 2, 1, 0, 0) from by decide +kernel) (zmem 2 rfl) (zz_istore_n (pc := 79) (show xcode 193 79 = some (.istore_n 2, 1, 0, 0) from by decide +kernel) (by decide +kernel) (zG_ro (ρ' := [(2, .int (Int32.ofInt c)), (0, .ref 115), (1, .int (Int32.ofInt m9)), (3, .int (Int32.ofInt i))]) rfl (zz_iinc (pc := 80) (show xcode 193 80 = some (.iinc 3 1, 3, 0, 0) from by decide +kernel) (zmem 3 rfl) (by decide +kernel) (zG_ro (ρ' := [(3, .int (Int32.ofInt (i + 1))), (2, .int (Int32.ofInt c)), (0, .ref 115), (1, .int (Int32.ofInt m9))]) rfl (zz_goto (pc := 83) (show xcode 193 83 = some (.goto (-48), 3, 35, 0) from by decide +kernel) (zG_mono (N := zn * 26 + 13391) (by omega) (zG_sub (List.forall_mem_cons.mpr ⟨zmem 2 rfl, (List.forall_mem_cons.mpr ⟨zmem 3 rfl, (List.forall_mem_cons.mpr ⟨zmem 1 rfl, (List.forall_mem_cons.mpr ⟨zmem 0 rfl, (fun p hp => absurd hp List.not_mem_nil)⟩)⟩)⟩)⟩) (ih c (i + 1)  (by rw [if_pos (by omega), show (i + 1).toNat = i.toNat + 1 by omega]; have e9 := hcb (by omega); show _ = @ite _ (zfreeN C zn1 i.toNat ∧ rahF C (ztot C zn1).toNat (rpbF C (rahF C (ztot C zn1).toNat) i.toNat).toNat < rahF C (ztot C zn1).toNat i.toNat) (Classical.propDecidable _) ((i.toNat : Nat) : Int) (rpbF C (rahF C (ztot C zn1).toNat) i.toNat); rw [← e9, ← hr0 c (by omega) (by omega), ← hr0 i (by omega) (by omega), Int.toNat_of_nonneg hi.1]; first | rw [if_pos ⟨(zfreeN_i hi.1).mpr (by assumption), by assumption⟩] | rw [if_neg (fun e => absurd ((zfreeN_i hi.1).mp e.1) (by assumption))] | rw [if_neg (fun e => absurd e.2 (by assumption))]) (Or.inl (by omega)) (by omega) (by omega)))))))))) (fun zc80 => have zc8 : zfree C zn1 i := Classical.not_not.mp zc80; zz_aload_n (pc := 58) (show xcode 193 58 = some (.aload_n 0, 1, 0, 0) from by decide +kernel) (zmem 0 rfl) (zz_getR (pc := 59) (show xcode 193 59 = some (.getfield 75, 3, 11, 34) from by decide +kernel) zis_115 (by decide +kernel) rfl (zz_iload_n (pc := 62) (show xcode 193 62 = some (.iload_n 3, 1, 0, 0) from by decide +kernel) (zmem 3 rfl) (zz_lald (pc := 63) (show xcode 193 63 = some (.laload, 1, 0, 0) from by decide +kernel) zis_132 (by omega) (zz_aload_n (pc := 64) (show xcode 193 64 = some (.aload_n 0, 1, 0, 0) from by decide +kernel) (zmem 0 rfl) (zz_getR (pc := 65) (show xcode 193 65 = some (.getfield 75, 3, 11, 34) from by decide +kernel) zis_115 (by decide +kernel) rfl (zz_iload_n (pc := 68) (show xcode 193 68 = some (.iload_n 2, 1, 0, 0) from by decide +kernel) (zmem 2 rfl) (zz_lald (pc := 69) (show xcode 193 69 = some (.laload, 1, 0, 0) from by decide +kernel) zis_132 (by omega) (zz_lcmp (pc := 70) (show xcode 193 70 = some (.lcmp, 1, 0, 0) from by decide +kernel) (show xcode 193 71 = some (.ifCond .le 7, 3, 78, 0) from by decide +kernel) (by unfold zr64; omega) (by unfold zr64; omega) (fun (zc9 : ¬ ((M 132 c.toNat) < (M 132 i.toNat))) => zz_iload_n (pc := 78) (show xcode 193 78 = some (.iload_n 2, 1, 0, 0) from by decide +kernel) (zmem 2 rfl) (zz_istore_n (pc := 79) (show xcode 193 79 = some (.istore_n 2, 1, 0, 0) from by decide +kernel) (by decide +kernel) (zG_ro (ρ' := [(2, .int (Int32.ofInt c)), (0, .ref 115), (1, .int (Int32.ofInt m9)), (3, .int (Int32.ofInt i))]) rfl (zz_iinc (pc := 80) (show xcode 193 80 = some (.iinc 3 1, 3, 0, 0) from by decide +kernel) (zmem 3 rfl) (by decide +kernel) (zG_ro (ρ' := [(3, .int (Int32.ofInt (i + 1))), (2, .int (Int32.ofInt c)), (0, .ref 115), (1, .int (Int32.ofInt m9))]) rfl (zz_goto (pc := 83) (show xcode 193 83 = some (.goto (-48), 3, 35, 0) from by decide +kernel) (zG_mono (N := zn * 26 + 13391) (by omega) (zG_sub (List.forall_mem_cons.mpr ⟨zmem 2 rfl, (List.forall_mem_cons.mpr ⟨zmem 3 rfl, (List.forall_mem_cons.mpr ⟨zmem 1 rfl, (List.forall_mem_cons.mpr ⟨zmem 0 rfl, (fun p hp => absurd hp List.not_mem_nil)⟩)⟩)⟩)⟩) (ih c (i + 1)  (by rw [if_pos (by omega), show (i + 1).toNat = i.toNat + 1 by omega]; have e9 := hcb (by omega); show _ = @ite _ (zfreeN C zn1 i.toNat ∧ rahF C (ztot C zn1).toNat (rpbF C (rahF C (ztot C zn1).toNat) i.toNat).toNat < rahF C (ztot C zn1).toNat i.toNat) (Classical.propDecidable _) ((i.toNat : Nat) : Int) (rpbF C (rahF C (ztot C zn1).toNat) i.toNat); rw [← e9, ← hr0 c (by omega) (by omega), ← hr0 i (by omega) (by omega), Int.toNat_of_nonneg hi.1]; first | rw [if_pos ⟨(zfreeN_i hi.1).mpr (by assumption), by assumption⟩] | rw [if_neg (fun e => absurd ((zfreeN_i hi.1).mp e.1) (by assumption))] | rw [if_neg (fun e => absurd e.2 (by assumption))]) (Or.inl (by omega)) (by omega) (by omega)))))))))) (fun zc100 => have zc10 : (M 132 c.toNat) < (M 132 i.toNat) := Classical.not_not.mp zc100; zz_iload_n (pc := 74) (show xcode 193 74 = some (.iload_n 3, 1, 0, 0) from by decide +kernel) (zmem 3 rfl) (zz_goto (pc := 75) (show xcode 193 75 = some (.goto 4, 3, 79, 0) from by decide +kernel) (zz_istore_n (pc := 79) (show xcode 193 79 = some (.istore_n 2, 1, 0, 0) from by decide +kernel) (by decide +kernel) (zG_ro (ρ' := [(2, .int (Int32.ofInt i)), (0, .ref 115), (1, .int (Int32.ofInt m9)), (3, .int (Int32.ofInt i))]) rfl (zz_iinc (pc := 80) (show xcode 193 80 = some (.iinc 3 1, 3, 0, 0) from by decide +kernel) (zmem 3 rfl) (by decide +kernel) (zG_ro (ρ' := [(3, .int (Int32.ofInt (i + 1))), (2, .int (Int32.ofInt i)), (0, .ref 115), (1, .int (Int32.ofInt m9))]) rfl (zz_goto (pc := 83) (show xcode 193 83 = some (.goto (-48), 3, 35, 0) from by decide +kernel) (zG_mono (N := zn * 26 + 13391) (by omega) (zG_sub (List.forall_mem_cons.mpr ⟨zmem 2 rfl, (List.forall_mem_cons.mpr ⟨zmem 3 rfl, (List.forall_mem_cons.mpr ⟨zmem 1 rfl, (List.forall_mem_cons.mpr ⟨zmem 0 rfl, (fun p hp => absurd hp List.not_mem_nil)⟩)⟩)⟩)⟩) (ih i (i + 1)  (by rw [if_pos (by omega), show (i + 1).toNat = i.toNat + 1 by omega]; have e9 := hcb (by omega); show _ = @ite _ (zfreeN C zn1 i.toNat ∧ rahF C (ztot C zn1).toNat (rpbF C (rahF C (ztot C zn1).toNat) i.toNat).toNat < rahF C (ztot C zn1).toNat i.toNat) (Classical.propDecidable _) ((i.toNat : Nat) : Int) (rpbF C (rahF C (ztot C zn1).toNat) i.toNat); rw [← e9, ← hr0 c (by omega) (by omega), ← hr0 i (by omega) (by omega), Int.toNat_of_nonneg hi.1]; first | rw [if_pos ⟨(zfreeN_i hi.1).mpr (by assumption), by assumption⟩] | rw [if_neg (fun e => absurd ((zfreeN_i hi.1).mp e.1) (by assumption))] | rw [if_neg (fun e => absurd e.2 (by assumption))]) (Or.inl (by omega)) (by omega) (by omega)))))))))))))))))))))))))))))))
