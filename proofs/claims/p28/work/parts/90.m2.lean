noncomputable section
/-! The reference: the path. -/
theorem raM_g {C M : zM} {n : Int} (hB : zBI n C zn1) {t : Nat} (ht : t < (zsz C zn1).toNat) : ∀ j k : Nat, (j : Int) ≤ ztot C zn1 → k ≤ j → raM C M j 132 ((36 * (ztot C zn1 - (k : Int))).toNat + t) = rahF C k t
  | 0, k, hj, hk => by
    rw [show k = 0 by omega]
    exact raM_i ht 0 hj
  | j + 1, k, hj, hk => by
    by_cases h : k = j + 1
    · subst h
      exact raM_i ht (j + 1) hj
    · obtain ⟨g6, g7⟩ := hB.g.sz
      have hz : zsz C zn1 = C (zn1 + 1) 0 * C (zn1 + 1) 1 := rfl
      unfold raM
      rw [ztao_g (by omega)]
      exact raM_g hB ht j k (by omega) (by omega)
theorem zgr_at {F : zF} : ∀ n, zgr F n = 0 ∨ ∃ t, t < n ∧ F t = zgr F n ∧ 0 < F t
  | 0 => Or.inl rfl
  | n + 1 => by
    show zmx (zgr F n) (F n) = 0 ∨ ∃ t, t < n + 1 ∧ F t = zmx (zgr F n) (F n) ∧ 0 < F t
    have hn : ∀ k, 0 ≤ zgr F k := by
      intro k
      induction k with
      | zero => exact Int.le_refl _
      | succ k ih => show 0 ≤ zmx (zgr F k) (F k); unfold zmx; split <;> omega
    have h0 := hn n
    unfold zmx
    split
    · exact Or.inr ⟨n, by omega, rfl, by omega⟩
    · rcases zgr_at (F := F) n with h | ⟨t, h1, h2, h3⟩
      · exact Or.inl h
      · exact Or.inr ⟨t, by omega, h2, h3⟩
theorem zgr_ge {F : zF} : ∀ n t, t < n → F t ≤ zgr F n
  | 0, t, h => absurd h (Nat.not_lt_zero t)
  | n + 1, t, h => by
    show F t ≤ zmx (zgr F n) (F n)
    by_cases e : t = n
    · subst e
      unfold zmx
      split <;> omega
    · have := zgr_ge (F := F) n t (by omega)
      unfold zmx
      split <;> omega
/-- a next cell that keeps the greatest weight -/
def rnx (C : zM) (j : Nat) (f : Int) (t : Nat) : Prop := zfreeN C zn1 t ∧ zfac C zn1 (ztot C zn1 - 1 - (j : Int)) f (t : Int) * rahF C j t = rahF C (j + 1) f.toNat
theorem rnx_e {C : zM} {n f : Int} {j : Nat} (hB : zBI n C zn1) (h8 : ztot C zn1 ≤ 8) (hj : (j : Int) < ztot C zn1) (hf : zfree C zn1 f) : ∃ t, 0 ≤ t ∧ t < 0 + (zsz C zn1).toNat ∧ rnx C j f t := by
  obtain ⟨g6, g7⟩ := hB.g.sz
  have hz : zsz C zn1 = C (zn1 + 1) 0 * C (zn1 + 1) 1 := rfl
  have hm8 : zmi (ztot C zn1) 8 = ztot C zn1 := if_pos h8
  have hf0 := hf.1
  have hf1 : f < zsz C zn1 := hf.2.1
  have hp := zp100_p j
  have e : rahF C (j + 1) f.toNat = zgr (rahG C (ztot C zn1 - 1 - (j : Int)) f (rahF C j)) (zsz C zn1).toNat := by
    conv => lhs; unfold rahF
    rw [if_pos ((zfreeN_i hf0).mpr hf), Int.toNat_of_nonneg hf0]
  have hG := rahG_b (R := rahF C j) (f := f) (i := ztot C zn1 - 1 - (j : Int)) hB (by omega) (by omega) (rahF_b hB h8 j (by omega)) (by omega : 0 ≤ zp100 j)
  rcases zgr_at (F := rahG C (ztot C zn1 - 1 - (j : Int)) f (rahF C j)) (zsz C zn1).toNat with h | ⟨t, h1, h2, h3⟩
  · refine ⟨f.toNat, Nat.zero_le _, by omega, (zfreeN_i hf0).mpr hf, ?_⟩
    have h4 := zgr_ge (F := rahG C (ztot C zn1 - 1 - (j : Int)) f (rahF C j)) (zsz C zn1).toNat f.toNat (by omega)
    have h5 := hG f.toNat (by omega)
    have h6 : rahG C (ztot C zn1 - 1 - (j : Int)) f (rahF C j) f.toNat = 0 := by omega
    rw [e, h, ← h6]
    unfold rahG
    rw [if_pos ((zfreeN_i hf0).mpr hf)]
  · have h7 : zfreeN C zn1 t := by
      by_cases h8 : zfreeN C zn1 t
      · exact h8
      · unfold rahG at h3
        rw [if_neg h8] at h3
        omega
    refine ⟨t, Nat.zero_le _, by omega, h7, ?_⟩
    rw [e, ← h2]
    unfold rahG
    rw [if_pos h7]
noncomputable def rpbF (C : zM) (R : zF) : Nat → Int
  | 0 => zlow C zn1
  | i + 1 => @ite _ (zfreeN C zn1 i ∧ R (rpbF C R i).toNat < R i) (Classical.propDecidable _) (i : Int) (rpbF C R i)
theorem rpbF_f {C : zM} {n : Int} {R : zF} (hB : zBI n C zn1) : ∀ i, zfree C zn1 (rpbF C R i)
  | 0 => (zlow_f hB.b1.2.2.2).1
  | i + 1 => by
    unfold rpbF
    split
    · next h => exact h.1
    · exact rpbF_f hB i
noncomputable def rpb (C : zM) : Int := if C (zn1 + 8) 0 < 0 then rpbF C (rahF C (ztot C zn1).toNat) (zsz C zn1).toNat else C (zn1 + 8) 0
theorem rpb_f {C : zM} {n : Int} (hB : zBI n C zn1) : zfree C zn1 (rpb C) := by
  unfold rpb
  split
  · exact rpbF_f hB _
  · rcases hB.b4.2.2.2 with h | h
    · omega
    · exact h
noncomputable def rpz (C : zM) : Nat → Int
  | 0 => rpb C
  | k + 1 => zfirst (rnx C ((ztot C zn1).toNat - 1 - k) (rpz C k)) 0 0 (zsz C zn1).toNat
theorem rpz_f {C : zM} {n : Int} (hB : zBI n C zn1) (h8 : ztot C zn1 ≤ 8) : ∀ k : Nat, (k : Int) ≤ ztot C zn1 → zfree C zn1 (rpz C k)
  | 0, _ => rpb_f hB
  | k + 1, hk => by
    have ih := rpz_f hB h8 k (by omega)
    have h := zfirst_ok (e := 0) (zsz C zn1).toNat 0 (rnx_e (j := (ztot C zn1).toNat - 1 - k) hB h8 (by omega) ih)
    unfold rpz
    exact (zfreeN_i (by omega)).mp h.1.1
noncomputable def rpM (C M : zM) (k : Nat) : zM := ztab M 133 k (rpz C)
theorem zl_findPathR_103 {xs : List Int32} {d : Nat} {w : Bool} {M : zM} {C : zM} {n : Int} (hB : zBI n C zn1) {M0 : zM} (hA : rA C M0) (hR : rL C M0) (h8 : ztot C zn1 ≤ 8) {m9 i : Int} {NK : Nat} (hi : 0 ≤ i ∧ i < ztot C zn1) (hM : M = rpM C (raM C M0 (ztot C zn1).toNat) (i.toNat + 1)) (hk : ∀ M2 : zM, M2 = rpM C (raM C M0 (ztot C zn1).toNat) (i.toNat + 2) → zG (xstep (xrun2 xs (d + 6)) xs 193) 193 NK 95 [(0, .ref 115), (1, .int (Int32.ofInt m9)), (3, .int (Int32.ofInt (i + 1)))] [] 0 0 w M2 (fun o σ => o = (.inl none : XO) ∧ σ = (w, zheap (rpM C (raM C M0 (ztot C zn1).toNat) ((ztot C zn1).toNat + 1))))) : ∀ (zn : Nat) (t : Int), (0 ≤ t ∧ t ≤ rpz C (i.toNat + 1)) → rpz C (i.toNat + 1) - t + 1 ≤ (zn : Int) → zG (xstep (xrun2 xs (d + 6)) xs 193) 193 (zn * 45 + (NK + 45)) 103 [(0, .ref 115), (1, .int (Int32.ofInt m9)), (3, .int (Int32.ofInt i)), (4, .int (Int32.ofInt t))] [] 0 0 w M (fun o σ => o = (.inl none : XO) ∧ σ = (w, zheap (rpM C (raM C M0 (ztot C zn1).toNat) ((ztot C zn1).toNat + 1)))) := by
  intro zn
  induction zn with
  | zero =>
    intro t ht hm
    have hX : ∀ q : Nat, ¬ q = 132 → ¬ q = 133 → M q = M0 q := fun q h h2 => by rw [hM]; unfold rpM; rw [ztab_or h2, raM_o h]
    have hM2 : M 132 = (raM C M0 (ztot C zn1).toNat) 132 := by rw [hM]; exact ztab_or (by decide)
    obtain ⟨⟨g1, g2⟩, ⟨g3, g4⟩, g5⟩ := id hB.g
    obtain ⟨g6, g7⟩ := hB.g.sz
    have hz : zsz C zn1 = C (zn1 + 1) 0 * C (zn1 + 1) 1 := rfl
    have hm8 : zmi (ztot C zn1) 8 = ztot C zn1 := if_pos h8
    have ht0 := hB.t0
    have hA2 : rA C M := rA_c (by rw [hX _ (by decide) (by decide)]) (by rw [hX _ (by decide) (by decide)]) (hX _ (by decide) (by decide)) hA
    have hR2 : rL C M := rL_c (by rw [hX _ (by decide) (by decide)]) (by rw [hX _ (by decide) (by decide)]) (by rw [hX _ (by decide) (by decide)]) (hX _ (by decide) (by decide)) (hX _ (by decide) (by decide)) (hX _ (by decide) (by decide)) hR
    have hrow : ∀ k t : Int, 0 ≤ k → k ≤ ztot C zn1 → 0 ≤ t → t < zsz C zn1 → M 132 (36 * k + t).toNat = rahF C (ztot C zn1 - k).toNat t.toNat := fun k t h1 h2 h3 h4 => by
      rw [hM2, show (36 * k + t).toNat = (36 * (ztot C zn1 - ((ztot C zn1 - k).toNat : Int))).toNat + t.toNat by omega]
      exact raM_g hB (by omega) _ _ (by omega) (by omega)
    have hbd : ∀ k t : Int, 0 ≤ k → k ≤ ztot C zn1 → 0 ≤ t → t < zsz C zn1 → 0 ≤ M 132 (36 * k + t).toNat ∧ M 132 (36 * k + t).toNat ≤ 10000000000000000 := fun k t h1 h2 h3 h4 => by
      have h5 := rahF_b hB h8 (ztot C zn1 - k).toNat (by omega) t.toNat (by omega)
      have h6 := zp100_8 (n := (ztot C zn1 - k).toNat) (by omega)
      rw [hrow k t h1 h2 h3 h4]
      omega
    have hpf := rpz_f hB h8 i.toNat (by omega)
    have hpf0 := hpf.1
    have hpf1 : rpz C i.toNat < zsz C zn1 := hpf.2.1
    have hp3 : M 133 i.toNat = rpz C i.toNat := by rw [hM]; exact ztab_i (by omega)
    obtain ⟨k1, k2, k3, k4⟩ := zfirst_ok (e := 0) (zsz C zn1).toNat 0 (rnx_e (j := (ztot C zn1).toNat - 1 - i.toNat) hB h8 (by omega) hpf)
    have hT : rpz C (i.toNat + 1) = zfirst (rnx C ((ztot C zn1).toNat - 1 - i.toNat) (rpz C i.toNat)) 0 0 (zsz C zn1).toNat := rfl
    rw [← hT] at k1 k2 k3 k4
    have hje : ztot C zn1 - 1 - (((ztot C zn1).toNat - 1 - i.toNat : Nat) : Int) = i := by omega
    have hrn : zfree C zn1 t → t < zsz C zn1 → (rnx C ((ztot C zn1).toNat - 1 - i.toNat) (rpz C i.toNat) t.toNat ↔ zfac C zn1 i (M 133 i.toNat) t * M 132 (36 * (i + 1) + t).toNat = M 132 (36 * i + M 133 i.toNat).toNat) := fun h1 h2 => by
      have h3 : zfreeN C zn1 t.toNat := (zfreeN_i ht.1).mpr h1
      rw [hp3, hrow (i + 1) t (by omega) (by omega) ht.1 h2, hrow i _ (by omega) (by omega) hpf0 hpf1]
      unfold rnx
      rw [hje, Int.toNat_of_nonneg ht.1, show (ztot C zn1 - (i + 1)).toNat = (ztot C zn1).toNat - 1 - i.toNat by omega, show (ztot C zn1 - i).toNat = (ztot C zn1).toNat - 1 - i.toNat + 1 by omega]
      exact ⟨fun h => h.2, fun h => ⟨h3, h⟩⟩
    have hup : t = rpz C (i.toNat + 1) → zfree C zn1 t ∧ t < zsz C zn1 := fun h => by
      have h5 := k1.1
      rw [← h] at h5 k3
      exact ⟨(zfreeN_i ht.1).mp h5, by omega⟩
    have hlt : t < zsz C zn1 := by omega
    have hb1 := hbd (i + 1) t (by omega) (by omega) ht.1 hlt
    have hb0 := hbd i (M 133 i.toNat) (by omega) (by omega) (by omega) (by omega)
    have hfb := zfac_b hB (t := t) (f := M 133 i.toNat) (i := i) (by omega) (by omega)
    have hpr := zmul_b hfb hb1
    have hpf3 : zfree C zn1 (M 133 i.toNat) := by rw [hp3]; exact hpf
    have hnx : t < rpz C (i.toNat + 1) ∨ t = rpz C (i.toNat + 1) := by omega
    have hnn : t < rpz C (i.toNat + 1) → ¬ rnx C ((ztot C zn1).toNat - 1 - i.toNat) (rpz C i.toNat) t.toNat := fun h => k4 t.toNat (Nat.zero_le _) (by omega)
    have hyy : t = rpz C (i.toNat + 1) → rnx C ((ztot C zn1).toNat - 1 - i.toNat) (rpz C i.toNat) t.toNat := fun h => by rw [h]; exact k1
    exact zG_mono (N := NK + 45) (by omega) (zz_aload_n (pc := 103) xf_193_103 (zmem 0 rfl) (zz_iload (pc := 104) xf_193_104 (zmem 3 rfl) (zz_call_v (pc := 106) (cu := 0) (su := 0) (fun ls hr => zz_calV xf_193_106 rfl zis_115 ls hr) rfl (sp_isFreeR (d := d + 5) hB (by omega) hA2) (zz_ifbeq (pc := 109) xf_193_109 (fun (zc1 : ¬ (zfree C zn1 t)) => zz_iinc (pc := 160) xf_193_160 (zmem 3 rfl) (by decide +kernel) (zG_ro (ρ' := [(4, .int (Int32.ofInt (t + 1))), (0, .ref 115), (1, .int (Int32.ofInt m9)), (3, .int (Int32.ofInt i))]) rfl (zz_goto (pc := 163) xf_193_163 ((by exfalso; omega))))) (fun zc20 => have zc2 : zfree C zn1 t := Classical.not_not.mp zc20; zz_aload_n (pc := 112) xf_193_112 (zmem 0 rfl) (zz_iload_n (pc := 113) xf_193_113 (zmem 2 rfl) (zz_aload_n (pc := 114) xf_193_114 (zmem 0 rfl) (zz_getR (pc := 115) xf_193_115 zis_115 (by decide +kernel) rfl (zz_iload_n (pc := 118) xf_193_118 (zmem 2 rfl) (zz_iald (pc := 119) xf_193_119 zis_133 (by omega) (zz_iload (pc := 120) xf_193_120 (zmem 3 rfl) (zz_call_v (pc := 122) (cu := 0) (su := 0) (fun ls hr => zz_calV xf_193_122 rfl zis_115 ls hr) rfl (sp_factorR (d := d + 1) hB (by omega) hpf3 (by omega) hA2 hR2) (zz_aload_n (pc := 125) xf_193_125 (zmem 0 rfl) (zz_getR (pc := 126) xf_193_126 zis_115 (by decide +kernel) rfl (zz_bipush (pc := 129) (x := 36) xf_193_129 (by decide +kernel) (zz_iload_n (pc := 131) xf_193_131 (zmem 2 rfl) (zz_iconst (pc := 132) xf_193_132 (zz_iadd (pc := 133) xf_193_133 (zz_imul (pc := 134) xf_193_134 (zz_iload (pc := 135) xf_193_135 (zmem 3 rfl) (zz_iadd (pc := 137) xf_193_137 (zz_lald (pc := 138) xf_193_138 zis_132 (by omega) (zz_lmul (pc := 139) xf_193_139 (zz_aload_n (pc := 140) xf_193_140 (zmem 0 rfl) (zz_getR (pc := 141) xf_193_141 zis_115 (by decide +kernel) rfl (zz_bipush (pc := 144) (x := 36) xf_193_144 (by decide +kernel) (zz_iload_n (pc := 146) xf_193_146 (zmem 2 rfl) (zz_imul (pc := 147) xf_193_147 (zz_aload_n (pc := 148) xf_193_148 (zmem 0 rfl) (zz_getR (pc := 149) xf_193_149 zis_115 (by decide +kernel) rfl (zz_iload_n (pc := 152) xf_193_152 (zmem 2 rfl) (zz_iald (pc := 153) xf_193_153 zis_133 (by omega) (zz_iadd (pc := 154) xf_193_154 (zz_lald (pc := 155) xf_193_155 zis_132 (by omega) (zz_lcmp (pc := 156) xf_193_156 xf_193_157 (by unfold zr64; omega) (by unfold zr64; omega) (fun (zc3 : ((zfac C zn1 i (M 133 i.toNat) t) * (M 132 (((36) * (i + (1))) + t).toNat)) = (M 132 (((36) * i) + (M 133 i.toNat)).toNat)) => zz_aload_n (pc := 166) xf_193_166 (zmem 0 rfl) (zz_getR (pc := 167) xf_193_167 zis_115 (by decide +kernel) rfl (zz_iload_n (pc := 170) xf_193_170 (zmem 2 rfl) (zz_iconst (pc := 171) xf_193_171 (zz_iadd (pc := 172) xf_193_172 (zz_iload (pc := 173) xf_193_173 (zmem 3 rfl) (zz_iast (pc := 175) xf_193_175 zis_133 (by omega) (zm_as (fun zM5 (ezM5 : zM5 = zup M 133 (i + (1)).toNat t) => zz_iinc (pc := 176) xf_193_176 (zmem 2 rfl) (by decide +kernel) (zG_ro (ρ' := [(3, .int (Int32.ofInt (i + 1))), (0, .ref 115), (1, .int (Int32.ofInt m9)), (4, .int (Int32.ofInt t))]) rfl (zz_goto (pc := 179) xf_193_179 (zG_mono (N := NK) (by omega) (zG_sub (List.forall_mem_cons.mpr ⟨zmem 1 rfl, (List.forall_mem_cons.mpr ⟨zmem 2 rfl, (List.forall_mem_cons.mpr ⟨zmem 0 rfl, (fun p hp => absurd hp List.not_mem_nil)⟩)⟩)⟩) (hk _ (by have h9 : t = rpz C (i.toNat + 1) := (by rcases hnx with h | h; exact absurd ((hrn (by assumption) hlt).mpr (by assumption)) (hnn h); exact h); rw [ezM5, hM, h9]; unfold rpM; rw [show (i + 1).toNat = i.toNat + 1 by omega]; exact ztab_s rfl))))))))))))))) (fun (zc4 : ¬ (((zfac C zn1 i (M 133 i.toNat) t) * (M 132 (((36) * (i + (1))) + t).toNat)) = (M 132 (((36) * i) + (M 133 i.toNat)).toNat))) => zz_iinc (pc := 160) xf_193_160 (zmem 3 rfl) (by decide +kernel) (zG_ro (ρ' := [(4, .int (Int32.ofInt (t + 1))), (0, .ref 115), (1, .int (Int32.ofInt m9)), (3, .int (Int32.ofInt i))]) rfl (zz_goto (pc := 163) xf_193_163 ((by exfalso; omega))))))))))))))))))))))))))))))))))))))))
  | succ zn ih =>
    intro t ht hm
    have hX : ∀ q : Nat, ¬ q = 132 → ¬ q = 133 → M q = M0 q := fun q h h2 => by rw [hM]; unfold rpM; rw [ztab_or h2, raM_o h]
    have hM2 : M 132 = (raM C M0 (ztot C zn1).toNat) 132 := by rw [hM]; exact ztab_or (by decide)
    obtain ⟨⟨g1, g2⟩, ⟨g3, g4⟩, g5⟩ := id hB.g
    obtain ⟨g6, g7⟩ := hB.g.sz
    have hz : zsz C zn1 = C (zn1 + 1) 0 * C (zn1 + 1) 1 := rfl
    have hm8 : zmi (ztot C zn1) 8 = ztot C zn1 := if_pos h8
    have ht0 := hB.t0
    have hA2 : rA C M := rA_c (by rw [hX _ (by decide) (by decide)]) (by rw [hX _ (by decide) (by decide)]) (hX _ (by decide) (by decide)) hA
    have hR2 : rL C M := rL_c (by rw [hX _ (by decide) (by decide)]) (by rw [hX _ (by decide) (by decide)]) (by rw [hX _ (by decide) (by decide)]) (hX _ (by decide) (by decide)) (hX _ (by decide) (by decide)) (hX _ (by decide) (by decide)) hR
    have hrow : ∀ k t : Int, 0 ≤ k → k ≤ ztot C zn1 → 0 ≤ t → t < zsz C zn1 → M 132 (36 * k + t).toNat = rahF C (ztot C zn1 - k).toNat t.toNat := fun k t h1 h2 h3 h4 => by
      rw [hM2, show (36 * k + t).toNat = (36 * (ztot C zn1 - ((ztot C zn1 - k).toNat : Int))).toNat + t.toNat by omega]
      exact raM_g hB (by omega) _ _ (by omega) (by omega)
    have hbd : ∀ k t : Int, 0 ≤ k → k ≤ ztot C zn1 → 0 ≤ t → t < zsz C zn1 → 0 ≤ M 132 (36 * k + t).toNat ∧ M 132 (36 * k + t).toNat ≤ 10000000000000000 := fun k t h1 h2 h3 h4 => by
      have h5 := rahF_b hB h8 (ztot C zn1 - k).toNat (by omega) t.toNat (by omega)
      have h6 := zp100_8 (n := (ztot C zn1 - k).toNat) (by omega)
      rw [hrow k t h1 h2 h3 h4]
      omega
    have hpf := rpz_f hB h8 i.toNat (by omega)
    have hpf0 := hpf.1
    have hpf1 : rpz C i.toNat < zsz C zn1 := hpf.2.1
    have hp3 : M 133 i.toNat = rpz C i.toNat := by rw [hM]; exact ztab_i (by omega)
    obtain ⟨k1, k2, k3, k4⟩ := zfirst_ok (e := 0) (zsz C zn1).toNat 0 (rnx_e (j := (ztot C zn1).toNat - 1 - i.toNat) hB h8 (by omega) hpf)
    have hT : rpz C (i.toNat + 1) = zfirst (rnx C ((ztot C zn1).toNat - 1 - i.toNat) (rpz C i.toNat)) 0 0 (zsz C zn1).toNat := rfl
    rw [← hT] at k1 k2 k3 k4
    have hje : ztot C zn1 - 1 - (((ztot C zn1).toNat - 1 - i.toNat : Nat) : Int) = i := by omega
    have hrn : zfree C zn1 t → t < zsz C zn1 → (rnx C ((ztot C zn1).toNat - 1 - i.toNat) (rpz C i.toNat) t.toNat ↔ zfac C zn1 i (M 133 i.toNat) t * M 132 (36 * (i + 1) + t).toNat = M 132 (36 * i + M 133 i.toNat).toNat) := fun h1 h2 => by
      have h3 : zfreeN C zn1 t.toNat := (zfreeN_i ht.1).mpr h1
      rw [hp3, hrow (i + 1) t (by omega) (by omega) ht.1 h2, hrow i _ (by omega) (by omega) hpf0 hpf1]
      unfold rnx
      rw [hje, Int.toNat_of_nonneg ht.1, show (ztot C zn1 - (i + 1)).toNat = (ztot C zn1).toNat - 1 - i.toNat by omega, show (ztot C zn1 - i).toNat = (ztot C zn1).toNat - 1 - i.toNat + 1 by omega]
      exact ⟨fun h => h.2, fun h => ⟨h3, h⟩⟩
    have hup : t = rpz C (i.toNat + 1) → zfree C zn1 t ∧ t < zsz C zn1 := fun h => by
      have h5 := k1.1
      rw [← h] at h5 k3
      exact ⟨(zfreeN_i ht.1).mp h5, by omega⟩
    have hlt : t < zsz C zn1 := by omega
    have hb1 := hbd (i + 1) t (by omega) (by omega) ht.1 hlt
    have hb0 := hbd i (M 133 i.toNat) (by omega) (by omega) (by omega) (by omega)
    have hfb := zfac_b hB (t := t) (f := M 133 i.toNat) (i := i) (by omega) (by omega)
    have hpr := zmul_b hfb hb1
    have hpf3 : zfree C zn1 (M 133 i.toNat) := by rw [hp3]; exact hpf
    have hnx : t < rpz C (i.toNat + 1) ∨ t = rpz C (i.toNat + 1) := by omega
    have hnn : t < rpz C (i.toNat + 1) → ¬ rnx C ((ztot C zn1).toNat - 1 - i.toNat) (rpz C i.toNat) t.toNat := fun h => k4 t.toNat (Nat.zero_le _) (by omega)
    have hyy : t = rpz C (i.toNat + 1) → rnx C ((ztot C zn1).toNat - 1 - i.toNat) (rpz C i.toNat) t.toNat := fun h => by rw [h]; exact k1
    exact zG_mono (N := zn * 45 + (NK + 45) + 0 + 45) (by omega) (zz_aload_n (pc := 103) xf_193_103 (zmem 0 rfl) (zz_iload (pc := 104) xf_193_104 (zmem 3 rfl) (zz_call_v (pc := 106) (cu := 0) (su := 0) (fun ls hr => zz_calV xf_193_106 rfl zis_115 ls hr) rfl (sp_isFreeR (d := d + 5) hB (by omega) hA2) (zz_ifbeq (pc := 109) xf_193_109 (fun (zc1 : ¬ (zfree C zn1 t)) => zz_iinc (pc := 160) xf_193_160 (zmem 3 rfl) (by decide +kernel) (zG_ro (ρ' := [(4, .int (Int32.ofInt (t + 1))), (0, .ref 115), (1, .int (Int32.ofInt m9)), (3, .int (Int32.ofInt i))]) rfl (zz_goto (pc := 163) xf_193_163 (zG_mono (N := zn * 45 + (NK + 45)) (by omega) (zG_sub (List.forall_mem_cons.mpr ⟨zmem 1 rfl, (List.forall_mem_cons.mpr ⟨zmem 2 rfl, (List.forall_mem_cons.mpr ⟨zmem 3 rfl, (List.forall_mem_cons.mpr ⟨zmem 0 rfl, (fun p hp => absurd hp List.not_mem_nil)⟩)⟩)⟩)⟩) (ih (t + 1)  (by have h9 : ¬ t = rpz C (i.toNat + 1) := (fun h => by first | exact absurd (hup h).1 (by assumption) | exact absurd ((hrn (hup h).1 hlt).mp (hyy h)) (by assumption)); omega) (by omega))))))) (fun zc20 => have zc2 : zfree C zn1 t := Classical.not_not.mp zc20; zz_aload_n (pc := 112) xf_193_112 (zmem 0 rfl) (zz_iload_n (pc := 113) xf_193_113 (zmem 2 rfl) (zz_aload_n (pc := 114) xf_193_114 (zmem 0 rfl) (zz_getR (pc := 115) xf_193_115 zis_115 (by decide +kernel) rfl (zz_iload_n (pc := 118) xf_193_118 (zmem 2 rfl) (zz_iald (pc := 119) xf_193_119 zis_133 (by omega) (zz_iload (pc := 120) xf_193_120 (zmem 3 rfl) (zz_call_v (pc := 122) (cu := 0) (su := 0) (fun ls hr => zz_calV xf_193_122 rfl zis_115 ls hr) rfl (sp_factorR (d := d + 1) hB (by omega) hpf3 (by omega) hA2 hR2) (zz_aload_n (pc := 125) xf_193_125 (zmem 0 rfl) (zz_getR (pc := 126) xf_193_126 zis_115 (by decide +kernel) rfl (zz_bipush (pc := 129) (x := 36) xf_193_129 (by decide +kernel) (zz_iload_n (pc := 131) xf_193_131 (zmem 2 rfl) (zz_iconst (pc := 132) xf_193_132 (zz_iadd (pc := 133) xf_193_133 (zz_imul (pc := 134) xf_193_134 (zz_iload (pc := 135) xf_193_135 (zmem 3 rfl) (zz_iadd (pc := 137) xf_193_137 (zz_lald (pc := 138) xf_193_138 zis_132 (by omega) (zz_lmul (pc := 139) xf_193_139 (zz_aload_n (pc := 140) xf_193_140 (zmem 0 rfl) (zz_getR (pc := 141) xf_193_141 zis_115 (by decide +kernel) rfl (zz_bipush (pc := 144) (x := 36) xf_193_144 (by decide +kernel) (zz_iload_n (pc := 146) xf_193_146 (zmem 2 rfl) (zz_imul (pc := 147) xf_193_147 (zz_aload_n (pc := 148) xf_193_148 (zmem 0 rfl) (zz_getR (pc := 149) xf_193_149 zis_115 (by decide +kernel) rfl (zz_iload_n (pc := 152) xf_193_152 (zmem 2 rfl) (zz_iald (pc := 153) xf_193_153 zis_133 (by omega) (zz_iadd (pc := 154) xf_193_154 (zz_lald (pc := 155) xf_193_155 zis_132 (by omega) (zz_lcmp (pc := 156) xf_193_156 xf_193_157 (by unfold zr64; omega) (by unfold zr64; omega) (fun (zc3 : ((zfac C zn1 i (M 133 i.toNat) t) * (M 132 (((36) * (i + (1))) + t).toNat)) = (M 132 (((36) * i) + (M 133 i.toNat)).toNat)) => zz_aload_n (pc := 166) xf_193_166 (zmem 0 rfl) (zz_getR (pc := 167) xf_193_167 zis_115 (by decide +kernel) rfl (zz_iload_n (pc := 170) xf_193_170 (zmem 2 rfl) (zz_iconst (pc := 171) xf_193_171 (zz_iadd (pc := 172) xf_193_172 (zz_iload (pc := 173) xf_193_173 (zmem 3 rfl) (zz_iast (pc := 175) xf_193_175 zis_133 (by omega) (zm_as (fun zM5 (ezM5 : zM5 = zup M 133 (i + (1)).toNat t) => zz_iinc (pc := 176) xf_193_176 (zmem 2 rfl) (by decide +kernel) (zG_ro (ρ' := [(3, .int (Int32.ofInt (i + 1))), (0, .ref 115), (1, .int (Int32.ofInt m9)), (4, .int (Int32.ofInt t))]) rfl (zz_goto (pc := 179) xf_193_179 (zG_mono (N := NK) (by omega) (zG_sub (List.forall_mem_cons.mpr ⟨zmem 1 rfl, (List.forall_mem_cons.mpr ⟨zmem 2 rfl, (List.forall_mem_cons.mpr ⟨zmem 0 rfl, (fun p hp => absurd hp List.not_mem_nil)⟩)⟩)⟩) (hk _ (by have h9 : t = rpz C (i.toNat + 1) := (by rcases hnx with h | h; exact absurd ((hrn (by assumption) hlt).mpr (by assumption)) (hnn h); exact h); rw [ezM5, hM, h9]; unfold rpM; rw [show (i + 1).toNat = i.toNat + 1 by omega]; exact ztab_s rfl))))))))))))))) (fun (zc4 : ¬ (((zfac C zn1 i (M 133 i.toNat) t) * (M 132 (((36) * (i + (1))) + t).toNat)) = (M 132 (((36) * i) + (M 133 i.toNat)).toNat))) => zz_iinc (pc := 160) xf_193_160 (zmem 3 rfl) (by decide +kernel) (zG_ro (ρ' := [(4, .int (Int32.ofInt (t + 1))), (0, .ref 115), (1, .int (Int32.ofInt m9)), (3, .int (Int32.ofInt i))]) rfl (zz_goto (pc := 163) xf_193_163 (zG_mono (N := zn * 45 + (NK + 45)) (by omega) (zG_sub (List.forall_mem_cons.mpr ⟨zmem 1 rfl, (List.forall_mem_cons.mpr ⟨zmem 2 rfl, (List.forall_mem_cons.mpr ⟨zmem 3 rfl, (List.forall_mem_cons.mpr ⟨zmem 0 rfl, (fun p hp => absurd hp List.not_mem_nil)⟩)⟩)⟩)⟩) (ih (t + 1)  (by have h9 : ¬ t = rpz C (i.toNat + 1) := (fun h => by first | exact absurd (hup h).1 (by assumption) | exact absurd ((hrn (hup h).1 hlt).mp (hyy h)) (by assumption)); omega) (by omega))))))))))))))))))))))))))))))))))))))))))
theorem zl_findPathR_95 {xs : List Int32} {d : Nat} {w : Bool}  {C : zM} {n : Int} (hB : zBI n C zn1) {M0 : zM} (hA : rA C M0) (hR : rL C M0) (h8 : ztot C zn1 ≤ 8) {m9 : Int} (h9 : m9 = ztot C zn1) : ∀ (zn : Nat) (i : Int) (M : zM), (M = rpM C (raM C M0 (ztot C zn1).toNat) (i.toNat + 1)) → (0 ≤ i ∧ i ≤ ztot C zn1) → ztot C zn1 - i ≤ (zn : Int) → zG (xstep (xrun2 xs (d + 6)) xs 193) 193 (zn * 1670 + 5) 95 [(0, .ref 115), (1, .int (Int32.ofInt m9)), (3, .int (Int32.ofInt i))] [] 0 0 w M (fun o σ => o = (.inl none : XO) ∧ σ = (w, zheap (rpM C (raM C M0 (ztot C zn1).toNat) ((ztot C zn1).toNat + 1)))) := by
  intro zn
  induction zn with
  | zero =>
    intro i M hM hi hm
    have hX : ∀ q : Nat, ¬ q = 132 → ¬ q = 133 → M q = M0 q := fun q h h2 => by rw [hM]; unfold rpM; rw [ztab_or h2, raM_o h]
    have hM2 : M 132 = (raM C M0 (ztot C zn1).toNat) 132 := by rw [hM]; exact ztab_or (by decide)
    obtain ⟨⟨g1, g2⟩, ⟨g3, g4⟩, g5⟩ := id hB.g
    obtain ⟨g6, g7⟩ := hB.g.sz
    have hz : zsz C zn1 = C (zn1 + 1) 0 * C (zn1 + 1) 1 := rfl
    have hm8 : zmi (ztot C zn1) 8 = ztot C zn1 := if_pos h8
    have ht0 := hB.t0
    have hA2 : rA C M := rA_c (by rw [hX _ (by decide) (by decide)]) (by rw [hX _ (by decide) (by decide)]) (hX _ (by decide) (by decide)) hA
    have hR2 : rL C M := rL_c (by rw [hX _ (by decide) (by decide)]) (by rw [hX _ (by decide) (by decide)]) (by rw [hX _ (by decide) (by decide)]) (hX _ (by decide) (by decide)) (hX _ (by decide) (by decide)) (hX _ (by decide) (by decide)) hR
    have hrow : ∀ k t : Int, 0 ≤ k → k ≤ ztot C zn1 → 0 ≤ t → t < zsz C zn1 → M 132 (36 * k + t).toNat = rahF C (ztot C zn1 - k).toNat t.toNat := fun k t h1 h2 h3 h4 => by
      rw [hM2, show (36 * k + t).toNat = (36 * (ztot C zn1 - ((ztot C zn1 - k).toNat : Int))).toNat + t.toNat by omega]
      exact raM_g hB (by omega) _ _ (by omega) (by omega)
    have hbd : ∀ k t : Int, 0 ≤ k → k ≤ ztot C zn1 → 0 ≤ t → t < zsz C zn1 → 0 ≤ M 132 (36 * k + t).toNat ∧ M 132 (36 * k + t).toNat ≤ 10000000000000000 := fun k t h1 h2 h3 h4 => by
      have h5 := rahF_b hB h8 (ztot C zn1 - k).toNat (by omega) t.toNat (by omega)
      have h6 := zp100_8 (n := (ztot C zn1 - k).toNat) (by omega)
      rw [hrow k t h1 h2 h3 h4]
      omega
    exact zG_mono (N := 0 + 5) (by omega) (zz_iload_n (pc := 95) xf_193_95 (zmem 2 rfl) (zz_iload_n (pc := 96) xf_193_96 (zmem 1 rfl) (zz_icmp (pc := 97) xf_193_97 (by unfold zr32; omega) (by unfold zr32; omega) (fun (zc1 : ¬ (i < m9)) => zz_return (pc := 182) xf_193_182 rfl (by decide +kernel) (by decide +kernel) (by exact ⟨rfl, by rw [hM, show i.toNat = (ztot C zn1).toNat by omega]⟩)) (fun zc20 => have zc2 : i < m9 := Classical.not_not.mp zc20; zz_iconst (pc := 100) xf_193_100 (zz_istore (pc := 101) xf_193_101 (by decide +kernel) (zG_ro (ρ' := [(4, .int (Int32.ofInt (0))), (0, .ref 115), (1, .int (Int32.ofInt m9)), (3, .int (Int32.ofInt i))]) rfl ((by exfalso; omega))))))))
  | succ zn ih =>
    intro i M hM hi hm
    have hX : ∀ q : Nat, ¬ q = 132 → ¬ q = 133 → M q = M0 q := fun q h h2 => by rw [hM]; unfold rpM; rw [ztab_or h2, raM_o h]
    have hM2 : M 132 = (raM C M0 (ztot C zn1).toNat) 132 := by rw [hM]; exact ztab_or (by decide)
    obtain ⟨⟨g1, g2⟩, ⟨g3, g4⟩, g5⟩ := id hB.g
    obtain ⟨g6, g7⟩ := hB.g.sz
    have hz : zsz C zn1 = C (zn1 + 1) 0 * C (zn1 + 1) 1 := rfl
    have hm8 : zmi (ztot C zn1) 8 = ztot C zn1 := if_pos h8
    have ht0 := hB.t0
    have hA2 : rA C M := rA_c (by rw [hX _ (by decide) (by decide)]) (by rw [hX _ (by decide) (by decide)]) (hX _ (by decide) (by decide)) hA
    have hR2 : rL C M := rL_c (by rw [hX _ (by decide) (by decide)]) (by rw [hX _ (by decide) (by decide)]) (by rw [hX _ (by decide) (by decide)]) (hX _ (by decide) (by decide)) (hX _ (by decide) (by decide)) (hX _ (by decide) (by decide)) hR
    have hrow : ∀ k t : Int, 0 ≤ k → k ≤ ztot C zn1 → 0 ≤ t → t < zsz C zn1 → M 132 (36 * k + t).toNat = rahF C (ztot C zn1 - k).toNat t.toNat := fun k t h1 h2 h3 h4 => by
      rw [hM2, show (36 * k + t).toNat = (36 * (ztot C zn1 - ((ztot C zn1 - k).toNat : Int))).toNat + t.toNat by omega]
      exact raM_g hB (by omega) _ _ (by omega) (by omega)
    have hbd : ∀ k t : Int, 0 ≤ k → k ≤ ztot C zn1 → 0 ≤ t → t < zsz C zn1 → 0 ≤ M 132 (36 * k + t).toNat ∧ M 132 (36 * k + t).toNat ≤ 10000000000000000 := fun k t h1 h2 h3 h4 => by
      have h5 := rahF_b hB h8 (ztot C zn1 - k).toNat (by omega) t.toNat (by omega)
      have h6 := zp100_8 (n := (ztot C zn1 - k).toNat) (by omega)
      rw [hrow k t h1 h2 h3 h4]
      omega
    exact zG_mono (N := zn * 1670 + 5 + 1665 + 5) (by omega) (zz_iload_n (pc := 95) xf_193_95 (zmem 2 rfl) (zz_iload_n (pc := 96) xf_193_96 (zmem 1 rfl) (zz_icmp (pc := 97) xf_193_97 (by unfold zr32; omega) (by unfold zr32; omega) (fun (zc1 : ¬ (i < m9)) => zz_return (pc := 182) xf_193_182 rfl (by decide +kernel) (by decide +kernel) (by exact ⟨rfl, by rw [hM, show i.toNat = (ztot C zn1).toNat by omega]⟩)) (fun zc20 => have zc2 : i < m9 := Classical.not_not.mp zc20; zz_iconst (pc := 100) xf_193_100 (zz_istore (pc := 101) xf_193_101 (by decide +kernel) (zG_ro (ρ' := [(4, .int (Int32.ofInt (0))), (0, .ref 115), (1, .int (Int32.ofInt m9)), (3, .int (Int32.ofInt i))]) rfl (zG_mono (N := (36 * 45 + ((zn * 1670 + 5) + 45))) (by omega) (zG_sub (List.forall_mem_cons.mpr ⟨zmem 1 rfl, (List.forall_mem_cons.mpr ⟨zmem 2 rfl, (List.forall_mem_cons.mpr ⟨zmem 3 rfl, (List.forall_mem_cons.mpr ⟨zmem 0 rfl, (fun p hp => absurd hp List.not_mem_nil)⟩)⟩)⟩)⟩) ((by have h7 := rpz_f hB h8 (i.toNat + 1) (by omega); have h70 := h7.1; have h71 : rpz C (i.toNat + 1) < zsz C zn1 := h7.2.1; exact zl_findPathR_103 (M := M) hB hA hR h8 (NK := (zn * 1670 + 5)) (m9 := m9) (i := i) (by omega) hM (fun M2 hM3 => ih _ _ (by rw [hM3, show (i + 1).toNat + 1 = i.toNat + 2 by omega]) (by omega) (by omega)) 36 _ (by omega) (by omega)))))))))))
theorem zl_findPathR_35 {xs : List Int32} {d : Nat} {w : Bool} {M : zM} {C : zM} {n : Int} (hB : zBI n C zn1) {M0 : zM} (hA : rA C M0) (hR : rL C M0) (h8 : ztot C zn1 ≤ 8) {m9 : Int} (h9 : m9 = ztot C zn1) (hM : M = raM C M0 (ztot C zn1).toNat) : ∀ (zn : Nat) (c i : Int), (c = (if C (zn1 + 8) 0 < 0 then rpbF C (rahF C (ztot C zn1).toNat) i.toNat else C (zn1 + 8) 0)) → (C (zn1 + 8) 0 < 0 ∨ i = 0) → (0 ≤ i ∧ i ≤ zsz C zn1) → zsz C zn1 - i ≤ (zn : Int) → zG (xstep (xrun2 xs (d + 6)) xs 193) 193 (zn * 26 + 13391) 35 [(0, .ref 115), (1, .int (Int32.ofInt m9)), (2, .int (Int32.ofInt c)), (3, .int (Int32.ofInt i))] [] 0 0 w M (fun o σ => o = (.inl none : XO) ∧ σ = (w, zheap (rpM C (raM C M0 (ztot C zn1).toNat) ((ztot C zn1).toNat + 1)))) := by
  intro zn
  induction zn with
  | zero =>
    intro c i hc hib hi hm
    have hX : ∀ q : Nat, ¬ q = 132 → ¬ q = 133 → M q = M0 q := fun q h h2 => by rw [hM, raM_o h]
    have hM2 : M 132 = (raM C M0 (ztot C zn1).toNat) 132 := by rw [hM]
    obtain ⟨⟨g1, g2⟩, ⟨g3, g4⟩, g5⟩ := id hB.g
    obtain ⟨g6, g7⟩ := hB.g.sz
    have hz : zsz C zn1 = C (zn1 + 1) 0 * C (zn1 + 1) 1 := rfl
    have hm8 : zmi (ztot C zn1) 8 = ztot C zn1 := if_pos h8
    have ht0 := hB.t0
    have hA2 : rA C M := rA_c (by rw [hX _ (by decide) (by decide)]) (by rw [hX _ (by decide) (by decide)]) (hX _ (by decide) (by decide)) hA
    have hR2 : rL C M := rL_c (by rw [hX _ (by decide) (by decide)]) (by rw [hX _ (by decide) (by decide)]) (by rw [hX _ (by decide) (by decide)]) (hX _ (by decide) (by decide)) (hX _ (by decide) (by decide)) (hX _ (by decide) (by decide)) hR
    have hrow : ∀ k t : Int, 0 ≤ k → k ≤ ztot C zn1 → 0 ≤ t → t < zsz C zn1 → M 132 (36 * k + t).toNat = rahF C (ztot C zn1 - k).toNat t.toNat := fun k t h1 h2 h3 h4 => by
      rw [hM2, show (36 * k + t).toNat = (36 * (ztot C zn1 - ((ztot C zn1 - k).toNat : Int))).toNat + t.toNat by omega]
      exact raM_g hB (by omega) _ _ (by omega) (by omega)
    have hbd : ∀ k t : Int, 0 ≤ k → k ≤ ztot C zn1 → 0 ≤ t → t < zsz C zn1 → 0 ≤ M 132 (36 * k + t).toNat ∧ M 132 (36 * k + t).toNat ≤ 10000000000000000 := fun k t h1 h2 h3 h4 => by
      have h5 := rahF_b hB h8 (ztot C zn1 - k).toNat (by omega) t.toNat (by omega)
      have h6 := zp100_8 (n := (ztot C zn1 - k).toNat) (by omega)
      rw [hrow k t h1 h2 h3 h4]
      omega
    have hb21 : M 115 21 = C (zn1 + 8) 0 := hR2.1.2.2
    have hm1 := rpbF_f (R := rahF C (ztot C zn1).toNat) hB i.toNat
    have hcb : C (zn1 + 8) 0 < 0 → c = rpbF C (rahF C (ztot C zn1).toNat) i.toNat := fun h => by rw [hc, if_pos h]
    have hcn : ¬ C (zn1 + 8) 0 < 0 → c = C (zn1 + 8) 0 := fun h => by rw [hc, if_neg h]
    have hcf : zfree C zn1 c := by
      by_cases h : C (zn1 + 8) 0 < 0
      · rw [hcb h]; exact hm1
      · rw [hcn h]
        rcases hB.b4.2.2.2 with h2 | h2
        · omega
        · exact h2
    have hcf0 := hcf.1
    have hcf1 : c < zsz C zn1 := hcf.2.1
    have hr0 : ∀ t : Int, 0 ≤ t → t < zsz C zn1 → M 132 t.toNat = rahF C (ztot C zn1).toNat t.toNat := fun t h1 h2 => by
      have h3 := hrow 0 t (by omega) (by omega) h1 h2
      rw [show 36 * 0 + t = t by omega, show ztot C zn1 - 0 = ztot C zn1 by omega] at h3
      exact h3
    have hd0 : ∀ t : Int, 0 ≤ t → t < zsz C zn1 → 0 ≤ M 132 t.toNat ∧ M 132 t.toNat ≤ 10000000000000000 := fun t h1 h2 => by
      have h3 := hbd 0 t (by omega) (by omega) h1 h2
      rw [show 36 * 0 + t = t by omega] at h3
      exact h3
    have hdc := hd0 c (by omega) (by omega)
    have hdi := hd0 i hi.1
    have hb81 := hB.b4.1
    have hbz : -1 ≤ C (zn1 + 8) 0 ∧ C (zn1 + 8) 0 ≤ 35 := by
      rcases hB.b4.2.2.2 with h2 | h2
      · omega
      · have := h2.1; have h4 := h2.2.1; omega
    exact zG_mono (N := 13365 + 26) (by omega) (zz_iload_n (pc := 35) xf_193_35 (zmem 3 rfl) (zz_aload_n (pc := 36) xf_193_36 (zmem 0 rfl) (zz_call_v (pc := 37) (cu := 0) (su := 0) (fun ls hr => zz_calV xf_193_37 rfl zis_115 ls hr) rfl (sp_cellsR (d := d + 5) hB hA2) (zz_icmp (pc := 40) xf_193_40 (by unfold zr32; omega) (by unfold zr32; omega) (fun (zc1 : ¬ (i < (zsz C zn1))) => zz_aload_n (pc := 86) xf_193_86 (zmem 0 rfl) (zz_getR (pc := 87) xf_193_87 zis_115 (by decide +kernel) rfl (zz_iconst (pc := 90) xf_193_90 (zz_iload_n (pc := 91) xf_193_91 (zmem 2 rfl) (zz_iast (pc := 92) xf_193_92 zis_133 (by decide) (zm_as (fun zM3 (ezM3 : zM3 = zup M 133 0 c) => zz_iconst (pc := 93) xf_193_93 (zz_istore_n (pc := 94) xf_193_94 (by decide +kernel) (zG_ro (ρ' := [(3, .int (Int32.ofInt (0))), (0, .ref 115), (1, .int (Int32.ofInt m9)), (2, .int (Int32.ofInt c))]) rfl (zG_mono (N := 13365) (by omega) (zG_sub (List.forall_mem_cons.mpr ⟨zmem 1 rfl, (List.forall_mem_cons.mpr ⟨zmem 2 rfl, (List.forall_mem_cons.mpr ⟨zmem 0 rfl, (fun p hp => absurd hp List.not_mem_nil)⟩)⟩)⟩) ((by have h10 : c = rpb C := (by unfold rpb; rcases hib with h11 | h11; (rw [if_pos h11, hcb h11, show i.toNat = (zsz C zn1).toNat by omega]); (by_cases h12 : C (zn1 + 8) 0 < 0; (rw [if_pos h12, hcb h12, show i.toNat = (zsz C zn1).toNat by omega]); (rw [if_neg h12, hcn h12]))); exact zl_findPathR_95 hB hA hR h8 h9 8 0 _ (by rw [ezM3, hM, h10]; show _ = ztab _ 133 (0 + 1) (rpz C); rw [← ztab_s (M := raM C M0 (ztot C zn1).toNat) (q := 133) (n := 0) (F := rpz C) rfl, ztab_0]; rfl) (by omega) (by omega)))))))))))))) (fun zc20 => have zc2 : i < (zsz C zn1) := Classical.not_not.mp zc20; zz_aload_n (pc := 43) xf_193_43 (zmem 0 rfl) (zz_getI (pc := 44) xf_193_44 zis_115 (by decide +kernel) rfl (zz_if (pc := 47) xf_193_47 (by unfold zr32; omega) (fun (zc4 : ¬ ((M 115 21) < 0)) => zz_aload_n (pc := 86) xf_193_86 (zmem 0 rfl) (zz_getR (pc := 87) xf_193_87 zis_115 (by decide +kernel) rfl (zz_iconst (pc := 90) xf_193_90 (zz_iload_n (pc := 91) xf_193_91 (zmem 2 rfl) (zz_iast (pc := 92) xf_193_92 zis_133 (by decide) (zm_as (fun zM6 (ezM6 : zM6 = zup M 133 0 c) => zz_iconst (pc := 93) xf_193_93 (zz_istore_n (pc := 94) xf_193_94 (by decide +kernel) (zG_ro (ρ' := [(3, .int (Int32.ofInt (0))), (0, .ref 115), (1, .int (Int32.ofInt m9)), (2, .int (Int32.ofInt c))]) rfl (zG_mono (N := 13365) (by omega) (zG_sub (List.forall_mem_cons.mpr ⟨zmem 1 rfl, (List.forall_mem_cons.mpr ⟨zmem 2 rfl, (List.forall_mem_cons.mpr ⟨zmem 0 rfl, (fun p hp => absurd hp List.not_mem_nil)⟩)⟩)⟩) ((by have h10 : c = rpb C := (by unfold rpb; rcases hib with h11 | h11; (rw [if_pos h11, hcb h11, show i.toNat = (zsz C zn1).toNat by omega]); (by_cases h12 : C (zn1 + 8) 0 < 0; (rw [if_pos h12, hcb h12, show i.toNat = (zsz C zn1).toNat by omega]); (rw [if_neg h12, hcn h12]))); exact zl_findPathR_95 hB hA hR h8 h9 8 0 _ (by rw [ezM6, hM, h10]; show _ = ztab _ 133 (0 + 1) (rpz C); rw [← ztab_s (M := raM C M0 (ztot C zn1).toNat) (q := 133) (n := 0) (F := rpz C) rfl, ztab_0]; rfl) (by omega) (by omega)))))))))))))) (fun zc50 => have zc5 : (M 115 21) < 0 := Classical.not_not.mp zc50; zz_aload_n (pc := 50) xf_193_50 (zmem 0 rfl) (zz_iload_n (pc := 51) xf_193_51 (zmem 3 rfl) (zz_call_v (pc := 52) (cu := 0) (su := 0) (fun ls hr => zz_calV xf_193_52 rfl zis_115 ls hr) rfl (sp_isFreeR (d := d + 5) hB (by omega) hA2) (zz_ifbeq (pc := 55) xf_193_55 (fun (zc7 : ¬ (zfree C zn1 i)) => zz_iload_n (pc := 78) xf_193_78 (zmem 2 rfl) (zz_istore_n (pc := 79) xf_193_79 (by decide +kernel) (zG_ro (ρ' := [(2, .int (Int32.ofInt c)), (0, .ref 115), (1, .int (Int32.ofInt m9)), (3, .int (Int32.ofInt i))]) rfl (zz_iinc (pc := 80) xf_193_80 (zmem 3 rfl) (by decide +kernel) (zG_ro (ρ' := [(3, .int (Int32.ofInt (i + 1))), (2, .int (Int32.ofInt c)), (0, .ref 115), (1, .int (Int32.ofInt m9))]) rfl (zz_goto (pc := 83) xf_193_83 ((by exfalso; omega)))))))) (fun zc80 => have zc8 : zfree C zn1 i := Classical.not_not.mp zc80; zz_aload_n (pc := 58) xf_193_58 (zmem 0 rfl) (zz_getR (pc := 59) xf_193_59 zis_115 (by decide +kernel) rfl (zz_iload_n (pc := 62) xf_193_62 (zmem 3 rfl) (zz_lald (pc := 63) xf_193_63 zis_132 (by omega) (zz_aload_n (pc := 64) xf_193_64 (zmem 0 rfl) (zz_getR (pc := 65) xf_193_65 zis_115 (by decide +kernel) rfl (zz_iload_n (pc := 68) xf_193_68 (zmem 2 rfl) (zz_lald (pc := 69) xf_193_69 zis_132 (by omega) (zz_lcmp (pc := 70) xf_193_70 xf_193_71 (by unfold zr64; omega) (by unfold zr64; omega) (fun (zc9 : ¬ ((M 132 c.toNat) < (M 132 i.toNat))) => zz_iload_n (pc := 78) xf_193_78 (zmem 2 rfl) (zz_istore_n (pc := 79) xf_193_79 (by decide +kernel) (zG_ro (ρ' := [(2, .int (Int32.ofInt c)), (0, .ref 115), (1, .int (Int32.ofInt m9)), (3, .int (Int32.ofInt i))]) rfl (zz_iinc (pc := 80) xf_193_80 (zmem 3 rfl) (by decide +kernel) (zG_ro (ρ' := [(3, .int (Int32.ofInt (i + 1))), (2, .int (Int32.ofInt c)), (0, .ref 115), (1, .int (Int32.ofInt m9))]) rfl (zz_goto (pc := 83) xf_193_83 ((by exfalso; omega)))))))) (fun zc100 => have zc10 : (M 132 c.toNat) < (M 132 i.toNat) := Classical.not_not.mp zc100; zz_iload_n (pc := 74) xf_193_74 (zmem 3 rfl) (zz_goto (pc := 75) xf_193_75 (zz_istore_n (pc := 79) xf_193_79 (by decide +kernel) (zG_ro (ρ' := [(2, .int (Int32.ofInt i)), (0, .ref 115), (1, .int (Int32.ofInt m9)), (3, .int (Int32.ofInt i))]) rfl (zz_iinc (pc := 80) xf_193_80 (zmem 3 rfl) (by decide +kernel) (zG_ro (ρ' := [(3, .int (Int32.ofInt (i + 1))), (2, .int (Int32.ofInt i)), (0, .ref 115), (1, .int (Int32.ofInt m9))]) rfl (zz_goto (pc := 83) xf_193_83 ((by exfalso; omega)))))))))))))))))))))))))))))
  | succ zn ih =>
    intro c i hc hib hi hm
    have hX : ∀ q : Nat, ¬ q = 132 → ¬ q = 133 → M q = M0 q := fun q h h2 => by rw [hM, raM_o h]
    have hM2 : M 132 = (raM C M0 (ztot C zn1).toNat) 132 := by rw [hM]
    obtain ⟨⟨g1, g2⟩, ⟨g3, g4⟩, g5⟩ := id hB.g
    obtain ⟨g6, g7⟩ := hB.g.sz
    have hz : zsz C zn1 = C (zn1 + 1) 0 * C (zn1 + 1) 1 := rfl
    have hm8 : zmi (ztot C zn1) 8 = ztot C zn1 := if_pos h8
    have ht0 := hB.t0
    have hA2 : rA C M := rA_c (by rw [hX _ (by decide) (by decide)]) (by rw [hX _ (by decide) (by decide)]) (hX _ (by decide) (by decide)) hA
    have hR2 : rL C M := rL_c (by rw [hX _ (by decide) (by decide)]) (by rw [hX _ (by decide) (by decide)]) (by rw [hX _ (by decide) (by decide)]) (hX _ (by decide) (by decide)) (hX _ (by decide) (by decide)) (hX _ (by decide) (by decide)) hR
    have hrow : ∀ k t : Int, 0 ≤ k → k ≤ ztot C zn1 → 0 ≤ t → t < zsz C zn1 → M 132 (36 * k + t).toNat = rahF C (ztot C zn1 - k).toNat t.toNat := fun k t h1 h2 h3 h4 => by
      rw [hM2, show (36 * k + t).toNat = (36 * (ztot C zn1 - ((ztot C zn1 - k).toNat : Int))).toNat + t.toNat by omega]
      exact raM_g hB (by omega) _ _ (by omega) (by omega)
    have hbd : ∀ k t : Int, 0 ≤ k → k ≤ ztot C zn1 → 0 ≤ t → t < zsz C zn1 → 0 ≤ M 132 (36 * k + t).toNat ∧ M 132 (36 * k + t).toNat ≤ 10000000000000000 := fun k t h1 h2 h3 h4 => by
      have h5 := rahF_b hB h8 (ztot C zn1 - k).toNat (by omega) t.toNat (by omega)
      have h6 := zp100_8 (n := (ztot C zn1 - k).toNat) (by omega)
      rw [hrow k t h1 h2 h3 h4]
      omega
    have hb21 : M 115 21 = C (zn1 + 8) 0 := hR2.1.2.2
    have hm1 := rpbF_f (R := rahF C (ztot C zn1).toNat) hB i.toNat
    have hcb : C (zn1 + 8) 0 < 0 → c = rpbF C (rahF C (ztot C zn1).toNat) i.toNat := fun h => by rw [hc, if_pos h]
    have hcn : ¬ C (zn1 + 8) 0 < 0 → c = C (zn1 + 8) 0 := fun h => by rw [hc, if_neg h]
    have hcf : zfree C zn1 c := by
      by_cases h : C (zn1 + 8) 0 < 0
      · rw [hcb h]; exact hm1
      · rw [hcn h]
        rcases hB.b4.2.2.2 with h2 | h2
        · omega
        · exact h2
    have hcf0 := hcf.1
    have hcf1 : c < zsz C zn1 := hcf.2.1
    have hr0 : ∀ t : Int, 0 ≤ t → t < zsz C zn1 → M 132 t.toNat = rahF C (ztot C zn1).toNat t.toNat := fun t h1 h2 => by
      have h3 := hrow 0 t (by omega) (by omega) h1 h2
      rw [show 36 * 0 + t = t by omega, show ztot C zn1 - 0 = ztot C zn1 by omega] at h3
      exact h3
    have hd0 : ∀ t : Int, 0 ≤ t → t < zsz C zn1 → 0 ≤ M 132 t.toNat ∧ M 132 t.toNat ≤ 10000000000000000 := fun t h1 h2 => by
      have h3 := hbd 0 t (by omega) (by omega) h1 h2
      rw [show 36 * 0 + t = t by omega] at h3
      exact h3
    have hdc := hd0 c (by omega) (by omega)
    have hdi := hd0 i hi.1
    have hb81 := hB.b4.1
    have hbz : -1 ≤ C (zn1 + 8) 0 ∧ C (zn1 + 8) 0 ≤ 35 := by
      rcases hB.b4.2.2.2 with h2 | h2
      · omega
      · have := h2.1; have h4 := h2.2.1; omega
    exact zG_mono (N := zn * 26 + 13391 + 0 + 26) (by omega) (zz_iload_n (pc := 35) xf_193_35 (zmem 3 rfl) (zz_aload_n (pc := 36) xf_193_36 (zmem 0 rfl) (zz_call_v (pc := 37) (cu := 0) (su := 0) (fun ls hr => zz_calV xf_193_37 rfl zis_115 ls hr) rfl (sp_cellsR (d := d + 5) hB hA2) (zz_icmp (pc := 40) xf_193_40 (by unfold zr32; omega) (by unfold zr32; omega) (fun (zc1 : ¬ (i < (zsz C zn1))) => zz_aload_n (pc := 86) xf_193_86 (zmem 0 rfl) (zz_getR (pc := 87) xf_193_87 zis_115 (by decide +kernel) rfl (zz_iconst (pc := 90) xf_193_90 (zz_iload_n (pc := 91) xf_193_91 (zmem 2 rfl) (zz_iast (pc := 92) xf_193_92 zis_133 (by decide) (zm_as (fun zM3 (ezM3 : zM3 = zup M 133 0 c) => zz_iconst (pc := 93) xf_193_93 (zz_istore_n (pc := 94) xf_193_94 (by decide +kernel) (zG_ro (ρ' := [(3, .int (Int32.ofInt (0))), (0, .ref 115), (1, .int (Int32.ofInt m9)), (2, .int (Int32.ofInt c))]) rfl (zG_mono (N := 13365) (by omega) (zG_sub (List.forall_mem_cons.mpr ⟨zmem 1 rfl, (List.forall_mem_cons.mpr ⟨zmem 2 rfl, (List.forall_mem_cons.mpr ⟨zmem 0 rfl, (fun p hp => absurd hp List.not_mem_nil)⟩)⟩)⟩) ((by have h10 : c = rpb C := (by unfold rpb; rcases hib with h11 | h11; (rw [if_pos h11, hcb h11, show i.toNat = (zsz C zn1).toNat by omega]); (by_cases h12 : C (zn1 + 8) 0 < 0; (rw [if_pos h12, hcb h12, show i.toNat = (zsz C zn1).toNat by omega]); (rw [if_neg h12, hcn h12]))); exact zl_findPathR_95 hB hA hR h8 h9 8 0 _ (by rw [ezM3, hM, h10]; show _ = ztab _ 133 (0 + 1) (rpz C); rw [← ztab_s (M := raM C M0 (ztot C zn1).toNat) (q := 133) (n := 0) (F := rpz C) rfl, ztab_0]; rfl) (by omega) (by omega)))))))))))))) (fun zc20 => have zc2 : i < (zsz C zn1) := Classical.not_not.mp zc20; zz_aload_n (pc := 43) xf_193_43 (zmem 0 rfl) (zz_getI (pc := 44) xf_193_44 zis_115 (by decide +kernel) rfl (zz_if (pc := 47) xf_193_47 (by unfold zr32; omega) (fun (zc4 : ¬ ((M 115 21) < 0)) => zz_aload_n (pc := 86) xf_193_86 (zmem 0 rfl) (zz_getR (pc := 87) xf_193_87 zis_115 (by decide +kernel) rfl (zz_iconst (pc := 90) xf_193_90 (zz_iload_n (pc := 91) xf_193_91 (zmem 2 rfl) (zz_iast (pc := 92) xf_193_92 zis_133 (by decide) (zm_as (fun zM6 (ezM6 : zM6 = zup M 133 0 c) => zz_iconst (pc := 93) xf_193_93 (zz_istore_n (pc := 94) xf_193_94 (by decide +kernel) (zG_ro (ρ' := [(3, .int (Int32.ofInt (0))), (0, .ref 115), (1, .int (Int32.ofInt m9)), (2, .int (Int32.ofInt c))]) rfl (zG_mono (N := 13365) (by omega) (zG_sub (List.forall_mem_cons.mpr ⟨zmem 1 rfl, (List.forall_mem_cons.mpr ⟨zmem 2 rfl, (List.forall_mem_cons.mpr ⟨zmem 0 rfl, (fun p hp => absurd hp List.not_mem_nil)⟩)⟩)⟩) ((by have h10 : c = rpb C := (by unfold rpb; rcases hib with h11 | h11; (rw [if_pos h11, hcb h11, show i.toNat = (zsz C zn1).toNat by omega]); (by_cases h12 : C (zn1 + 8) 0 < 0; (rw [if_pos h12, hcb h12, show i.toNat = (zsz C zn1).toNat by omega]); (rw [if_neg h12, hcn h12]))); exact zl_findPathR_95 hB hA hR h8 h9 8 0 _ (by rw [ezM6, hM, h10]; show _ = ztab _ 133 (0 + 1) (rpz C); rw [← ztab_s (M := raM C M0 (ztot C zn1).toNat) (q := 133) (n := 0) (F := rpz C) rfl, ztab_0]; rfl) (by omega) (by omega)))))))))))))) (fun zc50 => have zc5 : (M 115 21) < 0 := Classical.not_not.mp zc50; zz_aload_n (pc := 50) xf_193_50 (zmem 0 rfl) (zz_iload_n (pc := 51) xf_193_51 (zmem 3 rfl) (zz_call_v (pc := 52) (cu := 0) (su := 0) (fun ls hr => zz_calV xf_193_52 rfl zis_115 ls hr) rfl (sp_isFreeR (d := d + 5) hB (by omega) hA2) (zz_ifbeq (pc := 55) xf_193_55 (fun (zc7 : ¬ (zfree C zn1 i)) => zz_iload_n (pc := 78) xf_193_78 (zmem 2 rfl) (zz_istore_n (pc := 79) xf_193_79 (by decide +kernel) (zG_ro (ρ' := [(2, .int (Int32.ofInt c)), (0, .ref 115), (1, .int (Int32.ofInt m9)), (3, .int (Int32.ofInt i))]) rfl (zz_iinc (pc := 80) xf_193_80 (zmem 3 rfl) (by decide +kernel) (zG_ro (ρ' := [(3, .int (Int32.ofInt (i + 1))), (2, .int (Int32.ofInt c)), (0, .ref 115), (1, .int (Int32.ofInt m9))]) rfl (zz_goto (pc := 83) xf_193_83 (zG_mono (N := zn * 26 + 13391) (by omega) (zG_sub (List.forall_mem_cons.mpr ⟨zmem 2 rfl, (List.forall_mem_cons.mpr ⟨zmem 3 rfl, (List.forall_mem_cons.mpr ⟨zmem 1 rfl, (List.forall_mem_cons.mpr ⟨zmem 0 rfl, (fun p hp => absurd hp List.not_mem_nil)⟩)⟩)⟩)⟩) (ih c (i + 1)  (by rw [if_pos (by omega), show (i + 1).toNat = i.toNat + 1 by omega]; have e9 := hcb (by omega); show _ = @ite _ (zfreeN C zn1 i.toNat ∧ rahF C (ztot C zn1).toNat (rpbF C (rahF C (ztot C zn1).toNat) i.toNat).toNat < rahF C (ztot C zn1).toNat i.toNat) (Classical.propDecidable _) ((i.toNat : Nat) : Int) (rpbF C (rahF C (ztot C zn1).toNat) i.toNat); rw [← e9, ← hr0 c (by omega) (by omega), ← hr0 i (by omega) (by omega), Int.toNat_of_nonneg hi.1]; first | rw [if_pos ⟨(zfreeN_i hi.1).mpr (by assumption), by assumption⟩] | rw [if_neg (fun e => absurd ((zfreeN_i hi.1).mp e.1) (by assumption))] | rw [if_neg (fun e => absurd e.2 (by assumption))]) (Or.inl (by omega)) (by omega) (by omega)))))))))) (fun zc80 => have zc8 : zfree C zn1 i := Classical.not_not.mp zc80; zz_aload_n (pc := 58) xf_193_58 (zmem 0 rfl) (zz_getR (pc := 59) xf_193_59 zis_115 (by decide +kernel) rfl (zz_iload_n (pc := 62) xf_193_62 (zmem 3 rfl) (zz_lald (pc := 63) xf_193_63 zis_132 (by omega) (zz_aload_n (pc := 64) xf_193_64 (zmem 0 rfl) (zz_getR (pc := 65) xf_193_65 zis_115 (by decide +kernel) rfl (zz_iload_n (pc := 68) xf_193_68 (zmem 2 rfl) (zz_lald (pc := 69) xf_193_69 zis_132 (by omega) (zz_lcmp (pc := 70) xf_193_70 xf_193_71 (by unfold zr64; omega) (by unfold zr64; omega) (fun (zc9 : ¬ ((M 132 c.toNat) < (M 132 i.toNat))) => zz_iload_n (pc := 78) xf_193_78 (zmem 2 rfl) (zz_istore_n (pc := 79) xf_193_79 (by decide +kernel) (zG_ro (ρ' := [(2, .int (Int32.ofInt c)), (0, .ref 115), (1, .int (Int32.ofInt m9)), (3, .int (Int32.ofInt i))]) rfl (zz_iinc (pc := 80) xf_193_80 (zmem 3 rfl) (by decide +kernel) (zG_ro (ρ' := [(3, .int (Int32.ofInt (i + 1))), (2, .int (Int32.ofInt c)), (0, .ref 115), (1, .int (Int32.ofInt m9))]) rfl (zz_goto (pc := 83) xf_193_83 (zG_mono (N := zn * 26 + 13391) (by omega) (zG_sub (List.forall_mem_cons.mpr ⟨zmem 2 rfl, (List.forall_mem_cons.mpr ⟨zmem 3 rfl, (List.forall_mem_cons.mpr ⟨zmem 1 rfl, (List.forall_mem_cons.mpr ⟨zmem 0 rfl, (fun p hp => absurd hp List.not_mem_nil)⟩)⟩)⟩)⟩) (ih c (i + 1)  (by rw [if_pos (by omega), show (i + 1).toNat = i.toNat + 1 by omega]; have e9 := hcb (by omega); show _ = @ite _ (zfreeN C zn1 i.toNat ∧ rahF C (ztot C zn1).toNat (rpbF C (rahF C (ztot C zn1).toNat) i.toNat).toNat < rahF C (ztot C zn1).toNat i.toNat) (Classical.propDecidable _) ((i.toNat : Nat) : Int) (rpbF C (rahF C (ztot C zn1).toNat) i.toNat); rw [← e9, ← hr0 c (by omega) (by omega), ← hr0 i (by omega) (by omega), Int.toNat_of_nonneg hi.1]; first | rw [if_pos ⟨(zfreeN_i hi.1).mpr (by assumption), by assumption⟩] | rw [if_neg (fun e => absurd ((zfreeN_i hi.1).mp e.1) (by assumption))] | rw [if_neg (fun e => absurd e.2 (by assumption))]) (Or.inl (by omega)) (by omega) (by omega)))))))))) (fun zc100 => have zc10 : (M 132 c.toNat) < (M 132 i.toNat) := Classical.not_not.mp zc100; zz_iload_n (pc := 74) xf_193_74 (zmem 3 rfl) (zz_goto (pc := 75) xf_193_75 (zz_istore_n (pc := 79) xf_193_79 (by decide +kernel) (zG_ro (ρ' := [(2, .int (Int32.ofInt i)), (0, .ref 115), (1, .int (Int32.ofInt m9)), (3, .int (Int32.ofInt i))]) rfl (zz_iinc (pc := 80) xf_193_80 (zmem 3 rfl) (by decide +kernel) (zG_ro (ρ' := [(3, .int (Int32.ofInt (i + 1))), (2, .int (Int32.ofInt i)), (0, .ref 115), (1, .int (Int32.ofInt m9))]) rfl (zz_goto (pc := 83) xf_193_83 (zG_mono (N := zn * 26 + 13391) (by omega) (zG_sub (List.forall_mem_cons.mpr ⟨zmem 2 rfl, (List.forall_mem_cons.mpr ⟨zmem 3 rfl, (List.forall_mem_cons.mpr ⟨zmem 1 rfl, (List.forall_mem_cons.mpr ⟨zmem 0 rfl, (fun p hp => absurd hp List.not_mem_nil)⟩)⟩)⟩)⟩) (ih i (i + 1)  (by rw [if_pos (by omega), show (i + 1).toNat = i.toNat + 1 by omega]; have e9 := hcb (by omega); show _ = @ite _ (zfreeN C zn1 i.toNat ∧ rahF C (ztot C zn1).toNat (rpbF C (rahF C (ztot C zn1).toNat) i.toNat).toNat < rahF C (ztot C zn1).toNat i.toNat) (Classical.propDecidable _) ((i.toNat : Nat) : Int) (rpbF C (rahF C (ztot C zn1).toNat) i.toNat); rw [← e9, ← hr0 c (by omega) (by omega), ← hr0 i (by omega) (by omega), Int.toNat_of_nonneg hi.1]; first | rw [if_pos ⟨(zfreeN_i hi.1).mpr (by assumption), by assumption⟩] | rw [if_neg (fun e => absurd ((zfreeN_i hi.1).mp e.1) (by assumption))] | rw [if_neg (fun e => absurd e.2 (by assumption))]) (Or.inl (by omega)) (by omega) (by omega)))))))))))))))))))))))))))))))
theorem sp_findPathR {xs : List Int32} {d : Nat} {w : Bool} {M : zM} {C : zM} {n : Int} (hB : zBI n C zn1) (hA : rA C M) (hR : rL C M) (h8 : ztot C zn1 ≤ 8) : xrun2 xs (d + 7) 193 [.ref 115] (w, zheap M) = some (.inl none, (w, zheap (rpM C (raM C M (ztot C zn1).toNat) ((ztot C zn1).toNat + 1)))) := by
  obtain ⟨⟨a1, a2⟩, a3⟩ := id hA
  obtain ⟨⟨g1, g2⟩, ⟨g3, g4⟩, g5⟩ := id hB.g
  obtain ⟨g6, g7⟩ := hB.g.sz
  have hz : zsz C zn1 = C (zn1 + 1) 0 * C (zn1 + 1) 1 := rfl
  have hb9 := hR.1.2.2
  have ht19 := hR.1.1
  have ht20 := hR.1.2.1
  have hbz : -1 ≤ C (zn1 + 8) 0 ∧ C (zn1 + 8) 0 ≤ 35 := by
    rcases hB.b4.2.2.2 with h2 | h2
    · omega
    · have := h2.1; have h4 := h2.2.1; omega
  exact zrun_v (N := 14344) (by decide) rfl (zz_aload_n (pc := 0) xf_193_0 (zmem 0 rfl) (zz_call_0 (pc := 1) (cu := 0) (su := 0) (fun ls hr => zz_calV xf_193_1 rfl zis_115 ls hr) rfl (sp_findAheadR (d := d) hB hA hR h8) (zm_as (fun zM1 (ezM1 : zM1 = raM C M (ztot C zn1).toNat) => zz_aload_n (pc := 4) xf_193_4 (zmem 0 rfl) (zz_getI (pc := 5) xf_193_5 zis_115 (by decide +kernel) rfl (zz_aload_n (pc := 8) xf_193_8 (zmem 0 rfl) (zz_getI (pc := 9) xf_193_9 zis_115 (by decide +kernel) rfl (zz_iadd (pc := 12) xf_193_12 (zz_istore_n (pc := 13) xf_193_13 (by decide +kernel) (zG_ro (ρ' := [(1, .int (Int32.ofInt ((zM1 115 19) + (zM1 115 20)))), (0, .ref 115)]) rfl (zz_aload_n (pc := 14) xf_193_14 (zmem 1 rfl) (zz_getI (pc := 15) xf_193_15 zis_115 (by decide +kernel) rfl (zz_if (pc := 18) xf_193_18 (by have h7 : zM1 115 21 = M 115 21 := (by subst_vars; rw [raM_o (by decide)]); rw [h7, hb9]; unfold zr32; omega) (fun (zc2 : ¬ ((zM1 115 21) < 0)) => zz_aload_n (pc := 28) xf_193_28 (zmem 1 rfl) (zz_getI (pc := 29) xf_193_29 zis_115 (by decide +kernel) rfl (zz_istore_n (pc := 32) xf_193_32 (by decide +kernel) (zG_ro (ρ' := [(2, .int (Int32.ofInt (zM1 115 21))), (1, .int (Int32.ofInt ((zM1 115 19) + (zM1 115 20)))), (0, .ref 115)]) rfl (zz_iconst (pc := 33) xf_193_33 (zz_istore_n (pc := 34) xf_193_34 (by decide +kernel) (zG_ro (ρ' := [(3, .int (Int32.ofInt (0))), (2, .int (Int32.ofInt (zM1 115 21))), (1, .int (Int32.ofInt ((zM1 115 19) + (zM1 115 20)))), (0, .ref 115)]) rfl (zG_mono (N := 14327) (by omega) (zG_sub (List.forall_mem_cons.mpr ⟨zmem 3 rfl, (List.forall_mem_cons.mpr ⟨zmem 2 rfl, (List.forall_mem_cons.mpr ⟨zmem 1 rfl, (List.forall_mem_cons.mpr ⟨zmem 0 rfl, (fun p hp => absurd hp List.not_mem_nil)⟩)⟩)⟩)⟩) ((by have e9 : zM1 = raM C M (ztot C zn1).toNat := (by subst_vars; rfl); have hq : ∀ j : Nat, zM1 115 j = M 115 j := (fun j => by rw [e9, raM_o (by decide)]); have h21 := hq 21; have hb9 := hR.1.2.2; have hh : (zM1 115 19) + (zM1 115 20) = ztot C zn1 := (by rw [hq 19, hq 20]; exact hR.tt); exact zl_findPathR_35 hB hA hR h8 hh e9 36 _ 0 (by first | (rw [if_pos (by omega)]; rfl) | (rw [if_neg (by omega)]; omega)) (Or.inr rfl) (by have := hB.g.sz; unfold zsz; omega) (by have := hB.g.sz; unfold zsz; omega)))))))))))) (fun zc30 => have zc3 : (zM1 115 21) < 0 := Classical.not_not.mp zc30; zz_aload_n (pc := 21) xf_193_21 (zmem 1 rfl) (zz_call_v (pc := 22) (cu := 0) (su := 0) (fun ls hr => zz_calV xf_193_22 rfl zis_115 ls hr) rfl (sp_firstFreeR (d := d + 4) hB (by subst_vars; exact rA_c (by rw [raM_o (by decide)]) (by rw [raM_o (by decide)]) (raM_o (by decide) _) hA)) (zz_goto (pc := 25) xf_193_25 (zz_istore_n (pc := 32) xf_193_32 (by decide +kernel) (zG_ro (ρ' := [(2, .int (Int32.ofInt (zlow C zn1))), (1, .int (Int32.ofInt ((zM1 115 19) + (zM1 115 20)))), (0, .ref 115)]) rfl (zz_iconst (pc := 33) xf_193_33 (zz_istore_n (pc := 34) xf_193_34 (by decide +kernel) (zG_ro (ρ' := [(3, .int (Int32.ofInt (0))), (2, .int (Int32.ofInt (zlow C zn1))), (1, .int (Int32.ofInt ((zM1 115 19) + (zM1 115 20)))), (0, .ref 115)]) rfl (zG_mono (N := 14327) (by omega) (zG_sub (List.forall_mem_cons.mpr ⟨zmem 3 rfl, (List.forall_mem_cons.mpr ⟨zmem 2 rfl, (List.forall_mem_cons.mpr ⟨zmem 1 rfl, (List.forall_mem_cons.mpr ⟨zmem 0 rfl, (fun p hp => absurd hp List.not_mem_nil)⟩)⟩)⟩)⟩) ((by have e9 : zM1 = raM C M (ztot C zn1).toNat := (by subst_vars; rfl); have hq : ∀ j : Nat, zM1 115 j = M 115 j := (fun j => by rw [e9, raM_o (by decide)]); have h21 := hq 21; have hb9 := hR.1.2.2; have hh : (zM1 115 19) + (zM1 115 20) = ztot C zn1 := (by rw [hq 19, hq 20]; exact hR.tt); exact zl_findPathR_35 hB hA hR h8 hh e9 36 _ 0 (by first | (rw [if_pos (by omega)]; rfl) | (rw [if_neg (by omega)]; omega)) (Or.inr rfl) (by have := hB.g.sz; unfold zsz; omega) (by have := hB.g.sz; unfold zsz; omega))))))))))))))))))))))))))
theorem sp_pathR_0 {xs : List Int32} {d : Nat} {w : Bool} {M : zM} {C : zM} {n : Int} (hB : zBI n C zn1) {x : Int} (hx : zr32 x) (hA : rA C M) (hR : rL C M) (hn : n ≤ 1000) (c0 : 8 < ztot C zn1) : xrun2 xs (d + 8) 194 [.ref 115, .int (Int32.ofInt x)] (w, zheap M) = some (.inl (some (.int (Int32.ofInt (0)))), (w, zheap (zup M 115 0 1))) := by
  obtain ⟨⟨a1, a2⟩, a3⟩ := id hA
  obtain ⟨⟨g1, g2⟩, ⟨g3, g4⟩, g5⟩ := id hB.g
  obtain ⟨g6, g7⟩ := hB.g.sz
  have hz : zsz C zn1 = C (zn1 + 1) 0 * C (zn1 + 1) 1 := rfl
  have htt := hR.tt
  have ht0 := hB.t0
  have h4n := hB.b4.2.1
  have hte : rtt M = M 115 19 + M 115 20 := rfl
  have htd : ztot C zn1 = C (zn1 + 8) 1 + C (zn1 + 8) 2 := rfl
  have hA0 : rA C (zup M 115 0 0) := rA_c (zup_ne (by decide)) (zup_ne (by decide)) (zup_or (by decide)) hA
  have hR0 : rL C (zup M 115 0 0) := rL_c (zup_ne (by decide)) (zup_ne (by decide)) (zup_ne (by decide)) (zup_or (by decide)) (zup_or (by decide)) (zup_or (by decide)) hR
  exact zrun_v (N := 21) (by decide) rfl (zz_aload_n (pc := 0) xf_194_0 (zmem 0 rfl) (zz_call_v (pc := 1) (cu := 0) (su := 0) (fun ls hr => zz_calV xf_194_1 rfl zis_115 ls hr) rfl (sp_hasExactR (d := d + 6) (by omega)) (zz_ifbne (pc := 4) xf_194_4 (fun (zc1 : rtt M ≤ 8) => zz_iload_n (pc := 13) xf_194_13 (zmem 1 rfl) (zz_iconst (pc := 14) xf_194_14 (zz_aload_n (pc := 15) xf_194_15 (zmem 0 rfl) (zz_getI (pc := 16) xf_194_16 zis_115 (by decide +kernel) rfl (zz_aload_n (pc := 19) xf_194_19 (zmem 0 rfl) (zz_getI (pc := 20) xf_194_20 zis_115 (by decide +kernel) rfl (zz_iadd (pc := 23) xf_194_23 (zz_call_v (pc := 24) (cu := 0) (su := 0) (fun ls hr => zz_calS xf_194_24 rfl ls hr) rfl (sp_isBetweenR (d := d + 6) hx (by unfold zr32; omega) (by unfold zr32; omega)) (zz_ifbne (pc := 27) xf_194_27 (fun (zc3 : (0) ≤ x ∧ x ≤ ((M 115 19) + (M 115 20))) => zz_aload_n (pc := 36) xf_194_36 (zmem 0 rfl) (zz_iconst (pc := 37) xf_194_37 (zz_putI (pc := 38) xf_194_38 zis_115 (by decide +kernel) rfl (by decide +kernel) (zm_as (fun zM5 (ezM5 : zM5 = zup M 115 0 (0)) => zz_aload_n (pc := 41) xf_194_41 (zmem 0 rfl) (zz_call_0 (pc := 42) (cu := 0) (su := 0) (fun ls hr => zz_calV xf_194_42 rfl zis_115 ls hr) rfl (sp_findPathR (d := d) hB (by subst_vars; exact hA0) (by subst_vars; exact hR0) (by omega)) (zm_as (fun zM6 (ezM6 : zM6 = rpM C (raM C zM5 (ztot C zn1).toNat) ((ztot C zn1).toNat + 1)) => zz_aload_n (pc := 45) xf_194_45 (zmem 0 rfl) (zz_getR (pc := 46) xf_194_46 zis_115 (by decide +kernel) rfl (zz_iload_n (pc := 49) xf_194_49 (zmem 1 rfl) (zz_iald (pc := 50) xf_194_50 zis_133 (by omega) (zz_ireturn (pc := 51) xf_194_51 rfl (by decide +kernel) (by decide +kernel) (by first | (exfalso; first | omega | contradiction) | (subst_vars; exact ⟨rfl, rfl⟩) | (refine ⟨zq_i ?_, by subst_vars; rfl⟩; subst_vars; exact ztab_i (by omega))))))))))))))) (fun (zc4 : ¬ ((0) ≤ x ∧ x ≤ ((M 115 19) + (M 115 20)))) => zz_aload_n (pc := 30) xf_194_30 (zmem 0 rfl) (zz_iconst (pc := 31) xf_194_31 (zz_call_v (pc := 32) (cu := 0) (su := 0) (fun ls hr => zz_calV xf_194_32 rfl zis_115 ls hr) rfl (sp_failsR (d := d + 6) ) (zm_as (fun zM7 (ezM7 : zM7 = zup M 115 0 (2)) => zz_ireturn (pc := 35) xf_194_35 rfl (by decide +kernel) (by decide +kernel) (by first | (exfalso; first | omega | contradiction) | (subst_vars; exact ⟨rfl, rfl⟩) | (refine ⟨zq_i ?_, by subst_vars; rfl⟩; subst_vars; exact ztab_i (by omega))))))))))))))))) (fun (zc2 : ¬ (rtt M ≤ 8)) => zz_aload_n (pc := 7) xf_194_7 (zmem 0 rfl) (zz_iconst (pc := 8) xf_194_8 (zz_call_v (pc := 9) (cu := 0) (su := 0) (fun ls hr => zz_calV xf_194_9 rfl zis_115 ls hr) rfl (sp_failsR (d := d + 6) ) (zm_as (fun zM8 (ezM8 : zM8 = zup M 115 0 (1)) => zz_ireturn (pc := 12) xf_194_12 rfl (by decide +kernel) (by decide +kernel) (by first | (exfalso; first | omega | contradiction) | (subst_vars; exact ⟨rfl, rfl⟩) | (refine ⟨zq_i ?_, by subst_vars; rfl⟩; subst_vars; exact ztab_i (by omega)))))))))))
theorem sp_pathR_1 {xs : List Int32} {d : Nat} {w : Bool} {M : zM} {C : zM} {n : Int} (hB : zBI n C zn1) {x : Int} (hx : zr32 x) (hA : rA C M) (hR : rL C M) (hn : n ≤ 1000) (c0 : ¬ (8 < ztot C zn1)) (c1 : ¬ (0 ≤ x ∧ x ≤ ztot C zn1)) : xrun2 xs (d + 8) 194 [.ref 115, .int (Int32.ofInt x)] (w, zheap M) = some (.inl (some (.int (Int32.ofInt (0)))), (w, zheap (zup M 115 0 2))) := by
  obtain ⟨⟨a1, a2⟩, a3⟩ := id hA
  obtain ⟨⟨g1, g2⟩, ⟨g3, g4⟩, g5⟩ := id hB.g
  obtain ⟨g6, g7⟩ := hB.g.sz
  have hz : zsz C zn1 = C (zn1 + 1) 0 * C (zn1 + 1) 1 := rfl
  have htt := hR.tt
  have ht0 := hB.t0
  have h4n := hB.b4.2.1
  have hte : rtt M = M 115 19 + M 115 20 := rfl
  have htd : ztot C zn1 = C (zn1 + 8) 1 + C (zn1 + 8) 2 := rfl
  have hA0 : rA C (zup M 115 0 0) := rA_c (zup_ne (by decide)) (zup_ne (by decide)) (zup_or (by decide)) hA
  have hR0 : rL C (zup M 115 0 0) := rL_c (zup_ne (by decide)) (zup_ne (by decide)) (zup_ne (by decide)) (zup_or (by decide)) (zup_or (by decide)) (zup_or (by decide)) hR
  exact zrun_v (N := 21) (by decide) rfl (zz_aload_n (pc := 0) xf_194_0 (zmem 0 rfl) (zz_call_v (pc := 1) (cu := 0) (su := 0) (fun ls hr => zz_calV xf_194_1 rfl zis_115 ls hr) rfl (sp_hasExactR (d := d + 6) (by omega)) (zz_ifbne (pc := 4) xf_194_4 (fun (zc1 : rtt M ≤ 8) => zz_iload_n (pc := 13) xf_194_13 (zmem 1 rfl) (zz_iconst (pc := 14) xf_194_14 (zz_aload_n (pc := 15) xf_194_15 (zmem 0 rfl) (zz_getI (pc := 16) xf_194_16 zis_115 (by decide +kernel) rfl (zz_aload_n (pc := 19) xf_194_19 (zmem 0 rfl) (zz_getI (pc := 20) xf_194_20 zis_115 (by decide +kernel) rfl (zz_iadd (pc := 23) xf_194_23 (zz_call_v (pc := 24) (cu := 0) (su := 0) (fun ls hr => zz_calS xf_194_24 rfl ls hr) rfl (sp_isBetweenR (d := d + 6) hx (by unfold zr32; omega) (by unfold zr32; omega)) (zz_ifbne (pc := 27) xf_194_27 (fun (zc3 : (0) ≤ x ∧ x ≤ ((M 115 19) + (M 115 20))) => zz_aload_n (pc := 36) xf_194_36 (zmem 0 rfl) (zz_iconst (pc := 37) xf_194_37 (zz_putI (pc := 38) xf_194_38 zis_115 (by decide +kernel) rfl (by decide +kernel) (zm_as (fun zM5 (ezM5 : zM5 = zup M 115 0 (0)) => zz_aload_n (pc := 41) xf_194_41 (zmem 0 rfl) (zz_call_0 (pc := 42) (cu := 0) (su := 0) (fun ls hr => zz_calV xf_194_42 rfl zis_115 ls hr) rfl (sp_findPathR (d := d) hB (by subst_vars; exact hA0) (by subst_vars; exact hR0) (by omega)) (zm_as (fun zM6 (ezM6 : zM6 = rpM C (raM C zM5 (ztot C zn1).toNat) ((ztot C zn1).toNat + 1)) => zz_aload_n (pc := 45) xf_194_45 (zmem 0 rfl) (zz_getR (pc := 46) xf_194_46 zis_115 (by decide +kernel) rfl (zz_iload_n (pc := 49) xf_194_49 (zmem 1 rfl) (zz_iald (pc := 50) xf_194_50 zis_133 (by omega) (zz_ireturn (pc := 51) xf_194_51 rfl (by decide +kernel) (by decide +kernel) (by first | (exfalso; first | omega | contradiction) | (subst_vars; exact ⟨rfl, rfl⟩) | (refine ⟨zq_i ?_, by subst_vars; rfl⟩; subst_vars; exact ztab_i (by omega))))))))))))))) (fun (zc4 : ¬ ((0) ≤ x ∧ x ≤ ((M 115 19) + (M 115 20)))) => zz_aload_n (pc := 30) xf_194_30 (zmem 0 rfl) (zz_iconst (pc := 31) xf_194_31 (zz_call_v (pc := 32) (cu := 0) (su := 0) (fun ls hr => zz_calV xf_194_32 rfl zis_115 ls hr) rfl (sp_failsR (d := d + 6) ) (zm_as (fun zM7 (ezM7 : zM7 = zup M 115 0 (2)) => zz_ireturn (pc := 35) xf_194_35 rfl (by decide +kernel) (by decide +kernel) (by first | (exfalso; first | omega | contradiction) | (subst_vars; exact ⟨rfl, rfl⟩) | (refine ⟨zq_i ?_, by subst_vars; rfl⟩; subst_vars; exact ztab_i (by omega))))))))))))))))) (fun (zc2 : ¬ (rtt M ≤ 8)) => zz_aload_n (pc := 7) xf_194_7 (zmem 0 rfl) (zz_iconst (pc := 8) xf_194_8 (zz_call_v (pc := 9) (cu := 0) (su := 0) (fun ls hr => zz_calV xf_194_9 rfl zis_115 ls hr) rfl (sp_failsR (d := d + 6) ) (zm_as (fun zM8 (ezM8 : zM8 = zup M 115 0 (1)) => zz_ireturn (pc := 12) xf_194_12 rfl (by decide +kernel) (by decide +kernel) (by first | (exfalso; first | omega | contradiction) | (subst_vars; exact ⟨rfl, rfl⟩) | (refine ⟨zq_i ?_, by subst_vars; rfl⟩; subst_vars; exact ztab_i (by omega)))))))))))
theorem sp_pathR_2 {xs : List Int32} {d : Nat} {w : Bool} {M : zM} {C : zM} {n : Int} (hB : zBI n C zn1) {x : Int} (hx : zr32 x) (hA : rA C M) (hR : rL C M) (hn : n ≤ 1000) (c0 : ¬ (8 < ztot C zn1)) (c1 : ¬ (¬ (0 ≤ x ∧ x ≤ ztot C zn1))) : xrun2 xs (d + 8) 194 [.ref 115, .int (Int32.ofInt x)] (w, zheap M) = some (.inl (some (.int (Int32.ofInt (rpz C x.toNat)))), (w, zheap (rpM C (raM C (zup M 115 0 0) (ztot C zn1).toNat) ((ztot C zn1).toNat + 1)))) := by
  obtain ⟨⟨a1, a2⟩, a3⟩ := id hA
  obtain ⟨⟨g1, g2⟩, ⟨g3, g4⟩, g5⟩ := id hB.g
  obtain ⟨g6, g7⟩ := hB.g.sz
  have hz : zsz C zn1 = C (zn1 + 1) 0 * C (zn1 + 1) 1 := rfl
  have htt := hR.tt
  have ht0 := hB.t0
  have h4n := hB.b4.2.1
  have hte : rtt M = M 115 19 + M 115 20 := rfl
  have htd : ztot C zn1 = C (zn1 + 8) 1 + C (zn1 + 8) 2 := rfl
  have hA0 : rA C (zup M 115 0 0) := rA_c (zup_ne (by decide)) (zup_ne (by decide)) (zup_or (by decide)) hA
  have hR0 : rL C (zup M 115 0 0) := rL_c (zup_ne (by decide)) (zup_ne (by decide)) (zup_ne (by decide)) (zup_or (by decide)) (zup_or (by decide)) (zup_or (by decide)) hR
  exact zrun_v (N := 21) (by decide) rfl (zz_aload_n (pc := 0) xf_194_0 (zmem 0 rfl) (zz_call_v (pc := 1) (cu := 0) (su := 0) (fun ls hr => zz_calV xf_194_1 rfl zis_115 ls hr) rfl (sp_hasExactR (d := d + 6) (by omega)) (zz_ifbne (pc := 4) xf_194_4 (fun (zc1 : rtt M ≤ 8) => zz_iload_n (pc := 13) xf_194_13 (zmem 1 rfl) (zz_iconst (pc := 14) xf_194_14 (zz_aload_n (pc := 15) xf_194_15 (zmem 0 rfl) (zz_getI (pc := 16) xf_194_16 zis_115 (by decide +kernel) rfl (zz_aload_n (pc := 19) xf_194_19 (zmem 0 rfl) (zz_getI (pc := 20) xf_194_20 zis_115 (by decide +kernel) rfl (zz_iadd (pc := 23) xf_194_23 (zz_call_v (pc := 24) (cu := 0) (su := 0) (fun ls hr => zz_calS xf_194_24 rfl ls hr) rfl (sp_isBetweenR (d := d + 6) hx (by unfold zr32; omega) (by unfold zr32; omega)) (zz_ifbne (pc := 27) xf_194_27 (fun (zc3 : (0) ≤ x ∧ x ≤ ((M 115 19) + (M 115 20))) => zz_aload_n (pc := 36) xf_194_36 (zmem 0 rfl) (zz_iconst (pc := 37) xf_194_37 (zz_putI (pc := 38) xf_194_38 zis_115 (by decide +kernel) rfl (by decide +kernel) (zm_as (fun zM5 (ezM5 : zM5 = zup M 115 0 (0)) => zz_aload_n (pc := 41) xf_194_41 (zmem 0 rfl) (zz_call_0 (pc := 42) (cu := 0) (su := 0) (fun ls hr => zz_calV xf_194_42 rfl zis_115 ls hr) rfl (sp_findPathR (d := d) hB (by subst_vars; exact hA0) (by subst_vars; exact hR0) (by omega)) (zm_as (fun zM6 (ezM6 : zM6 = rpM C (raM C zM5 (ztot C zn1).toNat) ((ztot C zn1).toNat + 1)) => zz_aload_n (pc := 45) xf_194_45 (zmem 0 rfl) (zz_getR (pc := 46) xf_194_46 zis_115 (by decide +kernel) rfl (zz_iload_n (pc := 49) xf_194_49 (zmem 1 rfl) (zz_iald (pc := 50) xf_194_50 zis_133 (by omega) (zz_ireturn (pc := 51) xf_194_51 rfl (by decide +kernel) (by decide +kernel) (by first | (exfalso; first | omega | contradiction) | (subst_vars; exact ⟨rfl, rfl⟩) | (refine ⟨zq_i ?_, by subst_vars; rfl⟩; subst_vars; exact ztab_i (by omega))))))))))))))) (fun (zc4 : ¬ ((0) ≤ x ∧ x ≤ ((M 115 19) + (M 115 20)))) => zz_aload_n (pc := 30) xf_194_30 (zmem 0 rfl) (zz_iconst (pc := 31) xf_194_31 (zz_call_v (pc := 32) (cu := 0) (su := 0) (fun ls hr => zz_calV xf_194_32 rfl zis_115 ls hr) rfl (sp_failsR (d := d + 6) ) (zm_as (fun zM7 (ezM7 : zM7 = zup M 115 0 (2)) => zz_ireturn (pc := 35) xf_194_35 rfl (by decide +kernel) (by decide +kernel) (by first | (exfalso; first | omega | contradiction) | (subst_vars; exact ⟨rfl, rfl⟩) | (refine ⟨zq_i ?_, by subst_vars; rfl⟩; subst_vars; exact ztab_i (by omega))))))))))))))))) (fun (zc2 : ¬ (rtt M ≤ 8)) => zz_aload_n (pc := 7) xf_194_7 (zmem 0 rfl) (zz_iconst (pc := 8) xf_194_8 (zz_call_v (pc := 9) (cu := 0) (su := 0) (fun ls hr => zz_calV xf_194_9 rfl zis_115 ls hr) rfl (sp_failsR (d := d + 6) ) (zm_as (fun zM8 (ezM8 : zM8 = zup M 115 0 (1)) => zz_ireturn (pc := 12) xf_194_12 rfl (by decide +kernel) (by decide +kernel) (by first | (exfalso; first | omega | contradiction) | (subst_vars; exact ⟨rfl, rfl⟩) | (refine ⟨zq_i ?_, by subst_vars; rfl⟩; subst_vars; exact ztab_i (by omega)))))))))))
theorem rpw_v {C X : zM} {n : Int} (hB : zBI n C zn1) (h8 : ztot C zn1 ≤ 8) : rpM C (raM C X (ztot C zn1).toNat) ((ztot C zn1).toNat + 1) 132 (rpM C (raM C X (ztot C zn1).toNat) ((ztot C zn1).toNat + 1) 133 (0 : Int).toNat).toNat = rahF C (ztot C zn1).toNat (rpz C 0).toNat := by
  have h0 := hB.t0
  have hf := rpz_f hB h8 0 (by omega)
  have hf1 : rpz C 0 < zsz C zn1 := hf.2.1
  have e : rpM C (raM C X (ztot C zn1).toNat) ((ztot C zn1).toNat + 1) 133 (0 : Int).toNat = rpz C 0 := ztab_i (by show 0 < _; omega)
  have e2 : rpM C (raM C X (ztot C zn1).toNat) ((ztot C zn1).toNat + 1) 132 = raM C X (ztot C zn1).toNat 132 := ztab_or (by decide)
  rw [e, e2]
  have h := raM_g (M := X) hB (t := (rpz C 0).toNat) (by have := hf.1; omega) (ztot C zn1).toNat (ztot C zn1).toNat (by omega) (Nat.le_refl _)
  rw [show (36 * (ztot C zn1 - ((ztot C zn1).toNat : Int))).toNat + (rpz C 0).toNat = (rpz C 0).toNat by omega] at h
  exact h
theorem sp_pathWeightR_0 {xs : List Int32} {d : Nat} {w : Bool} {M : zM} {C : zM} {n : Int} (hB : zBI n C zn1) (hA : rA C M) (hR : rL C M) (hn : n ≤ 1000) (c0 : 8 < ztot C zn1) : xrun2 xs (d + 8) 195 [.ref 115] (w, zheap M) = some (.inl (some (.long (Int64.ofInt (0)))), (w, zheap (zup M 115 0 1))) := by
  obtain ⟨⟨a1, a2⟩, a3⟩ := id hA
  obtain ⟨⟨g1, g2⟩, ⟨g3, g4⟩, g5⟩ := id hB.g
  obtain ⟨g6, g7⟩ := hB.g.sz
  have hz : zsz C zn1 = C (zn1 + 1) 0 * C (zn1 + 1) 1 := rfl
  have htt := hR.tt
  have ht0 := hB.t0
  have h4n := hB.b4.2.1
  have hte : rtt M = M 115 19 + M 115 20 := rfl
  have htd : ztot C zn1 = C (zn1 + 8) 1 + C (zn1 + 8) 2 := rfl
  have hA0 : rA C (zup M 115 0 0) := rA_c (zup_ne (by decide)) (zup_ne (by decide)) (zup_or (by decide)) hA
  have hR0 : rL C (zup M 115 0 0) := rL_c (zup_ne (by decide)) (zup_ne (by decide)) (zup_ne (by decide)) (zup_or (by decide)) (zup_or (by decide)) (zup_or (by decide)) hR
  exact zrun_v (N := 15) (by decide) rfl (zz_aload_n (pc := 0) xf_195_0 (zmem 0 rfl) (zz_call_v (pc := 1) (cu := 0) (su := 0) (fun ls hr => zz_calV xf_195_1 rfl zis_115 ls hr) rfl (sp_hasExactR (d := d + 6) (by omega)) (zz_ifbne (pc := 4) xf_195_4 (fun (zc1 : rtt M ≤ 8) => zz_aload_n (pc := 14) xf_195_14 (zmem 0 rfl) (zz_iconst (pc := 15) xf_195_15 (zz_putI (pc := 16) xf_195_16 zis_115 (by decide +kernel) rfl (by decide +kernel) (zm_as (fun zM3 (ezM3 : zM3 = zup M 115 0 (0)) => zz_aload_n (pc := 19) xf_195_19 (zmem 0 rfl) (zz_call_0 (pc := 20) (cu := 0) (su := 0) (fun ls hr => zz_calV xf_195_20 rfl zis_115 ls hr) rfl (sp_findPathR (d := d) hB (by subst_vars; exact hA0) (by subst_vars; exact hR0) (by omega)) (zm_as (fun zM4 (ezM4 : zM4 = rpM C (raM C zM3 (ztot C zn1).toNat) ((ztot C zn1).toNat + 1)) => zz_aload_n (pc := 23) xf_195_23 (zmem 0 rfl) (zz_getR (pc := 24) xf_195_24 zis_115 (by decide +kernel) rfl (zz_aload_n (pc := 27) xf_195_27 (zmem 0 rfl) (zz_getR (pc := 28) xf_195_28 zis_115 (by decide +kernel) rfl (zz_iconst (pc := 31) xf_195_31 (zz_iald (pc := 32) xf_195_32 zis_133 (by decide) (zz_lald (pc := 33) xf_195_33 zis_132 (by have h7 : zM4 133 (0 : Int).toNat = rpz C 0 := (by subst_vars; exact ztab_i (by show 0 < _; omega)); have h6 := rpz_f hB (by omega) 0 (by omega); have h60 := h6.1; have h61 : rpz C 0 < zsz C zn1 := h6.2.1; rw [h7]; omega) (zz_lreturn (pc := 34) xf_195_34 rfl (by decide +kernel) (by decide +kernel) (by first | (exfalso; first | omega | contradiction) | (subst_vars; exact ⟨rfl, rfl⟩) | (refine ⟨zq_j ?_, by subst_vars; rfl⟩; subst_vars; exact rpw_v hB (by omega)))))))))))))))))) (fun (zc2 : ¬ (rtt M ≤ 8)) => zz_aload_n (pc := 7) xf_195_7 (zmem 0 rfl) (zz_iconst (pc := 8) xf_195_8 (zz_call_v (pc := 9) (cu := 0) (su := 0) (fun ls hr => zz_calV xf_195_9 rfl zis_115 ls hr) rfl (sp_failsR (d := d + 6) ) (zm_as (fun zM5 (ezM5 : zM5 = zup M 115 0 (1)) => zz_i2l (pc := 12) xf_195_12 ⟨by decide, by decide⟩ (zz_lreturn (pc := 13) xf_195_13 rfl (by decide +kernel) (by decide +kernel) (by first | (exfalso; first | omega | contradiction) | (subst_vars; exact ⟨rfl, rfl⟩) | (refine ⟨zq_j ?_, by subst_vars; rfl⟩; subst_vars; exact rpw_v hB (by omega))))))))))))
theorem sp_pathWeightR_1 {xs : List Int32} {d : Nat} {w : Bool} {M : zM} {C : zM} {n : Int} (hB : zBI n C zn1) (hA : rA C M) (hR : rL C M) (hn : n ≤ 1000) (c0 : ¬ (8 < ztot C zn1)) : xrun2 xs (d + 8) 195 [.ref 115] (w, zheap M) = some (.inl (some (.long (Int64.ofInt (rahF C (ztot C zn1).toNat (rpz C 0).toNat)))), (w, zheap (rpM C (raM C (zup M 115 0 0) (ztot C zn1).toNat) ((ztot C zn1).toNat + 1)))) := by
  obtain ⟨⟨a1, a2⟩, a3⟩ := id hA
  obtain ⟨⟨g1, g2⟩, ⟨g3, g4⟩, g5⟩ := id hB.g
  obtain ⟨g6, g7⟩ := hB.g.sz
  have hz : zsz C zn1 = C (zn1 + 1) 0 * C (zn1 + 1) 1 := rfl
  have htt := hR.tt
  have ht0 := hB.t0
  have h4n := hB.b4.2.1
  have hte : rtt M = M 115 19 + M 115 20 := rfl
  have htd : ztot C zn1 = C (zn1 + 8) 1 + C (zn1 + 8) 2 := rfl
  have hA0 : rA C (zup M 115 0 0) := rA_c (zup_ne (by decide)) (zup_ne (by decide)) (zup_or (by decide)) hA
  have hR0 : rL C (zup M 115 0 0) := rL_c (zup_ne (by decide)) (zup_ne (by decide)) (zup_ne (by decide)) (zup_or (by decide)) (zup_or (by decide)) (zup_or (by decide)) hR
  exact zrun_v (N := 15) (by decide) rfl (zz_aload_n (pc := 0) xf_195_0 (zmem 0 rfl) (zz_call_v (pc := 1) (cu := 0) (su := 0) (fun ls hr => zz_calV xf_195_1 rfl zis_115 ls hr) rfl (sp_hasExactR (d := d + 6) (by omega)) (zz_ifbne (pc := 4) xf_195_4 (fun (zc1 : rtt M ≤ 8) => zz_aload_n (pc := 14) xf_195_14 (zmem 0 rfl) (zz_iconst (pc := 15) xf_195_15 (zz_putI (pc := 16) xf_195_16 zis_115 (by decide +kernel) rfl (by decide +kernel) (zm_as (fun zM3 (ezM3 : zM3 = zup M 115 0 (0)) => zz_aload_n (pc := 19) xf_195_19 (zmem 0 rfl) (zz_call_0 (pc := 20) (cu := 0) (su := 0) (fun ls hr => zz_calV xf_195_20 rfl zis_115 ls hr) rfl (sp_findPathR (d := d) hB (by subst_vars; exact hA0) (by subst_vars; exact hR0) (by omega)) (zm_as (fun zM4 (ezM4 : zM4 = rpM C (raM C zM3 (ztot C zn1).toNat) ((ztot C zn1).toNat + 1)) => zz_aload_n (pc := 23) xf_195_23 (zmem 0 rfl) (zz_getR (pc := 24) xf_195_24 zis_115 (by decide +kernel) rfl (zz_aload_n (pc := 27) xf_195_27 (zmem 0 rfl) (zz_getR (pc := 28) xf_195_28 zis_115 (by decide +kernel) rfl (zz_iconst (pc := 31) xf_195_31 (zz_iald (pc := 32) xf_195_32 zis_133 (by decide) (zz_lald (pc := 33) xf_195_33 zis_132 (by have h7 : zM4 133 (0 : Int).toNat = rpz C 0 := (by subst_vars; exact ztab_i (by show 0 < _; omega)); have h6 := rpz_f hB (by omega) 0 (by omega); have h60 := h6.1; have h61 : rpz C 0 < zsz C zn1 := h6.2.1; rw [h7]; omega) (zz_lreturn (pc := 34) xf_195_34 rfl (by decide +kernel) (by decide +kernel) (by first | (exfalso; first | omega | contradiction) | (subst_vars; exact ⟨rfl, rfl⟩) | (refine ⟨zq_j ?_, by subst_vars; rfl⟩; subst_vars; exact rpw_v hB (by omega)))))))))))))))))) (fun (zc2 : ¬ (rtt M ≤ 8)) => zz_aload_n (pc := 7) xf_195_7 (zmem 0 rfl) (zz_iconst (pc := 8) xf_195_8 (zz_call_v (pc := 9) (cu := 0) (su := 0) (fun ls hr => zz_calV xf_195_9 rfl zis_115 ls hr) rfl (sp_failsR (d := d + 6) ) (zm_as (fun zM5 (ezM5 : zM5 = zup M 115 0 (1)) => zz_i2l (pc := 12) xf_195_12 ⟨by decide, by decide⟩ (zz_lreturn (pc := 13) xf_195_13 rfl (by decide +kernel) (by decide +kernel) (by first | (exfalso; first | omega | contradiction) | (subst_vars; exact ⟨rfl, rfl⟩) | (refine ⟨zq_j ?_, by subst_vars; rfl⟩; subst_vars; exact rpw_v hB (by omega))))))))))))
end
noncomputable section
/-! The reference: exact weights of the cells. -/
noncomputable def rxG (C : zM) (i : Int) (E : zF) (t : Nat) : zF := fun c => @ite _ ((zfreeN C zn1 c ∧ zfreeN C zn1 t) ∧ 0 < E c) (Classical.propDecidable _) (E c * zfac C zn1 i (c : Int) (t : Int)) 0
noncomputable def rxE (C : zM) : Nat → zF
  | 0 => fun j => zb ((j : Int) < zsz C zn1 ∧ zmb C zn1 (j : Int))
  | i + 1 => fun t => if t < (zsz C zn1).toNat then zsum (rxG C (i : Int) (rxE C i) t) (zsz C zn1).toNat else rxE C i t
theorem zsum_1 {F : zF} {t : Nat} : ∀ n, (∀ c, c < n → ¬ c = t → F c = 0) → t < n → zsum F n = F t
  | 0, _, h => absurd h (Nat.not_lt_zero t)
  | n + 1, h, ht => by
    show zsum F n + F n = F t
    by_cases e : n = t
    · subst e
      rw [zsum_0 n (fun c hc => h c (by omega) (by omega)), Int.zero_add]
    · rw [zsum_1 n (fun c hc => h c (by omega)) (by omega), h n (by omega) e, Int.add_zero]
theorem rxE_w {C : zM} {n : Int} (hB : zBI n C zn1) (h8 : ztot C zn1 ≤ 8) : ∀ k : Nat, (k : Int) ≤ ztot C zn1 → (∀ t, t < (zsz C zn1).toNat → rxE C k t = zwe C zn1 k 109 t) ∧ (∀ t, t < (zsz C zn1).toNat → ¬ zfreeN C zn1 t → zwe C zn1 k 109 t = 0)
  | 0, _ => by
    have e : ∀ j, j < (zsz C zn1).toNat → zwe C zn1 0 109 j = zb (zmb C zn1 (j : Int)) := fun j hj => ztab_i hj
    refine ⟨fun t ht => ?_, fun t ht hf => ?_⟩
    · rw [e t ht]
      show zb ((t : Int) < zsz C zn1 ∧ zmb C zn1 (t : Int)) = _
      by_cases h : zmb C zn1 (t : Int)
      · rw [zb_t ⟨by omega, h⟩, zb_t h]
      · rw [zb_f (fun e => h e.2), zb_f h]
    · rw [e t ht]
      exact zb_f (fun h => hf h.1)
  | k + 1, hk => by
    obtain ⟨i1, i2⟩ := rxE_w hB h8 k (by omega)
    have hm8 : zmi (ztot C zn1) 8 = ztot C zn1 := if_pos h8
    obtain ⟨g6, g7⟩ := hB.g.sz
    have hz : zsz C zn1 = C (zn1 + 1) 0 * C (zn1 + 1) 1 := rfl
    have hn := (zwe_b hzn1 hB k (by omega)).1
    have hX : ∀ q : Nat, q ≠ 109 → q ≠ 110 → zwe C zn1 k q = C q := fun q a b => zwe_o a b k
    have hzX : zsz (zwe C zn1 k) zn1 = zsz C zn1 := zsz_c ⟨hX _ (by decide) (by decide), hX _ (by decide) (by decide)⟩
    have hcd := hB.b4.1.2.2.2.1 k (by omega)
    have eR : ∀ t, t < (zsz C zn1).toNat → rxE C (k + 1) t = zsum (rxG C (k : Int) (rxE C k) t) (zsz C zn1).toNat := fun t ht => if_pos ht
    have hkn : ((k : Int)).toNat = k := Int.toNat_natCast k
    have A : ∀ t, t < (zsz C zn1).toNat → rxE C (k + 1) t = zwe C zn1 (k + 1) 109 t := by
      intro t ht
      rw [eR t ht]
      by_cases hc : C (zn1 + 9) k < 10
      · have e : zwe C zn1 (k + 1) = zldM (zwe C zn1 k) zn1 (k : Int) := if_pos hc
        have hts := (hB.b4.2.2.1 k (by omega)).resolve_right (by omega)
        have e1 : zldM (zwe C zn1 k) zn1 (k : Int) 109 t = zsum (fun c => zsum (fun y => if (ztarget C zn1 (c : Int) (C (zn1 + 9) k) (y : Int)).toNat = t then zwe C zn1 k 109 c * C (zn1 + 10) ((k : Int) * 36 + (y : Int)).toNat else 0) 4) (zsz C zn1).toNat := by
          unfold zldM zcp
          rw [hzX, if_pos ⟨rfl, by omega, by omega⟩, zrow_q]
          unfold zlF
          rw [if_pos (by omega), Int.zero_add]
          refine zsum_c _ (fun c _ => zsum_c _ (fun y _ => ?_))
          unfold zlt
          rw [hX (zn1 + 9) (by decide) (by decide), hX (zn1 + 10) (by decide) (by decide), Int.toNat_natCast, ztarget_c (hX (zn1 + 4) (by decide) (by decide)), show 0 + (t - 0) = t by omega]
        rw [e, e1]
        refine zsum_c _ (fun c hcn => ?_)
        unfold rxG
        rw [i1 c hcn]
        have htg := fun y : Nat => ztg_n hB.b1 (c := (c : Int)) (e := C (zn1 + 9) k) (y : Int) (by omega) (by omega)
        by_cases hfc : zfreeN C zn1 c
        · by_cases h0 : 0 < zwe C zn1 k 109 c
          · by_cases hft : zfreeN C zn1 t
            · rw [if_pos ⟨⟨hfc, hft⟩, h0⟩]
              unfold zfac
              rw [hkn, if_pos hc, Int.mul_comm, ← zsum_mul]
              refine zsum_c _ (fun y _ => ?_)
              have h1 := (htg y).1
              unfold zfcF
              rw [hkn]
              by_cases h2 : ztarget C zn1 (c : Int) (C (zn1 + 9) k) (y : Int) = (t : Int)
              · rw [if_pos h2, if_pos (by omega), Int.mul_comm]
              · rw [if_neg h2, if_neg (by omega), Int.zero_mul]
            · rw [if_neg (fun e => hft e.1.2)]
              refine (zsum_0 _ (fun y _ => ?_)).symm
              refine if_neg (fun h2 => ?_)
              obtain ⟨h1, h3⟩ := htg y
              have h4 : ztarget C zn1 (c : Int) (C (zn1 + 9) k) (y : Int) = (t : Int) := by omega
              rcases h3 with h3 | h3
              · have : c = t := by omega
                exact hft (this ▸ hfc)
              · rw [h4] at h3
                exact hft h3.2
          · rw [if_neg (fun e => h0 e.2)]
            have := hn c hcn
            refine (zsum_0 _ (fun y _ => ?_)).symm
            rw [show zwe C zn1 k 109 c = 0 by omega, Int.zero_mul]
            split <;> rfl
        · rw [if_neg (fun e => hfc e.1.1)]
          refine (zsum_0 _ (fun y _ => ?_)).symm
          rw [i2 c hcn hfc, Int.zero_mul]
          split <;> rfl
      · have e : zwe C zn1 (k + 1) = ztab (zwe C zn1 k) 109 (zsz C zn1).toNat (fun c => zwe C zn1 k 109 c * C (zn1 + 10) ((k : Int) * 36 + (c : Int)).toNat) := if_neg hc
        rw [e, ztab_i ht]
        have hfa : ∀ c : Nat, zfac C zn1 (k : Int) (c : Int) (t : Int) = if (c : Int) = (t : Int) then C (zn1 + 10) ((k : Int) * 36 + (c : Int)).toNat else 0 := fun c => by
          unfold zfac
          rw [hkn, if_neg hc]
        rw [zsum_1 (t := t) (zsz C zn1).toNat (fun c hcn hne => by
          unfold rxG
          rw [hfa, if_neg (show ¬ (c : Int) = (t : Int) by omega), Int.mul_zero]
          split <;> rfl) ht]
        unfold rxG
        rw [i1 t ht, hfa, if_pos rfl]
        by_cases hft : zfreeN C zn1 t
        · by_cases h0 : 0 < zwe C zn1 k 109 t
          · rw [if_pos ⟨⟨hft, hft⟩, h0⟩]
          · have := hn t ht
            rw [if_neg (fun e => h0 e.2), show zwe C zn1 k 109 t = 0 by omega, Int.zero_mul]
        · rw [if_neg (fun e => hft e.1.1), i2 t ht hft, Int.zero_mul]
    refine ⟨A, fun t ht hft => ?_⟩
    rw [← A t ht, eR t ht]
    exact zsum_0 _ (fun c _ => if_neg (fun e => hft e.1.2))
theorem rxE_b {C : zM} {n : Int} (hB : zBI n C zn1) (h8 : ztot C zn1 ≤ 8) {k : Nat} (hk : (k : Int) ≤ ztot C zn1) {t : Nat} (ht : t < (zsz C zn1).toNat) : 0 ≤ rxE C k t ∧ rxE C k t ≤ 1000000000000000000 := by
  have hm8 : zmi (ztot C zn1) 8 = ztot C zn1 := if_pos h8
  obtain ⟨h1, h2, h3⟩ := zwe_b hzn1 hB k (by omega)
  have hp := zp100_8 (n := k) (by omega)
  have := zsum_ge _ h1 t ht
  rw [(rxE_w hB h8 k hk).1 t ht]
  exact ⟨h1 t ht, by omega⟩
noncomputable def rxM (C M : zM) : Nat → zM
  | 0 => ztab M 130 36 (rxE C 0)
  | i + 1 => ztab (ztab (rxM C M i) 131 (zsz C zn1).toNat (rxE C (i + 1))) 130 (zsz C zn1).toNat (rxE C (i + 1))
theorem zup_two {M : zM} {q j : Nat} {x y : Int} : zup (zup M q j x) q j y = zup M q j y := by
  funext q' j'
  unfold zup
  split <;> rfl
theorem rxM_o {C M : zM} {q : Nat} (h : ¬ q = 130) (h2 : ¬ q = 131) : ∀ i, rxM C M i q = M q
  | 0 => ztab_or h
  | i + 1 => by
    unfold rxM
    rw [ztab_or h, ztab_or h2, rxM_o h h2 i]
theorem rxM_i {C M : zM} {t : Nat} (ht : t < (zsz C zn1).toNat) (h36 : t < 36) : ∀ i, rxM C M i 130 t = rxE C i t
  | 0 => ztab_i h36
  | i + 1 => ztab_i ht
theorem zl_findExactR_166 {xs : List Int32} {d : Nat} {w : Bool}  {C : zM} {n : Int} (hB : zBI n C zn1) {M0 : zM} (hA : rA C M0) (hR : rL C M0) (h8 : ztot C zn1 ≤ 8) {i : Int} {NK : Nat} (hi : 0 ≤ i ∧ i < ztot C zn1) (hk : ∀ M2 : zM, M2 = rxM C M0 (i.toNat + 1) → zG (xstep (xrun2 xs (d + 5)) xs 189) 189 NK 58 [(0, .ref 115), (1, .int (Int32.ofInt (i + 1)))] [] 0 0 w M2 (fun o σ => o = (.inl none : XO) ∧ σ = (w, zheap (rxM C M0 (ztot C zn1).toNat)))) : ∀ (zn : Nat) (j : Int) (M : zM), (M = ztab (ztab (rxM C M0 i.toNat) 131 (zsz C zn1).toNat (rxE C (i.toNat + 1))) 130 j.toNat (rxE C (i.toNat + 1))) → (0 ≤ j ∧ j ≤ zsz C zn1) → zsz C zn1 - j ≤ (zn : Int) → zG (xstep (xrun2 xs (d + 5)) xs 189) 189 (zn * 14 + (NK + 14)) 166 [(0, .ref 115), (1, .int (Int32.ofInt i)), (2, .int (Int32.ofInt j))] [] 0 0 w M (fun o σ => o = (.inl none : XO) ∧ σ = (w, zheap (rxM C M0 (ztot C zn1).toNat))) := by
  intro zn
  induction zn with
  | zero =>
    intro j M hM hj hm
    have hX : ∀ q : Nat, ¬ q = 130 → ¬ q = 131 → M q = M0 q := fun q h h2 => by rw [hM, ztab_or h, ztab_or h2, rxM_o h h2]
    obtain ⟨⟨g1, g2⟩, ⟨g3, g4⟩, g5⟩ := id hB.g
    obtain ⟨g6, g7⟩ := hB.g.sz
    have hz : zsz C zn1 = C (zn1 + 1) 0 * C (zn1 + 1) 1 := rfl
    have hm8 : zmi (ztot C zn1) 8 = ztot C zn1 := if_pos h8
    have ht0 := hB.t0
    have hA2 : rA C M := rA_c (by rw [hX _ (by decide) (by decide)]) (by rw [hX _ (by decide) (by decide)]) (hX _ (by decide) (by decide)) hA
    have hR2 : rL C M := rL_c (by rw [hX _ (by decide) (by decide)]) (by rw [hX _ (by decide) (by decide)]) (by rw [hX _ (by decide) (by decide)]) (hX _ (by decide) (by decide)) (hX _ (by decide) (by decide)) (hX _ (by decide) (by decide)) hR
    have h131 : j < zsz C zn1 → M 131 j.toNat = (rxE C (i.toNat + 1)) j.toNat := fun h => by rw [hM, ztab_or (by decide)]; exact ztab_i (by omega)
    exact zG_mono (N := NK + 14) (by omega) (zz_iload_n (pc := 166) xf_189_166 (zmem 2 rfl) (zz_aload_n (pc := 167) xf_189_167 (zmem 0 rfl) (zz_call_v (pc := 168) (cu := 0) (su := 0) (fun ls hr => zz_calV xf_189_168 rfl zis_115 ls hr) rfl (sp_cellsR (d := d + 4) hB hA2) (zz_icmp (pc := 171) xf_189_171 (by unfold zr32; omega) (by unfold zr32; omega) (fun (zc1 : ¬ (j < (zsz C zn1))) => zz_iinc (pc := 192) xf_189_192 (zmem 1 rfl) (by decide +kernel) (zG_ro (ρ' := [(1, .int (Int32.ofInt (i + 1))), (0, .ref 115), (2, .int (Int32.ofInt j))]) rfl (zz_goto (pc := 195) xf_189_195 (zG_mono (N := NK) (by omega) (zG_sub (List.forall_mem_cons.mpr ⟨zmem 1 rfl, (List.forall_mem_cons.mpr ⟨zmem 0 rfl, (fun p hp => absurd hp List.not_mem_nil)⟩)⟩) (hk _ (by rw [hM, show j.toNat = (zsz C zn1).toNat by omega]; rfl))))))) (fun zc20 => have zc2 : j < (zsz C zn1) := Classical.not_not.mp zc20; zz_aload_n (pc := 174) xf_189_174 (zmem 0 rfl) (zz_getR (pc := 175) xf_189_175 zis_115 (by decide +kernel) rfl (zz_iload_n (pc := 178) xf_189_178 (zmem 2 rfl) (zz_aload_n (pc := 179) xf_189_179 (zmem 0 rfl) (zz_getR (pc := 180) xf_189_180 zis_115 (by decide +kernel) rfl (zz_iload_n (pc := 183) xf_189_183 (zmem 2 rfl) (zz_lald (pc := 184) xf_189_184 zis_131 (by omega) (zz_last (pc := 185) xf_189_185 zis_130 (by omega) (zm_as (fun zM3 (ezM3 : zM3 = zup M 130 j.toNat (M 131 j.toNat)) => zz_iinc (pc := 186) xf_189_186 (zmem 2 rfl) (by decide +kernel) (zG_ro (ρ' := [(2, .int (Int32.ofInt (j + 1))), (0, .ref 115), (1, .int (Int32.ofInt i))]) rfl (zz_goto (pc := 189) xf_189_189 ((by exfalso; omega))))))))))))))))))
  | succ zn ih =>
    intro j M hM hj hm
    have hX : ∀ q : Nat, ¬ q = 130 → ¬ q = 131 → M q = M0 q := fun q h h2 => by rw [hM, ztab_or h, ztab_or h2, rxM_o h h2]
    obtain ⟨⟨g1, g2⟩, ⟨g3, g4⟩, g5⟩ := id hB.g
    obtain ⟨g6, g7⟩ := hB.g.sz
    have hz : zsz C zn1 = C (zn1 + 1) 0 * C (zn1 + 1) 1 := rfl
    have hm8 : zmi (ztot C zn1) 8 = ztot C zn1 := if_pos h8
    have ht0 := hB.t0
    have hA2 : rA C M := rA_c (by rw [hX _ (by decide) (by decide)]) (by rw [hX _ (by decide) (by decide)]) (hX _ (by decide) (by decide)) hA
    have hR2 : rL C M := rL_c (by rw [hX _ (by decide) (by decide)]) (by rw [hX _ (by decide) (by decide)]) (by rw [hX _ (by decide) (by decide)]) (hX _ (by decide) (by decide)) (hX _ (by decide) (by decide)) (hX _ (by decide) (by decide)) hR
    have h131 : j < zsz C zn1 → M 131 j.toNat = (rxE C (i.toNat + 1)) j.toNat := fun h => by rw [hM, ztab_or (by decide)]; exact ztab_i (by omega)
    exact zG_mono (N := zn * 14 + (NK + 14) + 0 + 14) (by omega) (zz_iload_n (pc := 166) xf_189_166 (zmem 2 rfl) (zz_aload_n (pc := 167) xf_189_167 (zmem 0 rfl) (zz_call_v (pc := 168) (cu := 0) (su := 0) (fun ls hr => zz_calV xf_189_168 rfl zis_115 ls hr) rfl (sp_cellsR (d := d + 4) hB hA2) (zz_icmp (pc := 171) xf_189_171 (by unfold zr32; omega) (by unfold zr32; omega) (fun (zc1 : ¬ (j < (zsz C zn1))) => zz_iinc (pc := 192) xf_189_192 (zmem 1 rfl) (by decide +kernel) (zG_ro (ρ' := [(1, .int (Int32.ofInt (i + 1))), (0, .ref 115), (2, .int (Int32.ofInt j))]) rfl (zz_goto (pc := 195) xf_189_195 (zG_mono (N := NK) (by omega) (zG_sub (List.forall_mem_cons.mpr ⟨zmem 1 rfl, (List.forall_mem_cons.mpr ⟨zmem 0 rfl, (fun p hp => absurd hp List.not_mem_nil)⟩)⟩) (hk _ (by rw [hM, show j.toNat = (zsz C zn1).toNat by omega]; rfl))))))) (fun zc20 => have zc2 : j < (zsz C zn1) := Classical.not_not.mp zc20; zz_aload_n (pc := 174) xf_189_174 (zmem 0 rfl) (zz_getR (pc := 175) xf_189_175 zis_115 (by decide +kernel) rfl (zz_iload_n (pc := 178) xf_189_178 (zmem 2 rfl) (zz_aload_n (pc := 179) xf_189_179 (zmem 0 rfl) (zz_getR (pc := 180) xf_189_180 zis_115 (by decide +kernel) rfl (zz_iload_n (pc := 183) xf_189_183 (zmem 2 rfl) (zz_lald (pc := 184) xf_189_184 zis_131 (by omega) (zz_last (pc := 185) xf_189_185 zis_130 (by omega) (zm_as (fun zM3 (ezM3 : zM3 = zup M 130 j.toNat (M 131 j.toNat)) => zz_iinc (pc := 186) xf_189_186 (zmem 2 rfl) (by decide +kernel) (zG_ro (ρ' := [(2, .int (Int32.ofInt (j + 1))), (0, .ref 115), (1, .int (Int32.ofInt i))]) rfl (zz_goto (pc := 189) xf_189_189 (zG_mono (N := zn * 14 + (NK + 14)) (by omega) (zG_sub (List.forall_mem_cons.mpr ⟨zmem 1 rfl, (List.forall_mem_cons.mpr ⟨zmem 2 rfl, (List.forall_mem_cons.mpr ⟨zmem 0 rfl, (fun p hp => absurd hp List.not_mem_nil)⟩)⟩)⟩) (ih (j + 1) zM3  (by rw [ezM3, hM, show (j + 1).toNat = j.toNat + 1 by omega]; refine ztab_s ?_; rw [← hM]; exact h131 (by omega)) (by omega) (by omega))))))))))))))))))))
theorem zl_findExactR_90 {xs : List Int32} {d : Nat} {w : Bool}  {C : zM} {n : Int} (hB : zBI n C zn1) {M0 : zM} (hA : rA C M0) (hR : rL C M0) (h8 : ztot C zn1 ≤ 8) {i j : Int} {NK : Nat} (hi : 0 ≤ i ∧ i < ztot C zn1) (hj : 0 ≤ j ∧ j < zsz C zn1) (hk : ∀ M2 : zM, M2 = ztab (rxM C M0 i.toNat) 131 (j + 1).toNat (rxE C (i.toNat + 1)) → zG (xstep (xrun2 xs (d + 5)) xs 189) 189 NK 73 [(0, .ref 115), (1, .int (Int32.ofInt i)), (2, .int (Int32.ofInt (j + 1)))] [] 0 0 w M2 (fun o σ => o = (.inl none : XO) ∧ σ = (w, zheap (rxM C M0 (ztot C zn1).toNat)))) : ∀ (zn : Nat) (k : Int) (M : zM), (M = zup (ztab (rxM C M0 i.toNat) 131 j.toNat (rxE C (i.toNat + 1))) 131 j.toNat (zsum (rxG C i (rxE C i.toNat) j.toNat) k.toNat)) → (0 ≤ k ∧ k ≤ zsz C zn1) → zsz C zn1 - k ≤ (zn : Int) → zG (xstep (xrun2 xs (d + 5)) xs 189) 189 (zn * 39 + (NK + 39)) 90 [(0, .ref 115), (1, .int (Int32.ofInt i)), (2, .int (Int32.ofInt j)), (3, .int (Int32.ofInt k))] [] 0 0 w M (fun o σ => o = (.inl none : XO) ∧ σ = (w, zheap (rxM C M0 (ztot C zn1).toNat))) := by
  intro zn
  induction zn with
  | zero =>
    intro k M hM hkk hm
    have hX : ∀ q : Nat, ¬ q = 130 → ¬ q = 131 → M q = M0 q := fun q h h2 => by rw [hM, zup_or h2, ztab_or h2, rxM_o h h2]
    obtain ⟨⟨g1, g2⟩, ⟨g3, g4⟩, g5⟩ := id hB.g
    obtain ⟨g6, g7⟩ := hB.g.sz
    have hz : zsz C zn1 = C (zn1 + 1) 0 * C (zn1 + 1) 1 := rfl
    have hm8 : zmi (ztot C zn1) 8 = ztot C zn1 := if_pos h8
    have ht0 := hB.t0
    have hA2 : rA C M := rA_c (by rw [hX _ (by decide) (by decide)]) (by rw [hX _ (by decide) (by decide)]) (hX _ (by decide) (by decide)) hA
    have hR2 : rL C M := rL_c (by rw [hX _ (by decide) (by decide)]) (by rw [hX _ (by decide) (by decide)]) (by rw [hX _ (by decide) (by decide)]) (hX _ (by decide) (by decide)) (hX _ (by decide) (by decide)) (hX _ (by decide) (by decide)) hR
    have h130 : k < zsz C zn1 → M 130 k.toNat = rxE C i.toNat k.toNat := fun h => by rw [hM, zup_or (by decide), ztab_or (by decide)]; exact rxM_i (by omega) (by omega) _
    have hEb : k < zsz C zn1 → 0 ≤ rxE C i.toNat k.toNat ∧ rxE C i.toNat k.toNat ≤ 1000000000000000000 := fun h => rxE_b hB h8 (by omega) (by omega)
    have h131 : M 131 j.toNat = zsum (rxG C i (rxE C i.toNat) j.toNat) k.toNat := by rw [hM]; exact zup_i
    have hGt : k < zsz C zn1 → zfree C zn1 k → zfree C zn1 j → 0 < M 130 k.toNat → rxG C i (rxE C i.toNat) j.toNat k.toNat = M 130 k.toNat * zfac C zn1 i k j := fun h1 h2 h3 h4 => by
      rw [h130 h1] at h4 ⊢
      unfold rxG
      rw [if_pos ⟨⟨(zfreeN_i hkk.1).mpr h2, (zfreeN_i hj.1).mpr h3⟩, h4⟩, Int.toNat_of_nonneg hkk.1, Int.toNat_of_nonneg hj.1]
    have hGf : k < zsz C zn1 → ¬ (zfree C zn1 k ∧ zfree C zn1 j ∧ 0 < M 130 k.toNat) → rxG C i (rxE C i.toNat) j.toNat k.toNat = 0 := fun h1 h2 => by
      rw [h130 h1] at h2
      exact if_neg (fun e => h2 ⟨(zfreeN_i hkk.1).mp e.1.1, (zfreeN_i hj.1).mp e.1.2, e.2⟩)
    have hE1 : rxE C (i.toNat + 1) j.toNat = zsum (rxG C i (rxE C i.toNat) j.toNat) (zsz C zn1).toNat := by
      have h9 : rxE C (i.toNat + 1) j.toNat = if j.toNat < (zsz C zn1).toNat then zsum (rxG C ((i.toNat : Nat) : Int) (rxE C i.toNat) j.toNat) (zsz C zn1).toNat else rxE C i.toNat j.toNat := rfl
      rw [h9, if_pos (by omega), Int.toNat_of_nonneg hi.1]
    have hxx : ∀ y : Int, zup M 131 j.toNat y = zup (ztab (rxM C M0 i.toNat) 131 j.toNat (rxE C (i.toNat + 1))) 131 j.toNat y := fun y => by rw [hM, zup_two]
    exact zG_mono (N := NK + 39) (by omega) (zz_iload_n (pc := 90) xf_189_90 (zmem 3 rfl) (zz_aload_n (pc := 91) xf_189_91 (zmem 0 rfl) (zz_call_v (pc := 92) (cu := 0) (su := 0) (fun ls hr => zz_calV xf_189_92 rfl zis_115 ls hr) rfl (sp_cellsR (d := d + 4) hB hA2) (zz_icmp (pc := 95) xf_189_95 (by unfold zr32; omega) (by unfold zr32; omega) (fun (zc1 : ¬ (k < (zsz C zn1))) => zz_iinc (pc := 158) xf_189_158 (zmem 2 rfl) (by decide +kernel) (zG_ro (ρ' := [(2, .int (Int32.ofInt (j + 1))), (0, .ref 115), (1, .int (Int32.ofInt i)), (3, .int (Int32.ofInt k))]) rfl (zz_goto (pc := 161) xf_189_161 (zG_mono (N := NK) (by omega) (zG_sub (List.forall_mem_cons.mpr ⟨zmem 1 rfl, (List.forall_mem_cons.mpr ⟨zmem 2 rfl, (List.forall_mem_cons.mpr ⟨zmem 0 rfl, (fun p hp => absurd hp List.not_mem_nil)⟩)⟩)⟩) (hk _ (by rw [hM, show (j + 1).toNat = j.toNat + 1 by omega]; refine ztab_s ?_; rw [show k.toNat = (zsz C zn1).toNat by omega]; exact hE1.symm))))))) (fun zc20 => have zc2 : k < (zsz C zn1) := Classical.not_not.mp zc20; zz_aload_n (pc := 98) xf_189_98 (zmem 0 rfl) (zz_getR (pc := 99) xf_189_99 zis_115 (by decide +kernel) rfl (zz_iload_n (pc := 102) xf_189_102 (zmem 2 rfl) (zz_dup2_ir (pc := 103) xf_189_103 (zz_lald (pc := 104) xf_189_104 zis_131 (by omega) (zz_aload_n (pc := 105) xf_189_105 (zmem 0 rfl) (zz_iload_n (pc := 106) xf_189_106 (zmem 3 rfl) (zz_call_v (pc := 107) (cu := 0) (su := 0) (fun ls hr => zz_calV xf_189_107 rfl zis_115 ls hr) rfl (sp_isFreeR (d := d + 4) hB (by omega) hA2) (zz_ifbeq (pc := 110) xf_189_110 (fun (zc3 : ¬ (zfree C zn1 k)) => zz_lconst (pc := 149) (x := 0) xf_189_149 (by decide +kernel) (zz_ladd (pc := 150) xf_189_150 (zz_last (pc := 151) xf_189_151 zis_131 (by omega) (zm_as (fun zM5 (ezM5 : zM5 = zup M 131 j.toNat ((M 131 j.toNat) + (0))) => zz_iinc (pc := 152) xf_189_152 (zmem 3 rfl) (by decide +kernel) (zG_ro (ρ' := [(3, .int (Int32.ofInt (k + 1))), (0, .ref 115), (1, .int (Int32.ofInt i)), (2, .int (Int32.ofInt j))]) rfl (zz_goto (pc := 155) xf_189_155 ((by exfalso; omega))))))))) (fun zc40 => have zc4 : zfree C zn1 k := Classical.not_not.mp zc40; zz_aload_n (pc := 113) xf_189_113 (zmem 0 rfl) (zz_iload_n (pc := 114) xf_189_114 (zmem 2 rfl) (zz_call_v (pc := 115) (cu := 0) (su := 0) (fun ls hr => zz_calV xf_189_115 rfl zis_115 ls hr) rfl (sp_isFreeR (d := d + 4) hB (by omega) hA2) (zz_ifbeq (pc := 118) xf_189_118 (fun (zc6 : ¬ (zfree C zn1 j)) => zz_lconst (pc := 149) (x := 0) xf_189_149 (by decide +kernel) (zz_ladd (pc := 150) xf_189_150 (zz_last (pc := 151) xf_189_151 zis_131 (by omega) (zm_as (fun zM8 (ezM8 : zM8 = zup M 131 j.toNat ((M 131 j.toNat) + (0))) => zz_iinc (pc := 152) xf_189_152 (zmem 3 rfl) (by decide +kernel) (zG_ro (ρ' := [(3, .int (Int32.ofInt (k + 1))), (0, .ref 115), (1, .int (Int32.ofInt i)), (2, .int (Int32.ofInt j))]) rfl (zz_goto (pc := 155) xf_189_155 ((by exfalso; omega))))))))) (fun zc70 => have zc7 : zfree C zn1 j := Classical.not_not.mp zc70; zz_aload_n (pc := 121) xf_189_121 (zmem 0 rfl) (zz_getR (pc := 122) xf_189_122 zis_115 (by decide +kernel) rfl (zz_iload_n (pc := 125) xf_189_125 (zmem 3 rfl) (zz_lald (pc := 126) xf_189_126 zis_130 (by omega) (zz_lconst (pc := 127) (x := 0) xf_189_127 (by decide +kernel) (zz_lcmp (pc := 128) xf_189_128 xf_189_129 (by have h9 := hEb (by omega); rw [h130 (by omega)]; unfold zr64; omega) ⟨by decide, by decide⟩ (fun (zc9 : ¬ ((0) < (M 130 k.toNat))) => zz_lconst (pc := 149) (x := 0) xf_189_149 (by decide +kernel) (zz_ladd (pc := 150) xf_189_150 (zz_last (pc := 151) xf_189_151 zis_131 (by omega) (zm_as (fun zM11 (ezM11 : zM11 = zup M 131 j.toNat ((M 131 j.toNat) + (0))) => zz_iinc (pc := 152) xf_189_152 (zmem 3 rfl) (by decide +kernel) (zG_ro (ρ' := [(3, .int (Int32.ofInt (k + 1))), (0, .ref 115), (1, .int (Int32.ofInt i)), (2, .int (Int32.ofInt j))]) rfl (zz_goto (pc := 155) xf_189_155 ((by exfalso; omega))))))))) (fun zc100 => have zc10 : (0) < (M 130 k.toNat) := Classical.not_not.mp zc100; zz_aload_n (pc := 132) xf_189_132 (zmem 0 rfl) (zz_getR (pc := 133) xf_189_133 zis_115 (by decide +kernel) rfl (zz_iload_n (pc := 136) xf_189_136 (zmem 3 rfl) (zz_lald (pc := 137) xf_189_137 zis_130 (by omega) (zz_aload_n (pc := 138) xf_189_138 (zmem 0 rfl) (zz_iload_n (pc := 139) xf_189_139 (zmem 1 rfl) (zz_iload_n (pc := 140) xf_189_140 (zmem 3 rfl) (zz_iload_n (pc := 141) xf_189_141 (zmem 2 rfl) (zz_call_v (pc := 142) (cu := 0) (su := 0) (fun ls hr => zz_calV xf_189_142 rfl zis_115 ls hr) rfl (sp_factorR (d := d) hB (by omega) (by assumption) (by omega) hA2 hR2) (zz_lmul (pc := 145) xf_189_145 (zz_goto (pc := 146) xf_189_146 (zz_ladd (pc := 150) xf_189_150 (zz_last (pc := 151) xf_189_151 zis_131 (by omega) (zm_as (fun zM12 (ezM12 : zM12 = zup M 131 j.toNat ((M 131 j.toNat) + ((M 130 k.toNat) * (zfac C zn1 i k j)))) => zz_iinc (pc := 152) xf_189_152 (zmem 3 rfl) (by decide +kernel) (zG_ro (ρ' := [(3, .int (Int32.ofInt (k + 1))), (0, .ref 115), (1, .int (Int32.ofInt i)), (2, .int (Int32.ofInt j))]) rfl (zz_goto (pc := 155) xf_189_155 ((by exfalso; omega))))))))))))))))))))))))))))))))))))))))))
  | succ zn ih =>
    intro k M hM hkk hm
    have hX : ∀ q : Nat, ¬ q = 130 → ¬ q = 131 → M q = M0 q := fun q h h2 => by rw [hM, zup_or h2, ztab_or h2, rxM_o h h2]
    obtain ⟨⟨g1, g2⟩, ⟨g3, g4⟩, g5⟩ := id hB.g
    obtain ⟨g6, g7⟩ := hB.g.sz
    have hz : zsz C zn1 = C (zn1 + 1) 0 * C (zn1 + 1) 1 := rfl
    have hm8 : zmi (ztot C zn1) 8 = ztot C zn1 := if_pos h8
    have ht0 := hB.t0
    have hA2 : rA C M := rA_c (by rw [hX _ (by decide) (by decide)]) (by rw [hX _ (by decide) (by decide)]) (hX _ (by decide) (by decide)) hA
    have hR2 : rL C M := rL_c (by rw [hX _ (by decide) (by decide)]) (by rw [hX _ (by decide) (by decide)]) (by rw [hX _ (by decide) (by decide)]) (hX _ (by decide) (by decide)) (hX _ (by decide) (by decide)) (hX _ (by decide) (by decide)) hR
    have h130 : k < zsz C zn1 → M 130 k.toNat = rxE C i.toNat k.toNat := fun h => by rw [hM, zup_or (by decide), ztab_or (by decide)]; exact rxM_i (by omega) (by omega) _
    have hEb : k < zsz C zn1 → 0 ≤ rxE C i.toNat k.toNat ∧ rxE C i.toNat k.toNat ≤ 1000000000000000000 := fun h => rxE_b hB h8 (by omega) (by omega)
    have h131 : M 131 j.toNat = zsum (rxG C i (rxE C i.toNat) j.toNat) k.toNat := by rw [hM]; exact zup_i
    have hGt : k < zsz C zn1 → zfree C zn1 k → zfree C zn1 j → 0 < M 130 k.toNat → rxG C i (rxE C i.toNat) j.toNat k.toNat = M 130 k.toNat * zfac C zn1 i k j := fun h1 h2 h3 h4 => by
      rw [h130 h1] at h4 ⊢
      unfold rxG
      rw [if_pos ⟨⟨(zfreeN_i hkk.1).mpr h2, (zfreeN_i hj.1).mpr h3⟩, h4⟩, Int.toNat_of_nonneg hkk.1, Int.toNat_of_nonneg hj.1]
    have hGf : k < zsz C zn1 → ¬ (zfree C zn1 k ∧ zfree C zn1 j ∧ 0 < M 130 k.toNat) → rxG C i (rxE C i.toNat) j.toNat k.toNat = 0 := fun h1 h2 => by
      rw [h130 h1] at h2
      exact if_neg (fun e => h2 ⟨(zfreeN_i hkk.1).mp e.1.1, (zfreeN_i hj.1).mp e.1.2, e.2⟩)
    have hE1 : rxE C (i.toNat + 1) j.toNat = zsum (rxG C i (rxE C i.toNat) j.toNat) (zsz C zn1).toNat := by
      have h9 : rxE C (i.toNat + 1) j.toNat = if j.toNat < (zsz C zn1).toNat then zsum (rxG C ((i.toNat : Nat) : Int) (rxE C i.toNat) j.toNat) (zsz C zn1).toNat else rxE C i.toNat j.toNat := rfl
      rw [h9, if_pos (by omega), Int.toNat_of_nonneg hi.1]
    have hxx : ∀ y : Int, zup M 131 j.toNat y = zup (ztab (rxM C M0 i.toNat) 131 j.toNat (rxE C (i.toNat + 1))) 131 j.toNat y := fun y => by rw [hM, zup_two]
    exact zG_mono (N := zn * 39 + (NK + 39) + 0 + 39) (by omega) (zz_iload_n (pc := 90) xf_189_90 (zmem 3 rfl) (zz_aload_n (pc := 91) xf_189_91 (zmem 0 rfl) (zz_call_v (pc := 92) (cu := 0) (su := 0) (fun ls hr => zz_calV xf_189_92 rfl zis_115 ls hr) rfl (sp_cellsR (d := d + 4) hB hA2) (zz_icmp (pc := 95) xf_189_95 (by unfold zr32; omega) (by unfold zr32; omega) (fun (zc1 : ¬ (k < (zsz C zn1))) => zz_iinc (pc := 158) xf_189_158 (zmem 2 rfl) (by decide +kernel) (zG_ro (ρ' := [(2, .int (Int32.ofInt (j + 1))), (0, .ref 115), (1, .int (Int32.ofInt i)), (3, .int (Int32.ofInt k))]) rfl (zz_goto (pc := 161) xf_189_161 (zG_mono (N := NK) (by omega) (zG_sub (List.forall_mem_cons.mpr ⟨zmem 1 rfl, (List.forall_mem_cons.mpr ⟨zmem 2 rfl, (List.forall_mem_cons.mpr ⟨zmem 0 rfl, (fun p hp => absurd hp List.not_mem_nil)⟩)⟩)⟩) (hk _ (by rw [hM, show (j + 1).toNat = j.toNat + 1 by omega]; refine ztab_s ?_; rw [show k.toNat = (zsz C zn1).toNat by omega]; exact hE1.symm))))))) (fun zc20 => have zc2 : k < (zsz C zn1) := Classical.not_not.mp zc20; zz_aload_n (pc := 98) xf_189_98 (zmem 0 rfl) (zz_getR (pc := 99) xf_189_99 zis_115 (by decide +kernel) rfl (zz_iload_n (pc := 102) xf_189_102 (zmem 2 rfl) (zz_dup2_ir (pc := 103) xf_189_103 (zz_lald (pc := 104) xf_189_104 zis_131 (by omega) (zz_aload_n (pc := 105) xf_189_105 (zmem 0 rfl) (zz_iload_n (pc := 106) xf_189_106 (zmem 3 rfl) (zz_call_v (pc := 107) (cu := 0) (su := 0) (fun ls hr => zz_calV xf_189_107 rfl zis_115 ls hr) rfl (sp_isFreeR (d := d + 4) hB (by omega) hA2) (zz_ifbeq (pc := 110) xf_189_110 (fun (zc3 : ¬ (zfree C zn1 k)) => zz_lconst (pc := 149) (x := 0) xf_189_149 (by decide +kernel) (zz_ladd (pc := 150) xf_189_150 (zz_last (pc := 151) xf_189_151 zis_131 (by omega) (zm_as (fun zM5 (ezM5 : zM5 = zup M 131 j.toNat ((M 131 j.toNat) + (0))) => zz_iinc (pc := 152) xf_189_152 (zmem 3 rfl) (by decide +kernel) (zG_ro (ρ' := [(3, .int (Int32.ofInt (k + 1))), (0, .ref 115), (1, .int (Int32.ofInt i)), (2, .int (Int32.ofInt j))]) rfl (zz_goto (pc := 155) xf_189_155 (zG_mono (N := zn * 39 + (NK + 39)) (by omega) (zG_sub (List.forall_mem_cons.mpr ⟨zmem 1 rfl, (List.forall_mem_cons.mpr ⟨zmem 2 rfl, (List.forall_mem_cons.mpr ⟨zmem 3 rfl, (List.forall_mem_cons.mpr ⟨zmem 0 rfl, (fun p hp => absurd hp List.not_mem_nil)⟩)⟩)⟩)⟩) (ih (k + 1) zM5  (by rw [ezM5, h131, zsum_s hkk.1, hxx]; first | rw [hGt (by omega) (by assumption) (by assumption) (by assumption)] | (rw [hGf (by omega) (fun e => by first | exact absurd e.1 (by assumption) | exact absurd e.2.1 (by assumption) | exact absurd e.2.2 (by assumption))])) (by omega) (by omega))))))))))) (fun zc40 => have zc4 : zfree C zn1 k := Classical.not_not.mp zc40; zz_aload_n (pc := 113) xf_189_113 (zmem 0 rfl) (zz_iload_n (pc := 114) xf_189_114 (zmem 2 rfl) (zz_call_v (pc := 115) (cu := 0) (su := 0) (fun ls hr => zz_calV xf_189_115 rfl zis_115 ls hr) rfl (sp_isFreeR (d := d + 4) hB (by omega) hA2) (zz_ifbeq (pc := 118) xf_189_118 (fun (zc6 : ¬ (zfree C zn1 j)) => zz_lconst (pc := 149) (x := 0) xf_189_149 (by decide +kernel) (zz_ladd (pc := 150) xf_189_150 (zz_last (pc := 151) xf_189_151 zis_131 (by omega) (zm_as (fun zM8 (ezM8 : zM8 = zup M 131 j.toNat ((M 131 j.toNat) + (0))) => zz_iinc (pc := 152) xf_189_152 (zmem 3 rfl) (by decide +kernel) (zG_ro (ρ' := [(3, .int (Int32.ofInt (k + 1))), (0, .ref 115), (1, .int (Int32.ofInt i)), (2, .int (Int32.ofInt j))]) rfl (zz_goto (pc := 155) xf_189_155 (zG_mono (N := zn * 39 + (NK + 39)) (by omega) (zG_sub (List.forall_mem_cons.mpr ⟨zmem 1 rfl, (List.forall_mem_cons.mpr ⟨zmem 2 rfl, (List.forall_mem_cons.mpr ⟨zmem 3 rfl, (List.forall_mem_cons.mpr ⟨zmem 0 rfl, (fun p hp => absurd hp List.not_mem_nil)⟩)⟩)⟩)⟩) (ih (k + 1) zM8  (by rw [ezM8, h131, zsum_s hkk.1, hxx]; first | rw [hGt (by omega) (by assumption) (by assumption) (by assumption)] | (rw [hGf (by omega) (fun e => by first | exact absurd e.1 (by assumption) | exact absurd e.2.1 (by assumption) | exact absurd e.2.2 (by assumption))])) (by omega) (by omega))))))))))) (fun zc70 => have zc7 : zfree C zn1 j := Classical.not_not.mp zc70; zz_aload_n (pc := 121) xf_189_121 (zmem 0 rfl) (zz_getR (pc := 122) xf_189_122 zis_115 (by decide +kernel) rfl (zz_iload_n (pc := 125) xf_189_125 (zmem 3 rfl) (zz_lald (pc := 126) xf_189_126 zis_130 (by omega) (zz_lconst (pc := 127) (x := 0) xf_189_127 (by decide +kernel) (zz_lcmp (pc := 128) xf_189_128 xf_189_129 (by have h9 := hEb (by omega); rw [h130 (by omega)]; unfold zr64; omega) ⟨by decide, by decide⟩ (fun (zc9 : ¬ ((0) < (M 130 k.toNat))) => zz_lconst (pc := 149) (x := 0) xf_189_149 (by decide +kernel) (zz_ladd (pc := 150) xf_189_150 (zz_last (pc := 151) xf_189_151 zis_131 (by omega) (zm_as (fun zM11 (ezM11 : zM11 = zup M 131 j.toNat ((M 131 j.toNat) + (0))) => zz_iinc (pc := 152) xf_189_152 (zmem 3 rfl) (by decide +kernel) (zG_ro (ρ' := [(3, .int (Int32.ofInt (k + 1))), (0, .ref 115), (1, .int (Int32.ofInt i)), (2, .int (Int32.ofInt j))]) rfl (zz_goto (pc := 155) xf_189_155 (zG_mono (N := zn * 39 + (NK + 39)) (by omega) (zG_sub (List.forall_mem_cons.mpr ⟨zmem 1 rfl, (List.forall_mem_cons.mpr ⟨zmem 2 rfl, (List.forall_mem_cons.mpr ⟨zmem 3 rfl, (List.forall_mem_cons.mpr ⟨zmem 0 rfl, (fun p hp => absurd hp List.not_mem_nil)⟩)⟩)⟩)⟩) (ih (k + 1) zM11  (by rw [ezM11, h131, zsum_s hkk.1, hxx]; first | rw [hGt (by omega) (by assumption) (by assumption) (by assumption)] | (rw [hGf (by omega) (fun e => by first | exact absurd e.1 (by assumption) | exact absurd e.2.1 (by assumption) | exact absurd e.2.2 (by assumption))])) (by omega) (by omega))))))))))) (fun zc100 => have zc10 : (0) < (M 130 k.toNat) := Classical.not_not.mp zc100; zz_aload_n (pc := 132) xf_189_132 (zmem 0 rfl) (zz_getR (pc := 133) xf_189_133 zis_115 (by decide +kernel) rfl (zz_iload_n (pc := 136) xf_189_136 (zmem 3 rfl) (zz_lald (pc := 137) xf_189_137 zis_130 (by omega) (zz_aload_n (pc := 138) xf_189_138 (zmem 0 rfl) (zz_iload_n (pc := 139) xf_189_139 (zmem 1 rfl) (zz_iload_n (pc := 140) xf_189_140 (zmem 3 rfl) (zz_iload_n (pc := 141) xf_189_141 (zmem 2 rfl) (zz_call_v (pc := 142) (cu := 0) (su := 0) (fun ls hr => zz_calV xf_189_142 rfl zis_115 ls hr) rfl (sp_factorR (d := d) hB (by omega) (by assumption) (by omega) hA2 hR2) (zz_lmul (pc := 145) xf_189_145 (zz_goto (pc := 146) xf_189_146 (zz_ladd (pc := 150) xf_189_150 (zz_last (pc := 151) xf_189_151 zis_131 (by omega) (zm_as (fun zM12 (ezM12 : zM12 = zup M 131 j.toNat ((M 131 j.toNat) + ((M 130 k.toNat) * (zfac C zn1 i k j)))) => zz_iinc (pc := 152) xf_189_152 (zmem 3 rfl) (by decide +kernel) (zG_ro (ρ' := [(3, .int (Int32.ofInt (k + 1))), (0, .ref 115), (1, .int (Int32.ofInt i)), (2, .int (Int32.ofInt j))]) rfl (zz_goto (pc := 155) xf_189_155 (zG_mono (N := zn * 39 + (NK + 39)) (by omega) (zG_sub (List.forall_mem_cons.mpr ⟨zmem 1 rfl, (List.forall_mem_cons.mpr ⟨zmem 2 rfl, (List.forall_mem_cons.mpr ⟨zmem 3 rfl, (List.forall_mem_cons.mpr ⟨zmem 0 rfl, (fun p hp => absurd hp List.not_mem_nil)⟩)⟩)⟩)⟩) (ih (k + 1) zM12  (by rw [ezM12, h131, zsum_s hkk.1, hxx]; first | rw [hGt (by omega) (by assumption) (by assumption) (by assumption)] | (rw [hGf (by omega) (fun e => by first | exact absurd e.1 (by assumption) | exact absurd e.2.1 (by assumption) | exact absurd e.2.2 (by assumption))])) (by omega) (by omega))))))))))))))))))))))))))))))))))))))))))))
theorem zl_findExactR_73 {xs : List Int32} {d : Nat} {w : Bool}  {C : zM} {n : Int} (hB : zBI n C zn1) {M0 : zM} (hA : rA C M0) (hR : rL C M0) (h8 : ztot C zn1 ≤ 8) {i : Int} {NK : Nat} (hi : 0 ≤ i ∧ i < ztot C zn1) (hk : ∀ M2 : zM, M2 = rxM C M0 (i.toNat + 1) → zG (xstep (xrun2 xs (d + 5)) xs 189) 189 NK 58 [(0, .ref 115), (1, .int (Int32.ofInt (i + 1)))] [] 0 0 w M2 (fun o σ => o = (.inl none : XO) ∧ σ = (w, zheap (rxM C M0 (ztot C zn1).toNat)))) : ∀ (zn : Nat) (j : Int) (M : zM), (M = ztab (rxM C M0 i.toNat) 131 j.toNat (rxE C (i.toNat + 1))) → (0 ≤ j ∧ j ≤ zsz C zn1) → zsz C zn1 - j ≤ (zn : Int) → zG (xstep (xrun2 xs (d + 5)) xs 189) 189 (zn * 1454 + ((36 * 14 + (NK + 14)) + 11)) 73 [(0, .ref 115), (1, .int (Int32.ofInt i)), (2, .int (Int32.ofInt j))] [] 0 0 w M (fun o σ => o = (.inl none : XO) ∧ σ = (w, zheap (rxM C M0 (ztot C zn1).toNat))) := by
  intro zn
  induction zn with
  | zero =>
    intro j M hM hj hm
    have hX : ∀ q : Nat, ¬ q = 130 → ¬ q = 131 → M q = M0 q := fun q h h2 => by rw [hM, ztab_or h2, rxM_o h h2]
    obtain ⟨⟨g1, g2⟩, ⟨g3, g4⟩, g5⟩ := id hB.g
    obtain ⟨g6, g7⟩ := hB.g.sz
    have hz : zsz C zn1 = C (zn1 + 1) 0 * C (zn1 + 1) 1 := rfl
    have hm8 : zmi (ztot C zn1) 8 = ztot C zn1 := if_pos h8
    have ht0 := hB.t0
    have hA2 : rA C M := rA_c (by rw [hX _ (by decide) (by decide)]) (by rw [hX _ (by decide) (by decide)]) (hX _ (by decide) (by decide)) hA
    have hR2 : rL C M := rL_c (by rw [hX _ (by decide) (by decide)]) (by rw [hX _ (by decide) (by decide)]) (by rw [hX _ (by decide) (by decide)]) (hX _ (by decide) (by decide)) (hX _ (by decide) (by decide)) (hX _ (by decide) (by decide)) hR
    exact zG_mono (N := (36 * 14 + (NK + 14)) + 11) (by omega) (zz_iload_n (pc := 73) xf_189_73 (zmem 2 rfl) (zz_aload_n (pc := 74) xf_189_74 (zmem 0 rfl) (zz_call_v (pc := 75) (cu := 0) (su := 0) (fun ls hr => zz_calV xf_189_75 rfl zis_115 ls hr) rfl (sp_cellsR (d := d + 4) hB hA2) (zz_icmp (pc := 78) xf_189_78 (by unfold zr32; omega) (by unfold zr32; omega) (fun (zc1 : ¬ (j < (zsz C zn1))) => zz_iconst (pc := 164) xf_189_164 (zz_istore_n (pc := 165) xf_189_165 (by decide +kernel) (zG_ro (ρ' := [(2, .int (Int32.ofInt (0))), (0, .ref 115), (1, .int (Int32.ofInt i))]) rfl (zG_mono (N := (36 * 14 + (NK + 14))) (by omega) (zG_sub (List.forall_mem_cons.mpr ⟨zmem 1 rfl, (List.forall_mem_cons.mpr ⟨zmem 2 rfl, (List.forall_mem_cons.mpr ⟨zmem 0 rfl, (fun p hp => absurd hp List.not_mem_nil)⟩)⟩)⟩) (zl_findExactR_166 hB hA hR h8 (NK := NK) (i := i) hi hk 36 _ _ (by rw [hM, show j.toNat = (zsz C zn1).toNat by omega]; exact ztab_0.symm) (by omega) (by omega))))))) (fun zc20 => have zc2 : j < (zsz C zn1) := Classical.not_not.mp zc20; zz_aload_n (pc := 81) xf_189_81 (zmem 0 rfl) (zz_getR (pc := 82) xf_189_82 zis_115 (by decide +kernel) rfl (zz_iload_n (pc := 85) xf_189_85 (zmem 2 rfl) (zz_lconst (pc := 86) (x := 0) xf_189_86 (by decide +kernel) (zz_last (pc := 87) xf_189_87 zis_131 (by omega) (zm_as (fun zM3 (ezM3 : zM3 = zup M 131 j.toNat (0)) => zz_iconst (pc := 88) xf_189_88 (zz_istore_n (pc := 89) xf_189_89 (by decide +kernel) (zG_ro (ρ' := [(3, .int (Int32.ofInt (0))), (0, .ref 115), (1, .int (Int32.ofInt i)), (2, .int (Int32.ofInt j))]) rfl ((by exfalso; omega)))))))))))))))
  | succ zn ih =>
    intro j M hM hj hm
    have hX : ∀ q : Nat, ¬ q = 130 → ¬ q = 131 → M q = M0 q := fun q h h2 => by rw [hM, ztab_or h2, rxM_o h h2]
    obtain ⟨⟨g1, g2⟩, ⟨g3, g4⟩, g5⟩ := id hB.g
    obtain ⟨g6, g7⟩ := hB.g.sz
    have hz : zsz C zn1 = C (zn1 + 1) 0 * C (zn1 + 1) 1 := rfl
    have hm8 : zmi (ztot C zn1) 8 = ztot C zn1 := if_pos h8
    have ht0 := hB.t0
    have hA2 : rA C M := rA_c (by rw [hX _ (by decide) (by decide)]) (by rw [hX _ (by decide) (by decide)]) (hX _ (by decide) (by decide)) hA
    have hR2 : rL C M := rL_c (by rw [hX _ (by decide) (by decide)]) (by rw [hX _ (by decide) (by decide)]) (by rw [hX _ (by decide) (by decide)]) (hX _ (by decide) (by decide)) (hX _ (by decide) (by decide)) (hX _ (by decide) (by decide)) hR
    exact zG_mono (N := zn * 1454 + ((36 * 14 + (NK + 14)) + 11) + 1443 + 11) (by omega) (zz_iload_n (pc := 73) xf_189_73 (zmem 2 rfl) (zz_aload_n (pc := 74) xf_189_74 (zmem 0 rfl) (zz_call_v (pc := 75) (cu := 0) (su := 0) (fun ls hr => zz_calV xf_189_75 rfl zis_115 ls hr) rfl (sp_cellsR (d := d + 4) hB hA2) (zz_icmp (pc := 78) xf_189_78 (by unfold zr32; omega) (by unfold zr32; omega) (fun (zc1 : ¬ (j < (zsz C zn1))) => zz_iconst (pc := 164) xf_189_164 (zz_istore_n (pc := 165) xf_189_165 (by decide +kernel) (zG_ro (ρ' := [(2, .int (Int32.ofInt (0))), (0, .ref 115), (1, .int (Int32.ofInt i))]) rfl (zG_mono (N := (36 * 14 + (NK + 14))) (by omega) (zG_sub (List.forall_mem_cons.mpr ⟨zmem 1 rfl, (List.forall_mem_cons.mpr ⟨zmem 2 rfl, (List.forall_mem_cons.mpr ⟨zmem 0 rfl, (fun p hp => absurd hp List.not_mem_nil)⟩)⟩)⟩) (zl_findExactR_166 hB hA hR h8 (NK := NK) (i := i) hi hk 36 _ _ (by rw [hM, show j.toNat = (zsz C zn1).toNat by omega]; exact ztab_0.symm) (by omega) (by omega))))))) (fun zc20 => have zc2 : j < (zsz C zn1) := Classical.not_not.mp zc20; zz_aload_n (pc := 81) xf_189_81 (zmem 0 rfl) (zz_getR (pc := 82) xf_189_82 zis_115 (by decide +kernel) rfl (zz_iload_n (pc := 85) xf_189_85 (zmem 2 rfl) (zz_lconst (pc := 86) (x := 0) xf_189_86 (by decide +kernel) (zz_last (pc := 87) xf_189_87 zis_131 (by omega) (zm_as (fun zM3 (ezM3 : zM3 = zup M 131 j.toNat (0)) => zz_iconst (pc := 88) xf_189_88 (zz_istore_n (pc := 89) xf_189_89 (by decide +kernel) (zG_ro (ρ' := [(3, .int (Int32.ofInt (0))), (0, .ref 115), (1, .int (Int32.ofInt i)), (2, .int (Int32.ofInt j))]) rfl (zG_mono (N := (36 * 39 + ((zn * 1454 + ((36 * 14 + (NK + 14)) + 11)) + 39))) (by omega) (zG_sub (List.forall_mem_cons.mpr ⟨zmem 1 rfl, (List.forall_mem_cons.mpr ⟨zmem 2 rfl, (List.forall_mem_cons.mpr ⟨zmem 3 rfl, (List.forall_mem_cons.mpr ⟨zmem 0 rfl, (fun p hp => absurd hp List.not_mem_nil)⟩)⟩)⟩)⟩) (zl_findExactR_90 hB hA hR h8 (NK := (zn * 1454 + ((36 * 14 + (NK + 14)) + 11))) (i := i) (j := j) hi (by omega) (fun M2 hM2 => ih _ _ hM2 (by omega) (by omega)) 36 0 _ (by rw [ezM3, hM]; rfl) (by omega) (by omega)))))))))))))))))
theorem zl_findExactR_58 {xs : List Int32} {d : Nat} {w : Bool}  {C : zM} {n : Int} (hB : zBI n C zn1) {M0 : zM} (hA : rA C M0) (hR : rL C M0) (h8 : ztot C zn1 ≤ 8)  : ∀ (zn : Nat) (i : Int) (M : zM), (M = rxM C M0 i.toNat) → (0 ≤ i ∧ i ≤ ztot C zn1) → ztot C zn1 - i ≤ (zn : Int) → zG (xstep (xrun2 xs (d + 5)) xs 189) 189 (zn * 52882 + 9) 58 [(0, .ref 115), (1, .int (Int32.ofInt i))] [] 0 0 w M (fun o σ => o = (.inl none : XO) ∧ σ = (w, zheap (rxM C M0 (ztot C zn1).toNat))) := by
  intro zn
  induction zn with
  | zero =>
    intro i M hM hi hm
    have hX : ∀ q : Nat, ¬ q = 130 → ¬ q = 131 → M q = M0 q := fun q h h2 => by rw [hM, rxM_o h h2]
    obtain ⟨⟨g1, g2⟩, ⟨g3, g4⟩, g5⟩ := id hB.g
    obtain ⟨g6, g7⟩ := hB.g.sz
    have hz : zsz C zn1 = C (zn1 + 1) 0 * C (zn1 + 1) 1 := rfl
    have hm8 : zmi (ztot C zn1) 8 = ztot C zn1 := if_pos h8
    have ht0 := hB.t0
    have hA2 : rA C M := rA_c (by rw [hX _ (by decide) (by decide)]) (by rw [hX _ (by decide) (by decide)]) (hX _ (by decide) (by decide)) hA
    have hR2 : rL C M := rL_c (by rw [hX _ (by decide) (by decide)]) (by rw [hX _ (by decide) (by decide)]) (by rw [hX _ (by decide) (by decide)]) (hX _ (by decide) (by decide)) (hX _ (by decide) (by decide)) (hX _ (by decide) (by decide)) hR
    have htt := hR2.tt
    have hte : rtt M = M 115 19 + M 115 20 := rfl
    exact zG_mono (N := 0 + 9) (by omega) (zz_iload_n (pc := 58) xf_189_58 (zmem 1 rfl) (zz_aload_n (pc := 59) xf_189_59 (zmem 0 rfl) (zz_getI (pc := 60) xf_189_60 zis_115 (by decide +kernel) rfl (zz_aload_n (pc := 63) xf_189_63 (zmem 0 rfl) (zz_getI (pc := 64) xf_189_64 zis_115 (by decide +kernel) rfl (zz_iadd (pc := 67) xf_189_67 (zz_icmp (pc := 68) xf_189_68 (by unfold zr32; omega) (by unfold zr32; omega) (fun (zc1 : ¬ (i < ((M 115 19) + (M 115 20)))) => zz_return (pc := 198) xf_189_198 rfl (by decide +kernel) (by decide +kernel) (by exact ⟨rfl, by rw [hM, show i.toNat = (ztot C zn1).toNat by omega]⟩)) (fun zc20 => have zc2 : i < ((M 115 19) + (M 115 20)) := Classical.not_not.mp zc20; zz_iconst (pc := 71) xf_189_71 (zz_istore_n (pc := 72) xf_189_72 (by decide +kernel) (zG_ro (ρ' := [(2, .int (Int32.ofInt (0))), (0, .ref 115), (1, .int (Int32.ofInt i))]) rfl ((by exfalso; omega))))))))))))
  | succ zn ih =>
    intro i M hM hi hm
    have hX : ∀ q : Nat, ¬ q = 130 → ¬ q = 131 → M q = M0 q := fun q h h2 => by rw [hM, rxM_o h h2]
    obtain ⟨⟨g1, g2⟩, ⟨g3, g4⟩, g5⟩ := id hB.g
    obtain ⟨g6, g7⟩ := hB.g.sz
    have hz : zsz C zn1 = C (zn1 + 1) 0 * C (zn1 + 1) 1 := rfl
    have hm8 : zmi (ztot C zn1) 8 = ztot C zn1 := if_pos h8
    have ht0 := hB.t0
    have hA2 : rA C M := rA_c (by rw [hX _ (by decide) (by decide)]) (by rw [hX _ (by decide) (by decide)]) (hX _ (by decide) (by decide)) hA
    have hR2 : rL C M := rL_c (by rw [hX _ (by decide) (by decide)]) (by rw [hX _ (by decide) (by decide)]) (by rw [hX _ (by decide) (by decide)]) (hX _ (by decide) (by decide)) (hX _ (by decide) (by decide)) (hX _ (by decide) (by decide)) hR
    have htt := hR2.tt
    have hte : rtt M = M 115 19 + M 115 20 := rfl
    exact zG_mono (N := zn * 52882 + 9 + 52873 + 9) (by omega) (zz_iload_n (pc := 58) xf_189_58 (zmem 1 rfl) (zz_aload_n (pc := 59) xf_189_59 (zmem 0 rfl) (zz_getI (pc := 60) xf_189_60 zis_115 (by decide +kernel) rfl (zz_aload_n (pc := 63) xf_189_63 (zmem 0 rfl) (zz_getI (pc := 64) xf_189_64 zis_115 (by decide +kernel) rfl (zz_iadd (pc := 67) xf_189_67 (zz_icmp (pc := 68) xf_189_68 (by unfold zr32; omega) (by unfold zr32; omega) (fun (zc1 : ¬ (i < ((M 115 19) + (M 115 20)))) => zz_return (pc := 198) xf_189_198 rfl (by decide +kernel) (by decide +kernel) (by exact ⟨rfl, by rw [hM, show i.toNat = (ztot C zn1).toNat by omega]⟩)) (fun zc20 => have zc2 : i < ((M 115 19) + (M 115 20)) := Classical.not_not.mp zc20; zz_iconst (pc := 71) xf_189_71 (zz_istore_n (pc := 72) xf_189_72 (by decide +kernel) (zG_ro (ρ' := [(2, .int (Int32.ofInt (0))), (0, .ref 115), (1, .int (Int32.ofInt i))]) rfl (zG_mono (N := (36 * 1454 + ((36 * 14 + ((zn * 52882 + 9) + 14)) + 11))) (by omega) (zG_sub (List.forall_mem_cons.mpr ⟨zmem 1 rfl, (List.forall_mem_cons.mpr ⟨zmem 2 rfl, (List.forall_mem_cons.mpr ⟨zmem 0 rfl, (fun p hp => absurd hp List.not_mem_nil)⟩)⟩)⟩) (zl_findExactR_73 hB hA hR h8 (NK := (zn * 52882 + 9)) (i := i) (by omega) (fun M2 hM2 => ih _ _ (by rw [hM2, show (i + 1).toNat = i.toNat + 1 by omega]) (by omega) (by omega)) 36 0 _ (by rw [hM]; exact ztab_0.symm) (by omega) (by omega))))))))))))))
theorem zl_findExactR_2 {xs : List Int32} {d : Nat} {w : Bool}  {C : zM} {n : Int} (hB : zBI n C zn1) {M0 : zM} (hA : rA C M0) (hR : rL C M0) (h8 : ztot C zn1 ≤ 8)  : ∀ (zn : Nat) (i : Int) (M : zM), (M = ztab M0 130 i.toNat (rxE C 0)) → (0 ≤ i ∧ i ≤ 36) → 36 - i ≤ (zn : Int) → zG (xstep (xrun2 xs (d + 5)) xs 189) 189 (zn * 26 + 423091) 2 [(0, .ref 115), (1, .int (Int32.ofInt i))] [] 0 0 w M (fun o σ => o = (.inl none : XO) ∧ σ = (w, zheap (rxM C M0 (ztot C zn1).toNat))) := by
  intro zn
  induction zn with
  | zero =>
    intro i M hM hi hm
    have hX : ∀ q : Nat, ¬ q = 130 → ¬ q = 131 → M q = M0 q := fun q h h2 => by rw [hM, ztab_or h]
    obtain ⟨⟨g1, g2⟩, ⟨g3, g4⟩, g5⟩ := id hB.g
    obtain ⟨g6, g7⟩ := hB.g.sz
    have hz : zsz C zn1 = C (zn1 + 1) 0 * C (zn1 + 1) 1 := rfl
    have hm8 : zmi (ztot C zn1) 8 = ztot C zn1 := if_pos h8
    have ht0 := hB.t0
    have hA2 : rA C M := rA_c (by rw [hX _ (by decide) (by decide)]) (by rw [hX _ (by decide) (by decide)]) (hX _ (by decide) (by decide)) hA
    have hR2 : rL C M := rL_c (by rw [hX _ (by decide) (by decide)]) (by rw [hX _ (by decide) (by decide)]) (by rw [hX _ (by decide) (by decide)]) (hX _ (by decide) (by decide)) (hX _ (by decide) (by decide)) (hX _ (by decide) (by decide)) hR
    have hb9 : M 115 21 = C (zn1 + 8) 0 := hR2.1.2.2
    have hbz : -1 ≤ C (zn1 + 8) 0 ∧ C (zn1 + 8) 0 ≤ 35 := by
      rcases hB.b4.2.2.2 with h2 | h2
      · omega
      · have := h2.1; have h4 := h2.2.1; omega
    have hxe : rxE C 0 i.toNat = zb (i < zsz C zn1 ∧ zmb C zn1 i) := by
      show zb (((i.toNat : Nat) : Int) < zsz C zn1 ∧ zmb C zn1 ((i.toNat : Nat) : Int)) = _
      rw [Int.toNat_of_nonneg hi.1]
    exact zG_mono (N := 423065 + 26) (by omega) (zz_iload_n (pc := 2) xf_189_2 (zmem 1 rfl) (zz_bipush (pc := 3) (x := 36) xf_189_3 (by decide +kernel) (zz_icmp (pc := 5) xf_189_5 (by unfold zr32; omega) ⟨by decide, by decide⟩ (fun (zc1 : ¬ (i < (36))) => zz_iconst (pc := 56) xf_189_56 (zz_istore_n (pc := 57) xf_189_57 (by decide +kernel) (zG_ro (ρ' := [(1, .int (Int32.ofInt (0))), (0, .ref 115)]) rfl (zG_mono (N := 423065) (by omega) (zG_sub (List.forall_mem_cons.mpr ⟨zmem 1 rfl, (List.forall_mem_cons.mpr ⟨zmem 0 rfl, (fun p hp => absurd hp List.not_mem_nil)⟩)⟩) (zl_findExactR_58 hB hA hR h8 8 0 _ (by rw [hM, show i.toNat = 36 by omega]; rfl) (by omega) (by omega))))))) (fun zc20 => have zc2 : i < (36) := Classical.not_not.mp zc20; zz_aload_n (pc := 8) xf_189_8 (zmem 0 rfl) (zz_getR (pc := 9) xf_189_9 zis_115 (by decide +kernel) rfl (zz_iload_n (pc := 12) xf_189_12 (zmem 1 rfl) (zz_iload_n (pc := 13) xf_189_13 (zmem 1 rfl) (zz_aload_n (pc := 14) xf_189_14 (zmem 0 rfl) (zz_call_v (pc := 15) (cu := 0) (su := 0) (fun ls hr => zz_calV xf_189_15 rfl zis_115 ls hr) rfl (sp_cellsR (d := d + 4) hB hA2) (zz_icmp (pc := 18) xf_189_18 (by unfold zr32; omega) (by unfold zr32; omega) (fun (zc3 : ¬ (i < (zsz C zn1))) => zz_lconst (pc := 48) (x := 0) xf_189_48 (by decide +kernel) (zz_last (pc := 49) xf_189_49 zis_130 (by omega) (zm_as (fun zM5 (ezM5 : zM5 = zup M 130 i.toNat (0)) => zz_iinc (pc := 50) xf_189_50 (zmem 1 rfl) (by decide +kernel) (zG_ro (ρ' := [(1, .int (Int32.ofInt (i + 1))), (0, .ref 115)]) rfl (zz_goto (pc := 53) xf_189_53 ((by exfalso; omega)))))))) (fun zc40 => have zc4 : i < (zsz C zn1) := Classical.not_not.mp zc40; zz_aload_n (pc := 21) xf_189_21 (zmem 0 rfl) (zz_iload_n (pc := 22) xf_189_22 (zmem 1 rfl) (zz_call_v (pc := 23) (cu := 0) (su := 0) (fun ls hr => zz_calV xf_189_23 rfl zis_115 ls hr) rfl (sp_isFreeR (d := d + 4) hB (by omega) hA2) (zz_ifbeq (pc := 26) xf_189_26 (fun (zc6 : ¬ (zfree C zn1 i)) => zz_lconst (pc := 48) (x := 0) xf_189_48 (by decide +kernel) (zz_last (pc := 49) xf_189_49 zis_130 (by omega) (zm_as (fun zM8 (ezM8 : zM8 = zup M 130 i.toNat (0)) => zz_iinc (pc := 50) xf_189_50 (zmem 1 rfl) (by decide +kernel) (zG_ro (ρ' := [(1, .int (Int32.ofInt (i + 1))), (0, .ref 115)]) rfl (zz_goto (pc := 53) xf_189_53 ((by exfalso; omega)))))))) (fun zc70 => have zc7 : zfree C zn1 i := Classical.not_not.mp zc70; zz_aload_n (pc := 29) xf_189_29 (zmem 0 rfl) (zz_getI (pc := 30) xf_189_30 zis_115 (by decide +kernel) rfl (zz_if (pc := 33) xf_189_33 (by unfold zr32; omega) (fun (zc9 : (M 115 21) < 0) => zz_lconst (pc := 44) (x := 1) xf_189_44 (by decide +kernel) (zz_goto (pc := 45) xf_189_45 (zz_last (pc := 49) xf_189_49 zis_130 (by omega) (zm_as (fun zM11 (ezM11 : zM11 = zup M 130 i.toNat (1)) => zz_iinc (pc := 50) xf_189_50 (zmem 1 rfl) (by decide +kernel) (zG_ro (ρ' := [(1, .int (Int32.ofInt (i + 1))), (0, .ref 115)]) rfl (zz_goto (pc := 53) xf_189_53 ((by exfalso; omega))))))))) (fun (zc10 : ¬ ((M 115 21) < 0)) => zz_aload_n (pc := 36) xf_189_36 (zmem 0 rfl) (zz_getI (pc := 37) xf_189_37 zis_115 (by decide +kernel) rfl (zz_iload_n (pc := 40) xf_189_40 (zmem 1 rfl) (zz_icmp (pc := 41) xf_189_41 (by unfold zr32; omega) (by unfold zr32; omega) (fun (zc12 : ¬ ((M 115 21) = i)) => zz_lconst (pc := 48) (x := 0) xf_189_48 (by decide +kernel) (zz_last (pc := 49) xf_189_49 zis_130 (by omega) (zm_as (fun zM14 (ezM14 : zM14 = zup M 130 i.toNat (0)) => zz_iinc (pc := 50) xf_189_50 (zmem 1 rfl) (by decide +kernel) (zG_ro (ρ' := [(1, .int (Int32.ofInt (i + 1))), (0, .ref 115)]) rfl (zz_goto (pc := 53) xf_189_53 ((by exfalso; omega)))))))) (fun zc130 => have zc13 : (M 115 21) = i := Classical.not_not.mp zc130; zz_lconst (pc := 44) (x := 1) xf_189_44 (by decide +kernel) (zz_goto (pc := 45) xf_189_45 (zz_last (pc := 49) xf_189_49 zis_130 (by omega) (zm_as (fun zM15 (ezM15 : zM15 = zup M 130 i.toNat (1)) => zz_iinc (pc := 50) xf_189_50 (zmem 1 rfl) (by decide +kernel) (zG_ro (ρ' := [(1, .int (Int32.ofInt (i + 1))), (0, .ref 115)]) rfl (zz_goto (pc := 53) xf_189_53 ((by exfalso; omega))))))))))))))))))))))))))))))
  | succ zn ih =>
    intro i M hM hi hm
    have hX : ∀ q : Nat, ¬ q = 130 → ¬ q = 131 → M q = M0 q := fun q h h2 => by rw [hM, ztab_or h]
    obtain ⟨⟨g1, g2⟩, ⟨g3, g4⟩, g5⟩ := id hB.g
    obtain ⟨g6, g7⟩ := hB.g.sz
    have hz : zsz C zn1 = C (zn1 + 1) 0 * C (zn1 + 1) 1 := rfl
    have hm8 : zmi (ztot C zn1) 8 = ztot C zn1 := if_pos h8
    have ht0 := hB.t0
    have hA2 : rA C M := rA_c (by rw [hX _ (by decide) (by decide)]) (by rw [hX _ (by decide) (by decide)]) (hX _ (by decide) (by decide)) hA
    have hR2 : rL C M := rL_c (by rw [hX _ (by decide) (by decide)]) (by rw [hX _ (by decide) (by decide)]) (by rw [hX _ (by decide) (by decide)]) (hX _ (by decide) (by decide)) (hX _ (by decide) (by decide)) (hX _ (by decide) (by decide)) hR
    have hb9 : M 115 21 = C (zn1 + 8) 0 := hR2.1.2.2
    have hbz : -1 ≤ C (zn1 + 8) 0 ∧ C (zn1 + 8) 0 ≤ 35 := by
      rcases hB.b4.2.2.2 with h2 | h2
      · omega
      · have := h2.1; have h4 := h2.2.1; omega
    have hxe : rxE C 0 i.toNat = zb (i < zsz C zn1 ∧ zmb C zn1 i) := by
      show zb (((i.toNat : Nat) : Int) < zsz C zn1 ∧ zmb C zn1 ((i.toNat : Nat) : Int)) = _
      rw [Int.toNat_of_nonneg hi.1]
    exact zG_mono (N := zn * 26 + 423091 + 0 + 26) (by omega) (zz_iload_n (pc := 2) xf_189_2 (zmem 1 rfl) (zz_bipush (pc := 3) (x := 36) xf_189_3 (by decide +kernel) (zz_icmp (pc := 5) xf_189_5 (by unfold zr32; omega) ⟨by decide, by decide⟩ (fun (zc1 : ¬ (i < (36))) => zz_iconst (pc := 56) xf_189_56 (zz_istore_n (pc := 57) xf_189_57 (by decide +kernel) (zG_ro (ρ' := [(1, .int (Int32.ofInt (0))), (0, .ref 115)]) rfl (zG_mono (N := 423065) (by omega) (zG_sub (List.forall_mem_cons.mpr ⟨zmem 1 rfl, (List.forall_mem_cons.mpr ⟨zmem 0 rfl, (fun p hp => absurd hp List.not_mem_nil)⟩)⟩) (zl_findExactR_58 hB hA hR h8 8 0 _ (by rw [hM, show i.toNat = 36 by omega]; rfl) (by omega) (by omega))))))) (fun zc20 => have zc2 : i < (36) := Classical.not_not.mp zc20; zz_aload_n (pc := 8) xf_189_8 (zmem 0 rfl) (zz_getR (pc := 9) xf_189_9 zis_115 (by decide +kernel) rfl (zz_iload_n (pc := 12) xf_189_12 (zmem 1 rfl) (zz_iload_n (pc := 13) xf_189_13 (zmem 1 rfl) (zz_aload_n (pc := 14) xf_189_14 (zmem 0 rfl) (zz_call_v (pc := 15) (cu := 0) (su := 0) (fun ls hr => zz_calV xf_189_15 rfl zis_115 ls hr) rfl (sp_cellsR (d := d + 4) hB hA2) (zz_icmp (pc := 18) xf_189_18 (by unfold zr32; omega) (by unfold zr32; omega) (fun (zc3 : ¬ (i < (zsz C zn1))) => zz_lconst (pc := 48) (x := 0) xf_189_48 (by decide +kernel) (zz_last (pc := 49) xf_189_49 zis_130 (by omega) (zm_as (fun zM5 (ezM5 : zM5 = zup M 130 i.toNat (0)) => zz_iinc (pc := 50) xf_189_50 (zmem 1 rfl) (by decide +kernel) (zG_ro (ρ' := [(1, .int (Int32.ofInt (i + 1))), (0, .ref 115)]) rfl (zz_goto (pc := 53) xf_189_53 (zG_mono (N := zn * 26 + 423091) (by omega) (zG_sub (List.forall_mem_cons.mpr ⟨zmem 1 rfl, (List.forall_mem_cons.mpr ⟨zmem 0 rfl, (fun p hp => absurd hp List.not_mem_nil)⟩)⟩) (ih (i + 1) zM5  (by rw [ezM5, hM, show (i + 1).toNat = i.toNat + 1 by omega]; refine ztab_s ?_; rw [hxe]; first | exact (zb_t ⟨by omega, by assumption, by omega⟩).symm | exact (zb_f (fun e => by first | exact absurd e.2.1 (by assumption) | (have e1 := e.1; have e2 := e.2.2; omega))).symm) (by omega) (by omega)))))))))) (fun zc40 => have zc4 : i < (zsz C zn1) := Classical.not_not.mp zc40; zz_aload_n (pc := 21) xf_189_21 (zmem 0 rfl) (zz_iload_n (pc := 22) xf_189_22 (zmem 1 rfl) (zz_call_v (pc := 23) (cu := 0) (su := 0) (fun ls hr => zz_calV xf_189_23 rfl zis_115 ls hr) rfl (sp_isFreeR (d := d + 4) hB (by omega) hA2) (zz_ifbeq (pc := 26) xf_189_26 (fun (zc6 : ¬ (zfree C zn1 i)) => zz_lconst (pc := 48) (x := 0) xf_189_48 (by decide +kernel) (zz_last (pc := 49) xf_189_49 zis_130 (by omega) (zm_as (fun zM8 (ezM8 : zM8 = zup M 130 i.toNat (0)) => zz_iinc (pc := 50) xf_189_50 (zmem 1 rfl) (by decide +kernel) (zG_ro (ρ' := [(1, .int (Int32.ofInt (i + 1))), (0, .ref 115)]) rfl (zz_goto (pc := 53) xf_189_53 (zG_mono (N := zn * 26 + 423091) (by omega) (zG_sub (List.forall_mem_cons.mpr ⟨zmem 1 rfl, (List.forall_mem_cons.mpr ⟨zmem 0 rfl, (fun p hp => absurd hp List.not_mem_nil)⟩)⟩) (ih (i + 1) zM8  (by rw [ezM8, hM, show (i + 1).toNat = i.toNat + 1 by omega]; refine ztab_s ?_; rw [hxe]; first | exact (zb_t ⟨by omega, by assumption, by omega⟩).symm | exact (zb_f (fun e => by first | exact absurd e.2.1 (by assumption) | (have e1 := e.1; have e2 := e.2.2; omega))).symm) (by omega) (by omega)))))))))) (fun zc70 => have zc7 : zfree C zn1 i := Classical.not_not.mp zc70; zz_aload_n (pc := 29) xf_189_29 (zmem 0 rfl) (zz_getI (pc := 30) xf_189_30 zis_115 (by decide +kernel) rfl (zz_if (pc := 33) xf_189_33 (by unfold zr32; omega) (fun (zc9 : (M 115 21) < 0) => zz_lconst (pc := 44) (x := 1) xf_189_44 (by decide +kernel) (zz_goto (pc := 45) xf_189_45 (zz_last (pc := 49) xf_189_49 zis_130 (by omega) (zm_as (fun zM11 (ezM11 : zM11 = zup M 130 i.toNat (1)) => zz_iinc (pc := 50) xf_189_50 (zmem 1 rfl) (by decide +kernel) (zG_ro (ρ' := [(1, .int (Int32.ofInt (i + 1))), (0, .ref 115)]) rfl (zz_goto (pc := 53) xf_189_53 (zG_mono (N := zn * 26 + 423091) (by omega) (zG_sub (List.forall_mem_cons.mpr ⟨zmem 1 rfl, (List.forall_mem_cons.mpr ⟨zmem 0 rfl, (fun p hp => absurd hp List.not_mem_nil)⟩)⟩) (ih (i + 1) zM11  (by rw [ezM11, hM, show (i + 1).toNat = i.toNat + 1 by omega]; refine ztab_s ?_; rw [hxe]; first | exact (zb_t ⟨by omega, by assumption, by omega⟩).symm | exact (zb_f (fun e => by first | exact absurd e.2.1 (by assumption) | (have e1 := e.1; have e2 := e.2.2; omega))).symm) (by omega) (by omega))))))))))) (fun (zc10 : ¬ ((M 115 21) < 0)) => zz_aload_n (pc := 36) xf_189_36 (zmem 0 rfl) (zz_getI (pc := 37) xf_189_37 zis_115 (by decide +kernel) rfl (zz_iload_n (pc := 40) xf_189_40 (zmem 1 rfl) (zz_icmp (pc := 41) xf_189_41 (by unfold zr32; omega) (by unfold zr32; omega) (fun (zc12 : ¬ ((M 115 21) = i)) => zz_lconst (pc := 48) (x := 0) xf_189_48 (by decide +kernel) (zz_last (pc := 49) xf_189_49 zis_130 (by omega) (zm_as (fun zM14 (ezM14 : zM14 = zup M 130 i.toNat (0)) => zz_iinc (pc := 50) xf_189_50 (zmem 1 rfl) (by decide +kernel) (zG_ro (ρ' := [(1, .int (Int32.ofInt (i + 1))), (0, .ref 115)]) rfl (zz_goto (pc := 53) xf_189_53 (zG_mono (N := zn * 26 + 423091) (by omega) (zG_sub (List.forall_mem_cons.mpr ⟨zmem 1 rfl, (List.forall_mem_cons.mpr ⟨zmem 0 rfl, (fun p hp => absurd hp List.not_mem_nil)⟩)⟩) (ih (i + 1) zM14  (by rw [ezM14, hM, show (i + 1).toNat = i.toNat + 1 by omega]; refine ztab_s ?_; rw [hxe]; first | exact (zb_t ⟨by omega, by assumption, by omega⟩).symm | exact (zb_f (fun e => by first | exact absurd e.2.1 (by assumption) | (have e1 := e.1; have e2 := e.2.2; omega))).symm) (by omega) (by omega)))))))))) (fun zc130 => have zc13 : (M 115 21) = i := Classical.not_not.mp zc130; zz_lconst (pc := 44) (x := 1) xf_189_44 (by decide +kernel) (zz_goto (pc := 45) xf_189_45 (zz_last (pc := 49) xf_189_49 zis_130 (by omega) (zm_as (fun zM15 (ezM15 : zM15 = zup M 130 i.toNat (1)) => zz_iinc (pc := 50) xf_189_50 (zmem 1 rfl) (by decide +kernel) (zG_ro (ρ' := [(1, .int (Int32.ofInt (i + 1))), (0, .ref 115)]) rfl (zz_goto (pc := 53) xf_189_53 (zG_mono (N := zn * 26 + 423091) (by omega) (zG_sub (List.forall_mem_cons.mpr ⟨zmem 1 rfl, (List.forall_mem_cons.mpr ⟨zmem 0 rfl, (fun p hp => absurd hp List.not_mem_nil)⟩)⟩) (ih (i + 1) zM15  (by rw [ezM15, hM, show (i + 1).toNat = i.toNat + 1 by omega]; refine ztab_s ?_; rw [hxe]; first | exact (zb_t ⟨by omega, by assumption, by omega⟩).symm | exact (zb_f (fun e => by first | exact absurd e.2.1 (by assumption) | (have e1 := e.1; have e2 := e.2.2; omega))).symm) (by omega) (by omega))))))))))))))))))))))))))))))))
theorem sp_findExactR {xs : List Int32} {d : Nat} {w : Bool} {M : zM} {C : zM} {n : Int} (hB : zBI n C zn1) (hA : rA C M) (hR : rL C M) (h8 : ztot C zn1 ≤ 8) : xrun2 xs (d + 6) 189 [.ref 115] (w, zheap M) = some (.inl none, (w, zheap (rxM C M (ztot C zn1).toNat))) := by
  exact zrun_v (N := 424029) (by decide) rfl (zz_iconst (pc := 0) xf_189_0 (zz_istore_n (pc := 1) xf_189_1 (by decide +kernel) (zG_ro (ρ' := [(1, .int (Int32.ofInt (0))), (0, .ref 115)]) rfl (zG_mono (N := 424027) (by omega) (zG_sub (List.forall_mem_cons.mpr ⟨zmem 1 rfl, (List.forall_mem_cons.mpr ⟨zmem 0 rfl, (fun p hp => absurd hp List.not_mem_nil)⟩)⟩) (zl_findExactR_2 hB hA hR h8 36 0 _ ztab_0.symm (by decide) (by decide)))))))
theorem sp_exactR_0 {xs : List Int32} {d : Nat} {w : Bool} {M : zM} {C : zM} {n : Int} (hB : zBI n C zn1) {x : Int} (hx : zr32 x) (hA : rA C M) (hR : rL C M) (hn : n ≤ 1000) (c0 : ¬ (0 ≤ x ∧ x < zsz C zn1)) : xrun2 xs (d + 7) 190 [.ref 115, .int (Int32.ofInt x)] (w, zheap M) = some (.inl (some (.long (Int64.ofInt (0)))), (w, zheap (zup M 115 0 1))) := by
  obtain ⟨⟨a1, a2⟩, a3⟩ := id hA
  obtain ⟨⟨g1, g2⟩, ⟨g3, g4⟩, g5⟩ := id hB.g
  obtain ⟨g6, g7⟩ := hB.g.sz
  have hz : zsz C zn1 = C (zn1 + 1) 0 * C (zn1 + 1) 1 := rfl
  have htt := hR.tt
  have ht0 := hB.t0
  have h4n := hB.b4.2.1
  have hte : rtt M = M 115 19 + M 115 20 := rfl
  have htd : ztot C zn1 = C (zn1 + 8) 1 + C (zn1 + 8) 2 := rfl
  have hA0 : rA C (zup M 115 0 0) := rA_c (zup_ne (by decide)) (zup_ne (by decide)) (zup_or (by decide)) hA
  have hR0 : rL C (zup M 115 0 0) := rL_c (zup_ne (by decide)) (zup_ne (by decide)) (zup_ne (by decide)) (zup_or (by decide)) (zup_or (by decide)) (zup_or (by decide)) hR
  exact zrun_v (N := 16) (by decide) rfl (zz_aload_n (pc := 0) xf_190_0 (zmem 0 rfl) (zz_iload_n (pc := 1) xf_190_1 (zmem 1 rfl) (zz_call_v (pc := 2) (cu := 0) (su := 0) (fun ls hr => zz_calV xf_190_2 rfl zis_115 ls hr) rfl (sp_isCellR (d := d + 4) hB hx hA) (zz_ifbne (pc := 5) xf_190_5 (fun (zc1 : 0 ≤ x ∧ x < zsz C zn1) => zz_aload_n (pc := 15) xf_190_15 (zmem 0 rfl) (zz_call_v (pc := 16) (cu := 0) (su := 0) (fun ls hr => zz_calV xf_190_16 rfl zis_115 ls hr) rfl (sp_hasExactR (d := d + 5) (by omega)) (zz_ifbne (pc := 19) xf_190_19 (fun (zc3 : rtt M ≤ 8) => zz_aload_n (pc := 29) xf_190_29 (zmem 0 rfl) (zz_iconst (pc := 30) xf_190_30 (zz_putI (pc := 31) xf_190_31 zis_115 (by decide +kernel) rfl (by decide +kernel) (zm_as (fun zM5 (ezM5 : zM5 = zup M 115 0 (0)) => zz_aload_n (pc := 34) xf_190_34 (zmem 0 rfl) (zz_call_0 (pc := 35) (cu := 0) (su := 0) (fun ls hr => zz_calV xf_190_35 rfl zis_115 ls hr) rfl (sp_findExactR (d := d) hB (by subst_vars; exact hA0) (by subst_vars; exact hR0) (by omega)) (zm_as (fun zM6 (ezM6 : zM6 = rxM C zM5 (ztot C zn1).toNat) => zz_aload_n (pc := 38) xf_190_38 (zmem 0 rfl) (zz_getR (pc := 39) xf_190_39 zis_115 (by decide +kernel) rfl (zz_iload_n (pc := 42) xf_190_42 (zmem 1 rfl) (zz_lald (pc := 43) xf_190_43 zis_130 (by omega) (zz_lreturn (pc := 44) xf_190_44 rfl (by decide +kernel) (by decide +kernel) (by first | (exfalso; first | omega | contradiction) | (subst_vars; exact ⟨rfl, rfl⟩) | (refine ⟨zq_j ?_, by subst_vars; rfl⟩; subst_vars; exact rxM_i (by omega) (by omega) _)))))))))))))) (fun (zc4 : ¬ (rtt M ≤ 8)) => zz_aload_n (pc := 22) xf_190_22 (zmem 0 rfl) (zz_iconst (pc := 23) xf_190_23 (zz_call_v (pc := 24) (cu := 0) (su := 0) (fun ls hr => zz_calV xf_190_24 rfl zis_115 ls hr) rfl (sp_failsR (d := d + 5) ) (zm_as (fun zM7 (ezM7 : zM7 = zup M 115 0 (2)) => zz_i2l (pc := 27) xf_190_27 ⟨by decide, by decide⟩ (zz_lreturn (pc := 28) xf_190_28 rfl (by decide +kernel) (by decide +kernel) (by first | (exfalso; first | omega | contradiction) | (subst_vars; exact ⟨rfl, rfl⟩) | (refine ⟨zq_j ?_, by subst_vars; rfl⟩; subst_vars; exact rxM_i (by omega) (by omega) _))))))))))) (fun (zc2 : ¬ (0 ≤ x ∧ x < zsz C zn1)) => zz_aload_n (pc := 8) xf_190_8 (zmem 0 rfl) (zz_iconst (pc := 9) xf_190_9 (zz_call_v (pc := 10) (cu := 0) (su := 0) (fun ls hr => zz_calV xf_190_10 rfl zis_115 ls hr) rfl (sp_failsR (d := d + 5) ) (zm_as (fun zM8 (ezM8 : zM8 = zup M 115 0 (1)) => zz_i2l (pc := 13) xf_190_13 ⟨by decide, by decide⟩ (zz_lreturn (pc := 14) xf_190_14 rfl (by decide +kernel) (by decide +kernel) (by first | (exfalso; first | omega | contradiction) | (subst_vars; exact ⟨rfl, rfl⟩) | (refine ⟨zq_j ?_, by subst_vars; rfl⟩; subst_vars; exact rxM_i (by omega) (by omega) _))))))))))))
theorem sp_exactR_1 {xs : List Int32} {d : Nat} {w : Bool} {M : zM} {C : zM} {n : Int} (hB : zBI n C zn1) {x : Int} (hx : zr32 x) (hA : rA C M) (hR : rL C M) (hn : n ≤ 1000) (c0 : ¬ (¬ (0 ≤ x ∧ x < zsz C zn1))) (c1 : 8 < ztot C zn1) : xrun2 xs (d + 7) 190 [.ref 115, .int (Int32.ofInt x)] (w, zheap M) = some (.inl (some (.long (Int64.ofInt (0)))), (w, zheap (zup M 115 0 2))) := by
  obtain ⟨⟨a1, a2⟩, a3⟩ := id hA
  obtain ⟨⟨g1, g2⟩, ⟨g3, g4⟩, g5⟩ := id hB.g
  obtain ⟨g6, g7⟩ := hB.g.sz
  have hz : zsz C zn1 = C (zn1 + 1) 0 * C (zn1 + 1) 1 := rfl
  have htt := hR.tt
  have ht0 := hB.t0
  have h4n := hB.b4.2.1
  have hte : rtt M = M 115 19 + M 115 20 := rfl
  have htd : ztot C zn1 = C (zn1 + 8) 1 + C (zn1 + 8) 2 := rfl
  have hA0 : rA C (zup M 115 0 0) := rA_c (zup_ne (by decide)) (zup_ne (by decide)) (zup_or (by decide)) hA
  have hR0 : rL C (zup M 115 0 0) := rL_c (zup_ne (by decide)) (zup_ne (by decide)) (zup_ne (by decide)) (zup_or (by decide)) (zup_or (by decide)) (zup_or (by decide)) hR
  exact zrun_v (N := 16) (by decide) rfl (zz_aload_n (pc := 0) xf_190_0 (zmem 0 rfl) (zz_iload_n (pc := 1) xf_190_1 (zmem 1 rfl) (zz_call_v (pc := 2) (cu := 0) (su := 0) (fun ls hr => zz_calV xf_190_2 rfl zis_115 ls hr) rfl (sp_isCellR (d := d + 4) hB hx hA) (zz_ifbne (pc := 5) xf_190_5 (fun (zc1 : 0 ≤ x ∧ x < zsz C zn1) => zz_aload_n (pc := 15) xf_190_15 (zmem 0 rfl) (zz_call_v (pc := 16) (cu := 0) (su := 0) (fun ls hr => zz_calV xf_190_16 rfl zis_115 ls hr) rfl (sp_hasExactR (d := d + 5) (by omega)) (zz_ifbne (pc := 19) xf_190_19 (fun (zc3 : rtt M ≤ 8) => zz_aload_n (pc := 29) xf_190_29 (zmem 0 rfl) (zz_iconst (pc := 30) xf_190_30 (zz_putI (pc := 31) xf_190_31 zis_115 (by decide +kernel) rfl (by decide +kernel) (zm_as (fun zM5 (ezM5 : zM5 = zup M 115 0 (0)) => zz_aload_n (pc := 34) xf_190_34 (zmem 0 rfl) (zz_call_0 (pc := 35) (cu := 0) (su := 0) (fun ls hr => zz_calV xf_190_35 rfl zis_115 ls hr) rfl (sp_findExactR (d := d) hB (by subst_vars; exact hA0) (by subst_vars; exact hR0) (by omega)) (zm_as (fun zM6 (ezM6 : zM6 = rxM C zM5 (ztot C zn1).toNat) => zz_aload_n (pc := 38) xf_190_38 (zmem 0 rfl) (zz_getR (pc := 39) xf_190_39 zis_115 (by decide +kernel) rfl (zz_iload_n (pc := 42) xf_190_42 (zmem 1 rfl) (zz_lald (pc := 43) xf_190_43 zis_130 (by omega) (zz_lreturn (pc := 44) xf_190_44 rfl (by decide +kernel) (by decide +kernel) (by first | (exfalso; first | omega | contradiction) | (subst_vars; exact ⟨rfl, rfl⟩) | (refine ⟨zq_j ?_, by subst_vars; rfl⟩; subst_vars; exact rxM_i (by omega) (by omega) _)))))))))))))) (fun (zc4 : ¬ (rtt M ≤ 8)) => zz_aload_n (pc := 22) xf_190_22 (zmem 0 rfl) (zz_iconst (pc := 23) xf_190_23 (zz_call_v (pc := 24) (cu := 0) (su := 0) (fun ls hr => zz_calV xf_190_24 rfl zis_115 ls hr) rfl (sp_failsR (d := d + 5) ) (zm_as (fun zM7 (ezM7 : zM7 = zup M 115 0 (2)) => zz_i2l (pc := 27) xf_190_27 ⟨by decide, by decide⟩ (zz_lreturn (pc := 28) xf_190_28 rfl (by decide +kernel) (by decide +kernel) (by first | (exfalso; first | omega | contradiction) | (subst_vars; exact ⟨rfl, rfl⟩) | (refine ⟨zq_j ?_, by subst_vars; rfl⟩; subst_vars; exact rxM_i (by omega) (by omega) _))))))))))) (fun (zc2 : ¬ (0 ≤ x ∧ x < zsz C zn1)) => zz_aload_n (pc := 8) xf_190_8 (zmem 0 rfl) (zz_iconst (pc := 9) xf_190_9 (zz_call_v (pc := 10) (cu := 0) (su := 0) (fun ls hr => zz_calV xf_190_10 rfl zis_115 ls hr) rfl (sp_failsR (d := d + 5) ) (zm_as (fun zM8 (ezM8 : zM8 = zup M 115 0 (1)) => zz_i2l (pc := 13) xf_190_13 ⟨by decide, by decide⟩ (zz_lreturn (pc := 14) xf_190_14 rfl (by decide +kernel) (by decide +kernel) (by first | (exfalso; first | omega | contradiction) | (subst_vars; exact ⟨rfl, rfl⟩) | (refine ⟨zq_j ?_, by subst_vars; rfl⟩; subst_vars; exact rxM_i (by omega) (by omega) _))))))))))))
theorem sp_exactR_2 {xs : List Int32} {d : Nat} {w : Bool} {M : zM} {C : zM} {n : Int} (hB : zBI n C zn1) {x : Int} (hx : zr32 x) (hA : rA C M) (hR : rL C M) (hn : n ≤ 1000) (c0 : ¬ (¬ (0 ≤ x ∧ x < zsz C zn1))) (c1 : ¬ (8 < ztot C zn1)) : xrun2 xs (d + 7) 190 [.ref 115, .int (Int32.ofInt x)] (w, zheap M) = some (.inl (some (.long (Int64.ofInt (rxE C (ztot C zn1).toNat x.toNat)))), (w, zheap (rxM C (zup M 115 0 0) (ztot C zn1).toNat))) := by
  obtain ⟨⟨a1, a2⟩, a3⟩ := id hA
  obtain ⟨⟨g1, g2⟩, ⟨g3, g4⟩, g5⟩ := id hB.g
  obtain ⟨g6, g7⟩ := hB.g.sz
  have hz : zsz C zn1 = C (zn1 + 1) 0 * C (zn1 + 1) 1 := rfl
  have htt := hR.tt
  have ht0 := hB.t0
  have h4n := hB.b4.2.1
  have hte : rtt M = M 115 19 + M 115 20 := rfl
  have htd : ztot C zn1 = C (zn1 + 8) 1 + C (zn1 + 8) 2 := rfl
  have hA0 : rA C (zup M 115 0 0) := rA_c (zup_ne (by decide)) (zup_ne (by decide)) (zup_or (by decide)) hA
  have hR0 : rL C (zup M 115 0 0) := rL_c (zup_ne (by decide)) (zup_ne (by decide)) (zup_ne (by decide)) (zup_or (by decide)) (zup_or (by decide)) (zup_or (by decide)) hR
  exact zrun_v (N := 16) (by decide) rfl (zz_aload_n (pc := 0) xf_190_0 (zmem 0 rfl) (zz_iload_n (pc := 1) xf_190_1 (zmem 1 rfl) (zz_call_v (pc := 2) (cu := 0) (su := 0) (fun ls hr => zz_calV xf_190_2 rfl zis_115 ls hr) rfl (sp_isCellR (d := d + 4) hB hx hA) (zz_ifbne (pc := 5) xf_190_5 (fun (zc1 : 0 ≤ x ∧ x < zsz C zn1) => zz_aload_n (pc := 15) xf_190_15 (zmem 0 rfl) (zz_call_v (pc := 16) (cu := 0) (su := 0) (fun ls hr => zz_calV xf_190_16 rfl zis_115 ls hr) rfl (sp_hasExactR (d := d + 5) (by omega)) (zz_ifbne (pc := 19) xf_190_19 (fun (zc3 : rtt M ≤ 8) => zz_aload_n (pc := 29) xf_190_29 (zmem 0 rfl) (zz_iconst (pc := 30) xf_190_30 (zz_putI (pc := 31) xf_190_31 zis_115 (by decide +kernel) rfl (by decide +kernel) (zm_as (fun zM5 (ezM5 : zM5 = zup M 115 0 (0)) => zz_aload_n (pc := 34) xf_190_34 (zmem 0 rfl) (zz_call_0 (pc := 35) (cu := 0) (su := 0) (fun ls hr => zz_calV xf_190_35 rfl zis_115 ls hr) rfl (sp_findExactR (d := d) hB (by subst_vars; exact hA0) (by subst_vars; exact hR0) (by omega)) (zm_as (fun zM6 (ezM6 : zM6 = rxM C zM5 (ztot C zn1).toNat) => zz_aload_n (pc := 38) xf_190_38 (zmem 0 rfl) (zz_getR (pc := 39) xf_190_39 zis_115 (by decide +kernel) rfl (zz_iload_n (pc := 42) xf_190_42 (zmem 1 rfl) (zz_lald (pc := 43) xf_190_43 zis_130 (by omega) (zz_lreturn (pc := 44) xf_190_44 rfl (by decide +kernel) (by decide +kernel) (by first | (exfalso; first | omega | contradiction) | (subst_vars; exact ⟨rfl, rfl⟩) | (refine ⟨zq_j ?_, by subst_vars; rfl⟩; subst_vars; exact rxM_i (by omega) (by omega) _)))))))))))))) (fun (zc4 : ¬ (rtt M ≤ 8)) => zz_aload_n (pc := 22) xf_190_22 (zmem 0 rfl) (zz_iconst (pc := 23) xf_190_23 (zz_call_v (pc := 24) (cu := 0) (su := 0) (fun ls hr => zz_calV xf_190_24 rfl zis_115 ls hr) rfl (sp_failsR (d := d + 5) ) (zm_as (fun zM7 (ezM7 : zM7 = zup M 115 0 (2)) => zz_i2l (pc := 27) xf_190_27 ⟨by decide, by decide⟩ (zz_lreturn (pc := 28) xf_190_28 rfl (by decide +kernel) (by decide +kernel) (by first | (exfalso; first | omega | contradiction) | (subst_vars; exact ⟨rfl, rfl⟩) | (refine ⟨zq_j ?_, by subst_vars; rfl⟩; subst_vars; exact rxM_i (by omega) (by omega) _))))))))))) (fun (zc2 : ¬ (0 ≤ x ∧ x < zsz C zn1)) => zz_aload_n (pc := 8) xf_190_8 (zmem 0 rfl) (zz_iconst (pc := 9) xf_190_9 (zz_call_v (pc := 10) (cu := 0) (su := 0) (fun ls hr => zz_calV xf_190_10 rfl zis_115 ls hr) rfl (sp_failsR (d := d + 5) ) (zm_as (fun zM8 (ezM8 : zM8 = zup M 115 0 (1)) => zz_i2l (pc := 13) xf_190_13 ⟨by decide, by decide⟩ (zz_lreturn (pc := 14) xf_190_14 rfl (by decide +kernel) (by decide +kernel) (by first | (exfalso; first | omega | contradiction) | (subst_vars; exact ⟨rfl, rfl⟩) | (refine ⟨zq_j ?_, by subst_vars; rfl⟩; subst_vars; exact rxM_i (by omega) (by omega) _))))))))))))
end
