noncomputable section
/-! The reference: load. -/
def rlo1 (M : zM) : zM := zup (zup (rtkR M).1 115 26 0) 115 30 (if (rtkR M).2 = 0 then (rtkR M).1 115 27 else -1)
def rlo2 (M : zM) : zM := zup (zup (rm1 (rlo1 M)) 115 6 (rm1 (rlo1 M) 115 28)) 115 7 (rm1 (rlo1 M) 115 29)
def rloF (K : zM) (w : Int) : zF := fun j => K 128 (6 * ((j : Int) / w) + (j : Int) % w).toNat
def rlo3 (K : zM) (w : Int) (n : Nat) : zM := ztab (ztab K 116 n (rloF K w)) 117 n (fun _ => 1)
def rlo4 (M : zM) : zM := rlo3 (rlo2 M) (rlo2 M 115 6) (rlo2 M 115 6 * rlo2 M 115 7).toNat
noncomputable def rloM (D M : zM) : zM := zup (rfoM (revM (rlo4 M) D 120) (-1)) 115 10 (zlow D zn1)
theorem rlo3_o {K : zM} {w : Int} {n q : Nat} (h1 : ¬ q = 116) (h2 : ¬ q = 117) : rlo3 K w n q = K q := by
  unfold rlo3
  rw [ztab_or h2, ztab_or h1]
theorem rlo3_0 {K : zM} {w : Int} : rlo3 K w 0 = K := by
  unfold rlo3
  rw [ztab_0, ztab_0]
theorem rlo3_s {K : zM} {w : Int} {n : Nat} : zup (zup (rlo3 K w n) 116 n (rloF K w n)) 117 n 1 = rlo3 K w (n + 1) := by
  unfold rlo3
  funext q j
  unfold zup ztab
  by_cases h1 : q = 116
  · subst h1
    by_cases h2 : j = n
    · subst h2; simp
    · have h3 : (j < n + 1) = (j < n) := propext ⟨fun h => by omega, fun h => by omega⟩
      simp [h2, h3]
  · by_cases h4 : q = 117
    · subst h4
      by_cases h2 : j = n
      · subst h2; simp
      · have h3 : (j < n + 1) = (j < n) := propext ⟨fun h => by omega, fun h => by omega⟩
        simp [h2, h3]
    · simp [h1, h4]
theorem rev_fo {D M : zM} (hA : rA D M) : rA D (rfoM (revM M D 120) (-1)) := by
  unfold rfoM
  refine rA_c ?_ ?_ ?_ hA
  · rw [zup_ne (by decide), zup_ne (by decide), zup_ne (by decide), rev_o (by decide) (by decide) (by decide)]
  · rw [zup_ne (by decide), zup_ne (by decide), zup_ne (by decide), rev_o (by decide) (by decide) (by decide)]
  · rw [zup_or (by decide), zup_or (by decide), zup_or (by decide), rev_o (by decide) (by decide) (by decide)]
theorem zdiv6 {c w h : Int} (hw : 1 ≤ w ∧ w ≤ 6) (hh : 1 ≤ h ∧ h ≤ 6) (hc : 0 ≤ c ∧ c < w * h) : (0 ≤ c / w ∧ c / w < h) ∧ (0 ≤ c % w ∧ c % w < w) ∧ c = (c / w) * w + c % w := by
  have h1 : c / w < h := Int.ediv_lt_of_lt_mul (by omega) (by rw [Int.mul_comm]; exact hc.2)
  have h2 : 0 ≤ c / w := Int.ediv_nonneg hc.1 (by omega)
  have h3 := Int.emod_nonneg c (show w ≠ 0 by omega)
  have h4 := Int.emod_lt_of_pos c (show 0 < w by omega)
  have h5 := Int.ediv_mul_add_emod c w
  exact ⟨⟨h2, h1⟩, ⟨h3, h4⟩, h5.symm⟩
theorem sp_cellsW {xs : List Int32} {d : Nat} {w : Bool} {M : zM}  : xrun2 xs (d + 1) 134 [.ref 115] (w, zheap M) = some (.inl (some (.int (Int32.ofInt (M 115 6 * M 115 7)))), (w, zheap M)) := by
  exact zrun_v (N := 5) (by decide) rfl (zz_aload_n (pc := 0) xf_134_0 (zmem 0 rfl) (zz_getI (pc := 1) xf_134_1 zis_115 (by decide +kernel) rfl (zz_aload_n (pc := 4) xf_134_4 (zmem 0 rfl) (zz_getI (pc := 5) xf_134_5 zis_115 (by decide +kernel) rfl (zz_imul (pc := 8) xf_134_8 (zz_ireturn (pc := 9) xf_134_9 rfl (by decide +kernel) (by decide +kernel) (by exact ⟨rfl, rfl⟩)))))))
theorem zl_loadR_63 {xs : List Int32} {d : Nat} {w : Bool}  {K : zM} {D : zM} {nD : Int} (hw : 1 ≤ K 115 6 ∧ K 115 6 ≤ 6) (hh : 1 ≤ K 115 7 ∧ K 115 7 ≤ 6) (hD : zBI nD D zn1) (hA : rA D (rlo3 K (K 115 6) (K 115 6 * K 115 7).toNat))  : ∀ (zn : Nat) (c : Int) (M : zM), (M = rlo3 K (K 115 6) c.toNat) → (0 ≤ c ∧ c ≤ K 115 6 * K 115 7) → K 115 6 * K 115 7 - c ≤ (zn : Int) → zG (xstep (xrun2 xs (d + 4)) xs 160) 160 (zn * 29 + 29) 63 [(0, .ref 115), (2, .int (Int32.ofInt c))] [] 0 0 w M (fun o σ => o = (.inl (some (.int (Int32.ofInt (zmany D zn1)))) : XO) ∧ σ = (w, zheap (zup (rfoM (revM (rlo3 K (K 115 6) (K 115 6 * K 115 7).toNat) D 120) (-1)) 115 10 (zlow D zn1)))) := by
  intro zn
  induction zn with
  | zero =>
    intro c M hM hc hm
    have e6 : M 115 6 = K 115 6 := by rw [hM, rlo3_o (by decide) (by decide)]
    have e7 : M 115 7 = K 115 7 := by rw [hM, rlo3_o (by decide) (by decide)]
    have e8 : M 128 = K 128 := by rw [hM, rlo3_o (by decide) (by decide)]
    have hm6 := zmul6 hw hh
    have hdm : c < K 115 6 * K 115 7 → _ := fun h => zdiv6 (c := c) hw hh ⟨hc.1, h⟩
    have hm67 : M 115 6 * M 115 7 = K 115 6 * K 115 7 := by rw [e6, e7]
    exact zG_mono (N := 0 + 29) (by omega) (zz_iload_n (pc := 63) xf_160_63 (zmem 1 rfl) (zz_aload_n (pc := 64) xf_160_64 (zmem 0 rfl) (zz_call_v (pc := 65) (cu := 0) (su := 0) (fun ls hr => zz_calV xf_160_65 rfl zis_115 ls hr) rfl (sp_cellsW (d := d + 3) ) (zz_icmp (pc := 68) xf_160_68 (by unfold zr32; omega) (by unfold zr32; omega) (fun (zc1 : ¬ (c < (M 115 6 * M 115 7))) => zz_aload_n (pc := 111) xf_160_111 (zmem 0 rfl) (zz_call_0 (pc := 112) (cu := 0) (su := 0) (fun ls hr => zz_calV xf_160_112 rfl zis_115 ls hr) rfl (sp_evensR (d := d) hD (by rw [hM, show c.toNat = (K 115 6 * K 115 7).toNat by omega]; exact hA)) (zm_as (fun zM3 (ezM3 : zM3 = rfoM (revM M D 120) (-1)) => zz_aload_n (pc := 115) xf_160_115 (zmem 0 rfl) (zz_aload_n (pc := 116) xf_160_116 (zmem 0 rfl) (zz_call_v (pc := 117) (cu := 0) (su := 0) (fun ls hr => zz_calV xf_160_117 rfl zis_115 ls hr) rfl (sp_firstFreeR (d := d + 2) hD (by have hA9 : rA D M := (by rw [hM, show c.toNat = (K 115 6 * K 115 7).toNat by omega]; exact hA); subst_vars; first | exact hA9 | exact rev_fo hA9 | exact rA_c (zup_ne (by decide)) (zup_ne (by decide)) (zup_or (by decide)) (rev_fo hA9))) (zz_putI (pc := 120) xf_160_120 zis_115 (by decide +kernel) rfl (by decide +kernel) (zm_as (fun zM4 (ezM4 : zM4 = zup zM3 115 10 (zlow D zn1)) => zz_aload_n (pc := 123) xf_160_123 (zmem 0 rfl) (zz_call_v (pc := 124) (cu := 0) (su := 0) (fun ls hr => zz_calV xf_160_124 rfl zis_115 ls hr) rfl (sp_freeManyR (d := d + 1) hD (by have hA9 : rA D M := (by rw [hM, show c.toNat = (K 115 6 * K 115 7).toNat by omega]; exact hA); subst_vars; first | exact hA9 | exact rev_fo hA9 | exact rA_c (zup_ne (by decide)) (zup_ne (by decide)) (zup_or (by decide)) (rev_fo hA9))) (zz_ireturn (pc := 127) xf_160_127 rfl (by decide +kernel) (by decide +kernel) (by (have hcn : c.toNat = (K 115 6 * K 115 7).toNat := (by omega); rw [hcn] at hM; subst_vars; exact ⟨rfl, rfl⟩))))))))))))) (fun zc20 => have zc2 : c < (M 115 6 * M 115 7) := Classical.not_not.mp zc20; zz_aload_n (pc := 71) xf_160_71 (zmem 0 rfl) (zz_getR (pc := 72) xf_160_72 zis_115 (by decide +kernel) rfl (zz_iload_n (pc := 75) xf_160_75 (zmem 1 rfl) (zz_aload_n (pc := 76) xf_160_76 (zmem 0 rfl) (zz_getR (pc := 77) xf_160_77 zis_115 (by decide +kernel) rfl (zz_bipush (pc := 80) (x := 6) xf_160_80 (by decide +kernel) (zz_iload_n (pc := 82) xf_160_82 (zmem 1 rfl) (zz_aload_n (pc := 83) xf_160_83 (zmem 0 rfl) (zz_getI (pc := 84) xf_160_84 zis_115 (by decide +kernel) rfl (zz_idiv (pc := 87) xf_160_87 (by omega) (by omega) (zz_imul (pc := 88) xf_160_88 (zz_iload_n (pc := 89) xf_160_89 (zmem 1 rfl) (zz_aload_n (pc := 90) xf_160_90 (zmem 0 rfl) (zz_getI (pc := 91) xf_160_91 zis_115 (by decide +kernel) rfl (zz_irem (pc := 94) xf_160_94 (by omega) (by omega) (zz_iadd (pc := 95) xf_160_95 (zz_iald (pc := 96) xf_160_96 zis_128 (by rw [e6]; have h9 := hdm (by omega); first | omega | (generalize c / K 115 6 = r at *; generalize c % K 115 6 = x at *; omega)) (zz_iast (pc := 97) xf_160_97 zis_116 (by omega) (zm_as (fun zM5 (ezM5 : zM5 = zup M 116 c.toNat (M 128 (((6) * (c / (M 115 6))) + (c % (M 115 6))).toNat)) => zz_aload_n (pc := 98) xf_160_98 (zmem 0 rfl) (zz_getR (pc := 99) xf_160_99 zis_115 (by decide +kernel) rfl (zz_iload_n (pc := 102) xf_160_102 (zmem 1 rfl) (zz_iconst (pc := 103) xf_160_103 (zz_iast (pc := 104) xf_160_104 zis_117 (by omega) (zm_as (fun zM6 (ezM6 : zM6 = zup zM5 117 c.toNat (1)) => zz_iinc (pc := 105) xf_160_105 (zmem 1 rfl) (by decide +kernel) (zG_ro (ρ' := [(2, .int (Int32.ofInt (c + 1))), (0, .ref 115)]) rfl (zz_goto (pc := 108) xf_160_108 ((by exfalso; omega))))))))))))))))))))))))))))))))))
  | succ zn ih =>
    intro c M hM hc hm
    have e6 : M 115 6 = K 115 6 := by rw [hM, rlo3_o (by decide) (by decide)]
    have e7 : M 115 7 = K 115 7 := by rw [hM, rlo3_o (by decide) (by decide)]
    have e8 : M 128 = K 128 := by rw [hM, rlo3_o (by decide) (by decide)]
    have hm6 := zmul6 hw hh
    have hdm : c < K 115 6 * K 115 7 → _ := fun h => zdiv6 (c := c) hw hh ⟨hc.1, h⟩
    have hm67 : M 115 6 * M 115 7 = K 115 6 * K 115 7 := by rw [e6, e7]
    exact zG_mono (N := zn * 29 + 29 + 0 + 29) (by omega) (zz_iload_n (pc := 63) xf_160_63 (zmem 1 rfl) (zz_aload_n (pc := 64) xf_160_64 (zmem 0 rfl) (zz_call_v (pc := 65) (cu := 0) (su := 0) (fun ls hr => zz_calV xf_160_65 rfl zis_115 ls hr) rfl (sp_cellsW (d := d + 3) ) (zz_icmp (pc := 68) xf_160_68 (by unfold zr32; omega) (by unfold zr32; omega) (fun (zc1 : ¬ (c < (M 115 6 * M 115 7))) => zz_aload_n (pc := 111) xf_160_111 (zmem 0 rfl) (zz_call_0 (pc := 112) (cu := 0) (su := 0) (fun ls hr => zz_calV xf_160_112 rfl zis_115 ls hr) rfl (sp_evensR (d := d) hD (by rw [hM, show c.toNat = (K 115 6 * K 115 7).toNat by omega]; exact hA)) (zm_as (fun zM3 (ezM3 : zM3 = rfoM (revM M D 120) (-1)) => zz_aload_n (pc := 115) xf_160_115 (zmem 0 rfl) (zz_aload_n (pc := 116) xf_160_116 (zmem 0 rfl) (zz_call_v (pc := 117) (cu := 0) (su := 0) (fun ls hr => zz_calV xf_160_117 rfl zis_115 ls hr) rfl (sp_firstFreeR (d := d + 2) hD (by have hA9 : rA D M := (by rw [hM, show c.toNat = (K 115 6 * K 115 7).toNat by omega]; exact hA); subst_vars; first | exact hA9 | exact rev_fo hA9 | exact rA_c (zup_ne (by decide)) (zup_ne (by decide)) (zup_or (by decide)) (rev_fo hA9))) (zz_putI (pc := 120) xf_160_120 zis_115 (by decide +kernel) rfl (by decide +kernel) (zm_as (fun zM4 (ezM4 : zM4 = zup zM3 115 10 (zlow D zn1)) => zz_aload_n (pc := 123) xf_160_123 (zmem 0 rfl) (zz_call_v (pc := 124) (cu := 0) (su := 0) (fun ls hr => zz_calV xf_160_124 rfl zis_115 ls hr) rfl (sp_freeManyR (d := d + 1) hD (by have hA9 : rA D M := (by rw [hM, show c.toNat = (K 115 6 * K 115 7).toNat by omega]; exact hA); subst_vars; first | exact hA9 | exact rev_fo hA9 | exact rA_c (zup_ne (by decide)) (zup_ne (by decide)) (zup_or (by decide)) (rev_fo hA9))) (zz_ireturn (pc := 127) xf_160_127 rfl (by decide +kernel) (by decide +kernel) (by (have hcn : c.toNat = (K 115 6 * K 115 7).toNat := (by omega); rw [hcn] at hM; subst_vars; exact ⟨rfl, rfl⟩))))))))))))) (fun zc20 => have zc2 : c < (M 115 6 * M 115 7) := Classical.not_not.mp zc20; zz_aload_n (pc := 71) xf_160_71 (zmem 0 rfl) (zz_getR (pc := 72) xf_160_72 zis_115 (by decide +kernel) rfl (zz_iload_n (pc := 75) xf_160_75 (zmem 1 rfl) (zz_aload_n (pc := 76) xf_160_76 (zmem 0 rfl) (zz_getR (pc := 77) xf_160_77 zis_115 (by decide +kernel) rfl (zz_bipush (pc := 80) (x := 6) xf_160_80 (by decide +kernel) (zz_iload_n (pc := 82) xf_160_82 (zmem 1 rfl) (zz_aload_n (pc := 83) xf_160_83 (zmem 0 rfl) (zz_getI (pc := 84) xf_160_84 zis_115 (by decide +kernel) rfl (zz_idiv (pc := 87) xf_160_87 (by omega) (by omega) (zz_imul (pc := 88) xf_160_88 (zz_iload_n (pc := 89) xf_160_89 (zmem 1 rfl) (zz_aload_n (pc := 90) xf_160_90 (zmem 0 rfl) (zz_getI (pc := 91) xf_160_91 zis_115 (by decide +kernel) rfl (zz_irem (pc := 94) xf_160_94 (by omega) (by omega) (zz_iadd (pc := 95) xf_160_95 (zz_iald (pc := 96) xf_160_96 zis_128 (by rw [e6]; have h9 := hdm (by omega); first | omega | (generalize c / K 115 6 = r at *; generalize c % K 115 6 = x at *; omega)) (zz_iast (pc := 97) xf_160_97 zis_116 (by omega) (zm_as (fun zM5 (ezM5 : zM5 = zup M 116 c.toNat (M 128 (((6) * (c / (M 115 6))) + (c % (M 115 6))).toNat)) => zz_aload_n (pc := 98) xf_160_98 (zmem 0 rfl) (zz_getR (pc := 99) xf_160_99 zis_115 (by decide +kernel) rfl (zz_iload_n (pc := 102) xf_160_102 (zmem 1 rfl) (zz_iconst (pc := 103) xf_160_103 (zz_iast (pc := 104) xf_160_104 zis_117 (by omega) (zm_as (fun zM6 (ezM6 : zM6 = zup zM5 117 c.toNat (1)) => zz_iinc (pc := 105) xf_160_105 (zmem 1 rfl) (by decide +kernel) (zG_ro (ρ' := [(2, .int (Int32.ofInt (c + 1))), (0, .ref 115)]) rfl (zz_goto (pc := 108) xf_160_108 (zG_mono (N := zn * 29 + 29) (by omega) (zG_sub (List.forall_mem_cons.mpr ⟨zmem 1 rfl, (List.forall_mem_cons.mpr ⟨zmem 0 rfl, (fun p hp => absurd hp List.not_mem_nil)⟩)⟩) (ih (c + 1) zM6  (by have h9 := hdm (by omega); rw [ezM6, ezM5, e6, e8, show (c + 1).toNat = c.toNat + 1 by omega, ← rlo3_s, ← hM]; unfold rloF; rw [Int.toNat_of_nonneg hc.1]) (by omega) (by omega))))))))))))))))))))))))))))))))))))
theorem rtk_5 {B : zF} : ∀ k i n f (M : zM) (j : Nat), ¬ j = 27 → ¬ j = 28 → ¬ j = 29 → (rtk B k i n f M).1 115 j = M 115 j
  | 0, i, n, f, M, j, h1, h2, h3 => by
    unfold rtk
    split
    · rfl
    · show zup (zup M 115 28 n) 115 29 _ 115 j = _
      rw [zup_ne h3, zup_ne h2]
  | k + 1, i, n, f, M, j, h1, h2, h3 => by
    unfold rtk
    split
    · split
      · rfl
      · rw [rtk_5 k _ _ _ _ j h1 h2 h3, zup_ne h1, zup_ne h3, zup_ne h2]
    · split
      · rfl
      · rw [rtk_5 k _ _ _ _ j h1 h2 h3, zup_ne h1, zup_o (fun e => absurd e.1 (by decide))]
theorem rtk_o {B : zF} : ∀ k i n f (M : zM) (q : Nat), ¬ q = 115 → ¬ q = 128 → (rtk B k i n f M).1 q = M q
  | 0, i, n, f, M, q, h1, h2 => by
    unfold rtk
    split
    · rfl
    · show zup (zup M 115 28 n) 115 29 _ q = _
      rw [zup_or h1, zup_or h1]
  | k + 1, i, n, f, M, q, h1, h2 => by
    unfold rtk
    split
    · split
      · rfl
      · rw [rtk_o k _ _ _ _ q h1 h2, zup_or h1, zup_or h1, zup_or h1]
    · split
      · rfl
      · rw [rtk_o k _ _ _ _ q h1 h2, zup_or h1, zup_or h2]
theorem rlo1_5 {M : zM} {j : Nat} (h1 : ¬ j = 27) (h2 : ¬ j = 28) (h3 : ¬ j = 29) (h4 : ¬ j = 26) (h5 : ¬ j = 30) : rlo1 M 115 j = M 115 j := by
  unfold rlo1 rtkR rtk0
  rw [zup_ne h5, zup_ne h4, rtk_5 _ _ _ _ _ j h1 h2 h3, zup_ne h3, zup_ne h2, zup_ne h1]
theorem rlo1_o {M : zM} {q : Nat} (h1 : ¬ q = 115) (h2 : ¬ q = 128) : rlo1 M q = M q := by
  unfold rlo1 rtkR rtk0
  rw [zup_or h1, zup_or h1, rtk_o _ _ _ _ _ q h1 h2, zup_or h1, zup_or h1, zup_or h1]
theorem rlo1_39 {M : zM} : rlo1 M 115 39 = M 115 39 := rlo1_5 (by decide) (by decide) (by decide) (by decide) (by decide)
theorem rtkR_39 {M : zM} : (rtkR M).1 115 39 = M 115 39 := by
  unfold rtkR rtk0
  rw [rtk_5 _ _ _ _ _ _ (by decide) (by decide) (by decide), zup_ne (by decide), zup_ne (by decide), zup_ne (by decide)]
theorem sp_loadR_0 {xs : List Int32} {d : Nat} {w : Bool} {M : zM} {D : zM} {nD : Int} (hl : 0 ≤ M 115 26 ∧ M 115 26 ≤ 45) (hb : ∀ j : Nat, (j : Int) < M 115 26 → 0 ≤ M 127 j ∧ M 127 j ≤ 255) (hc : 0 ≤ M 115 39 ∧ M 115 39 ≤ 6) (hD : ¬ (rtkR M).2 = 0 → (1 ≤ rlo2 M 115 6 ∧ rlo2 M 115 6 ≤ 6) ∧ (1 ≤ rlo2 M 115 7 ∧ rlo2 M 115 7 ≤ 6) ∧ zBI nD D zn1 ∧ rA D (rlo4 M)) (c0 : (rtkR M).2 = 0) : xrun2 xs (d + 5) 160 [.ref 115] (w, zheap M) = some (.inl (some (.int (Int32.ofInt (0)))), (w, zheap (zup (rlo1 M) 115 0 1))) := by
  have h01 : (rtkR M).2 = 0 ∨ (rtkR M).2 = 1 := rtk_01 _ _ _ _ _
  have hz1 : rlo1 M 115 39 = M 115 39 := rlo1_39
  exact zrun_v (N := 1102) (by decide) rfl (zz_aload_n (pc := 0) xf_160_0 (zmem 0 rfl) (zz_call_v (pc := 1) (cu := 0) (su := 0) (fun ls hr => zz_calV xf_160_1 rfl zis_115 ls hr) rfl (sp_takesMapR (d := d + 2) hl hb) (zm_as (fun zM1 (ezM1 : zM1 = (rtkR M).1) => zz_istore_n (pc := 4) xf_160_4 (by decide +kernel) (zG_ro (ρ' := [(1, .int (Int32.ofInt ((rtkR M).2))), (0, .ref 115)]) rfl (zz_aload_n (pc := 5) xf_160_5 (zmem 1 rfl) (zz_iconst (pc := 6) xf_160_6 (zz_putI (pc := 7) xf_160_7 zis_115 (by decide +kernel) rfl (by decide +kernel) (zm_as (fun zM2 (ezM2 : zM2 = zup zM1 115 26 (0)) => zz_aload_n (pc := 10) xf_160_10 (zmem 1 rfl) (zz_iload_n (pc := 11) xf_160_11 (zmem 0 rfl) (zz_if (pc := 12) xf_160_12 (by unfold zr32; omega) (fun (zc3 : ((rtkR M).2) = 0) => zz_aload_n (pc := 19) xf_160_19 (zmem 1 rfl) (zz_getI (pc := 20) xf_160_20 zis_115 (by decide +kernel) rfl (zz_putI (pc := 23) xf_160_23 zis_115 (by decide +kernel) rfl (by decide +kernel) (zm_as (fun zM5 (ezM5 : zM5 = zup zM2 115 30 (zM2 115 27)) => zz_iload_n (pc := 26) xf_160_26 (zmem 0 rfl) (zz_if (pc := 27) xf_160_27 (by unfold zr32; omega) (fun (zc6 : ¬ (((rtkR M).2) = 0)) => zz_aload_n (pc := 36) xf_160_36 (zmem 1 rfl) (zz_iconst (pc := 37) xf_160_37 (zz_putI (pc := 38) xf_160_38 zis_115 (by decide +kernel) rfl (by decide +kernel) (zm_as (fun zM8 (ezM8 : zM8 = zup zM5 115 0 (0)) => zz_aload_n (pc := 41) xf_160_41 (zmem 1 rfl) (zz_call_0 (pc := 42) (cu := 0) (su := 0) (fun ls hr => zz_calV xf_160_42 rfl zis_115 ls hr) rfl (sp_remembersR (d := d + 1) (by have h9 : zM8 115 39 = M 115 39 := (by subst_vars; first | (rw [zup_ne (by decide), zup_ne (by decide), zup_ne (by decide)]; exact rtkR_39) | skip); rw [h9]; exact hc)) (zm_as (fun zM9 (ezM9 : zM9 = remM zM8) => zz_aload_n (pc := 45) xf_160_45 (zmem 1 rfl) (zz_aload_n (pc := 46) xf_160_46 (zmem 1 rfl) (zz_getI (pc := 47) xf_160_47 zis_115 (by decide +kernel) rfl (zz_putI (pc := 50) xf_160_50 zis_115 (by decide +kernel) rfl (by decide +kernel) (zm_as (fun zM10 (ezM10 : zM10 = zup zM9 115 6 (zM9 115 28)) => zz_aload_n (pc := 53) xf_160_53 (zmem 1 rfl) (zz_aload_n (pc := 54) xf_160_54 (zmem 1 rfl) (zz_getI (pc := 55) xf_160_55 zis_115 (by decide +kernel) rfl (zz_putI (pc := 58) xf_160_58 zis_115 (by decide +kernel) rfl (by decide +kernel) (zm_as (fun zM11 (ezM11 : zM11 = zup zM10 115 7 (zM10 115 29)) => zz_iconst (pc := 61) xf_160_61 (zz_istore_n (pc := 62) xf_160_62 (by decide +kernel) (zG_ro (ρ' := [(2, .int (Int32.ofInt (0))), (1, .int (Int32.ofInt ((rtkR M).2))), (0, .ref 115)]) rfl (zG_mono (N := 1073) (by omega) (zG_sub (List.forall_mem_cons.mpr ⟨zmem 2 rfl, (List.forall_mem_cons.mpr ⟨zmem 0 rfl, (fun p hp => absurd hp List.not_mem_nil)⟩)⟩) ((by exfalso; omega)))))))))))))))))))))))) (fun zc70 => have zc7 : ((rtkR M).2) = 0 := Classical.not_not.mp zc70; zz_aload_n (pc := 30) xf_160_30 (zmem 1 rfl) (zz_iconst (pc := 31) xf_160_31 (zz_call_v (pc := 32) (cu := 0) (su := 0) (fun ls hr => zz_calV xf_160_32 rfl zis_115 ls hr) rfl (sp_failsR (d := d + 3) ) (zm_as (fun zM12 (ezM12 : zM12 = zup zM5 115 0 (1)) => zz_ireturn (pc := 35) xf_160_35 rfl (by decide +kernel) (by decide +kernel) (by first | (exfalso; omega) | (have e9 : (if (rtkR M).2 = 0 then (rtkR M).1 115 27 else -1) = (rtkR M).1 115 27 := if_pos (by omega); subst_vars; refine ⟨rfl, ?_⟩; show _ = (w, zheap (zup (rlo1 M) 115 0 1)); unfold rlo1; rw [e9]; first | rfl | (rw [zup_ne (by decide)])))))))))))))) (fun (zc4 : ¬ (((rtkR M).2) = 0)) => zz_iconst (pc := 15) xf_160_15 (zz_goto (pc := 16) xf_160_16 (zz_putI (pc := 23) xf_160_23 zis_115 (by decide +kernel) rfl (by decide +kernel) (zm_as (fun zM13 (ezM13 : zM13 = zup zM2 115 30 (-1)) => zz_iload_n (pc := 26) xf_160_26 (zmem 0 rfl) (zz_if (pc := 27) xf_160_27 (by unfold zr32; omega) (fun (zc14 : ¬ (((rtkR M).2) = 0)) => zz_aload_n (pc := 36) xf_160_36 (zmem 1 rfl) (zz_iconst (pc := 37) xf_160_37 (zz_putI (pc := 38) xf_160_38 zis_115 (by decide +kernel) rfl (by decide +kernel) (zm_as (fun zM16 (ezM16 : zM16 = zup zM13 115 0 (0)) => zz_aload_n (pc := 41) xf_160_41 (zmem 1 rfl) (zz_call_0 (pc := 42) (cu := 0) (su := 0) (fun ls hr => zz_calV xf_160_42 rfl zis_115 ls hr) rfl (sp_remembersR (d := d + 1) (by have h9 : zM16 115 39 = M 115 39 := (by subst_vars; first | (rw [zup_ne (by decide), zup_ne (by decide), zup_ne (by decide)]; exact rtkR_39) | skip); rw [h9]; exact hc)) (zm_as (fun zM17 (ezM17 : zM17 = remM zM16) => zz_aload_n (pc := 45) xf_160_45 (zmem 1 rfl) (zz_aload_n (pc := 46) xf_160_46 (zmem 1 rfl) (zz_getI (pc := 47) xf_160_47 zis_115 (by decide +kernel) rfl (zz_putI (pc := 50) xf_160_50 zis_115 (by decide +kernel) rfl (by decide +kernel) (zm_as (fun zM18 (ezM18 : zM18 = zup zM17 115 6 (zM17 115 28)) => zz_aload_n (pc := 53) xf_160_53 (zmem 1 rfl) (zz_aload_n (pc := 54) xf_160_54 (zmem 1 rfl) (zz_getI (pc := 55) xf_160_55 zis_115 (by decide +kernel) rfl (zz_putI (pc := 58) xf_160_58 zis_115 (by decide +kernel) rfl (by decide +kernel) (zm_as (fun zM19 (ezM19 : zM19 = zup zM18 115 7 (zM18 115 29)) => zz_iconst (pc := 61) xf_160_61 (zz_istore_n (pc := 62) xf_160_62 (by decide +kernel) (zG_ro (ρ' := [(2, .int (Int32.ofInt (0))), (1, .int (Int32.ofInt ((rtkR M).2))), (0, .ref 115)]) rfl (zG_mono (N := 1073) (by omega) (zG_sub (List.forall_mem_cons.mpr ⟨zmem 2 rfl, (List.forall_mem_cons.mpr ⟨zmem 0 rfl, (fun p hp => absurd hp List.not_mem_nil)⟩)⟩) ((by exfalso; omega)))))))))))))))))))))))) (fun zc150 => have zc15 : ((rtkR M).2) = 0 := Classical.not_not.mp zc150; zz_aload_n (pc := 30) xf_160_30 (zmem 1 rfl) (zz_iconst (pc := 31) xf_160_31 (zz_call_v (pc := 32) (cu := 0) (su := 0) (fun ls hr => zz_calV xf_160_32 rfl zis_115 ls hr) rfl (sp_failsR (d := d + 3) ) (zm_as (fun zM20 (ezM20 : zM20 = zup zM13 115 0 (1)) => zz_ireturn (pc := 35) xf_160_35 rfl (by decide +kernel) (by decide +kernel) (by first | (exfalso; omega) | (have e9 : (if (rtkR M).2 = 0 then (rtkR M).1 115 27 else -1) = (rtkR M).1 115 27 := if_pos (by omega); subst_vars; refine ⟨rfl, ?_⟩; show _ = (w, zheap (zup (rlo1 M) 115 0 1)); unfold rlo1; rw [e9]; first | rfl | (rw [zup_ne (by decide)]))))))))))))))))))))))))))
theorem sp_loadR_1 {xs : List Int32} {d : Nat} {w : Bool} {M : zM} {D : zM} {nD : Int} (hl : 0 ≤ M 115 26 ∧ M 115 26 ≤ 45) (hb : ∀ j : Nat, (j : Int) < M 115 26 → 0 ≤ M 127 j ∧ M 127 j ≤ 255) (hc : 0 ≤ M 115 39 ∧ M 115 39 ≤ 6) (hD : ¬ (rtkR M).2 = 0 → (1 ≤ rlo2 M 115 6 ∧ rlo2 M 115 6 ≤ 6) ∧ (1 ≤ rlo2 M 115 7 ∧ rlo2 M 115 7 ≤ 6) ∧ zBI nD D zn1 ∧ rA D (rlo4 M)) (c0 : ¬ ((rtkR M).2 = 0)) : xrun2 xs (d + 5) 160 [.ref 115] (w, zheap M) = some (.inl (some (.int (Int32.ofInt (zmany D zn1)))), (w, zheap (rloM D M))) := by
  have h01 : (rtkR M).2 = 0 ∨ (rtkR M).2 = 1 := rtk_01 _ _ _ _ _
  have hz1 : rlo1 M 115 39 = M 115 39 := rlo1_39
  exact zrun_v (N := 1102) (by decide) rfl (zz_aload_n (pc := 0) xf_160_0 (zmem 0 rfl) (zz_call_v (pc := 1) (cu := 0) (su := 0) (fun ls hr => zz_calV xf_160_1 rfl zis_115 ls hr) rfl (sp_takesMapR (d := d + 2) hl hb) (zm_as (fun zM1 (ezM1 : zM1 = (rtkR M).1) => zz_istore_n (pc := 4) xf_160_4 (by decide +kernel) (zG_ro (ρ' := [(1, .int (Int32.ofInt ((rtkR M).2))), (0, .ref 115)]) rfl (zz_aload_n (pc := 5) xf_160_5 (zmem 1 rfl) (zz_iconst (pc := 6) xf_160_6 (zz_putI (pc := 7) xf_160_7 zis_115 (by decide +kernel) rfl (by decide +kernel) (zm_as (fun zM2 (ezM2 : zM2 = zup zM1 115 26 (0)) => zz_aload_n (pc := 10) xf_160_10 (zmem 1 rfl) (zz_iload_n (pc := 11) xf_160_11 (zmem 0 rfl) (zz_if (pc := 12) xf_160_12 (by unfold zr32; omega) (fun (zc3 : ((rtkR M).2) = 0) => zz_aload_n (pc := 19) xf_160_19 (zmem 1 rfl) (zz_getI (pc := 20) xf_160_20 zis_115 (by decide +kernel) rfl (zz_putI (pc := 23) xf_160_23 zis_115 (by decide +kernel) rfl (by decide +kernel) (zm_as (fun zM5 (ezM5 : zM5 = zup zM2 115 30 (zM2 115 27)) => zz_iload_n (pc := 26) xf_160_26 (zmem 0 rfl) (zz_if (pc := 27) xf_160_27 (by unfold zr32; omega) (fun (zc6 : ¬ (((rtkR M).2) = 0)) => zz_aload_n (pc := 36) xf_160_36 (zmem 1 rfl) (zz_iconst (pc := 37) xf_160_37 (zz_putI (pc := 38) xf_160_38 zis_115 (by decide +kernel) rfl (by decide +kernel) (zm_as (fun zM8 (ezM8 : zM8 = zup zM5 115 0 (0)) => zz_aload_n (pc := 41) xf_160_41 (zmem 1 rfl) (zz_call_0 (pc := 42) (cu := 0) (su := 0) (fun ls hr => zz_calV xf_160_42 rfl zis_115 ls hr) rfl (sp_remembersR (d := d + 1) (by have h9 : zM8 115 39 = M 115 39 := (by subst_vars; first | (rw [zup_ne (by decide), zup_ne (by decide), zup_ne (by decide)]; exact rtkR_39) | skip); rw [h9]; exact hc)) (zm_as (fun zM9 (ezM9 : zM9 = remM zM8) => zz_aload_n (pc := 45) xf_160_45 (zmem 1 rfl) (zz_aload_n (pc := 46) xf_160_46 (zmem 1 rfl) (zz_getI (pc := 47) xf_160_47 zis_115 (by decide +kernel) rfl (zz_putI (pc := 50) xf_160_50 zis_115 (by decide +kernel) rfl (by decide +kernel) (zm_as (fun zM10 (ezM10 : zM10 = zup zM9 115 6 (zM9 115 28)) => zz_aload_n (pc := 53) xf_160_53 (zmem 1 rfl) (zz_aload_n (pc := 54) xf_160_54 (zmem 1 rfl) (zz_getI (pc := 55) xf_160_55 zis_115 (by decide +kernel) rfl (zz_putI (pc := 58) xf_160_58 zis_115 (by decide +kernel) rfl (by decide +kernel) (zm_as (fun zM11 (ezM11 : zM11 = zup zM10 115 7 (zM10 115 29)) => zz_iconst (pc := 61) xf_160_61 (zz_istore_n (pc := 62) xf_160_62 (by decide +kernel) (zG_ro (ρ' := [(2, .int (Int32.ofInt (0))), (1, .int (Int32.ofInt ((rtkR M).2))), (0, .ref 115)]) rfl (zG_mono (N := 1073) (by omega) (zG_sub (List.forall_mem_cons.mpr ⟨zmem 2 rfl, (List.forall_mem_cons.mpr ⟨zmem 0 rfl, (fun p hp => absurd hp List.not_mem_nil)⟩)⟩) ((by first | (exfalso; omega) | (have hne : ¬ (rtkR M).2 = 0 := (by omega); obtain ⟨d1, d2, d4, d5⟩ := hD hne; have e8 : rlo1 M = zup (zup (rtkR M).1 115 26 0) 115 30 (-1) := (by unfold rlo1; rw [if_neg hne]); have e9 : zM11 = rlo2 M := (by unfold rlo2 rm1; rw [e8]; subst_vars; first | rfl | (rw [zup_ne (by decide)])); rw [e9]; have g := zmul6 d1 d2; exact zl_loadR_63 (K := rlo2 M) d1 d2 d4 d5 36 0 _ rlo3_0.symm (by omega) (by omega)))))))))))))))))))))))))) (fun zc70 => have zc7 : ((rtkR M).2) = 0 := Classical.not_not.mp zc70; zz_aload_n (pc := 30) xf_160_30 (zmem 1 rfl) (zz_iconst (pc := 31) xf_160_31 (zz_call_v (pc := 32) (cu := 0) (su := 0) (fun ls hr => zz_calV xf_160_32 rfl zis_115 ls hr) rfl (sp_failsR (d := d + 3) ) (zm_as (fun zM12 (ezM12 : zM12 = zup zM5 115 0 (1)) => zz_ireturn (pc := 35) xf_160_35 rfl (by decide +kernel) (by decide +kernel) (by exfalso; omega)))))))))))) (fun (zc4 : ¬ (((rtkR M).2) = 0)) => zz_iconst (pc := 15) xf_160_15 (zz_goto (pc := 16) xf_160_16 (zz_putI (pc := 23) xf_160_23 zis_115 (by decide +kernel) rfl (by decide +kernel) (zm_as (fun zM13 (ezM13 : zM13 = zup zM2 115 30 (-1)) => zz_iload_n (pc := 26) xf_160_26 (zmem 0 rfl) (zz_if (pc := 27) xf_160_27 (by unfold zr32; omega) (fun (zc14 : ¬ (((rtkR M).2) = 0)) => zz_aload_n (pc := 36) xf_160_36 (zmem 1 rfl) (zz_iconst (pc := 37) xf_160_37 (zz_putI (pc := 38) xf_160_38 zis_115 (by decide +kernel) rfl (by decide +kernel) (zm_as (fun zM16 (ezM16 : zM16 = zup zM13 115 0 (0)) => zz_aload_n (pc := 41) xf_160_41 (zmem 1 rfl) (zz_call_0 (pc := 42) (cu := 0) (su := 0) (fun ls hr => zz_calV xf_160_42 rfl zis_115 ls hr) rfl (sp_remembersR (d := d + 1) (by have h9 : zM16 115 39 = M 115 39 := (by subst_vars; first | (rw [zup_ne (by decide), zup_ne (by decide), zup_ne (by decide)]; exact rtkR_39) | skip); rw [h9]; exact hc)) (zm_as (fun zM17 (ezM17 : zM17 = remM zM16) => zz_aload_n (pc := 45) xf_160_45 (zmem 1 rfl) (zz_aload_n (pc := 46) xf_160_46 (zmem 1 rfl) (zz_getI (pc := 47) xf_160_47 zis_115 (by decide +kernel) rfl (zz_putI (pc := 50) xf_160_50 zis_115 (by decide +kernel) rfl (by decide +kernel) (zm_as (fun zM18 (ezM18 : zM18 = zup zM17 115 6 (zM17 115 28)) => zz_aload_n (pc := 53) xf_160_53 (zmem 1 rfl) (zz_aload_n (pc := 54) xf_160_54 (zmem 1 rfl) (zz_getI (pc := 55) xf_160_55 zis_115 (by decide +kernel) rfl (zz_putI (pc := 58) xf_160_58 zis_115 (by decide +kernel) rfl (by decide +kernel) (zm_as (fun zM19 (ezM19 : zM19 = zup zM18 115 7 (zM18 115 29)) => zz_iconst (pc := 61) xf_160_61 (zz_istore_n (pc := 62) xf_160_62 (by decide +kernel) (zG_ro (ρ' := [(2, .int (Int32.ofInt (0))), (1, .int (Int32.ofInt ((rtkR M).2))), (0, .ref 115)]) rfl (zG_mono (N := 1073) (by omega) (zG_sub (List.forall_mem_cons.mpr ⟨zmem 2 rfl, (List.forall_mem_cons.mpr ⟨zmem 0 rfl, (fun p hp => absurd hp List.not_mem_nil)⟩)⟩) ((by first | (exfalso; omega) | (have hne : ¬ (rtkR M).2 = 0 := (by omega); obtain ⟨d1, d2, d4, d5⟩ := hD hne; have e8 : rlo1 M = zup (zup (rtkR M).1 115 26 0) 115 30 (-1) := (by unfold rlo1; rw [if_neg hne]); have e9 : zM19 = rlo2 M := (by unfold rlo2 rm1; rw [e8]; subst_vars; first | rfl | (rw [zup_ne (by decide)])); rw [e9]; have g := zmul6 d1 d2; exact zl_loadR_63 (K := rlo2 M) d1 d2 d4 d5 36 0 _ rlo3_0.symm (by omega) (by omega)))))))))))))))))))))))))) (fun zc150 => have zc15 : ((rtkR M).2) = 0 := Classical.not_not.mp zc150; zz_aload_n (pc := 30) xf_160_30 (zmem 1 rfl) (zz_iconst (pc := 31) xf_160_31 (zz_call_v (pc := 32) (cu := 0) (su := 0) (fun ls hr => zz_calV xf_160_32 rfl zis_115 ls hr) rfl (sp_failsR (d := d + 3) ) (zm_as (fun zM20 (ezM20 : zM20 = zup zM13 115 0 (1)) => zz_ireturn (pc := 35) xf_160_35 rfl (by decide +kernel) (by decide +kernel) (by exfalso; omega))))))))))))))))))))))))
end
noncomputable section
/-! The two states together. -/
/-- the reference's places of a state, as numbers, hold what a block of the class holds -/
def rV (v : Nat → Int) (C : zM) (a : Nat) : Prop :=
  ((v 456 = C (a + 1) 0 ∧ v 457 = C (a + 1) 1) ∧ ∀ j : Nat, (j : Int) < zsz C a → v j = C (a + 2) j) ∧
  (∀ j : Nat, (j : Int) < zsz C a → v (36 + j) = C (a + 3) j) ∧
  ((v 458 = C (a + 5) 2 ∧ v 459 = C (a + 5) 3) ∧ (∀ j : Nat, j < 4 → v (72 + j) = C (a + 6) j) ∧ (∀ j : Nat, j < 16 → v (76 + j) = C (a + 7) j)) ∧
  (∀ j : Nat, (j : Int) < zsz C a → v (92 + j) = C (a + 11) j) ∧
  (v 460 = C a 4 ∧ v 461 = C a 5 ∧ v 462 = C a 6 ∧ v 463 = C a 7) ∧
  ((v 464 = C (a + 8) 1 ∧ v 465 = C (a + 8) 2 ∧ v 466 = C (a + 8) 0) ∧ ∀ i : Nat, (i : Int) < zmi (ztot C a) 8 → v (128 + i) = C (a + 9) i ∧ (C (a + 9) i < 10 → ∀ y : Nat, y < 4 → v (136 + (4 * i + y)) = C (a + 10) (i * 36 + y)) ∧ (¬ C (a + 9) i < 10 → ∀ c : Nat, (c : Int) < zsz C a → zfreeN C a c → v (168 + (36 * i + c)) = C (a + 10) (i * 36 + c)))
theorem zmi_8 (x : Int) : zmi x 8 ≤ 8 := by
  unfold zmi
  split <;> omega
theorem rV_c {v v' : Nat → Int} {C C' : zM} {a b : Nat} (h : zBE C a C' b) (hg : zGr C' b) (hv : ∀ k : Nat, k < 467 → v k = v' k) (hV : rV v' C' b) : rV v C a := by
  obtain ⟨⟨⟨v1, v2⟩, v3⟩, v4, ⟨⟨v5, v6⟩, v7, v8⟩, v9, ⟨v10, v11, v12, v13⟩, ⟨v14, v15, v16⟩, v17⟩ := hV
  obtain ⟨g6, g7⟩ := hg.sz
  have hz : zsz C' b = C' (b + 1) 0 * C' (b + 1) 1 := rfl
  have hs : zsz C a = zsz C' b := (h.ef hg).sz
  have e1 := h 8 1 (by unfold zslot; omega)
  have e2 := h 8 2 (by unfold zslot; omega)
  have ht : ztot C a = ztot C' b := by unfold ztot; rw [e1, e2]
  have h8 := zmi_8 (ztot C' b)
  refine ⟨⟨⟨?_, ?_⟩, fun j hj => ?_⟩, fun j hj => ?_, ⟨⟨?_, ?_⟩, fun j hj => ?_, fun j hj => ?_⟩, fun j hj => ?_, ⟨?_, ?_, ?_, ?_⟩, ⟨?_, ?_, ?_⟩, fun i hi => ⟨?_, fun hc y hy => ?_, fun hc c hcs hcf => ?_⟩⟩
  · rw [hv _ (by decide), h 1 0 (by unfold zslot; omega)]; exact v1
  · rw [hv _ (by decide), h 1 1 (by unfold zslot; omega)]; exact v2
  · rw [hs] at hj; rw [hv _ (by omega), h 2 j (by unfold zslot; omega)]; exact v3 j hj
  · rw [hs] at hj; rw [hv _ (by omega), h 3 j (by unfold zslot; omega)]; exact v4 j hj
  · rw [hv _ (by decide), h 5 2 (by unfold zslot; omega)]; exact v5
  · rw [hv _ (by decide), h 5 3 (by unfold zslot; omega)]; exact v6
  · rw [hv _ (by omega), h 6 j (by unfold zslot; omega)]; exact v7 j hj
  · rw [hv _ (by omega), h 7 j (by unfold zslot; omega)]; exact v8 j hj
  · rw [hs] at hj; rw [hv _ (by omega), h 11 j (by unfold zslot; omega)]; exact v9 j hj
  · rw [hv _ (by decide), show C a 4 = C' b 4 from h 0 4 (by unfold zslot; omega)]; exact v10
  · rw [hv _ (by decide), show C a 5 = C' b 5 from h 0 5 (by unfold zslot; omega)]; exact v11
  · rw [hv _ (by decide), show C a 6 = C' b 6 from h 0 6 (by unfold zslot; omega)]; exact v12
  · rw [hv _ (by decide), show C a 7 = C' b 7 from h 0 7 (by unfold zslot; omega)]; exact v13
  · rw [hv _ (by decide), e1]; exact v14
  · rw [hv _ (by decide), e2]; exact v15
  · rw [hv _ (by decide), h 8 0 (by unfold zslot; omega)]; exact v16
  · rw [ht] at hi; rw [hv _ (by omega), h 9 i (by unfold zslot; omega)]; exact (v17 i hi).1
  · rw [ht] at hi
    rw [h 9 i (by unfold zslot; omega)] at hc
    rw [hv _ (by omega), h 10 _ (by unfold zslot; omega)]; exact (v17 i hi).2.1 hc y hy
  · rw [ht] at hi
    rw [hs] at hcs
    rw [h 9 i (by unfold zslot; omega)] at hc
    rw [hv _ (by omega), h 10 _ (by unfold zslot; omega)]; exact (v17 i hi).2.2 hc c hcs (((h.ef hg).fr c).mp hcf)
theorem rV_of {n : Int} {C M : zM} (hB : zBI n C zn1) (hA : rA C M) (hC : rC C M) (hT : rT C M) (hL : rB C M) (hS : rS C M) (hR : rL C M) : rV (rvw M) C zn1 := by
  obtain ⟨g6, g7⟩ := hB.g.sz
  have hz : zsz C zn1 = C (zn1 + 1) 0 * C (zn1 + 1) 1 := rfl
  have h8 := zmi_8 (ztot C zn1)
  refine ⟨⟨⟨hA.1.1, hA.1.2⟩, fun j hj => ?_⟩, fun j hj => ?_, ⟨⟨hT.1.1, hT.1.2⟩, fun j hj => ?_, fun j hj => ?_⟩, fun j hj => ?_, ⟨hS.1, hS.2.1, hS.2.2.1, hS.2.2.2⟩, ⟨hR.1.1, hR.1.2.1, hR.1.2.2⟩, fun i hi => ⟨?_, fun hc y hy => ?_, fun hc c hcs hcf => ?_⟩⟩
  · have e := rvw_116 (M := M) j (by omega)
    rw [Nat.zero_add] at e
    rw [e]; exact hA.2 j hj
  · rw [rvw_117 j (by omega)]; exact hC j hj
  · rw [rvw_118 j hj]; exact hT.2.1 j hj
  · rw [rvw_119 j hj]; exact hT.2.2 j hj
  · rw [rvw_120 j (by omega)]; exact hL j hj
  · rw [rvw_123 i (by omega)]; exact (hR.2 i hi).1
  · rw [rvw_124 _ (by omega)]; exact (hR.2 i hi).2.1 hc y hy
  · rw [rvw_125 _ (by omega)]; exact (hR.2 i hi).2.2 hc c hcs hcf
theorem rV_to {n : Int} {C M : zM} (hB : zBI n C zn1) (h : rV (rvw M) C zn1) : rA C M ∧ rC C M ∧ rT C M ∧ rB C M ∧ rS C M ∧ rL C M := by
  obtain ⟨g6, g7⟩ := hB.g.sz
  have hz : zsz C zn1 = C (zn1 + 1) 0 * C (zn1 + 1) 1 := rfl
  have h8 := zmi_8 (ztot C zn1)
  obtain ⟨⟨⟨v1, v2⟩, v3⟩, v4, ⟨⟨v5, v6⟩, v7, v8⟩, v9, ⟨v10, v11, v12, v13⟩, ⟨v14, v15, v16⟩, v17⟩ := h
  refine ⟨⟨⟨v1, v2⟩, fun j hj => ?_⟩, fun j hj => ?_, ⟨⟨v5, v6⟩, fun j hj => ?_, fun j hj => ?_⟩, fun j hj => ?_, ⟨v10, v11, v12, v13⟩, ⟨v14, v15, v16⟩, fun i hi => ⟨?_, fun hc y hy => ?_, fun hc c hcs hcf => ?_⟩⟩
  · have e := rvw_116 (M := M) j (by omega)
    rw [Nat.zero_add] at e
    rw [← e]; exact v3 j hj
  · rw [← rvw_117 (M := M) j (by omega)]; exact v4 j hj
  · rw [← rvw_118 (M := M) j hj]; exact v7 j hj
  · rw [← rvw_119 (M := M) j hj]; exact v8 j hj
  · rw [← rvw_120 (M := M) j (by omega)]; exact v9 j hj
  · rw [← rvw_123 (M := M) i (by omega)]; exact (v17 i hi).1
  · rw [← rvw_124 (M := M) _ (by omega)]; exact (v17 i hi).2.1 hc y hy
  · rw [← rvw_125 (M := M) _ (by omega)]; exact (v17 i hi).2.2 hc c hcs hcf
/-- what is no place of a state may differ -/
def zpl5 (j : Nat) : Prop := j = 6 ∨ j = 7 ∨ j = 8 ∨ j = 9 ∨ j = 10 ∨ j = 11 ∨ j = 12 ∨ j = 13 ∨ j = 19 ∨ j = 20 ∨ j = 21
def zpl1 (q : Nat) : Prop := q = 116 ∨ q = 117 ∨ q = 118 ∨ q = 119 ∨ q = 120 ∨ q = 123 ∨ q = 124 ∨ q = 125
theorem rvw_c {M M' : zM} (h5 : ∀ j : Nat, zpl5 j → M 115 j = M' 115 j) (hq : ∀ q : Nat, zpl1 q → M q = M' q) (k : Nat) : rvw M k = rvw M' k := by
  unfold rvw
  rw [hq 116 (by unfold zpl1; omega), hq 117 (by unfold zpl1; omega), hq 118 (by unfold zpl1; omega), hq 119 (by unfold zpl1; omega), hq 120 (by unfold zpl1; omega), hq 123 (by unfold zpl1; omega), hq 124 (by unfold zpl1; omega), hq 125 (by unfold zpl1; omega), h5 6 (by unfold zpl5; omega), h5 7 (by unfold zpl5; omega), h5 8 (by unfold zpl5; omega), h5 9 (by unfold zpl5; omega), h5 10 (by unfold zpl5; omega), h5 11 (by unfold zpl5; omega), h5 12 (by unfold zpl5; omega), h5 13 (by unfold zpl5; omega), h5 19 (by unfold zpl5; omega), h5 20 (by unfold zpl5; omega), h5 21 (by unfold zpl5; omega)]
/-- the state of both, behind n calls -/
def zJox (M : zM) : Prop := (M 115 39 = M 25 2 ∧ M 115 41 = M 0 2 ∧ M 115 30 = M 0 5) ∧ (M 115 26 = M 99 1 ∧ ∀ j : Nat, (j : Int) < M 99 1 → M 127 j = M 100 j)
def zJo (n : Int) (M : zM) : Prop := zKI n M ∧ rV (rvw M) M zn1 ∧ (M 0 2 = 1 → rV (M 136) M zn13) ∧ (∀ i : Nat, (i : Int) < M 25 2 → rV (fun k => M 135 (512 * i + k)) M (zslo M (i : Int))) ∧ zJox M
theorem zJo.k {n : Int} {M : zM} (h : zJo n M) : zKI n M := h.1
theorem zJo.b {n : Int} {M : zM} (h : zJo n M) : zBI n M zn1 := h.1.b
theorem zJo.v {n : Int} {M : zM} (h : zJo n M) : rV (rvw M) M zn1 := h.2.1
theorem zJo.s {n : Int} {M : zM} (h : zJo n M) : M 0 2 = 1 → rV (M 136) M zn13 := h.2.2.1
theorem zJo.r {n : Int} {M : zM} (h : zJo n M) : ∀ i : Nat, (i : Int) < M 25 2 → rV (fun k => M 135 (512 * i + k)) M (zslo M (i : Int)) := h.2.2.2.1
theorem zJo.x {n : Int} {M : zM} (h : zJo n M) : zJox M := h.2.2.2.2
theorem zJo.a {n : Int} {M : zM} (h : zJo n M) : rA M M ∧ rC M M ∧ rT M M ∧ rB M M ∧ rS M M ∧ rL M M := rV_to h.b h.v
theorem zJo_n {n n' : Int} {M : zM} (h : zJo n M) (hn : n ≤ n') (hn2 : n' ≤ 600) : zJo n' M := ⟨zki_n h.k hn hn2, h.2⟩
/-- the reference's relations with the class's memory before, for a memory that differs in the class's rows alone -/
theorem zJo_A {n : Int} {M K : zM} (h : zJo n M) (hq : ∀ q : Nat, 115 ≤ q → q < 137 → K q = M q) : rA M K ∧ rC M K ∧ rT M K ∧ rB M K ∧ rS M K ∧ rL M K := by
  obtain ⟨hA, hC, hT, hL, hS, hR⟩ := h.a
  have e := hq 115 (by decide) (by decide)
  exact ⟨rA_c (by rw [e]) (by rw [e]) (hq _ (by decide) (by decide)) hA, rC_c (hq _ (by decide) (by decide)) hC, rT_c (by rw [e]) (by rw [e]) (hq _ (by decide) (by decide)) (hq _ (by decide) (by decide)) hT, rB_c (hq _ (by decide) (by decide)) hL, rS_c (by rw [e]) (by rw [e]) (by rw [e]) (by rw [e]) hS, rL_c (by rw [e]) (by rw [e]) (by rw [e]) (hq _ (by decide) (by decide)) (hq _ (by decide) (by decide)) (hq _ (by decide) (by decide)) hR⟩
/-- nothing but scratch rows has changed: the class's first, then the reference's -/
theorem zJo_r {n : Int} {M M1 M2 : zM} (hJ : zJo n M) (hK : zKI n M1) (hc : ∀ q : Nat, q < 115 → M2 q = M1 q) (h1 : ∀ q : Nat, 1 ≤ q → q < 99 → M1 q = M q) (h2 : M1 0 2 = M 0 2) (hx : ∀ q : Nat, 115 ≤ q → q < 137 → M1 q = M q) (hq : ∀ q : Nat, zpl1 q ∨ q = 135 ∨ q = 136 → M2 q = M1 q) (h5 : ∀ j : Nat, zpl5 j ∨ j = 39 ∨ j = 41 → M2 115 j = M1 115 j) (hX : zJox M2) : zJo n M2 := by
  have e1 : ∀ q : Nat, 1 ≤ q → q < 99 → M2 q = M q := fun q a b => (hc q (by omega)).trans (h1 q a b)
  have e2 : M2 0 2 = M 0 2 := by rw [hc 0 (by decide)]; exact h2
  have hK2 : zKI n M2 := zKI_f hK (fun q a b => by rw [hc q (by omega)]) (by rw [hc 0 (by decide)]) (zKX_c hK.x (fun q a b _ _ => hc q b) (by rw [hc 0 (by decide)]) (by rw [hc 0 (by decide)]))
  have hv : ∀ k, rvw M2 k = rvw M k := rvw_c (fun j hj => (h5 j (Or.inl hj)).trans (by rw [hx 115 (by decide) (by decide)])) (fun q hq1 => (hq q (Or.inl hq1)).trans (hx q (by unfold zpl1 at hq1; omega) (by unfold zpl1 at hq1; omega)))
  have e135 : M2 135 = M 135 := (hq 135 (Or.inr (Or.inl rfl))).trans (hx 135 (by decide) (by decide))
  have e136 : M2 136 = M 136 := (hq 136 (Or.inr (Or.inr rfl))).trans (hx 136 (by decide) (by decide))
  refine ⟨hK2, ?_, fun hs => ?_, fun i hi => ?_, hX⟩
  · exact rV_c (zBE_q (fun q a b => e1 q a (by have : zn1 = 1 := rfl; omega))) hJ.b.g (fun k _ => hv k) hJ.v
  · rw [e2] at hs
    rw [e136]
    exact rV_c (zBE_q (fun q a b => e1 q (by have : zn13 = 13 := rfl; omega) (by have : zn13 = 13 := rfl; omega))) (hJ.k.s hs).g (fun _ _ => rfl) (hJ.s hs)
  · have e25 : M2 25 = M 25 := e1 25 (by decide) (by decide)
    rw [e25] at hi
    have es : zslo M2 (i : Int) = zslo M (i : Int) := by unfold zslo; rw [e25]
    have hst := zSt_le (zslo_st M (i : Int))
    rw [es, e135]
    exact rV_c (zBE_q (fun q a b => e1 q (by omega) (by omega))) (hJ.k.r _ (by omega) hi).g (fun _ _ => rfl) (hJ.r i hi)
/-- the reference's ring behind remembering -/
theorem rm1_ring {M : zM} (h0 : 0 ≤ M 115 39 ∧ M 115 39 ≤ 6) {i k : Nat} (hk : k < 467) (hi : (i : Int) < M 115 39 + (if M 115 39 = 6 then 0 else 1)) : rm1 M 135 (512 * i + k) = if (i : Int) = M 115 39 + (if M 115 39 = 6 then 0 else 1) - 1 then rvw M k else M 135 (512 * (i + (if M 115 39 = 6 then 1 else 0)) + k) := by
  have hz : zup M 115 0 0 115 39 = M 115 39 := zup_ne (by decide)
  have h9 : rmm0 (zup M 115 0 0) 115 39 = if M 115 39 = 6 then 5 else M 115 39 := by rw [rmm0_39, hz]
  have hv : rvw (rmm0 (zup M 115 0 0)) k = rvw M k := rvw_c (fun j hj => by rw [rmm0_5 (by unfold zpl5 at hj; omega), zup_ne (by unfold zpl5 at hj; omega)]) (fun q hq => by rw [rmm0_o (by unfold zpl1 at hq; omega) (by unfold zpl1 at hq; omega), zup_or (by unfold zpl1 at hq; omega)]) k
  have e : rm1 M 135 (512 * i + k) = ztao (rmm0 (zup M 115 0 0)) 135 (512 * rmm0 (zup M 115 0 0) 115 39).toNat 467 (rvw (rmm0 (zup M 115 0 0))) 135 (512 * i + k) := by
    unfold rm1 remM rkS
    rw [zup_or (by decide), zup_or (by decide), zup_or (by decide)]
  rw [e, h9]
  by_cases h6 : M 115 39 = 6
  · rw [if_pos h6, if_pos h6, if_pos h6]
    rw [if_pos h6] at hi
    by_cases h5 : (i : Int) = M 115 39 + 0 - 1
    · rw [if_pos h5, show 512 * i + k = (512 * (5 : Int)).toNat + k by omega, ztao_i hk]
      exact hv
    · rw [if_neg h5, ztao_g (by omega)]
      unfold rmm0
      rw [if_pos (hz.trans h6), zup_or (by decide), ztab_i (by omega)]
      unfold rmmF
      rw [zup_or (by decide), show 512 * i + k + 512 = 512 * (i + 1) + k by omega]
  · rw [if_neg h6, if_neg h6, if_neg h6]
    rw [if_neg h6] at hi
    by_cases h5 : (i : Int) = M 115 39 + 1 - 1
    · rw [if_pos h5, show 512 * i + k = (512 * M 115 39).toNat + k by omega, ztao_i hk]
      exact hv
    · rw [if_neg h5, ztao_g (by omega)]
      unfold rmm0
      rw [if_neg (fun e => h6 (hz.symm.trans e)), zup_or (by decide), Nat.add_zero]
theorem rm1_39 {M : zM} : rm1 M 115 39 = M 115 39 + (if M 115 39 = 6 then 0 else 1) := by
  unfold rm1 remM
  rw [zup_i, rmm0_39, zup_ne (by decide)]
  split <;> omega
/-- the state was kept by both, then the now was changed -/
theorem zJo_k {n : Int} {M X M1 M2 : zM} (hJ : zJo n M) (hK : zKI (n + 1) M1) (hc : ∀ q : Nat, q < 115 → M2 q = M1 q) (hX1 : ∀ q : Nat, 1 ≤ q → q < 99 → X q = M q) (h1 : ∀ q : Nat, 13 ≤ q → q < 99 → M1 q = zkpM X zn1 q) (h2 : M1 0 2 = M 0 2) (hx : ∀ q : Nat, 115 ≤ q → q < 137 → M1 q = M q) (e135 : M2 135 = rm1 M 135) (e136 : M2 136 = M 136) (e39 : M2 115 39 = rm1 M 115 39) (hX : zJox M2) (hV : rV (rvw M2) M1 zn1) : zJo (n + 1) M2 := by
  have hKX : zKI n X ∨ True := Or.inr trivial
  have e2 : M2 0 2 = M 0 2 := by rw [hc 0 (by decide)]; exact h2
  have hK2 : zKI (n + 1) M2 := zKI_f hK (fun q a b => by rw [hc q (by omega)]) (by rw [hc 0 (by decide)]) (zKX_c hK.x (fun q a b _ _ => hc q b) (by rw [hc 0 (by decide)]) (by rw [hc 0 (by decide)]))
  have hX25 : X 25 = M 25 := hX1 25 (by decide) (by decide)
  have hch : zCh X := zCh_c hX25 hJ.k.ch
  have hxx := hJ.x.1.1
  refine ⟨hK2, ?_, fun hs => ?_, fun i hi => ?_, hX⟩
  · exact rV_c (zBE_q (fun q a b => hc q (by have : zn1 = 1 := rfl; omega))) hK.b.g (fun k _ => rfl) hV
  · rw [e2] at hs
    rw [e136]
    exact rV_c (zBE_q (fun q a b => by
      have : zn13 = 13 := rfl
      rw [hc q (by omega), h1 q (by omega) (by omega), zkp_o (by omega), hX1 q (by omega) (by omega)])) (hJ.k.s hs).g (fun _ _ => rfl) (hJ.s hs)
  · have e25 : M2 25 = zkpM X zn1 25 := (hc 25 (by decide)).trans (h1 25 (by decide) (by decide))
    have hi' : (i : Int) < zkn X := by rw [e25, zkp_2] at hi; exact hi
    have hkn : zkn X = M 115 39 + (if M 115 39 = 6 then 0 else 1) := by unfold zkn; rw [hX25, hxx]
    have es : zslo M2 (i : Int) = zslo (zkpM X zn1) (i : Int) := by unfold zslo; rw [e25]
    have hst := zSt_le (zslo_st (zkpM X zn1) (i : Int))
    have h27 : 27 ≤ zslo (zkpM X zn1) (i : Int) := by unfold zslo zring; omega
    have hr := zkp_ring hzn1 (by decide) hch (show (0 : Int) ≤ (i : Int) by omega) hi'
    have hch2 := hJ.k.ch.2
    rw [es]
    have hbe : zBE M2 (zslo (zkpM X zn1) (i : Int)) X (if (i : Int) = zkn X - 1 then zn1 else zslo X ((i : Int) + (if X 25 2 = 6 then 1 else 0))) := (zBE_q (fun q a b => by rw [hc q (by omega), h1 q (by omega) (by omega)])).tr hr
    have hring : ∀ k : Nat, k < 467 → M2 135 (512 * i + k) = if (i : Int) = zkn X - 1 then rvw M k else M 135 (512 * (i + (if M 115 39 = 6 then 1 else 0)) + k) := fun k hk => by
      rw [e135, rm1_ring (by rw [hxx]; omega) hk (by rw [← hkn]; exact hi'), hkn]
    by_cases hl : (i : Int) = zkn X - 1
    · rw [if_pos hl] at hbe
      have hbe2 : zBE M2 (zslo (zkpM X zn1) (i : Int)) M zn1 := hbe.tr (zBE_q (fun q a b => hX1 q (by have : zn1 = 1 := rfl; omega) (by have : zn1 = 1 := rfl; omega)))
      exact rV_c hbe2 hJ.b.g (fun k hk => by rw [hring k hk, if_pos hl]) hJ.v
    · rw [if_neg hl] at hbe
      have hsx : zslo X ((i : Int) + (if X 25 2 = 6 then 1 else 0)) = zslo M (((i + (if M 115 39 = 6 then 1 else 0) : Nat)) : Int) := by
        unfold zslo
        rw [hX25, hxx]
        split <;> simp
      have hst2 := zSt_le (zslo_st M (((i + (if M 115 39 = 6 then 1 else 0) : Nat)) : Int))
      have hii : (((i + (if M 115 39 = 6 then 1 else 0) : Nat)) : Int) < M 25 2 := by
        rw [hxx]
        rw [hkn, hxx] at hl hi'
        split at hl <;> split <;> simp at * <;> omega
      rw [hsx] at hbe
      have hbe2 := hbe.tr (zBE_q (M0 := M) (fun q a b => hX1 q (by have h27b : 27 ≤ zslo M (((i + (if M 115 39 = 6 then 1 else 0) : Nat)) : Int) := by { unfold zslo zring; omega }; omega) (by omega)))
      exact rV_c hbe2 (hJ.k.r _ (by omega) hii).g (fun k hk => by rw [hring k hk, if_neg hl]) (hJ.r _ hii)
end
noncomputable section
/-! What calls do to the two states. -/
theorem rA_t {C C' M M' : zM} (h1 : C' (zn1 + 1) = C (zn1 + 1)) (h2 : C' (zn1 + 2) = C (zn1 + 2)) (m6 : M' 115 6 = M 115 6) (m7 : M' 115 7 = M 115 7) (m : M' 116 = M 116) (h : rA C M) : rA C' M' := by
  unfold rA zsz at *
  rw [h1, h2, m6, m7, m]
  exact h
theorem rC_t {C C' M M' : zM} (h1 : C' (zn1 + 1) = C (zn1 + 1)) (h3 : C' (zn1 + 3) = C (zn1 + 3)) (m : M' 117 = M 117) (h : rC C M) : rC C' M' := by
  unfold rC zsz at *
  rw [h1, h3, m]
  exact h
theorem rT_t {C C' M M' : zM} (h5 : C' (zn1 + 5) = C (zn1 + 5)) (h6 : C' (zn1 + 6) = C (zn1 + 6)) (h7 : C' (zn1 + 7) = C (zn1 + 7)) (m8 : M' 115 8 = M 115 8) (m9 : M' 115 9 = M 115 9) (m : M' 118 = M 118) (m' : M' 119 = M 119) (h : rT C M) : rT C' M' := by
  unfold rT at *
  rw [h5, h6, h7, m8, m9, m, m']
  exact h
theorem rB_t {C C' M M' : zM} (h1 : C' (zn1 + 1) = C (zn1 + 1)) (h11 : C' (zn1 + 11) = C (zn1 + 11)) (m : M' 120 = M 120) (h : rB C M) : rB C' M' := by
  unfold rB zsz at *
  rw [h1, h11, m]
  exact h
theorem rS_t {C C' M M' : zM} (h : C' zn1 4 = C zn1 4) (h5 : C' zn1 5 = C zn1 5) (h6 : C' zn1 6 = C zn1 6) (h7 : C' zn1 7 = C zn1 7) (m10 : M' 115 10 = M 115 10) (m11 : M' 115 11 = M 115 11) (m12 : M' 115 12 = M 115 12) (m13 : M' 115 13 = M 115 13) (hS : rS C M) : rS C' M' := by
  unfold rS at *
  rw [h, h5, h6, h7, m10, m11, m12, m13]
  exact hS
theorem rL_t {C C' M M' : zM} (h1 : C' (zn1 + 1) = C (zn1 + 1)) (hf : ∀ c : Nat, zfreeN C' zn1 c → zfreeN C zn1 c) (h8 : C' (zn1 + 8) = C (zn1 + 8)) (h9 : C' (zn1 + 9) = C (zn1 + 9)) (h10 : C' (zn1 + 10) = C (zn1 + 10)) (m19 : M' 115 19 = M 115 19) (m20 : M' 115 20 = M 115 20) (m21 : M' 115 21 = M 115 21) (m3 : M' 123 = M 123) (m4 : M' 124 = M 124) (m5 : M' 125 = M 125) (h : rL C M) : rL C' M' := by
  obtain ⟨⟨a, b, c⟩, d⟩ := h
  have ht : ztot C' zn1 = ztot C zn1 := by unfold ztot; rw [h8]
  have hs : zsz C' zn1 = zsz C zn1 := by unfold zsz; rw [h1]
  refine ⟨⟨by rw [m19, h8]; exact a, by rw [m20, h8]; exact b, by rw [m21, h8]; exact c⟩, fun i hi => ?_⟩
  rw [ht] at hi
  obtain ⟨d1, d2, d3⟩ := d i hi
  rw [m3, m4, m5, h9, h10, hs]
  exact ⟨d1, d2, fun e c hc hcf => d3 e c hc (hf c hcf)⟩
theorem zfr_t {C C' : zM} (h1 : C' (zn1 + 1) = C (zn1 + 1)) (h2 : C' (zn1 + 2) = C (zn1 + 2)) (c : Nat) (h : zfreeN C' zn1 c) : zfreeN C zn1 c := by
  unfold zfreeN zfree at *
  rw [h1, h2] at h
  exact h
/-- only scratch rows of the class differ -/
def zSc (M1 M : zM) : Prop := ∀ q : Nat, q < 101 ∨ 115 ≤ q → M1 q = M q
/-- only scratch of the reference differs -/
def rSc (M2 M1 : zM) : Prop := (∀ q : Nat, ¬ q = 115 → ¬ (q = 121 ∨ q = 122 ∨ q = 126 ∨ (128 ≤ q ∧ q ≤ 134)) → M2 q = M1 q) ∧ ∀ j : Nat, ¬ (j = 0 ∨ j = 23 ∨ j = 27 ∨ j = 28 ∨ j = 29 ∨ j = 40 ∨ j = 42) → M2 115 j = M1 115 j
theorem rSc_z {K : zM} {x : Int} : rSc (zup K 115 0 x) K := ⟨fun q h _ => zup_or h, fun j h => zup_ne (by omega)⟩
theorem rSc_tr {A B C : zM} (h : rSc A B) (h' : rSc B C) : rSc A C := ⟨fun q a b => (h.1 q a b).trans (h'.1 q a b), fun j a => (h.2 j a).trans (h'.2 j a)⟩
theorem rSc_id {K : zM} : rSc K K := ⟨fun _ _ _ => rfl, fun _ _ => rfl⟩
theorem rSc_v {A B : zM} (h : rSc A B) : ∀ k, rvw A k = rvw B k := rvw_c (fun j hj => h.2 j (by unfold zpl5 at hj; omega)) (fun q hq => h.1 q (by unfold zpl1 at hq; omega) (by unfold zpl1 at hq; omega))
theorem zJo_s {n : Int} {M M1 K M2 : zM} (hJ : zJo n M) (hK : zKI n M1) (h1 : zSc M1 M) (hQ : ∀ q : Nat, q < 137 → K q = M1 q) (h2 : rSc M2 K) : zJo n M2 := by
  have hc : ∀ q : Nat, q < 115 → M2 q = M1 q := fun q h => (h2.1 q (by omega) (by omega)).trans (hQ q (by omega))
  have h115 : K 115 = M1 115 := hQ 115 (by decide)
  refine zJo_r hJ hK hc (fun q a b => h1 q (Or.inl (by omega))) (by rw [h1 0 (Or.inl (by decide))]) (fun q a b => h1 q (Or.inr a)) (fun q hq => (h2.1 q (by unfold zpl1 at hq; omega) (by unfold zpl1 at hq; omega)).trans (hQ q (by unfold zpl1 at hq; omega))) (fun j hj => (h2.2 j (by unfold zpl5 at hj; omega)).trans (by rw [h115])) ?_
  obtain ⟨⟨x1, x2, x3⟩, x4, x5⟩ := hJ.x
  have e115 : K 115 = M 115 := h115.trans (h1 115 (Or.inr (by decide)))
  have e25 : M2 25 = M 25 := (hc 25 (by decide)).trans (h1 25 (Or.inl (by decide)))
  have e0 : M2 0 = M 0 := (hc 0 (by decide)).trans (h1 0 (Or.inl (by decide)))
  have e99 : M2 99 = M 99 := (hc 99 (by decide)).trans (h1 99 (Or.inl (by decide)))
  have e100 : M2 100 = M 100 := (hc 100 (by decide)).trans (h1 100 (Or.inl (by decide)))
  have e127 : M2 127 = M 127 := ((h2.1 127 (by decide) (by decide)).trans (hQ 127 (by decide))).trans (h1 127 (Or.inr (by decide)))
  refine ⟨⟨?_, ?_, ?_⟩, ?_, ?_⟩
  · rw [h2.2 39 (by decide), e115, e25]; exact x1
  · rw [h2.2 41 (by decide), e115, e0]; exact x2
  · rw [h2.2 30 (by decide), e115, e0]; exact x3
  · rw [h2.2 26 (by decide), e115, e99]; exact x4
  · rw [e127, e99, e100]; exact x5
theorem rm1_135 {M : zM} {j : Nat} : rm1 M 135 j = if (512 * (if M 115 39 = 6 then 5 else M 115 39)).toNat ≤ j ∧ j < (512 * (if M 115 39 = 6 then 5 else M 115 39)).toNat + 467 then rvw M (j - (512 * (if M 115 39 = 6 then 5 else M 115 39)).toNat) else if M 115 39 = 6 ∧ j < 2560 then M 135 (j + 512) else M 135 j := by
  have hz : zup M 115 0 0 115 39 = M 115 39 := zup_ne (by decide)
  have h9 : rmm0 (zup M 115 0 0) 115 39 = if M 115 39 = 6 then 5 else M 115 39 := by rw [rmm0_39, hz]
  have hv : ∀ k, rvw (rmm0 (zup M 115 0 0)) k = rvw M k := rvw_c (fun j hj => by rw [rmm0_5 (by unfold zpl5 at hj; omega), zup_ne (by unfold zpl5 at hj; omega)]) (fun q hq => by rw [rmm0_o (by unfold zpl1 at hq; omega) (by unfold zpl1 at hq; omega), zup_or (by unfold zpl1 at hq; omega)])
  have e : rm1 M 135 j = ztao (rmm0 (zup M 115 0 0)) 135 (512 * rmm0 (zup M 115 0 0) 115 39).toNat 467 (rvw (rmm0 (zup M 115 0 0))) 135 j := by
    unfold rm1 remM rkS
    rw [zup_or (by decide), zup_or (by decide), zup_or (by decide)]
  rw [e, h9]
  unfold ztao
  by_cases hc : (512 * (if M 115 39 = 6 then 5 else M 115 39)).toNat ≤ j ∧ j < (512 * (if M 115 39 = 6 then 5 else M 115 39)).toNat + 467
  · rw [if_pos ⟨rfl, hc⟩, if_pos hc]
    exact hv _
  · rw [if_neg (fun h => hc h.2), if_neg hc]
    unfold rmm0
    rw [hz]
    by_cases h6 : M 115 39 = 6
    · rw [if_pos h6, zup_or (by decide)]
      by_cases hj : j < 2560
      · rw [ztab_i hj, if_pos ⟨h6, hj⟩]
        unfold rmmF
        rw [zup_or (by decide)]
      · rw [ztab_g (by omega), if_neg (fun h => hj h.2), zup_or (by decide)]
    · rw [if_neg h6, if_neg (fun h => h6 h.1), zup_or (by decide)]
theorem rm1_e {K M : zM} (h1 : K 135 = M 135) (h2 : K 115 39 = M 115 39) (h3 : ∀ k, rvw K k = rvw M k) : rm1 K 135 = rm1 M 135 ∧ rm1 K 115 39 = rm1 M 115 39 := by
  refine ⟨?_, by rw [rm1_39, rm1_39, h2]⟩
  funext j
  rw [rm1_135, rm1_135, h1, h2, h3]
/-- the state was kept by both, then the now was changed by both -/
theorem zJo_w {n : Int} {M X M1 K K' M2 : zM} (hJ : zJo n M) (hK : zKI (n + 1) M1) (hQ : ∀ q : Nat, q < 137 → K q = M1 q) (hc : ∀ q : Nat, q < 115 → M2 q = K q) (hX : zSc X M) (h1 : ∀ q : Nat, 13 ≤ q → q < 99 → M1 q = zkpM X zn1 q) (h0 : M1 0 = M 0) (h99 : M1 99 = M 99) (h100 : M1 100 = M 100) (hx : ∀ q : Nat, 115 ≤ q → M1 q = M q) (hK' : rSc K' K) (e135 : M2 135 = rm1 K' 135) (e136 : M2 136 = K 136) (e127 : M2 127 = K 127) (e39 : M2 115 39 = rm1 K' 115 39) (e41 : M2 115 41 = K 115 41) (e30 : M2 115 30 = K 115 30) (e26 : M2 115 26 = K 115 26) (hV : rA M1 M2 ∧ rC M1 M2 ∧ rT M1 M2 ∧ rB M1 M2 ∧ rS M1 M2 ∧ rL M1 M2) : zJo (n + 1) M2 := by
  have hKM : ∀ q : Nat, 115 ≤ q → q < 137 → K q = M q := fun q a b => (hQ q b).trans (hx q a)
  have h115 := hKM 115 (by decide) (by decide)
  obtain ⟨r1, r2⟩ := rm1_e (K := K') (M := M) ((hK'.1 135 (by decide) (by decide)).trans (hKM 135 (by decide) (by decide))) ((hK'.2 39 (by decide)).trans (by rw [h115])) (fun k => (rSc_v hK' k).trans (rvw_c (fun j _ => by rw [h115]) (fun q hq => hKM q (by unfold zpl1 at hq; omega) (by unfold zpl1 at hq; omega)) k))
  obtain ⟨⟨x1, x2, x3⟩, x4, x5⟩ := hJ.x
  have hcc : ∀ q : Nat, q < 115 → M2 q = M1 q := fun q h => (hc q h).trans (hQ q (by omega))
  obtain ⟨vA, vC, vT, vL, vS, vR⟩ := hV
  refine zJo_k hJ hK hcc (fun q a b => hX q (Or.inl (by omega))) h1 (by rw [h0]) (fun q a b => hx q a) (e135.trans r1) (e136.trans (hKM 136 (by decide) (by decide))) (e39.trans r2) ?_ (rV_of hK.b vA vC vT vL vS vR)
  have e25 : M2 25 2 = zkn M := by
    rw [hcc 25 (by decide), h1 25 (by decide) (by decide), zkp_2]
    unfold zkn
    rw [hX 25 (Or.inl (by decide))]
  refine ⟨⟨?_, ?_, ?_⟩, ?_, ?_⟩
  · rw [e39, r2, rm1_39, e25, x1]; rfl
  · rw [e41, h115, hcc 0 (by decide), h0]; exact x2
  · rw [e30, h115, hcc 0 (by decide), h0]; exact x3
  · rw [e26, h115, hcc 99 (by decide), h99]; exact x4
  · rw [e127, hKM 127 (by decide) (by decide), hcc 99 (by decide), h99, hcc 100 (by decide), h100]; exact x5
/-! A call of both. -/
def zTy (t : Nat) (v : Value) : Prop := (t = 0 ∧ ∃ i : Int32, v = .int i) ∨ (t = 1 ∧ ∃ i : Int64, v = .long i)
def zAg (hh : List (Nat × Int)) (o : XO) (v : Value) (M2 : zM) : Prop := (∃ E k, o = .inr E ∧ (E, k) ∈ hh ∧ M2 115 0 = k) ∨ (M2 115 0 = 0 ∧ o = .inl (some v))
def zFo (hh : List (Nat × Int)) (t : Nat) (o : XO) : Prop := (∃ E, o = .inr E ∧ E ∈ hh.map Prod.fst) ∨ ∃ x, o = .inl (some x) ∧ zTy t x
def zRun (xs : List Int32) (d k : Nat) (as : List Value) (M : zM) (o : XO) (M1 : zM) : Prop := ∀ w : Bool, ∃ w1 : Bool, xrun2 xs d k as (w, zheap M) = some (o, (w1, zheap M1))
def zRef (xs : List Int32) (d k : Nat) (as : List Value) (hh : List (Nat × Int)) (t : Nat) (ag : Prop) (n : Int) (o : XO) (K : zM) : Prop := ∃ (v : Value) (M2 : zM), (∀ w : Bool, xrun2 xs d k as (w, zheap K) = some (.inl (some v), (w, zheap M2))) ∧ zTy t v ∧ M2 137 = K 137 ∧ zJo n M2 ∧ (ag → zAg hh o v M2)
def zStep (xs : List Int32) (dc dr kc : Nat) (ac : List Value) (kr : Nat) (ar : List Value) (hh : List (Nat × Int)) (t : Nat) (ag : Prop) (n : Int) (M : zM) : Prop := ∃ (o : XO) (M1 : zM), zRun xs dc kc ac M o M1 ∧ zFo hh t o ∧ ∀ K : zM, (∀ q : Nat, q < 137 → K q = M1 q) → zRef xs dr kr ar hh t ag (n + 1) o K
theorem zTy_i {i : Int32} : zTy 0 (.int i) := Or.inl ⟨rfl, i, rfl⟩
theorem zTy_j {i : Int64} : zTy 1 (.long i) := Or.inr ⟨rfl, i, rfl⟩
theorem zFo_e {hh : List (Nat × Int)} {t E : Nat} (h : E ∈ hh.map Prod.fst) : zFo hh t (.inr E) := Or.inl ⟨E, rfl, h⟩
theorem zFo_v {hh : List (Nat × Int)} {t : Nat} {x : Value} (h : zTy t x) : zFo hh t (.inl (some x)) := Or.inr ⟨x, rfl, h⟩
/-- the relations of the reference's rows with the class's memory before -/
def zR6 (C M : zM) : Prop := rA C M ∧ rC C M ∧ rT C M ∧ rB C M ∧ rS C M ∧ rL C M
theorem zJo_39 {n : Int} {M K : zM} (hJ : zJo n M) (h : K 115 = M 115) : 0 ≤ K 115 39 ∧ K 115 39 ≤ 6 := by
  rw [h, hJ.x.1.1]
  exact hJ.k.ch.2
/-- a call that leaves the state -/
theorem zst_r {xs : List Int32} {dc dr kc kr t : Nat} {ac ar : List Value} {hh : List (Nat × Int)} {ag : Prop} {n : Int} {M M1 : zM} {o : XO} (hJ : zJo n M) (hn : n + 1 ≤ 600) (hr : zRun xs dc kc ac M o M1) (hf : zFo hh t o) (hK : zKI n M1) (h1 : zSc M1 M) (h2 : ∀ K : zM, (∀ q : Nat, q < 137 → K q = M1 q) → zR6 M K → (0 ≤ K 115 39 ∧ K 115 39 ≤ 6) → K 115 = M 115 → ∃ (v : Value) (M2 : zM), (∀ w : Bool, xrun2 xs dr kr ar (w, zheap K) = some (.inl (some v), (w, zheap M2))) ∧ zTy t v ∧ M2 137 = K 137 ∧ rSc M2 K ∧ (ag → zAg hh o v M2)) : zStep xs dc dr kc ac kr ar hh t ag n M := by
  refine ⟨o, M1, hr, hf, fun K hQ => ?_⟩
  have e115 : K 115 = M 115 := (hQ 115 (by decide)).trans (h1 115 (Or.inr (by decide)))
  obtain ⟨v, M2, a, b, c, e, f⟩ := h2 K hQ (zJo_A hJ (fun q a b => (hQ q b).trans (h1 q (Or.inr a)))) (zJo_39 hJ e115) e115
  exact ⟨v, M2, a, b, c, zJo_n (zJo_s hJ hK h1 hQ e) (by omega) hn, f⟩
/-- a call that changes the now -/
theorem zst_w {xs : List Int32} {dc dr kc kr t : Nat} {ac ar : List Value} {hh : List (Nat × Int)} {ag : Prop} {n : Int} {M X M1 : zM} {o : XO} (hJ : zJo n M) (hr : zRun xs dc kc ac M o M1) (hf : zFo hh t o) (hK : zKI (n + 1) M1) (hX : zSc X M) (h1 : ∀ q : Nat, 13 ≤ q → q < 99 → M1 q = zkpM X zn1 q) (h0 : M1 0 = M 0) (h99 : M1 99 = M 99) (h100 : M1 100 = M 100) (hx : ∀ q : Nat, 115 ≤ q → M1 q = M q)
    (h2 : ∀ K : zM, (∀ q : Nat, q < 137 → K q = M1 q) → (∀ q : Nat, 115 ≤ q ∧ q < 137 → K q = M q) → zR6 M K → (0 ≤ K 115 39 ∧ K 115 39 ≤ 6) → ∃ (v : Value) (M2 K' : zM), (∀ w : Bool, xrun2 xs dr kr ar (w, zheap K) = some (.inl (some v), (w, zheap M2))) ∧ zTy t v ∧ (∀ q : Nat, q < 115 ∨ q = 137 ∨ q = 136 ∨ q = 127 → M2 q = K q) ∧ rSc K' K ∧ (M2 135 = rm1 K' 135 ∧ M2 115 39 = rm1 K' 115 39) ∧ (M2 115 41 = K 115 41 ∧ M2 115 30 = K 115 30 ∧ M2 115 26 = K 115 26) ∧ zR6 M1 M2 ∧ (ag → zAg hh o v M2)) : zStep xs dc dr kc ac kr ar hh t ag n M := by
  refine ⟨o, M1, hr, hf, fun K hQ => ?_⟩
  have hKM : ∀ q : Nat, 115 ≤ q ∧ q < 137 → K q = M q := fun q a => (hQ q a.2).trans (hx q a.1)
  obtain ⟨v, M2, K', a, b, c, e, f, g, i, j⟩ := h2 K hQ hKM (zJo_A hJ (fun q a b => hKM q ⟨a, b⟩)) (zJo_39 hJ (hKM 115 (by decide)))
  exact ⟨v, M2, a, b, c 137 (by omega), zJo_w hJ hK hQ (fun q h => c q (Or.inl h)) hX h1 h0 h99 h100 hx e f.1 (c 136 (by omega)) (c 127 (by omega)) f.2 g.1 g.2.1 g.2.2 i, j⟩
end
noncomputable section
/-! Both: what is set. -/
theorem rm1_0 {M : zM} : rm1 M 115 0 = 0 := by
  unfold rm1
  rw [remM_5 (by decide) (by decide) (by decide), zup_i]
theorem zj_setMark {xs : List Int32} {d : Nat} {n : Int} {M : zM} (hJ : zJo n M) (hn : n + 1 ≤ 600) {x y : Int} (hx : zr32 x) (hy : zr32 y) : zStep xs (d + 12) (d + 13) 75 [.ref 0, .int (Int32.ofInt x), .int (Int32.ofInt y)] 163 [.ref 115, .int (Int32.ofInt x), .int (Int32.ofInt y)] [(2, 1), (0, 2), (1, 3)] 0 True n M := by
  have hI := hJ.k.ci
  by_cases c0 : ¬ (0 ≤ x ∧ x < zsz M zn1)
  · exact zst_r hJ hn (fun w => ⟨_, sp_setMarkP_0 (d := d + 8) hI hx hy  c0⟩) (zFo_e (by decide)) hJ.k (fun _ _ => rfl) (fun K hK h6 h39 h115 => ⟨_, _, (fun w => sp_setMarkR_0 (d := d + 9) hJ.b hx hy h6.1 h39 c0), zTy_i, zup_or (by decide), rSc_z, fun _ => Or.inl ⟨_, 1, rfl, by decide, zup_i⟩⟩)
  by_cases c1 : ¬ (0 ≤ y ∧ y < 4)
  · exact zst_r hJ hn (fun w => ⟨_, sp_setMarkP_1 (d := d + 8) hI hx hy  c0 c1⟩) (zFo_e (by decide)) hJ.k (fun _ _ => rfl) (fun K hK h6 h39 h115 => ⟨_, _, (fun w => sp_setMarkR_1 (d := d + 9) hJ.b hx hy h6.1 h39 c0 c1), zTy_i, zup_or (by decide), rSc_z, fun _ => Or.inl ⟨_, 2, rfl, by decide, zup_i⟩⟩)
  by_cases c2 : ¬ zfree M zn1 x
  · exact zst_r hJ hn (fun w => ⟨_, sp_setMarkP_2 (d := d + 8) hI hx hy  c0 c1 c2⟩) (zFo_e (by decide)) hJ.k (fun _ _ => rfl) (fun K hK h6 h39 h115 => ⟨_, _, (fun w => sp_setMarkR_2 (d := d + 9) hJ.b hx hy h6.1 h39 c0 c1 c2), zTy_i, zup_or (by decide), rSc_z, fun _ => Or.inl ⟨_, 3, rfl, by decide, zup_i⟩⟩)
  (have hf := Classical.not_not.mp c2; have h6M := hJ.a; exact zst_w (X := M) hJ (fun w => ⟨_, sp_setMarkP_3 (d := d + 8) hI hx hy  c0 c1 c2⟩) (zFo_v zTy_i) (zki_mark hf (by omega) hJ.k hn) (fun _ _ => rfl) (fun q a b => (zup_or (show ¬ q = 3 by omega))) (by simp (disch := decide) only [zup_or, zkp_o]) (by simp (disch := decide) only [zup_or, zkp_o]) (by simp (disch := decide) only [zup_or, zkp_o]) (fun q a => (by have hz1 : zn1 = 1 := rfl; rw [zup_or (by omega), zkp_o (by omega)])) (fun K hQ hKq h6 h39 => ⟨_, _, K, (fun w => sp_setMarkR_3 (d := d + 9) hJ.b hx hy h6.1 h39 c0 c1 c2), zTy_i, (fun q hq => (by rw [zup_or (by omega), rm1_o (by omega) (by omega)])), rSc_id, ⟨by simp (disch := decide) only [zup_or], by simp (disch := decide) only [zup_or, zup_ne]⟩, ⟨by simp (disch := decide) only [zup_or, zup_ne, rm1_5], by simp (disch := decide) only [zup_or, zup_ne, rm1_5], by simp (disch := decide) only [zup_or, zup_ne, rm1_5]⟩, ⟨⟨⟨(by simp (disch := decide) only [zup_or, zup_ne, zkp_o, rm1_o, rm1_5, hKq]; exact h6M.1.1.1), (by simp (disch := decide) only [zup_or, zup_ne, zkp_o, rm1_o, rm1_5, hKq]; exact h6M.1.1.2)⟩, fun j hj => (by have e9 : zsz (zup (zkpM M zn1) (zn1 + 2) x.toNat y) zn1 = zsz M zn1 := (by unfold zsz; simp (disch := decide) only [zup_or, zkp_o]); rw [e9] at hj; have h9 : M 116 j = M (zn1 + 2) j := h6M.1.2 j hj; rw [zup_at, zup_at]; split; rfl; simp (disch := decide) only [zup_or, zup_ne, zkp_o, rm1_o, rm1_5, hKq]; exact h9)⟩, (rC_t (by simp (disch := decide) only [zup_or, zup_ne, zkp_o, rm1_o, rm1_5, hKq]) (by simp (disch := decide) only [zup_or, zup_ne, zkp_o, rm1_o, rm1_5, hKq]) (by simp (disch := decide) only [zup_or, zup_ne, zkp_o, rm1_o, rm1_5, hKq]) h6M.2.1), (rT_t (by simp (disch := decide) only [zup_or, zup_ne, zkp_o, rm1_o, rm1_5, hKq]) (by simp (disch := decide) only [zup_or, zup_ne, zkp_o, rm1_o, rm1_5, hKq]) (by simp (disch := decide) only [zup_or, zup_ne, zkp_o, rm1_o, rm1_5, hKq]) (by simp (disch := decide) only [zup_or, zup_ne, zkp_o, rm1_o, rm1_5, hKq]) (by simp (disch := decide) only [zup_or, zup_ne, zkp_o, rm1_o, rm1_5, hKq]) (by simp (disch := decide) only [zup_or, zup_ne, zkp_o, rm1_o, rm1_5, hKq]) (by simp (disch := decide) only [zup_or, zup_ne, zkp_o, rm1_o, rm1_5, hKq]) h6M.2.2.1), (rB_t (by simp (disch := decide) only [zup_or, zup_ne, zkp_o, rm1_o, rm1_5, hKq]) (by simp (disch := decide) only [zup_or, zup_ne, zkp_o, rm1_o, rm1_5, hKq]) (by simp (disch := decide) only [zup_or, zup_ne, zkp_o, rm1_o, rm1_5, hKq]) h6M.2.2.2.1), (rS_t (by simp (disch := decide) only [zup_or, zup_ne, zkp_o, rm1_o, rm1_5, hKq]) (by simp (disch := decide) only [zup_or, zup_ne, zkp_o, rm1_o, rm1_5, hKq]) (by simp (disch := decide) only [zup_or, zup_ne, zkp_o, rm1_o, rm1_5, hKq]) (by simp (disch := decide) only [zup_or, zup_ne, zkp_o, rm1_o, rm1_5, hKq]) (by simp (disch := decide) only [zup_or, zup_ne, zkp_o, rm1_o, rm1_5, hKq]) (by simp (disch := decide) only [zup_or, zup_ne, zkp_o, rm1_o, rm1_5, hKq]) (by simp (disch := decide) only [zup_or, zup_ne, zkp_o, rm1_o, rm1_5, hKq]) (by simp (disch := decide) only [zup_or, zup_ne, zkp_o, rm1_o, rm1_5, hKq]) h6M.2.2.2.2.1), (rL_t (by simp (disch := decide) only [zup_or, zup_ne, zkp_o, rm1_o, rm1_5, hKq]) (fun c hc => (by unfold zfreeN zfree at *; simp (disch := decide) only [zup_or, zup_ne, zkp_o] at hc; refine ⟨hc.1, hc.2.1, fun e => hc.2.2 ?_⟩; rw [zup_at]; split; (next h9 => exfalso; rw [h9] at e; exact hf.2.2 e); (simp (disch := decide) only [zkp_o]; exact e))) (by simp (disch := decide) only [zup_or, zup_ne, zkp_o, rm1_o, rm1_5, hKq]) (by simp (disch := decide) only [zup_or, zup_ne, zkp_o, rm1_o, rm1_5, hKq]) (by simp (disch := decide) only [zup_or, zup_ne, zkp_o, rm1_o, rm1_5, hKq]) (by simp (disch := decide) only [zup_or, zup_ne, zkp_o, rm1_o, rm1_5, hKq]) (by simp (disch := decide) only [zup_or, zup_ne, zkp_o, rm1_o, rm1_5, hKq]) (by simp (disch := decide) only [zup_or, zup_ne, zkp_o, rm1_o, rm1_5, hKq]) (by simp (disch := decide) only [zup_or, zup_ne, zkp_o, rm1_o, rm1_5, hKq]) (by simp (disch := decide) only [zup_or, zup_ne, zkp_o, rm1_o, rm1_5, hKq]) (by simp (disch := decide) only [zup_or, zup_ne, zkp_o, rm1_o, rm1_5, hKq]) h6M.2.2.2.2.2)⟩, fun _ => Or.inr ⟨(by simp (disch := decide) only [zup_or, zup_ne, rm1_0]), zq_i (by have h9 : M 116 x.toNat = M (zn1 + 2) x.toNat := h6M.1.2 _ (by have := hf.1; have : x < zsz M zn1 := hf.2.1; omega); simp (disch := decide) only [zkp_o, rm1_o, hKq]; exact h9.symm)⟩⟩))
theorem zj_setCost {xs : List Int32} {d : Nat} {n : Int} {M : zM} (hJ : zJo n M) (hn : n + 1 ≤ 600) {x y : Int} (hx : zr32 x) (hy : zr32 y) : zStep xs (d + 12) (d + 13) 76 [.ref 0, .int (Int32.ofInt x), .int (Int32.ofInt y)] 164 [.ref 115, .int (Int32.ofInt x), .int (Int32.ofInt y)] [(2, 1), (0, 2), (1, 3)] 0 True n M := by
  have hI := hJ.k.ci
  by_cases c0 : ¬ (0 ≤ x ∧ x < zsz M zn1)
  · exact zst_r hJ hn (fun w => ⟨_, sp_setCostP_0 (d := d + 8) hI hx hy  c0⟩) (zFo_e (by decide)) hJ.k (fun _ _ => rfl) (fun K hK h6 h39 h115 => ⟨_, _, (fun w => sp_setCostR_0 (d := d + 9) hJ.b hx hy h6.1 h39 c0), zTy_i, zup_or (by decide), rSc_z, fun _ => Or.inl ⟨_, 1, rfl, by decide, zup_i⟩⟩)
  by_cases c1 : ¬ (1 ≤ y ∧ y ≤ 9)
  · exact zst_r hJ hn (fun w => ⟨_, sp_setCostP_1 (d := d + 8) hI hx hy  c0 c1⟩) (zFo_e (by decide)) hJ.k (fun _ _ => rfl) (fun K hK h6 h39 h115 => ⟨_, _, (fun w => sp_setCostR_1 (d := d + 9) hJ.b hx hy h6.1 h39 c0 c1), zTy_i, zup_or (by decide), rSc_z, fun _ => Or.inl ⟨_, 2, rfl, by decide, zup_i⟩⟩)
  by_cases c2 : ¬ zfree M zn1 x
  · exact zst_r hJ hn (fun w => ⟨_, sp_setCostP_2 (d := d + 8) hI hx hy  c0 c1 c2⟩) (zFo_e (by decide)) hJ.k (fun _ _ => rfl) (fun K hK h6 h39 h115 => ⟨_, _, (fun w => sp_setCostR_2 (d := d + 9) hJ.b hx hy h6.1 h39 c0 c1 c2), zTy_i, zup_or (by decide), rSc_z, fun _ => Or.inl ⟨_, 3, rfl, by decide, zup_i⟩⟩)
  (have hf := Classical.not_not.mp c2; have h6M := hJ.a; exact zst_w (X := M) hJ (fun w => ⟨_, sp_setCostP_3 (d := d + 8) hI hx hy  c0 c1 c2⟩) (zFo_v zTy_i) (zki_cost (by omega) hJ.k hn) (fun _ _ => rfl) (fun q a b => (zup_or (show ¬ q = 4 by omega))) (by simp (disch := decide) only [zup_or, zkp_o]) (by simp (disch := decide) only [zup_or, zkp_o]) (by simp (disch := decide) only [zup_or, zkp_o]) (fun q a => (by have hz1 : zn1 = 1 := rfl; rw [zup_or (by omega), zkp_o (by omega)])) (fun K hQ hKq h6 h39 => ⟨_, _, K, (fun w => sp_setCostR_3 (d := d + 9) hJ.b hx hy h6.1 h39 c0 c1 c2), zTy_i, (fun q hq => (by rw [zup_or (by omega), rm1_o (by omega) (by omega)])), rSc_id, ⟨by simp (disch := decide) only [zup_or], by simp (disch := decide) only [zup_or, zup_ne]⟩, ⟨by simp (disch := decide) only [zup_or, zup_ne, rm1_5], by simp (disch := decide) only [zup_or, zup_ne, rm1_5], by simp (disch := decide) only [zup_or, zup_ne, rm1_5]⟩, ⟨(rA_t (by simp (disch := decide) only [zup_or, zup_ne, zkp_o, rm1_o, rm1_5, hKq]) (by simp (disch := decide) only [zup_or, zup_ne, zkp_o, rm1_o, rm1_5, hKq]) (by simp (disch := decide) only [zup_or, zup_ne, zkp_o, rm1_o, rm1_5, hKq]) (by simp (disch := decide) only [zup_or, zup_ne, zkp_o, rm1_o, rm1_5, hKq]) (by simp (disch := decide) only [zup_or, zup_ne, zkp_o, rm1_o, rm1_5, hKq]) h6M.1), (fun j hj => (by have e9 : zsz (zup (zkpM M zn1) (zn1 + 3) x.toNat y) zn1 = zsz M zn1 := (by unfold zsz; simp (disch := decide) only [zup_or, zkp_o]); rw [e9] at hj; have h9 : M 117 j = M (zn1 + 3) j := h6M.2.1 j hj; rw [zup_at, zup_at]; split; rfl; simp (disch := decide) only [zup_or, zup_ne, zkp_o, rm1_o, rm1_5, hKq]; exact h9)), (rT_t (by simp (disch := decide) only [zup_or, zup_ne, zkp_o, rm1_o, rm1_5, hKq]) (by simp (disch := decide) only [zup_or, zup_ne, zkp_o, rm1_o, rm1_5, hKq]) (by simp (disch := decide) only [zup_or, zup_ne, zkp_o, rm1_o, rm1_5, hKq]) (by simp (disch := decide) only [zup_or, zup_ne, zkp_o, rm1_o, rm1_5, hKq]) (by simp (disch := decide) only [zup_or, zup_ne, zkp_o, rm1_o, rm1_5, hKq]) (by simp (disch := decide) only [zup_or, zup_ne, zkp_o, rm1_o, rm1_5, hKq]) (by simp (disch := decide) only [zup_or, zup_ne, zkp_o, rm1_o, rm1_5, hKq]) h6M.2.2.1), (rB_t (by simp (disch := decide) only [zup_or, zup_ne, zkp_o, rm1_o, rm1_5, hKq]) (by simp (disch := decide) only [zup_or, zup_ne, zkp_o, rm1_o, rm1_5, hKq]) (by simp (disch := decide) only [zup_or, zup_ne, zkp_o, rm1_o, rm1_5, hKq]) h6M.2.2.2.1), (rS_t (by simp (disch := decide) only [zup_or, zup_ne, zkp_o, rm1_o, rm1_5, hKq]) (by simp (disch := decide) only [zup_or, zup_ne, zkp_o, rm1_o, rm1_5, hKq]) (by simp (disch := decide) only [zup_or, zup_ne, zkp_o, rm1_o, rm1_5, hKq]) (by simp (disch := decide) only [zup_or, zup_ne, zkp_o, rm1_o, rm1_5, hKq]) (by simp (disch := decide) only [zup_or, zup_ne, zkp_o, rm1_o, rm1_5, hKq]) (by simp (disch := decide) only [zup_or, zup_ne, zkp_o, rm1_o, rm1_5, hKq]) (by simp (disch := decide) only [zup_or, zup_ne, zkp_o, rm1_o, rm1_5, hKq]) (by simp (disch := decide) only [zup_or, zup_ne, zkp_o, rm1_o, rm1_5, hKq]) h6M.2.2.2.2.1), (rL_t (by simp (disch := decide) only [zup_or, zup_ne, zkp_o, rm1_o, rm1_5, hKq]) (fun c => zfr_t (by simp (disch := decide) only [zup_or, zup_ne, zkp_o, rm1_o, rm1_5, hKq]) (by simp (disch := decide) only [zup_or, zup_ne, zkp_o, rm1_o, rm1_5, hKq]) c) (by simp (disch := decide) only [zup_or, zup_ne, zkp_o, rm1_o, rm1_5, hKq]) (by simp (disch := decide) only [zup_or, zup_ne, zkp_o, rm1_o, rm1_5, hKq]) (by simp (disch := decide) only [zup_or, zup_ne, zkp_o, rm1_o, rm1_5, hKq]) (by simp (disch := decide) only [zup_or, zup_ne, zkp_o, rm1_o, rm1_5, hKq]) (by simp (disch := decide) only [zup_or, zup_ne, zkp_o, rm1_o, rm1_5, hKq]) (by simp (disch := decide) only [zup_or, zup_ne, zkp_o, rm1_o, rm1_5, hKq]) (by simp (disch := decide) only [zup_or, zup_ne, zkp_o, rm1_o, rm1_5, hKq]) (by simp (disch := decide) only [zup_or, zup_ne, zkp_o, rm1_o, rm1_5, hKq]) (by simp (disch := decide) only [zup_or, zup_ne, zkp_o, rm1_o, rm1_5, hKq]) h6M.2.2.2.2.2)⟩, fun _ => Or.inr ⟨(by simp (disch := decide) only [zup_or, zup_ne, rm1_0]), zq_i (by have h9 : M 117 x.toNat = M (zn1 + 3) x.toNat := h6M.2.1 _ (by have := hf.1; have : x < zsz M zn1 := hf.2.1; omega); simp (disch := decide) only [zkp_o, rm1_o, hKq]; exact h9.symm)⟩⟩))
theorem zj_carry {xs : List Int32} {d : Nat} {n : Int} {M : zM} (hJ : zJo n M) (hn : n + 1 ≤ 600) {x : Int} (hx : zr32 x) : zStep xs (d + 12) (d + 13) 106 [.ref 0, .int (Int32.ofInt x)] 206 [.ref 115, .int (Int32.ofInt x)] [(2, 1), (1, 2)] 0 True n M := by
  have hI := hJ.k.ci
  by_cases c0 : ¬ (0 ≤ x ∧ x < zsz M zn1)
  · exact zst_r hJ hn (fun w => ⟨_, sp_carryP_0 (d := d + 8) hI hx  c0⟩) (zFo_e (by decide)) hJ.k (fun _ _ => rfl) (fun K hK h6 h39 h115 => ⟨_, _, (fun w => sp_carryR_0 (d := d + 9) hJ.b hx h6.1 h39 c0), zTy_i, zup_or (by decide), rSc_z, fun _ => Or.inl ⟨_, 1, rfl, by decide, zup_i⟩⟩)
  by_cases c1 : ¬ zfree M zn1 x
  · exact zst_r hJ hn (fun w => ⟨_, sp_carryP_1 (d := d + 8) hI hx  c0 c1⟩) (zFo_e (by decide)) hJ.k (fun _ _ => rfl) (fun K hK h6 h39 h115 => ⟨_, _, (fun w => sp_carryR_1 (d := d + 9) hJ.b hx h6.1 h39 c0 c1), zTy_i, zup_or (by decide), rSc_z, fun _ => Or.inl ⟨_, 2, rfl, by decide, zup_i⟩⟩)
  (have h6M := hJ.a; exact zst_w (X := M) hJ (fun w => ⟨_, sp_carryP_2 (d := d + 8) hI hx  c0 c1⟩) (zFo_v zTy_i) (zki_carry (Classical.not_not.mp c1) hJ.k hn) (fun _ _ => rfl) (fun q a b => (zup_or (show ¬ q = 1 by omega))) (by simp (disch := decide) only [zup_or, zkp_o]) (by simp (disch := decide) only [zup_or, zkp_o]) (by simp (disch := decide) only [zup_or, zkp_o]) (fun q a => (by have hz1 : zn1 = 1 := rfl; rw [zup_or (by omega), zkp_o (by omega)])) (fun K hQ hKq h6 h39 => ⟨_, _, K, (fun w => sp_carryR_2 (d := d + 9) hJ.b hx h6.1 h39 c0 c1), zTy_i, (fun q hq => (by have h0 : ¬ q = 115 := (by omega); rw [zup_or h0, rm1_o h0 (by omega)])), rSc_id, ⟨by simp (disch := decide) only [zup_or], by simp (disch := decide) only [zup_or, zup_ne]⟩, ⟨by simp (disch := decide) only [zup_or, zup_ne, rm1_5], by simp (disch := decide) only [zup_or, zup_ne, rm1_5], by simp (disch := decide) only [zup_or, zup_ne, rm1_5]⟩, ⟨(rA_t (by simp (disch := decide) only [zup_or, zup_ne, zkp_o, rm1_o, rm1_5, hKq]) (by simp (disch := decide) only [zup_or, zup_ne, zkp_o, rm1_o, rm1_5, hKq]) (by simp (disch := decide) only [zup_or, zup_ne, zkp_o, rm1_o, rm1_5, hKq]) (by simp (disch := decide) only [zup_or, zup_ne, zkp_o, rm1_o, rm1_5, hKq]) (by simp (disch := decide) only [zup_or, zup_ne, zkp_o, rm1_o, rm1_5, hKq]) h6M.1), (rC_t (by simp (disch := decide) only [zup_or, zup_ne, zkp_o, rm1_o, rm1_5, hKq]) (by simp (disch := decide) only [zup_or, zup_ne, zkp_o, rm1_o, rm1_5, hKq]) (by simp (disch := decide) only [zup_or, zup_ne, zkp_o, rm1_o, rm1_5, hKq]) h6M.2.1), (rT_t (by simp (disch := decide) only [zup_or, zup_ne, zkp_o, rm1_o, rm1_5, hKq]) (by simp (disch := decide) only [zup_or, zup_ne, zkp_o, rm1_o, rm1_5, hKq]) (by simp (disch := decide) only [zup_or, zup_ne, zkp_o, rm1_o, rm1_5, hKq]) (by simp (disch := decide) only [zup_or, zup_ne, zkp_o, rm1_o, rm1_5, hKq]) (by simp (disch := decide) only [zup_or, zup_ne, zkp_o, rm1_o, rm1_5, hKq]) (by simp (disch := decide) only [zup_or, zup_ne, zkp_o, rm1_o, rm1_5, hKq]) (by simp (disch := decide) only [zup_or, zup_ne, zkp_o, rm1_o, rm1_5, hKq]) h6M.2.2.1), (rB_t (by simp (disch := decide) only [zup_or, zup_ne, zkp_o, rm1_o, rm1_5, hKq]) (by simp (disch := decide) only [zup_or, zup_ne, zkp_o, rm1_o, rm1_5, hKq]) (by simp (disch := decide) only [zup_or, zup_ne, zkp_o, rm1_o, rm1_5, hKq]) h6M.2.2.2.1), ⟨(by rw [zup_i]; exact zup_i.symm), (by simp (disch := decide) only [zup_or, zup_ne, zkp_o, rm1_o, rm1_5, hKq]; exact h6M.2.2.2.2.1.2.1), (by simp (disch := decide) only [zup_or, zup_ne, zkp_o, rm1_o, rm1_5, hKq]; exact h6M.2.2.2.2.1.2.2.1), (by simp (disch := decide) only [zup_or, zup_ne, zkp_o, rm1_o, rm1_5, hKq]; exact h6M.2.2.2.2.1.2.2.2)⟩, (rL_t (by simp (disch := decide) only [zup_or, zup_ne, zkp_o, rm1_o, rm1_5, hKq]) (fun c => zfr_t (by simp (disch := decide) only [zup_or, zup_ne, zkp_o, rm1_o, rm1_5, hKq]) (by simp (disch := decide) only [zup_or, zup_ne, zkp_o, rm1_o, rm1_5, hKq]) c) (by simp (disch := decide) only [zup_or, zup_ne, zkp_o, rm1_o, rm1_5, hKq]) (by simp (disch := decide) only [zup_or, zup_ne, zkp_o, rm1_o, rm1_5, hKq]) (by simp (disch := decide) only [zup_or, zup_ne, zkp_o, rm1_o, rm1_5, hKq]) (by simp (disch := decide) only [zup_or, zup_ne, zkp_o, rm1_o, rm1_5, hKq]) (by simp (disch := decide) only [zup_or, zup_ne, zkp_o, rm1_o, rm1_5, hKq]) (by simp (disch := decide) only [zup_or, zup_ne, zkp_o, rm1_o, rm1_5, hKq]) (by simp (disch := decide) only [zup_or, zup_ne, zkp_o, rm1_o, rm1_5, hKq]) (by simp (disch := decide) only [zup_or, zup_ne, zkp_o, rm1_o, rm1_5, hKq]) (by simp (disch := decide) only [zup_or, zup_ne, zkp_o, rm1_o, rm1_5, hKq]) h6M.2.2.2.2.2)⟩, fun _ => Or.inr ⟨(by simp (disch := decide) only [zup_ne, rm1_0]), zq_i (by simp (disch := decide) only [zkp_o, rm1_5, hKq]; exact h6M.2.2.2.2.1.1.symm)⟩⟩))
theorem zj_seed {xs : List Int32} {d : Nat} {n : Int} {M : zM} (hJ : zJo n M) (hn : n + 1 ≤ 600) {x : Int} (hx : zr32 x) : zStep xs (d + 13) (d + 13) 103 [.ref 0, .int (Int32.ofInt x)] 201 [.ref 115, .int (Int32.ofInt x)] [] 0 True n M := by
  have hI := hJ.k.ci
  (have h6M := hJ.a; exact zst_w (X := M) hJ (fun w => ⟨_, sp_seedP (d := d + 9) hI hx  ⟩) (zFo_v zTy_i) (zki_seed hJ.k hn) (fun _ _ => rfl) (fun q a b => (zup_or (show ¬ q = 1 by omega))) (by simp (disch := decide) only [zup_or, zkp_o]) (by simp (disch := decide) only [zup_or, zkp_o]) (by simp (disch := decide) only [zup_or, zkp_o]) (fun q a => (by have hz1 : zn1 = 1 := rfl; rw [zup_or (by omega), zkp_o (by omega)])) (fun K hQ hKq h6 h39 => ⟨_, _, K, (fun w => sp_seedR (d := d + 9) h39), zTy_i, (fun q hq => (by have h0 : ¬ q = 115 := (by omega); rw [zup_or h0, rm1_o h0 (by omega)])), rSc_id, ⟨by simp (disch := decide) only [zup_or], by simp (disch := decide) only [zup_or, zup_ne]⟩, ⟨by simp (disch := decide) only [zup_or, zup_ne, rm1_5], by simp (disch := decide) only [zup_or, zup_ne, rm1_5], by simp (disch := decide) only [zup_or, zup_ne, rm1_5]⟩, ⟨(rA_t (by simp (disch := decide) only [zup_or, zup_ne, zkp_o, rm1_o, rm1_5, hKq]) (by simp (disch := decide) only [zup_or, zup_ne, zkp_o, rm1_o, rm1_5, hKq]) (by simp (disch := decide) only [zup_or, zup_ne, zkp_o, rm1_o, rm1_5, hKq]) (by simp (disch := decide) only [zup_or, zup_ne, zkp_o, rm1_o, rm1_5, hKq]) (by simp (disch := decide) only [zup_or, zup_ne, zkp_o, rm1_o, rm1_5, hKq]) h6M.1), (rC_t (by simp (disch := decide) only [zup_or, zup_ne, zkp_o, rm1_o, rm1_5, hKq]) (by simp (disch := decide) only [zup_or, zup_ne, zkp_o, rm1_o, rm1_5, hKq]) (by simp (disch := decide) only [zup_or, zup_ne, zkp_o, rm1_o, rm1_5, hKq]) h6M.2.1), (rT_t (by simp (disch := decide) only [zup_or, zup_ne, zkp_o, rm1_o, rm1_5, hKq]) (by simp (disch := decide) only [zup_or, zup_ne, zkp_o, rm1_o, rm1_5, hKq]) (by simp (disch := decide) only [zup_or, zup_ne, zkp_o, rm1_o, rm1_5, hKq]) (by simp (disch := decide) only [zup_or, zup_ne, zkp_o, rm1_o, rm1_5, hKq]) (by simp (disch := decide) only [zup_or, zup_ne, zkp_o, rm1_o, rm1_5, hKq]) (by simp (disch := decide) only [zup_or, zup_ne, zkp_o, rm1_o, rm1_5, hKq]) (by simp (disch := decide) only [zup_or, zup_ne, zkp_o, rm1_o, rm1_5, hKq]) h6M.2.2.1), (rB_t (by simp (disch := decide) only [zup_or, zup_ne, zkp_o, rm1_o, rm1_5, hKq]) (by simp (disch := decide) only [zup_or, zup_ne, zkp_o, rm1_o, rm1_5, hKq]) (by simp (disch := decide) only [zup_or, zup_ne, zkp_o, rm1_o, rm1_5, hKq]) h6M.2.2.2.1), ⟨(by simp (disch := decide) only [zup_or, zup_ne, zkp_o, rm1_o, rm1_5, hKq]; exact h6M.2.2.2.2.1.1), (by rw [zup_i]; exact zup_i.symm), (by simp (disch := decide) only [zup_or, zup_ne, zkp_o, rm1_o, rm1_5, hKq]; exact h6M.2.2.2.2.1.2.2.1), (by simp (disch := decide) only [zup_or, zup_ne, zkp_o, rm1_o, rm1_5, hKq]; exact h6M.2.2.2.2.1.2.2.2)⟩, (rL_t (by simp (disch := decide) only [zup_or, zup_ne, zkp_o, rm1_o, rm1_5, hKq]) (fun c => zfr_t (by simp (disch := decide) only [zup_or, zup_ne, zkp_o, rm1_o, rm1_5, hKq]) (by simp (disch := decide) only [zup_or, zup_ne, zkp_o, rm1_o, rm1_5, hKq]) c) (by simp (disch := decide) only [zup_or, zup_ne, zkp_o, rm1_o, rm1_5, hKq]) (by simp (disch := decide) only [zup_or, zup_ne, zkp_o, rm1_o, rm1_5, hKq]) (by simp (disch := decide) only [zup_or, zup_ne, zkp_o, rm1_o, rm1_5, hKq]) (by simp (disch := decide) only [zup_or, zup_ne, zkp_o, rm1_o, rm1_5, hKq]) (by simp (disch := decide) only [zup_or, zup_ne, zkp_o, rm1_o, rm1_5, hKq]) (by simp (disch := decide) only [zup_or, zup_ne, zkp_o, rm1_o, rm1_5, hKq]) (by simp (disch := decide) only [zup_or, zup_ne, zkp_o, rm1_o, rm1_5, hKq]) (by simp (disch := decide) only [zup_or, zup_ne, zkp_o, rm1_o, rm1_5, hKq]) (by simp (disch := decide) only [zup_or, zup_ne, zkp_o, rm1_o, rm1_5, hKq]) h6M.2.2.2.2.2)⟩, fun _ => Or.inr ⟨(by simp (disch := decide) only [zup_ne, rm1_0]), zq_i (by simp (disch := decide) only [zkp_o, rm1_5, hKq]; exact h6M.2.2.2.2.1.2.1.symm)⟩⟩))
theorem zj_setRate {xs : List Int32} {d : Nat} {n : Int} {M : zM} (hJ : zJo n M) (hn : n + 1 ≤ 600) {x : Int} (hx : zr32 x) : zStep xs (d + 12) (d + 13) 79 [.ref 0, .int (Int32.ofInt x)] 167 [.ref 115, .int (Int32.ofInt x)] [(0, 1)] 0 True n M := by
  have hI := hJ.k.ci
  by_cases c0 : ¬ (0 ≤ x ∧ x ≤ 100)
  · exact zst_r hJ hn (fun w => ⟨_, sp_setRateP_0 (d := d + 8) hI hx  c0⟩) (zFo_e (by decide)) hJ.k (fun _ _ => rfl) (fun K hK h6 h39 h115 => ⟨_, _, (fun w => sp_setRateR_0 (d := d + 9) hx h39 c0), zTy_i, zup_or (by decide), rSc_z, fun _ => Or.inl ⟨_, 1, rfl, by decide, zup_i⟩⟩)
  (have h6M := hJ.a; exact zst_w (X := M) hJ (fun w => ⟨_, sp_setRateP_1 (d := d + 8) hI hx  c0⟩) (zFo_v zTy_i) (zki_rate (by omega) hJ.k hn) (fun _ _ => rfl) (fun q a b => (zup_or (show ¬ q = 6 by omega))) (by simp (disch := decide) only [zup_or, zkp_o]) (by simp (disch := decide) only [zup_or, zkp_o]) (by simp (disch := decide) only [zup_or, zkp_o]) (fun q a => (by have hz1 : zn1 = 1 := rfl; rw [zup_or (by omega), zkp_o (by omega)])) (fun K hQ hKq h6 h39 => ⟨_, _, K, (fun w => sp_setRateR_1 (d := d + 9) hx h39 c0), zTy_i, (fun q hq => (by have h0 : ¬ q = 115 := (by omega); rw [zup_or h0, rm1_o h0 (by omega)])), rSc_id, ⟨by simp (disch := decide) only [zup_or], by simp (disch := decide) only [zup_or, zup_ne]⟩, ⟨by simp (disch := decide) only [zup_or, zup_ne, rm1_5], by simp (disch := decide) only [zup_or, zup_ne, rm1_5], by simp (disch := decide) only [zup_or, zup_ne, rm1_5]⟩, ⟨(rA_t (by simp (disch := decide) only [zup_or, zup_ne, zkp_o, rm1_o, rm1_5, hKq]) (by simp (disch := decide) only [zup_or, zup_ne, zkp_o, rm1_o, rm1_5, hKq]) (by simp (disch := decide) only [zup_or, zup_ne, zkp_o, rm1_o, rm1_5, hKq]) (by simp (disch := decide) only [zup_or, zup_ne, zkp_o, rm1_o, rm1_5, hKq]) (by simp (disch := decide) only [zup_or, zup_ne, zkp_o, rm1_o, rm1_5, hKq]) h6M.1), (rC_t (by simp (disch := decide) only [zup_or, zup_ne, zkp_o, rm1_o, rm1_5, hKq]) (by simp (disch := decide) only [zup_or, zup_ne, zkp_o, rm1_o, rm1_5, hKq]) (by simp (disch := decide) only [zup_or, zup_ne, zkp_o, rm1_o, rm1_5, hKq]) h6M.2.1), ⟨⟨(by rw [zup_i]; exact zup_i.symm), (by simp (disch := decide) only [zup_or, zup_ne, zkp_o, rm1_o, rm1_5, hKq]; exact h6M.2.2.1.1.2)⟩, fun j hj => (by simp (disch := decide) only [zup_or, zup_ne, zkp_o, rm1_o, rm1_5, hKq]; exact h6M.2.2.1.2.1 j hj), fun j hj => (by simp (disch := decide) only [zup_or, zup_ne, zkp_o, rm1_o, rm1_5, hKq]; exact h6M.2.2.1.2.2 j hj)⟩, (rB_t (by simp (disch := decide) only [zup_or, zup_ne, zkp_o, rm1_o, rm1_5, hKq]) (by simp (disch := decide) only [zup_or, zup_ne, zkp_o, rm1_o, rm1_5, hKq]) (by simp (disch := decide) only [zup_or, zup_ne, zkp_o, rm1_o, rm1_5, hKq]) h6M.2.2.2.1), (rS_t (by simp (disch := decide) only [zup_or, zup_ne, zkp_o, rm1_o, rm1_5, hKq]) (by simp (disch := decide) only [zup_or, zup_ne, zkp_o, rm1_o, rm1_5, hKq]) (by simp (disch := decide) only [zup_or, zup_ne, zkp_o, rm1_o, rm1_5, hKq]) (by simp (disch := decide) only [zup_or, zup_ne, zkp_o, rm1_o, rm1_5, hKq]) (by simp (disch := decide) only [zup_or, zup_ne, zkp_o, rm1_o, rm1_5, hKq]) (by simp (disch := decide) only [zup_or, zup_ne, zkp_o, rm1_o, rm1_5, hKq]) (by simp (disch := decide) only [zup_or, zup_ne, zkp_o, rm1_o, rm1_5, hKq]) (by simp (disch := decide) only [zup_or, zup_ne, zkp_o, rm1_o, rm1_5, hKq]) h6M.2.2.2.2.1), (rL_t (by simp (disch := decide) only [zup_or, zup_ne, zkp_o, rm1_o, rm1_5, hKq]) (fun c => zfr_t (by simp (disch := decide) only [zup_or, zup_ne, zkp_o, rm1_o, rm1_5, hKq]) (by simp (disch := decide) only [zup_or, zup_ne, zkp_o, rm1_o, rm1_5, hKq]) c) (by simp (disch := decide) only [zup_or, zup_ne, zkp_o, rm1_o, rm1_5, hKq]) (by simp (disch := decide) only [zup_or, zup_ne, zkp_o, rm1_o, rm1_5, hKq]) (by simp (disch := decide) only [zup_or, zup_ne, zkp_o, rm1_o, rm1_5, hKq]) (by simp (disch := decide) only [zup_or, zup_ne, zkp_o, rm1_o, rm1_5, hKq]) (by simp (disch := decide) only [zup_or, zup_ne, zkp_o, rm1_o, rm1_5, hKq]) (by simp (disch := decide) only [zup_or, zup_ne, zkp_o, rm1_o, rm1_5, hKq]) (by simp (disch := decide) only [zup_or, zup_ne, zkp_o, rm1_o, rm1_5, hKq]) (by simp (disch := decide) only [zup_or, zup_ne, zkp_o, rm1_o, rm1_5, hKq]) (by simp (disch := decide) only [zup_or, zup_ne, zkp_o, rm1_o, rm1_5, hKq]) h6M.2.2.2.2.2)⟩, fun _ => Or.inr ⟨(by simp (disch := decide) only [zup_ne, rm1_0]), zq_i (by simp (disch := decide) only [zkp_o, rm1_5, hKq]; exact h6M.2.2.1.1.1.symm)⟩⟩))
theorem zj_setLimit {xs : List Int32} {d : Nat} {n : Int} {M : zM} (hJ : zJo n M) (hn : n + 1 ≤ 600) {x : Int} (hx : zr32 x) : zStep xs (d + 12) (d + 13) 80 [.ref 0, .int (Int32.ofInt x)] 168 [.ref 115, .int (Int32.ofInt x)] [(0, 1)] 0 True n M := by
  have hI := hJ.k.ci
  by_cases c0 : ¬ (0 ≤ x ∧ x ≤ 100)
  · exact zst_r hJ hn (fun w => ⟨_, sp_setLimitP_0 (d := d + 8) hI hx  c0⟩) (zFo_e (by decide)) hJ.k (fun _ _ => rfl) (fun K hK h6 h39 h115 => ⟨_, _, (fun w => sp_setLimitR_0 (d := d + 9) hx h39 c0), zTy_i, zup_or (by decide), rSc_z, fun _ => Or.inl ⟨_, 1, rfl, by decide, zup_i⟩⟩)
  (have h6M := hJ.a; exact zst_w (X := M) hJ (fun w => ⟨_, sp_setLimitP_1 (d := d + 8) hI hx  c0⟩) (zFo_v zTy_i) (zki_limit (by omega) hJ.k hn) (fun _ _ => rfl) (fun q a b => (zup_or (show ¬ q = 6 by omega))) (by simp (disch := decide) only [zup_or, zkp_o]) (by simp (disch := decide) only [zup_or, zkp_o]) (by simp (disch := decide) only [zup_or, zkp_o]) (fun q a => (by have hz1 : zn1 = 1 := rfl; rw [zup_or (by omega), zkp_o (by omega)])) (fun K hQ hKq h6 h39 => ⟨_, _, K, (fun w => sp_setLimitR_1 (d := d + 9) hx h39 c0), zTy_i, (fun q hq => (by have h0 : ¬ q = 115 := (by omega); rw [zup_or h0, rm1_o h0 (by omega)])), rSc_id, ⟨by simp (disch := decide) only [zup_or], by simp (disch := decide) only [zup_or, zup_ne]⟩, ⟨by simp (disch := decide) only [zup_or, zup_ne, rm1_5], by simp (disch := decide) only [zup_or, zup_ne, rm1_5], by simp (disch := decide) only [zup_or, zup_ne, rm1_5]⟩, ⟨(rA_t (by simp (disch := decide) only [zup_or, zup_ne, zkp_o, rm1_o, rm1_5, hKq]) (by simp (disch := decide) only [zup_or, zup_ne, zkp_o, rm1_o, rm1_5, hKq]) (by simp (disch := decide) only [zup_or, zup_ne, zkp_o, rm1_o, rm1_5, hKq]) (by simp (disch := decide) only [zup_or, zup_ne, zkp_o, rm1_o, rm1_5, hKq]) (by simp (disch := decide) only [zup_or, zup_ne, zkp_o, rm1_o, rm1_5, hKq]) h6M.1), (rC_t (by simp (disch := decide) only [zup_or, zup_ne, zkp_o, rm1_o, rm1_5, hKq]) (by simp (disch := decide) only [zup_or, zup_ne, zkp_o, rm1_o, rm1_5, hKq]) (by simp (disch := decide) only [zup_or, zup_ne, zkp_o, rm1_o, rm1_5, hKq]) h6M.2.1), ⟨⟨(by simp (disch := decide) only [zup_or, zup_ne, zkp_o, rm1_o, rm1_5, hKq]; exact h6M.2.2.1.1.1), (by rw [zup_i]; exact zup_i.symm)⟩, fun j hj => (by simp (disch := decide) only [zup_or, zup_ne, zkp_o, rm1_o, rm1_5, hKq]; exact h6M.2.2.1.2.1 j hj), fun j hj => (by simp (disch := decide) only [zup_or, zup_ne, zkp_o, rm1_o, rm1_5, hKq]; exact h6M.2.2.1.2.2 j hj)⟩, (rB_t (by simp (disch := decide) only [zup_or, zup_ne, zkp_o, rm1_o, rm1_5, hKq]) (by simp (disch := decide) only [zup_or, zup_ne, zkp_o, rm1_o, rm1_5, hKq]) (by simp (disch := decide) only [zup_or, zup_ne, zkp_o, rm1_o, rm1_5, hKq]) h6M.2.2.2.1), (rS_t (by simp (disch := decide) only [zup_or, zup_ne, zkp_o, rm1_o, rm1_5, hKq]) (by simp (disch := decide) only [zup_or, zup_ne, zkp_o, rm1_o, rm1_5, hKq]) (by simp (disch := decide) only [zup_or, zup_ne, zkp_o, rm1_o, rm1_5, hKq]) (by simp (disch := decide) only [zup_or, zup_ne, zkp_o, rm1_o, rm1_5, hKq]) (by simp (disch := decide) only [zup_or, zup_ne, zkp_o, rm1_o, rm1_5, hKq]) (by simp (disch := decide) only [zup_or, zup_ne, zkp_o, rm1_o, rm1_5, hKq]) (by simp (disch := decide) only [zup_or, zup_ne, zkp_o, rm1_o, rm1_5, hKq]) (by simp (disch := decide) only [zup_or, zup_ne, zkp_o, rm1_o, rm1_5, hKq]) h6M.2.2.2.2.1), (rL_t (by simp (disch := decide) only [zup_or, zup_ne, zkp_o, rm1_o, rm1_5, hKq]) (fun c => zfr_t (by simp (disch := decide) only [zup_or, zup_ne, zkp_o, rm1_o, rm1_5, hKq]) (by simp (disch := decide) only [zup_or, zup_ne, zkp_o, rm1_o, rm1_5, hKq]) c) (by simp (disch := decide) only [zup_or, zup_ne, zkp_o, rm1_o, rm1_5, hKq]) (by simp (disch := decide) only [zup_or, zup_ne, zkp_o, rm1_o, rm1_5, hKq]) (by simp (disch := decide) only [zup_or, zup_ne, zkp_o, rm1_o, rm1_5, hKq]) (by simp (disch := decide) only [zup_or, zup_ne, zkp_o, rm1_o, rm1_5, hKq]) (by simp (disch := decide) only [zup_or, zup_ne, zkp_o, rm1_o, rm1_5, hKq]) (by simp (disch := decide) only [zup_or, zup_ne, zkp_o, rm1_o, rm1_5, hKq]) (by simp (disch := decide) only [zup_or, zup_ne, zkp_o, rm1_o, rm1_5, hKq]) (by simp (disch := decide) only [zup_or, zup_ne, zkp_o, rm1_o, rm1_5, hKq]) (by simp (disch := decide) only [zup_or, zup_ne, zkp_o, rm1_o, rm1_5, hKq]) h6M.2.2.2.2.2)⟩, fun _ => Or.inr ⟨(by simp (disch := decide) only [zup_ne, rm1_0]), zq_i (by simp (disch := decide) only [zkp_o, rm1_5, hKq]; exact h6M.2.2.1.1.2.symm)⟩⟩))
theorem zj_setMotion {xs : List Int32} {d : Nat} {n : Int} {M : zM} (hJ : zJo n M) (hn : n + 1 ≤ 600) {x y v : Int} (hx : zr32 x) (hy : zr32 y) (hv : zr32 v) : zStep xs (d + 12) (d + 13) 77 [.ref 0, .int (Int32.ofInt x), .int (Int32.ofInt y), .int (Int32.ofInt v)] 165 [.ref 115, .int (Int32.ofInt x), .int (Int32.ofInt y), .int (Int32.ofInt v)] [(0, 1)] 0 True n M := by
  have hI := hJ.k.ci
  by_cases c0 : ¬ (0 ≤ x ∧ x ≤ 16) ∨ ¬ (0 ≤ y ∧ y ≤ 16) ∨ ¬ (0 ≤ v ∧ v ≤ 16) ∨ 16 < x + y + v
  · exact zst_r hJ hn (fun w => ⟨_, sp_setMotionP_0 (d := d + 8) hI hx hy hv  c0⟩) (zFo_e (by decide)) hJ.k (fun _ _ => rfl) (fun K hK h6 h39 h115 => ⟨_, _, (fun w => sp_setMotionR_0 (d := d + 9) hx hy hv h39 c0), zTy_i, zup_or (by decide), rSc_z, fun _ => Or.inl ⟨_, 1, rfl, by decide, zup_i⟩⟩)
  (have h6M := hJ.a; exact zst_w (X := M) hJ (fun w => ⟨_, sp_setMotionP_1 (d := d + 8) hI hx hy hv  c0⟩) (zFo_v zTy_i) (zki_motion hJ.k hn (by omega) (by omega) (by omega) (by omega)) (fun _ _ => rfl) (fun q a b => (by have h9 : ¬ q = 7 := (by omega); exact (zup_or h9).trans ((zup_or h9).trans ((zup_or h9).trans (zup_or h9))))) (by simp (disch := decide) only [zup_or, zkp_o]) (by simp (disch := decide) only [zup_or, zkp_o]) (by simp (disch := decide) only [zup_or, zkp_o]) (fun q a => (by have h0 : ¬ q = 7 := (by omega); exact ((zup_or h0).trans ((zup_or h0).trans ((zup_or h0).trans (zup_or h0)))).trans (zkp_o (by omega)))) (fun K hQ hKq h6 h39 => ⟨_, _, K, (fun w => sp_setMotionR_1 (d := d + 9) hx hy hv h39 c0), zTy_i, (fun q hq => (by have h0 : ¬ q = 118 := (by omega); rw [zup_or h0, zup_or h0, zup_or h0, zup_or h0, rm1_o (by omega) (by omega)])), rSc_id, ⟨by simp (disch := decide) only [zup_or], by simp (disch := decide) only [zup_or, zup_ne]⟩, ⟨by simp (disch := decide) only [zup_or, zup_ne, rm1_5], by simp (disch := decide) only [zup_or, zup_ne, rm1_5], by simp (disch := decide) only [zup_or, zup_ne, rm1_5]⟩, ⟨(rA_t (by simp (disch := decide) only [zup_or, zup_ne, zkp_o, rm1_o, rm1_5, hKq]) (by simp (disch := decide) only [zup_or, zup_ne, zkp_o, rm1_o, rm1_5, hKq]) (by simp (disch := decide) only [zup_or, zup_ne, zkp_o, rm1_o, rm1_5, hKq]) (by simp (disch := decide) only [zup_or, zup_ne, zkp_o, rm1_o, rm1_5, hKq]) (by simp (disch := decide) only [zup_or, zup_ne, zkp_o, rm1_o, rm1_5, hKq]) h6M.1), (rC_t (by simp (disch := decide) only [zup_or, zup_ne, zkp_o, rm1_o, rm1_5, hKq]) (by simp (disch := decide) only [zup_or, zup_ne, zkp_o, rm1_o, rm1_5, hKq]) (by simp (disch := decide) only [zup_or, zup_ne, zkp_o, rm1_o, rm1_5, hKq]) h6M.2.1), ⟨⟨(by simp (disch := decide) only [zup_or, zup_ne, zkp_o, rm1_o, rm1_5, hKq]; exact h6M.2.2.1.1.1), (by simp (disch := decide) only [zup_or, zup_ne, zkp_o, rm1_o, rm1_5, hKq]; exact h6M.2.2.1.1.2)⟩, fun j hj => (by rw [zup_at, zup_at, zup_at, zup_at, zup_at, zup_at, zup_at, zup_at]; split; rfl; split; rfl; split; rfl; split; rfl; omega), fun j hj => (by simp (disch := decide) only [zup_or, zup_ne, zkp_o, rm1_o, rm1_5, hKq]; exact h6M.2.2.1.2.2 j hj)⟩, (rB_t (by simp (disch := decide) only [zup_or, zup_ne, zkp_o, rm1_o, rm1_5, hKq]) (by simp (disch := decide) only [zup_or, zup_ne, zkp_o, rm1_o, rm1_5, hKq]) (by simp (disch := decide) only [zup_or, zup_ne, zkp_o, rm1_o, rm1_5, hKq]) h6M.2.2.2.1), (rS_t (by simp (disch := decide) only [zup_or, zup_ne, zkp_o, rm1_o, rm1_5, hKq]) (by simp (disch := decide) only [zup_or, zup_ne, zkp_o, rm1_o, rm1_5, hKq]) (by simp (disch := decide) only [zup_or, zup_ne, zkp_o, rm1_o, rm1_5, hKq]) (by simp (disch := decide) only [zup_or, zup_ne, zkp_o, rm1_o, rm1_5, hKq]) (by simp (disch := decide) only [zup_or, zup_ne, zkp_o, rm1_o, rm1_5, hKq]) (by simp (disch := decide) only [zup_or, zup_ne, zkp_o, rm1_o, rm1_5, hKq]) (by simp (disch := decide) only [zup_or, zup_ne, zkp_o, rm1_o, rm1_5, hKq]) (by simp (disch := decide) only [zup_or, zup_ne, zkp_o, rm1_o, rm1_5, hKq]) h6M.2.2.2.2.1), (rL_t (by simp (disch := decide) only [zup_or, zup_ne, zkp_o, rm1_o, rm1_5, hKq]) (fun c => zfr_t (by simp (disch := decide) only [zup_or, zup_ne, zkp_o, rm1_o, rm1_5, hKq]) (by simp (disch := decide) only [zup_or, zup_ne, zkp_o, rm1_o, rm1_5, hKq]) c) (by simp (disch := decide) only [zup_or, zup_ne, zkp_o, rm1_o, rm1_5, hKq]) (by simp (disch := decide) only [zup_or, zup_ne, zkp_o, rm1_o, rm1_5, hKq]) (by simp (disch := decide) only [zup_or, zup_ne, zkp_o, rm1_o, rm1_5, hKq]) (by simp (disch := decide) only [zup_or, zup_ne, zkp_o, rm1_o, rm1_5, hKq]) (by simp (disch := decide) only [zup_or, zup_ne, zkp_o, rm1_o, rm1_5, hKq]) (by simp (disch := decide) only [zup_or, zup_ne, zkp_o, rm1_o, rm1_5, hKq]) (by simp (disch := decide) only [zup_or, zup_ne, zkp_o, rm1_o, rm1_5, hKq]) (by simp (disch := decide) only [zup_or, zup_ne, zkp_o, rm1_o, rm1_5, hKq]) (by simp (disch := decide) only [zup_or, zup_ne, zkp_o, rm1_o, rm1_5, hKq]) h6M.2.2.2.2.2)⟩, fun _ => Or.inr ⟨(by simp (disch := decide) only [zup_or, zup_ne, rm1_0]), zq_i rfl⟩⟩))
theorem zj_setSensor {xs : List Int32} {d : Nat} {n : Int} {M : zM} (hJ : zJo n M) (hn : n + 1 ≤ 600) {x y v : Int} (hx : zr32 x) (hy : zr32 y) (hv : zr32 v) : zStep xs (d + 12) (d + 13) 78 [.ref 0, .int (Int32.ofInt x), .int (Int32.ofInt y), .int (Int32.ofInt v)] 166 [.ref 115, .int (Int32.ofInt x), .int (Int32.ofInt y), .int (Int32.ofInt v)] [(2, 1), (0, 2)] 0 True n M := by
  have hI := hJ.k.ci
  by_cases c0 : ¬ (0 ≤ x ∧ x < 4) ∨ ¬ (0 ≤ y ∧ y < 4)
  · exact zst_r hJ hn (fun w => ⟨_, sp_setSensorP_0 (d := d + 8) hI hx hy hv  c0⟩) (zFo_e (by decide)) hJ.k (fun _ _ => rfl) (fun K hK h6 h39 h115 => ⟨_, _, (fun w => sp_setSensorR_0 (d := d + 9) hx hy hv h39 c0), zTy_i, zup_or (by decide), rSc_z, fun _ => Or.inl ⟨_, 1, rfl, by decide, zup_i⟩⟩)
  by_cases c1 : ¬ (0 ≤ v ∧ v ≤ 100)
  · exact zst_r hJ hn (fun w => ⟨_, sp_setSensorP_1 (d := d + 8) hI hx hy hv  c0 c1⟩) (zFo_e (by decide)) hJ.k (fun _ _ => rfl) (fun K hK h6 h39 h115 => ⟨_, _, (fun w => sp_setSensorR_1 (d := d + 9) hx hy hv h39 c0 c1), zTy_i, zup_or (by decide), rSc_z, fun _ => Or.inl ⟨_, 2, rfl, by decide, zup_i⟩⟩)
  (have h6M := hJ.a; exact zst_w (X := M) hJ (fun w => ⟨_, sp_setSensorP_2 (d := d + 8) hI hx hy hv  c0 c1⟩) (zFo_v zTy_i) (zki_sensor (by omega) hJ.k hn) (fun _ _ => rfl) (fun q a b => (zup_or (show ¬ q = 8 by omega))) (by simp (disch := decide) only [zup_or, zkp_o]) (by simp (disch := decide) only [zup_or, zkp_o]) (by simp (disch := decide) only [zup_or, zkp_o]) (fun q a => (by have hz1 : zn1 = 1 := rfl; rw [zup_or (by omega), zkp_o (by omega)])) (fun K hQ hKq h6 h39 => ⟨_, _, K, (fun w => sp_setSensorR_2 (d := d + 9) hx hy hv h39 c0 c1), zTy_i, (fun q hq => (by rw [zup_or (by omega), rm1_o (by omega) (by omega)])), rSc_id, ⟨by simp (disch := decide) only [zup_or], by simp (disch := decide) only [zup_or, zup_ne]⟩, ⟨by simp (disch := decide) only [zup_or, zup_ne, rm1_5], by simp (disch := decide) only [zup_or, zup_ne, rm1_5], by simp (disch := decide) only [zup_or, zup_ne, rm1_5]⟩, ⟨(rA_t (by simp (disch := decide) only [zup_or, zup_ne, zkp_o, rm1_o, rm1_5, hKq]) (by simp (disch := decide) only [zup_or, zup_ne, zkp_o, rm1_o, rm1_5, hKq]) (by simp (disch := decide) only [zup_or, zup_ne, zkp_o, rm1_o, rm1_5, hKq]) (by simp (disch := decide) only [zup_or, zup_ne, zkp_o, rm1_o, rm1_5, hKq]) (by simp (disch := decide) only [zup_or, zup_ne, zkp_o, rm1_o, rm1_5, hKq]) h6M.1), (rC_t (by simp (disch := decide) only [zup_or, zup_ne, zkp_o, rm1_o, rm1_5, hKq]) (by simp (disch := decide) only [zup_or, zup_ne, zkp_o, rm1_o, rm1_5, hKq]) (by simp (disch := decide) only [zup_or, zup_ne, zkp_o, rm1_o, rm1_5, hKq]) h6M.2.1), ⟨⟨(by simp (disch := decide) only [zup_or, zup_ne, zkp_o, rm1_o, rm1_5, hKq]; exact h6M.2.2.1.1.1), (by simp (disch := decide) only [zup_or, zup_ne, zkp_o, rm1_o, rm1_5, hKq]; exact h6M.2.2.1.1.2)⟩, fun j hj => (by simp (disch := decide) only [zup_or, zup_ne, zkp_o, rm1_o, rm1_5, hKq]; exact h6M.2.2.1.2.1 j hj), fun j hj => (by have h9 : M 119 j = M (zn1 + 7) j := h6M.2.2.1.2.2 j hj; rw [zup_at, zup_at, show (4 * x + y).toNat = (x * 4 + y).toNat by omega]; split; rfl; simp (disch := decide) only [zup_or, zup_ne, zkp_o, rm1_o, rm1_5, hKq]; exact h9)⟩, (rB_t (by simp (disch := decide) only [zup_or, zup_ne, zkp_o, rm1_o, rm1_5, hKq]) (by simp (disch := decide) only [zup_or, zup_ne, zkp_o, rm1_o, rm1_5, hKq]) (by simp (disch := decide) only [zup_or, zup_ne, zkp_o, rm1_o, rm1_5, hKq]) h6M.2.2.2.1), (rS_t (by simp (disch := decide) only [zup_or, zup_ne, zkp_o, rm1_o, rm1_5, hKq]) (by simp (disch := decide) only [zup_or, zup_ne, zkp_o, rm1_o, rm1_5, hKq]) (by simp (disch := decide) only [zup_or, zup_ne, zkp_o, rm1_o, rm1_5, hKq]) (by simp (disch := decide) only [zup_or, zup_ne, zkp_o, rm1_o, rm1_5, hKq]) (by simp (disch := decide) only [zup_or, zup_ne, zkp_o, rm1_o, rm1_5, hKq]) (by simp (disch := decide) only [zup_or, zup_ne, zkp_o, rm1_o, rm1_5, hKq]) (by simp (disch := decide) only [zup_or, zup_ne, zkp_o, rm1_o, rm1_5, hKq]) (by simp (disch := decide) only [zup_or, zup_ne, zkp_o, rm1_o, rm1_5, hKq]) h6M.2.2.2.2.1), (rL_t (by simp (disch := decide) only [zup_or, zup_ne, zkp_o, rm1_o, rm1_5, hKq]) (fun c => zfr_t (by simp (disch := decide) only [zup_or, zup_ne, zkp_o, rm1_o, rm1_5, hKq]) (by simp (disch := decide) only [zup_or, zup_ne, zkp_o, rm1_o, rm1_5, hKq]) c) (by simp (disch := decide) only [zup_or, zup_ne, zkp_o, rm1_o, rm1_5, hKq]) (by simp (disch := decide) only [zup_or, zup_ne, zkp_o, rm1_o, rm1_5, hKq]) (by simp (disch := decide) only [zup_or, zup_ne, zkp_o, rm1_o, rm1_5, hKq]) (by simp (disch := decide) only [zup_or, zup_ne, zkp_o, rm1_o, rm1_5, hKq]) (by simp (disch := decide) only [zup_or, zup_ne, zkp_o, rm1_o, rm1_5, hKq]) (by simp (disch := decide) only [zup_or, zup_ne, zkp_o, rm1_o, rm1_5, hKq]) (by simp (disch := decide) only [zup_or, zup_ne, zkp_o, rm1_o, rm1_5, hKq]) (by simp (disch := decide) only [zup_or, zup_ne, zkp_o, rm1_o, rm1_5, hKq]) (by simp (disch := decide) only [zup_or, zup_ne, zkp_o, rm1_o, rm1_5, hKq]) h6M.2.2.2.2.2)⟩, fun _ => Or.inr ⟨(by simp (disch := decide) only [zup_or, zup_ne, rm1_0]), zq_i (by have h9 : M 119 (x * 4 + y).toNat = M (zn1 + 7) (x * 4 + y).toNat := h6M.2.2.1.2.2 _ (by omega); rw [show (4 * x + y).toNat = (x * 4 + y).toNat by omega]; simp (disch := decide) only [zkp_o, rm1_o, hKq]; exact h9.symm)⟩⟩))
end
noncomputable section
/-! Both: what is read. -/
theorem zK4 {n : Int} {M : zM} (h : zJo n M) : n ≤ 600 := h.k.n.2
/-- what exact weights and paths need -/
theorem zpathX {n : Int} {M : zM} (h : zKI n M) : zDa M zn1 ∧ (∀ k : Nat, (k : Int) < zmi (ztot M zn1) 8 → zEr (zwe M zn1 k 109)) ∧ (∀ j : Nat, j < 36 → zr64 (zweM M zn1 109 j)) ∧ (∀ j : Nat, (j : Int) < zmi (ztot M zn1) 8 → zRb (zwrM M zn1 (zmi (ztot M zn1) 8) j) zn1 (zmi (ztot M zn1) 8 - 1 - (j : Int))) ∧ zRr (zRM M zn1) ∧ (∀ i : Int, 0 ≤ i → i < zmi (ztot M zn1) 8 → zRb (zRM M zn1) zn1 i) := by
  have hm := zmi8 (h.b.t0)
  have hk8 := zkm8 h
  have hE : ∀ j, zE5 (zwrM M zn1 (zmi (ztot M zn1) 8) j) M zn1 := fun j q hq => zwrM_o (by omega) j
  have hb := fun j hj => zwr_b hzn1 h.b h.x.rs j hj
  refine ⟨h.b.da, fun k hk => zwe_er hzn1 h.b h.x.er (by omega), fun j hj => ?_, fun j hj => zRs_rb hzn1 h.b (hE j) (hb j (by omega)) (by omega), zRs_rr (hb _ (by omega)), fun i h0 h1 => zRs_rb hzn1 h.b (hE _) (hb _ (by omega)) ⟨h0, h1⟩⟩
  have h1 := zwe_er hzn1 h.b h.x.er (k := (zmi (ztot M zn1) 8).toNat) (by omega) j hj
  unfold zr64
  unfold zweM
  omega
theorem zR6.tt {C K : zM} (h : zR6 C K) : rtt K = ztot C zn1 := by
  unfold rtt ztot
  rw [h.2.2.2.2.2.1.1, h.2.2.2.2.2.1.2.1]
theorem zwall_ex {n : Int} {M : zM} (hB : zBI n M zn1) {x : Int} (hx : 0 ≤ x ∧ x < zsz M zn1) (hf : ¬ zfree M zn1 x) : zcount (zexF M zn1 x) 4 = 0 := by
  have h : ∀ j : Nat, j < 4 → ¬ zexF M zn1 x j := fun j hj e => by
    refine e ?_
    rw [hB.b1.2.2.1 _ (by omega), zcn_at (e := (j : Int)) hx.1 (by omega) rfl]
    exact zjn_f1 hf
  show zcount (zexF M zn1 x) (0 + 1 + 1 + 1 + 1) = 0
  show 0 + zb (zexF M zn1 x 0) + zb (zexF M zn1 x (0 + 1)) + zb (zexF M zn1 x (0 + 1 + 1)) + zb (zexF M zn1 x (0 + 1 + 1 + 1)) = 0
  rw [zb_f (h 0 (by decide)), zb_f (h 1 (by decide)), zb_f (h 2 (by decide)), zb_f (h 3 (by decide))]
  rfl
theorem zmo_rwb {M K : zM} (h : zR6 M K) {x y v : Int} {k : Int} : zmo M zn1 x y v = rwb M (zup K 115 0 k) 118 0 x y v := by
  refine zsum_c _ (fun j hj => ?_)
  unfold zmoF rwF
  rw [zup_or (by decide), show (0 + (j : Int)).toNat = j by omega, h.2.2.1.2.1 j hj]
theorem zj_errorPosition {xs : List Int32} {d : Nat} {n : Int} {M : zM} (hJ : zJo n M) (hn : n + 1 ≤ 600) : zStep xs (d + 13) (d + 13) 73 [.ref 0] 161 [.ref 115] [] 0 True n M := by
  have hI := hJ.k.ci
  exact zst_r hJ hn (fun w => ⟨_, sp_errorPositionP (d := d + 12) hI   ⟩) (zFo_v zTy_i) hJ.k (fun _ _ => rfl) (fun K hK h6 h39 h115 => ⟨_, _, (fun w => sp_errorPositionR (d := d + 12)), zTy_i, zup_or (by decide), rSc_z, fun _ => Or.inr ⟨zup_i, zq_i (by rw [h115]; exact hJ.x.1.2.2.symm)⟩⟩)
theorem zj_rover {xs : List Int32} {d : Nat} {n : Int} {M : zM} (hJ : zJo n M) (hn : n + 1 ≤ 600) : zStep xs (d + 13) (d + 13) 107 [.ref 0] 207 [.ref 115] [] 0 True n M := by
  have hI := hJ.k.ci
  exact zst_r hJ hn (fun w => ⟨_, sp_roverP (d := d + 12) hI   ⟩) (zFo_v zTy_i) hJ.k (fun _ _ => rfl) (fun K hK h6 h39 h115 => ⟨_, _, (fun w => sp_roverR (d := d + 12)), zTy_i, zup_or (by decide), rSc_z, fun _ => Or.inr ⟨zup_i, zq_i h6.2.2.2.2.1.1.symm⟩⟩)
theorem zj_belief {xs : List Int32} {d : Nat} {n : Int} {M : zM} (hJ : zJo n M) (hn : n + 1 ≤ 600) {x : Int} (hx : zr32 x) : zStep xs (d + 12) (d + 13) 88 [.ref 0, .int (Int32.ofInt x)] 176 [.ref 115, .int (Int32.ofInt x)] [(2, 1)] 0 True n M := by
  have hI := hJ.k.ci
  by_cases c0 : ¬ (0 ≤ x ∧ x < zsz M zn1)
  · exact zst_r hJ hn (fun w => ⟨_, sp_beliefP_0 (d := d + 9) hI hx  c0⟩) (zFo_e (by decide)) hJ.k (fun _ _ => rfl) (fun K hK h6 h39 h115 => ⟨_, _, (fun w => sp_beliefR_0 (d := d + 10) hJ.b hx h6.1 c0), zTy_i, zup_or (by decide), rSc_z, fun _ => Or.inl ⟨_, 1, rfl, by decide, zup_i⟩⟩)
  exact zst_r hJ hn (fun w => ⟨_, sp_beliefP_1 (d := d + 9) hI hx  c0⟩) (zFo_v zTy_i) hJ.k (fun _ _ => rfl) (fun K hK h6 h39 h115 => ⟨_, _, (fun w => sp_beliefR_1 (d := d + 10) hJ.b hx h6.1 c0), zTy_i, zup_or (by decide), rSc_z, fun _ => Or.inr ⟨zup_i, zq_i (h6.2.2.2.1 x.toNat (by omega)).symm⟩⟩)
theorem zj_steps {xs : List Int32} {d : Nat} {n : Int} {M : zM} (hJ : zJo n M) (hn : n + 1 ≤ 600) {x : Int} (hx : zr32 x) : zStep xs (d + 12) (d + 13) 94 [.ref 0, .int (Int32.ofInt x)] 185 [.ref 115, .int (Int32.ofInt x)] [(0, 1)] 0 True n M := by
  have hI := hJ.k.ci
  by_cases c0 : ¬ (0 ≤ x ∧ x < 3)
  · exact zst_r hJ hn (fun w => ⟨_, sp_stepsP_0 (d := d + 10) hI hx  c0⟩) (zFo_e (by decide)) hJ.k (fun _ _ => rfl) (fun K hK h6 h39 h115 => ⟨_, _, (fun w => sp_stepsR_0 (d := d + 11) hx c0), zTy_i, zup_or (by decide), rSc_z, fun _ => Or.inl ⟨_, 1, rfl, by decide, zup_i⟩⟩)
  by_cases c1 : x = 0
  · exact zst_r hJ hn (fun w => ⟨_, sp_stepsP_1 (d := d + 10) hI hx  c0 c1⟩) (zFo_v zTy_i) hJ.k (fun _ _ => rfl) (fun K hK h6 h39 h115 => ⟨_, _, (fun w => sp_stepsR_1 (d := d + 11) hx c0 c1), zTy_i, zup_or (by decide), rSc_z, fun _ => Or.inr ⟨zup_i, zq_i h6.tt.symm⟩⟩)
  by_cases c2 : x = 1
  · exact zst_r hJ hn (fun w => ⟨_, sp_stepsP_2 (d := d + 10) hI hx  c0 c1 c2⟩) (zFo_v zTy_i) hJ.k (fun _ _ => rfl) (fun K hK h6 h39 h115 => ⟨_, _, (fun w => sp_stepsR_2 (d := d + 11) hx c0 c1 c2), zTy_i, zup_or (by decide), rSc_z, fun _ => Or.inr ⟨zup_i, zq_i h6.2.2.2.2.2.1.1.symm⟩⟩)
  exact zst_r hJ hn (fun w => ⟨_, sp_stepsP_3 (d := d + 10) hI hx  c0 c1 c2⟩) (zFo_v zTy_i) hJ.k (fun _ _ => rfl) (fun K hK h6 h39 h115 => ⟨_, _, (fun w => sp_stepsR_3 (d := d + 11) hx c0 c1 c2), zTy_i, zup_or (by decide), rSc_z, fun _ => Or.inr ⟨zup_i, zq_i h6.2.2.2.2.2.1.2.1.symm⟩⟩)
theorem zj_step {xs : List Int32} {d : Nat} {n : Int} {M : zM} (hJ : zJo n M) (hn : n + 1 ≤ 600) {x : Int} (hx : zr32 x) : zStep xs (d + 12) (d + 13) 95 [.ref 0, .int (Int32.ofInt x)] 187 [.ref 115, .int (Int32.ofInt x)] [(3, 1)] 0 True n M := by
  have hI := hJ.k.ci
  by_cases c0 : ¬ (0 ≤ x ∧ x < ztot M zn1 ∧ ztot M zn1 ≤ 8)
  · exact zst_r hJ hn (fun w => ⟨_, sp_stepP_0 (d := d + 10) hI hx  c0⟩) (zFo_e (by decide)) hJ.k (fun _ _ => rfl) (fun K hK h6 h39 h115 => ⟨_, _, (fun w => sp_stepR_0 (d := d + 11) hx (by have h9 := h6.tt; have h8 := hJ.b.t0; have h7 := hJ.b.b4.2.1; have h5 : ztot M zn1 = M (zn1 + 8) 1 + M (zn1 + 8) 2 := rfl; have h4 := zK4 hJ; omega) (by rw [h6.tt]; exact c0)), zTy_i, zup_or (by decide), rSc_z, fun _ => Or.inl ⟨_, 1, rfl, by decide, zup_i⟩⟩)
  exact zst_r hJ hn (fun w => ⟨_, sp_stepP_1 (d := d + 10) hI hx  c0⟩) (zFo_v zTy_i) hJ.k (fun _ _ => rfl) (fun K hK h6 h39 h115 => ⟨_, _, (fun w => sp_stepR_1 (d := d + 11) hx (by have h9 := h6.tt; have h8 := hJ.b.t0; have h7 := hJ.b.b4.2.1; have h5 : ztot M zn1 = M (zn1 + 8) 1 + M (zn1 + 8) 2 := rfl; have h4 := zK4 hJ; omega) (by rw [h6.tt]; exact c0)), zTy_i, zup_or (by decide), rSc_z, fun _ => Or.inr ⟨zup_i, zq_i (by have h9 : zmi (ztot M zn1) 8 = ztot M zn1 := if_pos (by omega); exact (h6.2.2.2.2.2.2 x.toNat (by omega)).1.symm)⟩⟩)
theorem zj_count {xs : List Int32} {d : Nat} {n : Int} {M : zM} (hJ : zJo n M) (hn : n + 1 ≤ 600) {x : Int} (hx : zr32 x) : zStep xs (d + 12) (d + 13) 108 [.ref 0, .int (Int32.ofInt x)] 208 [.ref 115, .int (Int32.ofInt x)] [(0, 1)] 0 True n M := by
  have hI := hJ.k.ci
  by_cases c0 : ¬ (0 ≤ x ∧ x < 7)
  · exact zst_r hJ hn (fun w => ⟨_, sp_countP_0 (d := d + 9) hI hx  c0⟩) (zFo_e (by decide)) hJ.k (fun _ _ => rfl) (fun K hK h6 h39 h115 => ⟨_, _, (fun w => sp_countR_0 (d := d + 9) hJ.b hx h6.1 c0), zTy_i, zup_or (by decide), rSc_z, fun _ => Or.inl ⟨_, 1, rfl, by decide, zup_i⟩⟩)
  by_cases c1 : x = 0
  · exact zst_r hJ hn (fun w => ⟨_, sp_countP_1 (d := d + 9) hI hx  c0 c1⟩) (zFo_v zTy_i) hJ.k (fun _ _ => rfl) (fun K hK h6 h39 h115 => ⟨_, _, (fun w => sp_countR_1 (d := d + 9) hJ.b hx h6.1 c0 c1), zTy_i, zup_or (by decide), rSc_z, fun _ => Or.inr ⟨zup_i, zq_i h6.1.1.1.symm⟩⟩)
  by_cases c2 : x = 1
  · exact zst_r hJ hn (fun w => ⟨_, sp_countP_2 (d := d + 9) hI hx  c0 c1 c2⟩) (zFo_v zTy_i) hJ.k (fun _ _ => rfl) (fun K hK h6 h39 h115 => ⟨_, _, (fun w => sp_countR_2 (d := d + 9) hJ.b hx h6.1 c0 c1 c2), zTy_i, zup_or (by decide), rSc_z, fun _ => Or.inr ⟨zup_i, zq_i h6.1.1.2.symm⟩⟩)
  by_cases c3 : x = 2
  · exact zst_r hJ hn (fun w => ⟨_, sp_countP_3 (d := d + 9) hI hx  c0 c1 c2 c3⟩) (zFo_v zTy_i) hJ.k (fun _ _ => rfl) (fun K hK h6 h39 h115 => ⟨_, _, (fun w => sp_countR_3 (d := d + 9) hJ.b hx h6.1 c0 c1 c2 c3), zTy_i, zup_or (by decide), rSc_z, fun _ => Or.inr ⟨zup_i, zq_i rfl⟩⟩)
  by_cases c4 : x = 3
  · exact zst_r hJ hn (fun w => ⟨_, sp_countP_4 (d := d + 9) hI hx  c0 c1 c2 c3 c4⟩) (zFo_v zTy_i) hJ.k (fun _ _ => rfl) (fun K hK h6 h39 h115 => ⟨_, _, (fun w => sp_countR_4 (d := d + 9) hJ.b hx h6.1 c0 c1 c2 c3 c4), zTy_i, zup_or (by decide), rSc_z, fun _ => Or.inr ⟨zup_i, zq_i h6.2.2.2.2.1.2.2.1.symm⟩⟩)
  by_cases c5 : x = 4
  · exact zst_r hJ hn (fun w => ⟨_, sp_countP_5 (d := d + 9) hI hx  c0 c1 c2 c3 c4 c5⟩) (zFo_v zTy_i) hJ.k (fun _ _ => rfl) (fun K hK h6 h39 h115 => ⟨_, _, (fun w => sp_countR_5 (d := d + 9) hJ.b hx h6.1 c0 c1 c2 c3 c4 c5), zTy_i, zup_or (by decide), rSc_z, fun _ => Or.inr ⟨zup_i, zq_i h6.2.2.2.2.1.2.2.2.symm⟩⟩)
  by_cases c6 : x = 5
  · exact zst_r hJ hn (fun w => ⟨_, sp_countP_6 (d := d + 9) hI hx  c0 c1 c2 c3 c4 c5 c6⟩) (zFo_v zTy_i) hJ.k (fun _ _ => rfl) (fun K hK h6 h39 h115 => ⟨_, _, (fun w => sp_countR_6 (d := d + 9) hJ.b hx h6.1 c0 c1 c2 c3 c4 c5 c6), zTy_i, zup_or (by decide), rSc_z, fun _ => Or.inr ⟨zup_i, zq_i (by rw [h115]; exact hJ.x.2.1.symm)⟩⟩)
  exact zst_r hJ hn (fun w => ⟨_, sp_countP_7 (d := d + 9) hI hx  c0 c1 c2 c3 c4 c5 c6⟩) (zFo_v zTy_i) hJ.k (fun _ _ => rfl) (fun K hK h6 h39 h115 => ⟨_, _, (fun w => sp_countR_7 (d := d + 9) hJ.b hx h6.1 c0 c1 c2 c3 c4 c5 c6), zTy_i, zup_or (by decide), rSc_z, fun _ => Or.inr ⟨zup_i, zq_i (by rw [h115]; exact hJ.x.1.1.symm)⟩⟩)
theorem zj_map {xs : List Int32} {d : Nat} {n : Int} {M : zM} (hJ : zJo n M) (hn : n + 1 ≤ 600) {x : Int} (hx : zr32 x) : zStep xs (d + 12) (d + 13) 83 [.ref 0, .int (Int32.ofInt x)] 171 [.ref 115, .int (Int32.ofInt x)] [(2, 1)] 0 True n M := by
  have hI := hJ.k.ci
  by_cases c0 : x < -1 ∨ M (zn1 + 1) 1 * (M (zn1 + 1) 0 + 1) - 1 ≤ x
  · exact zst_r hJ hn (fun w => ⟨_, sp_mapP_0 (d := d + 8) hI hx  c0⟩) (zFo_e (by decide)) hJ.k (fun _ _ => rfl) (fun K hK h6 h39 h115 => ⟨_, _, (fun w => sp_mapR_0 (d := d + 11) hJ.b hx h6.1 c0), zTy_i, zup_or (by decide), rSc_z, fun _ => Or.inl ⟨_, 1, rfl, by decide, zup_i⟩⟩)
  by_cases c1 : x = -1
  · exact zst_r hJ hn (fun w => ⟨_, sp_mapP_1 (d := d + 8) hI hx  c0 c1⟩) (zFo_v zTy_i) hJ.k (fun _ _ => rfl) (fun K hK h6 h39 h115 => ⟨_, _, (fun w => sp_mapR_1 (d := d + 11) hJ.b hx h6.1 c0 c1), zTy_i, zup_or (by decide), rSc_z, fun _ => Or.inr ⟨zup_i, zq_i rfl⟩⟩)
  exact zst_r hJ hn (fun w => ⟨_, sp_mapP_2 (d := d + 8) hI hx  c0 c1⟩) (zFo_v zTy_i) hJ.k (fun _ _ => rfl) (fun K hK h6 h39 h115 => ⟨_, _, (fun w => sp_mapR_2 (d := d + 11) hJ.b hx h6.1 c0 c1), zTy_i, zup_or (by decide), rSc_z, fun _ => Or.inr ⟨zup_i, zq_i rfl⟩⟩)
theorem zj_cell {xs : List Int32} {d : Nat} {n : Int} {M : zM} (hJ : zJo n M) (hn : n + 1 ≤ 600) {x y : Int} (hx : zr32 x) (hy : zr32 y) : zStep xs (d + 12) (d + 13) 81 [.ref 0, .int (Int32.ofInt x), .int (Int32.ofInt y)] 169 [.ref 115, .int (Int32.ofInt x), .int (Int32.ofInt y)] [(2, 1), (0, 2)] 0 True n M := by
  have hI := hJ.k.ci
  by_cases c0 : ¬ (0 ≤ x ∧ x < zsz M zn1)
  · exact zst_r hJ hn (fun w => ⟨_, sp_cellP_0 (d := d + 9) hI hx hy  c0⟩) (zFo_e (by decide)) hJ.k (fun _ _ => rfl) (fun K hK h6 h39 h115 => ⟨_, _, (fun w => sp_cellR_0 (d := d + 9) hJ.b hx hy h6.1 h6.2.1 c0), zTy_i, zup_or (by decide), rSc_z, fun _ => Or.inl ⟨_, 1, rfl, by decide, zup_i⟩⟩)
  by_cases c1 : ¬ (0 ≤ y ∧ y < 4)
  · exact zst_r hJ hn (fun w => ⟨_, sp_cellP_1 (d := d + 9) hI hx hy  c0 c1⟩) (zFo_e (by decide)) hJ.k (fun _ _ => rfl) (fun K hK h6 h39 h115 => ⟨_, _, (fun w => sp_cellR_1 (d := d + 9) hJ.b hx hy h6.1 h6.2.1 c0 (by omega)), zTy_i, zup_or (by decide), rSc_z, fun _ => Or.inl ⟨_, 2, rfl, by decide, zup_i⟩⟩)
  by_cases c2 : y = 0
  · by_cases hf : zfree M zn1 x
    · exact zst_r hJ hn (fun w => ⟨_, sp_cellP_2 (d := d + 9) hI hx hy  c0 c1 c2⟩) (zFo_v zTy_i) hJ.k (fun _ _ => rfl) (fun K hK h6 h39 h115 => ⟨_, _, (fun w => sp_cellR_3 (d := d + 9) hJ.b hx hy h6.1 h6.2.1 c0 (by omega) (fun e => e hf)), zTy_i, zup_or (by decide), rSc_z, fun _ => Or.inr ⟨zup_i, zq_i (by unfold rce; rw [if_pos c2]; exact zb_f (fun e => e hf))⟩⟩)
    · exact zst_r hJ hn (fun w => ⟨_, sp_cellP_2 (d := d + 9) hI hx hy  c0 c1 c2⟩) (zFo_v zTy_i) hJ.k (fun _ _ => rfl) (fun K hK h6 h39 h115 => ⟨_, _, (fun w => sp_cellR_2 (d := d + 9) hJ.b hx hy h6.1 h6.2.1 c0 (by omega) hf), zTy_i, zup_or (by decide), rSc_z, fun _ => Or.inr ⟨zup_i, zq_i ((zb_t hf).trans (zb_t c2).symm)⟩⟩)
  by_cases c3 : y = 1
  · by_cases hf : zfree M zn1 x
    · exact zst_r hJ hn (fun w => ⟨_, sp_cellP_3 (d := d + 9) hI hx hy  c0 c1 c2 c3⟩) (zFo_v zTy_i) hJ.k (fun _ _ => rfl) (fun K hK h6 h39 h115 => ⟨_, _, (fun w => sp_cellR_3 (d := d + 9) hJ.b hx hy h6.1 h6.2.1 c0 (by omega) (fun e => e hf)), zTy_i, zup_or (by decide), rSc_z, fun _ => Or.inr ⟨zup_i, zq_i (by unfold rce; rw [if_neg c2, if_pos c3])⟩⟩)
    · exact zst_r hJ hn (fun w => ⟨_, sp_cellP_3 (d := d + 9) hI hx hy  c0 c1 c2 c3⟩) (zFo_v zTy_i) hJ.k (fun _ _ => rfl) (fun K hK h6 h39 h115 => ⟨_, _, (fun w => sp_cellR_2 (d := d + 9) hJ.b hx hy h6.1 h6.2.1 c0 (by omega) hf), zTy_i, zup_or (by decide), rSc_z, fun _ => Or.inr ⟨zup_i, zq_i (by rw [zb_f c2]; unfold zmark; exact if_neg hf)⟩⟩)
  by_cases c4 : y = 2
  · by_cases hf : zfree M zn1 x
    · exact zst_r hJ hn (fun w => ⟨_, sp_cellP_4 (d := d + 9) hI hx hy  c0 c1 c2 c3 c4⟩) (zFo_v zTy_i) hJ.k (fun _ _ => rfl) (fun K hK h6 h39 h115 => ⟨_, _, (fun w => sp_cellR_3 (d := d + 9) hJ.b hx hy h6.1 h6.2.1 c0 (by omega) (fun e => e hf)), zTy_i, zup_or (by decide), rSc_z, fun _ => Or.inr ⟨zup_i, zq_i (by unfold rce zcst; rw [if_neg c2, if_neg c3, if_pos c4, if_pos hf])⟩⟩)
    · exact zst_r hJ hn (fun w => ⟨_, sp_cellP_4 (d := d + 9) hI hx hy  c0 c1 c2 c3 c4⟩) (zFo_v zTy_i) hJ.k (fun _ _ => rfl) (fun K hK h6 h39 h115 => ⟨_, _, (fun w => sp_cellR_2 (d := d + 9) hJ.b hx hy h6.1 h6.2.1 c0 (by omega) hf), zTy_i, zup_or (by decide), rSc_z, fun _ => Or.inr ⟨zup_i, zq_i (by rw [zb_f c2]; unfold zcst; exact if_neg hf)⟩⟩)
  by_cases hf : zfree M zn1 x
  · exact zst_r hJ hn (fun w => ⟨_, sp_cellP_5 (d := d + 9) hI hx hy  c0 c1 c2 c3 c4⟩) (zFo_v zTy_i) hJ.k (fun _ _ => rfl) (fun K hK h6 h39 h115 => ⟨_, _, (fun w => sp_cellR_3 (d := d + 9) hJ.b hx hy h6.1 h6.2.1 c0 (by omega) (fun e => e hf)), zTy_i, zup_or (by decide), rSc_z, fun _ => Or.inr ⟨zup_i, zq_i (by unfold rce; rw [if_neg c2, if_neg c3, if_neg c4])⟩⟩)
  · exact zst_r hJ hn (fun w => ⟨_, sp_cellP_5 (d := d + 9) hI hx hy  c0 c1 c2 c3 c4⟩) (zFo_v zTy_i) hJ.k (fun _ _ => rfl) (fun K hK h6 h39 h115 => ⟨_, _, (fun w => sp_cellR_2 (d := d + 9) hJ.b hx hy h6.1 h6.2.1 c0 (by omega) hf), zTy_i, zup_or (by decide), rSc_z, fun _ => Or.inr ⟨zup_i, zq_i (by rw [zb_f c2]; exact zwall_ex hJ.b (by omega) hf)⟩⟩)
theorem zj_motion {xs : List Int32} {d : Nat} {n : Int} {M : zM} (hJ : zJo n M) (hn : n + 1 ≤ 600) {x y v : Int} (hx : zr32 x) (hy : zr32 y) (hv : zr32 v) : zStep xs (d + 12) (d + 13) 82 [.ref 0, .int (Int32.ofInt x), .int (Int32.ofInt y), .int (Int32.ofInt v)] 170 [.ref 115, .int (Int32.ofInt x), .int (Int32.ofInt y), .int (Int32.ofInt v)] [(2, 1), (0, 2)] 0 True n M := by
  have hI := hJ.k.ci
  by_cases c0 : ¬ (0 ≤ x ∧ x < zsz M zn1)
  · exact zst_r hJ hn (fun w => ⟨_, sp_motionP_0 (d := d + 9) hI hx hy hv  c0⟩) (zFo_e (by decide)) hJ.k (fun _ _ => rfl) (fun K hK h6 h39 h115 => ⟨_, _, (fun w => sp_motionR_0 (d := d + 8) hJ.b hx hy hv h6.1 (Or.inl c0)), zTy_i, zup_or (by decide), rSc_z, fun _ => Or.inl ⟨_, 1, rfl, by decide, zup_i⟩⟩)
  by_cases c1 : ¬ (0 ≤ y ∧ y < zsz M zn1)
  · exact zst_r hJ hn (fun w => ⟨_, sp_motionP_1 (d := d + 9) hI hx hy hv  c0 c1⟩) (zFo_e (by decide)) hJ.k (fun _ _ => rfl) (fun K hK h6 h39 h115 => ⟨_, _, (fun w => sp_motionR_0 (d := d + 8) hJ.b hx hy hv h6.1 (Or.inr c1)), zTy_i, zup_or (by decide), rSc_z, fun _ => Or.inl ⟨_, 1, rfl, by decide, zup_i⟩⟩)
  by_cases c2 : ¬ (0 ≤ v ∧ v < 4)
  · exact zst_r hJ hn (fun w => ⟨_, sp_motionP_2 (d := d + 9) hI hx hy hv  c0 c1 c2⟩) (zFo_e (by decide)) hJ.k (fun _ _ => rfl) (fun K hK h6 h39 h115 => ⟨_, _, (fun w => sp_motionR_1 (d := d + 8) hJ.b hx hy hv h6.1 (by omega) c2), zTy_i, zup_or (by decide), rSc_z, fun _ => Or.inl ⟨_, 2, rfl, by decide, zup_i⟩⟩)
  by_cases c3 : ¬ (zfree M zn1 x ∧ zfree M zn1 y)
  · exact zst_r hJ hn (fun w => ⟨_, sp_motionP_3 (d := d + 9) hI hx hy hv  c0 c1 c2 c3⟩) (zFo_v zTy_i) hJ.k (fun _ _ => rfl) (fun K hK h6 h39 h115 => ⟨_, _, (fun w => sp_motionR_2 (d := d + 8) hJ.b hx hy hv h6.1 (by omega) c2 c3), zTy_i, zup_or (by decide), rSc_z, fun _ => Or.inr ⟨zup_i, zq_i rfl⟩⟩)
  exact zst_r hJ hn (fun w => ⟨_, sp_motionP_4 (d := d + 9) hI hx hy hv  c0 c1 c2 c3⟩) (zFo_v zTy_i) hJ.k (fun _ _ => rfl) (fun K hK h6 h39 h115 => ⟨_, _, (fun w => sp_motionR_3 (d := d + 8) hJ.b hx hy hv h6.1 (by omega) c2 c3), zTy_i, zup_or (by decide), rSc_z, fun _ => Or.inr ⟨zup_i, zq_i (zmo_rwb h6)⟩⟩)
theorem zj_ranked {xs : List Int32} {d : Nat} {n : Int} {M : zM} (hJ : zJo n M) (hn : n + 1 ≤ 600) {x : Int} (hx : zr32 x) : zStep xs (d + 12) (d + 13) 89 [.ref 0, .int (Int32.ofInt x)] 179 [.ref 115, .int (Int32.ofInt x)] [(2, 1)] 0 True n M := by
  have hI := hJ.k.ci
  by_cases c0 : ¬ (0 ≤ x ∧ x < zsz M zn1)
  · exact zst_r hJ hn (fun w => ⟨_, sp_rankedP_0 (d := d + 9) hI hx  c0⟩) (zFo_e (by decide)) hJ.k (fun _ _ => rfl) (fun K hK h6 h39 h115 => ⟨_, _, (fun w => sp_rankedR_0 (d := d + 9) hJ.b hx h6.1 h6.2.2.2.1 c0), zTy_i, zup_or (by decide), rSc_z, fun _ => Or.inl ⟨_, 1, rfl, by decide, zup_i⟩⟩)
  exact zst_r hJ hn (fun w => ⟨_, sp_rankedP_1 (d := d + 9) hI hx  c0⟩) (zFo_v zTy_i) (zki_rank hJ.k) (fun q hq => zrkM_o (by omega) (by omega)) (fun K hK h6 h39 h115 => ⟨_, _, (fun w => sp_rankedR_1 (d := d + 9) hJ.b hx h6.1 h6.2.2.2.1 c0), zTy_i, zup_or (by decide), rSc_z, fun _ => Or.inr ⟨zup_i, zq_i rfl⟩⟩)
theorem zj_core {xs : List Int32} {d : Nat} {n : Int} {M : zM} (hJ : zJo n M) (hn : n + 1 ≤ 600) {x : Int} (hx : zr32 x) : zStep xs (d + 12) (d + 13) 90 [.ref 0, .int (Int32.ofInt x)] 180 [.ref 115, .int (Int32.ofInt x)] [(0, 1)] 0 True n M := by
  have hI := hJ.k.ci
  by_cases c0 : ¬ (1 ≤ x ∧ x ≤ 100)
  · exact zst_r hJ hn (fun w => ⟨_, sp_coreP_0 (d := d + 9) hI hx  c0⟩) (zFo_e (by decide)) hJ.k (fun _ _ => rfl) (fun K hK h6 h39 h115 => ⟨_, _, (fun w => sp_coreR_0 (d := d + 9) hJ.b hx h6.1 h6.2.2.2.1 c0), zTy_i, zup_or (by decide), rSc_z, fun _ => Or.inl ⟨_, 1, rfl, by decide, zup_i⟩⟩)
  exact zst_r hJ hn (fun w => ⟨_, sp_coreP_1 (d := d + 9) hI hx  c0⟩) (zFo_v zTy_i) (zki_rank hJ.k) (fun q hq => zrkM_o (by omega) (by omega)) (fun K hK h6 h39 h115 => ⟨_, _, (fun w => sp_coreR_1 (d := d + 9) hJ.b hx h6.1 h6.2.2.2.1 c0), zTy_i, zup_or (by decide), rSc_z, fun _ => Or.inr ⟨zup_i, zq_i rfl⟩⟩)
theorem zj_doubtBits {xs : List Int32} {d : Nat} {n : Int} {M : zM} (hJ : zJo n M) (hn : n + 1 ≤ 600) : zStep xs (d + 13) (d + 13) 91 [.ref 0] 181 [.ref 115] [] 1 False n M := by
  have hI := hJ.k.ci
  exact zst_r hJ hn (fun w => ⟨_, sp_doubtBitsP (d := d + 11) hI   ⟩) (zFo_v zTy_j) hJ.k (fun _ _ => rfl) (fun K hK h6 h39 h115 => ⟨_, _, (fun w => sp_doubtBitsR (d := d + 10) hJ.b  h6.1 h6.2.2.2.1 ), zTy_j, zup_or (by decide), rSc_z, fun h => h.elim⟩)
theorem zj_shareBits {xs : List Int32} {d : Nat} {n : Int} {M : zM} (hJ : zJo n M) (hn : n + 1 ≤ 600) : zStep xs (d + 13) (d + 13) 92 [.ref 0] 182 [.ref 115] [] 0 False n M := by
  have hI := hJ.k.ci
  exact zst_r hJ hn (fun w => ⟨_, sp_shareBitsP (d := d + 10) hI   ⟩) (zFo_v zTy_i) hJ.k (fun _ _ => rfl) (fun K hK h6 h39 h115 => ⟨_, _, (fun w => sp_shareBitsR (d := d + 10) hJ.b  h6.1 h6.2.2.2.1 ), zTy_i, zup_or (by decide), rSc_z, fun h => h.elim⟩)
theorem zpr_o {M : zM} {q : Nat} (h1 : q ≠ 102) (h2 : q ≠ 103) (h3 : q ≠ 104) : ∀ n, (zpr M n).1 q = M q
  | 0 => rfl
  | n + 1 => by
    rw [zpr_1, zpo_o h1 h2 h3]
    exact zpr_o h1 h2 h3 n
theorem rEp.sc {K M : zM} (h : rEp K M) : rSc K M := ⟨fun q a b => h q (by omega) (by omega) (by omega), fun j _ => by rw [h 115 (by decide) (by decide) (by decide)]⟩
theorem zpo_rpo {X M : zM} (h : zE9 X M zn1) {e : Int} : zpo X zn1 e = rpo M e 4 := by
  have hY := zE9_mv (M := X) (e := e) hzn1
  have hs : zsz (zmvM X zn1 e 104) zn1 = zsz M zn1 := (zsz_c hY.e2).trans (zsz_c h.e2)
  unfold zpo zpm rpo
  refine congrArg (fun F => zsum F 4) ?_
  funext k
  show zgr (zsgF (zmvM X zn1 e 104) zn1 104 (k : Int)) (zsz (zmvM X zn1 e 104) zn1).toNat = zgr (rpF M e (k : Int)) (zsz M zn1).toNat
  rw [hs]
  refine zgr_c _ (fun j hj => ?_)
  unfold zsgF rpF
  have hf : zfreeN (zmvM X zn1 e 104) zn1 j = zfreeN M zn1 j := by rw [zfreeN_c hY.e2, zfreeN_c h.e2]
  have hm : zmark (zmvM X zn1 e 104) zn1 j = zmark M zn1 j := by rw [zmark_c hY.e2, zmark_c h.e2]
  have h7 : zmvM X zn1 e 104 (zn1 + 7) = M (zn1 + 7) := hY.2.2.2.2.2.1.trans h.2.2.2.2.2.1
  have hv : zmvM X zn1 e 104 104 j = (zsc (zmw M zn1 e) (zsz M zn1).toNat).1 j := by
    unfold zmvM
    rw [zscM_q (by decide) (by rw [zsz_c h.e2]; exact hj), zmwM_w, zsz_c h.e2]
    exact zsc_c (fun i hi => zmw_w hzn1 h hi) j hj
  rw [hf, hm, h7, hv]
theorem zE9_po {X M : zM} {e : Int} (h : zE9 X M zn1) : zE9 (zpoM X zn1 e) M zn1 := ⟨(zpo_o (by decide) (by decide) (by decide)).trans h.1, (zpo_o (by decide) (by decide) (by decide)).trans h.2.1, (zpo_o (by decide) (by decide) (by decide)).trans h.2.2.1, (zpo_o (by decide) (by decide) (by decide)).trans h.2.2.2.1, (zpo_o (by decide) (by decide) (by decide)).trans h.2.2.2.2.1, (zpo_o (by decide) (by decide) (by decide)).trans h.2.2.2.2.2.1, (zpo_o (by decide) (by decide) (by decide)).trans h.2.2.2.2.2.2⟩
theorem zpr_rPV {M : zM} : ∀ n, zE9 (zpr M n).1 M zn1 ∧ (zpr M n).2 = rPV M n
  | 0 => ⟨⟨rfl, rfl, rfl, rfl, rfl, rfl, rfl⟩, rfl⟩
  | n + 1 => by
    obtain ⟨h1, h2⟩ := zpr_rPV n
    refine ⟨by rw [zpr_1]; exact zE9_po h1, ?_⟩
    have e1 : zpr M (n + 1) = (if (zpr M n).2.2 < zpo (zpr M n).1 zn1 (n : Int) then (zpoM (zpr M n).1 zn1 (n : Int), (n : Int), zpo (zpr M n).1 zn1 (n : Int)) else (zpoM (zpr M n).1 zn1 (n : Int), (zpr M n).2.1, (zpr M n).2.2)) := by
      conv => (lhs; unfold zpr)
    have e2 : rPV M (n + 1) = (if (rPV M n).2 < rpo M (n : Int) 4 then ((n : Int), rpo M (n : Int) 4) else rPV M n) := by
      conv => (lhs; unfold rPV)
    rw [e1, e2, ← h2, zpo_rpo h1]
    by_cases hc : (zpr M n).2.2 < rpo M (n : Int) 4
    · rw [if_pos hc, if_pos hc]
    · rw [if_neg hc, if_neg hc]
theorem zj_promising {xs : List Int32} {d : Nat} {n : Int} {M : zM} (hJ : zJo n M) (hn : n + 1 ≤ 600) : zStep xs (d + 13) (d + 13) 93 [.ref 0] 184 [.ref 115] [] 0 True n M := by
  have hI := hJ.k.ci
  exact zst_r hJ hn (fun w => ⟨_, sp_promisingP (d := d + 5) hI   ⟩) (zFo_v zTy_i) (zki_prom hJ.k) (fun q hq => zpr_o (by omega) (by omega) (by omega) 4) (fun K hK h6 h39 h115 => ⟨_, _, (fun w => sp_promisingR (d := d + 3) hJ.b  h6.1 h6.2.2.2.1 h6.2.2.1 ), zTy_i, (rPM_E 4 137 (by decide) (by decide) (by decide)).trans (zup_or (by decide)), (rSc_tr (rPM_E 4).sc rSc_z), fun _ => Or.inr ⟨((congrFun (rPM_E 4 115 (by decide) (by decide) (by decide)) 0).trans zup_i), zq_i (congrArg Prod.fst (zpr_rPV 4).2)⟩⟩)
theorem zj_exact {xs : List Int32} {d : Nat} {n : Int} {M : zM} (hJ : zJo n M) (hn : n + 1 ≤ 600) {x : Int} (hx : zr32 x) : zStep xs (d + 12) (d + 13) 96 [.ref 0, .int (Int32.ofInt x)] 190 [.ref 115, .int (Int32.ofInt x)] [(2, 1), (1, 2)] 1 True n M := by
  have hI := hJ.k.ci
  obtain ⟨hda, hze, hee, hW, hR, hB⟩ := zpathX hJ.k
  have h4 := zK4 hJ
  by_cases c0 : ¬ (0 ≤ x ∧ x < zsz M zn1)
  · exact zst_r hJ hn (fun w => ⟨_, sp_exactP_0 (d := d + 6) hI hx hda hze c0⟩) (zFo_e (by decide)) hJ.k (fun _ _ => rfl) (fun K hK h6 h39 h115 => ⟨_, _, (fun w => sp_exactR_0 (d := d + 6) hJ.b hx h6.1 h6.2.2.2.2.2 (by omega) c0), zTy_j, zup_or (by decide), rSc_z, fun _ => Or.inl ⟨_, 1, rfl, by decide, zup_i⟩⟩)
  by_cases c1 : ¬ ztot M zn1 ≤ 8
  · exact zst_r hJ hn (fun w => ⟨_, sp_exactP_1 (d := d + 6) hI hx hda hze c0 c1⟩) (zFo_e (by decide)) hJ.k (fun _ _ => rfl) (fun K hK h6 h39 h115 => ⟨_, _, (fun w => sp_exactR_1 (d := d + 6) hJ.b hx h6.1 h6.2.2.2.2.2 (by omega) c0 (by omega)), zTy_j, zup_or (by decide), rSc_z, fun _ => Or.inl ⟨_, 2, rfl, by decide, zup_i⟩⟩)
  exact zst_r hJ hn (fun w => ⟨_, sp_exactP_2 (d := d + 6) hI hx hda hze c0 c1⟩) (zFo_v zTy_j) (zki_ends hJ.k) (fun q hq => zwe_o (by omega) (by omega) _) (fun K hK h6 h39 h115 => ⟨_, _, (fun w => sp_exactR_2 (d := d + 6) hJ.b hx h6.1 h6.2.2.2.2.2 (by omega) c0 (by omega)), zTy_j, (rxM_o (by decide) (by decide) _).trans (zup_or (by decide)), ⟨fun q a b => (rxM_o (by omega) (by omega) _).trans (zup_or a), fun j a => by rw [rxM_o (by decide) (by decide), zup_ne (by omega)]⟩, fun _ => Or.inr ⟨(by rw [rxM_o (by decide) (by decide)]; exact zup_i), zq_j (by have h8 : ztot M zn1 ≤ 8 := Classical.not_not.mp c1; have h0 := hJ.b.t0; have h9 := ((rxE_w hJ.b h8 (ztot M zn1).toNat (by omega)).1 x.toNat (by omega)).symm; unfold zweM; rw [show zmi (ztot M zn1) 8 = ztot M zn1 from if_pos h8]; exact h9)⟩⟩)
theorem zj_likely {xs : List Int32} {d : Nat} {n : Int} {M : zM} (hJ : zJo n M) (hn : n + 1 ≤ 600) : zStep xs (d + 12) (d + 13) 97 [.ref 0] 191 [.ref 115] [(1, 1)] 0 True n M := by
  have hI := hJ.k.ci
  obtain ⟨hda, hze, hee, hW, hR, hB⟩ := zpathX hJ.k
  have h4 := zK4 hJ
  by_cases c0 : ¬ ztot M zn1 ≤ 8
  · exact zst_r hJ hn (fun w => ⟨_, sp_likelyP_0 (d := d + 6) hI  hda hze hee c0⟩) (zFo_e (by decide)) hJ.k (fun _ _ => rfl) (fun K hK h6 h39 h115 => ⟨_, _, (fun w => sp_likelyR_0 (d := d + 6) hJ.b  h6.1 h6.2.2.2.2.2 (by omega) (by omega)), zTy_i, zup_or (by decide), rSc_z, fun _ => Or.inl ⟨_, 1, rfl, by decide, zup_i⟩⟩)
  exact zst_r hJ hn (fun w => ⟨_, sp_likelyP_1 (d := d + 6) hI  hda hze hee c0⟩) (zFo_v zTy_i) (zki_ends hJ.k) (fun q hq => zwe_o (by omega) (by omega) _) (fun K hK h6 h39 h115 => ⟨_, _, (fun w => sp_likelyR_1 (d := d + 6) hJ.b  h6.1 h6.2.2.2.2.2 (by omega) (by omega)), zTy_i, (rxM_o (by decide) (by decide) _).trans (zup_or (by decide)), ⟨fun q a b => (rxM_o (by omega) (by omega) _).trans (zup_or a), fun j a => by rw [rxM_o (by decide) (by decide), zup_ne (by omega)]⟩, fun _ => Or.inr ⟨(by rw [rxM_o (by decide) (by decide)]; exact zup_i), zq_i (by have h8 : ztot M zn1 ≤ 8 := Classical.not_not.mp c0; have h0 := hJ.b.t0; have g := hJ.b.g.sz; have hz : zsz M zn1 = M (zn1 + 1) 0 * M (zn1 + 1) 1 := rfl; refine congrArg (fun k : Nat => (k : Int)) (zbest_c (by omega) (fun j hj => ?_)); have h9 := ((rxE_w hJ.b h8 (ztot M zn1).toNat (by omega)).1 j hj).symm; unfold zweM; rw [show zmi (ztot M zn1) 8 = ztot M zn1 from if_pos h8]; exact h9)⟩⟩)
theorem zfbq {M : zM} {q : Nat} (a : q ≠ 111) (b : q ≠ 112) : zfbM (zRM M zn1) zn1 (zmi (ztot M zn1) 8) q = M q := by
  unfold zfbM
  funext j
  rw [ztab_o b]
  unfold zRM
  rw [zwrM_o a]
theorem rpqq_o {C M : zM} {q : Nat} {i j : Nat} (h1 : ¬ q = 132) (h2 : ¬ q = 133) : rpM C (raM C M i) j q = M q := by
  unfold rpM
  rw [ztab_or h2, raM_o h1]
theorem zj_path {xs : List Int32} {d : Nat} {n : Int} {M : zM} (hJ : zJo n M) (hn : n + 1 ≤ 600) {x : Int} (hx : zr32 x) : zStep xs (d + 12) (d + 13) 98 [.ref 0, .int (Int32.ofInt x)] 194 [.ref 115, .int (Int32.ofInt x)] [(1, 1), (2, 2)] 0 False n M := by
  have hI := hJ.k.ci
  obtain ⟨hda, hze, hee, hW, hR, hB⟩ := zpathX hJ.k
  have h4 := zK4 hJ
  by_cases c0 : ¬ ztot M zn1 ≤ 8
  · exact zst_r hJ hn (fun w => ⟨_, sp_pathP_0 (d := d + 3) hI hx hda hW hR hB c0⟩) (zFo_e (by decide)) hJ.k (fun _ _ => rfl) (fun K hK h6 h39 h115 => ⟨_, _, (fun w => sp_pathR_0 (d := d + 5) hJ.b hx h6.1 h6.2.2.2.2.2 (by omega) (by omega)), zTy_i, zup_or (by decide), rSc_z, fun _ => Or.inl ⟨_, 1, rfl, by decide, zup_i⟩⟩)
  by_cases c1 : ¬ (0 ≤ x ∧ x ≤ ztot M zn1)
  · exact zst_r hJ hn (fun w => ⟨_, sp_pathP_1 (d := d + 3) hI hx hda hW hR hB c0 c1⟩) (zFo_e (by decide)) hJ.k (fun _ _ => rfl) (fun K hK h6 h39 h115 => ⟨_, _, (fun w => sp_pathR_1 (d := d + 5) hJ.b hx h6.1 h6.2.2.2.2.2 (by omega) (by omega) c1), zTy_i, zup_or (by decide), rSc_z, fun _ => Or.inl ⟨_, 2, rfl, by decide, zup_i⟩⟩)
  exact zst_r hJ hn (fun w => ⟨_, sp_pathP_2 (d := d + 3) hI hx hda hW hR hB c0 c1⟩) (zFo_v zTy_i) (zki_path hJ.k) (fun q hq => zfbq (by omega) (by omega)) (fun K hK h6 h39 h115 => ⟨_, _, (fun w => sp_pathR_2 (d := d + 5) hJ.b hx h6.1 h6.2.2.2.2.2 (by omega) (by omega) c1), zTy_i, (rpqq_o (by decide) (by decide)).trans (zup_or (by decide)), ⟨fun q a b => (rpqq_o (by omega) (by omega)).trans (zup_or a), fun j a => by rw [rpqq_o (by decide) (by decide), zup_ne (by omega)]⟩, fun h => h.elim⟩)
theorem zsum_nz {F : zF} : ∀ n, zsum F n ≠ 0 → ∃ k, k < n ∧ F k ≠ 0
  | 0, h => absurd rfl h
  | n + 1, h => by
    by_cases h1 : F n = 0
    · obtain ⟨k, hk, e⟩ := zsum_nz (F := F) n (fun e => h (by show zsum F n + F n = 0; omega))
      exact ⟨k, by omega, e⟩
    · exact ⟨n, by omega, h1⟩
theorem zfac_nz {M : zM} {i f t : Int} (h : zfac M zn1 i f t ≠ 0) : ∃ y : Nat, y < 4 ∧ ztgo M zn1 i f (y : Int) = t := by
  unfold zfac at h
  unfold ztgo
  by_cases c : M (zn1 + 9) i.toNat < 10
  · rw [if_pos c] at h
    obtain ⟨y, hy, e⟩ := zsum_nz 4 h
    unfold zfcF at e
    refine ⟨y, hy, ?_⟩
    rw [if_pos c]
    exact Classical.byContradiction (fun e2 => e (if_neg e2))
  · rw [if_neg c] at h
    refine ⟨0, by decide, ?_⟩
    rw [if_neg c]
    exact Classical.byContradiction (fun e2 => h (if_neg e2))
theorem ztgo_fr {n : Int} {M : zM} (hB : zBI n M zn1) {i f y : Int} (hi : 0 ≤ i ∧ i < zmi (ztot M zn1) 8) (hf : zfree M zn1 f) : zfree M zn1 (ztgo M zn1 i f y) := by
  have hm := zmi8 hB.t0
  unfold ztgo
  split
  · next c =>
    have h1 := hB.da i hi.1 hi.2 c
    have h2 := hB.b4.1.2.2.2.1 i.toNat (by omega)
    rcases (ztg_n hB.b1 (c := f) (e := M (zn1 + 9) i.toNat) y ⟨hf.1, hf.2.1⟩ ⟨h2.1, h1⟩).2 with e | e
    · rw [e]; exact hf
    · exact e.2
  · exact hf
theorem zgr_nn {F : zF} (n : Nat) : 0 ≤ zgr F n := by
  rcases zgr_at (F := F) n with h | ⟨_, _, _, h⟩ <;> omega
/-- the class's rows of rests are the reference's, over free cells -/
theorem zrow_w {n : Int} {M : zM} (hB : zBI n M zn1) (h8 : ztot M zn1 ≤ 8) : ∀ j : Nat, (j : Int) ≤ ztot M zn1 → ∀ c : Nat, zfreeN M zn1 c → zwrM M zn1 (ztot M zn1) j 111 (((ztot M zn1 - (j : Int)) * 36).toNat + c) = rahF M j c
  | 0, _, c, hc => by
    have hs : c < (zsz M zn1).toNat := by have := hc.2.1; unfold zsz; omega
    unfold zwrM
    rw [show ztot M zn1 - ((0 : Nat) : Int) = ztot M zn1 by omega, ztao_i hs]
    exact zb_t hc
  | j + 1, hj, c, hc => by
    have hs : c < (zsz M zn1).toNat := by have := hc.2.1; unfold zsz; omega
    have ih := zrow_w hB h8 j (by omega)
    have hE : zE5 (zwrM M zn1 (ztot M zn1) j) M zn1 := fun q hq => zwrM_o (by omega) j
    have hm : zmi (ztot M zn1) 8 = ztot M zn1 := if_pos h8
    unfold zwrM
    rw [show ztot M zn1 - ((j + 1 : Nat) : Int) = ztot M zn1 - 1 - (j : Int) by omega, ztao_i hs]
    have hrah : rahF M (j + 1) c = zgr (rahG M (ztot M zn1 - 1 - (j : Int)) (c : Int) (rahF M j)) (zsz M zn1).toNat := if_pos hc
    have hfr : ∀ y : Int, zfree M zn1 (ztgo M zn1 (ztot M zn1 - 1 - (j : Int)) (c : Int) y) := fun y => ztgo_fr hB (by rw [hm]; omega) hc
    have hv : ∀ y : Nat, zro (zwrM M zn1 (ztot M zn1) j) zn1 (ztot M zn1 - 1 - (j : Int)) (c : Int) (ztgo (zwrM M zn1 (ztot M zn1) j) zn1 (ztot M zn1 - 1 - (j : Int)) (c : Int) (y : Int)) = rahG M (ztot M zn1 - 1 - (j : Int)) (c : Int) (rahF M j) (ztgo M zn1 (ztot M zn1 - 1 - (j : Int)) (c : Int) (y : Int)).toNat := by
      intro y
      have hf := hfr (y : Int)
      rw [ztgo_c hzn1 hE]
      generalize ztgo M zn1 (ztot M zn1 - 1 - (j : Int)) (c : Int) (y : Int) = t at hf
      have hf0 := hf.1
      have hfN := (zfreeN_i hf0).mpr hf
      unfold zro
      rw [zfac_c hzn1 hE]
      have hi := ih t.toNat hfN
      rw [show ((ztot M zn1 - (j : Int)) * 36).toNat + t.toNat = ((ztot M zn1 - 1 - (j : Int) + 1) * 36 + t).toNat by omega] at hi
      rw [hi]
      unfold rahG
      rw [if_pos hfN, Int.toNat_of_nonneg hf0]
    rw [hrah]
    unfold zwl
    apply Int.le_antisymm
    · rcases zgr_at (F := fun y => zro (zwrM M zn1 (ztot M zn1) j) zn1 (ztot M zn1 - 1 - (j : Int)) (c : Int) (ztgo (zwrM M zn1 (ztot M zn1) j) zn1 (ztot M zn1 - 1 - (j : Int)) (c : Int) (y : Int))) 4 with h0 | ⟨y, hy, e, _⟩
      · rw [h0]
        exact zgr_nn _
      · rw [← e]
        have hf := hfr (y : Int)
        have := hf.1
        have := hf.2.1
        rw [hv y]
        exact zgr_ge _ _ (by unfold zsz; omega)
    · rcases zgr_at (F := rahG M (ztot M zn1 - 1 - (j : Int)) (c : Int) (rahF M j)) (zsz M zn1).toNat with h0 | ⟨t, ht, e, hp⟩
      · rw [h0]
        exact zgr_nn _
      · rw [← e]
        have ft : zfreeN M zn1 t := Classical.byContradiction (fun h => by
          unfold rahG at hp
          rw [if_neg h] at hp
          omega)
        have hz : zfac M zn1 (ztot M zn1 - 1 - (j : Int)) (c : Int) (t : Int) ≠ 0 := fun h => by
          unfold rahG at hp
          rw [if_pos ft, h, Int.zero_mul] at hp
          omega
        obtain ⟨y, hy, e2⟩ := zfac_nz hz
        have h3 := hv y
        rw [e2, Int.toNat_natCast] at h3
        rw [← h3]
        exact zgr_ge (F := fun y => zro (zwrM M zn1 (ztot M zn1) j) zn1 (ztot M zn1 - 1 - (j : Int)) (c : Int) (ztgo (zwrM M zn1 (ztot M zn1) j) zn1 (ztot M zn1 - 1 - (j : Int)) (c : Int) (y : Int))) 4 y hy
theorem zbbf_p {R : zF} {P : Nat → Prop} : ∀ n, (zbbf R P n = -1 ∧ ∀ j, j < n → ¬ P j) ∨ (0 ≤ zbbf R P n ∧ P (zbbf R P n).toNat ∧ (zbbf R P n).toNat < n ∧ ∀ j, j < n → P j → R j ≤ R (zbbf R P n).toNat)
  | 0 => Or.inl ⟨rfl, fun j h => by omega⟩
  | n + 1 => by
    have ih := zbbf_p (R := R) (P := P) n
    by_cases c : P n ∧ (zbbf R P n < 0 ∨ R (zbbf R P n).toNat < R n)
    · have e : zbbf R P (n + 1) = (n : Int) := if_pos c
      rw [e, Int.toNat_natCast]
      refine Or.inr ⟨by omega, c.1, by omega, fun j hj hp => ?_⟩
      by_cases hj2 : j = n
      · subst hj2
        exact Int.le_refl _
      · rcases ih with ⟨h1, h2⟩ | ⟨h1, h2, h3, h4⟩
        · exact absurd hp (h2 j (by omega))
        · have h5 := h4 j (by omega) hp
          rcases c.2 with c2 | c2 <;> omega
    · have e : zbbf R P (n + 1) = zbbf R P n := if_neg c
      rw [e]
      rcases ih with ⟨h1, h2⟩ | ⟨h1, h2, h3, h4⟩
      · refine Or.inl ⟨h1, fun j hj hp => ?_⟩
        by_cases hj2 : j = n
        · subst hj2
          exact c ⟨hp, Or.inl (by omega)⟩
        · exact h2 j (by omega) hp
      · refine Or.inr ⟨h1, h2, by omega, fun j hj hp => ?_⟩
        by_cases hj2 : j = n
        · subst hj2
          by_cases c2 : R (zbbf R P j).toNat < R j
          · exact absurd ⟨hp, Or.inr c2⟩ c
          · omega
        · exact h4 j (by omega) hp
theorem rpbF_p {C : zM} {R : zF} : ∀ n, ∀ j, j < n → zfreeN C zn1 j → R j ≤ R (rpbF C R n).toNat
  | 0, _, hj, _ => by omega
  | n + 1, j, hj, hf => by
    by_cases c : zfreeN C zn1 n ∧ R (rpbF C R n).toNat < R n
    · have e : rpbF C R (n + 1) = (n : Int) := if_pos c
      rw [e, Int.toNat_natCast]
      by_cases hj2 : j = n
      · subst hj2
        exact Int.le_refl _
      · have h1 := rpbF_p (R := R) n j (by omega) hf
        omega
    · have e : rpbF C R (n + 1) = rpbF C R n := if_neg c
      rw [e]
      by_cases hj2 : j = n
      · subst hj2
        by_cases c2 : R (rpbF C R j).toNat < R j
        · exact absurd ⟨hf, c2⟩ c
        · omega
      · exact rpbF_p n j (by omega) hf
/-- the greatest weight of both -/
theorem zwg_rah {n : Int} {M : zM} (h : zKI n M) (h8 : ztot M zn1 ≤ 8) : zwg (zRM M zn1) zn1 = rahF M (ztot M zn1).toNat (rpz M 0).toNat := by
  have hB := h.b
  have ht0 := hB.t0
  have hm : zmi (ztot M zn1) 8 = ztot M zn1 := if_pos h8
  have hE : zE5 (zRM M zn1) M zn1 := fun q hq => zwrM_o (by omega) _
  have hr : ∀ c : Nat, zfreeN M zn1 c → zRM M zn1 111 c = rahF M (ztot M zn1).toNat c := fun c hc => by
    have h1 := zrow_w hB h8 (ztot M zn1).toNat (by omega) c hc
    rw [show ((ztot M zn1 - ((ztot M zn1).toNat : Int)) * 36).toNat + c = c by omega] at h1
    unfold zRM
    rw [hm]
    exact h1
  have hP : zmbN (zRM M zn1) zn1 = zmbN M zn1 := by
    funext j
    exact propext (zmb_c (hE.e2 hzn1) (hE _ (by decide)))
  have hs : zsz (zRM M zn1) zn1 = zsz M zn1 := zsz_c (hE.e2 hzn1)
  have hz := zbbf_p (R := zRM M zn1 111) (P := zmbN M zn1) (zsz M zn1).toNat
  have hrp : zfree M zn1 (rpb M) := rpb_f hB
  have hrp0 := hrp.1
  have hrp1 : rpb M < zsz M zn1 := hrp.2.1
  have hst : M (zn1 + 8) 0 = -1 ∨ M (zn1 + 8) 0 = rpb M := by
    by_cases c : M (zn1 + 8) 0 < 0
    · rcases hB.b4.2.2.2 with e | e
      · exact Or.inl e
      · have := e.1
        omega
    · refine Or.inr ?_
      unfold rpb
      rw [if_neg c]
  have hmb : zmbN M zn1 (rpb M).toNat := (zmbN_i hrp0).mpr ⟨hrp, hst⟩
  unfold zwg zbb
  rw [hP, hs]
  show zRM M zn1 111 (zmx (zbbf (zRM M zn1 111) (zmbN M zn1) (zsz M zn1).toNat) 0).toNat = rahF M (ztot M zn1).toNat (rpb M).toNat
  rcases hz with ⟨z1, z2⟩ | ⟨z1, z2, z3, z4⟩
  · exact absurd hmb (z2 _ (by omega))
  · generalize zbbf (zRM M zn1 111) (zmbN M zn1) (zsz M zn1).toNat = b at z1 z2 z3 z4 ⊢
    rw [show zmx b 0 = b by unfold zmx; split <;> omega]
    have zf : zfreeN M zn1 b.toNat := z2.1
    have h4 := z4 _ (by omega) hmb
    rw [hr _ ((zfreeN_i hrp0).mpr hrp), hr _ zf] at h4
    rw [hr _ zf]
    refine Int.le_antisymm ?_ h4
    by_cases c : M (zn1 + 8) 0 < 0
    · unfold rpb
      rw [if_pos c]
      exact rpbF_p _ _ z3 zf
    · rcases z2.2 with e | e
      · omega
      · unfold rpb
        rw [if_neg c, e]
        exact Int.le_refl _
theorem zj_pathWeight {xs : List Int32} {d : Nat} {n : Int} {M : zM} (hJ : zJo n M) (hn : n + 1 ≤ 600) : zStep xs (d + 12) (d + 13) 99 [.ref 0] 195 [.ref 115] [(1, 1)] 1 True n M := by
  have hI := hJ.k.ci
  obtain ⟨hda, hze, hee, hW, hR, hB⟩ := zpathX hJ.k
  have h4 := zK4 hJ
  by_cases c0 : ¬ ztot M zn1 ≤ 8
  · exact zst_r hJ hn (fun w => ⟨_, sp_pathWeightP_0 (d := d + 3) hI  hda hW hR hB c0⟩) (zFo_e (by decide)) hJ.k (fun _ _ => rfl) (fun K hK h6 h39 h115 => ⟨_, _, (fun w => sp_pathWeightR_0 (d := d + 5) hJ.b  h6.1 h6.2.2.2.2.2 (by omega) (by omega)), zTy_j, zup_or (by decide), rSc_z, fun _ => Or.inl ⟨_, 1, rfl, by decide, zup_i⟩⟩)
  exact zst_r hJ hn (fun w => ⟨_, sp_pathWeightP_1 (d := d + 3) hI  hda hW hR hB c0⟩) (zFo_v zTy_j) (zki_path hJ.k) (fun q hq => zfbq (by omega) (by omega)) (fun K hK h6 h39 h115 => ⟨_, _, (fun w => sp_pathWeightR_1 (d := d + 5) hJ.b  h6.1 h6.2.2.2.2.2 (by omega) (by omega)), zTy_j, (rpqq_o (by decide) (by decide)).trans (zup_or (by decide)), ⟨fun q a b => (rpqq_o (by omega) (by omega)).trans (zup_or a), fun j a => by rw [rpqq_o (by decide) (by decide), zup_ne (by omega)]⟩, fun _ => Or.inr ⟨(by rw [rpqq_o (by decide) (by decide), zup_i]), zq_j (zwg_rah hJ.k (by omega))⟩⟩)
theorem zfd_rwd {M : zM} {x y : Int} : zfd (zfaM M zn1 y) zn1 x = rwd M y x := by
  unfold zfd rwd
  refine congrArg (fun P => zfirst P 0 0 4) ?_
  funext e
  unfold rdP
  rw [zfaM_vf, zco_c (M := zfaM M zn1 y) (M0 := M) (zfaM_o (by decide)) (zfaM_o (by decide))]
theorem zxc_x {M : zM} {x : Int} : zxc (zfaM M zn1 x) = zsum (rxpF M x) (zsz M zn1).toNat / 1000000 := by
  unfold zxc
  rw [show zsz (zfaM M zn1 x) zn1 = zsz M zn1 from by unfold zsz; rw [zfaM_o (by decide)]]
  refine congrArg (fun F => zsum F (zsz M zn1).toNat / 1000000) ?_
  funext c
  unfold zxF rxpF
  rw [zfaM_vf, zfaM_o (by decide)]
theorem rSc_w {C K : zM} {y k : Int} : rSc (zup (rwyM C K y) 115 0 k) K := ⟨fun q a b => (zup_or a).trans (rwyM_o (by omega)), fun j a => (zup_ne (by omega)).trans (by rw [rwyM_o (by decide)])⟩
theorem rSc_w2 {C K : zM} {y k : Int} : rSc (rwyM C (zup K 115 0 k) y) K := ⟨fun q a b => (rwyM_o (by omega)).trans (zup_or a), fun j a => by rw [rwyM_o (by decide), zup_ne (by omega)]⟩
theorem zj_wayCost {xs : List Int32} {d : Nat} {n : Int} {M : zM} (hJ : zJo n M) (hn : n + 1 ≤ 600) {x y : Int} (hx : zr32 x) (hy : zr32 y) : zStep xs (d + 12) (d + 13) 100 [.ref 0, .int (Int32.ofInt x), .int (Int32.ofInt y)] 198 [.ref 115, .int (Int32.ofInt x), .int (Int32.ofInt y)] [(2, 1), (1, 2), (3, 3)] 0 True n M := by
  have hI := hJ.k.ci
  by_cases c0 : ¬ (0 ≤ x ∧ x < zsz M zn1)
  · exact zst_r hJ hn (fun w => ⟨_, sp_wayCostP_0 (d := d + 6) hI hx hy  c0⟩) (zFo_e (by decide)) hJ.k (fun _ _ => rfl) (fun K hK h6 h39 h115 => ⟨_, _, (fun w => sp_wayCostR_0 (d := d + 8) hJ.b hx hy h6.1 h6.2.1 (Or.inl c0)), zTy_i, zup_or (by decide), rSc_z, fun _ => Or.inl ⟨_, 1, rfl, by decide, zup_i⟩⟩)
  by_cases c1 : ¬ (0 ≤ y ∧ y < zsz M zn1)
  · exact zst_r hJ hn (fun w => ⟨_, sp_wayCostP_1 (d := d + 6) hI hx hy  c0 c1⟩) (zFo_e (by decide)) hJ.k (fun _ _ => rfl) (fun K hK h6 h39 h115 => ⟨_, _, (fun w => sp_wayCostR_0 (d := d + 8) hJ.b hx hy h6.1 h6.2.1 (Or.inr c1)), zTy_i, zup_or (by decide), rSc_z, fun _ => Or.inl ⟨_, 1, rfl, by decide, zup_i⟩⟩)
  by_cases c2 : ¬ zfree M zn1 x
  · exact zst_r hJ hn (fun w => ⟨_, sp_wayCostP_2 (d := d + 6) hI hx hy  c0 c1 c2⟩) (zFo_e (by decide)) hJ.k (fun _ _ => rfl) (fun K hK h6 h39 h115 => ⟨_, _, (fun w => sp_wayCostR_1 (d := d + 8) hJ.b hx hy h6.1 h6.2.1 (by omega) (fun e => c2 e.1)), zTy_i, zup_or (by decide), rSc_z, fun _ => Or.inl ⟨_, 2, rfl, by decide, zup_i⟩⟩)
  by_cases c3 : ¬ zfree M zn1 y
  · exact zst_r hJ hn (fun w => ⟨_, sp_wayCostP_3 (d := d + 6) hI hx hy  c0 c1 c2 c3⟩) (zFo_e (by decide)) hJ.k (fun _ _ => rfl) (fun K hK h6 h39 h115 => ⟨_, _, (fun w => sp_wayCostR_1 (d := d + 8) hJ.b hx hy h6.1 h6.2.1 (by omega) (fun e => c3 e.2)), zTy_i, zup_or (by decide), rSc_z, fun _ => Or.inl ⟨_, 2, rfl, by decide, zup_i⟩⟩)
  by_cases c4 : ¬ zfaM M zn1 y 114 x.toNat < 1000000
  · exact zst_r hJ hn (fun w => ⟨_, sp_wayCostP_4 (d := d + 6) hI hx hy  c0 c1 c2 c3 c4⟩) (zFo_e (by decide)) (zki_ways hJ.k) (fun q hq => zfaM_o (by omega)) (fun K hK h6 h39 h115 => ⟨_, _, (fun w => sp_wayCostR_2 (d := d + 8) hJ.b hx hy h6.1 h6.2.1 (by omega) (fun e => e ⟨Classical.not_not.mp c2, Classical.not_not.mp c3⟩) (by have h9 := (zvf_st hJ.b (t := y) (by omega)).1.1 x.toNat (by omega); have h8 : zfaM M zn1 y 114 = zvf M y := zfaM_vf; rw [h8] at c4; omega)), zTy_i, (zup_or (by decide)).trans (rwyM_o (by decide)), rSc_w, fun _ => Or.inl ⟨_, 3, rfl, by decide, zup_i⟩⟩)
  exact zst_r hJ hn (fun w => ⟨_, sp_wayCostP_5 (d := d + 6) hI hx hy  c0 c1 c2 c3 c4⟩) (zFo_v zTy_i) (zki_ways hJ.k) (fun q hq => zfaM_o (by omega)) (fun K hK h6 h39 h115 => ⟨_, _, (fun w => sp_wayCostR_3 (d := d + 8) hJ.b hx hy h6.1 h6.2.1 (by omega) (fun e => e ⟨Classical.not_not.mp c2, Classical.not_not.mp c3⟩) (by have h9 := (zvf_st hJ.b (t := y) (by omega)).1.1 x.toNat (by omega); have h8 : zfaM M zn1 y 114 = zvf M y := zfaM_vf; rw [h8] at c4; omega)), zTy_i, (zup_or (by decide)).trans (rwyM_o (by decide)), rSc_w, fun _ => Or.inr ⟨zup_i, zq_i (by rw [zfaM_vf])⟩⟩)
theorem zj_wayDirection {xs : List Int32} {d : Nat} {n : Int} {M : zM} (hJ : zJo n M) (hn : n + 1 ≤ 600) {x y : Int} (hx : zr32 x) (hy : zr32 y) : zStep xs (d + 12) (d + 13) 101 [.ref 0, .int (Int32.ofInt x), .int (Int32.ofInt y)] 199 [.ref 115, .int (Int32.ofInt x), .int (Int32.ofInt y)] [(2, 1), (1, 2), (3, 3)] 0 True n M := by
  have hI := hJ.k.ci
  by_cases c0 : ¬ (0 ≤ x ∧ x < zsz M zn1)
  · exact zst_r hJ hn (fun w => ⟨_, sp_wayDirectionP_0 (d := d + 6) hI hx hy  c0⟩) (zFo_e (by decide)) hJ.k (fun _ _ => rfl) (fun K hK h6 h39 h115 => ⟨_, _, (fun w => sp_wayDirectionR_0 (d := d + 7) hJ.b hx hy h6.1 h6.2.1 (Or.inl c0)), zTy_i, zup_or (by decide), rSc_z, fun _ => Or.inl ⟨_, 1, rfl, by decide, zup_i⟩⟩)
  by_cases c1 : ¬ (0 ≤ y ∧ y < zsz M zn1)
  · exact zst_r hJ hn (fun w => ⟨_, sp_wayDirectionP_1 (d := d + 6) hI hx hy  c0 c1⟩) (zFo_e (by decide)) hJ.k (fun _ _ => rfl) (fun K hK h6 h39 h115 => ⟨_, _, (fun w => sp_wayDirectionR_0 (d := d + 7) hJ.b hx hy h6.1 h6.2.1 (Or.inr c1)), zTy_i, zup_or (by decide), rSc_z, fun _ => Or.inl ⟨_, 1, rfl, by decide, zup_i⟩⟩)
  by_cases c2 : ¬ zfree M zn1 x
  · exact zst_r hJ hn (fun w => ⟨_, sp_wayDirectionP_2 (d := d + 6) hI hx hy  c0 c1 c2⟩) (zFo_e (by decide)) hJ.k (fun _ _ => rfl) (fun K hK h6 h39 h115 => ⟨_, _, (fun w => sp_wayDirectionR_1 (d := d + 7) hJ.b hx hy h6.1 h6.2.1 (by omega) (fun e => c2 e.1)), zTy_i, zup_or (by decide), rSc_z, fun _ => Or.inl ⟨_, 2, rfl, by decide, zup_i⟩⟩)
  by_cases c3 : ¬ zfree M zn1 y
  · exact zst_r hJ hn (fun w => ⟨_, sp_wayDirectionP_3 (d := d + 6) hI hx hy  c0 c1 c2 c3⟩) (zFo_e (by decide)) hJ.k (fun _ _ => rfl) (fun K hK h6 h39 h115 => ⟨_, _, (fun w => sp_wayDirectionR_1 (d := d + 7) hJ.b hx hy h6.1 h6.2.1 (by omega) (fun e => c3 e.2)), zTy_i, zup_or (by decide), rSc_z, fun _ => Or.inl ⟨_, 2, rfl, by decide, zup_i⟩⟩)
  by_cases c4 : ¬ zfaM M zn1 y 114 x.toNat < 1000000
  · exact zst_r hJ hn (fun w => ⟨_, sp_wayDirectionP_4 (d := d + 6) hI hx hy  c0 c1 c2 c3 c4⟩) (zFo_e (by decide)) (zki_ways hJ.k) (fun q hq => zfaM_o (by omega)) (fun K hK h6 h39 h115 => ⟨_, _, (fun w => sp_wayDirectionR_2 (d := d + 7) hJ.b hx hy h6.1 h6.2.1 (by omega) (fun e => e ⟨Classical.not_not.mp c2, Classical.not_not.mp c3⟩) (Or.inl (by have h9 := (zvf_st hJ.b (t := y) (by omega)).1.1 x.toNat (by omega); have h8 : zfaM M zn1 y 114 = zvf M y := zfaM_vf; rw [h8] at c4; omega))), zTy_i, (zup_or (by decide)).trans (rwyM_o (by decide)), rSc_w, fun _ => Or.inl ⟨_, 3, rfl, by decide, zup_i⟩⟩)
  by_cases c5 : x = y
  · exact zst_r hJ hn (fun w => ⟨_, sp_wayDirectionP_5 (d := d + 6) hI hx hy  c0 c1 c2 c3 c4 c5⟩) (zFo_e (by decide)) (zki_ways hJ.k) (fun q hq => zfaM_o (by omega)) (fun K hK h6 h39 h115 => ⟨_, _, (fun w => sp_wayDirectionR_2 (d := d + 7) hJ.b hx hy h6.1 h6.2.1 (by omega) (fun e => e ⟨Classical.not_not.mp c2, Classical.not_not.mp c3⟩) (Or.inr c5)), zTy_i, (zup_or (by decide)).trans (rwyM_o (by decide)), rSc_w, fun _ => Or.inl ⟨_, 3, rfl, by decide, zup_i⟩⟩)
  exact zst_r hJ hn (fun w => ⟨_, sp_wayDirectionP_6 (d := d + 6) hI hx hy  c0 c1 c2 c3 c4 c5⟩) (zFo_v zTy_i) (zki_ways hJ.k) (fun q hq => zfaM_o (by omega)) (fun K hK h6 h39 h115 => ⟨_, _, (fun w => sp_wayDirectionR_3 (d := d + 7) hJ.b hx hy h6.1 h6.2.1 (by omega) (fun e => e ⟨Classical.not_not.mp c2, Classical.not_not.mp c3⟩) (fun e => e.elim (by show ¬ zvf M y x.toNat = 1000000; have h9 := (zvf_st hJ.b (t := y) (by omega)).1.1 x.toNat (by omega); have h8 : zfaM M zn1 y 114 = zvf M y := zfaM_vf; rw [h8] at c4; omega) c5)), zTy_i, (zup_or (by decide)).trans (rwyM_o (by decide)), rSc_w, fun _ => Or.inr ⟨zup_i, zq_i zfd_rwd⟩⟩)
theorem zj_expectedCost {xs : List Int32} {d : Nat} {n : Int} {M : zM} (hJ : zJo n M) (hn : n + 1 ≤ 600) {x : Int} (hx : zr32 x) : zStep xs (d + 12) (d + 13) 102 [.ref 0, .int (Int32.ofInt x)] 200 [.ref 115, .int (Int32.ofInt x)] [(2, 1), (1, 2)] 0 True n M := by
  have hI := hJ.k.ci
  by_cases c0 : ¬ (0 ≤ x ∧ x < zsz M zn1)
  · exact zst_r hJ hn (fun w => ⟨_, sp_expectedCostP_0 (d := d + 7) hI hx  c0⟩) (zFo_e (by decide)) hJ.k (fun _ _ => rfl) (fun K hK h6 h39 h115 => ⟨_, _, (fun w => sp_expectedCostR_0 (d := d + 8) hJ.b hx h6.1 h6.2.1 h6.2.2.2.1 c0), zTy_i, zup_or (by decide), rSc_z, fun _ => Or.inl ⟨_, 1, rfl, by decide, zup_i⟩⟩)
  by_cases c1 : ¬ zfree M zn1 x
  · exact zst_r hJ hn (fun w => ⟨_, sp_expectedCostP_1 (d := d + 7) hI hx  c0 c1⟩) (zFo_e (by decide)) hJ.k (fun _ _ => rfl) (fun K hK h6 h39 h115 => ⟨_, _, (fun w => sp_expectedCostR_1 (d := d + 8) hJ.b hx h6.1 h6.2.1 h6.2.2.2.1 c0 c1), zTy_i, zup_or (by decide), rSc_z, fun _ => Or.inl ⟨_, 2, rfl, by decide, zup_i⟩⟩)
  exact zst_r hJ hn (fun w => ⟨_, sp_expectedCostP_2 (d := d + 7) hI hx  c0 c1⟩) (zFo_v zTy_i) (zki_ways hJ.k) (fun q hq => zfaM_o (by omega)) (fun K hK h6 h39 h115 => ⟨_, _, (fun w => sp_expectedCostR_2 (d := d + 8) hJ.b hx h6.1 h6.2.1 h6.2.2.2.1 c0 c1), zTy_i, (rwyM_o (by decide)).trans (zup_or (by decide)), rSc_w2, fun _ => Or.inr ⟨(by rw [rwyM_o (by decide)]; exact zup_i), zq_i zxc_x⟩⟩)
end
