noncomputable section
/-! The core, the promising direction, exact weights and paths. -/
/-- how many of the ranked cells -/
def zcrf (F : zF) (n l : Int) : Nat → Int → Int → Int
  | 0, c, _ => c
  | k + 1, c, s => if c < n ∧ s < l then zcrf F n l k (c + 1) (s + F c.toNat) else c
theorem zcrf_t {F : zF} {n l c s : Int} (h1 : c < n) (h2 : s < l) : zcrf F n l (n - c).toNat c s = zcrf F n l (n - (c + 1)).toNat (c + 1) (s + F c.toNat) := by
  rw [show (n - c).toNat = (n - (c + 1)).toNat + 1 by omega]
  exact if_pos ⟨h1, h2⟩
theorem zcrf_f {F : zF} {n l c s : Int} (h : ¬ (c < n ∧ s < l)) : zcrf F n l (n - c).toNat c s = c := by
  by_cases h1 : c < n
  · rw [show (n - c).toNat = (n - (c + 1)).toNat + 1 by omega]
    exact if_neg h
  · rw [show (n - c).toNat = 0 by omega]
    rfl
theorem zrk_bd {F : zF} {p : zF × zF} {l u : Int} : ∀ n : Nat, (∀ j, j < n → l ≤ F j ∧ F j ≤ u) → ∀ j, j < n → l ≤ (zrk F n p).1 j ∧ (zrk F n p).1 j ≤ u
  | 0, _, j, hj => absurd hj (Nat.not_lt_zero j)
  | n + 1, hF, j, hj => by
    have ih := zrk_bd (p := p) n (fun j hj => hF j (by omega))
    have hn := hF n (by omega)
    have hq := zip_le (zrk F n p).1 (F n) n
    show l ≤ zrup (zshf (zrk F n p).1 (zip_ (zrk F n p).1 (F n) n) n) (zip_ (zrk F n p).1 (F n) n) (F n) j ∧ zrup (zshf (zrk F n p).1 (zip_ (zrk F n p).1 (F n) n) n) (zip_ (zrk F n p).1 (F n) n) (F n) j ≤ u
    generalize zip_ (zrk F n p).1 (F n) n = q at hq ⊢
    unfold zrup zshf
    split
    · exact hn
    · split
      · exact ih _ (by omega)
      · exact ih _ (by omega)
noncomputable def zcr (M : zM) (x : Int) : Int := zcrf (zrkM M zn1 107) (zsz M zn1) (x * 10000) (zsz M zn1).toNat 0 0
theorem zrkM_o {M : zM} {a q : Nat} (h1 : q ≠ 106) (h2 : q ≠ 107) : zrkM M a q = M q := zrw_o h1 h2
theorem zrk_7 {M : zM} (hg : zGr M zn1) (hbl : zBl M zn1) : ∀ j : Nat, j < (zsz M zn1).toNat → 0 ≤ zrkM M zn1 107 j ∧ zrkM M zn1 107 j ≤ 1000000 := by
  obtain ⟨g6, g7⟩ := hg.sz
  have hz : zsz M zn1 = M (zn1 + 1) 0 * M (zn1 + 1) 1 := rfl
  unfold zrkM
  rw [zrw_7]
  exact zrk_bd _ (fun j hj => hbl j (by omega))
theorem zl_core_32 {xs : List Int32} {d : Nat} {w : Bool} {M : zM} {x n : Int} (hx : 1 ≤ x ∧ x ≤ 100) (hn : 1 ≤ n ∧ n ≤ 36) (hF : ∀ j : Nat, j < n.toNat → 0 ≤ M 107 j ∧ M 107 j ≤ 1000000)  : ∀ (zn : Nat) (s c : Int), (zcrf (M 107) n (x * 10000) n.toNat 0 0 = zcrf (M 107) n (x * 10000) (n - c).toNat c s) → (0 ≤ s ∧ s ≤ 1000000 * c) → (0 ≤ c ∧ c ≤ n) → n - c ≤ (zn : Int) → zG (xstep (xrun2 xs (d + 2)) xs 90) 90 (zn * 18 + 18) 32 [(0, .ref 0), (1, .int (Int32.ofInt x)), (2, .int (Int32.ofInt n)), (3, .int (Int32.ofInt s)), (4, .int (Int32.ofInt c))] [] 1 6 w M (fun o σ => o = (.inl (some (.int (Int32.ofInt (zcrf (M 107) n (x * 10000) n.toNat 0 0)))) : XO) ∧ σ = (w, zheap M)) := by
  intro zn
  induction zn with
  | zero =>
    intro s c hv hs hc hm
    have hFc : c < n → 0 ≤ M 107 c.toNat ∧ M 107 c.toNat ≤ 1000000 := fun h => hF _ (by omega)
    exact zG_mono (N := 0 + 18) (by omega) (zz_iload (pc := 32) xf_90_32 (zmem 4 rfl) (zz_iload_n (pc := 34) xf_90_34 (zmem 2 rfl) (zz_icmp (pc := 35) xf_90_35 (by unfold zr32; omega) (by unfold zr32; omega) (fun (zc1 : ¬ (c < n)) => zz_iload (pc := 66) xf_90_66 (zmem 4 rfl) (zz_ireturn (pc := 68) xf_90_68 rfl (by decide +kernel) (by decide +kernel) (by exact ⟨zq_i (by rw [hv]; exact (zcrf_f (fun e => by omega)).symm), rfl⟩))) (fun zc20 => have zc2 : c < n := Classical.not_not.mp zc20; zz_iload_n (pc := 38) xf_90_38 (zmem 3 rfl) (zz_iload_n (pc := 39) xf_90_39 (zmem 1 rfl) (zz_sipush (pc := 40) (x := 10000) xf_90_40 (by decide +kernel) (zz_imul (pc := 43) xf_90_43 (zz_icmp (pc := 44) xf_90_44 (by unfold zr32; omega) (by unfold zr32; omega) (fun (zc3 : ¬ (s < (x * (10000)))) => zz_iload (pc := 66) xf_90_66 (zmem 4 rfl) (zz_ireturn (pc := 68) xf_90_68 rfl (by decide +kernel) (by decide +kernel) (by exact ⟨zq_i (by rw [hv]; exact (zcrf_f (fun e => by omega)).symm), rfl⟩))) (fun zc40 => have zc4 : s < (x * (10000)) := Classical.not_not.mp zc40; zz_iload_n (pc := 47) xf_90_47 (zmem 3 rfl) (zz_aload_n (pc := 48) xf_90_48 (zmem 0 rfl) (zz_getR (pc := 49) xf_90_49 zis_0 (by decide +kernel) rfl (zz_getR (pc := 52) xf_90_52 zis_105 (by decide +kernel) rfl (zz_iload (pc := 55) xf_90_55 (zmem 4 rfl) (zz_iald (pc := 57) xf_90_57 zis_107 (by omega) (zz_iadd (pc := 58) xf_90_58 (zz_istore_n (pc := 59) xf_90_59 (by decide +kernel) (zG_ro (ρ' := [(3, .int (Int32.ofInt (s + (M 107 c.toNat)))), (0, .ref 0), (1, .int (Int32.ofInt x)), (2, .int (Int32.ofInt n)), (4, .int (Int32.ofInt c))]) rfl (zz_iinc (pc := 60) xf_90_60 (zmem 4 rfl) (by decide +kernel) (zG_ro (ρ' := [(4, .int (Int32.ofInt (c + 1))), (3, .int (Int32.ofInt (s + (M 107 c.toNat)))), (0, .ref 0), (1, .int (Int32.ofInt x)), (2, .int (Int32.ofInt n))]) rfl (zz_goto (pc := 63) xf_90_63 ((by exfalso; omega))))))))))))))))))))))
  | succ zn ih =>
    intro s c hv hs hc hm
    have hFc : c < n → 0 ≤ M 107 c.toNat ∧ M 107 c.toNat ≤ 1000000 := fun h => hF _ (by omega)
    exact zG_mono (N := zn * 18 + 18 + 0 + 18) (by omega) (zz_iload (pc := 32) xf_90_32 (zmem 4 rfl) (zz_iload_n (pc := 34) xf_90_34 (zmem 2 rfl) (zz_icmp (pc := 35) xf_90_35 (by unfold zr32; omega) (by unfold zr32; omega) (fun (zc1 : ¬ (c < n)) => zz_iload (pc := 66) xf_90_66 (zmem 4 rfl) (zz_ireturn (pc := 68) xf_90_68 rfl (by decide +kernel) (by decide +kernel) (by exact ⟨zq_i (by rw [hv]; exact (zcrf_f (fun e => by omega)).symm), rfl⟩))) (fun zc20 => have zc2 : c < n := Classical.not_not.mp zc20; zz_iload_n (pc := 38) xf_90_38 (zmem 3 rfl) (zz_iload_n (pc := 39) xf_90_39 (zmem 1 rfl) (zz_sipush (pc := 40) (x := 10000) xf_90_40 (by decide +kernel) (zz_imul (pc := 43) xf_90_43 (zz_icmp (pc := 44) xf_90_44 (by unfold zr32; omega) (by unfold zr32; omega) (fun (zc3 : ¬ (s < (x * (10000)))) => zz_iload (pc := 66) xf_90_66 (zmem 4 rfl) (zz_ireturn (pc := 68) xf_90_68 rfl (by decide +kernel) (by decide +kernel) (by exact ⟨zq_i (by rw [hv]; exact (zcrf_f (fun e => by omega)).symm), rfl⟩))) (fun zc40 => have zc4 : s < (x * (10000)) := Classical.not_not.mp zc40; zz_iload_n (pc := 47) xf_90_47 (zmem 3 rfl) (zz_aload_n (pc := 48) xf_90_48 (zmem 0 rfl) (zz_getR (pc := 49) xf_90_49 zis_0 (by decide +kernel) rfl (zz_getR (pc := 52) xf_90_52 zis_105 (by decide +kernel) rfl (zz_iload (pc := 55) xf_90_55 (zmem 4 rfl) (zz_iald (pc := 57) xf_90_57 zis_107 (by omega) (zz_iadd (pc := 58) xf_90_58 (zz_istore_n (pc := 59) xf_90_59 (by decide +kernel) (zG_ro (ρ' := [(3, .int (Int32.ofInt (s + (M 107 c.toNat)))), (0, .ref 0), (1, .int (Int32.ofInt x)), (2, .int (Int32.ofInt n)), (4, .int (Int32.ofInt c))]) rfl (zz_iinc (pc := 60) xf_90_60 (zmem 4 rfl) (by decide +kernel) (zG_ro (ρ' := [(4, .int (Int32.ofInt (c + 1))), (3, .int (Int32.ofInt (s + (M 107 c.toNat)))), (0, .ref 0), (1, .int (Int32.ofInt x)), (2, .int (Int32.ofInt n))]) rfl (zz_goto (pc := 63) xf_90_63 (zG_mono (N := zn * 18 + 18) (by omega) (zG_sub (List.forall_mem_cons.mpr ⟨zmem 2 rfl, (List.forall_mem_cons.mpr ⟨zmem 3 rfl, (List.forall_mem_cons.mpr ⟨zmem 4 rfl, (List.forall_mem_cons.mpr ⟨zmem 1 rfl, (List.forall_mem_cons.mpr ⟨zmem 0 rfl, (fun p hp => absurd hp List.not_mem_nil)⟩)⟩)⟩)⟩)⟩) (ih (s + (M 107 c.toNat)) (c + 1)  (by rw [hv]; exact zcrf_t (by omega) (by omega)) (by omega) (by omega) (by omega))))))))))))))))))))))))
theorem sp_coreP_0 {xs : List Int32} {d : Nat} {w : Bool} {M : zM} (hI : zCI M) {x : Int} (hx : zr32 x) (c0 : ¬ (1 ≤ x ∧ x ≤ 100)) : xrun2 xs (d + 3) 90 [.ref 0, .int (Int32.ofInt x)] (w, zheap M) = some (.inr 0, (false, zheap M)) := by
  have hg := hI.g
  have ht := hI.tb
  have hK := zCI_kp hI
  have hX : ∀ q : Nat, q < 25 → zkpM M zn1 q = M q := fun q h => zkp_o (Or.inl h)
  obtain ⟨⟨g1, g2⟩, ⟨g3, g4⟩, g5⟩ := id hg
  obtain ⟨g6, g7⟩ := hg.sz
  have hz : zsz M zn1 = M (zn1 + 1) 0 * M (zn1 + 1) 1 := rfl
  have hzk : zsz (zrkM M zn1) zn1 = zsz M zn1 := by unfold zsz; rw [zrkM_o (by decide) (by decide)]
  have h7 := zrk_7 hg hI.bl
  exact zrun_v (N := 683) (by decide) rfl (zz_iload_n (pc := 0) xf_90_0 (zmem 1 rfl) (zz_iconst (pc := 1) xf_90_1 (zz_or (((1) ≤ x ∧ x ≤ 100)) (fun (zc1 : (1) ≤ x ∧ x ≤ 100) => zz_call_0 (pc := 2) (cu := 0) (su := 0) (fun ls hr => zz_calS xf_90_2 rfl ls hr) rfl (sp_requirePercent_0 (d := d + 1) hx (by unfold zr32; omega) zc1) (zz_aload_n (pc := 5) xf_90_5 (zmem 0 rfl) (zz_getR (pc := 6) xf_90_6 zis_0 (by decide +kernel) rfl (zz_aload_n (pc := 9) xf_90_9 (zmem 0 rfl) (zz_getR (pc := 10) xf_90_10 zis_0 (by decide +kernel) rfl (zz_call_0 (pc := 13) (cu := 1) (su := 6) (fun ls hr => zz_calV xf_90_13 rfl zis_105 ls hr) rfl (sp_rank (d := d) hzn1 hI.g hI.bl hI.r7) (zm_as (fun zM3 (ezM3 : zM3 = zrkM M zn1) => zz_aload_n (pc := 16) xf_90_16 (zmem 0 rfl) (zz_getR (pc := 17) xf_90_17 zis_0 (by decide +kernel) rfl (zz_getR (pc := 20) xf_90_20 (zst_0 hzn1) (by decide +kernel) rfl (zz_call_v (pc := 23) (cu := 1) (su := 6) (fun ls hr => zz_calV xf_90_23 rfl (zst_1 hzn1) ls hr) rfl (sp_size (d := d + 1) hzn1) (zz_istore_n (pc := 26) xf_90_26 (by decide +kernel) (zG_ro (ρ' := [(2, .int (Int32.ofInt (zsz zM3 zn1))), (0, .ref 0), (1, .int (Int32.ofInt x))]) rfl (zz_iconst (pc := 27) xf_90_27 (zz_istore_n (pc := 28) xf_90_28 (by decide +kernel) (zG_ro (ρ' := [(3, .int (Int32.ofInt (0))), (2, .int (Int32.ofInt (zsz zM3 zn1))), (0, .ref 0), (1, .int (Int32.ofInt x))]) rfl (zz_iconst (pc := 29) xf_90_29 (zz_istore (pc := 30) xf_90_30 (by decide +kernel) (zG_ro (ρ' := [(4, .int (Int32.ofInt (0))), (3, .int (Int32.ofInt (0))), (2, .int (Int32.ofInt (zsz zM3 zn1))), (0, .ref 0), (1, .int (Int32.ofInt x))]) rfl (zG_mono (N := 666) (by omega) (zG_sub (List.forall_mem_cons.mpr ⟨zmem 3 rfl, (List.forall_mem_cons.mpr ⟨zmem 4 rfl, (List.forall_mem_cons.mpr ⟨zmem 2 rfl, (List.forall_mem_cons.mpr ⟨zmem 1 rfl, (List.forall_mem_cons.mpr ⟨zmem 0 rfl, (fun p hp => absurd hp List.not_mem_nil)⟩)⟩)⟩)⟩)⟩) ((by exfalso; first | omega | contradiction))))))))))))))))))))))) (fun (zc2 : ¬ ((1) ≤ x ∧ x ≤ 100)) => zz_call_e (pc := 2) (fun ls hr => zz_calS xf_90_2 rfl ls hr) rfl rfl (sp_requirePercent_1 (d := d + 1) hx (by unfold zr32; omega) zc2) (by first | (exfalso; first | omega | contradiction) | (subst_vars; exact ⟨rfl, rfl⟩))))))
theorem sp_coreP_1 {xs : List Int32} {d : Nat} {w : Bool} {M : zM} (hI : zCI M) {x : Int} (hx : zr32 x) (c0 : ¬ (¬ (1 ≤ x ∧ x ≤ 100))) : xrun2 xs (d + 3) 90 [.ref 0, .int (Int32.ofInt x)] (w, zheap M) = some (.inl (some (.int (Int32.ofInt (zcr M x)))), (w, zheap (zrkM M zn1))) := by
  have hg := hI.g
  have ht := hI.tb
  have hK := zCI_kp hI
  have hX : ∀ q : Nat, q < 25 → zkpM M zn1 q = M q := fun q h => zkp_o (Or.inl h)
  obtain ⟨⟨g1, g2⟩, ⟨g3, g4⟩, g5⟩ := id hg
  obtain ⟨g6, g7⟩ := hg.sz
  have hz : zsz M zn1 = M (zn1 + 1) 0 * M (zn1 + 1) 1 := rfl
  have hzk : zsz (zrkM M zn1) zn1 = zsz M zn1 := by unfold zsz; rw [zrkM_o (by decide) (by decide)]
  have h7 := zrk_7 hg hI.bl
  exact zrun_v (N := 683) (by decide) rfl (zz_iload_n (pc := 0) xf_90_0 (zmem 1 rfl) (zz_iconst (pc := 1) xf_90_1 (zz_or (((1) ≤ x ∧ x ≤ 100)) (fun (zc1 : (1) ≤ x ∧ x ≤ 100) => zz_call_0 (pc := 2) (cu := 0) (su := 0) (fun ls hr => zz_calS xf_90_2 rfl ls hr) rfl (sp_requirePercent_0 (d := d + 1) hx (by unfold zr32; omega) zc1) (zz_aload_n (pc := 5) xf_90_5 (zmem 0 rfl) (zz_getR (pc := 6) xf_90_6 zis_0 (by decide +kernel) rfl (zz_aload_n (pc := 9) xf_90_9 (zmem 0 rfl) (zz_getR (pc := 10) xf_90_10 zis_0 (by decide +kernel) rfl (zz_call_0 (pc := 13) (cu := 1) (su := 6) (fun ls hr => zz_calV xf_90_13 rfl zis_105 ls hr) rfl (sp_rank (d := d) hzn1 hI.g hI.bl hI.r7) (zm_as (fun zM3 (ezM3 : zM3 = zrkM M zn1) => zz_aload_n (pc := 16) xf_90_16 (zmem 0 rfl) (zz_getR (pc := 17) xf_90_17 zis_0 (by decide +kernel) rfl (zz_getR (pc := 20) xf_90_20 (zst_0 hzn1) (by decide +kernel) rfl (zz_call_v (pc := 23) (cu := 1) (su := 6) (fun ls hr => zz_calV xf_90_23 rfl (zst_1 hzn1) ls hr) rfl (sp_size (d := d + 1) hzn1) (zz_istore_n (pc := 26) xf_90_26 (by decide +kernel) (zG_ro (ρ' := [(2, .int (Int32.ofInt (zsz zM3 zn1))), (0, .ref 0), (1, .int (Int32.ofInt x))]) rfl (zz_iconst (pc := 27) xf_90_27 (zz_istore_n (pc := 28) xf_90_28 (by decide +kernel) (zG_ro (ρ' := [(3, .int (Int32.ofInt (0))), (2, .int (Int32.ofInt (zsz zM3 zn1))), (0, .ref 0), (1, .int (Int32.ofInt x))]) rfl (zz_iconst (pc := 29) xf_90_29 (zz_istore (pc := 30) xf_90_30 (by decide +kernel) (zG_ro (ρ' := [(4, .int (Int32.ofInt (0))), (3, .int (Int32.ofInt (0))), (2, .int (Int32.ofInt (zsz zM3 zn1))), (0, .ref 0), (1, .int (Int32.ofInt x))]) rfl (zG_mono (N := 666) (by omega) (zG_sub (List.forall_mem_cons.mpr ⟨zmem 3 rfl, (List.forall_mem_cons.mpr ⟨zmem 4 rfl, (List.forall_mem_cons.mpr ⟨zmem 2 rfl, (List.forall_mem_cons.mpr ⟨zmem 1 rfl, (List.forall_mem_cons.mpr ⟨zmem 0 rfl, (fun p hp => absurd hp List.not_mem_nil)⟩)⟩)⟩)⟩)⟩) ((by subst_vars; rw [hzk]; exact zl_core_32 (M := zrkM M zn1) (x := x) (n := zsz M zn1) (by omega) (by omega) h7 36 _ _ (by rw [Int.sub_zero]) (by omega) (by omega) (by omega)))))))))))))))))))))))) (fun (zc2 : ¬ ((1) ≤ x ∧ x ≤ 100)) => zz_call_e (pc := 2) (fun ls hr => zz_calS xf_90_2 rfl ls hr) rfl rfl (sp_requirePercent_1 (d := d + 1) hx (by unfold zr32; omega) zc2) (by exfalso; first | omega | contradiction)))))
theorem zpr_s {M : zM} {i : Int} (h : 0 ≤ i) : zpr M (i + 1).toNat = if (zpr M i.toNat).2.2 < zpo (zpr M i.toNat).1 zn1 i then (zpoM (zpr M i.toNat).1 zn1 i, i, zpo (zpr M i.toNat).1 zn1 i) else (zpoM (zpr M i.toNat).1 zn1 i, (zpr M i.toNat).2.1, (zpr M i.toNat).2.2) := by
  rw [show (i + 1).toNat = i.toNat + 1 by omega]
  conv => lhs; unfold zpr
  rw [Int.toNat_of_nonneg h]
theorem zBr_po {M : zM} {e : Int} (h : zCI M) (he : 0 ≤ e ∧ e < 4) : zBr (zpoM M zn1 e) 104 := by
  unfold zBr zpoM
  rw [zprM_o (by decide)]
  exact zBr_mv hzn1 (by decide) (by decide) h.br h.g h.bl h.tb (h.mv e he)
theorem zCI_po {M : zM} {e : Int} (h : zCI M) (he : 0 ≤ e ∧ e < 4) : zCI (zpoM M zn1 e) := zCI_w h (fun q _ h2 h3 h4 => zpo_o h2 h3 h4) (zBr_po h he) (zCh_c (zpo_o (by decide) (by decide) (by decide)) h.ch)
theorem zpo_b {M : zM} {e : Int} (h : zCI M) (he : 0 ≤ e ∧ e < 4) : 0 ≤ zpo M zn1 e ∧ zpo M zn1 e ≤ 400000000 := by
  have hE := zE9_mv (M := M) (e := e) hzn1
  exact zpm_b (zGr_c hE.e2 h.g) (hE.tb h.tb) (zBr_mv hzn1 (by decide) (by decide) h.br h.g h.bl h.tb (h.mv e he)) (by decide)
theorem zpr_1 {M : zM} {n : Nat} : (zpr M (n + 1)).1 = zpoM (zpr M n).1 zn1 (n : Int) := by
  conv => lhs; unfold zpr
  split <;> rfl
theorem zCI_pr {M : zM} (h : zCI M) : ∀ n, n ≤ 4 → zCI (zpr M n).1
  | 0, _ => h
  | n + 1, hn => by
    rw [zpr_1]
    exact zCI_po (zCI_pr h n (by omega)) (by omega)
theorem zpr_b {M : zM} (h : zCI M) : ∀ n, n ≤ 4 → -1 ≤ (zpr M n).2.2 ∧ (zpr M n).2.2 ≤ 400000000
  | 0, _ => by show -1 ≤ (-1 : Int) ∧ (-1 : Int) ≤ 400000000; decide
  | n + 1, hn => by
    have ih := zpr_b h n (by omega)
    have h1 := zpo_b (e := (n : Int)) (zCI_pr h n (by omega)) (by omega)
    unfold zpr
    split
    · exact ⟨Int.le_trans (by decide) h1.1, h1.2⟩
    · exact ih
theorem zl_promising_9 {xs : List Int32} {d : Nat} {w : Bool}  {M0 : zM} (hI : zCI M0)  : ∀ (zn : Nat) (b g i : Int) (M : zM), (M = (zpr M0 i.toNat).1) → (b = (zpr M0 i.toNat).2.1) → (g = (zpr M0 i.toNat).2.2) → (0 ≤ i ∧ i ≤ 4) → 4 - i ≤ (zn : Int) → zG (xstep (xrun2 xs (d + 7)) xs 93) 93 (zn * 20 + 20) 9 [(0, .ref 0), (1, .int (Int32.ofInt b)), (2, .long (Int64.ofInt g)), (4, .int (Int32.ofInt i))] [] 0 0 w M (fun o σ => o = (.inl (some (.int (Int32.ofInt ((zpr M0 4).2.1)))) : XO) ∧ σ = (w, zheap ((zpr M0 4).1))) := by
  intro zn
  induction zn with
  | zero =>
    intro b g i M hM hb hgv hi hm
    have hJ : zCI M := by rw [hM]; exact zCI_pr hI _ (by omega)
    have hgb := zpr_b hI i.toNat (by omega)
    have hpb : i < 4 → 0 ≤ zpo M zn1 i ∧ zpo M zn1 i ≤ 400000000 := fun h => zpo_b hJ (by omega)
    exact zG_mono (N := 0 + 20) (by omega) (zz_iload (pc := 9) xf_93_9 (zmem 3 rfl) (zz_iconst (pc := 11) xf_93_11 (zz_icmp (pc := 12) xf_93_12 (by unfold zr32; omega) ⟨by decide, by decide⟩ (fun (zc1 : ¬ (i < (4))) => zz_iload_n (pc := 49) xf_93_49 (zmem 1 rfl) (zz_ireturn (pc := 50) xf_93_50 rfl (by decide +kernel) (by decide +kernel) (by exact ⟨zq_i (by rw [hb, show i.toNat = 4 by omega]), by rw [hM, show i.toNat = 4 by omega]⟩))) (fun zc20 => have zc2 : i < (4) := Classical.not_not.mp zc20; zz_aload_n (pc := 15) xf_93_15 (zmem 0 rfl) (zz_getR (pc := 16) xf_93_16 zis_0 (by decide +kernel) rfl (zz_aload_n (pc := 19) xf_93_19 (zmem 0 rfl) (zz_getR (pc := 20) xf_93_20 zis_0 (by decide +kernel) rfl (zz_iload (pc := 23) xf_93_23 (zmem 3 rfl) (zz_call_v (pc := 25) (cu := 0) (su := 0) (fun ls hr => zz_calV xf_93_25 rfl zis_101 ls hr) rfl (sp_promiseOf (d := d) hzn1 (by omega) hJ.g hJ.nb hJ.bl hJ.tb hJ.br (hJ.mv _ (by omega))) (zm_as (fun zM3 (ezM3 : zM3 = zpoM M zn1 i) => zz_lstore (pc := 28) xf_93_28 (by decide +kernel) (zG_ro (ρ' := [(5, .long (Int64.ofInt (zpo M zn1 i))), (0, .ref 0), (1, .int (Int32.ofInt b)), (2, .long (Int64.ofInt g)), (4, .int (Int32.ofInt i))]) rfl (zz_lload (pc := 30) xf_93_30 (zmem 0 rfl) (zz_lload_n (pc := 32) xf_93_32 (zmem 3 rfl) (zz_lcmp (pc := 33) xf_93_33 xf_93_34 (by unfold zr64; omega) (by unfold zr64; omega) (fun (zc4 : ¬ (g < (zpo M zn1 i))) => zz_iinc (pc := 43) xf_93_43 (zmem 4 rfl) (by decide +kernel) (zG_ro (ρ' := [(4, .int (Int32.ofInt (i + 1))), (5, .long (Int64.ofInt (zpo M zn1 i))), (0, .ref 0), (1, .int (Int32.ofInt b)), (2, .long (Int64.ofInt g))]) rfl (zz_goto (pc := 46) xf_93_46 ((by exfalso; omega))))) (fun zc50 => have zc5 : g < (zpo M zn1 i) := Classical.not_not.mp zc50; zz_lload (pc := 37) xf_93_37 (zmem 0 rfl) (zz_lstore_n (pc := 39) xf_93_39 (by decide +kernel) (zG_ro (ρ' := [(2, .long (Int64.ofInt (zpo M zn1 i))), (5, .long (Int64.ofInt (zpo M zn1 i))), (0, .ref 0), (1, .int (Int32.ofInt b)), (4, .int (Int32.ofInt i))]) rfl (zz_iload (pc := 40) xf_93_40 (zmem 4 rfl) (zz_istore_n (pc := 42) xf_93_42 (by decide +kernel) (zG_ro (ρ' := [(1, .int (Int32.ofInt i)), (2, .long (Int64.ofInt (zpo M zn1 i))), (5, .long (Int64.ofInt (zpo M zn1 i))), (0, .ref 0), (4, .int (Int32.ofInt i))]) rfl (zz_iinc (pc := 43) xf_93_43 (zmem 4 rfl) (by decide +kernel) (zG_ro (ρ' := [(4, .int (Int32.ofInt (i + 1))), (1, .int (Int32.ofInt i)), (2, .long (Int64.ofInt (zpo M zn1 i))), (5, .long (Int64.ofInt (zpo M zn1 i))), (0, .ref 0)]) rfl (zz_goto (pc := 46) xf_93_46 ((by exfalso; omega))))))))))))))))))))))))))
  | succ zn ih =>
    intro b g i M hM hb hgv hi hm
    have hJ : zCI M := by rw [hM]; exact zCI_pr hI _ (by omega)
    have hgb := zpr_b hI i.toNat (by omega)
    have hpb : i < 4 → 0 ≤ zpo M zn1 i ∧ zpo M zn1 i ≤ 400000000 := fun h => zpo_b hJ (by omega)
    exact zG_mono (N := zn * 20 + 20 + 0 + 20) (by omega) (zz_iload (pc := 9) xf_93_9 (zmem 3 rfl) (zz_iconst (pc := 11) xf_93_11 (zz_icmp (pc := 12) xf_93_12 (by unfold zr32; omega) ⟨by decide, by decide⟩ (fun (zc1 : ¬ (i < (4))) => zz_iload_n (pc := 49) xf_93_49 (zmem 1 rfl) (zz_ireturn (pc := 50) xf_93_50 rfl (by decide +kernel) (by decide +kernel) (by exact ⟨zq_i (by rw [hb, show i.toNat = 4 by omega]), by rw [hM, show i.toNat = 4 by omega]⟩))) (fun zc20 => have zc2 : i < (4) := Classical.not_not.mp zc20; zz_aload_n (pc := 15) xf_93_15 (zmem 0 rfl) (zz_getR (pc := 16) xf_93_16 zis_0 (by decide +kernel) rfl (zz_aload_n (pc := 19) xf_93_19 (zmem 0 rfl) (zz_getR (pc := 20) xf_93_20 zis_0 (by decide +kernel) rfl (zz_iload (pc := 23) xf_93_23 (zmem 3 rfl) (zz_call_v (pc := 25) (cu := 0) (su := 0) (fun ls hr => zz_calV xf_93_25 rfl zis_101 ls hr) rfl (sp_promiseOf (d := d) hzn1 (by omega) hJ.g hJ.nb hJ.bl hJ.tb hJ.br (hJ.mv _ (by omega))) (zm_as (fun zM3 (ezM3 : zM3 = zpoM M zn1 i) => zz_lstore (pc := 28) xf_93_28 (by decide +kernel) (zG_ro (ρ' := [(5, .long (Int64.ofInt (zpo M zn1 i))), (0, .ref 0), (1, .int (Int32.ofInt b)), (2, .long (Int64.ofInt g)), (4, .int (Int32.ofInt i))]) rfl (zz_lload (pc := 30) xf_93_30 (zmem 0 rfl) (zz_lload_n (pc := 32) xf_93_32 (zmem 3 rfl) (zz_lcmp (pc := 33) xf_93_33 xf_93_34 (by unfold zr64; omega) (by unfold zr64; omega) (fun (zc4 : ¬ (g < (zpo M zn1 i))) => zz_iinc (pc := 43) xf_93_43 (zmem 4 rfl) (by decide +kernel) (zG_ro (ρ' := [(4, .int (Int32.ofInt (i + 1))), (5, .long (Int64.ofInt (zpo M zn1 i))), (0, .ref 0), (1, .int (Int32.ofInt b)), (2, .long (Int64.ofInt g))]) rfl (zz_goto (pc := 46) xf_93_46 (zG_mono (N := zn * 20 + 20) (by omega) (zG_sub (List.forall_mem_cons.mpr ⟨zmem 2 rfl, (List.forall_mem_cons.mpr ⟨zmem 3 rfl, (List.forall_mem_cons.mpr ⟨zmem 4 rfl, (List.forall_mem_cons.mpr ⟨zmem 0 rfl, (fun p hp => absurd hp List.not_mem_nil)⟩)⟩)⟩)⟩) (ih b g (i + 1) zM3  (by rw [zpr_s hi.1, if_neg (by rw [← hM, ← hgv]; assumption), ezM3, hM]) (by rw [zpr_s hi.1, if_neg (by rw [← hM, ← hgv]; assumption)]; exact hb) (by rw [zpr_s hi.1, if_neg (by rw [← hM, ← hgv]; assumption)]; exact hgv) (by omega) (by omega))))))) (fun zc50 => have zc5 : g < (zpo M zn1 i) := Classical.not_not.mp zc50; zz_lload (pc := 37) xf_93_37 (zmem 0 rfl) (zz_lstore_n (pc := 39) xf_93_39 (by decide +kernel) (zG_ro (ρ' := [(2, .long (Int64.ofInt (zpo M zn1 i))), (5, .long (Int64.ofInt (zpo M zn1 i))), (0, .ref 0), (1, .int (Int32.ofInt b)), (4, .int (Int32.ofInt i))]) rfl (zz_iload (pc := 40) xf_93_40 (zmem 4 rfl) (zz_istore_n (pc := 42) xf_93_42 (by decide +kernel) (zG_ro (ρ' := [(1, .int (Int32.ofInt i)), (2, .long (Int64.ofInt (zpo M zn1 i))), (5, .long (Int64.ofInt (zpo M zn1 i))), (0, .ref 0), (4, .int (Int32.ofInt i))]) rfl (zz_iinc (pc := 43) xf_93_43 (zmem 4 rfl) (by decide +kernel) (zG_ro (ρ' := [(4, .int (Int32.ofInt (i + 1))), (1, .int (Int32.ofInt i)), (2, .long (Int64.ofInt (zpo M zn1 i))), (5, .long (Int64.ofInt (zpo M zn1 i))), (0, .ref 0)]) rfl (zz_goto (pc := 46) xf_93_46 (zG_mono (N := zn * 20 + 20) (by omega) (zG_sub (List.forall_mem_cons.mpr ⟨zmem 4 rfl, (List.forall_mem_cons.mpr ⟨zmem 1 rfl, (List.forall_mem_cons.mpr ⟨zmem 2 rfl, (List.forall_mem_cons.mpr ⟨zmem 0 rfl, (fun p hp => absurd hp List.not_mem_nil)⟩)⟩)⟩)⟩) (ih i (zpo M zn1 i) (i + 1) zM3  (by rw [zpr_s hi.1, if_pos (by rw [← hM, ← hgv]; assumption), ezM3, hM]) (by rw [zpr_s hi.1, if_pos (by rw [← hM, ← hgv]; assumption)]) (by rw [zpr_s hi.1, if_pos (by rw [← hM, ← hgv]; assumption)]; show zpo M zn1 i = zpo (zpr M0 i.toNat).1 zn1 i; rw [← hM]) (by omega) (by omega))))))))))))))))))))))))))))
theorem sp_promisingP {xs : List Int32} {d : Nat} {w : Bool} {M : zM} (hI : zCI M) : xrun2 xs (d + 8) 93 [.ref 0] (w, zheap M) = some (.inl (some (.int (Int32.ofInt ((zpr M 4).2.1)))), (w, zheap ((zpr M 4).1))) := by
  have hg := hI.g
  have ht := hI.tb
  have hK := zCI_kp hI
  have hX : ∀ q : Nat, q < 25 → zkpM M zn1 q = M q := fun q h => zkp_o (Or.inl h)
  obtain ⟨⟨g1, g2⟩, ⟨g3, g4⟩, g5⟩ := id hg
  obtain ⟨g6, g7⟩ := hg.sz
  have hz : zsz M zn1 = M (zn1 + 1) 0 * M (zn1 + 1) 1 := rfl
  exact zrun_v (N := 106) (by decide) rfl (zz_iconst (pc := 0) xf_93_0 (zz_istore_n (pc := 1) xf_93_1 (by decide +kernel) (zG_ro (ρ' := [(1, .int (Int32.ofInt (0))), (0, .ref 0)]) rfl (zz_ldc2_w (pc := 2) (v := .long (Int64.ofInt (-1))) xf_93_2 (by decide +kernel) (zz_lstore_n (pc := 5) xf_93_5 (by decide +kernel) (zG_ro (ρ' := [(2, .long (Int64.ofInt (-1))), (1, .int (Int32.ofInt (0))), (0, .ref 0)]) rfl (zz_iconst (pc := 6) xf_93_6 (zz_istore (pc := 7) xf_93_7 (by decide +kernel) (zG_ro (ρ' := [(4, .int (Int32.ofInt (0))), (2, .long (Int64.ofInt (-1))), (1, .int (Int32.ofInt (0))), (0, .ref 0)]) rfl (zG_mono (N := 100) (by omega) (zG_sub (List.forall_mem_cons.mpr ⟨zmem 3 rfl, (List.forall_mem_cons.mpr ⟨zmem 2 rfl, (List.forall_mem_cons.mpr ⟨zmem 1 rfl, (List.forall_mem_cons.mpr ⟨zmem 0 rfl, (fun p hp => absurd hp List.not_mem_nil)⟩)⟩)⟩)⟩) (zl_promising_9 (M0 := M) hI 4 _ _ _ _ rfl rfl rfl (by omega) (by omega)))))))))))))
theorem sp_exactP_0 {xs : List Int32} {d : Nat} {w : Bool} {M : zM} (hI : zCI M) {x : Int} (hx : zr32 x) (hda : zDa M zn1) (hze : ∀ k : Nat, (k : Int) < zmi (ztot M zn1) 8 → zEr (zwe M zn1 k 109)) (c0 : ¬ (0 ≤ x ∧ x < zsz M zn1)) : xrun2 xs (d + 6) 96 [.ref 0, .int (Int32.ofInt x)] (w, zheap M) = some (.inr 2, (false, zheap M)) := by
  have hg := hI.g
  have ht := hI.tb
  have hK := zCI_kp hI
  have hX : ∀ q : Nat, q < 25 → zkpM M zn1 q = M q := fun q h => zkp_o (Or.inl h)
  obtain ⟨⟨g1, g2⟩, ⟨g3, g4⟩, g5⟩ := id hg
  obtain ⟨g6, g7⟩ := hg.sz
  have hz : zsz M zn1 = M (zn1 + 1) 0 * M (zn1 + 1) 1 := rfl
  have hr := hI.tr
  obtain ⟨⟨r1, r2⟩, ⟨r3, r4⟩, ⟨r5, r6⟩, r7, r8⟩ := id hr
  have htt : ztot M zn1 = M (zn1 + 8) 1 + M (zn1 + 8) 2 := rfl
  exact zrun_v (N := 15) (by decide) rfl (zz_aload_n (pc := 0) xf_96_0 (zmem 0 rfl) (zz_iload_n (pc := 1) xf_96_1 (zmem 1 rfl) (zz_or ((0 ≤ x ∧ x < zsz M zn1)) (fun (zc1 : 0 ≤ x ∧ x < zsz M zn1) => zz_call_0 (pc := 2) (cu := 0) (su := 0) (fun ls hr => zz_calV xf_96_2 rfl zis_0 ls hr) rfl (sp_requireCell_0 (d := d + 3) hx hI.g zc1) (zz_aload_n (pc := 5) xf_96_5 (zmem 0 rfl) (zz_or ((ztot M zn1 ≤ 8)) (fun (zc3 : ztot M zn1 ≤ 8) => zz_call_0 (pc := 6) (cu := 1) (su := 6) (fun ls hr => zz_calV xf_96_6 rfl zis_0 ls hr) rfl (sp_requireExactWeights_0 (d := d + 3) hI.tr zc3) (zz_aload_n (pc := 9) xf_96_9 (zmem 0 rfl) (zz_getR (pc := 10) xf_96_10 zis_0 (by decide +kernel) rfl (zz_aload_n (pc := 13) xf_96_13 (zmem 0 rfl) (zz_getR (pc := 14) xf_96_14 zis_0 (by decide +kernel) rfl (zz_call_0 (pc := 17) (cu := 2) (su := 12) (fun ls hr => zz_calV xf_96_17 rfl zis_108 ls hr) rfl (sp_weighEnds (d := d) hzn1 hI.g hI.nb hI.tr hda hze) (zm_as (fun zM5 (ezM5 : zM5 = zweM M zn1) => zz_aload_n (pc := 20) xf_96_20 (zmem 0 rfl) (zz_getR (pc := 21) xf_96_21 zis_0 (by decide +kernel) rfl (zz_getR (pc := 24) xf_96_24 zis_108 (by decide +kernel) rfl (zz_iload_n (pc := 27) xf_96_27 (zmem 1 rfl) (zz_lald (pc := 28) xf_96_28 zis_109 (by omega) (zz_lreturn (pc := 29) xf_96_29 rfl (by decide +kernel) (by decide +kernel) (by first | (exfalso; first | omega | contradiction) | (subst_vars; exact ⟨rfl, rfl⟩))))))))))))))) (fun (zc4 : ¬ (ztot M zn1 ≤ 8)) => zz_call_e (pc := 6) (fun ls hr => zz_calV xf_96_6 rfl zis_0 ls hr) rfl rfl (sp_requireExactWeights_1 (d := d + 3) hI.tr zc4) (by first | (exfalso; first | omega | contradiction) | (subst_vars; exact ⟨rfl, rfl⟩)))))) (fun (zc2 : ¬ (0 ≤ x ∧ x < zsz M zn1)) => zz_call_e (pc := 2) (fun ls hr => zz_calV xf_96_2 rfl zis_0 ls hr) rfl rfl (sp_requireCell_1 (d := d + 3) hx hI.g zc2) (by first | (exfalso; first | omega | contradiction) | (subst_vars; exact ⟨rfl, rfl⟩))))))
theorem sp_exactP_1 {xs : List Int32} {d : Nat} {w : Bool} {M : zM} (hI : zCI M) {x : Int} (hx : zr32 x) (hda : zDa M zn1) (hze : ∀ k : Nat, (k : Int) < zmi (ztot M zn1) 8 → zEr (zwe M zn1 k 109)) (c0 : ¬ (¬ (0 ≤ x ∧ x < zsz M zn1))) (c1 : ¬ ztot M zn1 ≤ 8) : xrun2 xs (d + 6) 96 [.ref 0, .int (Int32.ofInt x)] (w, zheap M) = some (.inr 1, (false, zheap M)) := by
  have hg := hI.g
  have ht := hI.tb
  have hK := zCI_kp hI
  have hX : ∀ q : Nat, q < 25 → zkpM M zn1 q = M q := fun q h => zkp_o (Or.inl h)
  obtain ⟨⟨g1, g2⟩, ⟨g3, g4⟩, g5⟩ := id hg
  obtain ⟨g6, g7⟩ := hg.sz
  have hz : zsz M zn1 = M (zn1 + 1) 0 * M (zn1 + 1) 1 := rfl
  have hr := hI.tr
  obtain ⟨⟨r1, r2⟩, ⟨r3, r4⟩, ⟨r5, r6⟩, r7, r8⟩ := id hr
  have htt : ztot M zn1 = M (zn1 + 8) 1 + M (zn1 + 8) 2 := rfl
  exact zrun_v (N := 15) (by decide) rfl (zz_aload_n (pc := 0) xf_96_0 (zmem 0 rfl) (zz_iload_n (pc := 1) xf_96_1 (zmem 1 rfl) (zz_or ((0 ≤ x ∧ x < zsz M zn1)) (fun (zc1 : 0 ≤ x ∧ x < zsz M zn1) => zz_call_0 (pc := 2) (cu := 0) (su := 0) (fun ls hr => zz_calV xf_96_2 rfl zis_0 ls hr) rfl (sp_requireCell_0 (d := d + 3) hx hI.g zc1) (zz_aload_n (pc := 5) xf_96_5 (zmem 0 rfl) (zz_or ((ztot M zn1 ≤ 8)) (fun (zc3 : ztot M zn1 ≤ 8) => zz_call_0 (pc := 6) (cu := 1) (su := 6) (fun ls hr => zz_calV xf_96_6 rfl zis_0 ls hr) rfl (sp_requireExactWeights_0 (d := d + 3) hI.tr zc3) (zz_aload_n (pc := 9) xf_96_9 (zmem 0 rfl) (zz_getR (pc := 10) xf_96_10 zis_0 (by decide +kernel) rfl (zz_aload_n (pc := 13) xf_96_13 (zmem 0 rfl) (zz_getR (pc := 14) xf_96_14 zis_0 (by decide +kernel) rfl (zz_call_0 (pc := 17) (cu := 2) (su := 12) (fun ls hr => zz_calV xf_96_17 rfl zis_108 ls hr) rfl (sp_weighEnds (d := d) hzn1 hI.g hI.nb hI.tr hda hze) (zm_as (fun zM5 (ezM5 : zM5 = zweM M zn1) => zz_aload_n (pc := 20) xf_96_20 (zmem 0 rfl) (zz_getR (pc := 21) xf_96_21 zis_0 (by decide +kernel) rfl (zz_getR (pc := 24) xf_96_24 zis_108 (by decide +kernel) rfl (zz_iload_n (pc := 27) xf_96_27 (zmem 1 rfl) (zz_lald (pc := 28) xf_96_28 zis_109 (by omega) (zz_lreturn (pc := 29) xf_96_29 rfl (by decide +kernel) (by decide +kernel) (by first | (exfalso; first | omega | contradiction) | (subst_vars; exact ⟨rfl, rfl⟩))))))))))))))) (fun (zc4 : ¬ (ztot M zn1 ≤ 8)) => zz_call_e (pc := 6) (fun ls hr => zz_calV xf_96_6 rfl zis_0 ls hr) rfl rfl (sp_requireExactWeights_1 (d := d + 3) hI.tr zc4) (by first | (exfalso; first | omega | contradiction) | (subst_vars; exact ⟨rfl, rfl⟩)))))) (fun (zc2 : ¬ (0 ≤ x ∧ x < zsz M zn1)) => zz_call_e (pc := 2) (fun ls hr => zz_calV xf_96_2 rfl zis_0 ls hr) rfl rfl (sp_requireCell_1 (d := d + 3) hx hI.g zc2) (by first | (exfalso; first | omega | contradiction) | (subst_vars; exact ⟨rfl, rfl⟩))))))
theorem sp_exactP_2 {xs : List Int32} {d : Nat} {w : Bool} {M : zM} (hI : zCI M) {x : Int} (hx : zr32 x) (hda : zDa M zn1) (hze : ∀ k : Nat, (k : Int) < zmi (ztot M zn1) 8 → zEr (zwe M zn1 k 109)) (c0 : ¬ (¬ (0 ≤ x ∧ x < zsz M zn1))) (c1 : ¬ (¬ ztot M zn1 ≤ 8)) : xrun2 xs (d + 6) 96 [.ref 0, .int (Int32.ofInt x)] (w, zheap M) = some (.inl (some (.long (Int64.ofInt (zweM M zn1 109 x.toNat)))), (w, zheap (zweM M zn1))) := by
  have hg := hI.g
  have ht := hI.tb
  have hK := zCI_kp hI
  have hX : ∀ q : Nat, q < 25 → zkpM M zn1 q = M q := fun q h => zkp_o (Or.inl h)
  obtain ⟨⟨g1, g2⟩, ⟨g3, g4⟩, g5⟩ := id hg
  obtain ⟨g6, g7⟩ := hg.sz
  have hz : zsz M zn1 = M (zn1 + 1) 0 * M (zn1 + 1) 1 := rfl
  have hr := hI.tr
  obtain ⟨⟨r1, r2⟩, ⟨r3, r4⟩, ⟨r5, r6⟩, r7, r8⟩ := id hr
  have htt : ztot M zn1 = M (zn1 + 8) 1 + M (zn1 + 8) 2 := rfl
  exact zrun_v (N := 15) (by decide) rfl (zz_aload_n (pc := 0) xf_96_0 (zmem 0 rfl) (zz_iload_n (pc := 1) xf_96_1 (zmem 1 rfl) (zz_or ((0 ≤ x ∧ x < zsz M zn1)) (fun (zc1 : 0 ≤ x ∧ x < zsz M zn1) => zz_call_0 (pc := 2) (cu := 0) (su := 0) (fun ls hr => zz_calV xf_96_2 rfl zis_0 ls hr) rfl (sp_requireCell_0 (d := d + 3) hx hI.g zc1) (zz_aload_n (pc := 5) xf_96_5 (zmem 0 rfl) (zz_or ((ztot M zn1 ≤ 8)) (fun (zc3 : ztot M zn1 ≤ 8) => zz_call_0 (pc := 6) (cu := 1) (su := 6) (fun ls hr => zz_calV xf_96_6 rfl zis_0 ls hr) rfl (sp_requireExactWeights_0 (d := d + 3) hI.tr zc3) (zz_aload_n (pc := 9) xf_96_9 (zmem 0 rfl) (zz_getR (pc := 10) xf_96_10 zis_0 (by decide +kernel) rfl (zz_aload_n (pc := 13) xf_96_13 (zmem 0 rfl) (zz_getR (pc := 14) xf_96_14 zis_0 (by decide +kernel) rfl (zz_call_0 (pc := 17) (cu := 2) (su := 12) (fun ls hr => zz_calV xf_96_17 rfl zis_108 ls hr) rfl (sp_weighEnds (d := d) hzn1 hI.g hI.nb hI.tr hda hze) (zm_as (fun zM5 (ezM5 : zM5 = zweM M zn1) => zz_aload_n (pc := 20) xf_96_20 (zmem 0 rfl) (zz_getR (pc := 21) xf_96_21 zis_0 (by decide +kernel) rfl (zz_getR (pc := 24) xf_96_24 zis_108 (by decide +kernel) rfl (zz_iload_n (pc := 27) xf_96_27 (zmem 1 rfl) (zz_lald (pc := 28) xf_96_28 zis_109 (by omega) (zz_lreturn (pc := 29) xf_96_29 rfl (by decide +kernel) (by decide +kernel) (by first | (exfalso; first | omega | contradiction) | (subst_vars; exact ⟨rfl, rfl⟩))))))))))))))) (fun (zc4 : ¬ (ztot M zn1 ≤ 8)) => zz_call_e (pc := 6) (fun ls hr => zz_calV xf_96_6 rfl zis_0 ls hr) rfl rfl (sp_requireExactWeights_1 (d := d + 3) hI.tr zc4) (by first | (exfalso; first | omega | contradiction) | (subst_vars; exact ⟨rfl, rfl⟩)))))) (fun (zc2 : ¬ (0 ≤ x ∧ x < zsz M zn1)) => zz_call_e (pc := 2) (fun ls hr => zz_calV xf_96_2 rfl zis_0 ls hr) rfl rfl (sp_requireCell_1 (d := d + 3) hx hI.g zc2) (by first | (exfalso; first | omega | contradiction) | (subst_vars; exact ⟨rfl, rfl⟩))))))
theorem zl_likely_30 {xs : List Int32} {d : Nat} {w : Bool} {M : zM} {n : Int} (hn : 1 ≤ n ∧ n ≤ 36) (hr : ∀ j : Nat, (j : Int) < n → zr64 (M 109 j))  : ∀ (zn : Nat) (b i : Int), (b = ((zbestf (M 109) (i - 1).toNat : Nat) : Int)) → (1 ≤ i ∧ i ≤ n) → n - i ≤ (zn : Int) → zG (xstep (xrun2 xs (d + 5)) xs 97) 97 (zn * 19 + 19) 30 [(0, .ref 0), (1, .int (Int32.ofInt n)), (2, .int (Int32.ofInt b)), (3, .int (Int32.ofInt i))] [] 1 6 w M (fun o σ => o = (.inl (some (.int (Int32.ofInt ((zbest (M 109) n.toNat : Nat) : Int)))) : XO) ∧ σ = (w, zheap M)) := by
  intro zn
  induction zn with
  | zero =>
    intro b i hb hi hm
    have hbl := zbestf_le (M 109) (i - 1).toNat
    exact zG_mono (N := 0 + 19) (by omega) (zz_iload_n (pc := 30) xf_97_30 (zmem 3 rfl) (zz_iload_n (pc := 31) xf_97_31 (zmem 1 rfl) (zz_icmp (pc := 32) xf_97_32 (by unfold zr32; omega) (by unfold zr32; omega) (fun (zc1 : ¬ (i < n)) => zz_iload_n (pc := 65) xf_97_65 (zmem 2 rfl) (zz_ireturn (pc := 66) xf_97_66 rfl (by decide +kernel) (by decide +kernel) (by exact ⟨zq_i (by rw [hb]; unfold zbest; rw [show (i - 1).toNat = n.toNat - 1 by omega]), rfl⟩))) (fun zc20 => have zc2 : i < n := Classical.not_not.mp zc20; zz_aload_n (pc := 35) xf_97_35 (zmem 0 rfl) (zz_getR (pc := 36) xf_97_36 zis_0 (by decide +kernel) rfl (zz_getR (pc := 39) xf_97_39 zis_108 (by decide +kernel) rfl (zz_iload_n (pc := 42) xf_97_42 (zmem 3 rfl) (zz_lald (pc := 43) xf_97_43 zis_109 (by omega) (zz_aload_n (pc := 44) xf_97_44 (zmem 0 rfl) (zz_getR (pc := 45) xf_97_45 zis_0 (by decide +kernel) rfl (zz_getR (pc := 48) xf_97_48 zis_108 (by decide +kernel) rfl (zz_iload_n (pc := 51) xf_97_51 (zmem 2 rfl) (zz_lald (pc := 52) xf_97_52 zis_109 (by omega) (zz_lcmp (pc := 53) xf_97_53 xf_97_54 (hr _ (by omega)) (hr _ (by omega)) (fun (zc3 : ¬ ((M 109 b.toNat) < (M 109 i.toNat))) => zz_iinc (pc := 59) xf_97_59 (zmem 3 rfl) (by decide +kernel) (zG_ro (ρ' := [(3, .int (Int32.ofInt (i + 1))), (0, .ref 0), (1, .int (Int32.ofInt n)), (2, .int (Int32.ofInt b))]) rfl (zz_goto (pc := 62) xf_97_62 ((by exfalso; omega))))) (fun zc40 => have zc4 : (M 109 b.toNat) < (M 109 i.toNat) := Classical.not_not.mp zc40; zz_iload_n (pc := 57) xf_97_57 (zmem 3 rfl) (zz_istore_n (pc := 58) xf_97_58 (by decide +kernel) (zG_ro (ρ' := [(2, .int (Int32.ofInt i)), (0, .ref 0), (1, .int (Int32.ofInt n)), (3, .int (Int32.ofInt i))]) rfl (zz_iinc (pc := 59) xf_97_59 (zmem 3 rfl) (by decide +kernel) (zG_ro (ρ' := [(3, .int (Int32.ofInt (i + 1))), (2, .int (Int32.ofInt i)), (0, .ref 0), (1, .int (Int32.ofInt n))]) rfl (zz_goto (pc := 62) xf_97_62 ((by exfalso; omega))))))))))))))))))))))
  | succ zn ih =>
    intro b i hb hi hm
    have hbl := zbestf_le (M 109) (i - 1).toNat
    exact zG_mono (N := zn * 19 + 19 + 0 + 19) (by omega) (zz_iload_n (pc := 30) xf_97_30 (zmem 3 rfl) (zz_iload_n (pc := 31) xf_97_31 (zmem 1 rfl) (zz_icmp (pc := 32) xf_97_32 (by unfold zr32; omega) (by unfold zr32; omega) (fun (zc1 : ¬ (i < n)) => zz_iload_n (pc := 65) xf_97_65 (zmem 2 rfl) (zz_ireturn (pc := 66) xf_97_66 rfl (by decide +kernel) (by decide +kernel) (by exact ⟨zq_i (by rw [hb]; unfold zbest; rw [show (i - 1).toNat = n.toNat - 1 by omega]), rfl⟩))) (fun zc20 => have zc2 : i < n := Classical.not_not.mp zc20; zz_aload_n (pc := 35) xf_97_35 (zmem 0 rfl) (zz_getR (pc := 36) xf_97_36 zis_0 (by decide +kernel) rfl (zz_getR (pc := 39) xf_97_39 zis_108 (by decide +kernel) rfl (zz_iload_n (pc := 42) xf_97_42 (zmem 3 rfl) (zz_lald (pc := 43) xf_97_43 zis_109 (by omega) (zz_aload_n (pc := 44) xf_97_44 (zmem 0 rfl) (zz_getR (pc := 45) xf_97_45 zis_0 (by decide +kernel) rfl (zz_getR (pc := 48) xf_97_48 zis_108 (by decide +kernel) rfl (zz_iload_n (pc := 51) xf_97_51 (zmem 2 rfl) (zz_lald (pc := 52) xf_97_52 zis_109 (by omega) (zz_lcmp (pc := 53) xf_97_53 xf_97_54 (hr _ (by omega)) (hr _ (by omega)) (fun (zc3 : ¬ ((M 109 b.toNat) < (M 109 i.toNat))) => zz_iinc (pc := 59) xf_97_59 (zmem 3 rfl) (by decide +kernel) (zG_ro (ρ' := [(3, .int (Int32.ofInt (i + 1))), (0, .ref 0), (1, .int (Int32.ofInt n)), (2, .int (Int32.ofInt b))]) rfl (zz_goto (pc := 62) xf_97_62 (zG_mono (N := zn * 19 + 19) (by omega) (zG_sub (List.forall_mem_cons.mpr ⟨zmem 1 rfl, (List.forall_mem_cons.mpr ⟨zmem 2 rfl, (List.forall_mem_cons.mpr ⟨zmem 3 rfl, (List.forall_mem_cons.mpr ⟨zmem 0 rfl, (fun p hp => absurd hp List.not_mem_nil)⟩)⟩)⟩)⟩) (ih b (i + 1)  (by rw [show i + 1 - 1 = i by omega, zbestf_i hi.1]; subst hb; rw [Int.toNat_natCast] at *; split <;> omega) (by omega) (by omega))))))) (fun zc40 => have zc4 : (M 109 b.toNat) < (M 109 i.toNat) := Classical.not_not.mp zc40; zz_iload_n (pc := 57) xf_97_57 (zmem 3 rfl) (zz_istore_n (pc := 58) xf_97_58 (by decide +kernel) (zG_ro (ρ' := [(2, .int (Int32.ofInt i)), (0, .ref 0), (1, .int (Int32.ofInt n)), (3, .int (Int32.ofInt i))]) rfl (zz_iinc (pc := 59) xf_97_59 (zmem 3 rfl) (by decide +kernel) (zG_ro (ρ' := [(3, .int (Int32.ofInt (i + 1))), (2, .int (Int32.ofInt i)), (0, .ref 0), (1, .int (Int32.ofInt n))]) rfl (zz_goto (pc := 62) xf_97_62 (zG_mono (N := zn * 19 + 19) (by omega) (zG_sub (List.forall_mem_cons.mpr ⟨zmem 2 rfl, (List.forall_mem_cons.mpr ⟨zmem 3 rfl, (List.forall_mem_cons.mpr ⟨zmem 1 rfl, (List.forall_mem_cons.mpr ⟨zmem 0 rfl, (fun p hp => absurd hp List.not_mem_nil)⟩)⟩)⟩)⟩) (ih i (i + 1)  (by rw [show i + 1 - 1 = i by omega, zbestf_i hi.1]; subst hb; rw [Int.toNat_natCast] at *; split <;> omega) (by omega) (by omega))))))))))))))))))))))))
theorem sp_likelyP_0 {xs : List Int32} {d : Nat} {w : Bool} {M : zM} (hI : zCI M) (hda : zDa M zn1) (hze : ∀ k : Nat, (k : Int) < zmi (ztot M zn1) 8 → zEr (zwe M zn1 k 109)) (hee : ∀ j : Nat, j < 36 → zr64 (zweM M zn1 109 j)) (c0 : ¬ ztot M zn1 ≤ 8) : xrun2 xs (d + 6) 97 [.ref 0] (w, zheap M) = some (.inr 1, (false, zheap M)) := by
  have hg := hI.g
  have ht := hI.tb
  have hK := zCI_kp hI
  have hX : ∀ q : Nat, q < 25 → zkpM M zn1 q = M q := fun q h => zkp_o (Or.inl h)
  obtain ⟨⟨g1, g2⟩, ⟨g3, g4⟩, g5⟩ := id hg
  obtain ⟨g6, g7⟩ := hg.sz
  have hz : zsz M zn1 = M (zn1 + 1) 0 * M (zn1 + 1) 1 := rfl
  have hr := hI.tr
  obtain ⟨⟨r1, r2⟩, ⟨r3, r4⟩, ⟨r5, r6⟩, r7, r8⟩ := id hr
  have htt : ztot M zn1 = M (zn1 + 8) 1 + M (zn1 + 8) 2 := rfl
  have hzk : zsz (zweM M zn1) zn1 = zsz M zn1 := by unfold zsz; rw [show zweM M zn1 (zn1 + 1) = M (zn1 + 1) from zwe_o (by decide) (by decide) _]
  exact zrun_v (N := 719) (by decide) rfl (zz_aload_n (pc := 0) xf_97_0 (zmem 0 rfl) (zz_or ((ztot M zn1 ≤ 8)) (fun (zc1 : ztot M zn1 ≤ 8) => zz_call_0 (pc := 1) (cu := 0) (su := 0) (fun ls hr => zz_calV xf_97_1 rfl zis_0 ls hr) rfl (sp_requireExactWeights_0 (d := d + 3) hI.tr zc1) (zz_aload_n (pc := 4) xf_97_4 (zmem 0 rfl) (zz_getR (pc := 5) xf_97_5 zis_0 (by decide +kernel) rfl (zz_aload_n (pc := 8) xf_97_8 (zmem 0 rfl) (zz_getR (pc := 9) xf_97_9 zis_0 (by decide +kernel) rfl (zz_call_0 (pc := 12) (cu := 1) (su := 6) (fun ls hr => zz_calV xf_97_12 rfl zis_108 ls hr) rfl (sp_weighEnds (d := d) hzn1 hI.g hI.nb hI.tr hda hze) (zm_as (fun zM3 (ezM3 : zM3 = zweM M zn1) => zz_aload_n (pc := 15) xf_97_15 (zmem 0 rfl) (zz_getR (pc := 16) xf_97_16 zis_0 (by decide +kernel) rfl (zz_getR (pc := 19) xf_97_19 (zst_0 hzn1) (by decide +kernel) rfl (zz_call_v (pc := 22) (cu := 1) (su := 6) (fun ls hr => zz_calV xf_97_22 rfl (zst_1 hzn1) ls hr) rfl (sp_size (d := d + 4) hzn1) (zz_istore_n (pc := 25) xf_97_25 (by decide +kernel) (zG_ro (ρ' := [(1, .int (Int32.ofInt (zsz zM3 zn1))), (0, .ref 0)]) rfl (zz_iconst (pc := 26) xf_97_26 (zz_istore_n (pc := 27) xf_97_27 (by decide +kernel) (zG_ro (ρ' := [(2, .int (Int32.ofInt (0))), (1, .int (Int32.ofInt (zsz zM3 zn1))), (0, .ref 0)]) rfl (zz_iconst (pc := 28) xf_97_28 (zz_istore_n (pc := 29) xf_97_29 (by decide +kernel) (zG_ro (ρ' := [(3, .int (Int32.ofInt (1))), (2, .int (Int32.ofInt (0))), (1, .int (Int32.ofInt (zsz zM3 zn1))), (0, .ref 0)]) rfl (zG_mono (N := 703) (by omega) (zG_sub (List.forall_mem_cons.mpr ⟨zmem 3 rfl, (List.forall_mem_cons.mpr ⟨zmem 2 rfl, (List.forall_mem_cons.mpr ⟨zmem 1 rfl, (List.forall_mem_cons.mpr ⟨zmem 0 rfl, (fun p hp => absurd hp List.not_mem_nil)⟩)⟩)⟩)⟩) ((by exfalso; first | omega | contradiction))))))))))))))))))))))) (fun (zc2 : ¬ (ztot M zn1 ≤ 8)) => zz_call_e (pc := 1) (fun ls hr => zz_calV xf_97_1 rfl zis_0 ls hr) rfl rfl (sp_requireExactWeights_1 (d := d + 3) hI.tr zc2) (by first | (exfalso; first | omega | contradiction) | (subst_vars; exact ⟨rfl, rfl⟩)))))
theorem sp_likelyP_1 {xs : List Int32} {d : Nat} {w : Bool} {M : zM} (hI : zCI M) (hda : zDa M zn1) (hze : ∀ k : Nat, (k : Int) < zmi (ztot M zn1) 8 → zEr (zwe M zn1 k 109)) (hee : ∀ j : Nat, j < 36 → zr64 (zweM M zn1 109 j)) (c0 : ¬ (¬ ztot M zn1 ≤ 8)) : xrun2 xs (d + 6) 97 [.ref 0] (w, zheap M) = some (.inl (some (.int (Int32.ofInt ((zbest (zweM M zn1 109) (zsz M zn1).toNat : Nat) : Int)))), (w, zheap (zweM M zn1))) := by
  have hg := hI.g
  have ht := hI.tb
  have hK := zCI_kp hI
  have hX : ∀ q : Nat, q < 25 → zkpM M zn1 q = M q := fun q h => zkp_o (Or.inl h)
  obtain ⟨⟨g1, g2⟩, ⟨g3, g4⟩, g5⟩ := id hg
  obtain ⟨g6, g7⟩ := hg.sz
  have hz : zsz M zn1 = M (zn1 + 1) 0 * M (zn1 + 1) 1 := rfl
  have hr := hI.tr
  obtain ⟨⟨r1, r2⟩, ⟨r3, r4⟩, ⟨r5, r6⟩, r7, r8⟩ := id hr
  have htt : ztot M zn1 = M (zn1 + 8) 1 + M (zn1 + 8) 2 := rfl
  have hzk : zsz (zweM M zn1) zn1 = zsz M zn1 := by unfold zsz; rw [show zweM M zn1 (zn1 + 1) = M (zn1 + 1) from zwe_o (by decide) (by decide) _]
  exact zrun_v (N := 719) (by decide) rfl (zz_aload_n (pc := 0) xf_97_0 (zmem 0 rfl) (zz_or ((ztot M zn1 ≤ 8)) (fun (zc1 : ztot M zn1 ≤ 8) => zz_call_0 (pc := 1) (cu := 0) (su := 0) (fun ls hr => zz_calV xf_97_1 rfl zis_0 ls hr) rfl (sp_requireExactWeights_0 (d := d + 3) hI.tr zc1) (zz_aload_n (pc := 4) xf_97_4 (zmem 0 rfl) (zz_getR (pc := 5) xf_97_5 zis_0 (by decide +kernel) rfl (zz_aload_n (pc := 8) xf_97_8 (zmem 0 rfl) (zz_getR (pc := 9) xf_97_9 zis_0 (by decide +kernel) rfl (zz_call_0 (pc := 12) (cu := 1) (su := 6) (fun ls hr => zz_calV xf_97_12 rfl zis_108 ls hr) rfl (sp_weighEnds (d := d) hzn1 hI.g hI.nb hI.tr hda hze) (zm_as (fun zM3 (ezM3 : zM3 = zweM M zn1) => zz_aload_n (pc := 15) xf_97_15 (zmem 0 rfl) (zz_getR (pc := 16) xf_97_16 zis_0 (by decide +kernel) rfl (zz_getR (pc := 19) xf_97_19 (zst_0 hzn1) (by decide +kernel) rfl (zz_call_v (pc := 22) (cu := 1) (su := 6) (fun ls hr => zz_calV xf_97_22 rfl (zst_1 hzn1) ls hr) rfl (sp_size (d := d + 4) hzn1) (zz_istore_n (pc := 25) xf_97_25 (by decide +kernel) (zG_ro (ρ' := [(1, .int (Int32.ofInt (zsz zM3 zn1))), (0, .ref 0)]) rfl (zz_iconst (pc := 26) xf_97_26 (zz_istore_n (pc := 27) xf_97_27 (by decide +kernel) (zG_ro (ρ' := [(2, .int (Int32.ofInt (0))), (1, .int (Int32.ofInt (zsz zM3 zn1))), (0, .ref 0)]) rfl (zz_iconst (pc := 28) xf_97_28 (zz_istore_n (pc := 29) xf_97_29 (by decide +kernel) (zG_ro (ρ' := [(3, .int (Int32.ofInt (1))), (2, .int (Int32.ofInt (0))), (1, .int (Int32.ofInt (zsz zM3 zn1))), (0, .ref 0)]) rfl (zG_mono (N := 703) (by omega) (zG_sub (List.forall_mem_cons.mpr ⟨zmem 3 rfl, (List.forall_mem_cons.mpr ⟨zmem 2 rfl, (List.forall_mem_cons.mpr ⟨zmem 1 rfl, (List.forall_mem_cons.mpr ⟨zmem 0 rfl, (fun p hp => absurd hp List.not_mem_nil)⟩)⟩)⟩)⟩) ((by subst_vars; rw [hzk]; exact zl_likely_30 (M := zweM M zn1) (n := zsz M zn1) (by omega) (fun j hj => hee j (by omega)) 36 _ _ rfl (by omega) (by omega)))))))))))))))))))))))) (fun (zc2 : ¬ (ztot M zn1 ≤ 8)) => zz_call_e (pc := 1) (fun ls hr => zz_calV xf_97_1 rfl zis_0 ls hr) rfl rfl (sp_requireExactWeights_1 (d := d + 3) hI.tr zc2) (by exfalso; first | omega | contradiction))))
theorem sp_pathP_0 {xs : List Int32} {d : Nat} {w : Bool} {M : zM} (hI : zCI M) {x : Int} (hx : zr32 x) (hda : zDa M zn1) (hW : ∀ j : Nat, (j : Int) < zmi (ztot M zn1) 8 → zRb (zwrM M zn1 (zmi (ztot M zn1) 8) j) zn1 (zmi (ztot M zn1) 8 - 1 - (j : Int))) (hR : zRr (zRM M zn1)) (hB : ∀ i : Int, 0 ≤ i → i < zmi (ztot M zn1) 8 → zRb (zRM M zn1) zn1 i) (c0 : ¬ ztot M zn1 ≤ 8) : xrun2 xs (d + 9) 98 [.ref 0, .int (Int32.ofInt x)] (w, zheap M) = some (.inr 1, (false, zheap M)) := by
  have hg := hI.g
  have ht := hI.tb
  have hK := zCI_kp hI
  have hX : ∀ q : Nat, q < 25 → zkpM M zn1 q = M q := fun q h => zkp_o (Or.inl h)
  obtain ⟨⟨g1, g2⟩, ⟨g3, g4⟩, g5⟩ := id hg
  obtain ⟨g6, g7⟩ := hg.sz
  have hz : zsz M zn1 = M (zn1 + 1) 0 * M (zn1 + 1) 1 := rfl
  have hr := hI.tr
  obtain ⟨⟨r1, r2⟩, ⟨r3, r4⟩, ⟨r5, r6⟩, r7, r8⟩ := id hr
  have htt : ztot M zn1 = M (zn1 + 8) 1 + M (zn1 + 8) 2 := rfl
  exact zrun_v (N := 21) (by decide) rfl (zz_aload_n (pc := 0) xf_98_0 (zmem 0 rfl) (zz_or ((ztot M zn1 ≤ 8)) (fun (zc1 : ztot M zn1 ≤ 8) => zz_call_0 (pc := 1) (cu := 0) (su := 0) (fun ls hr => zz_calV xf_98_1 rfl zis_0 ls hr) rfl (sp_requireExactWeights_0 (d := d + 6) hI.tr zc1) (zz_iload_n (pc := 4) xf_98_4 (zmem 1 rfl) (zz_if (pc := 5) xf_98_5 hx (fun (zc3 : x < 0) => zz_thr (pc := 22) xf_98_22 (by decide +kernel) rfl (by decide +kernel) (by decide +kernel) (by first | (exfalso; first | omega | contradiction) | (subst_vars; exact ⟨rfl, rfl⟩))) (fun (zc4 : ¬ (x < 0)) => zz_iload_n (pc := 8) xf_98_8 (zmem 1 rfl) (zz_aload_n (pc := 9) xf_98_9 (zmem 0 rfl) (zz_getR (pc := 10) xf_98_10 zis_0 (by decide +kernel) rfl (zz_getR (pc := 13) xf_98_13 (zst_0 hzn1) (by decide +kernel) rfl (zz_call_v (pc := 16) (cu := 1) (su := 6) (fun ls hr => zz_calV xf_98_16 rfl (zst_8 hzn1) ls hr) rfl (sp_total (d := d + 7) hzn1) (zz_icmp (pc := 19) xf_98_19 hx (by unfold zr32; omega) (fun (zc5 : ¬ ((ztot M zn1) < x)) => zz_aload_n (pc := 33) xf_98_33 (zmem 0 rfl) (zz_getR (pc := 34) xf_98_34 zis_0 (by decide +kernel) rfl (zz_aload_n (pc := 37) xf_98_37 (zmem 0 rfl) (zz_getR (pc := 38) xf_98_38 zis_0 (by decide +kernel) rfl (zz_call_v (pc := 41) (cu := 1) (su := 6) (fun ls hr => zz_calV xf_98_41 rfl zis_108 ls hr) rfl (sp_findBest (d := d) hzn1 hI.g hI.nb hI.tr hda hW hR hB) (zm_as (fun zM7 (ezM7 : zM7 = zfbM (zRM M zn1) zn1 (zmi (ztot M zn1) 8)) => zz_pop2 (pc := 44) xf_98_44 (zz_aload_n (pc := 45) xf_98_45 (zmem 0 rfl) (zz_getR (pc := 46) xf_98_46 zis_0 (by decide +kernel) rfl (zz_getR (pc := 49) xf_98_49 zis_108 (by decide +kernel) rfl (zz_iload_n (pc := 52) xf_98_52 (zmem 1 rfl) (zz_iald (pc := 53) xf_98_53 zis_112 (by omega) (zz_ireturn (pc := 54) xf_98_54 rfl (by decide +kernel) (by decide +kernel) (by first | (exfalso; first | omega | contradiction) | (subst_vars; exact ⟨rfl, rfl⟩))))))))))))))) (fun zc60 => have zc6 : (ztot M zn1) < x := Classical.not_not.mp zc60; zz_thr (pc := 22) xf_98_22 (by decide +kernel) rfl (by decide +kernel) (by decide +kernel) (by first | (exfalso; first | omega | contradiction) | (subst_vars; exact ⟨rfl, rfl⟩)))))))))))) (fun (zc2 : ¬ (ztot M zn1 ≤ 8)) => zz_call_e (pc := 1) (fun ls hr => zz_calV xf_98_1 rfl zis_0 ls hr) rfl rfl (sp_requireExactWeights_1 (d := d + 6) hI.tr zc2) (by first | (exfalso; first | omega | contradiction) | (subst_vars; exact ⟨rfl, rfl⟩)))))
theorem sp_pathP_1 {xs : List Int32} {d : Nat} {w : Bool} {M : zM} (hI : zCI M) {x : Int} (hx : zr32 x) (hda : zDa M zn1) (hW : ∀ j : Nat, (j : Int) < zmi (ztot M zn1) 8 → zRb (zwrM M zn1 (zmi (ztot M zn1) 8) j) zn1 (zmi (ztot M zn1) 8 - 1 - (j : Int))) (hR : zRr (zRM M zn1)) (hB : ∀ i : Int, 0 ≤ i → i < zmi (ztot M zn1) 8 → zRb (zRM M zn1) zn1 i) (c0 : ¬ (¬ ztot M zn1 ≤ 8)) (c1 : ¬ (0 ≤ x ∧ x ≤ ztot M zn1)) : xrun2 xs (d + 9) 98 [.ref 0, .int (Int32.ofInt x)] (w, zheap M) = some (.inr 2, (false, zheap M)) := by
  have hg := hI.g
  have ht := hI.tb
  have hK := zCI_kp hI
  have hX : ∀ q : Nat, q < 25 → zkpM M zn1 q = M q := fun q h => zkp_o (Or.inl h)
  obtain ⟨⟨g1, g2⟩, ⟨g3, g4⟩, g5⟩ := id hg
  obtain ⟨g6, g7⟩ := hg.sz
  have hz : zsz M zn1 = M (zn1 + 1) 0 * M (zn1 + 1) 1 := rfl
  have hr := hI.tr
  obtain ⟨⟨r1, r2⟩, ⟨r3, r4⟩, ⟨r5, r6⟩, r7, r8⟩ := id hr
  have htt : ztot M zn1 = M (zn1 + 8) 1 + M (zn1 + 8) 2 := rfl
  exact zrun_v (N := 21) (by decide) rfl (zz_aload_n (pc := 0) xf_98_0 (zmem 0 rfl) (zz_or ((ztot M zn1 ≤ 8)) (fun (zc1 : ztot M zn1 ≤ 8) => zz_call_0 (pc := 1) (cu := 0) (su := 0) (fun ls hr => zz_calV xf_98_1 rfl zis_0 ls hr) rfl (sp_requireExactWeights_0 (d := d + 6) hI.tr zc1) (zz_iload_n (pc := 4) xf_98_4 (zmem 1 rfl) (zz_if (pc := 5) xf_98_5 hx (fun (zc3 : x < 0) => zz_thr (pc := 22) xf_98_22 (by decide +kernel) rfl (by decide +kernel) (by decide +kernel) (by first | (exfalso; first | omega | contradiction) | (subst_vars; exact ⟨rfl, rfl⟩))) (fun (zc4 : ¬ (x < 0)) => zz_iload_n (pc := 8) xf_98_8 (zmem 1 rfl) (zz_aload_n (pc := 9) xf_98_9 (zmem 0 rfl) (zz_getR (pc := 10) xf_98_10 zis_0 (by decide +kernel) rfl (zz_getR (pc := 13) xf_98_13 (zst_0 hzn1) (by decide +kernel) rfl (zz_call_v (pc := 16) (cu := 1) (su := 6) (fun ls hr => zz_calV xf_98_16 rfl (zst_8 hzn1) ls hr) rfl (sp_total (d := d + 7) hzn1) (zz_icmp (pc := 19) xf_98_19 hx (by unfold zr32; omega) (fun (zc5 : ¬ ((ztot M zn1) < x)) => zz_aload_n (pc := 33) xf_98_33 (zmem 0 rfl) (zz_getR (pc := 34) xf_98_34 zis_0 (by decide +kernel) rfl (zz_aload_n (pc := 37) xf_98_37 (zmem 0 rfl) (zz_getR (pc := 38) xf_98_38 zis_0 (by decide +kernel) rfl (zz_call_v (pc := 41) (cu := 1) (su := 6) (fun ls hr => zz_calV xf_98_41 rfl zis_108 ls hr) rfl (sp_findBest (d := d) hzn1 hI.g hI.nb hI.tr hda hW hR hB) (zm_as (fun zM7 (ezM7 : zM7 = zfbM (zRM M zn1) zn1 (zmi (ztot M zn1) 8)) => zz_pop2 (pc := 44) xf_98_44 (zz_aload_n (pc := 45) xf_98_45 (zmem 0 rfl) (zz_getR (pc := 46) xf_98_46 zis_0 (by decide +kernel) rfl (zz_getR (pc := 49) xf_98_49 zis_108 (by decide +kernel) rfl (zz_iload_n (pc := 52) xf_98_52 (zmem 1 rfl) (zz_iald (pc := 53) xf_98_53 zis_112 (by omega) (zz_ireturn (pc := 54) xf_98_54 rfl (by decide +kernel) (by decide +kernel) (by first | (exfalso; first | omega | contradiction) | (subst_vars; exact ⟨rfl, rfl⟩))))))))))))))) (fun zc60 => have zc6 : (ztot M zn1) < x := Classical.not_not.mp zc60; zz_thr (pc := 22) xf_98_22 (by decide +kernel) rfl (by decide +kernel) (by decide +kernel) (by first | (exfalso; first | omega | contradiction) | (subst_vars; exact ⟨rfl, rfl⟩)))))))))))) (fun (zc2 : ¬ (ztot M zn1 ≤ 8)) => zz_call_e (pc := 1) (fun ls hr => zz_calV xf_98_1 rfl zis_0 ls hr) rfl rfl (sp_requireExactWeights_1 (d := d + 6) hI.tr zc2) (by first | (exfalso; first | omega | contradiction) | (subst_vars; exact ⟨rfl, rfl⟩)))))
theorem sp_pathP_2 {xs : List Int32} {d : Nat} {w : Bool} {M : zM} (hI : zCI M) {x : Int} (hx : zr32 x) (hda : zDa M zn1) (hW : ∀ j : Nat, (j : Int) < zmi (ztot M zn1) 8 → zRb (zwrM M zn1 (zmi (ztot M zn1) 8) j) zn1 (zmi (ztot M zn1) 8 - 1 - (j : Int))) (hR : zRr (zRM M zn1)) (hB : ∀ i : Int, 0 ≤ i → i < zmi (ztot M zn1) 8 → zRb (zRM M zn1) zn1 i) (c0 : ¬ (¬ ztot M zn1 ≤ 8)) (c1 : ¬ (¬ (0 ≤ x ∧ x ≤ ztot M zn1))) : xrun2 xs (d + 9) 98 [.ref 0, .int (Int32.ofInt x)] (w, zheap M) = some (.inl (some (.int (Int32.ofInt ((zfbM (zRM M zn1) zn1 (zmi (ztot M zn1) 8)) 112 x.toNat)))), (w, zheap (zfbM (zRM M zn1) zn1 (zmi (ztot M zn1) 8)))) := by
  have hg := hI.g
  have ht := hI.tb
  have hK := zCI_kp hI
  have hX : ∀ q : Nat, q < 25 → zkpM M zn1 q = M q := fun q h => zkp_o (Or.inl h)
  obtain ⟨⟨g1, g2⟩, ⟨g3, g4⟩, g5⟩ := id hg
  obtain ⟨g6, g7⟩ := hg.sz
  have hz : zsz M zn1 = M (zn1 + 1) 0 * M (zn1 + 1) 1 := rfl
  have hr := hI.tr
  obtain ⟨⟨r1, r2⟩, ⟨r3, r4⟩, ⟨r5, r6⟩, r7, r8⟩ := id hr
  have htt : ztot M zn1 = M (zn1 + 8) 1 + M (zn1 + 8) 2 := rfl
  exact zrun_v (N := 21) (by decide) rfl (zz_aload_n (pc := 0) xf_98_0 (zmem 0 rfl) (zz_or ((ztot M zn1 ≤ 8)) (fun (zc1 : ztot M zn1 ≤ 8) => zz_call_0 (pc := 1) (cu := 0) (su := 0) (fun ls hr => zz_calV xf_98_1 rfl zis_0 ls hr) rfl (sp_requireExactWeights_0 (d := d + 6) hI.tr zc1) (zz_iload_n (pc := 4) xf_98_4 (zmem 1 rfl) (zz_if (pc := 5) xf_98_5 hx (fun (zc3 : x < 0) => zz_thr (pc := 22) xf_98_22 (by decide +kernel) rfl (by decide +kernel) (by decide +kernel) (by first | (exfalso; first | omega | contradiction) | (subst_vars; exact ⟨rfl, rfl⟩))) (fun (zc4 : ¬ (x < 0)) => zz_iload_n (pc := 8) xf_98_8 (zmem 1 rfl) (zz_aload_n (pc := 9) xf_98_9 (zmem 0 rfl) (zz_getR (pc := 10) xf_98_10 zis_0 (by decide +kernel) rfl (zz_getR (pc := 13) xf_98_13 (zst_0 hzn1) (by decide +kernel) rfl (zz_call_v (pc := 16) (cu := 1) (su := 6) (fun ls hr => zz_calV xf_98_16 rfl (zst_8 hzn1) ls hr) rfl (sp_total (d := d + 7) hzn1) (zz_icmp (pc := 19) xf_98_19 hx (by unfold zr32; omega) (fun (zc5 : ¬ ((ztot M zn1) < x)) => zz_aload_n (pc := 33) xf_98_33 (zmem 0 rfl) (zz_getR (pc := 34) xf_98_34 zis_0 (by decide +kernel) rfl (zz_aload_n (pc := 37) xf_98_37 (zmem 0 rfl) (zz_getR (pc := 38) xf_98_38 zis_0 (by decide +kernel) rfl (zz_call_v (pc := 41) (cu := 1) (su := 6) (fun ls hr => zz_calV xf_98_41 rfl zis_108 ls hr) rfl (sp_findBest (d := d) hzn1 hI.g hI.nb hI.tr hda hW hR hB) (zm_as (fun zM7 (ezM7 : zM7 = zfbM (zRM M zn1) zn1 (zmi (ztot M zn1) 8)) => zz_pop2 (pc := 44) xf_98_44 (zz_aload_n (pc := 45) xf_98_45 (zmem 0 rfl) (zz_getR (pc := 46) xf_98_46 zis_0 (by decide +kernel) rfl (zz_getR (pc := 49) xf_98_49 zis_108 (by decide +kernel) rfl (zz_iload_n (pc := 52) xf_98_52 (zmem 1 rfl) (zz_iald (pc := 53) xf_98_53 zis_112 (by omega) (zz_ireturn (pc := 54) xf_98_54 rfl (by decide +kernel) (by decide +kernel) (by first | (exfalso; first | omega | contradiction) | (subst_vars; exact ⟨rfl, rfl⟩))))))))))))))) (fun zc60 => have zc6 : (ztot M zn1) < x := Classical.not_not.mp zc60; zz_thr (pc := 22) xf_98_22 (by decide +kernel) rfl (by decide +kernel) (by decide +kernel) (by first | (exfalso; first | omega | contradiction) | (subst_vars; exact ⟨rfl, rfl⟩)))))))))))) (fun (zc2 : ¬ (ztot M zn1 ≤ 8)) => zz_call_e (pc := 1) (fun ls hr => zz_calV xf_98_1 rfl zis_0 ls hr) rfl rfl (sp_requireExactWeights_1 (d := d + 6) hI.tr zc2) (by first | (exfalso; first | omega | contradiction) | (subst_vars; exact ⟨rfl, rfl⟩)))))
theorem sp_pathWeightP_0 {xs : List Int32} {d : Nat} {w : Bool} {M : zM} (hI : zCI M) (hda : zDa M zn1) (hW : ∀ j : Nat, (j : Int) < zmi (ztot M zn1) 8 → zRb (zwrM M zn1 (zmi (ztot M zn1) 8) j) zn1 (zmi (ztot M zn1) 8 - 1 - (j : Int))) (hR : zRr (zRM M zn1)) (hB : ∀ i : Int, 0 ≤ i → i < zmi (ztot M zn1) 8 → zRb (zRM M zn1) zn1 i) (c0 : ¬ ztot M zn1 ≤ 8) : xrun2 xs (d + 9) 99 [.ref 0] (w, zheap M) = some (.inr 1, (false, zheap M)) := by
  have hg := hI.g
  have ht := hI.tb
  have hK := zCI_kp hI
  have hX : ∀ q : Nat, q < 25 → zkpM M zn1 q = M q := fun q h => zkp_o (Or.inl h)
  obtain ⟨⟨g1, g2⟩, ⟨g3, g4⟩, g5⟩ := id hg
  obtain ⟨g6, g7⟩ := hg.sz
  have hz : zsz M zn1 = M (zn1 + 1) 0 * M (zn1 + 1) 1 := rfl
  have hr := hI.tr
  obtain ⟨⟨r1, r2⟩, ⟨r3, r4⟩, ⟨r5, r6⟩, r7, r8⟩ := id hr
  have htt : ztot M zn1 = M (zn1 + 8) 1 + M (zn1 + 8) 2 := rfl
  exact zrun_v (N := 7) (by decide) rfl (zz_aload_n (pc := 0) xf_99_0 (zmem 0 rfl) (zz_or ((ztot M zn1 ≤ 8)) (fun (zc1 : ztot M zn1 ≤ 8) => zz_call_0 (pc := 1) (cu := 0) (su := 0) (fun ls hr => zz_calV xf_99_1 rfl zis_0 ls hr) rfl (sp_requireExactWeights_0 (d := d + 6) hI.tr zc1) (zz_aload_n (pc := 4) xf_99_4 (zmem 0 rfl) (zz_getR (pc := 5) xf_99_5 zis_0 (by decide +kernel) rfl (zz_aload_n (pc := 8) xf_99_8 (zmem 0 rfl) (zz_getR (pc := 9) xf_99_9 zis_0 (by decide +kernel) rfl (zz_call_v (pc := 12) (cu := 1) (su := 6) (fun ls hr => zz_calV xf_99_12 rfl zis_108 ls hr) rfl (sp_findBest (d := d) hzn1 hI.g hI.nb hI.tr hda hW hR hB) (zm_as (fun zM3 (ezM3 : zM3 = zfbM (zRM M zn1) zn1 (zmi (ztot M zn1) 8)) => zz_lreturn (pc := 15) xf_99_15 rfl (by decide +kernel) (by decide +kernel) (by first | (exfalso; first | omega | contradiction) | (subst_vars; exact ⟨rfl, rfl⟩)))))))))) (fun (zc2 : ¬ (ztot M zn1 ≤ 8)) => zz_call_e (pc := 1) (fun ls hr => zz_calV xf_99_1 rfl zis_0 ls hr) rfl rfl (sp_requireExactWeights_1 (d := d + 6) hI.tr zc2) (by first | (exfalso; first | omega | contradiction) | (subst_vars; exact ⟨rfl, rfl⟩)))))
theorem sp_pathWeightP_1 {xs : List Int32} {d : Nat} {w : Bool} {M : zM} (hI : zCI M) (hda : zDa M zn1) (hW : ∀ j : Nat, (j : Int) < zmi (ztot M zn1) 8 → zRb (zwrM M zn1 (zmi (ztot M zn1) 8) j) zn1 (zmi (ztot M zn1) 8 - 1 - (j : Int))) (hR : zRr (zRM M zn1)) (hB : ∀ i : Int, 0 ≤ i → i < zmi (ztot M zn1) 8 → zRb (zRM M zn1) zn1 i) (c0 : ¬ (¬ ztot M zn1 ≤ 8)) : xrun2 xs (d + 9) 99 [.ref 0] (w, zheap M) = some (.inl (some (.long (Int64.ofInt (zwg (zRM M zn1) zn1)))), (w, zheap (zfbM (zRM M zn1) zn1 (zmi (ztot M zn1) 8)))) := by
  have hg := hI.g
  have ht := hI.tb
  have hK := zCI_kp hI
  have hX : ∀ q : Nat, q < 25 → zkpM M zn1 q = M q := fun q h => zkp_o (Or.inl h)
  obtain ⟨⟨g1, g2⟩, ⟨g3, g4⟩, g5⟩ := id hg
  obtain ⟨g6, g7⟩ := hg.sz
  have hz : zsz M zn1 = M (zn1 + 1) 0 * M (zn1 + 1) 1 := rfl
  have hr := hI.tr
  obtain ⟨⟨r1, r2⟩, ⟨r3, r4⟩, ⟨r5, r6⟩, r7, r8⟩ := id hr
  have htt : ztot M zn1 = M (zn1 + 8) 1 + M (zn1 + 8) 2 := rfl
  exact zrun_v (N := 7) (by decide) rfl (zz_aload_n (pc := 0) xf_99_0 (zmem 0 rfl) (zz_or ((ztot M zn1 ≤ 8)) (fun (zc1 : ztot M zn1 ≤ 8) => zz_call_0 (pc := 1) (cu := 0) (su := 0) (fun ls hr => zz_calV xf_99_1 rfl zis_0 ls hr) rfl (sp_requireExactWeights_0 (d := d + 6) hI.tr zc1) (zz_aload_n (pc := 4) xf_99_4 (zmem 0 rfl) (zz_getR (pc := 5) xf_99_5 zis_0 (by decide +kernel) rfl (zz_aload_n (pc := 8) xf_99_8 (zmem 0 rfl) (zz_getR (pc := 9) xf_99_9 zis_0 (by decide +kernel) rfl (zz_call_v (pc := 12) (cu := 1) (su := 6) (fun ls hr => zz_calV xf_99_12 rfl zis_108 ls hr) rfl (sp_findBest (d := d) hzn1 hI.g hI.nb hI.tr hda hW hR hB) (zm_as (fun zM3 (ezM3 : zM3 = zfbM (zRM M zn1) zn1 (zmi (ztot M zn1) 8)) => zz_lreturn (pc := 15) xf_99_15 rfl (by decide +kernel) (by decide +kernel) (by first | (exfalso; first | omega | contradiction) | (subst_vars; exact ⟨rfl, rfl⟩)))))))))) (fun (zc2 : ¬ (ztot M zn1 ≤ 8)) => zz_call_e (pc := 1) (fun ls hr => zz_calV xf_99_1 rfl zis_0 ls hr) rfl rfl (sp_requireExactWeights_1 (d := d + 6) hI.tr zc2) (by first | (exfalso; first | omega | contradiction) | (subst_vars; exact ⟨rfl, rfl⟩)))))
end
noncomputable section
/-! Floats. -/
def zlor (x y : Int) : Int := (Int64.ofInt x ||| Int64.ofInt y).toInt
def zlshl (x y : Int) : Int := (Int64.ofInt x <<< ((Int32.ofInt y).toInt64 &&& 63)).toInt
section ZFP
variable {xrec : Nat → List Value → XW → Option (XO × XW)} {xs : List Int32} {k N pc pc' len a b cu su q : Nat} {i : Instr} {ρ ρ' : XL} {st st' : List Value} {w : Bool} {M : zM} {Q : XO → XW → Prop}
theorem zz_dadd {x y : UInt64} (hc : xcode k pc = some (.dadd, len, a, b)) (hr : FP.dadd x y &&& 0x7fffffffffffffff ≤ 0x7ff0000000000000) (hn : zG (xstep xrec xs k) k N (pc + 1) ρ (.double (FP.dadd x y) :: st) cu su w M Q) : zG (xstep xrec xs k) k (N + 1) (pc) ρ (.double y :: .double x :: st) cu su w M Q := zg_op0 hc rfl (fun _ _ => by unfold xop; dsimp only; rw [if_pos hr]) hn
theorem zz_dsub {x y : UInt64} (hc : xcode k pc = some (.dsub, len, a, b)) (hr : FP.dsub x y &&& 0x7fffffffffffffff ≤ 0x7ff0000000000000) (hn : zG (xstep xrec xs k) k N (pc + 1) ρ (.double (FP.dsub x y) :: st) cu su w M Q) : zG (xstep xrec xs k) k (N + 1) (pc) ρ (.double y :: .double x :: st) cu su w M Q := zg_op0 hc rfl (fun _ _ => by unfold xop; dsimp only; rw [if_pos hr]) hn
theorem zz_dmul {x y : UInt64} (hc : xcode k pc = some (.dmul, len, a, b)) (hr : FP.dmul x y &&& 0x7fffffffffffffff ≤ 0x7ff0000000000000) (hn : zG (xstep xrec xs k) k N (pc + 1) ρ (.double (FP.dmul x y) :: st) cu su w M Q) : zG (xstep xrec xs k) k (N + 1) (pc) ρ (.double y :: .double x :: st) cu su w M Q := zg_op0 hc rfl (fun _ _ => by unfold xop; dsimp only; rw [if_pos hr]) hn
theorem zz_ddiv {x y : UInt64} (hc : xcode k pc = some (.ddiv, len, a, b)) (hr : FP.ddiv x y &&& 0x7fffffffffffffff ≤ 0x7ff0000000000000) (hn : zG (xstep xrec xs k) k N (pc + 1) ρ (.double (FP.ddiv x y) :: st) cu su w M Q) : zG (xstep xrec xs k) k (N + 1) (pc) ρ (.double y :: .double x :: st) cu su w M Q := zg_op0 hc rfl (fun _ _ => by unfold xop; dsimp only; rw [if_pos hr]) hn
theorem zz_fsub {x y : UInt32} (hc : xcode k pc = some (.fsub, len, a, b)) (hr : FP.fsub x y &&& 0x7fffffff ≤ 0x7f800000) (hn : zG (xstep xrec xs k) k N (pc + 1) ρ (.float (FP.fsub x y) :: st) cu su w M Q) : zG (xstep xrec xs k) k (N + 1) (pc) ρ (.float y :: .float x :: st) cu su w M Q := zg_op0 hc rfl (fun _ _ => by unfold xop; dsimp only; rw [if_pos hr]) hn
theorem zz_fmul {x y : UInt32} (hc : xcode k pc = some (.fmul, len, a, b)) (hr : FP.fmul x y &&& 0x7fffffff ≤ 0x7f800000) (hn : zG (xstep xrec xs k) k N (pc + 1) ρ (.float (FP.fmul x y) :: st) cu su w M Q) : zG (xstep xrec xs k) k (N + 1) (pc) ρ (.float y :: .float x :: st) cu su w M Q := zg_op0 hc rfl (fun _ _ => by unfold xop; dsimp only; rw [if_pos hr]) hn
theorem zz_fdiv {x y : UInt32} (hc : xcode k pc = some (.fdiv, len, a, b)) (hr : FP.fdiv x y &&& 0x7fffffff ≤ 0x7f800000) (hn : zG (xstep xrec xs k) k N (pc + 1) ρ (.float (FP.fdiv x y) :: st) cu su w M Q) : zG (xstep xrec xs k) k (N + 1) (pc) ρ (.float y :: .float x :: st) cu su w M Q := zg_op0 hc rfl (fun _ _ => by unfold xop; dsimp only; rw [if_pos hr]) hn
theorem zz_dcmp {cd : Jvm.ClassFile.Cond} {o} {oo : Int} {x y : UInt64} {len2 a2 b2 : Nat} (hc : xcode k pc = some (.dcmp o, len, a, b)) (hc2 : xcode k (pc + 1) = some (.ifCond cd oo, len2, a2, b2)) (ht : y_cmp (y_cd cd) (Op.cmpValue (FP.dcmp x y) o) 0 = true → zG (xstep xrec xs k) k N (a2) ρ st cu su w M Q) (hf : ¬ y_cmp (y_cd cd) (Op.cmpValue (FP.dcmp x y) o) 0 = true → zG (xstep xrec xs k) k N (pc + 4) ρ st cu su w M Q) : zG (xstep xrec xs k) k (N + 2) (pc) ρ (.double y :: .double x :: st) cu su w M Q := by
  refine zg_op0 hc rfl (fun _ _ => rfl) (?_ : zG (xstep xrec xs k) k (N + 1) (pc + 1) ρ (.int (Op.cmpValue (FP.dcmp x y) o) :: st) cu su w M Q)
  by_cases h : y_cmp (y_cd cd) (Op.cmpValue (FP.dcmp x y) o) 0 = true
  · refine zg_op0 hc2 rfl (fun nl ls => ?_) (ht h)
    rw [y_if_e2, if_pos h]
  · refine zg_op0 hc2 rfl (fun nl ls => ?_) (hf h)
    rw [y_if_e2, if_neg h]
theorem zz_fcmp {cd : Jvm.ClassFile.Cond} {o} {oo : Int} {x y : UInt32} {len2 a2 b2 : Nat} (hc : xcode k pc = some (.fcmp o, len, a, b)) (hc2 : xcode k (pc + 1) = some (.ifCond cd oo, len2, a2, b2)) (ht : y_cmp (y_cd cd) (Op.cmpValue (FP.fcmp x y) o) 0 = true → zG (xstep xrec xs k) k N (a2) ρ st cu su w M Q) (hf : ¬ y_cmp (y_cd cd) (Op.cmpValue (FP.fcmp x y) o) 0 = true → zG (xstep xrec xs k) k N (pc + 4) ρ st cu su w M Q) : zG (xstep xrec xs k) k (N + 2) (pc) ρ (.float y :: .float x :: st) cu su w M Q := by
  refine zg_op0 hc rfl (fun _ _ => rfl) (?_ : zG (xstep xrec xs k) k (N + 1) (pc + 1) ρ (.int (Op.cmpValue (FP.fcmp x y) o) :: st) cu su w M Q)
  by_cases h : y_cmp (y_cd cd) (Op.cmpValue (FP.fcmp x y) o) 0 = true
  · refine zg_op0 hc2 rfl (fun nl ls => ?_) (ht h)
    rw [y_if_e2, if_pos h]
  · refine zg_op0 hc2 rfl (fun nl ls => ?_) (hf h)
    rw [y_if_e2, if_neg h]
theorem zz_dconst0 (hc : xcode k pc = some (.dconst 0, len, a, b)) (hn : zG (xstep xrec xs k) k N (pc + 1) ρ (.double FP.dconst0 :: st) cu su w M Q) : zG (xstep xrec xs k) k (N + 1) (pc) ρ st cu su w M Q := zg_op0 hc rfl (fun _ _ => rfl) hn
theorem zz_dconst1 (hc : xcode k pc = some (.dconst 1, len, a, b)) (hn : zG (xstep xrec xs k) k N (pc + 1) ρ (.double FP.dconst1 :: st) cu su w M Q) : zG (xstep xrec xs k) k (N + 1) (pc) ρ st cu su w M Q := zg_op0 hc rfl (fun _ _ => rfl) hn
theorem zz_fconst0 (hc : xcode k pc = some (.fconst 0, len, a, b)) (hn : zG (xstep xrec xs k) k N (pc + 1) ρ (.float FP.fconst0 :: st) cu su w M Q) : zG (xstep xrec xs k) k (N + 1) (pc) ρ st cu su w M Q := zg_op0 hc rfl (fun _ _ => rfl) hn
theorem zz_fconst1 (hc : xcode k pc = some (.fconst 1, len, a, b)) (hn : zG (xstep xrec xs k) k N (pc + 1) ρ (.float FP.fconst1 :: st) cu su w M Q) : zG (xstep xrec xs k) k (N + 1) (pc) ρ st cu su w M Q := zg_op0 hc rfl (fun _ _ => rfl) hn
theorem zz_fconst2 (hc : xcode k pc = some (.fconst 2, len, a, b)) (hn : zG (xstep xrec xs k) k N (pc + 1) ρ (.float FP.fconst2 :: st) cu su w M Q) : zG (xstep xrec xs k) k (N + 1) (pc) ρ st cu su w M Q := zg_op0 hc rfl (fun _ _ => rfl) hn
theorem zz_i2d {x : Int} (hc : xcode k pc = some (.i2d, len, a, b)) (hn : zG (xstep xrec xs k) k N (pc + 1) ρ (.double (FP.i2d (Int32.ofInt x)) :: st) cu su w M Q) : zG (xstep xrec xs k) k (N + 1) (pc) ρ (.int (Int32.ofInt x) :: st) cu su w M Q := zg_op0 hc rfl (fun _ _ => rfl) hn
theorem zz_i2f {x : Int} (hc : xcode k pc = some (.i2f, len, a, b)) (hn : zG (xstep xrec xs k) k N (pc + 1) ρ (.float (FP.i2f (Int32.ofInt x)) :: st) cu su w M Q) : zG (xstep xrec xs k) k (N + 1) (pc) ρ (.int (Int32.ofInt x) :: st) cu su w M Q := zg_op0 hc rfl (fun _ _ => rfl) hn
theorem zz_d2l {x : UInt64} (hc : xcode k pc = some (.d2l, len, a, b)) (hn : zG (xstep xrec xs k) k N (pc + 1) ρ (.long (Int64.ofInt (FP.d2l x).toInt) :: st) cu su w M Q) : zG (xstep xrec xs k) k (N + 1) (pc) ρ (.double x :: st) cu su w M Q := by rw [Int64.ofInt_toInt] at hn; exact zg_op0 hc rfl (fun _ _ => rfl) hn
theorem zz_f2i {x : UInt32} (hc : xcode k pc = some (.f2i, len, a, b)) (hn : zG (xstep xrec xs k) k N (pc + 1) ρ (.int (Int32.ofInt (FP.f2i x).toInt) :: st) cu su w M Q) : zG (xstep xrec xs k) k (N + 1) (pc) ρ (.float x :: st) cu su w M Q := by rw [Int32.ofInt_toInt] at hn; exact zg_op0 hc rfl (fun _ _ => rfl) hn
theorem zz_zlor {x y : Int} (hc : xcode k pc = some (.lor, len, a, b)) (hn : zG (xstep xrec xs k) k N (pc + 1) ρ (.long (Int64.ofInt (zlor x y)) :: st) cu su w M Q) : zG (xstep xrec xs k) k (N + 1) (pc) ρ (.long (Int64.ofInt y) :: .long (Int64.ofInt x) :: st) cu su w M Q := by unfold zlor at hn; rw [Int64.ofInt_toInt] at hn; exact zg_op0 hc rfl (fun _ _ => rfl) hn
theorem zz_zlshl {x y : Int} (hc : xcode k pc = some (.lshl, len, a, b)) (hn : zG (xstep xrec xs k) k N (pc + 1) ρ (.long (Int64.ofInt (zlshl x y)) :: st) cu su w M Q) : zG (xstep xrec xs k) k (N + 1) (pc) ρ (.int (Int32.ofInt y) :: .long (Int64.ofInt x) :: st) cu su w M Q := by unfold zlshl at hn; rw [Int64.ofInt_toInt] at hn; exact zg_op0 hc rfl (fun _ _ => rfl) hn
end ZFP
/-- no NaN -/
def zRR (f : FP.Core.Fmt) (s : Bool) (d : FP.Core.Datum) : Prop := d = .inf s ∨ ∃ c q, d = .fin s c q ∧ c < 2 ^ f.p ∧ q ≤ f.qmax
def zFm (f : FP.Core.Fmt) : Prop := f.qmin ≤ f.qmax ∧ f.tails < 2 ^ f.p
theorem zfm64 : zFm FP.Core.b64 := by unfold zFm; decide
theorem zfm32 : zFm FP.Core.b32 := by unfold zFm; decide
theorem zbnd {f : FP.Core.Fmt} {s : Bool} {c : Nat} {q : Int} (h : c < 2 ^ f.p) : zRR f s (FP.Core.bound f s c q) := by
  unfold FP.Core.bound
  split
  · next h2 => exact Or.inr ⟨c, q, rfl, h, h2⟩
  · exact Or.inl rfl
theorem zrr {f : FP.Core.Fmt} (hf : zFm f) {s : Bool} {A B : Nat} {e : Int} : zRR f s (FP.Core.roundRatio f s A B e) := by
  unfold FP.Core.roundRatio FP.Core.roundAt FP.Core.settle
  split
  · exact Or.inr ⟨0, f.qmin, rfl, Nat.two_pow_pos _, hf.1⟩
  · split
    · next h => exact zbnd h
    · exact zbnd hf.2
def zv64 (x : UInt64) : FP.Core.Datum := FP.Core.decode FP.Core.b64 x.toNat
def zv32 (x : UInt32) : FP.Core.Datum := FP.Core.decode FP.Core.b32 x.toNat
def zn64 (x : UInt64) : Prop := x.toNat % 9223372036854775808 ≤ 9218868437227405312
def zp64 (x : UInt64) : Prop := x.toNat ≤ 9218868437227405312
def zn32 (x : UInt32) : Prop := x.toNat % 2147483648 ≤ 2139095040
theorem z64_m {r : UInt64} (h : zn64 r) : r &&& 0x7fffffffffffffff ≤ 0x7ff0000000000000 := by
  rw [UInt64.le_iff_toNat_le, UInt64.toNat_and]
  show r.toNat &&& 2 ^ 63 - 1 ≤ 9218868437227405312
  rw [Nat.and_two_pow_sub_one_eq_mod]
  exact h
theorem z32_m {r : UInt32} (h : zn32 r) : r &&& 0x7fffffff ≤ 0x7f800000 := by
  rw [UInt32.le_iff_toNat_le, UInt32.toNat_and]
  show r.toNat &&& 2 ^ 31 - 1 ≤ 2139095040
  rw [Nat.and_two_pow_sub_one_eq_mod]
  exact h
theorem ze64 : FP.Core.b64.exps = 2048 ∧ FP.Core.b64.tails = 4503599627370496 ∧ FP.Core.b64.qmin = -1074 ∧ FP.Core.b64.qmax = 971 ∧ 2 ^ FP.Core.b64.p = 9007199254740992 := by decide
theorem ze32 : FP.Core.b32.exps = 256 ∧ FP.Core.b32.tails = 8388608 ∧ FP.Core.b32.qmin = -149 ∧ FP.Core.b32.qmax = 104 ∧ 2 ^ FP.Core.b32.p = 16777216 := by decide
theorem zenc64 {s : Bool} {d : FP.Core.Datum} (h : zRR FP.Core.b64 s d) : FP.Core.encode FP.Core.b64 d < 18446744073709551616 ∧ FP.Core.encode FP.Core.b64 d % 9223372036854775808 ≤ 9218868437227405312 ∧ (s = false → FP.Core.encode FP.Core.b64 d ≤ 9218868437227405312) := by
  obtain ⟨e1, e2, e3, e4, e5⟩ := ze64
  rcases h with rfl | ⟨c, q, rfl, hc, hq⟩
  · show FP.Core.assemble FP.Core.b64 s (FP.Core.b64.exps - 1) 0 < _ ∧ FP.Core.assemble FP.Core.b64 s (FP.Core.b64.exps - 1) 0 % _ ≤ _ ∧ (s = false → FP.Core.assemble FP.Core.b64 s (FP.Core.b64.exps - 1) 0 ≤ _)
    unfold FP.Core.assemble
    rw [e1, e2]
    cases s <;> decide
  · rw [e5] at hc
    rw [e4] at hq
    show (if c < FP.Core.b64.tails then FP.Core.assemble FP.Core.b64 s 0 c else FP.Core.assemble FP.Core.b64 s ((q - FP.Core.b64.qmin).toNat + 1) (c - FP.Core.b64.tails)) < _ ∧ (if c < FP.Core.b64.tails then FP.Core.assemble FP.Core.b64 s 0 c else FP.Core.assemble FP.Core.b64 s ((q - FP.Core.b64.qmin).toNat + 1) (c - FP.Core.b64.tails)) % _ ≤ _ ∧ (s = false → (if c < FP.Core.b64.tails then FP.Core.assemble FP.Core.b64 s 0 c else FP.Core.assemble FP.Core.b64 s ((q - FP.Core.b64.qmin).toNat + 1) (c - FP.Core.b64.tails)) ≤ _)
    unfold FP.Core.assemble
    rw [e1, e2, e3]
    have hb : s.toNat = 0 ∧ s = false ∨ s.toNat = 1 ∧ s = true := by cases s; exact Or.inl ⟨rfl, rfl⟩; exact Or.inr ⟨rfl, rfl⟩
    have hq2 : (q - -1074).toNat + 1 ≤ 2046 := by omega
    generalize (q - -1074).toNat + 1 = E at hq2 ⊢
    rcases hb with ⟨hb, hs⟩ | ⟨hb, hs⟩ <;> rw [hb] <;> split <;> refine ⟨by omega, by omega, fun h9 => ?_⟩ <;> first | omega | (rw [hs] at h9; cases h9)
theorem zenc32 {s : Bool} {d : FP.Core.Datum} (h : zRR FP.Core.b32 s d) : FP.Core.encode FP.Core.b32 d < 4294967296 ∧ FP.Core.encode FP.Core.b32 d % 2147483648 ≤ 2139095040 := by
  obtain ⟨e1, e2, e3, e4, e5⟩ := ze32
  rcases h with rfl | ⟨c, q, rfl, hc, hq⟩
  · show FP.Core.assemble FP.Core.b32 s (FP.Core.b32.exps - 1) 0 < _ ∧ FP.Core.assemble FP.Core.b32 s (FP.Core.b32.exps - 1) 0 % _ ≤ _
    unfold FP.Core.assemble
    rw [e1, e2]
    cases s <;> decide
  · rw [e5] at hc
    rw [e4] at hq
    show (if c < FP.Core.b32.tails then FP.Core.assemble FP.Core.b32 s 0 c else FP.Core.assemble FP.Core.b32 s ((q - FP.Core.b32.qmin).toNat + 1) (c - FP.Core.b32.tails)) < _ ∧ (if c < FP.Core.b32.tails then FP.Core.assemble FP.Core.b32 s 0 c else FP.Core.assemble FP.Core.b32 s ((q - FP.Core.b32.qmin).toNat + 1) (c - FP.Core.b32.tails)) % _ ≤ _
    unfold FP.Core.assemble
    rw [e1, e2, e3]
    have hb : s.toNat = 0 ∨ s.toNat = 1 := by cases s; exact Or.inl rfl; exact Or.inr rfl
    have hq2 : (q - -149).toNat + 1 ≤ 254 := by omega
    generalize (q - -149).toNat + 1 = E at hq2 ⊢
    rcases hb with hb | hb <;> rw [hb] <;> split <;> exact ⟨by omega, by omega⟩
theorem zn64_of {s : Bool} {d : FP.Core.Datum} (h : zRR FP.Core.b64 s d) : zn64 (UInt64.ofNat (FP.Core.encode FP.Core.b64 d)) := by
  obtain ⟨h1, h2, h3⟩ := zenc64 h
  unfold zn64
  rw [UInt64.toNat_ofNat_of_lt' h1]
  exact h2
theorem zp64_of {d : FP.Core.Datum} (h : zRR FP.Core.b64 false d) : zp64 (UInt64.ofNat (FP.Core.encode FP.Core.b64 d)) := by
  obtain ⟨h1, h2, h3⟩ := zenc64 h
  unfold zp64
  rw [UInt64.toNat_ofNat_of_lt' h1]
  exact h3 rfl
theorem zn32_of {s : Bool} {d : FP.Core.Datum} (h : zRR FP.Core.b32 s d) : zn32 (UInt32.ofNat (FP.Core.encode FP.Core.b32 d)) := by
  obtain ⟨h1, h2⟩ := zenc32 h
  unfold zn32
  rw [UInt32.toNat_ofNat_of_lt' h1]
  exact h2
theorem zn64_v {x : UInt64} (h : zn64 x) : zv64 x ≠ .nan := by
  obtain ⟨e1, e2, e3, e4, e5⟩ := ze64
  unfold zn64 at h
  unfold zv64 FP.Core.decode FP.Core.fieldE FP.Core.fieldT
  rw [e1, e2]
  generalize x.toNat = n at h ⊢
  split
  · split
    · intro e; cases e
    · exfalso; omega
  · split <;> (intro e; cases e)
theorem zn32_v {x : UInt32} (h : zn32 x) : zv32 x ≠ .nan := by
  obtain ⟨e1, e2, e3, e4, e5⟩ := ze32
  unfold zn32 at h
  unfold zv32 FP.Core.decode FP.Core.fieldE FP.Core.fieldT
  rw [e1, e2]
  generalize x.toNat = n at h ⊢
  split
  · split
    · intro e; cases e
    · exfalso; omega
  · split <;> (intro e; cases e)
/-- a number that is not below 0, or the infinity above -/
def zps (d : FP.Core.Datum) : Prop := (∃ c q, d = .fin false c q) ∨ d = .inf false
theorem zp64_v {x : UInt64} (h : zp64 x) : zps (zv64 x) := by
  obtain ⟨e1, e2, e3, e4, e5⟩ := ze64
  unfold zp64 at h
  unfold zv64 FP.Core.decode FP.Core.fieldE FP.Core.fieldT FP.Core.fieldS
  rw [e1, e2]
  generalize x.toNat = n at h ⊢
  have hS : (n / 4503599627370496 / 2048 % 2 == 1) = false := by rw [show n / 4503599627370496 / 2048 % 2 = 0 by omega]; rfl
  rw [hS]
  split
  · split
    · exact Or.inr rfl
    · exfalso; omega
  · split <;> exact Or.inl ⟨_, _, rfl⟩
theorem zp64_n {x : UInt64} (h : zp64 x) : zn64 x := by
  unfold zp64 at h
  unfold zn64
  omega
theorem zps_nn {d : FP.Core.Datum} (h : zps d) : d ≠ .nan := by
  rcases h with ⟨c, q, rfl⟩ | rfl <;> intro e <;> cases e
theorem zround_ps {f : FP.Core.Fmt} (hf : zFm f) {d : FP.Core.Datum} (h : zps d) : zRR f false (FP.Core.round f d) := by
  rcases h with ⟨c, q, rfl⟩ | rfl
  · exact zrr hf
  · exact Or.inl rfl
theorem zround_nn {f : FP.Core.Fmt} (hf : zFm f) {d : FP.Core.Datum} (h : d ≠ .nan) : ∃ s, zRR f s (FP.Core.round f d) := by
  cases d with
  | nan => exact absurd rfl h
  | inf s => exact ⟨s, Or.inl rfl⟩
  | fin s c q => exact ⟨s, zrr hf⟩
theorem zRR_ps {f : FP.Core.Fmt} {d : FP.Core.Datum} (h : zRR f false d) : zps d := by
  rcases h with rfl | ⟨c, q, rfl, _, _⟩
  · exact Or.inr rfl
  · exact Or.inl ⟨_, _, rfl⟩
theorem zps_of {v : Int} (h : 0 ≤ v ∧ v ≤ 2147483647) : zps (FP.Core.ofInt (Int32.ofInt v).toInt) := by
  refine Or.inl ⟨v.natAbs, 0, ?_⟩
  rw [Int32.toInt_ofInt_of_le (by omega) (by omega)]
  unfold FP.Core.ofInt
  rw [decide_eq_false (by omega)]
theorem zps_div {f : FP.Core.Fmt} (hf : zFm f) {x y : FP.Core.Datum} {d : Nat} {r : Int} (h : zps x) (hy : y = .fin false d r) (hd : d ≠ 0) : zRR f false (FP.Core.quotient f x y) := by
  subst hy
  rcases h with ⟨c, q, rfl⟩ | rfl
  · show zRR f false (if d = 0 then _ else FP.Core.roundRatio f (false != false) c d (q - r))
    rw [if_neg hd]
    exact zrr hf
  · exact Or.inl rfl
theorem zps_sq {x : FP.Core.Datum} (h : zps x) : zps (FP.Core.exactProduct x x) := by
  rcases h with ⟨c, q, rfl⟩ | rfl
  · exact Or.inl ⟨_, _, rfl⟩
  · exact Or.inr rfl
theorem zps_add {x y : FP.Core.Datum} (h : zps x) (h' : zps y) : zps (FP.Core.exactSum x y) := by
  rcases h with ⟨c, q, rfl⟩ | rfl
  · rcases h' with ⟨d, r, rfl⟩ | rfl
    · refine Or.inl ⟨(FP.Core.sumUnits false c q false d r (min q r)).natAbs, min q r, ?_⟩
      show FP.Core.Datum.fin (FP.Core.sumSign false false (FP.Core.sumUnits false c q false d r (min q r))) _ _ = _
      have h0 : 0 ≤ FP.Core.sumUnits false c q false d r (min q r) := by
        show 0 ≤ ((FP.Core.inUnits c q (min q r) : Nat) : Int) + ((FP.Core.inUnits d r (min q r) : Nat) : Int)
        omega
      have e : FP.Core.sumSign false false (FP.Core.sumUnits false c q false d r (min q r)) = false := by
        unfold FP.Core.sumSign
        split
        · rfl
        · exact decide_eq_false (by omega)
      rw [e]
    · exact Or.inr rfl
  · rcases h' with ⟨d, r, rfl⟩ | rfl
    · exact Or.inr rfl
    · exact Or.inr rfl
theorem zsub_nn {x y : FP.Core.Datum} {c : Nat} {q : Int} (h : x = .fin false c q) (hy : y ≠ .nan) : FP.Core.exactSum x (FP.Core.negate y) ≠ .nan := by
  subst h
  cases y with
  | nan => exact absurd rfl hy
  | inf s => intro e; cases e
  | fin s d r => intro e; cases e
theorem zsub_nn2 {x y : FP.Core.Datum} {c : Nat} {q : Int} (h : y = .fin false c q) (hx : x ≠ .nan) : FP.Core.exactSum x (FP.Core.negate y) ≠ .nan := by
  subst h
  cases x with
  | nan => exact absurd rfl hx
  | inf s => intro e; cases e
  | fin s d r => intro e; cases e
theorem zmul_nn {x y : FP.Core.Datum} {c : Nat} {q : Int} (h : y = .fin false c q) (hc : c ≠ 0) (hx : x ≠ .nan) : FP.Core.exactProduct x y ≠ .nan := by
  subst h
  cases x with
  | nan => exact absurd rfl hx
  | inf s =>
    show (if c = 0 then FP.Core.Datum.nan else .inf (s != false)) ≠ .nan
    rw [if_neg hc]
    intro e; cases e
  | fin s d r => intro e; cases e
theorem zc64_1 : zv64 FP.dconst1 = .fin false 4503599627370496 (-52) := by decide +kernel
theorem zc64_M : zv64 4696837146684686336 = .fin false 8589934592000000 (-33) := by decide +kernel
theorem zc64_2 : zv64 4611686018427387904 = .fin false 4503599627370496 (-51) := by decide +kernel
theorem zc64_B : zv64 4841369599423283200 = .fin false 4503599627370496 0 := by decide +kernel
theorem zc32_1 : zv32 FP.fconst1 = .fin false 8388608 (-23) := by decide +kernel
theorem zc32_M : zv32 1232348160 = .fin false 16000000 (-4) := by decide +kernel
theorem zc32_2 : zv32 FP.fconst2 = .fin false 8388608 (-22) := by decide +kernel
theorem zc32_B : zv32 1258291200 = .fin false 8388608 0 := by decide +kernel
theorem zn64_mul {x y : UInt64} {c : Nat} {q : Int} (hx : zn64 x) (h : zv64 y = .fin false c q) (hc : c ≠ 0) : zn64 (FP.dmul x y) := by
  obtain ⟨s, h9⟩ := zround_nn zfm64 (zmul_nn h hc (zn64_v hx))
  exact zn64_of h9
theorem zn64_sub {x y : UInt64} {c : Nat} {q : Int} (hx : zn64 x) (h : zv64 y = .fin false c q) : zn64 (FP.dsub x y) := by
  obtain ⟨s, h9⟩ := zround_nn zfm64 (zsub_nn2 h (zn64_v hx))
  exact zn64_of h9
theorem zn64_sub1 {x : UInt64} (hx : zn64 x) : zn64 (FP.dsub FP.dconst1 x) := by
  obtain ⟨s, h9⟩ := zround_nn zfm64 (zsub_nn zc64_1 (zn64_v hx))
  exact zn64_of h9
theorem zp64_i {v : Int} (h : 0 ≤ v ∧ v ≤ 2147483647) : zp64 (FP.i2d (Int32.ofInt v)) := zp64_of (zround_ps zfm64 (zps_of h))
theorem zp64_div {x : UInt64} (h : zp64 x) : zp64 (FP.ddiv x 4696837146684686336) := zp64_of (zps_div zfm64 (zp64_v h) zc64_M (by decide))
theorem zp64_sq {x : UInt64} (h : zp64 x) : zp64 (FP.dmul x x) := zp64_of (zround_ps zfm64 (zps_sq (zp64_v h)))
theorem zp64_add {x y : UInt64} (h : zp64 x) (h' : zp64 y) : zp64 (FP.dadd x y) := zp64_of (zround_ps zfm64 (zps_add (zp64_v h) (zp64_v h')))
theorem zp64_0 : zp64 FP.dconst0 := by unfold zp64; decide
theorem zn32_mul {x y : UInt32} {c : Nat} {q : Int} (hx : zn32 x) (h : zv32 y = .fin false c q) (hc : c ≠ 0) : zn32 (FP.fmul x y) := by
  obtain ⟨s, h9⟩ := zround_nn zfm32 (zmul_nn h hc (zn32_v hx))
  exact zn32_of h9
theorem zn32_sub {x y : UInt32} {c : Nat} {q : Int} (hx : zn32 x) (h : zv32 y = .fin false c q) : zn32 (FP.fsub x y) := by
  obtain ⟨s, h9⟩ := zround_nn zfm32 (zsub_nn2 h (zn32_v hx))
  exact zn32_of h9
theorem zenc32p {d : FP.Core.Datum} (h : zRR FP.Core.b32 false d) : FP.Core.encode FP.Core.b32 d ≤ 2139095040 := by
  obtain ⟨e1, e2, e3, e4, e5⟩ := ze32
  rcases h with rfl | ⟨c, q, rfl, hc, hq⟩
  · show FP.Core.assemble FP.Core.b32 false (FP.Core.b32.exps - 1) 0 ≤ _
    unfold FP.Core.assemble
    rw [e1, e2]
    decide
  · rw [e5] at hc
    rw [e4] at hq
    show (if c < FP.Core.b32.tails then FP.Core.assemble FP.Core.b32 false 0 c else FP.Core.assemble FP.Core.b32 false ((q - FP.Core.b32.qmin).toNat + 1) (c - FP.Core.b32.tails)) ≤ _
    unfold FP.Core.assemble
    rw [e1, e2, e3, show false.toNat = 0 from rfl]
    have hq2 : (q - -149).toNat + 1 ≤ 254 := by omega
    obtain ⟨E, hE⟩ : ∃ E, E = (q - -149).toNat + 1 := ⟨_, rfl⟩
    rw [← hE] at hq2 ⊢
    split <;> omega
theorem zp32_v {x : UInt32} (h : x.toNat ≤ 2139095040) : zps (zv32 x) := by
  obtain ⟨e1, e2, e3, e4, e5⟩ := ze32
  unfold zv32 FP.Core.decode FP.Core.fieldE FP.Core.fieldT FP.Core.fieldS
  rw [e1, e2]
  generalize x.toNat = n at h ⊢
  have hS : (n / 8388608 / 256 % 2 == 1) = false := by rw [show n / 8388608 / 256 % 2 = 0 by omega]; rfl
  rw [hS]
  split
  · split
    · exact Or.inr rfl
    · exfalso; omega
  · split <;> exact Or.inl ⟨_, _, rfl⟩
theorem zp32_i {v : Int} (h : 0 ≤ v ∧ v ≤ 2147483647) : (FP.i2f (Int32.ofInt v)).toNat ≤ 2139095040 := by
  have h1 := zenc32p (zround_ps zfm32 (zps_of h))
  have h2 := (zenc32 (zround_ps zfm32 (zps_of h))).1
  show (UInt32.ofNat (FP.Core.encode FP.Core.b32 (FP.Core.round FP.Core.b32 (FP.Core.ofInt (Int32.ofInt v).toInt)))).toNat ≤ _
  rw [UInt32.toNat_ofNat_of_lt' h2]
  exact h1
theorem zn32_sh {v : Int} (h : 0 ≤ v ∧ v ≤ 2147483647) : zn32 (FP.fdiv (FP.i2f (Int32.ofInt v)) 1232348160) := zn32_of (zps_div zfm32 (zp32_v (zp32_i h)) zc32_M (by decide))
def zbeP (s : UInt64) : Prop := y_cmp (y_cd .ge) (Op.cmpValue (FP.dcmp s FP.dconst1) .g) 0 = true
def zbe (s : UInt64) (e : Int) : Int := zlor (zlshl e 52) (FP.d2l (FP.dmul (FP.dsub s FP.dconst1) 4841369599423283200)).toInt
noncomputable def zbl : Nat → UInt64 → Int → Int
  | 0, s, e => zbe s e
  | k + 1, s, e => @ite _ (zbeP s) (Classical.propDecidable _) (zbe s e) (zbl k (FP.dmul s 4611686018427387904) (e - 1))
noncomputable def zbd (x : UInt64) : Int := @ite _ (y_cmp (y_cd .gt) (Op.cmpValue (FP.dcmp x FP.dconst0) .g) 0 = true) (Classical.propDecidable _) (zbl 1022 x 1023) 0
theorem zbl_t {s : UInt64} {e : Int} (h : zbeP s ∨ e ≤ 1) : zbl (e - 1).toNat s e = zbe s e := by
  by_cases h1 : e ≤ 1
  · rw [show (e - 1).toNat = 0 by omega]
    rfl
  · rw [show (e - 1).toNat = (e - 1).toNat - 1 + 1 by omega]
    exact if_pos (h.resolve_right h1)
theorem zbl_f {s : UInt64} {e : Int} (h : ¬ zbeP s) (h1 : 1 < e) : zbl (e - 1).toNat s e = zbl (e - 1 - 1).toNat (FP.dmul s 4611686018427387904) (e - 1) := by
  rw [show (e - 1).toNat = (e - 1 - 1).toNat + 1 by omega]
  exact if_neg h
theorem zl_bitsOfDouble_15 {xs : List Int32} {d : Nat} {w : Bool} {M : zM} {x : UInt64} (hx : zn64 x)  : ∀ (zn : Nat) (e : Int) (s : UInt64), (zn64 s) → (zbl 1022 x 1023 = zbl (e - 1).toNat s e) → (1 ≤ e ∧ e ≤ 1023) → e ≤ (zn : Int) → zG (xstep (xrun2 xs (d + 0)) xs 127) 127 (zn * 18 + 18) 15 [(2, .double s), (4, .long (Int64.ofInt e))] [] 0 0 w M (fun o σ => o = (.inl (some (.long (Int64.ofInt (zbl 1022 x 1023)))) : XO) ∧ σ = (w, zheap M)) := by
  intro zn
  induction zn with
  | zero =>
    intro e s hs hv he hm
    exact zG_mono (N := 0 + 18) (by omega) (zz_dload_n (pc := 15) xf_127_15 (zmem 0 rfl) (zz_dconst1 (pc := 16) xf_127_16 (zz_dcmp (pc := 17) xf_127_17 xf_127_18 (fun (zc1 : y_cmp (y_cd .ge) (Op.cmpValue (FP.dcmp s FP.dconst1) .g) 0 = true) => zz_lload (pc := 43) xf_127_43 (zmem 1 rfl) (zz_bipush (pc := 45) (x := 52) xf_127_45 (by decide +kernel) (zz_zlshl (pc := 47) xf_127_47 (zz_dload_n (pc := 48) xf_127_48 (zmem 0 rfl) (zz_dconst1 (pc := 49) xf_127_49 (zz_dsub (pc := 50) xf_127_50 (z64_m (zn64_sub hs zc64_1)) (zz_ldc2_w (pc := 51) (v := .double 4841369599423283200) xf_127_51 (by decide +kernel) (zz_dmul (pc := 54) xf_127_54 (z64_m (zn64_mul (zn64_sub hs zc64_1) zc64_B (by decide))) (zz_d2l (pc := 55) xf_127_55 (zz_zlor (pc := 56) xf_127_56 (zz_lreturn (pc := 57) xf_127_57 rfl (by decide +kernel) (by decide +kernel) (by exact ⟨zq_j (by rw [hv]; exact (zbl_t (by first | exact Or.inl (by assumption) | exact Or.inr (by omega))).symm), rfl⟩)))))))))))) (fun (zc2 : ¬ y_cmp (y_cd .ge) (Op.cmpValue (FP.dcmp s FP.dconst1) .g) 0 = true) => zz_lload (pc := 21) xf_127_21 (zmem 1 rfl) (zz_lconst (pc := 23) (x := 1) xf_127_23 (by decide +kernel) (zz_lcmp (pc := 24) xf_127_24 xf_127_25 (by unfold zr64; omega) ⟨by decide, by decide⟩ (fun (zc3 : ¬ ((1) < e)) => zz_lload (pc := 43) xf_127_43 (zmem 1 rfl) (zz_bipush (pc := 45) (x := 52) xf_127_45 (by decide +kernel) (zz_zlshl (pc := 47) xf_127_47 (zz_dload_n (pc := 48) xf_127_48 (zmem 0 rfl) (zz_dconst1 (pc := 49) xf_127_49 (zz_dsub (pc := 50) xf_127_50 (z64_m (zn64_sub hs zc64_1)) (zz_ldc2_w (pc := 51) (v := .double 4841369599423283200) xf_127_51 (by decide +kernel) (zz_dmul (pc := 54) xf_127_54 (z64_m (zn64_mul (zn64_sub hs zc64_1) zc64_B (by decide))) (zz_d2l (pc := 55) xf_127_55 (zz_zlor (pc := 56) xf_127_56 (zz_lreturn (pc := 57) xf_127_57 rfl (by decide +kernel) (by decide +kernel) (by exact ⟨zq_j (by rw [hv]; exact (zbl_t (by first | exact Or.inl (by assumption) | exact Or.inr (by omega))).symm), rfl⟩)))))))))))) (fun zc40 => have zc4 : (1) < e := Classical.not_not.mp zc40; zz_dload_n (pc := 28) xf_127_28 (zmem 0 rfl) (zz_ldc2_w (pc := 29) (v := .double 4611686018427387904) xf_127_29 (by decide +kernel) (zz_dmul (pc := 32) xf_127_32 (z64_m (zn64_mul hs zc64_2 (by decide))) (zz_dstore_n (pc := 33) xf_127_33 (by decide +kernel) (zG_ro (ρ' := [(2, .double (FP.dmul s 4611686018427387904)), (4, .long (Int64.ofInt e))]) rfl (zz_lload (pc := 34) xf_127_34 (zmem 1 rfl) (zz_lconst (pc := 36) (x := 1) xf_127_36 (by decide +kernel) (zz_lsub (pc := 37) xf_127_37 (zz_lstore (pc := 38) xf_127_38 (by decide +kernel) (zG_ro (ρ' := [(4, .long (Int64.ofInt (e - (1)))), (2, .double (FP.dmul s 4611686018427387904))]) rfl (zz_goto (pc := 40) xf_127_40 ((by exfalso; omega)))))))))))))))))))
  | succ zn ih =>
    intro e s hs hv he hm
    exact zG_mono (N := zn * 18 + 18 + 0 + 18) (by omega) (zz_dload_n (pc := 15) xf_127_15 (zmem 0 rfl) (zz_dconst1 (pc := 16) xf_127_16 (zz_dcmp (pc := 17) xf_127_17 xf_127_18 (fun (zc1 : y_cmp (y_cd .ge) (Op.cmpValue (FP.dcmp s FP.dconst1) .g) 0 = true) => zz_lload (pc := 43) xf_127_43 (zmem 1 rfl) (zz_bipush (pc := 45) (x := 52) xf_127_45 (by decide +kernel) (zz_zlshl (pc := 47) xf_127_47 (zz_dload_n (pc := 48) xf_127_48 (zmem 0 rfl) (zz_dconst1 (pc := 49) xf_127_49 (zz_dsub (pc := 50) xf_127_50 (z64_m (zn64_sub hs zc64_1)) (zz_ldc2_w (pc := 51) (v := .double 4841369599423283200) xf_127_51 (by decide +kernel) (zz_dmul (pc := 54) xf_127_54 (z64_m (zn64_mul (zn64_sub hs zc64_1) zc64_B (by decide))) (zz_d2l (pc := 55) xf_127_55 (zz_zlor (pc := 56) xf_127_56 (zz_lreturn (pc := 57) xf_127_57 rfl (by decide +kernel) (by decide +kernel) (by exact ⟨zq_j (by rw [hv]; exact (zbl_t (by first | exact Or.inl (by assumption) | exact Or.inr (by omega))).symm), rfl⟩)))))))))))) (fun (zc2 : ¬ y_cmp (y_cd .ge) (Op.cmpValue (FP.dcmp s FP.dconst1) .g) 0 = true) => zz_lload (pc := 21) xf_127_21 (zmem 1 rfl) (zz_lconst (pc := 23) (x := 1) xf_127_23 (by decide +kernel) (zz_lcmp (pc := 24) xf_127_24 xf_127_25 (by unfold zr64; omega) ⟨by decide, by decide⟩ (fun (zc3 : ¬ ((1) < e)) => zz_lload (pc := 43) xf_127_43 (zmem 1 rfl) (zz_bipush (pc := 45) (x := 52) xf_127_45 (by decide +kernel) (zz_zlshl (pc := 47) xf_127_47 (zz_dload_n (pc := 48) xf_127_48 (zmem 0 rfl) (zz_dconst1 (pc := 49) xf_127_49 (zz_dsub (pc := 50) xf_127_50 (z64_m (zn64_sub hs zc64_1)) (zz_ldc2_w (pc := 51) (v := .double 4841369599423283200) xf_127_51 (by decide +kernel) (zz_dmul (pc := 54) xf_127_54 (z64_m (zn64_mul (zn64_sub hs zc64_1) zc64_B (by decide))) (zz_d2l (pc := 55) xf_127_55 (zz_zlor (pc := 56) xf_127_56 (zz_lreturn (pc := 57) xf_127_57 rfl (by decide +kernel) (by decide +kernel) (by exact ⟨zq_j (by rw [hv]; exact (zbl_t (by first | exact Or.inl (by assumption) | exact Or.inr (by omega))).symm), rfl⟩)))))))))))) (fun zc40 => have zc4 : (1) < e := Classical.not_not.mp zc40; zz_dload_n (pc := 28) xf_127_28 (zmem 0 rfl) (zz_ldc2_w (pc := 29) (v := .double 4611686018427387904) xf_127_29 (by decide +kernel) (zz_dmul (pc := 32) xf_127_32 (z64_m (zn64_mul hs zc64_2 (by decide))) (zz_dstore_n (pc := 33) xf_127_33 (by decide +kernel) (zG_ro (ρ' := [(2, .double (FP.dmul s 4611686018427387904)), (4, .long (Int64.ofInt e))]) rfl (zz_lload (pc := 34) xf_127_34 (zmem 1 rfl) (zz_lconst (pc := 36) (x := 1) xf_127_36 (by decide +kernel) (zz_lsub (pc := 37) xf_127_37 (zz_lstore (pc := 38) xf_127_38 (by decide +kernel) (zG_ro (ρ' := [(4, .long (Int64.ofInt (e - (1)))), (2, .double (FP.dmul s 4611686018427387904))]) rfl (zz_goto (pc := 40) xf_127_40 (zG_mono (N := zn * 18 + 18) (by omega) (zG_sub (List.forall_mem_cons.mpr ⟨zmem 1 rfl, (List.forall_mem_cons.mpr ⟨zmem 0 rfl, (fun p hp => absurd hp List.not_mem_nil)⟩)⟩) (ih (e - (1)) (FP.dmul s 4611686018427387904)  (zn64_mul hs zc64_2 (by decide)) (by rw [hv]; exact zbl_f (by assumption) (by omega)) (by omega) (by omega)))))))))))))))))))))
theorem sp_bitsOfDouble {xs : List Int32} {d : Nat} {w : Bool} {M : zM} {x : UInt64} (hx : zn64 x) : xrun2 xs (d + 1) 127 [.double x] (w, zheap M) = some (.inl (some (.long (Int64.ofInt (zbd x)))), (w, zheap M)) := by
  exact zrun_v (N := 18458) (by decide) rfl (zz_dload_n (pc := 0) xf_127_0 (zmem 0 rfl) (zz_dconst0 (pc := 1) xf_127_1 (zz_dcmp (pc := 2) xf_127_2 xf_127_3 (fun (zc1 : y_cmp (y_cd .gt) (Op.cmpValue (FP.dcmp x FP.dconst0) .g) 0 = true) => zz_dload_n (pc := 8) xf_127_8 (zmem 0 rfl) (zz_dstore_n (pc := 9) xf_127_9 (by decide +kernel) (zG_ro (ρ' := [(2, .double x), (0, .double x)]) rfl (zz_ldc2_w (pc := 10) (v := .long (Int64.ofInt (1023))) xf_127_10 (by decide +kernel) (zz_lstore (pc := 13) xf_127_13 (by decide +kernel) (zG_ro (ρ' := [(4, .long (Int64.ofInt (1023))), (2, .double x), (0, .double x)]) rfl (zG_mono (N := 18450) (by omega) (zG_sub (List.forall_mem_cons.mpr ⟨zmem 1 rfl, (List.forall_mem_cons.mpr ⟨zmem 0 rfl, (fun p hp => absurd hp List.not_mem_nil)⟩)⟩) ((by have h : zbd x = zbl 1022 x 1023 := if_pos (by assumption); rw [h]; exact zl_bitsOfDouble_15 hx 1024 _ x hx rfl (by omega) (by omega))))))))))) (fun (zc2 : ¬ y_cmp (y_cd .gt) (Op.cmpValue (FP.dcmp x FP.dconst0) .g) 0 = true) => zz_lconst (pc := 6) (x := 0) xf_127_6 (by decide +kernel) (zz_lreturn (pc := 7) xf_127_7 rfl (by decide +kernel) (by decide +kernel) (by exact ⟨zq_j (if_neg (by assumption)).symm, rfl⟩))))))
def zfeP (s : UInt32) : Prop := y_cmp (y_cd .ge) (Op.cmpValue (FP.fcmp s FP.fconst1) .g) 0 = true
def zfbe (s : UInt32) (e : Int) : Int := zior (zshl e 23) (FP.f2i (FP.fmul (FP.fsub s FP.fconst1) 1258291200)).toInt
noncomputable def zfl : Nat → UInt32 → Int → Int
  | 0, s, e => zfbe s e
  | k + 1, s, e => @ite _ (zfeP s) (Classical.propDecidable _) (zfbe s e) (zfl k (FP.fmul s FP.fconst2) (e - 1))
noncomputable def zbf (x : UInt32) : Int := @ite _ (y_cmp (y_cd .gt) (Op.cmpValue (FP.fcmp x FP.fconst0) .g) 0 = true) (Classical.propDecidable _) (zfl 126 x 127) 0
theorem zfl_t {s : UInt32} {e : Int} (h : zfeP s ∨ e ≤ 1) : zfl (e - 1).toNat s e = zfbe s e := by
  by_cases h1 : e ≤ 1
  · rw [show (e - 1).toNat = 0 by omega]
    rfl
  · rw [show (e - 1).toNat = (e - 1).toNat - 1 + 1 by omega]
    exact if_pos (h.resolve_right h1)
theorem zfl_f {s : UInt32} {e : Int} (h : ¬ zfeP s) (h1 : 1 < e) : zfl (e - 1).toNat s e = zfl (e - 1 - 1).toNat (FP.fmul s FP.fconst2) (e - 1) := by
  rw [show (e - 1).toNat = (e - 1 - 1).toNat + 1 by omega]
  exact if_neg h
theorem zl_bitsOfFloat_13 {xs : List Int32} {d : Nat} {w : Bool} {M : zM} {x : UInt32} (hx : zn32 x)  : ∀ (zn : Nat) (e : Int) (s : UInt32), (zn32 s) → (zfl 126 x 127 = zfl (e - 1).toNat s e) → (1 ≤ e ∧ e ≤ 127) → e ≤ (zn : Int) → zG (xstep (xrun2 xs (d + 0)) xs 128) 128 (zn * 17 + 17) 13 [(1, .float s), (2, .int (Int32.ofInt e))] [] 0 0 w M (fun o σ => o = (.inl (some (.int (Int32.ofInt (zfl 126 x 127)))) : XO) ∧ σ = (w, zheap M)) := by
  intro zn
  induction zn with
  | zero =>
    intro e s hs hv he hm
    exact zG_mono (N := 0 + 17) (by omega) (zz_fload_n (pc := 13) xf_128_13 (zmem 0 rfl) (zz_fconst1 (pc := 14) xf_128_14 (zz_fcmp (pc := 15) xf_128_15 xf_128_16 (fun (zc1 : y_cmp (y_cd .ge) (Op.cmpValue (FP.fcmp s FP.fconst1) .g) 0 = true) => zz_iload_n (pc := 34) xf_128_34 (zmem 1 rfl) (zz_bipush (pc := 35) (x := 23) xf_128_35 (by decide +kernel) (zz_zshl (pc := 37) xf_128_37 (zz_fload_n (pc := 38) xf_128_38 (zmem 0 rfl) (zz_fconst1 (pc := 39) xf_128_39 (zz_fsub (pc := 40) xf_128_40 (z32_m (zn32_sub hs zc32_1)) (zz_ldc_w (pc := 41) (v := .float 1258291200) xf_128_41 (by decide +kernel) (zz_fmul (pc := 44) xf_128_44 (z32_m (zn32_mul (zn32_sub hs zc32_1) zc32_B (by decide))) (zz_f2i (pc := 45) xf_128_45 (zz_zior (pc := 46) xf_128_46 (zz_ireturn (pc := 47) xf_128_47 rfl (by decide +kernel) (by decide +kernel) (by exact ⟨zq_i (by rw [hv]; exact (zfl_t (by first | exact Or.inl (by assumption) | exact Or.inr (by omega))).symm), rfl⟩)))))))))))) (fun (zc2 : ¬ y_cmp (y_cd .ge) (Op.cmpValue (FP.fcmp s FP.fconst1) .g) 0 = true) => zz_iload_n (pc := 19) xf_128_19 (zmem 1 rfl) (zz_iconst (pc := 20) xf_128_20 (zz_icmp (pc := 21) xf_128_21 (by unfold zr32; omega) ⟨by decide, by decide⟩ (fun (zc3 : ¬ ((1) < e)) => zz_iload_n (pc := 34) xf_128_34 (zmem 1 rfl) (zz_bipush (pc := 35) (x := 23) xf_128_35 (by decide +kernel) (zz_zshl (pc := 37) xf_128_37 (zz_fload_n (pc := 38) xf_128_38 (zmem 0 rfl) (zz_fconst1 (pc := 39) xf_128_39 (zz_fsub (pc := 40) xf_128_40 (z32_m (zn32_sub hs zc32_1)) (zz_ldc_w (pc := 41) (v := .float 1258291200) xf_128_41 (by decide +kernel) (zz_fmul (pc := 44) xf_128_44 (z32_m (zn32_mul (zn32_sub hs zc32_1) zc32_B (by decide))) (zz_f2i (pc := 45) xf_128_45 (zz_zior (pc := 46) xf_128_46 (zz_ireturn (pc := 47) xf_128_47 rfl (by decide +kernel) (by decide +kernel) (by exact ⟨zq_i (by rw [hv]; exact (zfl_t (by first | exact Or.inl (by assumption) | exact Or.inr (by omega))).symm), rfl⟩)))))))))))) (fun zc40 => have zc4 : (1) < e := Classical.not_not.mp zc40; zz_fload_n (pc := 24) xf_128_24 (zmem 0 rfl) (zz_fconst2 (pc := 25) xf_128_25 (zz_fmul (pc := 26) xf_128_26 (z32_m (zn32_mul hs zc32_2 (by decide))) (zz_fstore_n (pc := 27) xf_128_27 (by decide +kernel) (zG_ro (ρ' := [(1, .float (FP.fmul s FP.fconst2)), (2, .int (Int32.ofInt e))]) rfl (zz_iinc (pc := 28) xf_128_28 (zmem 1 rfl) (by decide +kernel) (zG_ro (ρ' := [(2, .int (Int32.ofInt (e + (-1)))), (1, .float (FP.fmul s FP.fconst2))]) rfl (zz_goto (pc := 31) xf_128_31 ((by exfalso; omega))))))))))))))))
  | succ zn ih =>
    intro e s hs hv he hm
    exact zG_mono (N := zn * 17 + 17 + 0 + 17) (by omega) (zz_fload_n (pc := 13) xf_128_13 (zmem 0 rfl) (zz_fconst1 (pc := 14) xf_128_14 (zz_fcmp (pc := 15) xf_128_15 xf_128_16 (fun (zc1 : y_cmp (y_cd .ge) (Op.cmpValue (FP.fcmp s FP.fconst1) .g) 0 = true) => zz_iload_n (pc := 34) xf_128_34 (zmem 1 rfl) (zz_bipush (pc := 35) (x := 23) xf_128_35 (by decide +kernel) (zz_zshl (pc := 37) xf_128_37 (zz_fload_n (pc := 38) xf_128_38 (zmem 0 rfl) (zz_fconst1 (pc := 39) xf_128_39 (zz_fsub (pc := 40) xf_128_40 (z32_m (zn32_sub hs zc32_1)) (zz_ldc_w (pc := 41) (v := .float 1258291200) xf_128_41 (by decide +kernel) (zz_fmul (pc := 44) xf_128_44 (z32_m (zn32_mul (zn32_sub hs zc32_1) zc32_B (by decide))) (zz_f2i (pc := 45) xf_128_45 (zz_zior (pc := 46) xf_128_46 (zz_ireturn (pc := 47) xf_128_47 rfl (by decide +kernel) (by decide +kernel) (by exact ⟨zq_i (by rw [hv]; exact (zfl_t (by first | exact Or.inl (by assumption) | exact Or.inr (by omega))).symm), rfl⟩)))))))))))) (fun (zc2 : ¬ y_cmp (y_cd .ge) (Op.cmpValue (FP.fcmp s FP.fconst1) .g) 0 = true) => zz_iload_n (pc := 19) xf_128_19 (zmem 1 rfl) (zz_iconst (pc := 20) xf_128_20 (zz_icmp (pc := 21) xf_128_21 (by unfold zr32; omega) ⟨by decide, by decide⟩ (fun (zc3 : ¬ ((1) < e)) => zz_iload_n (pc := 34) xf_128_34 (zmem 1 rfl) (zz_bipush (pc := 35) (x := 23) xf_128_35 (by decide +kernel) (zz_zshl (pc := 37) xf_128_37 (zz_fload_n (pc := 38) xf_128_38 (zmem 0 rfl) (zz_fconst1 (pc := 39) xf_128_39 (zz_fsub (pc := 40) xf_128_40 (z32_m (zn32_sub hs zc32_1)) (zz_ldc_w (pc := 41) (v := .float 1258291200) xf_128_41 (by decide +kernel) (zz_fmul (pc := 44) xf_128_44 (z32_m (zn32_mul (zn32_sub hs zc32_1) zc32_B (by decide))) (zz_f2i (pc := 45) xf_128_45 (zz_zior (pc := 46) xf_128_46 (zz_ireturn (pc := 47) xf_128_47 rfl (by decide +kernel) (by decide +kernel) (by exact ⟨zq_i (by rw [hv]; exact (zfl_t (by first | exact Or.inl (by assumption) | exact Or.inr (by omega))).symm), rfl⟩)))))))))))) (fun zc40 => have zc4 : (1) < e := Classical.not_not.mp zc40; zz_fload_n (pc := 24) xf_128_24 (zmem 0 rfl) (zz_fconst2 (pc := 25) xf_128_25 (zz_fmul (pc := 26) xf_128_26 (z32_m (zn32_mul hs zc32_2 (by decide))) (zz_fstore_n (pc := 27) xf_128_27 (by decide +kernel) (zG_ro (ρ' := [(1, .float (FP.fmul s FP.fconst2)), (2, .int (Int32.ofInt e))]) rfl (zz_iinc (pc := 28) xf_128_28 (zmem 1 rfl) (by decide +kernel) (zG_ro (ρ' := [(2, .int (Int32.ofInt (e + (-1)))), (1, .float (FP.fmul s FP.fconst2))]) rfl (zz_goto (pc := 31) xf_128_31 (zG_mono (N := zn * 17 + 17) (by omega) (zG_sub (List.forall_mem_cons.mpr ⟨zmem 1 rfl, (List.forall_mem_cons.mpr ⟨zmem 0 rfl, (fun p hp => absurd hp List.not_mem_nil)⟩)⟩) (ih (e + (-1)) (FP.fmul s FP.fconst2)  (zn32_mul hs zc32_2 (by decide)) (by rw [hv]; exact zfl_f (by assumption) (by omega)) (by omega) (by omega))))))))))))))))))
theorem sp_bitsOfFloat {xs : List Int32} {d : Nat} {w : Bool} {M : zM} {x : UInt32} (hx : zn32 x) : xrun2 xs (d + 1) 128 [.float x] (w, zheap M) = some (.inl (some (.int (Int32.ofInt (zbf x)))), (w, zheap M)) := by
  exact zrun_v (N := 2201) (by decide) rfl (zz_fload_n (pc := 0) xf_128_0 (zmem 0 rfl) (zz_fconst0 (pc := 1) xf_128_1 (zz_fcmp (pc := 2) xf_128_2 xf_128_3 (fun (zc1 : y_cmp (y_cd .gt) (Op.cmpValue (FP.fcmp x FP.fconst0) .g) 0 = true) => zz_fload_n (pc := 8) xf_128_8 (zmem 0 rfl) (zz_fstore_n (pc := 9) xf_128_9 (by decide +kernel) (zG_ro (ρ' := [(1, .float x), (0, .float x)]) rfl (zz_bipush (pc := 10) (x := 127) xf_128_10 (by decide +kernel) (zz_istore_n (pc := 12) xf_128_12 (by decide +kernel) (zG_ro (ρ' := [(2, .int (Int32.ofInt (127))), (1, .float x), (0, .float x)]) rfl (zG_mono (N := 2193) (by omega) (zG_sub (List.forall_mem_cons.mpr ⟨zmem 1 rfl, (List.forall_mem_cons.mpr ⟨zmem 0 rfl, (fun p hp => absurd hp List.not_mem_nil)⟩)⟩) ((by have h : zbf x = zfl 126 x 127 := if_pos (by assumption); rw [h]; exact zl_bitsOfFloat_13 hx 128 _ x hx rfl (by omega) (by omega))))))))))) (fun (zc2 : ¬ y_cmp (y_cd .gt) (Op.cmpValue (FP.fcmp x FP.fconst0) .g) 0 = true) => zz_iconst (pc := 6) xf_128_6 (zz_ireturn (pc := 7) xf_128_7 rfl (by decide +kernel) (by decide +kernel) (by exact ⟨zq_i (if_neg (by assumption)).symm, rfl⟩))))))
noncomputable def zshd (v : Int) : UInt64 := FP.ddiv (FP.i2d (Int32.ofInt v)) 4696837146684686336
noncomputable def zdbt (F : zF) : Nat → UInt64
  | 0 => FP.dconst0
  | n + 1 => FP.dadd (zdbt F n) (FP.dmul (zshd (F n)) (zshd (F n)))
theorem zdbt_s {F : zF} {i : Int} (h : 0 ≤ i) : zdbt F (i + 1).toNat = FP.dadd (zdbt F i.toNat) (FP.dmul (zshd (F i.toNat)) (zshd (F i.toNat))) := by
  rw [show (i + 1).toNat = i.toNat + 1 by omega]
  rfl
theorem zp64_sh {v : Int} (h : 0 ≤ v ∧ v ≤ 1000000) : zp64 (zshd v) := zp64_div (zp64_i (by omega))
theorem zp64_dbt {F : zF} : ∀ n, (∀ j, j < n → 0 ≤ F j ∧ F j ≤ 1000000) → zp64 (zdbt F n)
  | 0, _ => zp64_0
  | n + 1, h => zp64_add (zp64_dbt n (fun j hj => h j (by omega))) (zp64_sq (zp64_sh (h n (by omega))))
noncomputable def zdoubt (M : zM) : Int := zbd (FP.dsub FP.dconst1 (zdbt (M (zn1 + 11)) (zsz M zn1).toNat))
theorem zl_doubtBits_16 {xs : List Int32} {d : Nat} {w : Bool} {M : zM} (hI : zCI M)  : ∀ (zn : Nat) (n i : Int) (v : UInt64), (v = zdbt (M (zn1 + 11)) i.toNat) → (n = zsz M zn1) → (0 ≤ i ∧ i ≤ n) → n - i ≤ (zn : Int) → zG (xstep (xrun2 xs (d + 1)) xs 91) 91 (zn * 20 + 20) 16 [(0, .ref 0), (1, .double v), (3, .int (Int32.ofInt n)), (4, .int (Int32.ofInt i))] [] 0 0 w M (fun o σ => o = (.inl (some (.long (Int64.ofInt (zdoubt M)))) : XO) ∧ σ = (w, zheap M)) := by
  intro zn
  induction zn with
  | zero =>
    intro n i v hv hn hi hm
    have hg := hI.g
    obtain ⟨g6, g7⟩ := hg.sz
    have hz : zsz M zn1 = M (zn1 + 1) 0 * M (zn1 + 1) 1 := rfl
    have hps := zp64_dbt (F := M (zn1 + 11)) i.toNat (fun j hj => hI.bl j (by omega))
    rw [← hv] at hps
    have hsh : i < n → zp64 (FP.ddiv (FP.i2d (Int32.ofInt (M (zn1 + 11) i.toNat))) 4696837146684686336) := fun h => zp64_sh (hI.bl _ (by omega))
    have hi2 : i < n → zp64 (FP.i2d (Int32.ofInt (M (zn1 + 11) i.toNat))) := fun h => zp64_i (by have := hI.bl i.toNat (by omega); omega)
    exact zG_mono (N := 0 + 20) (by omega) (zz_iload (pc := 16) xf_91_16 (zmem 3 rfl) (zz_iload_n (pc := 18) xf_91_18 (zmem 2 rfl) (zz_icmp (pc := 19) xf_91_19 (by unfold zr32; omega) (by unfold zr32; omega) (fun (zc1 : ¬ (i < n)) => zz_dconst1 (pc := 53) xf_91_53 (zz_dload_n (pc := 54) xf_91_54 (zmem 1 rfl) (zz_dsub (pc := 55) xf_91_55 (z64_m (zn64_sub1 (zp64_n hps))) (zz_call_v (pc := 56) (cu := 0) (su := 0) (fun ls hr => zz_calS xf_91_56 rfl ls hr) rfl (sp_bitsOfDouble (d := d) (zn64_sub1 (zp64_n hps))) (zz_lreturn (pc := 59) xf_91_59 rfl (by decide +kernel) (by decide +kernel) (by exact ⟨zq_j (by rw [hv]; unfold zdoubt; rw [show i.toNat = (zsz M zn1).toNat by omega]), rfl⟩)))))) (fun zc20 => have zc2 : i < n := Classical.not_not.mp zc20; zz_aload_n (pc := 22) xf_91_22 (zmem 0 rfl) (zz_getR (pc := 23) xf_91_23 zis_0 (by decide +kernel) rfl (zz_getR (pc := 26) xf_91_26 (zst_0 hzn1) (by decide +kernel) rfl (zz_iload (pc := 29) xf_91_29 (zmem 3 rfl) (zz_iald (pc := 31) xf_91_31 (zst_11 hzn1) (by omega) (zz_i2d (pc := 32) xf_91_32 (zz_ldc2_w (pc := 33) (v := .double 4696837146684686336) xf_91_33 (by decide +kernel) (zz_ddiv (pc := 36) xf_91_36 (z64_m (zp64_n (hsh (by omega)))) (zz_dstore (pc := 37) xf_91_37 (by decide +kernel) (zG_ro (ρ' := [(5, .double (FP.ddiv (FP.i2d (Int32.ofInt (M (zn1 + 11) i.toNat))) 4696837146684686336)), (0, .ref 0), (1, .double v), (3, .int (Int32.ofInt n)), (4, .int (Int32.ofInt i))]) rfl (zz_dload_n (pc := 39) xf_91_39 (zmem 2 rfl) (zz_dload (pc := 40) xf_91_40 (zmem 0 rfl) (zz_dload (pc := 42) xf_91_42 (zmem 0 rfl) (zz_dmul (pc := 44) xf_91_44 (z64_m (zp64_n (zp64_sq (hsh (by omega))))) (zz_dadd (pc := 45) xf_91_45 (z64_m (zp64_n (zp64_add hps (zp64_sq (hsh (by omega)))))) (zz_dstore_n (pc := 46) xf_91_46 (by decide +kernel) (zG_ro (ρ' := [(1, .double (FP.dadd v (FP.dmul (FP.ddiv (FP.i2d (Int32.ofInt (M (zn1 + 11) i.toNat))) 4696837146684686336) (FP.ddiv (FP.i2d (Int32.ofInt (M (zn1 + 11) i.toNat))) 4696837146684686336)))), (5, .double (FP.ddiv (FP.i2d (Int32.ofInt (M (zn1 + 11) i.toNat))) 4696837146684686336)), (0, .ref 0), (3, .int (Int32.ofInt n)), (4, .int (Int32.ofInt i))]) rfl (zz_iinc (pc := 47) xf_91_47 (zmem 4 rfl) (by decide +kernel) (zG_ro (ρ' := [(4, .int (Int32.ofInt (i + 1))), (1, .double (FP.dadd v (FP.dmul (FP.ddiv (FP.i2d (Int32.ofInt (M (zn1 + 11) i.toNat))) 4696837146684686336) (FP.ddiv (FP.i2d (Int32.ofInt (M (zn1 + 11) i.toNat))) 4696837146684686336)))), (5, .double (FP.ddiv (FP.i2d (Int32.ofInt (M (zn1 + 11) i.toNat))) 4696837146684686336)), (0, .ref 0), (3, .int (Int32.ofInt n))]) rfl (zz_goto (pc := 50) xf_91_50 ((by exfalso; omega)))))))))))))))))))))))))
  | succ zn ih =>
    intro n i v hv hn hi hm
    have hg := hI.g
    obtain ⟨g6, g7⟩ := hg.sz
    have hz : zsz M zn1 = M (zn1 + 1) 0 * M (zn1 + 1) 1 := rfl
    have hps := zp64_dbt (F := M (zn1 + 11)) i.toNat (fun j hj => hI.bl j (by omega))
    rw [← hv] at hps
    have hsh : i < n → zp64 (FP.ddiv (FP.i2d (Int32.ofInt (M (zn1 + 11) i.toNat))) 4696837146684686336) := fun h => zp64_sh (hI.bl _ (by omega))
    have hi2 : i < n → zp64 (FP.i2d (Int32.ofInt (M (zn1 + 11) i.toNat))) := fun h => zp64_i (by have := hI.bl i.toNat (by omega); omega)
    exact zG_mono (N := zn * 20 + 20 + 0 + 20) (by omega) (zz_iload (pc := 16) xf_91_16 (zmem 3 rfl) (zz_iload_n (pc := 18) xf_91_18 (zmem 2 rfl) (zz_icmp (pc := 19) xf_91_19 (by unfold zr32; omega) (by unfold zr32; omega) (fun (zc1 : ¬ (i < n)) => zz_dconst1 (pc := 53) xf_91_53 (zz_dload_n (pc := 54) xf_91_54 (zmem 1 rfl) (zz_dsub (pc := 55) xf_91_55 (z64_m (zn64_sub1 (zp64_n hps))) (zz_call_v (pc := 56) (cu := 0) (su := 0) (fun ls hr => zz_calS xf_91_56 rfl ls hr) rfl (sp_bitsOfDouble (d := d) (zn64_sub1 (zp64_n hps))) (zz_lreturn (pc := 59) xf_91_59 rfl (by decide +kernel) (by decide +kernel) (by exact ⟨zq_j (by rw [hv]; unfold zdoubt; rw [show i.toNat = (zsz M zn1).toNat by omega]), rfl⟩)))))) (fun zc20 => have zc2 : i < n := Classical.not_not.mp zc20; zz_aload_n (pc := 22) xf_91_22 (zmem 0 rfl) (zz_getR (pc := 23) xf_91_23 zis_0 (by decide +kernel) rfl (zz_getR (pc := 26) xf_91_26 (zst_0 hzn1) (by decide +kernel) rfl (zz_iload (pc := 29) xf_91_29 (zmem 3 rfl) (zz_iald (pc := 31) xf_91_31 (zst_11 hzn1) (by omega) (zz_i2d (pc := 32) xf_91_32 (zz_ldc2_w (pc := 33) (v := .double 4696837146684686336) xf_91_33 (by decide +kernel) (zz_ddiv (pc := 36) xf_91_36 (z64_m (zp64_n (hsh (by omega)))) (zz_dstore (pc := 37) xf_91_37 (by decide +kernel) (zG_ro (ρ' := [(5, .double (FP.ddiv (FP.i2d (Int32.ofInt (M (zn1 + 11) i.toNat))) 4696837146684686336)), (0, .ref 0), (1, .double v), (3, .int (Int32.ofInt n)), (4, .int (Int32.ofInt i))]) rfl (zz_dload_n (pc := 39) xf_91_39 (zmem 2 rfl) (zz_dload (pc := 40) xf_91_40 (zmem 0 rfl) (zz_dload (pc := 42) xf_91_42 (zmem 0 rfl) (zz_dmul (pc := 44) xf_91_44 (z64_m (zp64_n (zp64_sq (hsh (by omega))))) (zz_dadd (pc := 45) xf_91_45 (z64_m (zp64_n (zp64_add hps (zp64_sq (hsh (by omega)))))) (zz_dstore_n (pc := 46) xf_91_46 (by decide +kernel) (zG_ro (ρ' := [(1, .double (FP.dadd v (FP.dmul (FP.ddiv (FP.i2d (Int32.ofInt (M (zn1 + 11) i.toNat))) 4696837146684686336) (FP.ddiv (FP.i2d (Int32.ofInt (M (zn1 + 11) i.toNat))) 4696837146684686336)))), (5, .double (FP.ddiv (FP.i2d (Int32.ofInt (M (zn1 + 11) i.toNat))) 4696837146684686336)), (0, .ref 0), (3, .int (Int32.ofInt n)), (4, .int (Int32.ofInt i))]) rfl (zz_iinc (pc := 47) xf_91_47 (zmem 4 rfl) (by decide +kernel) (zG_ro (ρ' := [(4, .int (Int32.ofInt (i + 1))), (1, .double (FP.dadd v (FP.dmul (FP.ddiv (FP.i2d (Int32.ofInt (M (zn1 + 11) i.toNat))) 4696837146684686336) (FP.ddiv (FP.i2d (Int32.ofInt (M (zn1 + 11) i.toNat))) 4696837146684686336)))), (5, .double (FP.ddiv (FP.i2d (Int32.ofInt (M (zn1 + 11) i.toNat))) 4696837146684686336)), (0, .ref 0), (3, .int (Int32.ofInt n))]) rfl (zz_goto (pc := 50) xf_91_50 (zG_mono (N := zn * 20 + 20) (by omega) (zG_sub (List.forall_mem_cons.mpr ⟨zmem 3 rfl, (List.forall_mem_cons.mpr ⟨zmem 1 rfl, (List.forall_mem_cons.mpr ⟨zmem 4 rfl, (List.forall_mem_cons.mpr ⟨zmem 0 rfl, (fun p hp => absurd hp List.not_mem_nil)⟩)⟩)⟩)⟩) (ih n (i + 1) (FP.dadd v (FP.dmul (zshd (M (zn1 + 11) i.toNat)) (zshd (M (zn1 + 11) i.toNat))))  (by rw [hv]; exact (zdbt_s hi.1).symm) hn (by omega) (by omega)))))))))))))))))))))))))))
theorem sp_doubtBitsP {xs : List Int32} {d : Nat} {w : Bool} {M : zM} (hI : zCI M) : xrun2 xs (d + 2) 91 [.ref 0] (w, zheap M) = some (.inl (some (.long (Int64.ofInt (zdoubt M)))), (w, zheap M)) := by
  have hg := hI.g
  have ht := hI.tb
  have hK := zCI_kp hI
  have hX : ∀ q : Nat, q < 25 → zkpM M zn1 q = M q := fun q h => zkp_o (Or.inl h)
  obtain ⟨⟨g1, g2⟩, ⟨g3, g4⟩, g5⟩ := id hg
  obtain ⟨g6, g7⟩ := hg.sz
  have hz : zsz M zn1 = M (zn1 + 1) 0 * M (zn1 + 1) 1 := rfl
  exact zrun_v (N := 749) (by decide) rfl (zz_dconst0 (pc := 0) xf_91_0 (zz_dstore_n (pc := 1) xf_91_1 (by decide +kernel) (zG_ro (ρ' := [(1, .double FP.dconst0), (0, .ref 0)]) rfl (zz_aload_n (pc := 2) xf_91_2 (zmem 1 rfl) (zz_getR (pc := 3) xf_91_3 zis_0 (by decide +kernel) rfl (zz_getR (pc := 6) xf_91_6 (zst_0 hzn1) (by decide +kernel) rfl (zz_call_v (pc := 9) (cu := 0) (su := 0) (fun ls hr => zz_calV xf_91_9 rfl (zst_1 hzn1) ls hr) rfl (sp_size (d := d) hzn1) (zz_istore_n (pc := 12) xf_91_12 (by decide +kernel) (zG_ro (ρ' := [(3, .int (Int32.ofInt (zsz M zn1))), (1, .double FP.dconst0), (0, .ref 0)]) rfl (zz_iconst (pc := 13) xf_91_13 (zz_istore (pc := 14) xf_91_14 (by decide +kernel) (zG_ro (ρ' := [(4, .int (Int32.ofInt (0))), (3, .int (Int32.ofInt (zsz M zn1))), (1, .double FP.dconst0), (0, .ref 0)]) rfl (zG_mono (N := 740) (by omega) (zG_sub (List.forall_mem_cons.mpr ⟨zmem 3 rfl, (List.forall_mem_cons.mpr ⟨zmem 2 rfl, (List.forall_mem_cons.mpr ⟨zmem 1 rfl, (List.forall_mem_cons.mpr ⟨zmem 0 rfl, (fun p hp => absurd hp List.not_mem_nil)⟩)⟩)⟩)⟩) (zl_doubtBits_16 hI 36 _ _ FP.dconst0 rfl rfl (by omega) (by omega))))))))))))))))
theorem sp_shareBitsP {xs : List Int32} {d : Nat} {w : Bool} {M : zM} (hI : zCI M) : xrun2 xs (d + 3) 92 [.ref 0] (w, zheap M) = some (.inl (some (.int (Int32.ofInt (zbf (FP.fdiv (FP.i2f (Int32.ofInt (zgr (M (zn1 + 11)) (zsz M zn1).toNat))) 1232348160))))), (w, zheap M)) := by
  have hg := hI.g
  have ht := hI.tb
  have hK := zCI_kp hI
  have hX : ∀ q : Nat, q < 25 → zkpM M zn1 q = M q := fun q h => zkp_o (Or.inl h)
  obtain ⟨⟨g1, g2⟩, ⟨g3, g4⟩, g5⟩ := id hg
  obtain ⟨g6, g7⟩ := hg.sz
  have hz : zsz M zn1 = M (zn1 + 1) 0 * M (zn1 + 1) 1 := rfl
  have hgb := zgr_b (F := M (zn1 + 11)) (u := 1000000) (zsz M zn1).toNat (fun j hj => hI.bl j (by omega)) (by decide)
  have hsh : zn32 (FP.fdiv (FP.i2f (Int32.ofInt (zgr (M (zn1 + 11)) (zsz M zn1).toNat))) 1232348160) := zn32_sh (by omega)
  exact zrun_v (N := 7) (by decide) rfl (zz_aload_n (pc := 0) xf_92_0 (zmem 0 rfl) (zz_getR (pc := 1) xf_92_1 zis_0 (by decide +kernel) rfl (zz_call_v (pc := 4) (cu := 0) (su := 0) (fun ls hr => zz_calV xf_92_4 rfl (zst_0 hzn1) ls hr) rfl (sp_greatestBelief (d := d) hzn1 hI.g hI.bl) (zz_i2f (pc := 7) xf_92_7 (zz_ldc_w (pc := 8) (v := .float 1232348160) xf_92_8 (by decide +kernel) (zz_fdiv (pc := 11) xf_92_11 (z32_m hsh) (zz_call_v (pc := 12) (cu := 0) (su := 0) (fun ls hr => zz_calS xf_92_12 rfl ls hr) rfl (sp_bitsOfFloat (d := d + 1) hsh) (zz_ireturn (pc := 15) xf_92_15 rfl (by decide +kernel) (by decide +kernel) (by first | (exfalso; first | omega | contradiction) | (subst_vars; exact ⟨rfl, rfl⟩))))))))))
end
noncomputable section
/-! Sums that are spread; scaling keeps the whole and the walls. -/
theorem zsum_swap (G : Nat → Nat → Int) (m : Nat) : ∀ n, zsum (fun t => zsum (fun c => G t c) m) n = zsum (fun c => zsum (fun t => G t c) n) m
  | 0 => (zsum_0 m (fun _ _ => rfl)).symm
  | n + 1 => by
    show zsum (fun t => zsum (fun c => G t c) m) n + zsum (fun c => G n c) m = zsum (fun c => zsum (fun t => G t c) n + G n c) m
    rw [zsum_swap G m n]
    exact (zsum_add (fun c => zsum (fun t => G t c) n) (fun c => G n c) m).symm
theorem zsum_le {F K : zF} : ∀ n, (∀ j, j < n → F j ≤ K j) → zsum F n ≤ zsum K n
  | 0, _ => Int.le_refl _
  | n + 1, h => by
    have h1 := zsum_le n (fun j hj => h j (by omega))
    have h2 := h n (by omega)
    show zsum F n + F n ≤ zsum K n + K n
    omega
theorem zsum_one (j : Nat) (v : Int) : ∀ n, zsum (fun t => if j = t then v else 0) n = if j < n then v else 0
  | 0 => by rw [if_neg (Nat.not_lt_zero j)]; rfl
  | n + 1 => by
    show zsum (fun t => if j = t then v else 0) n + (if j = n then v else 0) = _
    rw [zsum_one j v n]
    by_cases h : j = n
    · rw [if_neg (by omega), if_pos h, if_pos (by omega), Int.zero_add]
    · by_cases h2 : j < n
      · rw [if_pos h2, if_neg h, if_pos (by omega), Int.add_zero]
      · rw [if_neg h2, if_neg h, if_neg (by omega), Int.add_zero]
theorem zsum_mulL (c : Int) (F : zF) : ∀ n, zsum (fun j => c * F j) n = c * zsum F n
  | 0 => (Int.mul_zero c).symm
  | n + 1 => by
    show zsum (fun j => c * F j) n + c * F n = c * (zsum F n + F n)
    rw [zsum_mulL c F n, Int.mul_add]
theorem zspread {E N : zF} {tg : Nat → Nat → Nat} {n : Nat} (ht : ∀ c, c < n → ∀ y, y < 4 → tg c y < n) : zsum (fun t => zsum (fun c => zsum (fun y => if tg c y = t then E c * N y else 0) 4) n) n = zsum E n * zsum N 4 := by
  rw [zsum_swap (fun t c => zsum (fun y => if tg c y = t then E c * N y else 0) 4) n n, ← zsum_mul E (zsum N 4) n]
  refine zsum_c n (fun c hc => ?_)
  show zsum (fun t => zsum (fun y => if tg c y = t then E c * N y else 0) 4) n = E c * zsum N 4
  rw [zsum_swap (fun t y => if tg c y = t then E c * N y else 0) 4 n, ← zsum_mulL (E c) N 4]
  refine zsum_c 4 (fun y hy => ?_)
  show zsum (fun t => if tg c y = t then E c * N y else 0) n = E c * N y
  rw [zsum_one, if_pos (ht c hc y hy)]
theorem zsum_pos {F : zF} : ∀ n, (∀ j, j < n → 0 ≤ F j) → (∃ j, j < n ∧ 0 < F j) → 0 < zsum F n
  | 0, _, ⟨j, hj, _⟩ => absurd hj (Nat.not_lt_zero j)
  | n + 1, h, ⟨j, hj, hp⟩ => by
    have h1 := zsum_nn n (fun j hj => h j (by omega))
    have h2 := h n (by omega)
    show 0 < zsum F n + F n
    by_cases e : j = n
    · subst e; omega
    · have := zsum_pos n (fun j hj => h j (by omega)) ⟨j, by omega, hp⟩
      omega
theorem zsum_ex {F : zF} : ∀ n, 0 < zsum F n → ∃ j, j < n ∧ 0 < F j
  | 0, h => absurd h (by show ¬ (0 : Int) < 0; decide)
  | n + 1, h => by
    have h1 : 0 < zsum F n + F n := h
    by_cases h2 : 0 < F n
    · exact ⟨n, Nat.lt_succ_self n, h2⟩
    · obtain ⟨j, hj, hp⟩ := zsum_ex n (show 0 < zsum F n by omega)
      exact ⟨j, by omega, hp⟩
theorem zbestf_ge (F : zF) : ∀ n j, j ≤ n → F j ≤ F (zbestf F n)
  | 0, j, h => by
    rw [show j = 0 by omega]
    exact Int.le_refl _
  | n + 1, j, h => by
    have ih := zbestf_ge F n
    unfold zbestf
    split
    · next h1 =>
      by_cases e : j = n + 1
      · rw [e]; exact Int.le_refl _
      · exact Int.le_trans (ih j (by omega)) (Int.le_of_lt h1)
    · next h1 =>
      by_cases e : j = n + 1
      · rw [e]; omega
      · exact ih j (by omega)
theorem zbest_ge {F : zF} {n j : Nat} (h : j < n) : F j ≤ F (zbest F n) := zbestf_ge F (n - 1) j (by omega)
/-- what is above 0 of the rests -/
def zpo0 (F : zF) : zF := fun j => if 0 < F j then F j else 0
theorem zpo0_up {R : zF} {b : Nat} : zpo0 (zrup R b (-1)) = zrup (zpo0 R) b 0 := by
  funext j
  unfold zpo0 zrup
  by_cases h : j = b
  · rw [if_pos h, if_pos h]
    rfl
  · rw [if_neg h, if_neg h]
theorem zadd_w {S : Int} {n t : Nat} (h0 : 0 < n) (ht : t < n) (hS : 0 < S) : ∀ k : Nat, ∀ p : zF × zF, (∀ j, j < n → p.2 j ≤ S - 1) → (k : Int) * S ≤ zsum (zpo0 p.2) n → p.2 t ≤ 0 → (zadd n k p).1 t = p.1 t
  | 0, p, _, _, _ => rfl
  | k + 1, p, h1, h2, h3 => by
    have e1 : ((k + 1 : Nat) : Int) * S = k * S + S := by rw [Int.natCast_add, Int.add_mul]; simp
    have hkS : 0 ≤ (k : Int) * S := Int.mul_nonneg (by omega) (by omega)
    obtain ⟨j, hj, hp⟩ := zsum_ex (F := zpo0 p.2) n (by omega)
    have hpj : 0 < p.2 j := by
      unfold zpo0 at hp
      split at hp
      · assumption
      · omega
    have hb := zbest_lt p.2 h0
    have hbj := zbest_ge (F := p.2) hj
    have hbt : t ≠ zbest p.2 n := fun e => by rw [e] at h3; omega
    have hb1 := h1 _ hb
    have hpb : zpo0 p.2 (zbest p.2 n) = p.2 (zbest p.2 n) := if_pos (by omega)
    show (zadd n k (zrup p.1 (zbest p.2 n) (p.1 (zbest p.2 n) + 1), zrup p.2 (zbest p.2 n) (-1))).1 t = _
    rw [zadd_w h0 ht hS k]
    · exact if_neg hbt
    · intro i hi
      show zrup p.2 (zbest p.2 n) (-1) i ≤ _
      unfold zrup
      split
      · omega
      · exact h1 i hi
    · show _ ≤ zsum (zpo0 (zrup p.2 (zbest p.2 n) (-1))) n
      rw [zpo0_up, zsum_up n hb, hpb]
      omega
    · show zrup p.2 (zbest p.2 n) (-1) t ≤ 0
      rw [show zrup p.2 (zbest p.2 n) (-1) t = p.2 t from if_neg hbt]
      exact h3
/-- scaled weights: their sum; weights of 0 stay 0 -/
theorem zsc_0 {W : zF} {n t : Nat} (hW : ∀ j, j < n → 0 ≤ W j) (hS : 0 < zsum W n) (ht : t < n) (h : W t = 0) : (zsc W n).1 t = 0 := by
  have h0 : 0 < n := by omega
  have hs := zshare_sum hW hS
  have e2 : zsum (fun j => W j * 1000000) n = zsum (fun j => zshare W n j * zsum W n + zleft W n j) n := zsum_c n (fun j _ => by
      show W j * 1000000 = W j * 1000000 / zsum W n * zsum W n + W j * 1000000 % zsum W n
      have := Int.mul_ediv_add_emod (W j * 1000000) (zsum W n)
      have h := Int.mul_comm (zsum W n) (W j * 1000000 / zsum W n)
      omega)
  rw [zsum_mul, zsum_add, zsum_mul] at e2
  have e3 : zsum (zpo0 (zleft W n)) n = zsum (zleft W n) n := zsum_c n (fun j _ => by
    have h9 : 0 ≤ zleft W n j := Int.emod_nonneg _ (by omega)
    unfold zpo0
    split
    · rfl
    · omega)
  have hk : ((zlack W n : Nat) : Int) = 1000000 - zsum (zshare W n) n := by unfold zlack; omega
  have hz : zleft W n t = 0 := by
    show W t * 1000000 % zsum W n = 0
    rw [h]
    simp
  have hz2 : zshare W n t = 0 := by
    show W t * 1000000 / zsum W n = 0
    rw [h]
    simp
  unfold zsc
  rw [zadd_w h0 ht hS]
  · exact hz2
  · intro j hj
    have := Int.emod_lt_of_pos (W j * 1000000) hS
    show W j * 1000000 % zsum W n ≤ _
    omega
  · show _ ≤ zsum (zpo0 (zleft W n)) n
    rw [e3, hk, Int.sub_mul]
    rw [Int.mul_comm] at e2
    omega
  · show zleft W n t ≤ 0
    omega
end
noncomputable section
/-! What a state block holds. -/
def zNx (M : zM) (a : Nat) : Prop := ∀ j : Nat, (j : Int) < zsz M a * 4 → M (a + 4) j = zcnF M a j
def zTs (M : zM) (a : Nat) : Prop := ∀ i : Nat, (i : Int) < zmi (ztot M a) 8 → (M (a + 9) i < 4 ∧ ∀ y : Nat, y < 4 → M (a + 10) (i * 36 + y) ≤ 16) ∨ 10 ≤ M (a + 9) i
def zB1 (M : zM) (a : Nat) : Prop := zGr M a ∧ zNb M a ∧ zNx M a ∧ 0 < zmany M a
def zB2 (M : zM) (a : Nat) : Prop := zBl M a ∧ zsum (M (a + 11)) (zsz M a).toNat = 1000000 ∧ (∀ j : Nat, (j : Int) < zsz M a → ¬ zfreeN M a j → M (a + 11) j = 0)
def zB3 (M : zM) (a : Nat) : Prop := zTb M a ∧ zms M a 4 = 16
def zB4 (n : Int) (M : zM) (a : Nat) : Prop := zTr M a ∧ (M (a + 8) 1 ≤ n ∧ M (a + 8) 2 ≤ n) ∧ zTs M a ∧ (M (a + 8) 0 = -1 ∨ zfree M a (M (a + 8) 0))
def zB6 (M : zM) (a : Nat) : Prop := zfree M a (M a 4)
def zBI (n : Int) (M : zM) (a : Nat) : Prop := zB1 M a ∧ zB2 M a ∧ zB3 M a ∧ zB4 n M a ∧ zCo M a ∧ zB6 M a
theorem zBI.b1 {n : Int} {M : zM} {a : Nat} (h : zBI n M a) : zB1 M a := h.1
theorem zBI.b2 {n : Int} {M : zM} {a : Nat} (h : zBI n M a) : zB2 M a := h.2.1
theorem zBI.b3 {n : Int} {M : zM} {a : Nat} (h : zBI n M a) : zB3 M a := h.2.2.1
theorem zBI.b4 {n : Int} {M : zM} {a : Nat} (h : zBI n M a) : zB4 n M a := h.2.2.2.1
theorem zBI.b5 {n : Int} {M : zM} {a : Nat} (h : zBI n M a) : zCo M a := h.2.2.2.2.1
theorem zBI.b6 {n : Int} {M : zM} {a : Nat} (h : zBI n M a) : zB6 M a := h.2.2.2.2.2
theorem zBI.g {n : Int} {M : zM} {a : Nat} (h : zBI n M a) : zGr M a := h.b1.1
theorem zcount_cc {P P' : Nat → Prop} : ∀ n, (∀ j, j < n → (P j ↔ P' j)) → zcount P n = zcount P' n
  | 0, _ => rfl
  | n + 1, h => by
    show zcount P n + zb (P n) = zcount P' n + zb (P' n)
    rw [zcount_cc n (fun j hj => h j (by omega)), show P n = P' n from propext (h n (by omega))]
/-- the same cells are free -/
def zEf (M : zM) (a : Nat) (M0 : zM) (b : Nat) : Prop := (M (a + 1) 0 = M0 (b + 1) 0 ∧ M (a + 1) 1 = M0 (b + 1) 1) ∧ ∀ c : Int, zfree M a c ↔ zfree M0 b c
theorem zEf.sz {M M0 : zM} {a b : Nat} (h : zEf M a M0 b) : zsz M a = zsz M0 b := by
  unfold zsz
  rw [h.1.1, h.1.2]
theorem zEf.many {M M0 : zM} {a b : Nat} (h : zEf M a M0 b) : zmany M a = zmany M0 b := by
  unfold zmany
  rw [h.sz]
  exact zcount_cc _ (fun j _ => h.2 (j : Int))
theorem zEf.cn {M M0 : zM} {a b : Nat} (h : zEf M a M0 b) : zcnF M a = zcnF M0 b := by
  funext j
  unfold zcnF zjn
  rw [h.1.1, show (zfree M a ((j : Int) / 4) ∧ zfree M a (znx (M0 (b + 1) 0) ((j : Int) / 4) ((j : Int) % 4))) = (zfree M0 b ((j : Int) / 4) ∧ zfree M0 b (znx (M0 (b + 1) 0) ((j : Int) / 4) ((j : Int) % 4))) from propext ⟨fun e => ⟨(h.2 _).mp e.1, (h.2 _).mp e.2⟩, fun e => ⟨(h.2 _).mpr e.1, (h.2 _).mpr e.2⟩⟩]
theorem zEf.fr {M M0 : zM} {a b : Nat} (h : zEf M a M0 b) (j : Nat) : zfreeN M a j ↔ zfreeN M0 b j := h.2 (j : Int)
theorem zE2.ef {M M0 : zM} {a : Nat} (h : zE2 M M0 a) : zEf M a M0 a := ⟨⟨by rw [h.1], by rw [h.1]⟩, fun c => zfree_c h⟩
theorem zB1_c {M M0 : zM} {a b : Nat} (h : zEf M a M0 b) (hg : zGr M a) (h4 : ∀ j : Nat, j < 144 → M (a + 4) j = M0 (b + 4) j) (hB : zB1 M0 b) : zB1 M a := by
  obtain ⟨h1, h2, h3, h5⟩ := hB
  obtain ⟨g6, g7⟩ := h1.sz
  have hz : zsz M0 b = M0 (b + 1) 0 * M0 (b + 1) 1 := rfl
  refine ⟨hg, fun j hj => by rw [h4 j hj]; exact h2 j hj, fun j hj => ?_, by rw [h.many]; exact h5⟩
  rw [h.sz] at hj
  rw [h4 j (by omega), h.cn]
  exact h3 j hj
theorem zB2_c {M M0 : zM} {a b : Nat} (h : zEf M a M0 b) (hg : zGr M0 b) (h11 : ∀ j : Nat, j < 36 → M (a + 11) j = M0 (b + 11) j) (hB : zB2 M0 b) : zB2 M a := by
  obtain ⟨h1, h2, h3⟩ := hB
  obtain ⟨g6, g7⟩ := hg.sz
  have hz : zsz M0 b = M0 (b + 1) 0 * M0 (b + 1) 1 := rfl
  refine ⟨fun j hj => by rw [h11 j hj]; exact h1 j hj, ?_, fun j hj hn => ?_⟩
  · rw [h.sz, zsum_c _ (fun j hj => h11 j (by omega))]
    exact h2
  · rw [h.sz] at hj
    rw [h11 j (by omega)]
    exact h3 j hj (fun e => hn ((h.fr j).mpr e))
theorem zB3_c {M M0 : zM} {a b : Nat} (h5 : M (a + 5) 2 = M0 (b + 5) 2 ∧ M (a + 5) 3 = M0 (b + 5) 3) (h6 : ∀ j : Nat, j < 4 → M (a + 6) j = M0 (b + 6) j) (h7 : ∀ j : Nat, j < 16 → M (a + 7) j = M0 (b + 7) j) (hB : zB3 M0 b) : zB3 M a := by
  obtain ⟨⟨t1, t2, t3, t4⟩, h2⟩ := hB
  refine ⟨⟨fun j hj => by rw [h6 j hj]; exact t1 j hj, fun j hj => by rw [h7 j hj]; exact t2 j hj, by rw [h5.1]; exact t3, by rw [h5.2]; exact t4⟩, ?_⟩
  rw [← h2]
  exact zsum_c 4 (fun j hj => h6 _ (by omega))
theorem zB4_c {n : Int} {M M0 : zM} {a b : Nat} (h : zEf M a M0 b) (h8 : ∀ j : Nat, j < 3 → M (a + 8) j = M0 (b + 8) j) (h9 : ∀ j : Nat, j < 8 → M (a + 9) j = M0 (b + 9) j) (h10 : ∀ j : Nat, j < 288 → M (a + 10) j = M0 (b + 10) j) (hB : zB4 n M0 b) : zB4 n M a := by
  obtain ⟨⟨t1, t2, t3, t4, t5⟩, h2, h3, h4⟩ := hB
  have e0 := h8 0 (by decide)
  have e1 := h8 1 (by decide)
  have e2 := h8 2 (by decide)
  refine ⟨⟨by rw [e0]; exact t1, by rw [e1]; exact t2, by rw [e2]; exact t3, fun j hj => by rw [h9 j hj]; exact t4 j hj, fun j hj => by rw [h10 j hj]; exact t5 j hj⟩, by rw [e1, e2]; exact h2, fun i hi => ?_, ?_⟩
  · have ht : ztot M a = ztot M0 b := by unfold ztot; rw [e1, e2]
    rw [ht] at hi
    have hi8 : i < 8 := by unfold zmi at hi; split at hi <;> omega
    rw [h9 i hi8]
    rcases h3 i hi with h | h
    · exact Or.inl ⟨h.1, fun y hy => by rw [h10 _ (by omega)]; exact h.2 y hy⟩
    · exact Or.inr h
  · rw [e0]
    exact h4.imp id (fun e => (h.2 _).mpr e)
theorem zCo_cc {M M0 : zM} {a b : Nat} (h3 : ∀ j : Nat, j < 36 → M (a + 3) j = M0 (b + 3) j) (hB : zCo M0 b) : zCo M a := fun j hj => by rw [h3 j hj]; exact hB j hj
theorem zB6_c {M M0 : zM} {a b : Nat} (h : zEf M a M0 b) (h4 : M a 4 = M0 b 4) (hB : zB6 M0 b) : zB6 M a := by
  unfold zB6
  rw [h4]
  exact (h.2 _).mpr hB
/-- two state blocks hold the same -/
def zBE (M : zM) (a : Nat) (M0 : zM) (b : Nat) : Prop := ∀ o j : Nat, zslot o j → M (a + o) j = M0 (b + o) j
theorem zBE.ef {M M0 : zM} {a b : Nat} (h : zBE M a M0 b) (hg : zGr M0 b) : zEf M a M0 b := by
  have e0 : M (a + 1) 0 = M0 (b + 1) 0 := h 1 0 (by unfold zslot; omega)
  have e1 : M (a + 1) 1 = M0 (b + 1) 1 := h 1 1 (by unfold zslot; omega)
  obtain ⟨g6, g7⟩ := hg.sz
  refine ⟨⟨e0, e1⟩, fun c => ?_⟩
  unfold zfree
  rw [e0, e1]
  constructor
  · rintro ⟨h1, h2, h3⟩
    rw [h 2 c.toNat (by unfold zslot; omega)] at h3
    exact ⟨h1, h2, h3⟩
  · rintro ⟨h1, h2, h3⟩
    rw [← h 2 c.toNat (by unfold zslot; omega)] at h3
    exact ⟨h1, h2, h3⟩
theorem zBE.gr {M M0 : zM} {a b : Nat} (h : zBE M a M0 b) (hg : zGr M0 b) : zGr M a := by
  unfold zGr
  rw [h 1 0 (by unfold zslot; omega), h 1 1 (by unfold zslot; omega)]
  exact ⟨hg.1, hg.2.1, fun c hc => by rw [h 2 c (by unfold zslot; omega)]; exact hg.2.2 c hc⟩
theorem zBI_c {n : Int} {M M0 : zM} {a b : Nat} (h : zBE M a M0 b) (hB : zBI n M0 b) : zBI n M a := by
  have hg := hB.g
  have hf := h.ef hg
  exact ⟨zB1_c hf (h.gr hg) (fun j hj => h 4 j (by unfold zslot; omega)) hB.b1,
    zB2_c hf hg (fun j hj => h 11 j (by unfold zslot; omega)) hB.b2,
    zB3_c ⟨h 5 2 (by unfold zslot; omega), h 5 3 (by unfold zslot; omega)⟩ (fun j hj => h 6 j (by unfold zslot; omega)) (fun j hj => h 7 j (by unfold zslot; omega)) hB.b3,
    zB4_c hf (fun j hj => h 8 j (by unfold zslot; omega)) (fun j hj => h 9 j (by unfold zslot; omega)) (fun j hj => h 10 j (by unfold zslot; omega)) hB.b4,
    zCo_cc (fun j hj => h 3 j (by unfold zslot; omega)) hB.b5,
    zB6_c hf (h 0 4 (by unfold zslot; omega)) hB.b6⟩
theorem zslot_lt {o j : Nat} (h : zslot o j) : o < 12 := by unfold zslot at h; omega
theorem zBE_q {M M0 : zM} {a : Nat} (h : ∀ q : Nat, a ≤ q → q < a + 12 → M q = M0 q) : zBE M a M0 a := fun o j hs => by
  have := zslot_lt hs
  rw [h (a + o) (by omega) (by omega)]
theorem zBE.tr {M M' M0 : zM} {a b c : Nat} (h : zBE M a M' b) (h' : zBE M' b M0 c) : zBE M a M0 c := fun o j hs => (h o j hs).trans (h' o j hs)
theorem zBI_n {n n' : Int} {M : zM} {a : Nat} (hn : n ≤ n') (h : zBI n M a) : zBI n' M a := ⟨h.b1, h.b2, h.b3, ⟨h.b4.1, ⟨Int.le_trans h.b4.2.1.1 hn, Int.le_trans h.b4.2.1.2 hn⟩, h.b4.2.2.1, h.b4.2.2.2⟩, h.b5, h.b6⟩
/-! The ring. -/
def zslo (M : zM) (i : Int) : Nat := zring ((M 25 1 + i) % 6).toNat
theorem zslo_st (M : zM) (i : Int) : zSt (zslo M i) := by
  unfold zslo zring
  have h := Int.emod_nonneg (M 25 1 + i) (show (6 : Int) ≠ 0 by decide)
  have h2 := Int.emod_lt_of_pos (M 25 1 + i) (show (0 : Int) < 6 by decide)
  generalize (M 25 1 + i) % 6 = r at h h2
  have h3 : r = 0 ∨ r = 1 ∨ r = 2 ∨ r = 3 ∨ r = 4 ∨ r = 5 := by omega
  unfold zSt
  rcases h3 with rfl | rfl | rfl | rfl | rfl | rfl <;> decide
/-- how many are kept behind keeping one more, and where they come from -/
def zkn (M : zM) : Int := M 25 2 + (if M 25 2 = 6 then 0 else 1)
theorem zkp_2 {M : zM} {a : Nat} : zkpM M a 25 2 = zkn M := zup_i
theorem zkp_1 {M : zM} {a : Nat} : zkpM M a 25 1 = if M 25 2 = 6 then (M 25 1 + 1) % 6 else M 25 1 := by
  unfold zkpM
  rw [zup_ne (by decide), zcp_25]
  unfold zkpR
  split
  · rw [zup_ne (by decide), zup_i]
  · rfl
theorem zkp_sl {M : zM} {a : Nat} (i : Int) : zslo (zkpM M a) i = zslo M (i + (if M 25 2 = 6 then 1 else 0)) := by
  unfold zslo
  rw [zkp_1]
  split
  · rw [show (M 25 1 + 1) % 6 + i = i + (M 25 1 + 1) % 6 by omega, Int.add_emod_emod, show i + (M 25 1 + 1) = M 25 1 + (i + 1) by omega]
  · rw [Int.add_zero]
theorem zring_in {x y : Int} (hx : 0 ≤ x ∧ x < 6) (hy : 0 ≤ y ∧ y < 6) (h : x ≠ y) : zring x.toNat + 12 ≤ zring y.toNat ∨ zring y.toNat + 12 ≤ zring x.toNat := by
  unfold zring
  omega
theorem zslt_R {M : zM} (hc : zCh M) : zslt (zkpR M) = zslo M (zkn M - 1 + (if M 25 2 = 6 then 1 else 0)) := by
  unfold zslt zslo zkn zkpR
  split
  · next h =>
    rw [zup_i, zup_ne (by decide), zup_i, h]
    congr 2
    omega
  · next h =>
    congr 2
    omega
theorem zkp_ring {M : zM} {a : Nat} (ha : zSt a) (h25 : a < 25) (hc : zCh M) {i : Int} (h0 : 0 ≤ i) (h1 : i < zkn M) : zBE (zkpM M a) (zslo (zkpM M a) i) M (if i = zkn M - 1 then a else zslo M (i + (if M 25 2 = 6 then 1 else 0))) := by
  obtain ⟨⟨c1, c2⟩, c3, c4⟩ := id hc
  have ha2 : a ≤ 13 := by unfold zSt at ha; omega
  have hs := zslt_R hc
  have hR : ∀ q : Nat, q ≠ 25 → zkpR M q = M q := fun q hq => by
    unfold zkpR
    split
    · rw [zup_or hq, zup_or hq]
    · rfl
  have hst := zslo_st M (zkn M - 1 + (if M 25 2 = 6 then 1 else 0))
  have hst2 := zslo_st M (i + (if M 25 2 = 6 then 1 else 0))
  have hle := zSt_le hst2
  have h27 : 27 ≤ zslo M (i + (if M 25 2 = 6 then 1 else 0)) := by unfold zslo zring; omega
  have h27' : 27 ≤ zslo M (zkn M - 1 + (if M 25 2 = 6 then 1 else 0)) := by unfold zslo zring; omega
  intro o j hj
  have ho := zslot_lt hj
  rw [zkp_sl]
  unfold zkpM
  rw [zup_or (by omega), hs]
  by_cases hi : i = zkn M - 1
  · rw [if_pos hi, ← hi, zcpM_i hst2 ha (by omega) hj, hR _ (by omega)]
  · rw [if_neg hi]
    have hne : zslo M (i + (if M 25 2 = 6 then 1 else 0)) + 12 ≤ zslo M (zkn M - 1 + (if M 25 2 = 6 then 1 else 0)) ∨ zslo M (zkn M - 1 + (if M 25 2 = 6 then 1 else 0)) + 12 ≤ zslo M (i + (if M 25 2 = 6 then 1 else 0)) := by
      unfold zslo
      unfold zkn at hi h1 ⊢
      exact zring_in (by omega) (by omega) (by split <;> omega)
    rw [zcpM_o (by omega), hR _ (by omega)]
end
noncomputable section
/-! What changes do to a state block: moves, sights, trails. -/
theorem znb {M : zM} {a : Nat} (h : zB1 M a) {c e : Int} (hc : 0 ≤ c ∧ c < zsz M a) (he : 0 ≤ e ∧ e < 4) : M (a + 4) (c * 4 + e).toNat = zjn M a c (znx (M (a + 1) 0) c e) := by
  rw [h.2.2.1 _ (by omega)]
  exact zcn_at hc.1 he rfl
theorem zjn_n {M : zM} {a : Nat} {c n : Int} (hc : 0 ≤ c ∧ c < zsz M a) : (0 ≤ zjn M a c n ∧ zjn M a c n < zsz M a) ∧ (zjn M a c n = c ∨ zfree M a c ∧ zfree M a (zjn M a c n)) := by
  by_cases h : zfree M a c ∧ zfree M a n
  · rw [zjn_t h.1 h.2]
    exact ⟨⟨h.2.1, h.2.2.1⟩, Or.inr h⟩
  · have e : zjn M a c n = c := if_neg h
    rw [e]
    exact ⟨hc, Or.inl rfl⟩
theorem ztg_n {M : zM} {a : Nat} (h : zB1 M a) {c e : Int} (y : Int) (hc : 0 ≤ c ∧ c < zsz M a) (he : 0 ≤ e ∧ e < 4) : (0 ≤ ztarget M a c e y ∧ ztarget M a c e y < zsz M a) ∧ (ztarget M a c e y = c ∨ zfree M a c ∧ zfree M a (ztarget M a c e y)) := by
  unfold ztarget
  split
  · rw [znb h hc he]; exact zjn_n hc
  · split
    · rw [znb h hc (by omega)]; exact zjn_n hc
    · split
      · rw [znb h hc (by omega)]; exact zjn_n hc
      · exact ⟨hc, Or.inl rfl⟩
theorem zmv_in {M : zM} {a : Nat} {e : Int} {n t : Nat} (h : t < n) (i : Nat) : zmvF M a e n i t = zsum (fun c => zsum (fun y => zterm M a e c y t) 4) i := by
  unfold zmvF
  rw [if_pos h, Int.zero_add]
theorem zmv_sum {M : zM} {a : Nat} {e : Int} (h1 : zB1 M a) (h2 : zB2 M a) (h3 : zB3 M a) (he : 0 ≤ e ∧ e < 4) : zsum (zmvF M a e (zsz M a).toNat (zsz M a).toNat) (zsz M a).toNat = 16000000 := by
  have hs := zspread (E := M (a + 11)) (N := M (a + 6)) (tg := fun c y => (ztarget M a (c : Int) e (y : Int)).toNat) (n := (zsz M a).toNat) (fun c hc y _ => by
    have h := (ztg_n h1 (c := (c : Int)) (e := e) (y : Int) (by omega) he).1
    show (ztarget M a (c : Int) e (y : Int)).toNat < _
    omega)
  have e16 : zsum (M (a + 6)) 4 = 16 := by
    rw [← h3.2]
    exact zsum_c 4 (fun j _ => rfl)
  rw [e16, h2.2.1] at hs
  rw [zsum_c (K := fun t => zsum (fun c => zsum (fun y => zterm M a e c y t) 4) (zsz M a).toNat) _ (fun t ht => zmv_in ht _)]
  exact hs
theorem zmv_wall {M : zM} {a : Nat} {e : Int} (h1 : zB1 M a) (h2 : zB2 M a) (he : 0 ≤ e ∧ e < 4) {t : Nat} (ht : (t : Int) < zsz M a) (hf : ¬ zfreeN M a t) : zmvF M a e (zsz M a).toNat (zsz M a).toNat t = 0 := by
  rw [zmv_in (by omega)]
  refine zsum_0 _ (fun c hc => zsum_0 _ (fun y hy => ?_))
  unfold zterm
  split
  · next e1 =>
    have h := ztg_n h1 (c := (c : Int)) (e := e) (y : Int) (by omega) he
    have e2 : ztarget M a (c : Int) e (y : Int) = (t : Int) := by omega
    rw [e2] at h
    rcases h.2 with e3 | ⟨_, e3⟩
    · have e4 : c = t := by omega
      subst e4
      rw [h2.2.2 c (by omega) hf, Int.zero_mul]
    · exact absurd e3 hf
  · rfl
theorem zmw_in {M : zM} {a : Nat} {e : Int} {t : Nat} (ha : zSt a) (ht : t < (zsz M a).toNat) : (zfreeN M a t → zmw M a e t = (100 - M (a + 5) 2) * zmany M a * zmvF M a e (zsz M a).toNat (zsz M a).toNat t + M (a + 5) 2 * 16 * 1000000) ∧ (¬ zfreeN M a t → zmw M a e t = zmvF M a e (zsz M a).toNat (zsz M a).toNat t) := by
  have hle := zSt_le ha
  have r1 : zE2 (zrow M 102 (zmvF M a e (zsz M a).toNat (zsz M a).toNat)) M a := ⟨zrow_o (by omega), zrow_o (by omega)⟩
  have r5 : zrow M 102 (zmvF M a e (zsz M a).toNat (zsz M a).toNat) (a + 5) = M (a + 5) := zrow_o (by omega)
  unfold zmw zcaF
  rw [zfreeN_c r1, zmany_c r1, r5, zrow_q]
  constructor
  · intro hf
    rw [if_pos ⟨ht, hf⟩]
  · intro hf
    rw [if_neg (fun e => hf e.2)]
theorem zmw_wall {M : zM} {a : Nat} {e : Int} (ha : zSt a) (h1 : zB1 M a) (h2 : zB2 M a) (he : 0 ≤ e ∧ e < 4) {t : Nat} (ht : (t : Int) < zsz M a) (hf : ¬ zfreeN M a t) : zmw M a e t = 0 := by
  rw [(zmw_in ha (by omega)).2 hf]
  exact zmv_wall h1 h2 he ht hf
theorem zmw_pos {M : zM} {a : Nat} {e : Int} (ha : zSt a) (h1 : zB1 M a) (h2 : zB2 M a) (h3 : zB3 M a) (he : 0 ≤ e ∧ e < 4) : 0 < zsum (zmw M a e) (zsz M a).toNat := by
  have hnn : ∀ j, j < (zsz M a).toNat → 0 ≤ zmw M a e j := fun j hj => (zmw_b ha h1.1 h2.1 h3.1 hj).1
  obtain ⟨j, hj, hp⟩ := zsum_ex (F := zmvF M a e (zsz M a).toNat (zsz M a).toNat) (zsz M a).toNat (by rw [zmv_sum h1 h2 h3 he]; decide)
  have hr := h3.1.2.2.1
  have hm := h1.2.2.2
  refine zsum_pos _ hnn ⟨j, hj, ?_⟩
  by_cases hf : zfreeN M a j
  · rw [(zmw_in ha hj).1 hf]
    generalize zmvF M a e (zsz M a).toNat (zsz M a).toNat j = w at hp
    by_cases h0 : M (a + 5) 2 = 0
    · rw [h0]
      have e1 : 0 < (100 - 0) * zmany M a * w := Int.mul_pos (Int.mul_pos (by decide) hm) hp
      omega
    · have e1 : 0 ≤ (100 - M (a + 5) 2) * zmany M a * w := Int.mul_nonneg (Int.mul_nonneg (by omega) (by omega)) (by omega)
      omega
  · rw [(zmw_in ha hj).2 hf]
    exact hp
/-- beliefs that are scaled out of weights -/
theorem zB2_sc {M M0 : zM} {a : Nat} {W : zF} (h : zEf M a M0 a) (hg : zGr M0 a) (hb : zBl M0 a) (hW : ∀ j, j < (zsz M0 a).toNat → 0 ≤ W j) (hS : 0 < zsum W (zsz M0 a).toNat) (hw : ∀ j : Nat, (j : Int) < zsz M0 a → ¬ zfreeN M0 a j → W j = 0) (h11 : ∀ j, M (a + 11) j = if j < (zsz M0 a).toNat then (zsc W (zsz M0 a).toNat).1 j else M0 (a + 11) j) : zB2 M a := by
  obtain ⟨g6, g7⟩ := hg.sz
  have hz : zsz M0 a = M0 (a + 1) 0 * M0 (a + 1) 1 := rfl
  refine ⟨fun j hj => ?_, ?_, fun j hj hn => ?_⟩
  · rw [h11]
    split
    · next h1 => exact ⟨zsc_nn hW hS j h1, zsc_le hW hS j h1⟩
    · exact hb j hj
  · rw [h.sz, zsum_c (K := (zsc W (zsz M0 a).toNat).1) _ (fun j hj => by rw [h11, if_pos hj])]
    exact zsc_sum (by omega) hW hS
  · rw [h.sz] at hj
    rw [h11, if_pos (by omega)]
    exact zsc_0 hW hS (by omega) (hw j hj (fun e => hn ((h.fr j).mpr e)))
theorem zscM_v {M : zM} {q n j : Nat} (hq : q ≠ 103) : zscM M q n q j = if j < n then (zsc (M 102) n).1 j else M q j := by
  split
  · next h => exact zrows_q hq h
  · next h => exact zscM_g hq (by omega)
/-! Trails. -/
theorem zB4_cl {n : Int} {M : zM} {a : Nat} {c : Int} (hn : 0 ≤ n) (h : zB4 n M a) (hg : zGr M a) (hc : c = -1 ∨ zfree M a c) : zB4 n (zclM M a c) a := by
  obtain ⟨e0, e1, e2⟩ := zclM_8 (M := M) (a := a) (c := c)
  have hc2 : -1 ≤ c ∧ c ≤ 35 := by
    rcases hc with rfl | hc
    · decide
    · have := zfree_b hg hc
      omega
  have hE : zE2 (zclM M a c) M a := ⟨zclM_o (by omega), zclM_o (by omega)⟩
  refine ⟨zTr_cl h.1 hc2, by rw [e1, e2]; exact ⟨hn, hn⟩, fun i hi => ?_, ?_⟩
  · exfalso
    have e : ztot (zclM M a c) a = 0 := by unfold ztot; rw [e1, e2]; rfl
    rw [e] at hi
    unfold zmi at hi
    rw [if_pos (by decide)] at hi
    omega
  · rw [e0]
    exact hc.imp id (fun e => (hE.ef.2 _).mpr e)
theorem zam_9 {M : zM} {a : Nat} {e : Int} {j : Nat} : zamM M a e (a + 9) j = if ztot M a < 8 ∧ j = (ztot M a).toNat then e else M (a + 9) j := by
  unfold zamM
  split
  · next h =>
    rw [zin1_o (by omega)]
    unfold zamX zcp
    rw [if_neg (by omega)]
    unfold zup
    by_cases h2 : j = (ztot M a).toNat
    · rw [if_pos ⟨rfl, h2⟩, if_pos ⟨h, h2⟩]
    · rw [if_neg (fun e => h2 e.2), if_neg (fun e => h2 e.2)]
  · next h => rw [zin1_o (by omega), if_neg (fun e => h e.1)]
theorem zam_10 {M : zM} {a : Nat} {e : Int} {j : Nat} : zamM M a e (a + 10) j = if ztot M a < 8 ∧ (ztot M a * 36).toNat ≤ j ∧ j < (ztot M a * 36).toNat + 4 then M (a + 6) (j - (ztot M a * 36).toNat) else M (a + 10) j := by
  unfold zamM
  split
  · next h =>
    rw [zin1_o (by omega)]
    unfold zamX zcp
    by_cases h2 : (ztot M a * 36).toNat ≤ j ∧ j < (ztot M a * 36).toNat + 4
    · rw [if_pos ⟨rfl, h2⟩, if_pos ⟨h, h2⟩, zup_or (by omega), show (0 : Int).toNat = 0 from rfl, Nat.zero_add]
    · rw [if_neg (fun e => h2 e.2), if_neg (fun e => h2 e.2), zup_or (by omega)]
  · next h => rw [zin1_o (by omega), if_neg (fun e => h e.1)]
theorem zam_8 {M : zM} {a : Nat} {e : Int} {j : Nat} : zamM M a e (a + 8) j = if j = 1 then M (a + 8) 1 + 1 else M (a + 8) j := by
  have hX : zamX M a e (a + 8) = M (a + 8) := by
    unfold zamX
    funext j
    show (if _ then _ else _) = _
    rw [if_neg (by omega), zup_or (by omega)]
  unfold zamM zin1
  split
  · rw [hX]
    unfold zup
    by_cases h : j = 1
    · rw [if_pos ⟨rfl, h⟩, if_pos h]
    · rw [if_neg (fun e => h e.2), if_neg h, hX]
  · unfold zup
    by_cases h : j = 1
    · rw [if_pos ⟨rfl, h⟩, if_pos h]
    · rw [if_neg (fun e => h e.2), if_neg h]
theorem zB4_am {n : Int} {M : zM} {a : Nat} {e : Int} (hn : n + 1 ≤ 1000000) (he : 0 ≤ e ∧ e < 4) (h3 : zB3 M a) (h : zB4 n M a) : zB4 (n + 1) (zamM M a e) a := by
  obtain ⟨⟨r1, r2, r3, r4, r5⟩, ⟨n1, n2⟩, h5, h6⟩ := h
  have e0 : zamM M a e (a + 8) 0 = M (a + 8) 0 := zam_8
  have e1 : zamM M a e (a + 8) 1 = M (a + 8) 1 + 1 := zam_8
  have e2 : zamM M a e (a + 8) 2 = M (a + 8) 2 := zam_8
  have et : ztot (zamM M a e) a = ztot M a + 1 := by unfold ztot; rw [e1, e2]; omega
  have ht0 : 0 ≤ ztot M a := by unfold ztot; omega
  have hE : zE2 (zamM M a e) M a := ⟨zamM_o (by omega) (by omega) (by omega), zamM_o (by omega) (by omega) (by omega)⟩
  refine ⟨⟨by rw [e0]; exact r1, by rw [e1]; omega, by rw [e2]; exact r3, fun j hj => ?_, fun j hj => ?_⟩, by rw [e1, e2]; omega, fun i hi => ?_, ?_⟩
  · rw [zam_9]
    split
    · omega
    · exact r4 j hj
  · rw [zam_10]
    split
    · have := h3.1.1 (j - (ztot M a * 36).toNat) (by omega)
      omega
    · exact r5 j hj
  · rw [et] at hi
    have hi8 : (i : Int) < 8 ∧ (i : Int) < ztot M a + 1 := by unfold zmi at hi; split at hi <;> omega
    rw [zam_9]
    by_cases hc : (i : Int) = ztot M a
    · rw [if_pos ⟨by omega, by omega⟩]
      refine Or.inl ⟨by omega, fun y hy => ?_⟩
      rw [zam_10, if_pos ⟨by omega, by omega, by omega⟩]
      exact (h3.1.1 _ (by omega)).2
    · rw [if_neg (by omega)]
      rcases h5 i (by unfold zmi; split <;> omega) with h | h
      · exact Or.inl ⟨h.1, fun y hy => by rw [zam_10, if_neg (by omega)]; exact h.2 y hy⟩
      · exact Or.inr h
  · rw [e0]
    exact h6.imp id (fun e => (hE.ef.2 _).mpr e)
theorem zasM_o {M : zM} {a q : Nat} {k : Int} (h1 : q ≠ a + 8) (h2 : q ≠ a + 9) (h3 : q ≠ a + 10) : zasM M a k q = M q := by
  unfold zasM
  split
  · rw [zin1_o h1]
    unfold zasX
    rw [ztao_or h3, zup_or h2]
  · exact zin1_o h1
theorem zas_9 {M : zM} {a : Nat} {k : Int} {j : Nat} : zasM M a k (a + 9) j = if ztot M a < 8 ∧ j = (ztot M a).toNat then 10 + k else M (a + 9) j := by
  unfold zasM
  split
  · next h =>
    rw [zin1_o (by omega)]
    unfold zasX
    rw [ztao_or (by omega)]
    unfold zup
    by_cases h2 : j = (ztot M a).toNat
    · rw [if_pos ⟨rfl, h2⟩, if_pos ⟨h, h2⟩]
    · rw [if_neg (fun e => h2 e.2), if_neg (fun e => h2 e.2)]
  · next h => rw [zin1_o (by omega), if_neg (fun e => h e.1)]
theorem zas_10 {M : zM} {a : Nat} {k : Int} {j : Nat} : zasM M a k (a + 10) j = if ztot M a < 8 ∧ (ztot M a * 36).toNat ≤ j ∧ j < (ztot M a * 36).toNat + (zsz M a).toNat then zasF M a k (j - (ztot M a * 36).toNat) else M (a + 10) j := by
  unfold zasM
  split
  · next h =>
    rw [zin1_o (by omega)]
    unfold zasX ztao
    by_cases h2 : (ztot M a * 36).toNat ≤ j ∧ j < (ztot M a * 36).toNat + (zsz M a).toNat
    · rw [if_pos ⟨rfl, h2⟩, if_pos ⟨h, h2⟩]
    · rw [if_neg (fun e => h2 e.2), if_neg (fun e => h2 e.2), zup_or (by omega)]
  · next h => rw [zin1_o (by omega), if_neg (fun e => h e.1)]
theorem zas_8 {M : zM} {a : Nat} {k : Int} {j : Nat} : zasM M a k (a + 8) j = if j = 2 then M (a + 8) 2 + 1 else M (a + 8) j := by
  have hX : zasX M a k (zsz M a).toNat (a + 8) = M (a + 8) := by
    unfold zasX
    rw [ztao_or (by omega), zup_or (by omega)]
  unfold zasM zin1
  split
  · rw [hX]
    unfold zup
    by_cases h : j = 2
    · rw [if_pos ⟨rfl, h⟩, if_pos h]
    · rw [if_neg (fun e => h e.2), if_neg h, hX]
  · unfold zup
    by_cases h : j = 2
    · rw [if_pos ⟨rfl, h⟩, if_pos h]
    · rw [if_neg (fun e => h e.2), if_neg h]
theorem zB4_as {n : Int} {M : zM} {a : Nat} {k : Int} (hn : n + 1 ≤ 1000000) (hk : 0 ≤ k ∧ k < 4) (hg : zGr M a) (h3 : zB3 M a) (h : zB4 n M a) : zB4 (n + 1) (zasM M a k) a := by
  obtain ⟨⟨r1, r2, r3, r4, r5⟩, ⟨n1, n2⟩, h5, h6⟩ := h
  obtain ⟨g6, g7⟩ := hg.sz
  have hz : zsz M a = M (a + 1) 0 * M (a + 1) 1 := rfl
  have e0 : zasM M a k (a + 8) 0 = M (a + 8) 0 := zas_8
  have e1 : zasM M a k (a + 8) 1 = M (a + 8) 1 := zas_8
  have e2 : zasM M a k (a + 8) 2 = M (a + 8) 2 + 1 := zas_8
  have et : ztot (zasM M a k) a = ztot M a + 1 := by unfold ztot; rw [e1, e2]; omega
  have ht0 : 0 ≤ ztot M a := by unfold ztot; omega
  have hE : zE2 (zasM M a k) M a := ⟨zasM_o (by omega) (by omega) (by omega), zasM_o (by omega) (by omega) (by omega)⟩
  refine ⟨⟨by rw [e0]; exact r1, by rw [e1]; exact r2, by rw [e2]; omega, fun j hj => ?_, fun j hj => ?_⟩, by rw [e1, e2]; omega, fun i hi => ?_, ?_⟩
  · rw [zas_9]
    split
    · omega
    · exact r4 j hj
  · rw [zas_10]
    split
    · have hm := zmark_b (c := ((j - (ztot M a * 36).toNat : Nat) : Int)) hg
      exact h3.1.2.1 _ (by omega)
    · exact r5 j hj
  · rw [et] at hi
    have hi8 : (i : Int) < 8 ∧ (i : Int) < ztot M a + 1 := by unfold zmi at hi; split at hi <;> omega
    rw [zas_9]
    by_cases hc : (i : Int) = ztot M a
    · rw [if_pos ⟨by omega, by omega⟩]
      exact Or.inr (by omega)
    · rw [if_neg (by omega)]
      rcases h5 i (by unfold zmi; split <;> omega) with h | h
      · exact Or.inl ⟨h.1, fun y hy => by rw [zas_10, if_neg (by omega)]; exact h.2 y hy⟩
      · exact Or.inr h
  · rw [e0]
    exact h6.imp id (fun e => (hE.ef.2 _).mpr e)
end
noncomputable section
/-! What the class keeps. -/
def zp100 : Nat → Int
  | 0 => 1
  | n + 1 => zp100 n * 100
def zRs (M : zM) : Prop := ∀ i : Nat, i ≤ 8 → ∀ c : Nat, c < 36 → 0 ≤ M 111 (i * 36 + c) ∧ M 111 (i * 36 + c) ≤ zp100 (8 - i)
def zKX (M : zM) : Prop := zBu M ∧ (∀ j : Nat, j < 36 → zr32 (M 107 j)) ∧ (∀ j : Nat, j < 36 → zr32 (M 106 j)) ∧ zWr (M 114) ∧ zBr M 104 ∧ zEr (M 109) ∧ zRs M ∧ (M 0 2 = 0 ∨ M 0 2 = 1) ∧ (-1 ≤ M 0 5 ∧ M 0 5 ≤ 45)
theorem zKX.bu {M : zM} (h : zKX M) : zBu M := h.1
theorem zKX.r7 {M : zM} (h : zKX M) : ∀ j : Nat, j < 36 → zr32 (M 107 j) := h.2.1
theorem zKX.r6 {M : zM} (h : zKX M) : ∀ j : Nat, j < 36 → zr32 (M 106 j) := h.2.2.1
theorem zKX.w {M : zM} (h : zKX M) : zWr (M 114) := h.2.2.2.1
theorem zKX.br {M : zM} (h : zKX M) : zBr M 104 := h.2.2.2.2.1
theorem zKX.er {M : zM} (h : zKX M) : zEr (M 109) := h.2.2.2.2.2.1
theorem zKX.rs {M : zM} (h : zKX M) : zRs M := h.2.2.2.2.2.2.1
theorem zKX.k {M : zM} (h : zKX M) : M 0 2 = 0 ∨ M 0 2 = 1 := h.2.2.2.2.2.2.2.1
theorem zKX.ea {M : zM} (h : zKX M) : -1 ≤ M 0 5 ∧ M 0 5 ≤ 45 := h.2.2.2.2.2.2.2.2
def zKI (n : Int) (M : zM) : Prop := (0 ≤ n ∧ n ≤ 600) ∧ zBI n M zn1 ∧ (M 0 2 = 1 → zBI n M zn13) ∧ (∀ i : Int, 0 ≤ i → i < M 25 2 → zBI n M (zslo M i)) ∧ zCh M ∧ zKX M
theorem zKI.n {n : Int} {M : zM} (h : zKI n M) : 0 ≤ n ∧ n ≤ 600 := h.1
theorem zKI.b {n : Int} {M : zM} (h : zKI n M) : zBI n M zn1 := h.2.1
theorem zKI.s {n : Int} {M : zM} (h : zKI n M) : M 0 2 = 1 → zBI n M zn13 := h.2.2.1
theorem zKI.r {n : Int} {M : zM} (h : zKI n M) : ∀ i : Int, 0 ≤ i → i < M 25 2 → zBI n M (zslo M i) := h.2.2.2.1
theorem zKI.ch {n : Int} {M : zM} (h : zKI n M) : zCh M := h.2.2.2.2.1
theorem zKI.x {n : Int} {M : zM} (h : zKI n M) : zKX M := h.2.2.2.2.2
theorem zKI.ci {n : Int} {M : zM} (h : zKI n M) : zCI M := by
  have b := h.b
  have hro := zfree_b b.g b.b6
  exact ⟨b.g, b.b1.2.1, b.b2.1, b.b3.1, b.b4.1, b.b1.2.2.2, b.b5, by omega, h.ch, h.x.bu, h.x.r7, h.x.r6, h.x.w, h.x.br, fun e he => zmw_pos hzn1 b.b1 b.b2 b.b3 he, h.x.k, h.x.ea⟩
theorem zKX_c {M M0 : zM} (h : zKX M0) (hq : ∀ q : Nat, 99 ≤ q → q < 115 → q ≠ 102 → q ≠ 103 → M q = M0 q) (h2 : M 0 2 = M0 0 2) (h5 : M 0 5 = M0 0 5) : zKX M := by
  refine ⟨?_, ?_, ?_, ?_, ?_, ?_, ?_, by rw [h2]; exact h.k, by rw [h5]; exact h.ea⟩
  · unfold zBu; rw [hq 99 (by decide) (by decide) (by decide) (by decide), hq 100 (by decide) (by decide) (by decide) (by decide)]; exact h.bu
  · rw [hq 107 (by decide) (by decide) (by decide) (by decide)]; exact h.r7
  · rw [hq 106 (by decide) (by decide) (by decide) (by decide)]; exact h.r6
  · rw [hq 114 (by decide) (by decide) (by decide) (by decide)]; exact h.w
  · unfold zBr; rw [hq 104 (by decide) (by decide) (by decide) (by decide)]; exact h.br
  · rw [hq 109 (by decide) (by decide) (by decide) (by decide)]; exact h.er
  · unfold zRs; rw [hq 111 (by decide) (by decide) (by decide) (by decide)]; exact h.rs
theorem zBE_1 {M M0 : zM} (h : ∀ q : Nat, 1 ≤ q → q < 13 → M q = M0 q) : zBE M zn1 M0 zn1 := zBE_q h
theorem zBE_13 {M M0 : zM} (h : ∀ q : Nat, 13 ≤ q → q < 25 → M q = M0 q) : zBE M zn13 M0 zn13 := zBE_q h
/-- nothing of what is kept has changed -/
theorem zKI_f {n : Int} {M M0 : zM} (h : zKI n M0) (hq : ∀ q : Nat, q ≠ 0 → q < 99 → M q = M0 q) (h2 : M 0 2 = M0 0 2) (hx : zKX M) : zKI n M := by
  have h25 := hq 25 (by decide) (by decide)
  refine ⟨h.n, zBI_c (zBE_1 (fun q h1 h2 => hq q (by omega) (by omega))) h.b, fun e => zBI_c (zBE_13 (fun q h1 h2 => hq q (by omega) (by omega))) (h.s (h2 ▸ e)), fun i h0 h1 => ?_, zCh_c h25 h.ch, hx⟩
  have e : zslo M i = zslo M0 i := by unfold zslo; rw [h25]
  have hs := zSt_le (zslo_st M0 i)
  rw [e]
  rw [h25] at h1
  exact zBI_c (zBE_q (fun q h1 h2 => hq q (by omega) (by omega))) (h.r i h0 h1)
/-- the state was kept, then the now was changed -/
theorem zKI_k {n : Int} {X M : zM} (h : zKI n X) (hn : n + 1 ≤ 600) (hq : ∀ q : Nat, 13 ≤ q → q < 99 → M q = zkpM X zn1 q) (h2 : M 0 2 = X 0 2) (hb : zBI (n + 1) M zn1) (hx : zKX M) : zKI (n + 1) M := by
  have h25 := hq 25 (by decide) (by decide)
  have hn0 := h.n
  refine ⟨by omega, hb, fun e => ?_, fun i h0 h1 => ?_, zCh_c h25 (zCh_kp h.ch), hx⟩
  · exact zBI_n (n := n) (by omega) (zBI_c (zBE_13 (fun q h1 h2 => by rw [hq q (by omega) (by omega), zkp_o (by omega)])) (h.s (h2 ▸ e)))
  · have e : zslo M i = zslo (zkpM X zn1) i := by unfold zslo; rw [h25]
    rw [h25, zkp_2] at h1
    have hs := zSt_le (zslo_st (zkpM X zn1) i)
    have h27 : 27 ≤ zslo (zkpM X zn1) i := by unfold zslo zring; omega
    have hr := zkp_ring hzn1 (by decide) h.ch h0 h1
    rw [e]
    refine zBI_n (n := n) (by omega) (zBI_c ((zBE_q (fun q h1 h2 => hq q (by omega) (by omega))).tr hr) ?_)
    split
    · exact h.b
    · next hne =>
      refine h.r _ (by split <;> omega) ?_
      unfold zkn at h1 hne
      split <;> omega
theorem zKb {n : Int} {M : zM} (h : zKI n M) : zBI n (zkpM M zn1) zn1 := zBI_c (zBE_1 (fun q h1 h2 => zkp_o (by omega))) h.b
theorem zKX_k {n : Int} {M : zM} (h : zKI n M) : zKX (zkpM M zn1) := zKX_c h.x (fun q h1 h2 _ _ => zkp_o (by omega)) (by rw [zkp_o (by decide)]) (by rw [zkp_o (by decide)])
theorem zup_at {M : zM} {q j i : Nat} {x : Int} : zup M q j x q i = if i = j then x else M q i := by
  unfold zup
  by_cases h : i = j
  · rw [if_pos ⟨rfl, h⟩, if_pos h]
  · rw [if_neg (fun e => h e.2), if_neg h]
theorem zBI_n4 {n : Int} {M M0 : zM} {a : Nat} (h : zEf M a M0 a) (h8 : ∀ j : Nat, j < 3 → M (a + 8) j = M0 (a + 8) j) (h9 : ∀ j : Nat, j < 8 → M (a + 9) j = M0 (a + 9) j) (h10 : ∀ j : Nat, j < 288 → M (a + 10) j = M0 (a + 10) j) (hB : zBI n M0 a) : zB4 (n + 1) M a := by
  have h1 := zB4_c h h8 h9 h10 hB.b4
  exact ⟨h1.1, ⟨by have := h1.2.1.1; omega, by have := h1.2.1.2; omega⟩, h1.2.2.1, h1.2.2.2⟩
theorem zki_mark {n : Int} {M : zM} {x y : Int} (hf : zfree M zn1 x) (hy : 0 ≤ y ∧ y < 4) (h : zKI n M) (hn : n + 1 ≤ 600) : zKI (n + 1) (zup (zkpM M zn1) (zn1 + 2) x.toNat y) := by
  have hK := zKb h
  have hG : zGr (zup (zkpM M zn1) (zn1 + 2) x.toNat y) zn1 := by
    refine ⟨by rw [zup_or (by decide)]; exact hK.g.1, by rw [zup_or (by decide)]; exact hK.g.2.1, fun c hc => ?_⟩
    rw [zup_at]
    split
    · omega
    · exact hK.g.2.2 c hc
  have hE : zEf (zup (zkpM M zn1) (zn1 + 2) x.toNat y) zn1 (zkpM M zn1) zn1 := by
    refine ⟨⟨by rw [zup_or (by decide)], by rw [zup_or (by decide)]⟩, fun c => ?_⟩
    unfold zfree
    rw [zup_or (show ¬ zn1 + 1 = zn1 + 2 by decide), zup_at]
    have hx : ¬ zkpM M zn1 (zn1 + 2) x.toNat = -1 := by rw [zkp_o (by decide)]; exact hf.2.2
    by_cases hc : c.toNat = x.toNat
    · rw [if_pos hc, hc]
      exact ⟨fun e => ⟨e.1, e.2.1, hx⟩, fun e => ⟨e.1, e.2.1, by omega⟩⟩
    · rw [if_neg hc]
  exact zKI_k h hn (fun q h1 h2 => zup_or (show ¬ q = 3 by omega)) (by rw [zup_or (by decide), zkp_o (by decide)]) ⟨zB1_c hE hG (fun j _ => by rw [zup_or (show ¬ zn1 + 4 = zn1 + 2 by decide)]) hK.b1, zB2_c hE hK.g (fun j _ => by rw [zup_or (show ¬ zn1 + 11 = zn1 + 2 by decide)]) hK.b2, zB3_c ⟨by rw [zup_or (show ¬ zn1 + 5 = zn1 + 2 by decide)], by rw [zup_or (show ¬ zn1 + 5 = zn1 + 2 by decide)]⟩ (fun j _ => by rw [zup_or (show ¬ zn1 + 6 = zn1 + 2 by decide)]) (fun j _ => by rw [zup_or (show ¬ zn1 + 7 = zn1 + 2 by decide)]) hK.b3, zBI_n4 hE (fun j _ => by rw [zup_or (show ¬ zn1 + 8 = zn1 + 2 by decide)]) (fun j _ => by rw [zup_or (show ¬ zn1 + 9 = zn1 + 2 by decide)]) (fun j _ => by rw [zup_or (show ¬ zn1 + 10 = zn1 + 2 by decide)]) hK, zCo_cc (fun j _ => by rw [zup_or (show ¬ zn1 + 3 = zn1 + 2 by decide)]) hK.b5, zB6_c hE (by rw [zup_or (show ¬ zn1 = zn1 + 2 by decide)]) hK.b6⟩ (zKX_c (zKX_k h) (fun q h1 h2 _ _ => zup_or (show ¬ q = 3 by omega)) (by rw [zup_or (by decide)]) (by rw [zup_or (by decide)]))
theorem zki_cost {n : Int} {M : zM} {x y : Int} (hy : 1 ≤ y ∧ y ≤ 9) (h : zKI n M) (hn : n + 1 ≤ 600) : zKI (n + 1) (zup (zkpM M zn1) (zn1 + 3) x.toNat y) := by
  have hK := zKb h
  have hG : zGr (zup (zkpM M zn1) (zn1 + 3) x.toNat y) zn1 := zGr_c ⟨zup_or (by decide), zup_or (by decide)⟩ hK.g
  have hE : zEf (zup (zkpM M zn1) (zn1 + 3) x.toNat y) zn1 (zkpM M zn1) zn1 := (show zE2 (zup (zkpM M zn1) (zn1 + 3) x.toNat y) (zkpM M zn1) zn1 from ⟨zup_or (by decide), zup_or (by decide)⟩).ef
  exact zKI_k h hn (fun q h1 h2 => zup_or (show ¬ q = 4 by omega)) (by rw [zup_or (by decide), zkp_o (by decide)]) ⟨zB1_c hE hG (fun j _ => by rw [zup_or (show ¬ zn1 + 4 = zn1 + 3 by decide)]) hK.b1, zB2_c hE hK.g (fun j _ => by rw [zup_or (show ¬ zn1 + 11 = zn1 + 3 by decide)]) hK.b2, zB3_c ⟨by rw [zup_or (show ¬ zn1 + 5 = zn1 + 3 by decide)], by rw [zup_or (show ¬ zn1 + 5 = zn1 + 3 by decide)]⟩ (fun j _ => by rw [zup_or (show ¬ zn1 + 6 = zn1 + 3 by decide)]) (fun j _ => by rw [zup_or (show ¬ zn1 + 7 = zn1 + 3 by decide)]) hK.b3, zBI_n4 hE (fun j _ => by rw [zup_or (show ¬ zn1 + 8 = zn1 + 3 by decide)]) (fun j _ => by rw [zup_or (show ¬ zn1 + 9 = zn1 + 3 by decide)]) (fun j _ => by rw [zup_or (show ¬ zn1 + 10 = zn1 + 3 by decide)]) hK, (fun j hj => by rw [zup_at]; split; exact hy; exact hK.b5 j hj), zB6_c hE (by rw [zup_or (show ¬ zn1 = zn1 + 3 by decide)]) hK.b6⟩ (zKX_c (zKX_k h) (fun q h1 h2 _ _ => zup_or (show ¬ q = 4 by omega)) (by rw [zup_or (by decide)]) (by rw [zup_or (by decide)]))
theorem zki_carry {n : Int} {M : zM} {x : Int} (hf : zfree M zn1 x) (h : zKI n M) (hn : n + 1 ≤ 600) : zKI (n + 1) (zup (zkpM M zn1) (zn1) 4 x) := by
  have hK := zKb h
  have hG : zGr (zup (zkpM M zn1) (zn1) 4 x) zn1 := zGr_c ⟨zup_or (by decide), zup_or (by decide)⟩ hK.g
  have hE : zEf (zup (zkpM M zn1) (zn1) 4 x) zn1 (zkpM M zn1) zn1 := (show zE2 (zup (zkpM M zn1) (zn1) 4 x) (zkpM M zn1) zn1 from ⟨zup_or (by decide), zup_or (by decide)⟩).ef
  exact zKI_k h hn (fun q h1 h2 => zup_or (show ¬ q = 1 by omega)) (by rw [zup_or (by decide), zkp_o (by decide)]) ⟨zB1_c hE hG (fun j _ => by rw [zup_or (show ¬ zn1 + 4 = zn1 by decide)]) hK.b1, zB2_c hE hK.g (fun j _ => by rw [zup_or (show ¬ zn1 + 11 = zn1 by decide)]) hK.b2, zB3_c ⟨by rw [zup_or (show ¬ zn1 + 5 = zn1 by decide)], by rw [zup_or (show ¬ zn1 + 5 = zn1 by decide)]⟩ (fun j _ => by rw [zup_or (show ¬ zn1 + 6 = zn1 by decide)]) (fun j _ => by rw [zup_or (show ¬ zn1 + 7 = zn1 by decide)]) hK.b3, zBI_n4 hE (fun j _ => by rw [zup_or (show ¬ zn1 + 8 = zn1 by decide)]) (fun j _ => by rw [zup_or (show ¬ zn1 + 9 = zn1 by decide)]) (fun j _ => by rw [zup_or (show ¬ zn1 + 10 = zn1 by decide)]) hK, zCo_cc (fun j _ => by rw [zup_or (show ¬ zn1 + 3 = zn1 by decide)]) hK.b5, (by unfold zB6; rw [zup_i]; exact (hE.2 x).mpr ((zfree_c ⟨zkp_o (by decide), zkp_o (by decide)⟩).mpr hf))⟩ (zKX_c (zKX_k h) (fun q h1 h2 _ _ => zup_or (show ¬ q = 1 by omega)) (by rw [zup_or (by decide)]) (by rw [zup_or (by decide)]))
theorem zki_rate {n : Int} {M : zM} {x : Int} (hx : 0 ≤ x ∧ x ≤ 100) (h : zKI n M) (hn : n + 1 ≤ 600) : zKI (n + 1) (zup (zkpM M zn1) (zn1 + 5) 2 x) := by
  have hK := zKb h
  have hG : zGr (zup (zkpM M zn1) (zn1 + 5) 2 x) zn1 := zGr_c ⟨zup_or (by decide), zup_or (by decide)⟩ hK.g
  have hE : zEf (zup (zkpM M zn1) (zn1 + 5) 2 x) zn1 (zkpM M zn1) zn1 := (show zE2 (zup (zkpM M zn1) (zn1 + 5) 2 x) (zkpM M zn1) zn1 from ⟨zup_or (by decide), zup_or (by decide)⟩).ef
  exact zKI_k h hn (fun q h1 h2 => zup_or (show ¬ q = 6 by omega)) (by rw [zup_or (by decide), zkp_o (by decide)]) ⟨zB1_c hE hG (fun j _ => by rw [zup_or (show ¬ zn1 + 4 = zn1 + 5 by decide)]) hK.b1, zB2_c hE hK.g (fun j _ => by rw [zup_or (show ¬ zn1 + 11 = zn1 + 5 by decide)]) hK.b2, (by obtain ⟨⟨t1, t2, t3, t4⟩, t5⟩ := hK.b3; exact ⟨⟨fun j hj => by rw [zup_or (by decide)]; exact t1 j hj, fun j hj => by rw [zup_or (by decide)]; exact t2 j hj, by rw [zup_i]; exact hx, by rw [zup_ne (by decide)]; exact t4⟩, t5⟩), zBI_n4 hE (fun j _ => by rw [zup_or (show ¬ zn1 + 8 = zn1 + 5 by decide)]) (fun j _ => by rw [zup_or (show ¬ zn1 + 9 = zn1 + 5 by decide)]) (fun j _ => by rw [zup_or (show ¬ zn1 + 10 = zn1 + 5 by decide)]) hK, zCo_cc (fun j _ => by rw [zup_or (show ¬ zn1 + 3 = zn1 + 5 by decide)]) hK.b5, zB6_c hE (by rw [zup_or (show ¬ zn1 = zn1 + 5 by decide)]) hK.b6⟩ (zKX_c (zKX_k h) (fun q h1 h2 _ _ => zup_or (show ¬ q = 6 by omega)) (by rw [zup_or (by decide)]) (by rw [zup_or (by decide)]))
theorem zki_limit {n : Int} {M : zM} {x : Int} (hx : 0 ≤ x ∧ x ≤ 100) (h : zKI n M) (hn : n + 1 ≤ 600) : zKI (n + 1) (zup (zkpM M zn1) (zn1 + 5) 3 x) := by
  have hK := zKb h
  have hG : zGr (zup (zkpM M zn1) (zn1 + 5) 3 x) zn1 := zGr_c ⟨zup_or (by decide), zup_or (by decide)⟩ hK.g
  have hE : zEf (zup (zkpM M zn1) (zn1 + 5) 3 x) zn1 (zkpM M zn1) zn1 := (show zE2 (zup (zkpM M zn1) (zn1 + 5) 3 x) (zkpM M zn1) zn1 from ⟨zup_or (by decide), zup_or (by decide)⟩).ef
  exact zKI_k h hn (fun q h1 h2 => zup_or (show ¬ q = 6 by omega)) (by rw [zup_or (by decide), zkp_o (by decide)]) ⟨zB1_c hE hG (fun j _ => by rw [zup_or (show ¬ zn1 + 4 = zn1 + 5 by decide)]) hK.b1, zB2_c hE hK.g (fun j _ => by rw [zup_or (show ¬ zn1 + 11 = zn1 + 5 by decide)]) hK.b2, (by obtain ⟨⟨t1, t2, t3, t4⟩, t5⟩ := hK.b3; exact ⟨⟨fun j hj => by rw [zup_or (by decide)]; exact t1 j hj, fun j hj => by rw [zup_or (by decide)]; exact t2 j hj, by rw [zup_ne (by decide)]; exact t3, by rw [zup_i]; exact hx⟩, t5⟩), zBI_n4 hE (fun j _ => by rw [zup_or (show ¬ zn1 + 8 = zn1 + 5 by decide)]) (fun j _ => by rw [zup_or (show ¬ zn1 + 9 = zn1 + 5 by decide)]) (fun j _ => by rw [zup_or (show ¬ zn1 + 10 = zn1 + 5 by decide)]) hK, zCo_cc (fun j _ => by rw [zup_or (show ¬ zn1 + 3 = zn1 + 5 by decide)]) hK.b5, zB6_c hE (by rw [zup_or (show ¬ zn1 = zn1 + 5 by decide)]) hK.b6⟩ (zKX_c (zKX_k h) (fun q h1 h2 _ _ => zup_or (show ¬ q = 6 by omega)) (by rw [zup_or (by decide)]) (by rw [zup_or (by decide)]))
theorem zki_seed {n : Int} {M : zM} {x : Int} (h : zKI n M) (hn : n + 1 ≤ 600) : zKI (n + 1) (zup (zkpM M zn1) (zn1) 5 x) := by
  have hK := zKb h
  have hG : zGr (zup (zkpM M zn1) (zn1) 5 x) zn1 := zGr_c ⟨zup_or (by decide), zup_or (by decide)⟩ hK.g
  have hE : zEf (zup (zkpM M zn1) (zn1) 5 x) zn1 (zkpM M zn1) zn1 := (show zE2 (zup (zkpM M zn1) (zn1) 5 x) (zkpM M zn1) zn1 from ⟨zup_or (by decide), zup_or (by decide)⟩).ef
  exact zKI_k h hn (fun q h1 h2 => zup_or (show ¬ q = 1 by omega)) (by rw [zup_or (by decide), zkp_o (by decide)]) ⟨zB1_c hE hG (fun j _ => by rw [zup_or (show ¬ zn1 + 4 = zn1 by decide)]) hK.b1, zB2_c hE hK.g (fun j _ => by rw [zup_or (show ¬ zn1 + 11 = zn1 by decide)]) hK.b2, zB3_c ⟨by rw [zup_or (show ¬ zn1 + 5 = zn1 by decide)], by rw [zup_or (show ¬ zn1 + 5 = zn1 by decide)]⟩ (fun j _ => by rw [zup_or (show ¬ zn1 + 6 = zn1 by decide)]) (fun j _ => by rw [zup_or (show ¬ zn1 + 7 = zn1 by decide)]) hK.b3, zBI_n4 hE (fun j _ => by rw [zup_or (show ¬ zn1 + 8 = zn1 by decide)]) (fun j _ => by rw [zup_or (show ¬ zn1 + 9 = zn1 by decide)]) (fun j _ => by rw [zup_or (show ¬ zn1 + 10 = zn1 by decide)]) hK, zCo_cc (fun j _ => by rw [zup_or (show ¬ zn1 + 3 = zn1 by decide)]) hK.b5, zB6_c hE (by rw [zup_ne (by decide)]) hK.b6⟩ (zKX_c (zKX_k h) (fun q h1 h2 _ _ => zup_or (show ¬ q = 1 by omega)) (by rw [zup_or (by decide)]) (by rw [zup_or (by decide)]))
theorem zki_sensor {n : Int} {M : zM} {x y v : Int} (hv : 0 ≤ v ∧ v ≤ 100) (h : zKI n M) (hn : n + 1 ≤ 600) : zKI (n + 1) (zup (zkpM M zn1) (zn1 + 7) (x * 4 + y).toNat v) := by
  have hK := zKb h
  have hG : zGr (zup (zkpM M zn1) (zn1 + 7) (x * 4 + y).toNat v) zn1 := zGr_c ⟨zup_or (by decide), zup_or (by decide)⟩ hK.g
  have hE : zEf (zup (zkpM M zn1) (zn1 + 7) (x * 4 + y).toNat v) zn1 (zkpM M zn1) zn1 := (show zE2 (zup (zkpM M zn1) (zn1 + 7) (x * 4 + y).toNat v) (zkpM M zn1) zn1 from ⟨zup_or (by decide), zup_or (by decide)⟩).ef
  exact zKI_k h hn (fun q h1 h2 => zup_or (show ¬ q = 8 by omega)) (by rw [zup_or (by decide), zkp_o (by decide)]) ⟨zB1_c hE hG (fun j _ => by rw [zup_or (show ¬ zn1 + 4 = zn1 + 7 by decide)]) hK.b1, zB2_c hE hK.g (fun j _ => by rw [zup_or (show ¬ zn1 + 11 = zn1 + 7 by decide)]) hK.b2, (by obtain ⟨⟨t1, t2, t3, t4⟩, t5⟩ := hK.b3; exact ⟨⟨fun j hj => by rw [zup_or (by decide)]; exact t1 j hj, fun j hj => by rw [zup_at]; split; exact hv; exact t2 j hj, by rw [zup_or (by decide)]; exact t3, by rw [zup_or (by decide)]; exact t4⟩, t5⟩), zBI_n4 hE (fun j _ => by rw [zup_or (show ¬ zn1 + 8 = zn1 + 7 by decide)]) (fun j _ => by rw [zup_or (show ¬ zn1 + 9 = zn1 + 7 by decide)]) (fun j _ => by rw [zup_or (show ¬ zn1 + 10 = zn1 + 7 by decide)]) hK, zCo_cc (fun j _ => by rw [zup_or (show ¬ zn1 + 3 = zn1 + 7 by decide)]) hK.b5, zB6_c hE (by rw [zup_or (show ¬ zn1 = zn1 + 7 by decide)]) hK.b6⟩ (zKX_c (zKX_k h) (fun q h1 h2 _ _ => zup_or (show ¬ q = 8 by omega)) (by rw [zup_or (by decide)]) (by rw [zup_or (by decide)]))
end
noncomputable section
/-! What the class keeps: moves, sights, grids. -/
theorem zB4_clr {n : Int} {M : zM} {a : Nat} {c : Int} (hn : 0 ≤ n) (h : zTr M a) (hg : zGr M a) (hc : c = -1 ∨ zfree M a c) : zB4 n (zclM M a c) a := by
  obtain ⟨e0, e1, e2⟩ := zclM_8 (M := M) (a := a) (c := c)
  have hc2 : -1 ≤ c ∧ c ≤ 35 := by
    rcases hc with rfl | hc
    · decide
    · have := zfree_b hg hc
      omega
  have hE : zE2 (zclM M a c) M a := ⟨zclM_o (by omega), zclM_o (by omega)⟩
  refine ⟨zTr_cl h hc2, by rw [e1, e2]; exact ⟨hn, hn⟩, fun i hi => ?_, ?_⟩
  · exfalso
    have e : ztot (zclM M a c) a = 0 := by unfold ztot; rw [e1, e2]; rfl
    rw [e] at hi
    unfold zmi at hi
    rw [if_pos (by decide)] at hi
    omega
  · rw [e0]
    exact hc.imp id (fun e => (hE.ef.2 _).mpr e)
theorem zev_12 {K : zM} {j : Nat} : zevM K zn1 12 j = zscM (ztab K 102 (zsz K zn1).toNat (zevW K zn1)) 12 (zsz K zn1).toNat j := rfl
/-- forgetting makes the beliefs even and the trail empty -/
theorem zBI_fg {n : Int} {K : zM} (hn : 0 ≤ n) (h1 : zB1 K zn1) (hbl : zBl K zn1) (h3 : zB3 K zn1) (h4 : zTr K zn1) (h5 : zCo K zn1) (h6 : zB6 K zn1) : zBI n (zfgM K) zn1 := by
  have hq : ∀ q : Nat, q ≠ 9 → q ≠ 12 → q ≠ 102 → q ≠ 103 → zfgM K q = K q := fun q a b c d => zfg_o b c d a
  have hE : zE2 (zfgM K) K zn1 := ⟨hq _ (by decide) (by decide) (by decide) (by decide), hq _ (by decide) (by decide) (by decide) (by decide)⟩
  have hp := zev_pos h1.2.2.2
  have hY : zE2 (zevM K zn1 (zn1 + 11)) K zn1 := ⟨zev_o (by decide) (by decide) (by decide), zev_o (by decide) (by decide) (by decide)⟩
  refine ⟨zB1_c hE.ef (zGr_c hE h1.1) (fun j _ => by rw [hq _ (by decide) (by decide) (by decide) (by decide)]) h1, ?_, zB3_c ⟨by rw [hq _ (by decide) (by decide) (by decide) (by decide)], by rw [hq _ (by decide) (by decide) (by decide) (by decide)]⟩ (fun j _ => by rw [hq _ (by decide) (by decide) (by decide) (by decide)]) (fun j _ => by rw [hq _ (by decide) (by decide) (by decide) (by decide)]) h3, ?_, zCo_cc (fun j _ => by rw [hq _ (by decide) (by decide) (by decide) (by decide)]) h5, zB6_c hE.ef (by rw [hq _ (by decide) (by decide) (by decide) (by decide)]) h6⟩
  · refine zB2_sc hE.ef h1.1 hbl (W := ztab K 102 (zsz K zn1).toNat (zevW K zn1) 102) hp.1 hp.2 (fun j hj hf => ?_) (fun j => ?_)
    · rw [ztab_i (by omega)]
      exact zb_f hf
    · unfold zfgM
      rw [zclM_o (by decide)]
      unfold zevM
      rw [zscM_v (by decide), ztab_o (show ¬ zn1 + 11 = 102 by decide)]
  · exact zB4_clr hn (zTr_c (zev_o (by decide) (by decide) (by decide)) (zev_o (by decide) (by decide) (by decide)) (zev_o (by decide) (by decide) (by decide)) h4) (zGr_c hY h1.1) (Or.inl rfl)
/-- a move -/
theorem zBI_go {n : Int} {M : zM} {e : Int} (hn : n + 1 ≤ 1000000) (he : 0 ≤ e ∧ e < 4) (h : zBI n M zn1) : zBI (n + 1) (zgoM M e) zn1 := by
  have hq : ∀ q : Nat, q ≠ 9 → q ≠ 10 → q ≠ 11 → q ≠ 12 → q ≠ 102 → q ≠ 103 → zgoM M e q = M q := fun q a b c d e f => zgo_o a b c d e f
  have hE : zE2 (zgoM M e) M zn1 := ⟨hq _ (by decide) (by decide) (by decide) (by decide) (by decide) (by decide), hq _ (by decide) (by decide) (by decide) (by decide) (by decide) (by decide)⟩
  have hY : ∀ q : Nat, q ≠ 12 → q ≠ 102 → q ≠ 103 → zmvM M zn1 e (zn1 + 11) q = M q := fun q a b c => zmvM_o a b c
  have hYE : zE2 (zmvM M zn1 e (zn1 + 11)) M zn1 := ⟨hY _ (by decide) (by decide) (by decide), hY _ (by decide) (by decide) (by decide)⟩
  have h3 : zB3 (zmvM M zn1 e (zn1 + 11)) zn1 := zB3_c ⟨by rw [hY _ (by decide) (by decide) (by decide)], by rw [hY _ (by decide) (by decide) (by decide)]⟩ (fun j _ => by rw [hY _ (by decide) (by decide) (by decide)]) (fun j _ => by rw [hY _ (by decide) (by decide) (by decide)]) h.b3
  have h4 : zB4 n (zmvM M zn1 e (zn1 + 11)) zn1 := zB4_c hYE.ef (fun j _ => by rw [hY _ (by decide) (by decide) (by decide)]) (fun j _ => by rw [hY _ (by decide) (by decide) (by decide)]) (fun j _ => by rw [hY _ (by decide) (by decide) (by decide)]) h.b4
  refine ⟨zB1_c hE.ef (zGr_c hE h.g) (fun j _ => by rw [hq _ (by decide) (by decide) (by decide) (by decide) (by decide) (by decide)]) h.b1, ?_, zB3_c ⟨by rw [hq _ (by decide) (by decide) (by decide) (by decide) (by decide) (by decide)], by rw [hq _ (by decide) (by decide) (by decide) (by decide) (by decide) (by decide)]⟩ (fun j _ => by rw [hq _ (by decide) (by decide) (by decide) (by decide) (by decide) (by decide)]) (fun j _ => by rw [hq _ (by decide) (by decide) (by decide) (by decide) (by decide) (by decide)]) h.b3, zB4_am hn he h3 h4, zCo_cc (fun j _ => by rw [hq _ (by decide) (by decide) (by decide) (by decide) (by decide) (by decide)]) h.b5, zB6_c hE.ef (by rw [hq _ (by decide) (by decide) (by decide) (by decide) (by decide) (by decide)]) h.b6⟩
  refine zB2_sc hE.ef h.g h.b2.1 (W := zmw M zn1 e) (fun j hj => (zmw_b hzn1 h.g h.b2.1 h.b3.1 hj).1) (zmw_pos hzn1 h.b1 h.b2 h.b3 he) (fun j hj hf => zmw_wall hzn1 h.b1 h.b2 he hj hf) (fun j => ?_)
  unfold zgoM
  rw [zamM_o (by decide) (by decide) (by decide)]
  unfold zmvM
  rw [zscM_v (by decide), zmwM_w]
  unfold zmwM
  rw [zrow_o (by decide)]
/-- a sight that is taken -/
theorem zBI_ts {n : Int} {K : zM} {k o : Int} (hn : n + 1 ≤ 1000000) (hn0 : 0 ≤ n) (hk : 0 ≤ k ∧ k < 4) (hW : ∀ j, j < (zsz K zn1).toNat → 0 ≤ K 102 j) (hS : 0 < zsum (K 102) (zsz K zn1).toNat) (hw : ∀ j : Nat, (j : Int) < zsz K zn1 → ¬ zfreeN K zn1 j → K 102 j = 0) (h : zBI n K zn1) : zBI (n + 1) (ztsM K k o) zn1 := by
  have hq : ∀ q : Nat, q ≠ 1 → q ≠ 9 → q ≠ 10 → q ≠ 11 → q ≠ 12 → q ≠ 103 → ztsM K k o q = K q := fun q a b c d e f => zts_o a b c d e f
  have hE : zE2 (ztsM K k o) K zn1 := ⟨hq _ (by decide) (by decide) (by decide) (by decide) (by decide) (by decide), hq _ (by decide) (by decide) (by decide) (by decide) (by decide) (by decide)⟩
  have h1 : ∀ q : Nat, q ≠ 12 → q ≠ 103 → zts1 K q = K q := fun q a b => zscM_o a b
  have h1E : zE2 (zts1 K) K zn1 := ⟨h1 _ (by decide) (by decide), h1 _ (by decide) (by decide)⟩
  have h2 : ∀ q : Nat, q ≠ 1 → q ≠ 9 → q ≠ 12 → q ≠ 103 → zts2 (zts1 K) q = K q := fun q a b c d => by
    unfold zts2
    rw [zclM_o b, zup_or a, h1 q c d]
  have h2E : zE2 (zts2 (zts1 K)) K zn1 := ⟨h2 _ (by decide) (by decide) (by decide) (by decide), h2 _ (by decide) (by decide) (by decide) (by decide)⟩
  have b4 : zB4 (n + 1) (ztsM K k o) zn1 := by
    unfold ztsM
    split
    · refine zB4_as hn hk (zGr_c h2E h.g) (zB3_c ⟨by rw [h2 _ (by decide) (by decide) (by decide) (by decide)], by rw [h2 _ (by decide) (by decide) (by decide) (by decide)]⟩ (fun j _ => by rw [h2 _ (by decide) (by decide) (by decide) (by decide)]) (fun j _ => by rw [h2 _ (by decide) (by decide) (by decide) (by decide)]) h.b3) ?_
      unfold zts2
      have hu : zE2 (zup (zts1 K) zn1 6 (zts1 K zn1 6 + 1)) K zn1 := ⟨by rw [zup_or (by decide)]; exact h1 _ (by decide) (by decide), by rw [zup_or (by decide)]; exact h1 _ (by decide) (by decide)⟩
      exact zB4_clr hn0 (zTr_c (by rw [zup_or (by decide)]; exact h1 _ (by decide) (by decide)) (by rw [zup_or (by decide)]; exact h1 _ (by decide) (by decide)) (by rw [zup_or (by decide)]; exact h1 _ (by decide) (by decide)) h.b4.1) (zGr_c hu h.g) (Or.inl rfl)
    · exact zB4_as hn hk (zGr_c h1E h.g) (zB3_c ⟨by rw [h1 _ (by decide) (by decide)], by rw [h1 _ (by decide) (by decide)]⟩ (fun j _ => by rw [h1 _ (by decide) (by decide)]) (fun j _ => by rw [h1 _ (by decide) (by decide)]) h.b3) (zB4_c h1E.ef (fun j _ => by rw [h1 _ (by decide) (by decide)]) (fun j _ => by rw [h1 _ (by decide) (by decide)]) (fun j _ => by rw [h1 _ (by decide) (by decide)]) h.b4)
  have h12 : ∀ X : zM, zasM X zn1 k 12 = X 12 := fun X => zasM_o (by decide) (by decide) (by decide)
  refine ⟨zB1_c hE.ef (zGr_c hE h.g) (fun j _ => by rw [hq _ (by decide) (by decide) (by decide) (by decide) (by decide) (by decide)]) h.b1, ?_, zB3_c ⟨by rw [hq _ (by decide) (by decide) (by decide) (by decide) (by decide) (by decide)], by rw [hq _ (by decide) (by decide) (by decide) (by decide) (by decide) (by decide)]⟩ (fun j _ => by rw [hq _ (by decide) (by decide) (by decide) (by decide) (by decide) (by decide)]) (fun j _ => by rw [hq _ (by decide) (by decide) (by decide) (by decide) (by decide) (by decide)]) h.b3, b4, zCo_cc (fun j _ => by rw [hq _ (by decide) (by decide) (by decide) (by decide) (by decide) (by decide)]) h.b5, zB6_c hE.ef zts_4 h.b6⟩
  refine zB2_sc hE.ef h.g h.b2.1 (W := K 102) hW hS hw (fun j => ?_)
  have e : ztsM K k o (zn1 + 11) j = zts1 K (zn1 + 11) j := by
    unfold ztsM
    split
    · rw [show zasM (zts2 (zts1 K)) zn1 k (zn1 + 11) = zts2 (zts1 K) (zn1 + 11) from h12 _]
      unfold zts2
      rw [zclM_o (by decide), zup_or (by decide)]
    · rw [show zasM (zts1 K) zn1 k (zn1 + 11) = zts1 K (zn1 + 11) from h12 _]
  rw [e]
  unfold zts1
  exact zscM_v (by decide)
/-- a field of the now; a hit -/
theorem zBI_up {n : Int} {M : zM} {j : Nat} {x : Int} (hj : j = 4 → zfree M zn1 x) (h : zBI n M zn1) : zBI n (zup M zn1 j x) zn1 := by
  have hq : ∀ q : Nat, q ≠ 1 → zup M zn1 j x q = M q := fun q a => zup_or a
  have hE : zE2 (zup M zn1 j x) M zn1 := ⟨hq _ (by decide), hq _ (by decide)⟩
  refine ⟨zB1_c hE.ef (zGr_c hE h.g) (fun j _ => by rw [hq _ (by decide)]) h.b1, zB2_c hE.ef h.g (fun j _ => by rw [hq _ (by decide)]) h.b2, zB3_c ⟨by rw [hq _ (by decide)], by rw [hq _ (by decide)]⟩ (fun j _ => by rw [hq _ (by decide)]) (fun j _ => by rw [hq _ (by decide)]) h.b3, zB4_c hE.ef (fun j _ => by rw [hq _ (by decide)]) (fun j _ => by rw [hq _ (by decide)]) (fun j _ => by rw [hq _ (by decide)]) h.b4, zCo_cc (fun j _ => by rw [hq _ (by decide)]) h.b5, ?_⟩
  unfold zB6
  rw [zup_at]
  split
  · next e => exact (hE.ef.2 x).mpr (hj e.symm)
  · exact (hE.ef.2 _).mpr h.b6
theorem zch_o {M : zM} {q : Nat} (h1 : q ≠ 1) (h2 : q ≠ 106) (h3 : q ≠ 107) : zchM M q = M q := by
  unfold zchM
  split
  · rw [zup_or h1, zrkM_o h2 h3]
  · exact zrkM_o h2 h3
theorem zBI_ch {n : Int} {M : zM} (h : zBI n M zn1) : zBI n (zchM M) zn1 := by
  have h1 : zBI n (zrkM M zn1) zn1 := zBI_c (zBE_1 (fun q a b => zrkM_o (by omega) (by omega))) h
  unfold zchM
  split
  · exact zBI_up (fun e => absurd e (by decide)) h1
  · exact h1
theorem zKX_ch {M : zM} (hg : zGr M zn1) (hbl : zBl M zn1) (h : zKX M) : zKX (zchM M) := by
  obtain ⟨g6, g7⟩ := hg.sz
  have hz : zsz M zn1 = M (zn1 + 1) 0 * M (zn1 + 1) 1 := rfl
  have hF : ∀ j : Nat, j < 36 → zr32 (M (zn1 + 11) j) := fun j hj => by have := hbl j hj; unfold zr32; omega
  have e7 : zchM M 107 = (zrk (M (zn1 + 11)) (zsz M zn1).toNat (M 107, M 106)).1 := by
    unfold zchM
    split
    · rw [zup_or (by decide)]; exact zrw_7
    · exact zrw_7
  have e6 : zchM M 106 = (zrk (M (zn1 + 11)) (zsz M zn1).toNat (M 107, M 106)).2 := by
    unfold zchM
    split
    · rw [zup_or (by decide)]; exact zrw_6
    · exact zrw_6
  have hq : ∀ q : Nat, q ≠ 1 → q ≠ 106 → q ≠ 107 → zchM M q = M q := fun q a b c => zch_o a b c
  obtain ⟨a1, a2, a3, a4, a5, a6, a7, a8, a9⟩ := h
  refine ⟨?_, ?_, ?_, ?_, ?_, ?_, ?_, by rw [hq _ (by decide) (by decide) (by decide)]; exact a8, by rw [hq _ (by decide) (by decide) (by decide)]; exact a9⟩
  · unfold zBu; rw [hq 99 (by decide) (by decide) (by decide), hq 100 (by decide) (by decide) (by decide)]; exact a1
  · rw [e7]; exact zrk_r hF a2 _ (by omega)
  · rw [e6]; exact zrk_o a3 _ (by omega)
  · rw [hq _ (by decide) (by decide) (by decide)]; exact a4
  · unfold zBr; rw [hq _ (by decide) (by decide) (by decide)]; exact a5
  · rw [hq _ (by decide) (by decide) (by decide)]; exact a6
  · unfold zRs; rw [hq _ (by decide) (by decide) (by decide)]; exact a7
theorem zKX_rk {M : zM} (hg : zGr M zn1) (hbl : zBl M zn1) (h : zKX M) : zKX (zrkM M zn1) := by
  obtain ⟨g6, g7⟩ := hg.sz
  have hz : zsz M zn1 = M (zn1 + 1) 0 * M (zn1 + 1) 1 := rfl
  have hF : ∀ j : Nat, j < 36 → zr32 (M (zn1 + 11) j) := fun j hj => by have := hbl j hj; unfold zr32; omega
  have e7 : zrkM M zn1 107 = (zrk (M (zn1 + 11)) (zsz M zn1).toNat (M 107, M 106)).1 := zrw_7
  have e6 : zrkM M zn1 106 = (zrk (M (zn1 + 11)) (zsz M zn1).toNat (M 107, M 106)).2 := zrw_6
  have hq : ∀ q : Nat, q ≠ 106 → q ≠ 107 → zrkM M zn1 q = M q := fun q b c => zrkM_o b c
  obtain ⟨a1, a2, a3, a4, a5, a6, a7, a8, a9⟩ := h
  refine ⟨?_, ?_, ?_, ?_, ?_, ?_, ?_, by rw [hq _ (by decide) (by decide)]; exact a8, by rw [hq _ (by decide) (by decide)]; exact a9⟩
  · unfold zBu; rw [hq 99 (by decide) (by decide), hq 100 (by decide) (by decide)]; exact a1
  · rw [e7]; exact zrk_r hF a2 _ (by omega)
  · rw [e6]; exact zrk_o a3 _ (by omega)
  · rw [hq _ (by decide) (by decide)]; exact a4
  · unfold zBr; rw [hq _ (by decide) (by decide)]; exact a5
  · rw [hq _ (by decide) (by decide)]; exact a6
  · unfold zRs; rw [hq _ (by decide) (by decide)]; exact a7
theorem zKX_4 {M M0 : zM} (h : zKX M0) (hq : ∀ q : Nat, 99 ≤ q → q < 115 → q ≠ 102 → q ≠ 103 → q ≠ 104 → M q = M0 q) (hb : zBr M 104) (h2 : M 0 2 = M0 0 2) (h5 : M 0 5 = M0 0 5) : zKX M := by
  refine ⟨?_, ?_, ?_, ?_, hb, ?_, ?_, by rw [h2]; exact h.k, by rw [h5]; exact h.ea⟩
  · unfold zBu; rw [hq 99 (by decide) (by decide) (by decide) (by decide) (by decide), hq 100 (by decide) (by decide) (by decide) (by decide) (by decide)]; exact h.bu
  · rw [hq 107 (by decide) (by decide) (by decide) (by decide) (by decide)]; exact h.r7
  · rw [hq 106 (by decide) (by decide) (by decide) (by decide) (by decide)]; exact h.r6
  · rw [hq 114 (by decide) (by decide) (by decide) (by decide) (by decide)]; exact h.w
  · rw [hq 109 (by decide) (by decide) (by decide) (by decide) (by decide)]; exact h.er
  · unfold zRs; rw [hq 111 (by decide) (by decide) (by decide) (by decide) (by decide)]; exact h.rs
end
