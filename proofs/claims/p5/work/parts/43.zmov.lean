/-! Moves, sights, driving. -/
theorem zin1_o {M : zM} {a j q : Nat} (h : q ≠ a + 8) : zin1 M a j q = M q := zup_or h
theorem zamM_o {M : zM} {a q : Nat} {e : Int} (h1 : q ≠ a + 8) (h2 : q ≠ a + 9) (h3 : q ≠ a + 10) : zamM M a e q = M q := by
  unfold zamM
  split
  · rw [zin1_o h1]
    unfold zamX
    funext j
    show (if _ then _ else _) = _
    rw [if_neg (fun e => h3 e.1), zup_or h2]
  · rw [zin1_o h1]
theorem zgo_o {M : zM} {e : Int} {q : Nat} (h1 : q ≠ 9) (h2 : q ≠ 10) (h3 : q ≠ 11) (h4 : q ≠ 12) (h5 : q ≠ 102) (h6 : q ≠ 103) : zgoM M e q = M q := by
  unfold zgoM
  rw [zamM_o h1 h2 h3, zmvM_o h4 h5 h6]
theorem zgo_gr {M : zM} {e : Int} (h : zCI M) : zGr (zgoM M e) zn1 := zGr_c ⟨zgo_o (by decide) (by decide) (by decide) (by decide) (by decide) (by decide), zgo_o (by decide) (by decide) (by decide) (by decide) (by decide) (by decide)⟩ h.g
theorem zgo_bl {M : zM} {e : Int} (h : zCI M) (he : 0 ≤ e ∧ e < 4) : zBl (zgoM M e) zn1 := by
  have h1 := zBr_mv (q := zn1 + 11) hzn1 (by decide) (by decide) h.bl h.g h.bl h.tb (h.mv e he)
  unfold zBl zgoM
  rw [zamM_o (by decide) (by decide) (by decide)]
  exact h1
theorem sp_moveP_0 {xs : List Int32} {d : Nat} {w : Bool} {M : zM} (hI : zCI M) {x : Int} (hx : zr32 x) (c0 : ¬ (0 ≤ x ∧ x < 4)) : xrun2 xs (d + 7) 86 [.ref 0, .int (Int32.ofInt x)] (w, zheap M) = some (.inr 0, (false, zheap M)) := by
  have hg := hI.g
  have ht := hI.tb
  have hK := zCI_kp hI
  have hX : ∀ q : Nat, q < 25 → zkpM M zn1 q = M q := fun q h => zkp_o (Or.inl h)
  obtain ⟨⟨g1, g2⟩, ⟨g3, g4⟩, g5⟩ := id hg
  obtain ⟨g6, g7⟩ := hg.sz
  have hz : zsz M zn1 = M (zn1 + 1) 0 * M (zn1 + 1) 1 := rfl
  have hgo : ∀ e : Int, zGr (zgoM (zkpM M zn1) e) zn1 := fun e => zgo_gr hK
  have hgb : ∀ e : Int, 0 ≤ e ∧ e < 4 → zBl (zgoM (zkpM M zn1) e) zn1 := fun e he => zgo_bl hK he
  exact zrun_v (N := 13) (by decide) rfl (zz_iload_n (pc := 0) (show xcode 86 0 = some (.iload_n 1, 1, 0, 0) from by decide +kernel) (zmem 1 rfl) (zz_or ((0 ≤ x ∧ x < 4)) (fun (zc1 : 0 ≤ x ∧ x < 4) => zz_call_0 (pc := 1) (cu := 0) (su := 0) (fun ls hr => zz_calS (show xcode 86 1 = some (.invokestatic 204, 3, 122, 0) from by decide +kernel) rfl ls hr) rfl (sp_requireDirection_0 (d := d + 5) hx zc1) (zz_aload_n (pc := 4) (show xcode 86 4 = some (.aload_n 0, 1, 0, 0) from by decide +kernel) (zmem 0 rfl) (zz_getR (pc := 5) (show xcode 86 5 = some (.getfield 26, 3, 10, 3) from by decide +kernel) zis_0 (by decide +kernel) rfl (zz_aload_n (pc := 8) (show xcode 86 8 = some (.aload_n 0, 1, 0, 0) from by decide +kernel) (zmem 0 rfl) (zz_getR (pc := 9) (show xcode 86 9 = some (.getfield 10, 3, 10, 0) from by decide +kernel) zis_0 (by decide +kernel) rfl (zz_call_0 (pc := 12) (cu := 1) (su := 6) (fun ls hr => zz_calV (show xcode 86 12 = some (.invokevirtual 114, 3, 1, 0) from by decide +kernel) rfl zis_25 ls hr) rfl (sp_keep (d := d + 3) hzn1 hI.ch) (zm_as (fun zM3 (ezM3 : zM3 = zkpM M zn1) => zz_aload_n (pc := 15) (show xcode 86 15 = some (.aload_n 0, 1, 0, 0) from by decide +kernel) (zmem 0 rfl) (zz_iload_n (pc := 16) (show xcode 86 16 = some (.iload_n 1, 1, 0, 0) from by decide +kernel) (zmem 1 rfl) (zz_call_0 (pc := 17) (cu := 1) (su := 6) (fun ls hr => zz_calV (show xcode 86 17 = some (.invokevirtual 233, 3, 113, 0) from by decide +kernel) rfl zis_0 ls hr) rfl (sp_goOn (d := d) (by omega) (by subst_vars; first | exact hK.g | exact hgo _) (by subst_vars; exact hK.nb) (by subst_vars; first | exact hK.bl | exact hgb _ (by omega)) (by subst_vars; exact hK.tb) (by subst_vars; exact hK.mv _ (by omega)) (by subst_vars; exact hK.tr)) (zm_as (fun zM4 (ezM4 : zM4 = zgoM zM3 x) => zz_aload_n (pc := 20) (show xcode 86 20 = some (.aload_n 0, 1, 0, 0) from by decide +kernel) (zmem 0 rfl) (zz_getR (pc := 21) (show xcode 86 21 = some (.getfield 10, 3, 10, 0) from by decide +kernel) zis_0 (by decide +kernel) rfl (zz_call_v (pc := 24) (cu := 1) (su := 6) (fun ls hr => zz_calV (show xcode 86 24 = some (.invokevirtual 236, 3, 50, 0) from by decide +kernel) rfl (zst_0 hzn1) ls hr) rfl (sp_greatestBelief (d := d + 4) hzn1 (by subst_vars; first | exact hK.g | exact hgo _) (by subst_vars; first | exact hK.bl | exact hgb _ (by omega))) (zz_ireturn (pc := 27) (show xcode 86 27 = some (.ireturn, 1, 0, 0) from by decide +kernel) rfl (by decide +kernel) (by decide +kernel) (by first | (exfalso; first | omega | contradiction) | (subst_vars; exact ⟨rfl, rfl⟩))))))))))))))))) (fun (zc2 : ¬ (0 ≤ x ∧ x < 4)) => zz_call_e (pc := 1) (fun ls hr => zz_calS (show xcode 86 1 = some (.invokestatic 204, 3, 122, 0) from by decide +kernel) rfl ls hr) rfl rfl (sp_requireDirection_1 (d := d + 5) hx zc2) (by first | (exfalso; first | omega | contradiction) | (subst_vars; exact ⟨rfl, rfl⟩)))))
theorem sp_moveP_1 {xs : List Int32} {d : Nat} {w : Bool} {M : zM} (hI : zCI M) {x : Int} (hx : zr32 x) (c0 : ¬ (¬ (0 ≤ x ∧ x < 4))) : xrun2 xs (d + 7) 86 [.ref 0, .int (Int32.ofInt x)] (w, zheap M) = some (.inl (some (.int (Int32.ofInt (zgr (zgoM (zkpM M zn1) x (zn1 + 11)) (zsz (zgoM (zkpM M zn1) x) zn1).toNat)))), (w, zheap (zgoM (zkpM M zn1) x))) := by
  have hg := hI.g
  have ht := hI.tb
  have hK := zCI_kp hI
  have hX : ∀ q : Nat, q < 25 → zkpM M zn1 q = M q := fun q h => zkp_o (Or.inl h)
  obtain ⟨⟨g1, g2⟩, ⟨g3, g4⟩, g5⟩ := id hg
  obtain ⟨g6, g7⟩ := hg.sz
  have hz : zsz M zn1 = M (zn1 + 1) 0 * M (zn1 + 1) 1 := rfl
  have hgo : ∀ e : Int, zGr (zgoM (zkpM M zn1) e) zn1 := fun e => zgo_gr hK
  have hgb : ∀ e : Int, 0 ≤ e ∧ e < 4 → zBl (zgoM (zkpM M zn1) e) zn1 := fun e he => zgo_bl hK he
  exact zrun_v (N := 13) (by decide) rfl (zz_iload_n (pc := 0) (show xcode 86 0 = some (.iload_n 1, 1, 0, 0) from by decide +kernel) (zmem 1 rfl) (zz_or ((0 ≤ x ∧ x < 4)) (fun (zc1 : 0 ≤ x ∧ x < 4) => zz_call_0 (pc := 1) (cu := 0) (su := 0) (fun ls hr => zz_calS (show xcode 86 1 = some (.invokestatic 204, 3, 122, 0) from by decide +kernel) rfl ls hr) rfl (sp_requireDirection_0 (d := d + 5) hx zc1) (zz_aload_n (pc := 4) (show xcode 86 4 = some (.aload_n 0, 1, 0, 0) from by decide +kernel) (zmem 0 rfl) (zz_getR (pc := 5) (show xcode 86 5 = some (.getfield 26, 3, 10, 3) from by decide +kernel) zis_0 (by decide +kernel) rfl (zz_aload_n (pc := 8) (show xcode 86 8 = some (.aload_n 0, 1, 0, 0) from by decide +kernel) (zmem 0 rfl) (zz_getR (pc := 9) (show xcode 86 9 = some (.getfield 10, 3, 10, 0) from by decide +kernel) zis_0 (by decide +kernel) rfl (zz_call_0 (pc := 12) (cu := 1) (su := 6) (fun ls hr => zz_calV (show xcode 86 12 = some (.invokevirtual 114, 3, 1, 0) from by decide +kernel) rfl zis_25 ls hr) rfl (sp_keep (d := d + 3) hzn1 hI.ch) (zm_as (fun zM3 (ezM3 : zM3 = zkpM M zn1) => zz_aload_n (pc := 15) (show xcode 86 15 = some (.aload_n 0, 1, 0, 0) from by decide +kernel) (zmem 0 rfl) (zz_iload_n (pc := 16) (show xcode 86 16 = some (.iload_n 1, 1, 0, 0) from by decide +kernel) (zmem 1 rfl) (zz_call_0 (pc := 17) (cu := 1) (su := 6) (fun ls hr => zz_calV (show xcode 86 17 = some (.invokevirtual 233, 3, 113, 0) from by decide +kernel) rfl zis_0 ls hr) rfl (sp_goOn (d := d) (by omega) (by subst_vars; first | exact hK.g | exact hgo _) (by subst_vars; exact hK.nb) (by subst_vars; first | exact hK.bl | exact hgb _ (by omega)) (by subst_vars; exact hK.tb) (by subst_vars; exact hK.mv _ (by omega)) (by subst_vars; exact hK.tr)) (zm_as (fun zM4 (ezM4 : zM4 = zgoM zM3 x) => zz_aload_n (pc := 20) (show xcode 86 20 = some (.aload_n 0, 1, 0, 0) from by decide +kernel) (zmem 0 rfl) (zz_getR (pc := 21) (show xcode 86 21 = some (.getfield 10, 3, 10, 0) from by decide +kernel) zis_0 (by decide +kernel) rfl (zz_call_v (pc := 24) (cu := 1) (su := 6) (fun ls hr => zz_calV (show xcode 86 24 = some (.invokevirtual 236, 3, 50, 0) from by decide +kernel) rfl (zst_0 hzn1) ls hr) rfl (sp_greatestBelief (d := d + 4) hzn1 (by subst_vars; first | exact hK.g | exact hgo _) (by subst_vars; first | exact hK.bl | exact hgb _ (by omega))) (zz_ireturn (pc := 27) (show xcode 86 27 = some (.ireturn, 1, 0, 0) from by decide +kernel) rfl (by decide +kernel) (by decide +kernel) (by first | (exfalso; first | omega | contradiction) | (subst_vars; exact ⟨rfl, rfl⟩))))))))))))))))) (fun (zc2 : ¬ (0 ≤ x ∧ x < 4)) => zz_call_e (pc := 1) (fun ls hr => zz_calS (show xcode 86 1 = some (.invokestatic 204, 3, 122, 0) from by decide +kernel) rfl ls hr) rfl rfl (sp_requireDirection_1 (d := d + 5) hx zc2) (by first | (exfalso; first | omega | contradiction) | (subst_vars; exact ⟨rfl, rfl⟩)))))
/-- the promises of the first directions: the memory, the best, the greatest -/
noncomputable def zpr (M : zM) : Nat → zM × Int × Int
  | 0 => (M, 0, -1)
  | n + 1 => if (zpr M n).2.2 < zpo (zpr M n).1 zn1 (n : Int) then (zpoM (zpr M n).1 zn1 (n : Int), (n : Int), zpo (zpr M n).1 zn1 (n : Int)) else (zpoM (zpr M n).1 zn1 (n : Int), (zpr M n).2.1, (zpr M n).2.2)
theorem zpo_o {M : zM} {e : Int} {q : Nat} (h1 : q ≠ 102) (h2 : q ≠ 103) (h3 : q ≠ 104) : zpoM M zn1 e q = M q := by
  unfold zpoM
  rw [zprM_o h1, zmvM_o h3 h1 h2]
theorem zpm_b {M : zM} {a : Nat} (hg : zGr M a) (ht : zTb M a) (hc : zBr M 104) {n : Nat} (hn : n ≤ 4) : 0 ≤ zpm M a n ∧ zpm M a n ≤ 400000000 := by
  obtain ⟨g6, g7⟩ := hg.sz
  have hz : zsz M a = M (a + 1) 0 * M (a + 1) 1 := rfl
  have h := zsum_b (F := fun k => (fun i : Int => zgr (zsgF M a 104 i) (zsz M a).toNat) (k : Int)) (l := 0) (u := 100000000) n (fun k hk => zgr_b _ (fun j hj => zsgF_b hg ht hc (by omega) (by omega)) (by decide))
  unfold zpm
  omega
