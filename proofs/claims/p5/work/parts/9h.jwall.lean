/-! Both: walls. -/
theorem zsw_o {M : zM} {x v : Int} {q : Nat} (h1 : q ≠ 12) (h2 : q ≠ 102) (h3 : q ≠ 103) (h4 : q ≠ 9) (h5 : ¬ q = 5) (h6 : ¬ q = 3) (h7 : ¬ q = 4) : zswM M x v q = zkpM M zn1 q := by
  have hz1 : zn1 = 1 := rfl
  unfold zswM
  rw [zfg_o h1 h2 h3 h4]
  unfold zcoM
  rw [ztab_or (by omega)]
  unfold zbuM
  rw [zup_or (by omega), zup_or (by omega)]
theorem zsw_3 {M : zM} {x v : Int} {j : Nat} : zswM M x v (zn1 + 2) j = if j = x.toNat then v else M (zn1 + 2) j := by
  unfold zswM
  rw [zfg_o (by decide) (by decide) (by decide) (by decide)]
  unfold zcoM
  rw [ztab_or (by decide)]
  unfold zbuM
  rw [zup_or (by decide), zup_at, zkp_o (by decide)]
theorem zsw_4 {M : zM} {x v : Int} {j : Nat} : zswM M x v (zn1 + 3) j = if j = x.toNat then 1 else M (zn1 + 3) j := by
  unfold zswM
  rw [zfg_o (by decide) (by decide) (by decide) (by decide)]
  unfold zcoM
  rw [ztab_or (by decide)]
  unfold zbuM
  rw [zup_at, zup_or (by decide), zkp_o (by decide)]
theorem zsw_2 {M : zM} {x v : Int} : zswM M x v (zn1 + 1) = M (zn1 + 1) := (zsw_o (by decide) (by decide) (by decide) (by decide) (by decide) (by decide) (by decide)).trans (zkp_o (by decide))
theorem rbu_o {K : zM} {x v : Int} {q : Nat} (h1 : ¬ q = 116) (h2 : ¬ q = 117) : rbuM K x v q = rm1 K q := by
  unfold rbuM
  rw [zup_or h2, zup_or h1]
theorem rbu_116 {K : zM} {x v : Int} {j : Nat} : rbuM K x v 116 j = if j = x.toNat then v else K 116 j := by
  unfold rbuM
  rw [zup_or (by decide), zup_at, rm1_o (by decide) (by decide)]
theorem rbu_117 {K : zM} {x v : Int} {j : Nat} : rbuM K x v 117 j = if j = x.toNat then 1 else K 117 j := by
  unfold rbuM
  rw [zup_at, zup_or (by decide), rm1_o (by decide) (by decide)]
theorem zwall_A {M K : zM} {x v : Int} (h6 : zR6 M K) : rA (zswM M x v) (rbuM K x v) := by
  refine ⟨⟨?_, ?_⟩, fun j hj => ?_⟩
  · rw [rbu_o (by decide) (by decide), rm1_5 (by decide) (by decide) (by decide) (by decide), zsw_2]; exact h6.1.1.1
  · rw [rbu_o (by decide) (by decide), rm1_5 (by decide) (by decide) (by decide) (by decide), zsw_2]; exact h6.1.1.2
  · unfold zsz at hj
    rw [zsw_2] at hj
    rw [rbu_116, zsw_3, h6.1.2 j hj]
theorem zwall_D {M K : zM} {n x y : Int} (hJ : zJo n M) (hn : n + 1 ≤ 600) (h6 : zR6 M K) (h : rswC M x y (K 115 10)) : zBI (n + 1) (zswM M x (if y = 1 then -1 else 0)) zn1 ∧ rA (zswM M x (if y = 1 then -1 else 0)) (rbuM K x (if y = 1 then -1 else 0)) := by
  refine ⟨?_, zwall_A h6⟩
  rcases h with ⟨rfl, hf, ho⟩ | ⟨rfl, hf, h0, h1⟩
  · rw [h6.2.2.2.2.1.1] at ho
    exact (zki_wall hJ.k hn ⟨hf.1, hf.2.1⟩ (Or.inl ⟨if_pos rfl, fun e => ho (Or.inl e), fun e => ho (Or.inr e), hf⟩)).b
  · exact (zki_wall hJ.k hn ⟨h0, h1⟩ (Or.inr ⟨if_neg (by decide), hf⟩)).b
/-- the rows of both behind a wall is built or taken away -/
theorem zwall_6 {M K : zM} {n x v : Int} (hB : zBI n (zswM M x v) zn1) (h6 : zR6 M K) : zR6 (zswM M x v) (rswM (zswM M x v) K x v) := by
  have hA := zwall_A (x := x) (v := v) h6
  obtain ⟨mA, mC, mT, mL, mS, mR⟩ := h6
  have c : ∀ q : Nat, q ≠ 12 → q ≠ 9 → ¬ q = 5 → ¬ q = 3 → ¬ q = 4 → q < 13 → zswM M x v q = M q := fun q a b d e f g => (zsw_o a (by omega) (by omega) b d e f).trans (zkp_o (by omega))
  have r : ∀ q : Nat, ¬ q = 115 → ¬ q = 120 → ¬ q = 122 → ¬ q = 121 → ¬ q = 116 → ¬ q = 117 → ¬ q = 135 → rswM (zswM M x v) K x v q = K q := fun q a b d e f g i => by
    unfold rswM
    rw [rfo_o a, rev_o b d e, rbu_o f g, rm1_o a i]
  have r5 : ∀ j : Nat, ¬ j = 19 → ¬ j = 20 → ¬ j = 21 → ¬ j = 0 → ¬ j = 39 → ¬ j = 40 → ¬ j = 42 → rswM (zswM M x v) K x v 115 j = K 115 j := fun j a b d e f g i => by
    unfold rswM
    rw [rfo_5 a b d, rev_o (by decide) (by decide) (by decide), rbu_o (by decide) (by decide), rm1_5 e f g i]
  refine ⟨rev_fo hA, fun j hj => ?_, ?_, fun j hj => ?_, ?_, rL_0 (c := -1) (by unfold zswM zfgM; exact zclM_8) rfo_i⟩
  · unfold zsz at hj
    rw [zsw_2] at hj
    unfold rswM
    rw [rfo_o (by decide), rev_o (by decide) (by decide) (by decide), rbu_117, zsw_4, mC j hj]
  · exact rT_t (c _ (by decide) (by decide) (by decide) (by decide) (by decide) (by decide)) (c _ (by decide) (by decide) (by decide) (by decide) (by decide) (by decide)) (c _ (by decide) (by decide) (by decide) (by decide) (by decide) (by decide)) (r5 _ (by decide) (by decide) (by decide) (by decide) (by decide) (by decide) (by decide)) (r5 _ (by decide) (by decide) (by decide) (by decide) (by decide) (by decide) (by decide)) (r _ (by decide) (by decide) (by decide) (by decide) (by decide) (by decide) (by decide)) (r _ (by decide) (by decide) (by decide) (by decide) (by decide) (by decide) (by decide)) mT
  · have hE : zE2 (zcoM (zbuM (zkpM M zn1) x v) zn1) (zswM M x v) zn1 := by
      unfold zswM
      exact ⟨(zfg_o (by decide) (by decide) (by decide) (by decide)).symm, (zfg_o (by decide) (by decide) (by decide) (by decide)).symm⟩
    unfold rswM
    rw [rfo_o (by decide), zev_rev hE.ef hj]
    unfold zswM zfgM
    rw [zclM_o (by decide)]
  · have c1 : zswM M x v zn1 = M zn1 := c 1 (by decide) (by decide) (by decide) (by decide) (by decide) (by decide)
    exact rS_t (by rw [c1]) (by rw [c1]) (by rw [c1]) (by rw [c1]) (r5 _ (by decide) (by decide) (by decide) (by decide) (by decide) (by decide) (by decide)) (r5 _ (by decide) (by decide) (by decide) (by decide) (by decide) (by decide) (by decide)) (r5 _ (by decide) (by decide) (by decide) (by decide) (by decide) (by decide) (by decide)) (r5 _ (by decide) (by decide) (by decide) (by decide) (by decide) (by decide) (by decide)) mS
theorem rsw_o {D K : zM} {x v : Int} {q : Nat} (h : q < 115 ∨ q = 127 ∨ 136 ≤ q) : rswM D K x v q = K q := by
  unfold rswM
  rw [rfo_o (by omega), rev_o (by omega) (by omega) (by omega), rbu_o (by omega) (by omega), rm1_o (by omega) (by omega)]
theorem rsw_135 {D K : zM} {x v : Int} : rswM D K x v 135 = rm1 K 135 := by
  unfold rswM
  rw [rfo_o (by decide), rev_o (by decide) (by decide) (by decide), rbu_o (by decide) (by decide)]
theorem rsw_5 {D K : zM} {x v : Int} {j : Nat} (h : ¬ j = 19 ∧ ¬ j = 20 ∧ ¬ j = 21) : rswM D K x v 115 j = rm1 K 115 j := by
  unfold rswM
  rw [rfo_5 h.1 h.2.1 h.2.2, rev_o (by decide) (by decide) (by decide), rbu_o (by decide) (by decide)]
theorem zj_setWall {xs : List Int32} {d : Nat} {n : Int} {M : zM} (hJ : zJo n M) (hn : n + 1 ≤ 600) {x y : Int} (hx : zr32 x) (hy : zr32 y) (hy01 : y = 0 ∨ y = 1) : zStep xs (d + 12) (d + 13) 74 [.ref 0, .int (Int32.ofInt x), .int (Int32.ofInt y)] 162 [.ref 115, .int (Int32.ofInt x), .int (Int32.ofInt y)] [(2, 1), (1, 2)] 0 True n M := by
  have hI := hJ.k.ci
  by_cases c0 : ¬ (0 ≤ x ∧ x < zsz M zn1)
  · exact zst_r hJ hn (fun w => ⟨_, sp_setWallP_0 (d := d + 7) hI hx hy hy01 c0⟩) (zFo_e (by decide)) hJ.k (fun _ _ => rfl) (fun K hK h6 h39 h115 => ⟨_, _, (fun w => sp_setWallR_0 (d := d + 8) (D := zswM M x (if y = 1 then -1 else 0)) (nD := n + 1) hJ.b hx h6.2.2.2.2.1 hy01 h6.1 h39 (fun h => zwall_D hJ hn h6 h) c0), zTy_i, zup_or (by decide), rSc_z, fun _ => Or.inl ⟨_, 1, rfl, by decide, zup_i⟩⟩)
  by_cases c1 : y = 1 ∧ zfree M zn1 x ∧ (zmany M zn1 = 1 ∨ M zn1 4 = x)
  · exact zst_r hJ hn (fun w => ⟨_, sp_setWallP_1 (d := d + 7) hI hx hy hy01 c0 c1⟩) (zFo_e (by decide)) hJ.k (fun _ _ => rfl) (fun K hK h6 h39 h115 => ⟨_, _, (fun w => sp_setWallR_1 (d := d + 8) (D := zswM M x (if y = 1 then -1 else 0)) (nD := n + 1) hJ.b hx h6.2.2.2.2.1 hy01 h6.1 h39 (fun h => zwall_D hJ hn h6 h) c0 (by rw [h6.2.2.2.2.1.1]; exact c1)), zTy_i, zup_or (by decide), rSc_z, fun _ => Or.inl ⟨_, 2, rfl, by decide, zup_i⟩⟩)
  by_cases c2 : y = 1 ∧ ¬ zfree M zn1 x
  · (have h6M := hJ.a; exact zst_w (X := M) hJ (fun w => ⟨_, sp_setWallP_2 (d := d + 7) hI hx hy hy01 c0 c1 c2⟩) (zFo_v zTy_i) (zki_keep hJ.k hn) (fun _ _ => rfl) (fun q a b => rfl) (zkp_o (by decide)) (zkp_o (by decide)) (zkp_o (by decide)) (fun q a => (zkp_o (by omega))) (fun K hQ hKq h6 h39 => ⟨_, _, K, (fun w => sp_setWallR_2 (d := d + 8) (D := zswM M x (if y = 1 then -1 else 0)) (nD := n + 1) hJ.b hx h6.2.2.2.2.1 hy01 h6.1 h39 (fun h => zwall_D hJ hn h6 h) c0 (by rw [h6.2.2.2.2.1.1]; exact c1) c2), zTy_i, (fun q hq => (rm1_o (by omega) (by omega))), rSc_id, ⟨rfl, rfl⟩, ⟨rm1_5 (by decide) (by decide) (by decide) (by decide), rm1_5 (by decide) (by decide) (by decide) (by decide), rm1_5 (by decide) (by decide) (by decide) (by decide)⟩, ⟨(rA_t (by simp (disch := decide) only [zkp_o, rm1_o, rm1_5, hKq]) (by simp (disch := decide) only [zkp_o, rm1_o, rm1_5, hKq]) (by simp (disch := decide) only [zkp_o, rm1_o, rm1_5, hKq]) (by simp (disch := decide) only [zkp_o, rm1_o, rm1_5, hKq]) (by simp (disch := decide) only [zkp_o, rm1_o, rm1_5, hKq]) h6M.1), (rC_t (by simp (disch := decide) only [zkp_o, rm1_o, rm1_5, hKq]) (by simp (disch := decide) only [zkp_o, rm1_o, rm1_5, hKq]) (by simp (disch := decide) only [zkp_o, rm1_o, rm1_5, hKq]) h6M.2.1), (rT_t (by simp (disch := decide) only [zkp_o, rm1_o, rm1_5, hKq]) (by simp (disch := decide) only [zkp_o, rm1_o, rm1_5, hKq]) (by simp (disch := decide) only [zkp_o, rm1_o, rm1_5, hKq]) (by simp (disch := decide) only [zkp_o, rm1_o, rm1_5, hKq]) (by simp (disch := decide) only [zkp_o, rm1_o, rm1_5, hKq]) (by simp (disch := decide) only [zkp_o, rm1_o, rm1_5, hKq]) (by simp (disch := decide) only [zkp_o, rm1_o, rm1_5, hKq]) h6M.2.2.1), (rB_t (by simp (disch := decide) only [zkp_o, rm1_o, rm1_5, hKq]) (by simp (disch := decide) only [zkp_o, rm1_o, rm1_5, hKq]) (by simp (disch := decide) only [zkp_o, rm1_o, rm1_5, hKq]) h6M.2.2.2.1), (rS_t (by simp (disch := decide) only [zkp_o, rm1_o, rm1_5, hKq]) (by simp (disch := decide) only [zkp_o, rm1_o, rm1_5, hKq]) (by simp (disch := decide) only [zkp_o, rm1_o, rm1_5, hKq]) (by simp (disch := decide) only [zkp_o, rm1_o, rm1_5, hKq]) (by simp (disch := decide) only [zkp_o, rm1_o, rm1_5, hKq]) (by simp (disch := decide) only [zkp_o, rm1_o, rm1_5, hKq]) (by simp (disch := decide) only [zkp_o, rm1_o, rm1_5, hKq]) (by simp (disch := decide) only [zkp_o, rm1_o, rm1_5, hKq]) h6M.2.2.2.2.1), (rL_t (by simp (disch := decide) only [zkp_o, rm1_o, rm1_5, hKq]) (fun c => zfr_t (by simp (disch := decide) only [zkp_o, rm1_o, rm1_5, hKq]) (by simp (disch := decide) only [zkp_o, rm1_o, rm1_5, hKq]) c) (by simp (disch := decide) only [zkp_o, rm1_o, rm1_5, hKq]) (by simp (disch := decide) only [zkp_o, rm1_o, rm1_5, hKq]) (by simp (disch := decide) only [zkp_o, rm1_o, rm1_5, hKq]) (by simp (disch := decide) only [zkp_o, rm1_o, rm1_5, hKq]) (by simp (disch := decide) only [zkp_o, rm1_o, rm1_5, hKq]) (by simp (disch := decide) only [zkp_o, rm1_o, rm1_5, hKq]) (by simp (disch := decide) only [zkp_o, rm1_o, rm1_5, hKq]) (by simp (disch := decide) only [zkp_o, rm1_o, rm1_5, hKq]) (by simp (disch := decide) only [zkp_o, rm1_o, rm1_5, hKq]) h6M.2.2.2.2.2)⟩, fun _ => Or.inr ⟨rm1_0, zq_i rfl⟩⟩))
  by_cases c3 : y = 1
  · (have h6M := hJ.a; exact zst_w (X := M) hJ (fun w => ⟨_, sp_setWallP_3 (d := d + 7) hI hx hy hy01 c0 c1 c2 c3⟩) (zFo_v zTy_i) (zki_wall hJ.k hn (Classical.not_not.mp c0) (Or.inl ⟨rfl, fun e => c1 ⟨c3, (Classical.not_not.mp (fun e => c2 ⟨c3, e⟩)), Or.inl e⟩, fun e => c1 ⟨c3, (Classical.not_not.mp (fun e => c2 ⟨c3, e⟩)), Or.inr e⟩, (Classical.not_not.mp (fun e => c2 ⟨c3, e⟩))⟩)) (fun _ _ => rfl) (fun q a b => (zsw_o (by omega) (by omega) (by omega) (by omega) (by omega) (by omega) (by omega))) ((zsw_o (by decide) (by decide) (by decide) (by decide) (by decide) (by decide) (by decide)).trans (zkp_o (by decide))) ((zsw_o (by decide) (by decide) (by decide) (by decide) (by decide) (by decide) (by decide)).trans (zkp_o (by decide))) ((zsw_o (by decide) (by decide) (by decide) (by decide) (by decide) (by decide) (by decide)).trans (zkp_o (by decide))) (fun q a => ((zsw_o (by omega) (by omega) (by omega) (by omega) (by omega) (by omega) (by omega)).trans (zkp_o (by omega)))) (fun K hQ hKq h6 h39 => ⟨_, _, K, (by have e9 : (if y = 1 then (-1 : Int) else 0) = (-1) := if_pos c3; have hr := fun w : Bool => sp_setWallR_3 (xs := xs) (d := d + 8) (w := w) (D := zswM M x (if y = 1 then -1 else 0)) (nD := n + 1) hJ.b hx h6.2.2.2.2.1 hy01 h6.1 h39 (fun h => zwall_D hJ hn h6 h) c0 (by rw [h6.2.2.2.2.1.1]; exact c1) c2 c3; rw [e9] at hr; exact hr), zTy_i, (fun q hq => (rsw_o (by omega))), rSc_id, ⟨by rw [rsw_135], by rw [rsw_5 (by decide)]⟩, ⟨by rw [rsw_5 (by decide), rm1_5 (by decide) (by decide) (by decide) (by decide)], by rw [rsw_5 (by decide), rm1_5 (by decide) (by decide) (by decide) (by decide)], by rw [rsw_5 (by decide), rm1_5 (by decide) (by decide) (by decide) (by decide)]⟩, (zwall_6 (zki_wall hJ.k hn (Classical.not_not.mp c0) (Or.inl ⟨rfl, fun e => c1 ⟨c3, (Classical.not_not.mp (fun e => c2 ⟨c3, e⟩)), Or.inl e⟩, fun e => c1 ⟨c3, (Classical.not_not.mp (fun e => c2 ⟨c3, e⟩)), Or.inr e⟩, (Classical.not_not.mp (fun e => c2 ⟨c3, e⟩))⟩)).b h6), fun _ => Or.inr ⟨(by show rswM _ _ _ _ 115 0 = 0; rw [rsw_5 (by decide), rm1_0]), zq_i rfl⟩⟩))
  by_cases c4 : zfree M zn1 x
  · (have h6M := hJ.a; exact zst_w (X := M) hJ (fun w => ⟨_, sp_setWallP_4 (d := d + 7) hI hx hy hy01 c0 c1 c2 c3 c4⟩) (zFo_v zTy_i) (zki_keep hJ.k hn) (fun _ _ => rfl) (fun q a b => rfl) (zkp_o (by decide)) (zkp_o (by decide)) (zkp_o (by decide)) (fun q a => (zkp_o (by omega))) (fun K hQ hKq h6 h39 => ⟨_, _, K, (fun w => sp_setWallR_4 (d := d + 8) (D := zswM M x (if y = 1 then -1 else 0)) (nD := n + 1) hJ.b hx h6.2.2.2.2.1 hy01 h6.1 h39 (fun h => zwall_D hJ hn h6 h) c0 (by rw [h6.2.2.2.2.1.1]; exact c1) c2 c3 c4), zTy_i, (fun q hq => (rm1_o (by omega) (by omega))), rSc_id, ⟨rfl, rfl⟩, ⟨rm1_5 (by decide) (by decide) (by decide) (by decide), rm1_5 (by decide) (by decide) (by decide) (by decide), rm1_5 (by decide) (by decide) (by decide) (by decide)⟩, ⟨(rA_t (by simp (disch := decide) only [zkp_o, rm1_o, rm1_5, hKq]) (by simp (disch := decide) only [zkp_o, rm1_o, rm1_5, hKq]) (by simp (disch := decide) only [zkp_o, rm1_o, rm1_5, hKq]) (by simp (disch := decide) only [zkp_o, rm1_o, rm1_5, hKq]) (by simp (disch := decide) only [zkp_o, rm1_o, rm1_5, hKq]) h6M.1), (rC_t (by simp (disch := decide) only [zkp_o, rm1_o, rm1_5, hKq]) (by simp (disch := decide) only [zkp_o, rm1_o, rm1_5, hKq]) (by simp (disch := decide) only [zkp_o, rm1_o, rm1_5, hKq]) h6M.2.1), (rT_t (by simp (disch := decide) only [zkp_o, rm1_o, rm1_5, hKq]) (by simp (disch := decide) only [zkp_o, rm1_o, rm1_5, hKq]) (by simp (disch := decide) only [zkp_o, rm1_o, rm1_5, hKq]) (by simp (disch := decide) only [zkp_o, rm1_o, rm1_5, hKq]) (by simp (disch := decide) only [zkp_o, rm1_o, rm1_5, hKq]) (by simp (disch := decide) only [zkp_o, rm1_o, rm1_5, hKq]) (by simp (disch := decide) only [zkp_o, rm1_o, rm1_5, hKq]) h6M.2.2.1), (rB_t (by simp (disch := decide) only [zkp_o, rm1_o, rm1_5, hKq]) (by simp (disch := decide) only [zkp_o, rm1_o, rm1_5, hKq]) (by simp (disch := decide) only [zkp_o, rm1_o, rm1_5, hKq]) h6M.2.2.2.1), (rS_t (by simp (disch := decide) only [zkp_o, rm1_o, rm1_5, hKq]) (by simp (disch := decide) only [zkp_o, rm1_o, rm1_5, hKq]) (by simp (disch := decide) only [zkp_o, rm1_o, rm1_5, hKq]) (by simp (disch := decide) only [zkp_o, rm1_o, rm1_5, hKq]) (by simp (disch := decide) only [zkp_o, rm1_o, rm1_5, hKq]) (by simp (disch := decide) only [zkp_o, rm1_o, rm1_5, hKq]) (by simp (disch := decide) only [zkp_o, rm1_o, rm1_5, hKq]) (by simp (disch := decide) only [zkp_o, rm1_o, rm1_5, hKq]) h6M.2.2.2.2.1), (rL_t (by simp (disch := decide) only [zkp_o, rm1_o, rm1_5, hKq]) (fun c => zfr_t (by simp (disch := decide) only [zkp_o, rm1_o, rm1_5, hKq]) (by simp (disch := decide) only [zkp_o, rm1_o, rm1_5, hKq]) c) (by simp (disch := decide) only [zkp_o, rm1_o, rm1_5, hKq]) (by simp (disch := decide) only [zkp_o, rm1_o, rm1_5, hKq]) (by simp (disch := decide) only [zkp_o, rm1_o, rm1_5, hKq]) (by simp (disch := decide) only [zkp_o, rm1_o, rm1_5, hKq]) (by simp (disch := decide) only [zkp_o, rm1_o, rm1_5, hKq]) (by simp (disch := decide) only [zkp_o, rm1_o, rm1_5, hKq]) (by simp (disch := decide) only [zkp_o, rm1_o, rm1_5, hKq]) (by simp (disch := decide) only [zkp_o, rm1_o, rm1_5, hKq]) (by simp (disch := decide) only [zkp_o, rm1_o, rm1_5, hKq]) h6M.2.2.2.2.2)⟩, fun _ => Or.inr ⟨rm1_0, zq_i rfl⟩⟩))
  (have h6M := hJ.a; exact zst_w (X := M) hJ (fun w => ⟨_, sp_setWallP_5 (d := d + 7) hI hx hy hy01 c0 c1 c2 c3 c4⟩) (zFo_v zTy_i) (zki_wall hJ.k hn (Classical.not_not.mp c0) (Or.inr ⟨rfl, c4⟩)) (fun _ _ => rfl) (fun q a b => (zsw_o (by omega) (by omega) (by omega) (by omega) (by omega) (by omega) (by omega))) ((zsw_o (by decide) (by decide) (by decide) (by decide) (by decide) (by decide) (by decide)).trans (zkp_o (by decide))) ((zsw_o (by decide) (by decide) (by decide) (by decide) (by decide) (by decide) (by decide)).trans (zkp_o (by decide))) ((zsw_o (by decide) (by decide) (by decide) (by decide) (by decide) (by decide) (by decide)).trans (zkp_o (by decide))) (fun q a => ((zsw_o (by omega) (by omega) (by omega) (by omega) (by omega) (by omega) (by omega)).trans (zkp_o (by omega)))) (fun K hQ hKq h6 h39 => ⟨_, _, K, (by have e9 : (if y = 1 then (-1 : Int) else 0) = 0 := if_neg c3; have hr := fun w : Bool => sp_setWallR_5 (xs := xs) (d := d + 8) (w := w) (D := zswM M x (if y = 1 then -1 else 0)) (nD := n + 1) hJ.b hx h6.2.2.2.2.1 hy01 h6.1 h39 (fun h => zwall_D hJ hn h6 h) c0 (by rw [h6.2.2.2.2.1.1]; exact c1) c2 c3 c4; rw [e9] at hr; exact hr), zTy_i, (fun q hq => (rsw_o (by omega))), rSc_id, ⟨by rw [rsw_135], by rw [rsw_5 (by decide)]⟩, ⟨by rw [rsw_5 (by decide), rm1_5 (by decide) (by decide) (by decide) (by decide)], by rw [rsw_5 (by decide), rm1_5 (by decide) (by decide) (by decide) (by decide)], by rw [rsw_5 (by decide), rm1_5 (by decide) (by decide) (by decide) (by decide)]⟩, (zwall_6 (zki_wall hJ.k hn (Classical.not_not.mp c0) (Or.inr ⟨rfl, c4⟩)).b h6), fun _ => Or.inr ⟨(by show rswM _ _ _ _ 115 0 = 0; rw [rsw_5 (by decide), rm1_0]), zq_i rfl⟩⟩))
