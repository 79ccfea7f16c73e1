/-! Both: what is read. -/
theorem zK4 {n : Int} {M : zM} (h : zJo n M) : n ≤ 600 := h.k.n.2
/-- what exact weights and paths need -/
theorem zpathX {n : Int} {M : zM} (h : zKI n M) : zDa M zn1 ∧ (∀ k : Nat, (k : Int) < zmi (ztot M zn1) 8 → zEr (zwe M zn1 k 109)) ∧ (∀ j : Nat, j < 36 → zr64 (zweM M zn1 109 j)) ∧ (∀ j : Nat, (j : Int) < zmi (ztot M zn1) 8 → zRb (zwrM M zn1 (zmi (ztot M zn1) 8) j) zn1 (zmi (ztot M zn1) 8 - 1 - (j : Int))) ∧ zRr (zRM M zn1) ∧ (∀ i : Int, 0 ≤ i → i < zmi (ztot M zn1) 8 → zRb (zRM M zn1) zn1 i) := by
  have hm := zmi8 (h.b.t0)
  have hk8 := zkm8 h
  have hE : ∀ j, zE5 (zwrM M zn1 (zmi (ztot M zn1) 8) j) M zn1 := fun j q hq => zwrM_o (by omega) j
  have hb := fun j hj => zwr_b hzn1 h.b h.x.rs j hj
  refine ⟨h.b.da, fun k hk => zwe_er hzn1 h.b h.x.er (by omega), fun j hj => ?_, fun j hj => zRs_rb hzn1 h.b (hE j) (hb j (by omega)) (by omega), zRs_rr (hb _ (by omega)), fun i h0 h1 => zRs_rb hzn1 h.b (hE _) (hb _ (by omega)) ⟨h0, h1⟩⟩
  have h1 := zwe_er hzn1 h.b h.x.er (k := (zmi (ztot M zn1) 8).toNat) (by omega) j hj
  unfold zr64
  unfold zweM
  omega
theorem zR6.tt {C K : zM} (h : zR6 C K) : rtt K = ztot C zn1 := by
  unfold rtt ztot
  rw [h.2.2.2.2.2.1.1, h.2.2.2.2.2.1.2.1]
theorem zwall_ex {n : Int} {M : zM} (hB : zBI n M zn1) {x : Int} (hx : 0 ≤ x ∧ x < zsz M zn1) (hf : ¬ zfree M zn1 x) : zcount (zexF M zn1 x) 4 = 0 := by
  have h : ∀ j : Nat, j < 4 → ¬ zexF M zn1 x j := fun j hj e => by
    refine e ?_
    rw [hB.b1.2.2.1 _ (by omega), zcn_at (e := (j : Int)) hx.1 (by omega) rfl]
    exact zjn_f1 hf
  show zcount (zexF M zn1 x) (0 + 1 + 1 + 1 + 1) = 0
  show 0 + zb (zexF M zn1 x 0) + zb (zexF M zn1 x (0 + 1)) + zb (zexF M zn1 x (0 + 1 + 1)) + zb (zexF M zn1 x (0 + 1 + 1 + 1)) = 0
  rw [zb_f (h 0 (by decide)), zb_f (h 1 (by decide)), zb_f (h 2 (by decide)), zb_f (h 3 (by decide))]
  rfl
theorem zmo_rwb {M K : zM} (h : zR6 M K) {x y v : Int} {k : Int} : zmo M zn1 x y v = rwb M (zup K 115 0 k) 118 0 x y v := by
  refine zsum_c _ (fun j hj => ?_)
  unfold zmoF rwF
  rw [zup_or (by decide), show (0 + (j : Int)).toNat = j by omega, h.2.2.1.2.1 j hj]
theorem zj_errorPosition {xs : List Int32} {d : Nat} {n : Int} {M : zM} (hJ : zJo n M) (hn : n + 1 ≤ 600) : zStep xs (d + 13) (d + 13) 73 [.ref 0] 161 [.ref 115] [] 0 True n M := by
  have hI := hJ.k.ci
  exact zst_r hJ hn (fun w => ⟨_, sp_errorPositionP (d := d + 12) hI   ⟩) (zFo_v zTy_i) hJ.k (fun _ _ => rfl) (fun K hK h6 h39 h115 => ⟨_, _, (fun w => sp_errorPositionR (d := d + 12)), zTy_i, zup_or (by decide), rSc_z, fun _ => Or.inr ⟨zup_i, zq_i (by rw [h115]; exact hJ.x.1.2.2.symm)⟩⟩)
theorem zj_rover {xs : List Int32} {d : Nat} {n : Int} {M : zM} (hJ : zJo n M) (hn : n + 1 ≤ 600) : zStep xs (d + 13) (d + 13) 107 [.ref 0] 207 [.ref 115] [] 0 True n M := by
  have hI := hJ.k.ci
  exact zst_r hJ hn (fun w => ⟨_, sp_roverP (d := d + 12) hI   ⟩) (zFo_v zTy_i) hJ.k (fun _ _ => rfl) (fun K hK h6 h39 h115 => ⟨_, _, (fun w => sp_roverR (d := d + 12)), zTy_i, zup_or (by decide), rSc_z, fun _ => Or.inr ⟨zup_i, zq_i h6.2.2.2.2.1.1.symm⟩⟩)
theorem zj_belief {xs : List Int32} {d : Nat} {n : Int} {M : zM} (hJ : zJo n M) (hn : n + 1 ≤ 600) {x : Int} (hx : zr32 x) : zStep xs (d + 12) (d + 13) 88 [.ref 0, .int (Int32.ofInt x)] 176 [.ref 115, .int (Int32.ofInt x)] [(2, 1)] 0 True n M := by
  have hI := hJ.k.ci
  by_cases c0 : ¬ (0 ≤ x ∧ x < zsz M zn1)
  · exact zst_r hJ hn (fun w => ⟨_, sp_beliefP_0 (d := d + 9) hI hx  c0⟩) (zFo_e (by decide)) hJ.k (fun _ _ => rfl) (fun K hK h6 h39 h115 => ⟨_, _, (fun w => sp_beliefR_0 (d := d + 10) hJ.b hx h6.1 c0), zTy_i, zup_or (by decide), rSc_z, fun _ => Or.inl ⟨_, 1, rfl, by decide, zup_i⟩⟩)
  exact zst_r hJ hn (fun w => ⟨_, sp_beliefP_1 (d := d + 9) hI hx  c0⟩) (zFo_v zTy_i) hJ.k (fun _ _ => rfl) (fun K hK h6 h39 h115 => ⟨_, _, (fun w => sp_beliefR_1 (d := d + 10) hJ.b hx h6.1 c0), zTy_i, zup_or (by decide), rSc_z, fun _ => Or.inr ⟨zup_i, zq_i (h6.2.2.2.1 x.toNat (by omega)).symm⟩⟩)
theorem zj_steps {xs : List Int32} {d : Nat} {n : Int} {M : zM} (hJ : zJo n M) (hn : n + 1 ≤ 600) {x : Int} (hx : zr32 x) : zStep xs (d + 12) (d + 13) 94 [.ref 0, .int (Int32.ofInt x)] 185 [.ref 115, .int (Int32.ofInt x)] [(0, 1)] 0 True n M := by
  have hI := hJ.k.ci
  by_cases c0 : ¬ (0 ≤ x ∧ x < 3)
  · exact zst_r hJ hn (fun w => ⟨_, sp_stepsP_0 (d := d + 10) hI hx  c0⟩) (zFo_e (by decide)) hJ.k (fun _ _ => rfl) (fun K hK h6 h39 h115 => ⟨_, _, (fun w => sp_stepsR_0 (d := d + 11) hx c0), zTy_i, zup_or (by decide), rSc_z, fun _ => Or.inl ⟨_, 1, rfl, by decide, zup_i⟩⟩)
  by_cases c1 : x = 0
  · exact zst_r hJ hn (fun w => ⟨_, sp_stepsP_1 (d := d + 10) hI hx  c0 c1⟩) (zFo_v zTy_i) hJ.k (fun _ _ => rfl) (fun K hK h6 h39 h115 => ⟨_, _, (fun w => sp_stepsR_1 (d := d + 11) hx c0 c1), zTy_i, zup_or (by decide), rSc_z, fun _ => Or.inr ⟨zup_i, zq_i h6.tt.symm⟩⟩)
  by_cases c2 : x = 1
  · exact zst_r hJ hn (fun w => ⟨_, sp_stepsP_2 (d := d + 10) hI hx  c0 c1 c2⟩) (zFo_v zTy_i) hJ.k (fun _ _ => rfl) (fun K hK h6 h39 h115 => ⟨_, _, (fun w => sp_stepsR_2 (d := d + 11) hx c0 c1 c2), zTy_i, zup_or (by decide), rSc_z, fun _ => Or.inr ⟨zup_i, zq_i h6.2.2.2.2.2.1.1.symm⟩⟩)
  exact zst_r hJ hn (fun w => ⟨_, sp_stepsP_3 (d := d + 10) hI hx  c0 c1 c2⟩) (zFo_v zTy_i) hJ.k (fun _ _ => rfl) (fun K hK h6 h39 h115 => ⟨_, _, (fun w => sp_stepsR_3 (d := d + 11) hx c0 c1 c2), zTy_i, zup_or (by decide), rSc_z, fun _ => Or.inr ⟨zup_i, zq_i h6.2.2.2.2.2.1.2.1.symm⟩⟩)
theorem zj_step {xs : List Int32} {d : Nat} {n : Int} {M : zM} (hJ : zJo n M) (hn : n + 1 ≤ 600) {x : Int} (hx : zr32 x) : zStep xs (d + 12) (d + 13) 95 [.ref 0, .int (Int32.ofInt x)] 187 [.ref 115, .int (Int32.ofInt x)] [(3, 1)] 0 True n M := by
  have hI := hJ.k.ci
  by_cases c0 : ¬ (0 ≤ x ∧ x < ztot M zn1 ∧ ztot M zn1 ≤ 8)
  · exact zst_r hJ hn (fun w => ⟨_, sp_stepP_0 (d := d + 10) hI hx  c0⟩) (zFo_e (by decide)) hJ.k (fun _ _ => rfl) (fun K hK h6 h39 h115 => ⟨_, _, (fun w => sp_stepR_0 (d := d + 11) hx (by have h9 := h6.tt; have h8 := hJ.b.t0; have h7 := hJ.b.b4.2.1; have h5 : ztot M zn1 = M (zn1 + 8) 1 + M (zn1 + 8) 2 := rfl; have h4 := zK4 hJ; omega) (by rw [h6.tt]; exact c0)), zTy_i, zup_or (by decide), rSc_z, fun _ => Or.inl ⟨_, 1, rfl, by decide, zup_i⟩⟩)
  exact zst_r hJ hn (fun w => ⟨_, sp_stepP_1 (d := d + 10) hI hx  c0⟩) (zFo_v zTy_i) hJ.k (fun _ _ => rfl) (fun K hK h6 h39 h115 => ⟨_, _, (fun w => sp_stepR_1 (d := d + 11) hx (by have h9 := h6.tt; have h8 := hJ.b.t0; have h7 := hJ.b.b4.2.1; have h5 : ztot M zn1 = M (zn1 + 8) 1 + M (zn1 + 8) 2 := rfl; have h4 := zK4 hJ; omega) (by rw [h6.tt]; exact c0)), zTy_i, zup_or (by decide), rSc_z, fun _ => Or.inr ⟨zup_i, zq_i (by have h9 : zmi (ztot M zn1) 8 = ztot M zn1 := if_pos (by omega); exact (h6.2.2.2.2.2.2 x.toNat (by omega)).1.symm)⟩⟩)
theorem zj_count {xs : List Int32} {d : Nat} {n : Int} {M : zM} (hJ : zJo n M) (hn : n + 1 ≤ 600) {x : Int} (hx : zr32 x) : zStep xs (d + 12) (d + 13) 108 [.ref 0, .int (Int32.ofInt x)] 208 [.ref 115, .int (Int32.ofInt x)] [(0, 1)] 0 True n M := by
  have hI := hJ.k.ci
  by_cases c0 : ¬ (0 ≤ x ∧ x < 7)
  · exact zst_r hJ hn (fun w => ⟨_, sp_countP_0 (d := d + 9) hI hx  c0⟩) (zFo_e (by decide)) hJ.k (fun _ _ => rfl) (fun K hK h6 h39 h115 => ⟨_, _, (fun w => sp_countR_0 (d := d + 9) hJ.b hx h6.1 c0), zTy_i, zup_or (by decide), rSc_z, fun _ => Or.inl ⟨_, 1, rfl, by decide, zup_i⟩⟩)
  by_cases c1 : x = 0
  · exact zst_r hJ hn (fun w => ⟨_, sp_countP_1 (d := d + 9) hI hx  c0 c1⟩) (zFo_v zTy_i) hJ.k (fun _ _ => rfl) (fun K hK h6 h39 h115 => ⟨_, _, (fun w => sp_countR_1 (d := d + 9) hJ.b hx h6.1 c0 c1), zTy_i, zup_or (by decide), rSc_z, fun _ => Or.inr ⟨zup_i, zq_i h6.1.1.1.symm⟩⟩)
  by_cases c2 : x = 1
  · exact zst_r hJ hn (fun w => ⟨_, sp_countP_2 (d := d + 9) hI hx  c0 c1 c2⟩) (zFo_v zTy_i) hJ.k (fun _ _ => rfl) (fun K hK h6 h39 h115 => ⟨_, _, (fun w => sp_countR_2 (d := d + 9) hJ.b hx h6.1 c0 c1 c2), zTy_i, zup_or (by decide), rSc_z, fun _ => Or.inr ⟨zup_i, zq_i h6.1.1.2.symm⟩⟩)
  by_cases c3 : x = 2
  · exact zst_r hJ hn (fun w => ⟨_, sp_countP_3 (d := d + 9) hI hx  c0 c1 c2 c3⟩) (zFo_v zTy_i) hJ.k (fun _ _ => rfl) (fun K hK h6 h39 h115 => ⟨_, _, (fun w => sp_countR_3 (d := d + 9) hJ.b hx h6.1 c0 c1 c2 c3), zTy_i, zup_or (by decide), rSc_z, fun _ => Or.inr ⟨zup_i, zq_i rfl⟩⟩)
  by_cases c4 : x = 3
  · exact zst_r hJ hn (fun w => ⟨_, sp_countP_4 (d := d + 9) hI hx  c0 c1 c2 c3 c4⟩) (zFo_v zTy_i) hJ.k (fun _ _ => rfl) (fun K hK h6 h39 h115 => ⟨_, _, (fun w => sp_countR_4 (d := d + 9) hJ.b hx h6.1 c0 c1 c2 c3 c4), zTy_i, zup_or (by decide), rSc_z, fun _ => Or.inr ⟨zup_i, zq_i h6.2.2.2.2.1.2.2.1.symm⟩⟩)
  by_cases c5 : x = 4
  · exact zst_r hJ hn (fun w => ⟨_, sp_countP_5 (d := d + 9) hI hx  c0 c1 c2 c3 c4 c5⟩) (zFo_v zTy_i) hJ.k (fun _ _ => rfl) (fun K hK h6 h39 h115 => ⟨_, _, (fun w => sp_countR_5 (d := d + 9) hJ.b hx h6.1 c0 c1 c2 c3 c4 c5), zTy_i, zup_or (by decide), rSc_z, fun _ => Or.inr ⟨zup_i, zq_i h6.2.2.2.2.1.2.2.2.symm⟩⟩)
  by_cases c6 : x = 5
  · exact zst_r hJ hn (fun w => ⟨_, sp_countP_6 (d := d + 9) hI hx  c0 c1 c2 c3 c4 c5 c6⟩) (zFo_v zTy_i) hJ.k (fun _ _ => rfl) (fun K hK h6 h39 h115 => ⟨_, _, (fun w => sp_countR_6 (d := d + 9) hJ.b hx h6.1 c0 c1 c2 c3 c4 c5 c6), zTy_i, zup_or (by decide), rSc_z, fun _ => Or.inr ⟨zup_i, zq_i (by rw [h115]; exact hJ.x.2.1.symm)⟩⟩)
  exact zst_r hJ hn (fun w => ⟨_, sp_countP_7 (d := d + 9) hI hx  c0 c1 c2 c3 c4 c5 c6⟩) (zFo_v zTy_i) hJ.k (fun _ _ => rfl) (fun K hK h6 h39 h115 => ⟨_, _, (fun w => sp_countR_7 (d := d + 9) hJ.b hx h6.1 c0 c1 c2 c3 c4 c5 c6), zTy_i, zup_or (by decide), rSc_z, fun _ => Or.inr ⟨zup_i, zq_i (by rw [h115]; exact hJ.x.1.1.symm)⟩⟩)
theorem zj_map {xs : List Int32} {d : Nat} {n : Int} {M : zM} (hJ : zJo n M) (hn : n + 1 ≤ 600) {x : Int} (hx : zr32 x) : zStep xs (d + 12) (d + 13) 83 [.ref 0, .int (Int32.ofInt x)] 171 [.ref 115, .int (Int32.ofInt x)] [(2, 1)] 0 True n M := by
  have hI := hJ.k.ci
  by_cases c0 : x < -1 ∨ M (zn1 + 1) 1 * (M (zn1 + 1) 0 + 1) - 1 ≤ x
  · exact zst_r hJ hn (fun w => ⟨_, sp_mapP_0 (d := d + 8) hI hx  c0⟩) (zFo_e (by decide)) hJ.k (fun _ _ => rfl) (fun K hK h6 h39 h115 => ⟨_, _, (fun w => sp_mapR_0 (d := d + 11) hJ.b hx h6.1 c0), zTy_i, zup_or (by decide), rSc_z, fun _ => Or.inl ⟨_, 1, rfl, by decide, zup_i⟩⟩)
  by_cases c1 : x = -1
  · exact zst_r hJ hn (fun w => ⟨_, sp_mapP_1 (d := d + 8) hI hx  c0 c1⟩) (zFo_v zTy_i) hJ.k (fun _ _ => rfl) (fun K hK h6 h39 h115 => ⟨_, _, (fun w => sp_mapR_1 (d := d + 11) hJ.b hx h6.1 c0 c1), zTy_i, zup_or (by decide), rSc_z, fun _ => Or.inr ⟨zup_i, zq_i rfl⟩⟩)
  exact zst_r hJ hn (fun w => ⟨_, sp_mapP_2 (d := d + 8) hI hx  c0 c1⟩) (zFo_v zTy_i) hJ.k (fun _ _ => rfl) (fun K hK h6 h39 h115 => ⟨_, _, (fun w => sp_mapR_2 (d := d + 11) hJ.b hx h6.1 c0 c1), zTy_i, zup_or (by decide), rSc_z, fun _ => Or.inr ⟨zup_i, zq_i rfl⟩⟩)
theorem zj_cell {xs : List Int32} {d : Nat} {n : Int} {M : zM} (hJ : zJo n M) (hn : n + 1 ≤ 600) {x y : Int} (hx : zr32 x) (hy : zr32 y) : zStep xs (d + 12) (d + 13) 81 [.ref 0, .int (Int32.ofInt x), .int (Int32.ofInt y)] 169 [.ref 115, .int (Int32.ofInt x), .int (Int32.ofInt y)] [(2, 1), (0, 2)] 0 True n M := by
  have hI := hJ.k.ci
  by_cases c0 : ¬ (0 ≤ x ∧ x < zsz M zn1)
  · exact zst_r hJ hn (fun w => ⟨_, sp_cellP_0 (d := d + 9) hI hx hy  c0⟩) (zFo_e (by decide)) hJ.k (fun _ _ => rfl) (fun K hK h6 h39 h115 => ⟨_, _, (fun w => sp_cellR_0 (d := d + 9) hJ.b hx hy h6.1 h6.2.1 c0), zTy_i, zup_or (by decide), rSc_z, fun _ => Or.inl ⟨_, 1, rfl, by decide, zup_i⟩⟩)
  by_cases c1 : ¬ (0 ≤ y ∧ y < 4)
  · exact zst_r hJ hn (fun w => ⟨_, sp_cellP_1 (d := d + 9) hI hx hy  c0 c1⟩) (zFo_e (by decide)) hJ.k (fun _ _ => rfl) (fun K hK h6 h39 h115 => ⟨_, _, (fun w => sp_cellR_1 (d := d + 9) hJ.b hx hy h6.1 h6.2.1 c0 (by omega)), zTy_i, zup_or (by decide), rSc_z, fun _ => Or.inl ⟨_, 2, rfl, by decide, zup_i⟩⟩)
  by_cases c2 : y = 0
  · by_cases hf : zfree M zn1 x
    · exact zst_r hJ hn (fun w => ⟨_, sp_cellP_2 (d := d + 9) hI hx hy  c0 c1 c2⟩) (zFo_v zTy_i) hJ.k (fun _ _ => rfl) (fun K hK h6 h39 h115 => ⟨_, _, (fun w => sp_cellR_3 (d := d + 9) hJ.b hx hy h6.1 h6.2.1 c0 (by omega) (fun e => e hf)), zTy_i, zup_or (by decide), rSc_z, fun _ => Or.inr ⟨zup_i, zq_i (by unfold rce; rw [if_pos c2]; exact zb_f (fun e => e hf))⟩⟩)
    · exact zst_r hJ hn (fun w => ⟨_, sp_cellP_2 (d := d + 9) hI hx hy  c0 c1 c2⟩) (zFo_v zTy_i) hJ.k (fun _ _ => rfl) (fun K hK h6 h39 h115 => ⟨_, _, (fun w => sp_cellR_2 (d := d + 9) hJ.b hx hy h6.1 h6.2.1 c0 (by omega) hf), zTy_i, zup_or (by decide), rSc_z, fun _ => Or.inr ⟨zup_i, zq_i ((zb_t hf).trans (zb_t c2).symm)⟩⟩)
  by_cases c3 : y = 1
  · by_cases hf : zfree M zn1 x
    · exact zst_r hJ hn (fun w => ⟨_, sp_cellP_3 (d := d + 9) hI hx hy  c0 c1 c2 c3⟩) (zFo_v zTy_i) hJ.k (fun _ _ => rfl) (fun K hK h6 h39 h115 => ⟨_, _, (fun w => sp_cellR_3 (d := d + 9) hJ.b hx hy h6.1 h6.2.1 c0 (by omega) (fun e => e hf)), zTy_i, zup_or (by decide), rSc_z, fun _ => Or.inr ⟨zup_i, zq_i (by unfold rce; rw [if_neg c2, if_pos c3])⟩⟩)
    · exact zst_r hJ hn (fun w => ⟨_, sp_cellP_3 (d := d + 9) hI hx hy  c0 c1 c2 c3⟩) (zFo_v zTy_i) hJ.k (fun _ _ => rfl) (fun K hK h6 h39 h115 => ⟨_, _, (fun w => sp_cellR_2 (d := d + 9) hJ.b hx hy h6.1 h6.2.1 c0 (by omega) hf), zTy_i, zup_or (by decide), rSc_z, fun _ => Or.inr ⟨zup_i, zq_i (by rw [zb_f c2]; unfold zmark; exact if_neg hf)⟩⟩)
  by_cases c4 : y = 2
  · by_cases hf : zfree M zn1 x
    · exact zst_r hJ hn (fun w => ⟨_, sp_cellP_4 (d := d + 9) hI hx hy  c0 c1 c2 c3 c4⟩) (zFo_v zTy_i) hJ.k (fun _ _ => rfl) (fun K hK h6 h39 h115 => ⟨_, _, (fun w => sp_cellR_3 (d := d + 9) hJ.b hx hy h6.1 h6.2.1 c0 (by omega) (fun e => e hf)), zTy_i, zup_or (by decide), rSc_z, fun _ => Or.inr ⟨zup_i, zq_i (by unfold rce zcst; rw [if_neg c2, if_neg c3, if_pos c4, if_pos hf])⟩⟩)
    · exact zst_r hJ hn (fun w => ⟨_, sp_cellP_4 (d := d + 9) hI hx hy  c0 c1 c2 c3 c4⟩) (zFo_v zTy_i) hJ.k (fun _ _ => rfl) (fun K hK h6 h39 h115 => ⟨_, _, (fun w => sp_cellR_2 (d := d + 9) hJ.b hx hy h6.1 h6.2.1 c0 (by omega) hf), zTy_i, zup_or (by decide), rSc_z, fun _ => Or.inr ⟨zup_i, zq_i (by rw [zb_f c2]; unfold zcst; exact if_neg hf)⟩⟩)
  by_cases hf : zfree M zn1 x
  · exact zst_r hJ hn (fun w => ⟨_, sp_cellP_5 (d := d + 9) hI hx hy  c0 c1 c2 c3 c4⟩) (zFo_v zTy_i) hJ.k (fun _ _ => rfl) (fun K hK h6 h39 h115 => ⟨_, _, (fun w => sp_cellR_3 (d := d + 9) hJ.b hx hy h6.1 h6.2.1 c0 (by omega) (fun e => e hf)), zTy_i, zup_or (by decide), rSc_z, fun _ => Or.inr ⟨zup_i, zq_i (by unfold rce; rw [if_neg c2, if_neg c3, if_neg c4])⟩⟩)
  · exact zst_r hJ hn (fun w => ⟨_, sp_cellP_5 (d := d + 9) hI hx hy  c0 c1 c2 c3 c4⟩) (zFo_v zTy_i) hJ.k (fun _ _ => rfl) (fun K hK h6 h39 h115 => ⟨_, _, (fun w => sp_cellR_2 (d := d + 9) hJ.b hx hy h6.1 h6.2.1 c0 (by omega) hf), zTy_i, zup_or (by decide), rSc_z, fun _ => Or.inr ⟨zup_i, zq_i (by rw [zb_f c2]; exact zwall_ex hJ.b (by omega) hf)⟩⟩)
theorem zj_motion {xs : List Int32} {d : Nat} {n : Int} {M : zM} (hJ : zJo n M) (hn : n + 1 ≤ 600) {x y v : Int} (hx : zr32 x) (hy : zr32 y) (hv : zr32 v) : zStep xs (d + 12) (d + 13) 82 [.ref 0, .int (Int32.ofInt x), .int (Int32.ofInt y), .int (Int32.ofInt v)] 170 [.ref 115, .int (Int32.ofInt x), .int (Int32.ofInt y), .int (Int32.ofInt v)] [(2, 1), (0, 2)] 0 True n M := by
  have hI := hJ.k.ci
  by_cases c0 : ¬ (0 ≤ x ∧ x < zsz M zn1)
  · exact zst_r hJ hn (fun w => ⟨_, sp_motionP_0 (d := d + 9) hI hx hy hv  c0⟩) (zFo_e (by decide)) hJ.k (fun _ _ => rfl) (fun K hK h6 h39 h115 => ⟨_, _, (fun w => sp_motionR_0 (d := d + 8) hJ.b hx hy hv h6.1 (Or.inl c0)), zTy_i, zup_or (by decide), rSc_z, fun _ => Or.inl ⟨_, 1, rfl, by decide, zup_i⟩⟩)
  by_cases c1 : ¬ (0 ≤ y ∧ y < zsz M zn1)
  · exact zst_r hJ hn (fun w => ⟨_, sp_motionP_1 (d := d + 9) hI hx hy hv  c0 c1⟩) (zFo_e (by decide)) hJ.k (fun _ _ => rfl) (fun K hK h6 h39 h115 => ⟨_, _, (fun w => sp_motionR_0 (d := d + 8) hJ.b hx hy hv h6.1 (Or.inr c1)), zTy_i, zup_or (by decide), rSc_z, fun _ => Or.inl ⟨_, 1, rfl, by decide, zup_i⟩⟩)
  by_cases c2 : ¬ (0 ≤ v ∧ v < 4)
  · exact zst_r hJ hn (fun w => ⟨_, sp_motionP_2 (d := d + 9) hI hx hy hv  c0 c1 c2⟩) (zFo_e (by decide)) hJ.k (fun _ _ => rfl) (fun K hK h6 h39 h115 => ⟨_, _, (fun w => sp_motionR_1 (d := d + 8) hJ.b hx hy hv h6.1 (by omega) c2), zTy_i, zup_or (by decide), rSc_z, fun _ => Or.inl ⟨_, 2, rfl, by decide, zup_i⟩⟩)
  by_cases c3 : ¬ (zfree M zn1 x ∧ zfree M zn1 y)
  · exact zst_r hJ hn (fun w => ⟨_, sp_motionP_3 (d := d + 9) hI hx hy hv  c0 c1 c2 c3⟩) (zFo_v zTy_i) hJ.k (fun _ _ => rfl) (fun K hK h6 h39 h115 => ⟨_, _, (fun w => sp_motionR_2 (d := d + 8) hJ.b hx hy hv h6.1 (by omega) c2 c3), zTy_i, zup_or (by decide), rSc_z, fun _ => Or.inr ⟨zup_i, zq_i rfl⟩⟩)
  exact zst_r hJ hn (fun w => ⟨_, sp_motionP_4 (d := d + 9) hI hx hy hv  c0 c1 c2 c3⟩) (zFo_v zTy_i) hJ.k (fun _ _ => rfl) (fun K hK h6 h39 h115 => ⟨_, _, (fun w => sp_motionR_3 (d := d + 8) hJ.b hx hy hv h6.1 (by omega) c2 c3), zTy_i, zup_or (by decide), rSc_z, fun _ => Or.inr ⟨zup_i, zq_i (zmo_rwb h6)⟩⟩)
theorem zj_ranked {xs : List Int32} {d : Nat} {n : Int} {M : zM} (hJ : zJo n M) (hn : n + 1 ≤ 600) {x : Int} (hx : zr32 x) : zStep xs (d + 12) (d + 13) 89 [.ref 0, .int (Int32.ofInt x)] 179 [.ref 115, .int (Int32.ofInt x)] [(2, 1)] 0 True n M := by
  have hI := hJ.k.ci
  by_cases c0 : ¬ (0 ≤ x ∧ x < zsz M zn1)
  · exact zst_r hJ hn (fun w => ⟨_, sp_rankedP_0 (d := d + 9) hI hx  c0⟩) (zFo_e (by decide)) hJ.k (fun _ _ => rfl) (fun K hK h6 h39 h115 => ⟨_, _, (fun w => sp_rankedR_0 (d := d + 9) hJ.b hx h6.1 h6.2.2.2.1 c0), zTy_i, zup_or (by decide), rSc_z, fun _ => Or.inl ⟨_, 1, rfl, by decide, zup_i⟩⟩)
  exact zst_r hJ hn (fun w => ⟨_, sp_rankedP_1 (d := d + 9) hI hx  c0⟩) (zFo_v zTy_i) (zki_rank hJ.k) (fun q hq => zrkM_o (by omega) (by omega)) (fun K hK h6 h39 h115 => ⟨_, _, (fun w => sp_rankedR_1 (d := d + 9) hJ.b hx h6.1 h6.2.2.2.1 c0), zTy_i, zup_or (by decide), rSc_z, fun _ => Or.inr ⟨zup_i, zq_i rfl⟩⟩)
theorem zj_core {xs : List Int32} {d : Nat} {n : Int} {M : zM} (hJ : zJo n M) (hn : n + 1 ≤ 600) {x : Int} (hx : zr32 x) : zStep xs (d + 12) (d + 13) 90 [.ref 0, .int (Int32.ofInt x)] 180 [.ref 115, .int (Int32.ofInt x)] [(0, 1)] 0 True n M := by
  have hI := hJ.k.ci
  by_cases c0 : ¬ (1 ≤ x ∧ x ≤ 100)
  · exact zst_r hJ hn (fun w => ⟨_, sp_coreP_0 (d := d + 9) hI hx  c0⟩) (zFo_e (by decide)) hJ.k (fun _ _ => rfl) (fun K hK h6 h39 h115 => ⟨_, _, (fun w => sp_coreR_0 (d := d + 9) hJ.b hx h6.1 h6.2.2.2.1 c0), zTy_i, zup_or (by decide), rSc_z, fun _ => Or.inl ⟨_, 1, rfl, by decide, zup_i⟩⟩)
  exact zst_r hJ hn (fun w => ⟨_, sp_coreP_1 (d := d + 9) hI hx  c0⟩) (zFo_v zTy_i) (zki_rank hJ.k) (fun q hq => zrkM_o (by omega) (by omega)) (fun K hK h6 h39 h115 => ⟨_, _, (fun w => sp_coreR_1 (d := d + 9) hJ.b hx h6.1 h6.2.2.2.1 c0), zTy_i, zup_or (by decide), rSc_z, fun _ => Or.inr ⟨zup_i, zq_i rfl⟩⟩)
theorem zj_doubtBits {xs : List Int32} {d : Nat} {n : Int} {M : zM} (hJ : zJo n M) (hn : n + 1 ≤ 600) : zStep xs (d + 13) (d + 13) 91 [.ref 0] 181 [.ref 115] [] 1 False n M := by
  have hI := hJ.k.ci
  exact zst_r hJ hn (fun w => ⟨_, sp_doubtBitsP (d := d + 11) hI   ⟩) (zFo_v zTy_j) hJ.k (fun _ _ => rfl) (fun K hK h6 h39 h115 => ⟨_, _, (fun w => sp_doubtBitsR (d := d + 10) hJ.b  h6.1 h6.2.2.2.1 ), zTy_j, zup_or (by decide), rSc_z, fun h => h.elim⟩)
theorem zj_shareBits {xs : List Int32} {d : Nat} {n : Int} {M : zM} (hJ : zJo n M) (hn : n + 1 ≤ 600) : zStep xs (d + 13) (d + 13) 92 [.ref 0] 182 [.ref 115] [] 0 False n M := by
  have hI := hJ.k.ci
  exact zst_r hJ hn (fun w => ⟨_, sp_shareBitsP (d := d + 10) hI   ⟩) (zFo_v zTy_i) hJ.k (fun _ _ => rfl) (fun K hK h6 h39 h115 => ⟨_, _, (fun w => sp_shareBitsR (d := d + 10) hJ.b  h6.1 h6.2.2.2.1 ), zTy_i, zup_or (by decide), rSc_z, fun h => h.elim⟩)
theorem zpr_o {M : zM} {q : Nat} (h1 : q ≠ 102) (h2 : q ≠ 103) (h3 : q ≠ 104) : ∀ n, (zpr M n).1 q = M q
  | 0 => rfl
  | n + 1 => by
    rw [zpr_1, zpo_o h1 h2 h3]
    exact zpr_o h1 h2 h3 n
theorem rEp.sc {K M : zM} (h : rEp K M) : rSc K M := ⟨fun q a b => h q (by omega) (by omega) (by omega), fun j _ => by rw [h 115 (by decide) (by decide) (by decide)]⟩
theorem zpo_rpo {X M : zM} (h : zE9 X M zn1) {e : Int} : zpo X zn1 e = rpo M e 4 := by
  have hY := zE9_mv (M := X) (e := e) hzn1
  have hs : zsz (zmvM X zn1 e 104) zn1 = zsz M zn1 := (zsz_c hY.e2).trans (zsz_c h.e2)
  unfold zpo zpm rpo
  refine congrArg (fun F => zsum F 4) ?_
  funext k
  show zgr (zsgF (zmvM X zn1 e 104) zn1 104 (k : Int)) (zsz (zmvM X zn1 e 104) zn1).toNat = zgr (rpF M e (k : Int)) (zsz M zn1).toNat
  rw [hs]
  refine zgr_c _ (fun j hj => ?_)
  unfold zsgF rpF
  have hf : zfreeN (zmvM X zn1 e 104) zn1 j = zfreeN M zn1 j := by rw [zfreeN_c hY.e2, zfreeN_c h.e2]
  have hm : zmark (zmvM X zn1 e 104) zn1 j = zmark M zn1 j := by rw [zmark_c hY.e2, zmark_c h.e2]
  have h7 : zmvM X zn1 e 104 (zn1 + 7) = M (zn1 + 7) := hY.2.2.2.2.2.1.trans h.2.2.2.2.2.1
  have hv : zmvM X zn1 e 104 104 j = (zsc (zmw M zn1 e) (zsz M zn1).toNat).1 j := by
    unfold zmvM
    rw [zscM_q (by decide) (by rw [zsz_c h.e2]; exact hj), zmwM_w, zsz_c h.e2]
    exact zsc_c (fun i hi => zmw_w hzn1 h hi) j hj
  rw [hf, hm, h7, hv]
theorem zE9_po {X M : zM} {e : Int} (h : zE9 X M zn1) : zE9 (zpoM X zn1 e) M zn1 := ⟨(zpo_o (by decide) (by decide) (by decide)).trans h.1, (zpo_o (by decide) (by decide) (by decide)).trans h.2.1, (zpo_o (by decide) (by decide) (by decide)).trans h.2.2.1, (zpo_o (by decide) (by decide) (by decide)).trans h.2.2.2.1, (zpo_o (by decide) (by decide) (by decide)).trans h.2.2.2.2.1, (zpo_o (by decide) (by decide) (by decide)).trans h.2.2.2.2.2.1, (zpo_o (by decide) (by decide) (by decide)).trans h.2.2.2.2.2.2⟩
theorem zpr_rPV {M : zM} : ∀ n, zE9 (zpr M n).1 M zn1 ∧ (zpr M n).2 = rPV M n
  | 0 => ⟨⟨rfl, rfl, rfl, rfl, rfl, rfl, rfl⟩, rfl⟩
  | n + 1 => by
    obtain ⟨h1, h2⟩ := zpr_rPV n
    refine ⟨by rw [zpr_1]; exact zE9_po h1, ?_⟩
    have e1 : zpr M (n + 1) = (if (zpr M n).2.2 < zpo (zpr M n).1 zn1 (n : Int) then (zpoM (zpr M n).1 zn1 (n : Int), (n : Int), zpo (zpr M n).1 zn1 (n : Int)) else (zpoM (zpr M n).1 zn1 (n : Int), (zpr M n).2.1, (zpr M n).2.2)) := by
      conv => (lhs; unfold zpr)
    have e2 : rPV M (n + 1) = (if (rPV M n).2 < rpo M (n : Int) 4 then ((n : Int), rpo M (n : Int) 4) else rPV M n) := by
      conv => (lhs; unfold rPV)
    rw [e1, e2, ← h2, zpo_rpo h1]
    by_cases hc : (zpr M n).2.2 < rpo M (n : Int) 4
    · rw [if_pos hc, if_pos hc]
    · rw [if_neg hc, if_neg hc]
theorem zj_promising {xs : List Int32} {d : Nat} {n : Int} {M : zM} (hJ : zJo n M) (hn : n + 1 ≤ 600) : zStep xs (d + 13) (d + 13) 93 [.ref 0] 184 [.ref 115] [] 0 True n M := by
  have hI := hJ.k.ci
  exact zst_r hJ hn (fun w => ⟨_, sp_promisingP (d := d + 5) hI   ⟩) (zFo_v zTy_i) (zki_prom hJ.k) (fun q hq => zpr_o (by omega) (by omega) (by omega) 4) (fun K hK h6 h39 h115 => ⟨_, _, (fun w => sp_promisingR (d := d + 3) hJ.b  h6.1 h6.2.2.2.1 h6.2.2.1 ), zTy_i, (rPM_E 4 137 (by decide) (by decide) (by decide)).trans (zup_or (by decide)), (rSc_tr (rPM_E 4).sc rSc_z), fun _ => Or.inr ⟨((congrFun (rPM_E 4 115 (by decide) (by decide) (by decide)) 0).trans zup_i), zq_i (congrArg Prod.fst (zpr_rPV 4).2)⟩⟩)
theorem zj_exact {xs : List Int32} {d : Nat} {n : Int} {M : zM} (hJ : zJo n M) (hn : n + 1 ≤ 600) {x : Int} (hx : zr32 x) : zStep xs (d + 12) (d + 13) 96 [.ref 0, .int (Int32.ofInt x)] 190 [.ref 115, .int (Int32.ofInt x)] [(2, 1), (1, 2)] 1 True n M := by
  have hI := hJ.k.ci
  obtain ⟨hda, hze, hee, hW, hR, hB⟩ := zpathX hJ.k
  have h4 := zK4 hJ
  by_cases c0 : ¬ (0 ≤ x ∧ x < zsz M zn1)
  · exact zst_r hJ hn (fun w => ⟨_, sp_exactP_0 (d := d + 6) hI hx hda hze c0⟩) (zFo_e (by decide)) hJ.k (fun _ _ => rfl) (fun K hK h6 h39 h115 => ⟨_, _, (fun w => sp_exactR_0 (d := d + 6) hJ.b hx h6.1 h6.2.2.2.2.2 (by omega) c0), zTy_j, zup_or (by decide), rSc_z, fun _ => Or.inl ⟨_, 1, rfl, by decide, zup_i⟩⟩)
  by_cases c1 : ¬ ztot M zn1 ≤ 8
  · exact zst_r hJ hn (fun w => ⟨_, sp_exactP_1 (d := d + 6) hI hx hda hze c0 c1⟩) (zFo_e (by decide)) hJ.k (fun _ _ => rfl) (fun K hK h6 h39 h115 => ⟨_, _, (fun w => sp_exactR_1 (d := d + 6) hJ.b hx h6.1 h6.2.2.2.2.2 (by omega) c0 (by omega)), zTy_j, zup_or (by decide), rSc_z, fun _ => Or.inl ⟨_, 2, rfl, by decide, zup_i⟩⟩)
  exact zst_r hJ hn (fun w => ⟨_, sp_exactP_2 (d := d + 6) hI hx hda hze c0 c1⟩) (zFo_v zTy_j) (zki_ends hJ.k) (fun q hq => zwe_o (by omega) (by omega) _) (fun K hK h6 h39 h115 => ⟨_, _, (fun w => sp_exactR_2 (d := d + 6) hJ.b hx h6.1 h6.2.2.2.2.2 (by omega) c0 (by omega)), zTy_j, (rxM_o (by decide) (by decide) _).trans (zup_or (by decide)), ⟨fun q a b => (rxM_o (by omega) (by omega) _).trans (zup_or a), fun j a => by rw [rxM_o (by decide) (by decide), zup_ne (by omega)]⟩, fun _ => Or.inr ⟨(by rw [rxM_o (by decide) (by decide)]; exact zup_i), zq_j (by have h8 : ztot M zn1 ≤ 8 := Classical.not_not.mp c1; have h0 := hJ.b.t0; have h9 := ((rxE_w hJ.b h8 (ztot M zn1).toNat (by omega)).1 x.toNat (by omega)).symm; unfold zweM; rw [show zmi (ztot M zn1) 8 = ztot M zn1 from if_pos h8]; exact h9)⟩⟩)
theorem zj_likely {xs : List Int32} {d : Nat} {n : Int} {M : zM} (hJ : zJo n M) (hn : n + 1 ≤ 600) : zStep xs (d + 12) (d + 13) 97 [.ref 0] 191 [.ref 115] [(1, 1)] 0 True n M := by
  have hI := hJ.k.ci
  obtain ⟨hda, hze, hee, hW, hR, hB⟩ := zpathX hJ.k
  have h4 := zK4 hJ
  by_cases c0 : ¬ ztot M zn1 ≤ 8
  · exact zst_r hJ hn (fun w => ⟨_, sp_likelyP_0 (d := d + 6) hI  hda hze hee c0⟩) (zFo_e (by decide)) hJ.k (fun _ _ => rfl) (fun K hK h6 h39 h115 => ⟨_, _, (fun w => sp_likelyR_0 (d := d + 6) hJ.b  h6.1 h6.2.2.2.2.2 (by omega) (by omega)), zTy_i, zup_or (by decide), rSc_z, fun _ => Or.inl ⟨_, 1, rfl, by decide, zup_i⟩⟩)
  exact zst_r hJ hn (fun w => ⟨_, sp_likelyP_1 (d := d + 6) hI  hda hze hee c0⟩) (zFo_v zTy_i) (zki_ends hJ.k) (fun q hq => zwe_o (by omega) (by omega) _) (fun K hK h6 h39 h115 => ⟨_, _, (fun w => sp_likelyR_1 (d := d + 6) hJ.b  h6.1 h6.2.2.2.2.2 (by omega) (by omega)), zTy_i, (rxM_o (by decide) (by decide) _).trans (zup_or (by decide)), ⟨fun q a b => (rxM_o (by omega) (by omega) _).trans (zup_or a), fun j a => by rw [rxM_o (by decide) (by decide), zup_ne (by omega)]⟩, fun _ => Or.inr ⟨(by rw [rxM_o (by decide) (by decide)]; exact zup_i), zq_i (by have h8 : ztot M zn1 ≤ 8 := Classical.not_not.mp c0; have h0 := hJ.b.t0; have g := hJ.b.g.sz; have hz : zsz M zn1 = M (zn1 + 1) 0 * M (zn1 + 1) 1 := rfl; refine congrArg (fun k : Nat => (k : Int)) (zbest_c (by omega) (fun j hj => ?_)); have h9 := ((rxE_w hJ.b h8 (ztot M zn1).toNat (by omega)).1 j hj).symm; unfold zweM; rw [show zmi (ztot M zn1) 8 = ztot M zn1 from if_pos h8]; exact h9)⟩⟩)
theorem zfbq {M : zM} {q : Nat} (a : q ≠ 111) (b : q ≠ 112) : zfbM (zRM M zn1) zn1 (zmi (ztot M zn1) 8) q = M q := by
  unfold zfbM
  funext j
  rw [ztab_o b]
  unfold zRM
  rw [zwrM_o a]
theorem rpqq_o {C M : zM} {q : Nat} {i j : Nat} (h1 : ¬ q = 132) (h2 : ¬ q = 133) : rpM C (raM C M i) j q = M q := by
  unfold rpM
  rw [ztab_or h2, raM_o h1]
theorem zj_path {xs : List Int32} {d : Nat} {n : Int} {M : zM} (hJ : zJo n M) (hn : n + 1 ≤ 600) {x : Int} (hx : zr32 x) : zStep xs (d + 12) (d + 13) 98 [.ref 0, .int (Int32.ofInt x)] 194 [.ref 115, .int (Int32.ofInt x)] [(1, 1), (2, 2)] 0 False n M := by
  have hI := hJ.k.ci
  obtain ⟨hda, hze, hee, hW, hR, hB⟩ := zpathX hJ.k
  have h4 := zK4 hJ
  by_cases c0 : ¬ ztot M zn1 ≤ 8
  · exact zst_r hJ hn (fun w => ⟨_, sp_pathP_0 (d := d + 3) hI hx hda hW hR hB c0⟩) (zFo_e (by decide)) hJ.k (fun _ _ => rfl) (fun K hK h6 h39 h115 => ⟨_, _, (fun w => sp_pathR_0 (d := d + 5) hJ.b hx h6.1 h6.2.2.2.2.2 (by omega) (by omega)), zTy_i, zup_or (by decide), rSc_z, fun _ => Or.inl ⟨_, 1, rfl, by decide, zup_i⟩⟩)
  by_cases c1 : ¬ (0 ≤ x ∧ x ≤ ztot M zn1)
  · exact zst_r hJ hn (fun w => ⟨_, sp_pathP_1 (d := d + 3) hI hx hda hW hR hB c0 c1⟩) (zFo_e (by decide)) hJ.k (fun _ _ => rfl) (fun K hK h6 h39 h115 => ⟨_, _, (fun w => sp_pathR_1 (d := d + 5) hJ.b hx h6.1 h6.2.2.2.2.2 (by omega) (by omega) c1), zTy_i, zup_or (by decide), rSc_z, fun _ => Or.inl ⟨_, 2, rfl, by decide, zup_i⟩⟩)
  exact zst_r hJ hn (fun w => ⟨_, sp_pathP_2 (d := d + 3) hI hx hda hW hR hB c0 c1⟩) (zFo_v zTy_i) (zki_path hJ.k) (fun q hq => zfbq (by omega) (by omega)) (fun K hK h6 h39 h115 => ⟨_, _, (fun w => sp_pathR_2 (d := d + 5) hJ.b hx h6.1 h6.2.2.2.2.2 (by omega) (by omega) c1), zTy_i, (rpqq_o (by decide) (by decide)).trans (zup_or (by decide)), ⟨fun q a b => (rpqq_o (by omega) (by omega)).trans (zup_or a), fun j a => by rw [rpqq_o (by decide) (by decide), zup_ne (by omega)]⟩, fun h => h.elim⟩)
theorem zsum_nz {F : zF} : ∀ n, zsum F n ≠ 0 → ∃ k, k < n ∧ F k ≠ 0
  | 0, h => absurd rfl h
  | n + 1, h => by
    by_cases h1 : F n = 0
    · obtain ⟨k, hk, e⟩ := zsum_nz (F := F) n (fun e => h (by show zsum F n + F n = 0; omega))
      exact ⟨k, by omega, e⟩
    · exact ⟨n, by omega, h1⟩
theorem zfac_nz {M : zM} {i f t : Int} (h : zfac M zn1 i f t ≠ 0) : ∃ y : Nat, y < 4 ∧ ztgo M zn1 i f (y : Int) = t := by
  unfold zfac at h
  unfold ztgo
  by_cases c : M (zn1 + 9) i.toNat < 10
  · rw [if_pos c] at h
    obtain ⟨y, hy, e⟩ := zsum_nz 4 h
    unfold zfcF at e
    refine ⟨y, hy, ?_⟩
    rw [if_pos c]
    exact Classical.byContradiction (fun e2 => e (if_neg e2))
  · rw [if_neg c] at h
    refine ⟨0, by decide, ?_⟩
    rw [if_neg c]
    exact Classical.byContradiction (fun e2 => h (if_neg e2))
theorem ztgo_fr {n : Int} {M : zM} (hB : zBI n M zn1) {i f y : Int} (hi : 0 ≤ i ∧ i < zmi (ztot M zn1) 8) (hf : zfree M zn1 f) : zfree M zn1 (ztgo M zn1 i f y) := by
  have hm := zmi8 hB.t0
  unfold ztgo
  split
  · next c =>
    have h1 := hB.da i hi.1 hi.2 c
    have h2 := hB.b4.1.2.2.2.1 i.toNat (by omega)
    rcases (ztg_n hB.b1 (c := f) (e := M (zn1 + 9) i.toNat) y ⟨hf.1, hf.2.1⟩ ⟨h2.1, h1⟩).2 with e | e
    · rw [e]; exact hf
    · exact e.2
  · exact hf
theorem zgr_nn {F : zF} (n : Nat) : 0 ≤ zgr F n := by
  rcases zgr_at (F := F) n with h | ⟨_, _, _, h⟩ <;> omega
/-- the class's rows of rests are the reference's, over free cells -/
theorem zrow_w {n : Int} {M : zM} (hB : zBI n M zn1) (h8 : ztot M zn1 ≤ 8) : ∀ j : Nat, (j : Int) ≤ ztot M zn1 → ∀ c : Nat, zfreeN M zn1 c → zwrM M zn1 (ztot M zn1) j 111 (((ztot M zn1 - (j : Int)) * 36).toNat + c) = rahF M j c
  | 0, _, c, hc => by
    have hs : c < (zsz M zn1).toNat := by have := hc.2.1; unfold zsz; omega
    unfold zwrM
    rw [show ztot M zn1 - ((0 : Nat) : Int) = ztot M zn1 by omega, ztao_i hs]
    exact zb_t hc
  | j + 1, hj, c, hc => by
    have hs : c < (zsz M zn1).toNat := by have := hc.2.1; unfold zsz; omega
    have ih := zrow_w hB h8 j (by omega)
    have hE : zE5 (zwrM M zn1 (ztot M zn1) j) M zn1 := fun q hq => zwrM_o (by omega) j
    have hm : zmi (ztot M zn1) 8 = ztot M zn1 := if_pos h8
    unfold zwrM
    rw [show ztot M zn1 - ((j + 1 : Nat) : Int) = ztot M zn1 - 1 - (j : Int) by omega, ztao_i hs]
    have hrah : rahF M (j + 1) c = zgr (rahG M (ztot M zn1 - 1 - (j : Int)) (c : Int) (rahF M j)) (zsz M zn1).toNat := if_pos hc
    have hfr : ∀ y : Int, zfree M zn1 (ztgo M zn1 (ztot M zn1 - 1 - (j : Int)) (c : Int) y) := fun y => ztgo_fr hB (by rw [hm]; omega) hc
    have hv : ∀ y : Nat, zro (zwrM M zn1 (ztot M zn1) j) zn1 (ztot M zn1 - 1 - (j : Int)) (c : Int) (ztgo (zwrM M zn1 (ztot M zn1) j) zn1 (ztot M zn1 - 1 - (j : Int)) (c : Int) (y : Int)) = rahG M (ztot M zn1 - 1 - (j : Int)) (c : Int) (rahF M j) (ztgo M zn1 (ztot M zn1 - 1 - (j : Int)) (c : Int) (y : Int)).toNat := by
      intro y
      have hf := hfr (y : Int)
      rw [ztgo_c hzn1 hE]
      generalize ztgo M zn1 (ztot M zn1 - 1 - (j : Int)) (c : Int) (y : Int) = t at hf
      have hf0 := hf.1
      have hfN := (zfreeN_i hf0).mpr hf
      unfold zro
      rw [zfac_c hzn1 hE]
      have hi := ih t.toNat hfN
      rw [show ((ztot M zn1 - (j : Int)) * 36).toNat + t.toNat = ((ztot M zn1 - 1 - (j : Int) + 1) * 36 + t).toNat by omega] at hi
      rw [hi]
      unfold rahG
      rw [if_pos hfN, Int.toNat_of_nonneg hf0]
    rw [hrah]
    unfold zwl
    apply Int.le_antisymm
    · rcases zgr_at (F := fun y => zro (zwrM M zn1 (ztot M zn1) j) zn1 (ztot M zn1 - 1 - (j : Int)) (c : Int) (ztgo (zwrM M zn1 (ztot M zn1) j) zn1 (ztot M zn1 - 1 - (j : Int)) (c : Int) (y : Int))) 4 with h0 | ⟨y, hy, e, _⟩
      · rw [h0]
        exact zgr_nn _
      · rw [← e]
        have hf := hfr (y : Int)
        have := hf.1
        have := hf.2.1
        rw [hv y]
        exact zgr_ge _ _ (by unfold zsz; omega)
    · rcases zgr_at (F := rahG M (ztot M zn1 - 1 - (j : Int)) (c : Int) (rahF M j)) (zsz M zn1).toNat with h0 | ⟨t, ht, e, hp⟩
      · rw [h0]
        exact zgr_nn _
      · rw [← e]
        have ft : zfreeN M zn1 t := Classical.byContradiction (fun h => by
          unfold rahG at hp
          rw [if_neg h] at hp
          omega)
        have hz : zfac M zn1 (ztot M zn1 - 1 - (j : Int)) (c : Int) (t : Int) ≠ 0 := fun h => by
          unfold rahG at hp
          rw [if_pos ft, h, Int.zero_mul] at hp
          omega
        obtain ⟨y, hy, e2⟩ := zfac_nz hz
        have h3 := hv y
        rw [e2, Int.toNat_natCast] at h3
        rw [← h3]
        exact zgr_ge (F := fun y => zro (zwrM M zn1 (ztot M zn1) j) zn1 (ztot M zn1 - 1 - (j : Int)) (c : Int) (ztgo (zwrM M zn1 (ztot M zn1) j) zn1 (ztot M zn1 - 1 - (j : Int)) (c : Int) (y : Int))) 4 y hy
theorem zbbf_p {R : zF} {P : Nat → Prop} : ∀ n, (zbbf R P n = -1 ∧ ∀ j, j < n → ¬ P j) ∨ (0 ≤ zbbf R P n ∧ P (zbbf R P n).toNat ∧ (zbbf R P n).toNat < n ∧ ∀ j, j < n → P j → R j ≤ R (zbbf R P n).toNat)
  | 0 => Or.inl ⟨rfl, fun j h => by omega⟩
  | n + 1 => by
    have ih := zbbf_p (R := R) (P := P) n
    by_cases c : P n ∧ (zbbf R P n < 0 ∨ R (zbbf R P n).toNat < R n)
    · have e : zbbf R P (n + 1) = (n : Int) := if_pos c
      rw [e, Int.toNat_natCast]
      refine Or.inr ⟨by omega, c.1, by omega, fun j hj hp => ?_⟩
      by_cases hj2 : j = n
      · subst hj2
        exact Int.le_refl _
      · rcases ih with ⟨h1, h2⟩ | ⟨h1, h2, h3, h4⟩
        · exact absurd hp (h2 j (by omega))
        · have h5 := h4 j (by omega) hp
          rcases c.2 with c2 | c2 <;> omega
    · have e : zbbf R P (n + 1) = zbbf R P n := if_neg c
      rw [e]
      rcases ih with ⟨h1, h2⟩ | ⟨h1, h2, h3, h4⟩
      · refine Or.inl ⟨h1, fun j hj hp => ?_⟩
        by_cases hj2 : j = n
        · subst hj2
          exact c ⟨hp, Or.inl (by omega)⟩
        · exact h2 j (by omega) hp
      · refine Or.inr ⟨h1, h2, by omega, fun j hj hp => ?_⟩
        by_cases hj2 : j = n
        · subst hj2
          by_cases c2 : R (zbbf R P j).toNat < R j
          · exact absurd ⟨hp, Or.inr c2⟩ c
          · omega
        · exact h4 j (by omega) hp
theorem rpbF_p {C : zM} {R : zF} : ∀ n, ∀ j, j < n → zfreeN C zn1 j → R j ≤ R (rpbF C R n).toNat
  | 0, _, hj, _ => by omega
  | n + 1, j, hj, hf => by
    by_cases c : zfreeN C zn1 n ∧ R (rpbF C R n).toNat < R n
    · have e : rpbF C R (n + 1) = (n : Int) := if_pos c
      rw [e, Int.toNat_natCast]
      by_cases hj2 : j = n
      · subst hj2
        exact Int.le_refl _
      · have h1 := rpbF_p (R := R) n j (by omega) hf
        omega
    · have e : rpbF C R (n + 1) = rpbF C R n := if_neg c
      rw [e]
      by_cases hj2 : j = n
      · subst hj2
        by_cases c2 : R (rpbF C R j).toNat < R j
        · exact absurd ⟨hf, c2⟩ c
        · omega
      · exact rpbF_p n j (by omega) hf
/-- the greatest weight of both -/
theorem zwg_rah {n : Int} {M : zM} (h : zKI n M) (h8 : ztot M zn1 ≤ 8) : zwg (zRM M zn1) zn1 = rahF M (ztot M zn1).toNat (rpz M 0).toNat := by
  have hB := h.b
  have ht0 := hB.t0
  have hm : zmi (ztot M zn1) 8 = ztot M zn1 := if_pos h8
  have hE : zE5 (zRM M zn1) M zn1 := fun q hq => zwrM_o (by omega) _
  have hr : ∀ c : Nat, zfreeN M zn1 c → zRM M zn1 111 c = rahF M (ztot M zn1).toNat c := fun c hc => by
    have h1 := zrow_w hB h8 (ztot M zn1).toNat (by omega) c hc
    rw [show ((ztot M zn1 - ((ztot M zn1).toNat : Int)) * 36).toNat + c = c by omega] at h1
    unfold zRM
    rw [hm]
    exact h1
  have hP : zmbN (zRM M zn1) zn1 = zmbN M zn1 := by
    funext j
    exact propext (zmb_c (hE.e2 hzn1) (hE _ (by decide)))
  have hs : zsz (zRM M zn1) zn1 = zsz M zn1 := zsz_c (hE.e2 hzn1)
  have hz := zbbf_p (R := zRM M zn1 111) (P := zmbN M zn1) (zsz M zn1).toNat
  have hrp : zfree M zn1 (rpb M) := rpb_f hB
  have hrp0 := hrp.1
  have hrp1 : rpb M < zsz M zn1 := hrp.2.1
  have hst : M (zn1 + 8) 0 = -1 ∨ M (zn1 + 8) 0 = rpb M := by
    by_cases c : M (zn1 + 8) 0 < 0
    · rcases hB.b4.2.2.2 with e | e
      · exact Or.inl e
      · have := e.1
        omega
    · refine Or.inr ?_
      unfold rpb
      rw [if_neg c]
  have hmb : zmbN M zn1 (rpb M).toNat := (zmbN_i hrp0).mpr ⟨hrp, hst⟩
  unfold zwg zbb
  rw [hP, hs]
  show zRM M zn1 111 (zmx (zbbf (zRM M zn1 111) (zmbN M zn1) (zsz M zn1).toNat) 0).toNat = rahF M (ztot M zn1).toNat (rpb M).toNat
  rcases hz with ⟨z1, z2⟩ | ⟨z1, z2, z3, z4⟩
  · exact absurd hmb (z2 _ (by omega))
  · generalize zbbf (zRM M zn1 111) (zmbN M zn1) (zsz M zn1).toNat = b at z1 z2 z3 z4 ⊢
    rw [show zmx b 0 = b by unfold zmx; split <;> omega]
    have zf : zfreeN M zn1 b.toNat := z2.1
    have h4 := z4 _ (by omega) hmb
    rw [hr _ ((zfreeN_i hrp0).mpr hrp), hr _ zf] at h4
    rw [hr _ zf]
    refine Int.le_antisymm ?_ h4
    by_cases c : M (zn1 + 8) 0 < 0
    · unfold rpb
      rw [if_pos c]
      exact rpbF_p _ _ z3 zf
    · rcases z2.2 with e | e
      · omega
      · unfold rpb
        rw [if_neg c, e]
        exact Int.le_refl _
theorem zj_pathWeight {xs : List Int32} {d : Nat} {n : Int} {M : zM} (hJ : zJo n M) (hn : n + 1 ≤ 600) : zStep xs (d + 12) (d + 13) 99 [.ref 0] 195 [.ref 115] [(1, 1)] 1 True n M := by
  have hI := hJ.k.ci
  obtain ⟨hda, hze, hee, hW, hR, hB⟩ := zpathX hJ.k
  have h4 := zK4 hJ
  by_cases c0 : ¬ ztot M zn1 ≤ 8
  · exact zst_r hJ hn (fun w => ⟨_, sp_pathWeightP_0 (d := d + 3) hI  hda hW hR hB c0⟩) (zFo_e (by decide)) hJ.k (fun _ _ => rfl) (fun K hK h6 h39 h115 => ⟨_, _, (fun w => sp_pathWeightR_0 (d := d + 5) hJ.b  h6.1 h6.2.2.2.2.2 (by omega) (by omega)), zTy_j, zup_or (by decide), rSc_z, fun _ => Or.inl ⟨_, 1, rfl, by decide, zup_i⟩⟩)
  exact zst_r hJ hn (fun w => ⟨_, sp_pathWeightP_1 (d := d + 3) hI  hda hW hR hB c0⟩) (zFo_v zTy_j) (zki_path hJ.k) (fun q hq => zfbq (by omega) (by omega)) (fun K hK h6 h39 h115 => ⟨_, _, (fun w => sp_pathWeightR_1 (d := d + 5) hJ.b  h6.1 h6.2.2.2.2.2 (by omega) (by omega)), zTy_j, (rpqq_o (by decide) (by decide)).trans (zup_or (by decide)), ⟨fun q a b => (rpqq_o (by omega) (by omega)).trans (zup_or a), fun j a => by rw [rpqq_o (by decide) (by decide), zup_ne (by omega)]⟩, fun _ => Or.inr ⟨(by rw [rpqq_o (by decide) (by decide), zup_i]), zq_j (zwg_rah hJ.k (by omega))⟩⟩)
theorem zfd_rwd {M : zM} {x y : Int} : zfd (zfaM M zn1 y) zn1 x = rwd M y x := by
  unfold zfd rwd
  refine congrArg (fun P => zfirst P 0 0 4) ?_
  funext e
  unfold rdP
  rw [zfaM_vf, zco_c (M := zfaM M zn1 y) (M0 := M) (zfaM_o (by decide)) (zfaM_o (by decide))]
theorem zxc_x {M : zM} {x : Int} : zxc (zfaM M zn1 x) = zsum (rxpF M x) (zsz M zn1).toNat / 1000000 := by
  unfold zxc
  rw [show zsz (zfaM M zn1 x) zn1 = zsz M zn1 from by unfold zsz; rw [zfaM_o (by decide)]]
  refine congrArg (fun F => zsum F (zsz M zn1).toNat / 1000000) ?_
  funext c
  unfold zxF rxpF
  rw [zfaM_vf, zfaM_o (by decide)]
theorem rSc_w {C K : zM} {y k : Int} : rSc (zup (rwyM C K y) 115 0 k) K := ⟨fun q a b => (zup_or a).trans (rwyM_o (by omega)), fun j a => (zup_ne (by omega)).trans (by rw [rwyM_o (by decide)])⟩
theorem rSc_w2 {C K : zM} {y k : Int} : rSc (rwyM C (zup K 115 0 k) y) K := ⟨fun q a b => (rwyM_o (by omega)).trans (zup_or a), fun j a => by rw [rwyM_o (by decide), zup_ne (by omega)]⟩
theorem zj_wayCost {xs : List Int32} {d : Nat} {n : Int} {M : zM} (hJ : zJo n M) (hn : n + 1 ≤ 600) {x y : Int} (hx : zr32 x) (hy : zr32 y) : zStep xs (d + 12) (d + 13) 100 [.ref 0, .int (Int32.ofInt x), .int (Int32.ofInt y)] 198 [.ref 115, .int (Int32.ofInt x), .int (Int32.ofInt y)] [(2, 1), (1, 2), (3, 3)] 0 True n M := by
  have hI := hJ.k.ci
  by_cases c0 : ¬ (0 ≤ x ∧ x < zsz M zn1)
  · exact zst_r hJ hn (fun w => ⟨_, sp_wayCostP_0 (d := d + 6) hI hx hy  c0⟩) (zFo_e (by decide)) hJ.k (fun _ _ => rfl) (fun K hK h6 h39 h115 => ⟨_, _, (fun w => sp_wayCostR_0 (d := d + 8) hJ.b hx hy h6.1 h6.2.1 (Or.inl c0)), zTy_i, zup_or (by decide), rSc_z, fun _ => Or.inl ⟨_, 1, rfl, by decide, zup_i⟩⟩)
  by_cases c1 : ¬ (0 ≤ y ∧ y < zsz M zn1)
  · exact zst_r hJ hn (fun w => ⟨_, sp_wayCostP_1 (d := d + 6) hI hx hy  c0 c1⟩) (zFo_e (by decide)) hJ.k (fun _ _ => rfl) (fun K hK h6 h39 h115 => ⟨_, _, (fun w => sp_wayCostR_0 (d := d + 8) hJ.b hx hy h6.1 h6.2.1 (Or.inr c1)), zTy_i, zup_or (by decide), rSc_z, fun _ => Or.inl ⟨_, 1, rfl, by decide, zup_i⟩⟩)
  by_cases c2 : ¬ zfree M zn1 x
  · exact zst_r hJ hn (fun w => ⟨_, sp_wayCostP_2 (d := d + 6) hI hx hy  c0 c1 c2⟩) (zFo_e (by decide)) hJ.k (fun _ _ => rfl) (fun K hK h6 h39 h115 => ⟨_, _, (fun w => sp_wayCostR_1 (d := d + 8) hJ.b hx hy h6.1 h6.2.1 (by omega) (fun e => c2 e.1)), zTy_i, zup_or (by decide), rSc_z, fun _ => Or.inl ⟨_, 2, rfl, by decide, zup_i⟩⟩)
  by_cases c3 : ¬ zfree M zn1 y
  · exact zst_r hJ hn (fun w => ⟨_, sp_wayCostP_3 (d := d + 6) hI hx hy  c0 c1 c2 c3⟩) (zFo_e (by decide)) hJ.k (fun _ _ => rfl) (fun K hK h6 h39 h115 => ⟨_, _, (fun w => sp_wayCostR_1 (d := d + 8) hJ.b hx hy h6.1 h6.2.1 (by omega) (fun e => c3 e.2)), zTy_i, zup_or (by decide), rSc_z, fun _ => Or.inl ⟨_, 2, rfl, by decide, zup_i⟩⟩)
  by_cases c4 : ¬ zfaM M zn1 y 114 x.toNat < 1000000
  · exact zst_r hJ hn (fun w => ⟨_, sp_wayCostP_4 (d := d + 6) hI hx hy  c0 c1 c2 c3 c4⟩) (zFo_e (by decide)) (zki_ways hJ.k) (fun q hq => zfaM_o (by omega)) (fun K hK h6 h39 h115 => ⟨_, _, (fun w => sp_wayCostR_2 (d := d + 8) hJ.b hx hy h6.1 h6.2.1 (by omega) (fun e => e ⟨Classical.not_not.mp c2, Classical.not_not.mp c3⟩) (by have h9 := (zvf_st hJ.b (t := y) (by omega)).1.1 x.toNat (by omega); have h8 : zfaM M zn1 y 114 = zvf M y := zfaM_vf; rw [h8] at c4; omega)), zTy_i, (zup_or (by decide)).trans (rwyM_o (by decide)), rSc_w, fun _ => Or.inl ⟨_, 3, rfl, by decide, zup_i⟩⟩)
  exact zst_r hJ hn (fun w => ⟨_, sp_wayCostP_5 (d := d + 6) hI hx hy  c0 c1 c2 c3 c4⟩) (zFo_v zTy_i) (zki_ways hJ.k) (fun q hq => zfaM_o (by omega)) (fun K hK h6 h39 h115 => ⟨_, _, (fun w => sp_wayCostR_3 (d := d + 8) hJ.b hx hy h6.1 h6.2.1 (by omega) (fun e => e ⟨Classical.not_not.mp c2, Classical.not_not.mp c3⟩) (by have h9 := (zvf_st hJ.b (t := y) (by omega)).1.1 x.toNat (by omega); have h8 : zfaM M zn1 y 114 = zvf M y := zfaM_vf; rw [h8] at c4; omega)), zTy_i, (zup_or (by decide)).trans (rwyM_o (by decide)), rSc_w, fun _ => Or.inr ⟨zup_i, zq_i (by rw [zfaM_vf])⟩⟩)
theorem zj_wayDirection {xs : List Int32} {d : Nat} {n : Int} {M : zM} (hJ : zJo n M) (hn : n + 1 ≤ 600) {x y : Int} (hx : zr32 x) (hy : zr32 y) : zStep xs (d + 12) (d + 13) 101 [.ref 0, .int (Int32.ofInt x), .int (Int32.ofInt y)] 199 [.ref 115, .int (Int32.ofInt x), .int (Int32.ofInt y)] [(2, 1), (1, 2), (3, 3)] 0 True n M := by
  have hI := hJ.k.ci
  by_cases c0 : ¬ (0 ≤ x ∧ x < zsz M zn1)
  · exact zst_r hJ hn (fun w => ⟨_, sp_wayDirectionP_0 (d := d + 6) hI hx hy  c0⟩) (zFo_e (by decide)) hJ.k (fun _ _ => rfl) (fun K hK h6 h39 h115 => ⟨_, _, (fun w => sp_wayDirectionR_0 (d := d + 7) hJ.b hx hy h6.1 h6.2.1 (Or.inl c0)), zTy_i, zup_or (by decide), rSc_z, fun _ => Or.inl ⟨_, 1, rfl, by decide, zup_i⟩⟩)
  by_cases c1 : ¬ (0 ≤ y ∧ y < zsz M zn1)
  · exact zst_r hJ hn (fun w => ⟨_, sp_wayDirectionP_1 (d := d + 6) hI hx hy  c0 c1⟩) (zFo_e (by decide)) hJ.k (fun _ _ => rfl) (fun K hK h6 h39 h115 => ⟨_, _, (fun w => sp_wayDirectionR_0 (d := d + 7) hJ.b hx hy h6.1 h6.2.1 (Or.inr c1)), zTy_i, zup_or (by decide), rSc_z, fun _ => Or.inl ⟨_, 1, rfl, by decide, zup_i⟩⟩)
  by_cases c2 : ¬ zfree M zn1 x
  · exact zst_r hJ hn (fun w => ⟨_, sp_wayDirectionP_2 (d := d + 6) hI hx hy  c0 c1 c2⟩) (zFo_e (by decide)) hJ.k (fun _ _ => rfl) (fun K hK h6 h39 h115 => ⟨_, _, (fun w => sp_wayDirectionR_1 (d := d + 7) hJ.b hx hy h6.1 h6.2.1 (by omega) (fun e => c2 e.1)), zTy_i, zup_or (by decide), rSc_z, fun _ => Or.inl ⟨_, 2, rfl, by decide, zup_i⟩⟩)
  by_cases c3 : ¬ zfree M zn1 y
  · exact zst_r hJ hn (fun w => ⟨_, sp_wayDirectionP_3 (d := d + 6) hI hx hy  c0 c1 c2 c3⟩) (zFo_e (by decide)) hJ.k (fun _ _ => rfl) (fun K hK h6 h39 h115 => ⟨_, _, (fun w => sp_wayDirectionR_1 (d := d + 7) hJ.b hx hy h6.1 h6.2.1 (by omega) (fun e => c3 e.2)), zTy_i, zup_or (by decide), rSc_z, fun _ => Or.inl ⟨_, 2, rfl, by decide, zup_i⟩⟩)
  by_cases c4 : ¬ zfaM M zn1 y 114 x.toNat < 1000000
  · exact zst_r hJ hn (fun w => ⟨_, sp_wayDirectionP_4 (d := d + 6) hI hx hy  c0 c1 c2 c3 c4⟩) (zFo_e (by decide)) (zki_ways hJ.k) (fun q hq => zfaM_o (by omega)) (fun K hK h6 h39 h115 => ⟨_, _, (fun w => sp_wayDirectionR_2 (d := d + 7) hJ.b hx hy h6.1 h6.2.1 (by omega) (fun e => e ⟨Classical.not_not.mp c2, Classical.not_not.mp c3⟩) (Or.inl (by have h9 := (zvf_st hJ.b (t := y) (by omega)).1.1 x.toNat (by omega); have h8 : zfaM M zn1 y 114 = zvf M y := zfaM_vf; rw [h8] at c4; omega))), zTy_i, (zup_or (by decide)).trans (rwyM_o (by decide)), rSc_w, fun _ => Or.inl ⟨_, 3, rfl, by decide, zup_i⟩⟩)
  by_cases c5 : x = y
  · exact zst_r hJ hn (fun w => ⟨_, sp_wayDirectionP_5 (d := d + 6) hI hx hy  c0 c1 c2 c3 c4 c5⟩) (zFo_e (by decide)) (zki_ways hJ.k) (fun q hq => zfaM_o (by omega)) (fun K hK h6 h39 h115 => ⟨_, _, (fun w => sp_wayDirectionR_2 (d := d + 7) hJ.b hx hy h6.1 h6.2.1 (by omega) (fun e => e ⟨Classical.not_not.mp c2, Classical.not_not.mp c3⟩) (Or.inr c5)), zTy_i, (zup_or (by decide)).trans (rwyM_o (by decide)), rSc_w, fun _ => Or.inl ⟨_, 3, rfl, by decide, zup_i⟩⟩)
  exact zst_r hJ hn (fun w => ⟨_, sp_wayDirectionP_6 (d := d + 6) hI hx hy  c0 c1 c2 c3 c4 c5⟩) (zFo_v zTy_i) (zki_ways hJ.k) (fun q hq => zfaM_o (by omega)) (fun K hK h6 h39 h115 => ⟨_, _, (fun w => sp_wayDirectionR_3 (d := d + 7) hJ.b hx hy h6.1 h6.2.1 (by omega) (fun e => e ⟨Classical.not_not.mp c2, Classical.not_not.mp c3⟩) (fun e => e.elim (by show ¬ zvf M y x.toNat = 1000000; have h9 := (zvf_st hJ.b (t := y) (by omega)).1.1 x.toNat (by omega); have h8 : zfaM M zn1 y 114 = zvf M y := zfaM_vf; rw [h8] at c4; omega) c5)), zTy_i, (zup_or (by decide)).trans (rwyM_o (by decide)), rSc_w, fun _ => Or.inr ⟨zup_i, zq_i zfd_rwd⟩⟩)
theorem zj_expectedCost {xs : List Int32} {d : Nat} {n : Int} {M : zM} (hJ : zJo n M) (hn : n + 1 ≤ 600) {x : Int} (hx : zr32 x) : zStep xs (d + 12) (d + 13) 102 [.ref 0, .int (Int32.ofInt x)] 200 [.ref 115, .int (Int32.ofInt x)] [(2, 1), (1, 2)] 0 True n M := by
  have hI := hJ.k.ci
  by_cases c0 : ¬ (0 ≤ x ∧ x < zsz M zn1)
  · exact zst_r hJ hn (fun w => ⟨_, sp_expectedCostP_0 (d := d + 7) hI hx  c0⟩) (zFo_e (by decide)) hJ.k (fun _ _ => rfl) (fun K hK h6 h39 h115 => ⟨_, _, (fun w => sp_expectedCostR_0 (d := d + 8) hJ.b hx h6.1 h6.2.1 h6.2.2.2.1 c0), zTy_i, zup_or (by decide), rSc_z, fun _ => Or.inl ⟨_, 1, rfl, by decide, zup_i⟩⟩)
  by_cases c1 : ¬ zfree M zn1 x
  · exact zst_r hJ hn (fun w => ⟨_, sp_expectedCostP_1 (d := d + 7) hI hx  c0 c1⟩) (zFo_e (by decide)) hJ.k (fun _ _ => rfl) (fun K hK h6 h39 h115 => ⟨_, _, (fun w => sp_expectedCostR_1 (d := d + 8) hJ.b hx h6.1 h6.2.1 h6.2.2.2.1 c0 c1), zTy_i, zup_or (by decide), rSc_z, fun _ => Or.inl ⟨_, 2, rfl, by decide, zup_i⟩⟩)
  exact zst_r hJ hn (fun w => ⟨_, sp_expectedCostP_2 (d := d + 7) hI hx  c0 c1⟩) (zFo_v zTy_i) (zki_ways hJ.k) (fun q hq => zfaM_o (by omega)) (fun K hK h6 h39 h115 => ⟨_, _, (fun w => sp_expectedCostR_2 (d := d + 8) hJ.b hx h6.1 h6.2.1 h6.2.2.2.1 c0 c1), zTy_i, (rwyM_o (by decide)).trans (zup_or (by decide)), rSc_w2, fun _ => Or.inr ⟨(by rw [rwyM_o (by decide)]; exact zup_i), zq_i zxc_x⟩⟩)
