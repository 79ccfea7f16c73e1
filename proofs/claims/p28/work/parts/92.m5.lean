noncomputable section
/-! The reference: the likeliest cell. -/
theorem zl_likelyR_26 {xs : List Int32} {d : Nat} {w : Bool} {M : zM} {C : zM} {n : Int} (hB : zBI n C zn1) (hA : rA C M) (h8 : ztot C zn1 ≤ 8) (hrow : ∀ j : Nat, (j : Int) < zsz C zn1 → M 130 j = rxE C (ztot C zn1).toNat j)  : ∀ (zn : Nat) (b i : Int), (b = ((zbestf (rxE C (ztot C zn1).toNat) (i - 1).toNat : Nat) : Int)) → (1 ≤ i ∧ i ≤ zsz C zn1) → zsz C zn1 - i ≤ (zn : Int) → zG (xstep (xrun2 xs (d + 5)) xs 191) 191 (zn * 19 + 19) 26 [(0, .ref 115), (1, .int (Int32.ofInt b)), (2, .int (Int32.ofInt i))] [] 0 0 w M (fun o σ => o = (.inl (some (.int (Int32.ofInt ((zbest (rxE C (ztot C zn1).toNat) (zsz C zn1).toNat : Nat) : Int)))) : XO) ∧ σ = (w, zheap M)) := by
  intro zn
  induction zn with
  | zero =>
    intro b i hb hi hm
    obtain ⟨⟨a1, a2⟩, a3⟩ := id hA
    obtain ⟨⟨g1, g2⟩, ⟨g3, g4⟩, g5⟩ := id hB.g
    obtain ⟨g6, g7⟩ := hB.g.sz
    have hz : zsz C zn1 = C (zn1 + 1) 0 * C (zn1 + 1) 1 := rfl
    have ht0 := hB.t0
    have hr : ∀ j : Nat, (j : Int) < zsz C zn1 → 0 ≤ M 130 j ∧ M 130 j ≤ 1000000000000000000 := fun j hj => by rw [hrow j hj]; exact rxE_b hB h8 (by omega) (by omega)
    have hbl2 := zbestf_le (rxE C (ztot C zn1).toNat) (i - 1).toNat
    have hri := hr i.toNat
    have hrb := hr b.toNat (by omega)
    exact zG_mono (N := 0 + 19) (by omega) (zz_iload_n (pc := 26) xf_191_26 (zmem 2 rfl) (zz_aload_n (pc := 27) xf_191_27 (zmem 0 rfl) (zz_call_v (pc := 28) (cu := 0) (su := 0) (fun ls hr => zz_calV xf_191_28 rfl zis_115 ls hr) rfl (sp_cellsR (d := d + 4) hB hA) (zz_icmp (pc := 31) xf_191_31 (by unfold zr32; omega) (by unfold zr32; omega) (fun (zc1 : ¬ (i < (zsz C zn1))) => zz_iload_n (pc := 62) xf_191_62 (zmem 1 rfl) (zz_ireturn (pc := 63) xf_191_63 rfl (by decide +kernel) (by decide +kernel) (by exact ⟨zq_i (by rw [hb]; unfold zbest; rw [show (i - 1).toNat = (zsz C zn1).toNat - 1 by omega]), rfl⟩))) (fun zc20 => have zc2 : i < (zsz C zn1) := Classical.not_not.mp zc20; zz_aload_n (pc := 34) xf_191_34 (zmem 0 rfl) (zz_getR (pc := 35) xf_191_35 zis_115 (by decide +kernel) rfl (zz_iload_n (pc := 38) xf_191_38 (zmem 2 rfl) (zz_lald (pc := 39) xf_191_39 zis_130 (by omega) (zz_aload_n (pc := 40) xf_191_40 (zmem 0 rfl) (zz_getR (pc := 41) xf_191_41 zis_115 (by decide +kernel) rfl (zz_iload_n (pc := 44) xf_191_44 (zmem 1 rfl) (zz_lald (pc := 45) xf_191_45 zis_130 (by omega) (zz_lcmp (pc := 46) xf_191_46 xf_191_47 (by unfold zr64; omega) (by unfold zr64; omega) (fun (zc3 : ¬ ((M 130 b.toNat) < (M 130 i.toNat))) => zz_iload_n (pc := 54) xf_191_54 (zmem 1 rfl) (zz_istore_n (pc := 55) xf_191_55 (by decide +kernel) (zG_ro (ρ' := [(1, .int (Int32.ofInt b)), (0, .ref 115), (2, .int (Int32.ofInt i))]) rfl (zz_iinc (pc := 56) xf_191_56 (zmem 2 rfl) (by decide +kernel) (zG_ro (ρ' := [(2, .int (Int32.ofInt (i + 1))), (1, .int (Int32.ofInt b)), (0, .ref 115)]) rfl (zz_goto (pc := 59) xf_191_59 ((by exfalso; omega)))))))) (fun zc40 => have zc4 : (M 130 b.toNat) < (M 130 i.toNat) := Classical.not_not.mp zc40; zz_iload_n (pc := 50) xf_191_50 (zmem 2 rfl) (zz_goto (pc := 51) xf_191_51 (zz_istore_n (pc := 55) xf_191_55 (by decide +kernel) (zG_ro (ρ' := [(1, .int (Int32.ofInt i)), (0, .ref 115), (2, .int (Int32.ofInt i))]) rfl (zz_iinc (pc := 56) xf_191_56 (zmem 2 rfl) (by decide +kernel) (zG_ro (ρ' := [(2, .int (Int32.ofInt (i + 1))), (1, .int (Int32.ofInt i)), (0, .ref 115)]) rfl (zz_goto (pc := 59) xf_191_59 ((by exfalso; omega))))))))))))))))))))))
  | succ zn ih =>
    intro b i hb hi hm
    obtain ⟨⟨a1, a2⟩, a3⟩ := id hA
    obtain ⟨⟨g1, g2⟩, ⟨g3, g4⟩, g5⟩ := id hB.g
    obtain ⟨g6, g7⟩ := hB.g.sz
    have hz : zsz C zn1 = C (zn1 + 1) 0 * C (zn1 + 1) 1 := rfl
    have ht0 := hB.t0
    have hr : ∀ j : Nat, (j : Int) < zsz C zn1 → 0 ≤ M 130 j ∧ M 130 j ≤ 1000000000000000000 := fun j hj => by rw [hrow j hj]; exact rxE_b hB h8 (by omega) (by omega)
    have hbl2 := zbestf_le (rxE C (ztot C zn1).toNat) (i - 1).toNat
    have hri := hr i.toNat
    have hrb := hr b.toNat (by omega)
    exact zG_mono (N := zn * 19 + 19 + 0 + 19) (by omega) (zz_iload_n (pc := 26) xf_191_26 (zmem 2 rfl) (zz_aload_n (pc := 27) xf_191_27 (zmem 0 rfl) (zz_call_v (pc := 28) (cu := 0) (su := 0) (fun ls hr => zz_calV xf_191_28 rfl zis_115 ls hr) rfl (sp_cellsR (d := d + 4) hB hA) (zz_icmp (pc := 31) xf_191_31 (by unfold zr32; omega) (by unfold zr32; omega) (fun (zc1 : ¬ (i < (zsz C zn1))) => zz_iload_n (pc := 62) xf_191_62 (zmem 1 rfl) (zz_ireturn (pc := 63) xf_191_63 rfl (by decide +kernel) (by decide +kernel) (by exact ⟨zq_i (by rw [hb]; unfold zbest; rw [show (i - 1).toNat = (zsz C zn1).toNat - 1 by omega]), rfl⟩))) (fun zc20 => have zc2 : i < (zsz C zn1) := Classical.not_not.mp zc20; zz_aload_n (pc := 34) xf_191_34 (zmem 0 rfl) (zz_getR (pc := 35) xf_191_35 zis_115 (by decide +kernel) rfl (zz_iload_n (pc := 38) xf_191_38 (zmem 2 rfl) (zz_lald (pc := 39) xf_191_39 zis_130 (by omega) (zz_aload_n (pc := 40) xf_191_40 (zmem 0 rfl) (zz_getR (pc := 41) xf_191_41 zis_115 (by decide +kernel) rfl (zz_iload_n (pc := 44) xf_191_44 (zmem 1 rfl) (zz_lald (pc := 45) xf_191_45 zis_130 (by omega) (zz_lcmp (pc := 46) xf_191_46 xf_191_47 (by unfold zr64; omega) (by unfold zr64; omega) (fun (zc3 : ¬ ((M 130 b.toNat) < (M 130 i.toNat))) => zz_iload_n (pc := 54) xf_191_54 (zmem 1 rfl) (zz_istore_n (pc := 55) xf_191_55 (by decide +kernel) (zG_ro (ρ' := [(1, .int (Int32.ofInt b)), (0, .ref 115), (2, .int (Int32.ofInt i))]) rfl (zz_iinc (pc := 56) xf_191_56 (zmem 2 rfl) (by decide +kernel) (zG_ro (ρ' := [(2, .int (Int32.ofInt (i + 1))), (1, .int (Int32.ofInt b)), (0, .ref 115)]) rfl (zz_goto (pc := 59) xf_191_59 (zG_mono (N := zn * 19 + 19) (by omega) (zG_sub (List.forall_mem_cons.mpr ⟨zmem 2 rfl, (List.forall_mem_cons.mpr ⟨zmem 1 rfl, (List.forall_mem_cons.mpr ⟨zmem 0 rfl, (fun p hp => absurd hp List.not_mem_nil)⟩)⟩)⟩) (ih b (i + 1)  (by have e1 := hrow i.toNat (by omega); have e2 := hrow b.toNat (by omega); rw [show i + 1 - 1 = i by omega, zbestf_i hi.1]; subst hb; rw [Int.toNat_natCast] at *; split <;> omega) (by omega) (by omega)))))))))) (fun zc40 => have zc4 : (M 130 b.toNat) < (M 130 i.toNat) := Classical.not_not.mp zc40; zz_iload_n (pc := 50) xf_191_50 (zmem 2 rfl) (zz_goto (pc := 51) xf_191_51 (zz_istore_n (pc := 55) xf_191_55 (by decide +kernel) (zG_ro (ρ' := [(1, .int (Int32.ofInt i)), (0, .ref 115), (2, .int (Int32.ofInt i))]) rfl (zz_iinc (pc := 56) xf_191_56 (zmem 2 rfl) (by decide +kernel) (zG_ro (ρ' := [(2, .int (Int32.ofInt (i + 1))), (1, .int (Int32.ofInt i)), (0, .ref 115)]) rfl (zz_goto (pc := 59) xf_191_59 (zG_mono (N := zn * 19 + 19) (by omega) (zG_sub (List.forall_mem_cons.mpr ⟨zmem 2 rfl, (List.forall_mem_cons.mpr ⟨zmem 1 rfl, (List.forall_mem_cons.mpr ⟨zmem 0 rfl, (fun p hp => absurd hp List.not_mem_nil)⟩)⟩)⟩) (ih i (i + 1)  (by have e1 := hrow i.toNat (by omega); have e2 := hrow b.toNat (by omega); rw [show i + 1 - 1 = i by omega, zbestf_i hi.1]; subst hb; rw [Int.toNat_natCast] at *; split <;> omega) (by omega) (by omega))))))))))))))))))))))))
theorem sp_likelyR_0 {xs : List Int32} {d : Nat} {w : Bool} {M : zM} {C : zM} {n : Int} (hB : zBI n C zn1) (hA : rA C M) (hR : rL C M) (hn : n ≤ 1000) (c0 : 8 < ztot C zn1) : xrun2 xs (d + 7) 191 [.ref 115] (w, zheap M) = some (.inl (some (.int (Int32.ofInt (0)))), (w, zheap (zup M 115 0 1))) := by
  obtain ⟨⟨a1, a2⟩, a3⟩ := id hA
  obtain ⟨⟨g1, g2⟩, ⟨g3, g4⟩, g5⟩ := id hB.g
  obtain ⟨g6, g7⟩ := hB.g.sz
  have hz : zsz C zn1 = C (zn1 + 1) 0 * C (zn1 + 1) 1 := rfl
  have htt := hR.tt
  have ht0 := hB.t0
  have h4n := hB.b4.2.1
  have hte : rtt M = M 115 19 + M 115 20 := rfl
  have htd : ztot C zn1 = C (zn1 + 8) 1 + C (zn1 + 8) 2 := rfl
  have hA0 : rA C (zup M 115 0 0) := rA_c (zup_ne (by decide)) (zup_ne (by decide)) (zup_or (by decide)) hA
  have hR0 : rL C (zup M 115 0 0) := rL_c (zup_ne (by decide)) (zup_ne (by decide)) (zup_ne (by decide)) (zup_or (by decide)) (zup_or (by decide)) (zup_or (by decide)) hR
  exact zrun_v (N := 715) (by decide) rfl (zz_aload_n (pc := 0) xf_191_0 (zmem 0 rfl) (zz_call_v (pc := 1) (cu := 0) (su := 0) (fun ls hr => zz_calV xf_191_1 rfl zis_115 ls hr) rfl (sp_hasExactR (d := d + 5) (by omega)) (zz_ifbne (pc := 4) xf_191_4 (fun (zc1 : rtt M ≤ 8) => zz_aload_n (pc := 13) xf_191_13 (zmem 0 rfl) (zz_iconst (pc := 14) xf_191_14 (zz_putI (pc := 15) xf_191_15 zis_115 (by decide +kernel) rfl (by decide +kernel) (zm_as (fun zM3 (ezM3 : zM3 = zup M 115 0 (0)) => zz_aload_n (pc := 18) xf_191_18 (zmem 0 rfl) (zz_call_0 (pc := 19) (cu := 0) (su := 0) (fun ls hr => zz_calV xf_191_19 rfl zis_115 ls hr) rfl (sp_findExactR (d := d) hB (by subst_vars; exact hA0) (by subst_vars; exact hR0) (by omega)) (zm_as (fun zM4 (ezM4 : zM4 = rxM C zM3 (ztot C zn1).toNat) => zz_iconst (pc := 22) xf_191_22 (zz_istore_n (pc := 23) xf_191_23 (by decide +kernel) (zG_ro (ρ' := [(1, .int (Int32.ofInt (0))), (0, .ref 115)]) rfl (zz_iconst (pc := 24) xf_191_24 (zz_istore_n (pc := 25) xf_191_25 (by decide +kernel) (zG_ro (ρ' := [(2, .int (Int32.ofInt (1))), (1, .int (Int32.ofInt (0))), (0, .ref 115)]) rfl (zG_mono (N := 703) (by omega) (zG_sub (List.forall_mem_cons.mpr ⟨zmem 2 rfl, (List.forall_mem_cons.mpr ⟨zmem 1 rfl, (List.forall_mem_cons.mpr ⟨zmem 0 rfl, (fun p hp => absurd hp List.not_mem_nil)⟩)⟩)⟩) ((by exfalso; first | omega | contradiction))))))))))))))))) (fun (zc2 : ¬ (rtt M ≤ 8)) => zz_aload_n (pc := 7) xf_191_7 (zmem 0 rfl) (zz_iconst (pc := 8) xf_191_8 (zz_call_v (pc := 9) (cu := 0) (su := 0) (fun ls hr => zz_calV xf_191_9 rfl zis_115 ls hr) rfl (sp_failsR (d := d + 5) ) (zm_as (fun zM5 (ezM5 : zM5 = zup M 115 0 (1)) => zz_ireturn (pc := 12) xf_191_12 rfl (by decide +kernel) (by decide +kernel) (by first | (exfalso; first | omega | contradiction) | (subst_vars; exact ⟨rfl, rfl⟩))))))))))
theorem sp_likelyR_1 {xs : List Int32} {d : Nat} {w : Bool} {M : zM} {C : zM} {n : Int} (hB : zBI n C zn1) (hA : rA C M) (hR : rL C M) (hn : n ≤ 1000) (c0 : ¬ (8 < ztot C zn1)) : xrun2 xs (d + 7) 191 [.ref 115] (w, zheap M) = some (.inl (some (.int (Int32.ofInt ((zbest (rxE C (ztot C zn1).toNat) (zsz C zn1).toNat : Nat) : Int)))), (w, zheap (rxM C (zup M 115 0 0) (ztot C zn1).toNat))) := by
  obtain ⟨⟨a1, a2⟩, a3⟩ := id hA
  obtain ⟨⟨g1, g2⟩, ⟨g3, g4⟩, g5⟩ := id hB.g
  obtain ⟨g6, g7⟩ := hB.g.sz
  have hz : zsz C zn1 = C (zn1 + 1) 0 * C (zn1 + 1) 1 := rfl
  have htt := hR.tt
  have ht0 := hB.t0
  have h4n := hB.b4.2.1
  have hte : rtt M = M 115 19 + M 115 20 := rfl
  have htd : ztot C zn1 = C (zn1 + 8) 1 + C (zn1 + 8) 2 := rfl
  have hA0 : rA C (zup M 115 0 0) := rA_c (zup_ne (by decide)) (zup_ne (by decide)) (zup_or (by decide)) hA
  have hR0 : rL C (zup M 115 0 0) := rL_c (zup_ne (by decide)) (zup_ne (by decide)) (zup_ne (by decide)) (zup_or (by decide)) (zup_or (by decide)) (zup_or (by decide)) hR
  exact zrun_v (N := 715) (by decide) rfl (zz_aload_n (pc := 0) xf_191_0 (zmem 0 rfl) (zz_call_v (pc := 1) (cu := 0) (su := 0) (fun ls hr => zz_calV xf_191_1 rfl zis_115 ls hr) rfl (sp_hasExactR (d := d + 5) (by omega)) (zz_ifbne (pc := 4) xf_191_4 (fun (zc1 : rtt M ≤ 8) => zz_aload_n (pc := 13) xf_191_13 (zmem 0 rfl) (zz_iconst (pc := 14) xf_191_14 (zz_putI (pc := 15) xf_191_15 zis_115 (by decide +kernel) rfl (by decide +kernel) (zm_as (fun zM3 (ezM3 : zM3 = zup M 115 0 (0)) => zz_aload_n (pc := 18) xf_191_18 (zmem 0 rfl) (zz_call_0 (pc := 19) (cu := 0) (su := 0) (fun ls hr => zz_calV xf_191_19 rfl zis_115 ls hr) rfl (sp_findExactR (d := d) hB (by subst_vars; exact hA0) (by subst_vars; exact hR0) (by omega)) (zm_as (fun zM4 (ezM4 : zM4 = rxM C zM3 (ztot C zn1).toNat) => zz_iconst (pc := 22) xf_191_22 (zz_istore_n (pc := 23) xf_191_23 (by decide +kernel) (zG_ro (ρ' := [(1, .int (Int32.ofInt (0))), (0, .ref 115)]) rfl (zz_iconst (pc := 24) xf_191_24 (zz_istore_n (pc := 25) xf_191_25 (by decide +kernel) (zG_ro (ρ' := [(2, .int (Int32.ofInt (1))), (1, .int (Int32.ofInt (0))), (0, .ref 115)]) rfl (zG_mono (N := 703) (by omega) (zG_sub (List.forall_mem_cons.mpr ⟨zmem 2 rfl, (List.forall_mem_cons.mpr ⟨zmem 1 rfl, (List.forall_mem_cons.mpr ⟨zmem 0 rfl, (fun p hp => absurd hp List.not_mem_nil)⟩)⟩)⟩) ((by have h9 : zM4 = rxM C (zup M 115 0 0) (ztot C zn1).toNat := (by subst_vars; rfl); rw [h9]; exact zl_likelyR_26 hB (rA_c (by rw [rxM_o (by decide) (by decide)]) (by rw [rxM_o (by decide) (by decide)]) (rxM_o (by decide) (by decide) _) hA0) (by omega) (fun j hj => rxM_i (by omega) (by omega) _) 36 0 1 rfl (by omega) (by omega)))))))))))))))))) (fun (zc2 : ¬ (rtt M ≤ 8)) => zz_aload_n (pc := 7) xf_191_7 (zmem 0 rfl) (zz_iconst (pc := 8) xf_191_8 (zz_call_v (pc := 9) (cu := 0) (su := 0) (fun ls hr => zz_calV xf_191_9 rfl zis_115 ls hr) rfl (sp_failsR (d := d + 5) ) (zm_as (fun zM5 (ezM5 : zM5 = zup M 115 0 (1)) => zz_ireturn (pc := 12) xf_191_12 rfl (by decide +kernel) (by decide +kernel) (by exfalso; first | omega | contradiction)))))))))
end
noncomputable section
/-! The reference: text put behind the buffer's. -/
def rput (M : zM) (b : Int) : zM := if b = 0 then M else zup (zup M 127 (M 115 26).toNat b) 115 26 (M 115 26 + 1)
def radM (M : zM) (p : Int) : Nat → zM
  | 0 => M
  | n + 1 => rput (radM M p n) (zby p (n : Int))
theorem radM_s {M : zM} {p i : Int} (h : 0 ≤ i) : radM M p (i + 1).toNat = rput (radM M p i.toNat) (zby p i) := by
  rw [show (i + 1).toNat = i.toNat + 1 by omega]
  show rput (radM M p i.toNat) (zby p (i.toNat : Int)) = _
  rw [Int.toNat_of_nonneg h]
theorem radM_n {M : zM} {p : Int} : ∀ n, radM M p n 115 26 = M 115 26 + zcount (zsgp p) n
  | 0 => (Int.add_zero _).symm
  | n + 1 => by
    show rput (radM M p n) (zby p (n : Int)) 115 26 = M 115 26 + (zcount (zsgp p) n + zb (zsgp p n))
    have ih := radM_n (M := M) (p := p) n
    unfold rput
    by_cases h : zby p (n : Int) = 0
    · rw [if_pos h, ih, zb_f (fun e => e h), Int.add_zero]
    · rw [if_neg h, zup_i, ih, zb_t (show zsgp p n from h), Int.add_assoc]
theorem zcount_le {P : Nat → Prop} : ∀ n k, n ≤ k → zcount P n ≤ zcount P k
  | n, 0, h => by rw [show n = 0 by omega]; exact Int.le_refl _
  | n, k + 1, h => by
    by_cases e : n = k + 1
    · rw [e]; exact Int.le_refl _
    · have h1 := zcount_le (P := P) n k (by omega)
      have h2 := zb_01 (P k)
      show zcount P n ≤ zcount P k + zb (P k)
      omega
noncomputable def rapO (M : zM) (x : Int) : Int := @ite _ (zprn x) (Classical.propDecidable _) (if 45 < M 115 26 + zsgn x then 0 else M 115 26 + zsgn x) 0
noncomputable def rapM (M : zM) (x : Int) : zM := @ite _ (zprn x) (Classical.propDecidable _) (if 45 < M 115 26 + zsgn x then zup M 115 0 2 else radM (zup M 115 0 0) x 4) (zup M 115 0 1)
theorem zl_appendR_85 {xs : List Int32} {d : Nat} {w : Bool}  {x : Int} {M0 : zM} (hu : 0 ≤ M0 115 26 ∧ M0 115 26 + zsgn x ≤ 45) : ∀ (zn : Nat) (s : Int) (i : Int) (M : zM), (M = radM M0 x i.toNat) → (s = 24 - 8 * i) → (0 ≤ i ∧ i ≤ 4) → s + 8 ≤ (zn : Int) → zG (xstep (xrun2 xs (d + 1)) xs 157) 157 (zn * 24 + 24) 85 [(0, .ref 115), (1, .int (Int32.ofInt x)), (3, .int (Int32.ofInt s))] [] 0 0 w M (fun o σ => o = (.inl (some (.int (Int32.ofInt (M0 115 26 + zsgn x)))) : XO) ∧ σ = (w, zheap (radM M0 x 4))) := by
  intro zn
  induction zn with
  | zero =>
    intro s i M hM hs hi hm
    have hb := zby_b x i
    have hbe : zan (zus x s) 255 = zby x i := by rw [hs]; rfl
    rw [← hbe] at hb
    have hn := radM_n (M := M0) (p := x) i.toNat
    rw [← hM] at hn
    have hc0 := zcount_b (zsgp x) i.toNat
    have hc4 := zcount_le (P := zsgp x) (i.toNat + 1) 4
    have hcs : zcount (zsgp x) (i.toNat + 1) = zcount (zsgp x) i.toNat + zb (zsgp x i.toNat) := rfl
    have hz4 : zsgn x = zcount (zsgp x) 4 := rfl
    have hzt : ¬ zan (zus x s) 255 = 0 → zb (zsgp x i.toNat) = 1 := fun h => zb_t (by unfold zsgp; rw [Int.toNat_of_nonneg hi.1, ← hbe]; exact h)
    exact zG_mono (N := 0 + 24) (by omega) (zz_iload_n (pc := 85) xf_157_85 (zmem 2 rfl) (zz_if (pc := 86) xf_157_86 (by unfold zr32; omega) (fun (zc1 : s < 0) => zz_aload_n (pc := 133) xf_157_133 (zmem 0 rfl) (zz_getI (pc := 134) xf_157_134 zis_115 (by decide +kernel) rfl (zz_ireturn (pc := 137) xf_157_137 rfl (by decide +kernel) (by decide +kernel) (by exact ⟨zq_i (by rw [hn, hz4, show i.toNat = 4 by omega]), by rw [hM, show i.toNat = 4 by omega]⟩)))) (fun (zc2 : ¬ (s < 0)) => zz_iload_n (pc := 89) xf_157_89 (zmem 1 rfl) (zz_iload_n (pc := 90) xf_157_90 (zmem 2 rfl) (zz_zus (pc := 91) xf_157_91 (zz_sipush (pc := 92) (x := 255) xf_157_92 (by decide +kernel) (zz_zan (pc := 95) xf_157_95 (zz_istore (pc := 96) xf_157_96 (by decide +kernel) (zG_ro (ρ' := [(4, .int (Int32.ofInt (zan (zus x s) (255)))), (0, .ref 115), (1, .int (Int32.ofInt x)), (3, .int (Int32.ofInt s))]) rfl (zz_iload (pc := 98) xf_157_98 (zmem 0 rfl) (zz_if (pc := 100) xf_157_100 (by unfold zr32; omega) (fun (zc3 : ¬ ((zan (zus x s) (255)) = 0)) => zz_aload_n (pc := 106) xf_157_106 (zmem 1 rfl) (zz_getR (pc := 107) xf_157_107 zis_115 (by decide +kernel) rfl (zz_aload_n (pc := 110) xf_157_110 (zmem 1 rfl) (zz_getI (pc := 111) xf_157_111 zis_115 (by decide +kernel) rfl (zz_iload (pc := 114) xf_157_114 (zmem 0 rfl) (zz_iast (pc := 116) xf_157_116 zis_127 (by have h9 := hzt (by assumption); have h8 := hc4 (by omega); omega) (zm_as (fun zM5 (ezM5 : zM5 = zup M 127 (M 115 26).toNat (zan (zus x s) (255))) => zz_aload_n (pc := 117) xf_157_117 (zmem 1 rfl) (zz_dup_r (pc := 118) xf_157_118 (zz_getI (pc := 119) xf_157_119 zis_115 (by decide +kernel) rfl (zz_iconst (pc := 122) xf_157_122 (zz_iadd (pc := 123) xf_157_123 (zz_putI (pc := 124) xf_157_124 zis_115 (by decide +kernel) rfl (by decide +kernel) (zm_as (fun zM6 (ezM6 : zM6 = zup zM5 115 26 ((zM5 115 26) + (1))) => zz_iinc (pc := 127) xf_157_127 (zmem 3 rfl) (by decide +kernel) (zG_ro (ρ' := [(3, .int (Int32.ofInt (s + (-8)))), (4, .int (Int32.ofInt (zan (zus x s) (255)))), (0, .ref 115), (1, .int (Int32.ofInt x))]) rfl (zz_goto (pc := 130) xf_157_130 ((by exfalso; omega))))))))))))))))))) (fun zc40 => have zc4 : (zan (zus x s) (255)) = 0 := Classical.not_not.mp zc40; zz_goto (pc := 103) xf_157_103 (zz_iinc (pc := 127) xf_157_127 (zmem 3 rfl) (by decide +kernel) (zG_ro (ρ' := [(3, .int (Int32.ofInt (s + (-8)))), (4, .int (Int32.ofInt (zan (zus x s) (255)))), (0, .ref 115), (1, .int (Int32.ofInt x))]) rfl (zz_goto (pc := 130) xf_157_130 ((by exfalso; omega)))))))))))))))))
  | succ zn ih =>
    intro s i M hM hs hi hm
    have hb := zby_b x i
    have hbe : zan (zus x s) 255 = zby x i := by rw [hs]; rfl
    rw [← hbe] at hb
    have hn := radM_n (M := M0) (p := x) i.toNat
    rw [← hM] at hn
    have hc0 := zcount_b (zsgp x) i.toNat
    have hc4 := zcount_le (P := zsgp x) (i.toNat + 1) 4
    have hcs : zcount (zsgp x) (i.toNat + 1) = zcount (zsgp x) i.toNat + zb (zsgp x i.toNat) := rfl
    have hz4 : zsgn x = zcount (zsgp x) 4 := rfl
    have hzt : ¬ zan (zus x s) 255 = 0 → zb (zsgp x i.toNat) = 1 := fun h => zb_t (by unfold zsgp; rw [Int.toNat_of_nonneg hi.1, ← hbe]; exact h)
    exact zG_mono (N := zn * 24 + 24 + 0 + 24) (by omega) (zz_iload_n (pc := 85) xf_157_85 (zmem 2 rfl) (zz_if (pc := 86) xf_157_86 (by unfold zr32; omega) (fun (zc1 : s < 0) => zz_aload_n (pc := 133) xf_157_133 (zmem 0 rfl) (zz_getI (pc := 134) xf_157_134 zis_115 (by decide +kernel) rfl (zz_ireturn (pc := 137) xf_157_137 rfl (by decide +kernel) (by decide +kernel) (by exact ⟨zq_i (by rw [hn, hz4, show i.toNat = 4 by omega]), by rw [hM, show i.toNat = 4 by omega]⟩)))) (fun (zc2 : ¬ (s < 0)) => zz_iload_n (pc := 89) xf_157_89 (zmem 1 rfl) (zz_iload_n (pc := 90) xf_157_90 (zmem 2 rfl) (zz_zus (pc := 91) xf_157_91 (zz_sipush (pc := 92) (x := 255) xf_157_92 (by decide +kernel) (zz_zan (pc := 95) xf_157_95 (zz_istore (pc := 96) xf_157_96 (by decide +kernel) (zG_ro (ρ' := [(4, .int (Int32.ofInt (zan (zus x s) (255)))), (0, .ref 115), (1, .int (Int32.ofInt x)), (3, .int (Int32.ofInt s))]) rfl (zz_iload (pc := 98) xf_157_98 (zmem 0 rfl) (zz_if (pc := 100) xf_157_100 (by unfold zr32; omega) (fun (zc3 : ¬ ((zan (zus x s) (255)) = 0)) => zz_aload_n (pc := 106) xf_157_106 (zmem 1 rfl) (zz_getR (pc := 107) xf_157_107 zis_115 (by decide +kernel) rfl (zz_aload_n (pc := 110) xf_157_110 (zmem 1 rfl) (zz_getI (pc := 111) xf_157_111 zis_115 (by decide +kernel) rfl (zz_iload (pc := 114) xf_157_114 (zmem 0 rfl) (zz_iast (pc := 116) xf_157_116 zis_127 (by have h9 := hzt (by assumption); have h8 := hc4 (by omega); omega) (zm_as (fun zM5 (ezM5 : zM5 = zup M 127 (M 115 26).toNat (zan (zus x s) (255))) => zz_aload_n (pc := 117) xf_157_117 (zmem 1 rfl) (zz_dup_r (pc := 118) xf_157_118 (zz_getI (pc := 119) xf_157_119 zis_115 (by decide +kernel) rfl (zz_iconst (pc := 122) xf_157_122 (zz_iadd (pc := 123) xf_157_123 (zz_putI (pc := 124) xf_157_124 zis_115 (by decide +kernel) rfl (by decide +kernel) (zm_as (fun zM6 (ezM6 : zM6 = zup zM5 115 26 ((zM5 115 26) + (1))) => zz_iinc (pc := 127) xf_157_127 (zmem 3 rfl) (by decide +kernel) (zG_ro (ρ' := [(3, .int (Int32.ofInt (s + (-8)))), (4, .int (Int32.ofInt (zan (zus x s) (255)))), (0, .ref 115), (1, .int (Int32.ofInt x))]) rfl (zz_goto (pc := 130) xf_157_130 (zG_mono (N := zn * 24 + 24) (by omega) (zG_sub (List.forall_mem_cons.mpr ⟨zmem 2 rfl, (List.forall_mem_cons.mpr ⟨zmem 3 rfl, (List.forall_mem_cons.mpr ⟨zmem 0 rfl, (fun p hp => absurd hp List.not_mem_nil)⟩)⟩)⟩) (ih (s + (-8)) (i + 1) zM6  (by rw [radM_s hi.1, ← hM, ← hbe]; unfold rput; rw [if_neg (by assumption), ezM6, ezM5]; simp (disch := decide) only [zup_or]) (by omega) (by omega) (by omega))))))))))))))))))))) (fun zc40 => have zc4 : (zan (zus x s) (255)) = 0 := Classical.not_not.mp zc40; zz_goto (pc := 103) xf_157_103 (zz_iinc (pc := 127) xf_157_127 (zmem 3 rfl) (by decide +kernel) (zG_ro (ρ' := [(3, .int (Int32.ofInt (s + (-8)))), (4, .int (Int32.ofInt (zan (zus x s) (255)))), (0, .ref 115), (1, .int (Int32.ofInt x))]) rfl (zz_goto (pc := 130) xf_157_130 (zG_mono (N := zn * 24 + 24) (by omega) (zG_sub (List.forall_mem_cons.mpr ⟨zmem 2 rfl, (List.forall_mem_cons.mpr ⟨zmem 3 rfl, (List.forall_mem_cons.mpr ⟨zmem 0 rfl, (fun p hp => absurd hp List.not_mem_nil)⟩)⟩)⟩) (ih (s + (-8)) (i + 1) M  (by rw [radM_s hi.1, ← hM, ← hbe]; unfold rput; rw [if_pos (by assumption)]) (by omega) (by omega) (by omega)))))))))))))))))))
theorem zl_appendR_5 {xs : List Int32} {d : Nat} {w : Bool} {M : zM} {x : Int} (hu : 0 ≤ M 115 26 ∧ M 115 26 ≤ 45) : ∀ (zn : Nat) (v s : Int) (i : Int), (s = 24 - 8 * i) → (0 ≤ i ∧ i ≤ 4) → (∀ j : Int, 0 ≤ j → j < i → zokb (zby x j)) → (v = zcount (zsgp x) i.toNat) → s + 8 ≤ (zn : Int) → zG (xstep (xrun2 xs (d + 1)) xs 157) 157 (zn * 24 + 816) 5 [(0, .ref 115), (1, .int (Int32.ofInt x)), (2, .int (Int32.ofInt v)), (3, .int (Int32.ofInt s))] [] 0 0 w M (fun o σ => o = (.inl (some (.int (Int32.ofInt (rapO M x)))) : XO) ∧ σ = (w, zheap (rapM M x))) := by
  intro zn
  induction zn with
  | zero =>
    intro v s i hs hi hP hv hm
    have hb := zby_b x i
    have hbe : zan (zus x s) 255 = zby x i := by rw [hs]; rfl
    rw [← hbe] at hb
    have hc0 := zcount_b (zsgp x) i.toNat
    have hok : i = 4 → zprn x := fun h j h0 h1 => hP j h0 (by omega)
    have hbad : ¬ (zan (zus x s) 255 = 0 ∨ 33 ≤ zan (zus x s) 255 ∧ zan (zus x s) 255 ≤ 126) → 0 ≤ i → i < 4 → ¬ zprn x := fun h h0 h1 hp => by
      have h2 := hp i h0 h1
      unfold zokb at h2
      rw [← hbe] at h2
      exact h h2
    have hz4 : i = 4 → v = zsgn x := fun h => by rw [hv, h]; rfl
    exact zG_mono (N := 792 + 24) (by omega) (zz_iload_n (pc := 5) xf_157_5 (zmem 3 rfl) (zz_if (pc := 6) xf_157_6 (by unfold zr32; omega) (fun (zc1 : s < 0) => zz_aload_n (pc := 60) xf_157_60 (zmem 0 rfl) (zz_getI (pc := 61) xf_157_61 zis_115 (by decide +kernel) rfl (zz_iload_n (pc := 64) xf_157_64 (zmem 2 rfl) (zz_iadd (pc := 65) xf_157_65 (zz_bipush (pc := 66) (x := 45) xf_157_66 (by decide +kernel) (zz_icmp (pc := 68) xf_157_68 (by unfold zr32; omega) ⟨by decide, by decide⟩ (fun (zc3 : ¬ ((45) < ((M 115 26) + v))) => zz_aload_n (pc := 77) xf_157_77 (zmem 0 rfl) (zz_iconst (pc := 78) xf_157_78 (zz_putI (pc := 79) xf_157_79 zis_115 (by decide +kernel) rfl (by decide +kernel) (zm_as (fun zM5 (ezM5 : zM5 = zup M 115 0 (0)) => zz_bipush (pc := 82) (x := 24) xf_157_82 (by decide +kernel) (zz_istore_n (pc := 84) xf_157_84 (by decide +kernel) (zG_ro (ρ' := [(3, .int (Int32.ofInt (24))), (0, .ref 115), (1, .int (Int32.ofInt x)), (2, .int (Int32.ofInt v))]) rfl (zG_mono (N := 792) (by omega) (zG_sub (List.forall_mem_cons.mpr ⟨zmem 1 rfl, (List.forall_mem_cons.mpr ⟨zmem 2 rfl, (List.forall_mem_cons.mpr ⟨zmem 0 rfl, (fun p hp => absurd hp List.not_mem_nil)⟩)⟩)⟩) ((by have h9 := hok (by omega); have h8 := hz4 (by omega); have e1 : rapO M x = M 115 26 + zsgn x := (by unfold rapO; rw [if_pos h9, if_neg (by omega)]); have e2 : rapM M x = radM (zup M 115 0 0) x 4 := (by unfold rapM; rw [if_pos h9, if_neg (by omega)]); have e3 : zM5 = zup M 115 0 0 := (by subst_vars; rfl); have e4 : zup M 115 0 0 115 26 = M 115 26 := zup_ne (by decide); rw [e1, e2, e3, ← e4]; exact zl_appendR_85 (M0 := zup M 115 0 0) (by rw [e4]; have h7 := zcount_b (zsgp x) 4; have h6 : zsgn x = zcount (zsgp x) 4 := rfl; omega) 32 _ 0 _ rfl (by omega) (by omega) (by omega)))))))))))) (fun zc40 => have zc4 : (45) < ((M 115 26) + v) := Classical.not_not.mp zc40; zz_aload_n (pc := 71) xf_157_71 (zmem 0 rfl) (zz_iconst (pc := 72) xf_157_72 (zz_call_v (pc := 73) (cu := 0) (su := 0) (fun ls hr => zz_calV xf_157_73 rfl zis_115 ls hr) rfl (sp_failsR (d := d) ) (zm_as (fun zM6 (ezM6 : zM6 = zup M 115 0 (2)) => zz_ireturn (pc := 76) xf_157_76 rfl (by decide +kernel) (by decide +kernel) (by first | (have h9 := hbad (by omega) (by omega) (by omega); exact ⟨zq_i (by unfold rapO; rw [if_neg h9]), by unfold rapM; rw [if_neg h9]; subst_vars; rfl⟩) | (have h9 := hok (by omega); have h8 := hz4 (by omega); exact ⟨zq_i (by unfold rapO; rw [if_pos h9, if_pos (by omega)]), by unfold rapM; rw [if_pos h9, if_pos (by omega)]; subst_vars; rfl⟩))))))))))))) (fun (zc2 : ¬ (s < 0)) => zz_iload_n (pc := 9) xf_157_9 (zmem 1 rfl) (zz_iload_n (pc := 10) xf_157_10 (zmem 3 rfl) (zz_zus (pc := 11) xf_157_11 (zz_sipush (pc := 12) (x := 255) xf_157_12 (by decide +kernel) (zz_zan (pc := 15) xf_157_15 (zz_istore (pc := 16) xf_157_16 (by decide +kernel) (zG_ro (ρ' := [(4, .int (Int32.ofInt (zan (zus x s) (255)))), (0, .ref 115), (1, .int (Int32.ofInt x)), (2, .int (Int32.ofInt v)), (3, .int (Int32.ofInt s))]) rfl (zz_iload (pc := 18) xf_157_18 (zmem 0 rfl) (zz_if (pc := 20) xf_157_20 (by unfold zr32; omega) (fun (zc7 : (zan (zus x s) (255)) = 0) => zz_iload_n (pc := 41) xf_157_41 (zmem 3 rfl) (zz_iload (pc := 42) xf_157_42 (zmem 0 rfl) (zz_if (pc := 44) xf_157_44 (by unfold zr32; omega) (fun (zc9 : (zan (zus x s) (255)) = 0) => zz_iconst (pc := 51) xf_157_51 (zz_iadd (pc := 52) xf_157_52 (zz_istore_n (pc := 53) xf_157_53 (by decide +kernel) (zG_ro (ρ' := [(2, .int (Int32.ofInt (v + (0)))), (4, .int (Int32.ofInt (zan (zus x s) (255)))), (0, .ref 115), (1, .int (Int32.ofInt x)), (3, .int (Int32.ofInt s))]) rfl (zz_iinc (pc := 54) xf_157_54 (zmem 4 rfl) (by decide +kernel) (zG_ro (ρ' := [(3, .int (Int32.ofInt (s + (-8)))), (2, .int (Int32.ofInt (v + (0)))), (4, .int (Int32.ofInt (zan (zus x s) (255)))), (0, .ref 115), (1, .int (Int32.ofInt x))]) rfl (zz_goto (pc := 57) xf_157_57 ((by exfalso; omega))))))))) (fun (zc10 : ¬ ((zan (zus x s) (255)) = 0)) => zz_iconst (pc := 47) xf_157_47 (zz_goto (pc := 48) xf_157_48 (zz_iadd (pc := 52) xf_157_52 (zz_istore_n (pc := 53) xf_157_53 (by decide +kernel) (zG_ro (ρ' := [(2, .int (Int32.ofInt (v + (1)))), (4, .int (Int32.ofInt (zan (zus x s) (255)))), (0, .ref 115), (1, .int (Int32.ofInt x)), (3, .int (Int32.ofInt s))]) rfl (zz_iinc (pc := 54) xf_157_54 (zmem 4 rfl) (by decide +kernel) (zG_ro (ρ' := [(3, .int (Int32.ofInt (s + (-8)))), (2, .int (Int32.ofInt (v + (1)))), (4, .int (Int32.ofInt (zan (zus x s) (255)))), (0, .ref 115), (1, .int (Int32.ofInt x))]) rfl (zz_goto (pc := 57) xf_157_57 ((by exfalso; omega))))))))))))) (fun (zc8 : ¬ ((zan (zus x s) (255)) = 0)) => zz_iload (pc := 23) xf_157_23 (zmem 0 rfl) (zz_bipush (pc := 25) (x := 33) xf_157_25 (by decide +kernel) (zz_bipush (pc := 27) (x := 126) xf_157_27 (by decide +kernel) (zz_call_v (pc := 29) (cu := 0) (su := 0) (fun ls hr => zz_calS xf_157_29 rfl ls hr) rfl (sp_isBetweenR (d := d) (by unfold zr32; omega) (by unfold zr32; omega) (by unfold zr32; omega)) (zz_ifbne (pc := 32) xf_157_32 (fun (zc11 : (33) ≤ (zan (zus x s) (255)) ∧ (zan (zus x s) (255)) ≤ (126)) => zz_iload_n (pc := 41) xf_157_41 (zmem 3 rfl) (zz_iload (pc := 42) xf_157_42 (zmem 0 rfl) (zz_if (pc := 44) xf_157_44 (by unfold zr32; omega) (fun (zc13 : (zan (zus x s) (255)) = 0) => zz_iconst (pc := 51) xf_157_51 (zz_iadd (pc := 52) xf_157_52 (zz_istore_n (pc := 53) xf_157_53 (by decide +kernel) (zG_ro (ρ' := [(2, .int (Int32.ofInt (v + (0)))), (4, .int (Int32.ofInt (zan (zus x s) (255)))), (0, .ref 115), (1, .int (Int32.ofInt x)), (3, .int (Int32.ofInt s))]) rfl (zz_iinc (pc := 54) xf_157_54 (zmem 4 rfl) (by decide +kernel) (zG_ro (ρ' := [(3, .int (Int32.ofInt (s + (-8)))), (2, .int (Int32.ofInt (v + (0)))), (4, .int (Int32.ofInt (zan (zus x s) (255)))), (0, .ref 115), (1, .int (Int32.ofInt x))]) rfl (zz_goto (pc := 57) xf_157_57 ((by exfalso; omega))))))))) (fun (zc14 : ¬ ((zan (zus x s) (255)) = 0)) => zz_iconst (pc := 47) xf_157_47 (zz_goto (pc := 48) xf_157_48 (zz_iadd (pc := 52) xf_157_52 (zz_istore_n (pc := 53) xf_157_53 (by decide +kernel) (zG_ro (ρ' := [(2, .int (Int32.ofInt (v + (1)))), (4, .int (Int32.ofInt (zan (zus x s) (255)))), (0, .ref 115), (1, .int (Int32.ofInt x)), (3, .int (Int32.ofInt s))]) rfl (zz_iinc (pc := 54) xf_157_54 (zmem 4 rfl) (by decide +kernel) (zG_ro (ρ' := [(3, .int (Int32.ofInt (s + (-8)))), (2, .int (Int32.ofInt (v + (1)))), (4, .int (Int32.ofInt (zan (zus x s) (255)))), (0, .ref 115), (1, .int (Int32.ofInt x))]) rfl (zz_goto (pc := 57) xf_157_57 ((by exfalso; omega))))))))))))) (fun (zc12 : ¬ ((33) ≤ (zan (zus x s) (255)) ∧ (zan (zus x s) (255)) ≤ (126))) => zz_aload_n (pc := 35) xf_157_35 (zmem 1 rfl) (zz_iconst (pc := 36) xf_157_36 (zz_call_v (pc := 37) (cu := 0) (su := 0) (fun ls hr => zz_calV xf_157_37 rfl zis_115 ls hr) rfl (sp_failsR (d := d) ) (zm_as (fun zM15 (ezM15 : zM15 = zup M 115 0 (1)) => zz_ireturn (pc := 40) xf_157_40 rfl (by decide +kernel) (by decide +kernel) (by first | (have h9 := hbad (by omega) (by omega) (by omega); exact ⟨zq_i (by unfold rapO; rw [if_neg h9]), by unfold rapM; rw [if_neg h9]; subst_vars; rfl⟩) | (have h9 := hok (by omega); have h8 := hz4 (by omega); exact ⟨zq_i (by unfold rapO; rw [if_pos h9, if_pos (by omega)]), by unfold rapM; rw [if_pos h9, if_pos (by omega)]; subst_vars; rfl⟩)))))))))))))))))))))))
  | succ zn ih =>
    intro v s i hs hi hP hv hm
    have hb := zby_b x i
    have hbe : zan (zus x s) 255 = zby x i := by rw [hs]; rfl
    rw [← hbe] at hb
    have hc0 := zcount_b (zsgp x) i.toNat
    have hok : i = 4 → zprn x := fun h j h0 h1 => hP j h0 (by omega)
    have hbad : ¬ (zan (zus x s) 255 = 0 ∨ 33 ≤ zan (zus x s) 255 ∧ zan (zus x s) 255 ≤ 126) → 0 ≤ i → i < 4 → ¬ zprn x := fun h h0 h1 hp => by
      have h2 := hp i h0 h1
      unfold zokb at h2
      rw [← hbe] at h2
      exact h h2
    have hz4 : i = 4 → v = zsgn x := fun h => by rw [hv, h]; rfl
    exact zG_mono (N := zn * 24 + 816 + 0 + 24) (by omega) (zz_iload_n (pc := 5) xf_157_5 (zmem 3 rfl) (zz_if (pc := 6) xf_157_6 (by unfold zr32; omega) (fun (zc1 : s < 0) => zz_aload_n (pc := 60) xf_157_60 (zmem 0 rfl) (zz_getI (pc := 61) xf_157_61 zis_115 (by decide +kernel) rfl (zz_iload_n (pc := 64) xf_157_64 (zmem 2 rfl) (zz_iadd (pc := 65) xf_157_65 (zz_bipush (pc := 66) (x := 45) xf_157_66 (by decide +kernel) (zz_icmp (pc := 68) xf_157_68 (by unfold zr32; omega) ⟨by decide, by decide⟩ (fun (zc3 : ¬ ((45) < ((M 115 26) + v))) => zz_aload_n (pc := 77) xf_157_77 (zmem 0 rfl) (zz_iconst (pc := 78) xf_157_78 (zz_putI (pc := 79) xf_157_79 zis_115 (by decide +kernel) rfl (by decide +kernel) (zm_as (fun zM5 (ezM5 : zM5 = zup M 115 0 (0)) => zz_bipush (pc := 82) (x := 24) xf_157_82 (by decide +kernel) (zz_istore_n (pc := 84) xf_157_84 (by decide +kernel) (zG_ro (ρ' := [(3, .int (Int32.ofInt (24))), (0, .ref 115), (1, .int (Int32.ofInt x)), (2, .int (Int32.ofInt v))]) rfl (zG_mono (N := 792) (by omega) (zG_sub (List.forall_mem_cons.mpr ⟨zmem 1 rfl, (List.forall_mem_cons.mpr ⟨zmem 2 rfl, (List.forall_mem_cons.mpr ⟨zmem 0 rfl, (fun p hp => absurd hp List.not_mem_nil)⟩)⟩)⟩) ((by have h9 := hok (by omega); have h8 := hz4 (by omega); have e1 : rapO M x = M 115 26 + zsgn x := (by unfold rapO; rw [if_pos h9, if_neg (by omega)]); have e2 : rapM M x = radM (zup M 115 0 0) x 4 := (by unfold rapM; rw [if_pos h9, if_neg (by omega)]); have e3 : zM5 = zup M 115 0 0 := (by subst_vars; rfl); have e4 : zup M 115 0 0 115 26 = M 115 26 := zup_ne (by decide); rw [e1, e2, e3, ← e4]; exact zl_appendR_85 (M0 := zup M 115 0 0) (by rw [e4]; have h7 := zcount_b (zsgp x) 4; have h6 : zsgn x = zcount (zsgp x) 4 := rfl; omega) 32 _ 0 _ rfl (by omega) (by omega) (by omega)))))))))))) (fun zc40 => have zc4 : (45) < ((M 115 26) + v) := Classical.not_not.mp zc40; zz_aload_n (pc := 71) xf_157_71 (zmem 0 rfl) (zz_iconst (pc := 72) xf_157_72 (zz_call_v (pc := 73) (cu := 0) (su := 0) (fun ls hr => zz_calV xf_157_73 rfl zis_115 ls hr) rfl (sp_failsR (d := d) ) (zm_as (fun zM6 (ezM6 : zM6 = zup M 115 0 (2)) => zz_ireturn (pc := 76) xf_157_76 rfl (by decide +kernel) (by decide +kernel) (by first | (have h9 := hbad (by omega) (by omega) (by omega); exact ⟨zq_i (by unfold rapO; rw [if_neg h9]), by unfold rapM; rw [if_neg h9]; subst_vars; rfl⟩) | (have h9 := hok (by omega); have h8 := hz4 (by omega); exact ⟨zq_i (by unfold rapO; rw [if_pos h9, if_pos (by omega)]), by unfold rapM; rw [if_pos h9, if_pos (by omega)]; subst_vars; rfl⟩))))))))))))) (fun (zc2 : ¬ (s < 0)) => zz_iload_n (pc := 9) xf_157_9 (zmem 1 rfl) (zz_iload_n (pc := 10) xf_157_10 (zmem 3 rfl) (zz_zus (pc := 11) xf_157_11 (zz_sipush (pc := 12) (x := 255) xf_157_12 (by decide +kernel) (zz_zan (pc := 15) xf_157_15 (zz_istore (pc := 16) xf_157_16 (by decide +kernel) (zG_ro (ρ' := [(4, .int (Int32.ofInt (zan (zus x s) (255)))), (0, .ref 115), (1, .int (Int32.ofInt x)), (2, .int (Int32.ofInt v)), (3, .int (Int32.ofInt s))]) rfl (zz_iload (pc := 18) xf_157_18 (zmem 0 rfl) (zz_if (pc := 20) xf_157_20 (by unfold zr32; omega) (fun (zc7 : (zan (zus x s) (255)) = 0) => zz_iload_n (pc := 41) xf_157_41 (zmem 3 rfl) (zz_iload (pc := 42) xf_157_42 (zmem 0 rfl) (zz_if (pc := 44) xf_157_44 (by unfold zr32; omega) (fun (zc9 : (zan (zus x s) (255)) = 0) => zz_iconst (pc := 51) xf_157_51 (zz_iadd (pc := 52) xf_157_52 (zz_istore_n (pc := 53) xf_157_53 (by decide +kernel) (zG_ro (ρ' := [(2, .int (Int32.ofInt (v + (0)))), (4, .int (Int32.ofInt (zan (zus x s) (255)))), (0, .ref 115), (1, .int (Int32.ofInt x)), (3, .int (Int32.ofInt s))]) rfl (zz_iinc (pc := 54) xf_157_54 (zmem 4 rfl) (by decide +kernel) (zG_ro (ρ' := [(3, .int (Int32.ofInt (s + (-8)))), (2, .int (Int32.ofInt (v + (0)))), (4, .int (Int32.ofInt (zan (zus x s) (255)))), (0, .ref 115), (1, .int (Int32.ofInt x))]) rfl (zz_goto (pc := 57) xf_157_57 (zG_mono (N := zn * 24 + 816) (by omega) (zG_sub (List.forall_mem_cons.mpr ⟨zmem 3 rfl, (List.forall_mem_cons.mpr ⟨zmem 4 rfl, (List.forall_mem_cons.mpr ⟨zmem 1 rfl, (List.forall_mem_cons.mpr ⟨zmem 0 rfl, (fun p hp => absurd hp List.not_mem_nil)⟩)⟩)⟩)⟩) (ih (v + (0)) (s + (-8)) (i + 1)  (by omega) (by omega) (fun j h0 h1 => if e : j = i then (by subst e; unfold zokb; omega) else hP j h0 (by omega)) (by rw [hv]; first | exact (zcount_t hi.1 (by unfold zsgp; rw [Int.toNat_of_nonneg hi.1]; omega)).symm | (rw [Int.add_zero]; exact (zcount_f hi.1 (by unfold zsgp; rw [Int.toNat_of_nonneg hi.1]; omega)).symm)) (by omega))))))))))) (fun (zc10 : ¬ ((zan (zus x s) (255)) = 0)) => zz_iconst (pc := 47) xf_157_47 (zz_goto (pc := 48) xf_157_48 (zz_iadd (pc := 52) xf_157_52 (zz_istore_n (pc := 53) xf_157_53 (by decide +kernel) (zG_ro (ρ' := [(2, .int (Int32.ofInt (v + (1)))), (4, .int (Int32.ofInt (zan (zus x s) (255)))), (0, .ref 115), (1, .int (Int32.ofInt x)), (3, .int (Int32.ofInt s))]) rfl (zz_iinc (pc := 54) xf_157_54 (zmem 4 rfl) (by decide +kernel) (zG_ro (ρ' := [(3, .int (Int32.ofInt (s + (-8)))), (2, .int (Int32.ofInt (v + (1)))), (4, .int (Int32.ofInt (zan (zus x s) (255)))), (0, .ref 115), (1, .int (Int32.ofInt x))]) rfl (zz_goto (pc := 57) xf_157_57 (zG_mono (N := zn * 24 + 816) (by omega) (zG_sub (List.forall_mem_cons.mpr ⟨zmem 3 rfl, (List.forall_mem_cons.mpr ⟨zmem 4 rfl, (List.forall_mem_cons.mpr ⟨zmem 1 rfl, (List.forall_mem_cons.mpr ⟨zmem 0 rfl, (fun p hp => absurd hp List.not_mem_nil)⟩)⟩)⟩)⟩) (ih (v + (1)) (s + (-8)) (i + 1)  (by omega) (by omega) (fun j h0 h1 => if e : j = i then (by subst e; unfold zokb; omega) else hP j h0 (by omega)) (by rw [hv]; first | exact (zcount_t hi.1 (by unfold zsgp; rw [Int.toNat_of_nonneg hi.1]; omega)).symm | (rw [Int.add_zero]; exact (zcount_f hi.1 (by unfold zsgp; rw [Int.toNat_of_nonneg hi.1]; omega)).symm)) (by omega))))))))))))))) (fun (zc8 : ¬ ((zan (zus x s) (255)) = 0)) => zz_iload (pc := 23) xf_157_23 (zmem 0 rfl) (zz_bipush (pc := 25) (x := 33) xf_157_25 (by decide +kernel) (zz_bipush (pc := 27) (x := 126) xf_157_27 (by decide +kernel) (zz_call_v (pc := 29) (cu := 0) (su := 0) (fun ls hr => zz_calS xf_157_29 rfl ls hr) rfl (sp_isBetweenR (d := d) (by unfold zr32; omega) (by unfold zr32; omega) (by unfold zr32; omega)) (zz_ifbne (pc := 32) xf_157_32 (fun (zc11 : (33) ≤ (zan (zus x s) (255)) ∧ (zan (zus x s) (255)) ≤ (126)) => zz_iload_n (pc := 41) xf_157_41 (zmem 3 rfl) (zz_iload (pc := 42) xf_157_42 (zmem 0 rfl) (zz_if (pc := 44) xf_157_44 (by unfold zr32; omega) (fun (zc13 : (zan (zus x s) (255)) = 0) => zz_iconst (pc := 51) xf_157_51 (zz_iadd (pc := 52) xf_157_52 (zz_istore_n (pc := 53) xf_157_53 (by decide +kernel) (zG_ro (ρ' := [(2, .int (Int32.ofInt (v + (0)))), (4, .int (Int32.ofInt (zan (zus x s) (255)))), (0, .ref 115), (1, .int (Int32.ofInt x)), (3, .int (Int32.ofInt s))]) rfl (zz_iinc (pc := 54) xf_157_54 (zmem 4 rfl) (by decide +kernel) (zG_ro (ρ' := [(3, .int (Int32.ofInt (s + (-8)))), (2, .int (Int32.ofInt (v + (0)))), (4, .int (Int32.ofInt (zan (zus x s) (255)))), (0, .ref 115), (1, .int (Int32.ofInt x))]) rfl (zz_goto (pc := 57) xf_157_57 (zG_mono (N := zn * 24 + 816) (by omega) (zG_sub (List.forall_mem_cons.mpr ⟨zmem 3 rfl, (List.forall_mem_cons.mpr ⟨zmem 4 rfl, (List.forall_mem_cons.mpr ⟨zmem 1 rfl, (List.forall_mem_cons.mpr ⟨zmem 0 rfl, (fun p hp => absurd hp List.not_mem_nil)⟩)⟩)⟩)⟩) (ih (v + (0)) (s + (-8)) (i + 1)  (by omega) (by omega) (fun j h0 h1 => if e : j = i then (by subst e; unfold zokb; omega) else hP j h0 (by omega)) (by rw [hv]; first | exact (zcount_t hi.1 (by unfold zsgp; rw [Int.toNat_of_nonneg hi.1]; omega)).symm | (rw [Int.add_zero]; exact (zcount_f hi.1 (by unfold zsgp; rw [Int.toNat_of_nonneg hi.1]; omega)).symm)) (by omega))))))))))) (fun (zc14 : ¬ ((zan (zus x s) (255)) = 0)) => zz_iconst (pc := 47) xf_157_47 (zz_goto (pc := 48) xf_157_48 (zz_iadd (pc := 52) xf_157_52 (zz_istore_n (pc := 53) xf_157_53 (by decide +kernel) (zG_ro (ρ' := [(2, .int (Int32.ofInt (v + (1)))), (4, .int (Int32.ofInt (zan (zus x s) (255)))), (0, .ref 115), (1, .int (Int32.ofInt x)), (3, .int (Int32.ofInt s))]) rfl (zz_iinc (pc := 54) xf_157_54 (zmem 4 rfl) (by decide +kernel) (zG_ro (ρ' := [(3, .int (Int32.ofInt (s + (-8)))), (2, .int (Int32.ofInt (v + (1)))), (4, .int (Int32.ofInt (zan (zus x s) (255)))), (0, .ref 115), (1, .int (Int32.ofInt x))]) rfl (zz_goto (pc := 57) xf_157_57 (zG_mono (N := zn * 24 + 816) (by omega) (zG_sub (List.forall_mem_cons.mpr ⟨zmem 3 rfl, (List.forall_mem_cons.mpr ⟨zmem 4 rfl, (List.forall_mem_cons.mpr ⟨zmem 1 rfl, (List.forall_mem_cons.mpr ⟨zmem 0 rfl, (fun p hp => absurd hp List.not_mem_nil)⟩)⟩)⟩)⟩) (ih (v + (1)) (s + (-8)) (i + 1)  (by omega) (by omega) (fun j h0 h1 => if e : j = i then (by subst e; unfold zokb; omega) else hP j h0 (by omega)) (by rw [hv]; first | exact (zcount_t hi.1 (by unfold zsgp; rw [Int.toNat_of_nonneg hi.1]; omega)).symm | (rw [Int.add_zero]; exact (zcount_f hi.1 (by unfold zsgp; rw [Int.toNat_of_nonneg hi.1]; omega)).symm)) (by omega))))))))))))))) (fun (zc12 : ¬ ((33) ≤ (zan (zus x s) (255)) ∧ (zan (zus x s) (255)) ≤ (126))) => zz_aload_n (pc := 35) xf_157_35 (zmem 1 rfl) (zz_iconst (pc := 36) xf_157_36 (zz_call_v (pc := 37) (cu := 0) (su := 0) (fun ls hr => zz_calV xf_157_37 rfl zis_115 ls hr) rfl (sp_failsR (d := d) ) (zm_as (fun zM15 (ezM15 : zM15 = zup M 115 0 (1)) => zz_ireturn (pc := 40) xf_157_40 rfl (by decide +kernel) (by decide +kernel) (by first | (have h9 := hbad (by omega) (by omega) (by omega); exact ⟨zq_i (by unfold rapO; rw [if_neg h9]), by unfold rapM; rw [if_neg h9]; subst_vars; rfl⟩) | (have h9 := hok (by omega); have h8 := hz4 (by omega); exact ⟨zq_i (by unfold rapO; rw [if_pos h9, if_pos (by omega)]), by unfold rapM; rw [if_pos h9, if_pos (by omega)]; subst_vars; rfl⟩)))))))))))))))))))))))
theorem sp_appendR {xs : List Int32} {d : Nat} {w : Bool} {M : zM}  {x : Int} (hu : 0 ≤ M 115 26 ∧ M 115 26 ≤ 45) : xrun2 xs (d + 2) 157 [.ref 115, .int (Int32.ofInt x)] (w, zheap M) = some (.inl (some (.int (Int32.ofInt (rapO M x)))), (w, zheap (rapM M x))) := by
  exact zrun_v (N := 1588) (by decide) rfl (zz_iconst (pc := 0) xf_157_0 (zz_istore_n (pc := 1) xf_157_1 (by decide +kernel) (zG_ro (ρ' := [(2, .int (Int32.ofInt (0))), (0, .ref 115), (1, .int (Int32.ofInt x))]) rfl (zz_bipush (pc := 2) (x := 24) xf_157_2 (by decide +kernel) (zz_istore_n (pc := 4) xf_157_4 (by decide +kernel) (zG_ro (ρ' := [(3, .int (Int32.ofInt (24))), (2, .int (Int32.ofInt (0))), (0, .ref 115), (1, .int (Int32.ofInt x))]) rfl (zG_mono (N := 1584) (by omega) (zG_sub (List.forall_mem_cons.mpr ⟨zmem 2 rfl, (List.forall_mem_cons.mpr ⟨zmem 3 rfl, (List.forall_mem_cons.mpr ⟨zmem 1 rfl, (List.forall_mem_cons.mpr ⟨zmem 0 rfl, (fun p hp => absurd hp List.not_mem_nil)⟩)⟩)⟩)⟩) (zl_appendR_5 hu 32 _ _ 0 (by omega) (by omega) (fun j h0 h1 => by omega) rfl (by omega))))))))))
end
noncomputable section
/-! The reference: doubt and share. -/
section ZRAW
variable {xrec : Nat → List Value → XW → Option (XO × XW)} {xs : List Int32} {k N pc len cu su : Nat} {ρ : XL} {st : List Value} {w : Bool} {M : zM} {Q : XO → XW → Prop}
theorem zz_raw1 {x : UInt64} {ix : Nat} (hc : xcode k pc = some (.invokestatic ix, len, 1, 1)) (hst : (Nat.ble 1 (xFr k) && Nat.ble (xcat st + 15) (xLo k)) = true) (hn : zG (xstep xrec xs k) k N (pc + 3) ρ (.long (Int64.ofInt (x.toInt64).toInt) :: st) cu su w M Q) : zG (xstep xrec xs k) k (N + 1) (pc) ρ (.double x :: st) cu su w M Q := zg_st (fun ls => by
  unfold xstep; dsimp only; rw [hc]; dsimp only; rw [hst, cond_true, Int64.ofInt_toInt]; rfl) hn
theorem zz_raw2 {x : UInt32} {ix : Nat} (hc : xcode k pc = some (.invokestatic ix, len, 2, 1)) (hst : (Nat.ble 1 (xFr k) && Nat.ble (xcat st + 15) (xLo k)) = true) (hn : zG (xstep xrec xs k) k N (pc + 3) ρ (.int (Int32.ofInt (x.toInt32).toInt) :: st) cu su w M Q) : zG (xstep xrec xs k) k (N + 1) (pc) ρ (.float x :: st) cu su w M Q := zg_st (fun ls => by
  unfold xstep; dsimp only; rw [hc]; dsimp only; rw [hst, cond_true, Int32.ofInt_toInt]; rfl) hn
end ZRAW
def znan64 (x : UInt64) : Prop := ¬ y_cmp (y_cd .eq) (Op.cmpValue (FP.dcmp x x) .l) 0 = true
def znan32 (x : UInt32) : Prop := ¬ y_cmp (y_cd .eq) (Op.cmpValue (FP.fcmp x x) .l) 0 = true
theorem sp_isNaN64 {xs : List Int32} {d : Nat} {w : Bool} {M : zM} {x : UInt64} : xrun2 xs (d + 1) 216 [.double x] (w, zheap M) = some (.inl (some (.int (Int32.ofInt (zb (znan64 x))))), (w, zheap M)) := by
  exact zrun_v (N := 6) (by decide) rfl (zz_dload_n (pc := 0) xf_216_0 (zmem 0 rfl) (zz_dload_n (pc := 1) xf_216_1 (zmem 0 rfl) (zz_dcmp (pc := 2) xf_216_2 xf_216_3 (fun (zc1 : y_cmp (y_cd .eq) (Op.cmpValue (FP.dcmp x x) .l) 0 = true) => zz_iconst (pc := 10) xf_216_10 (zz_zreturn (pc := 11) xf_216_11 rfl (by decide +kernel) (by decide +kernel) (by decide) (by first | exact ⟨zq_i (zb_t (show znan64 x by assumption)).symm, rfl⟩ | exact ⟨zq_i (zb_f (not_not_intro (by assumption))).symm, rfl⟩))) (fun (zc2 : ¬ y_cmp (y_cd .eq) (Op.cmpValue (FP.dcmp x x) .l) 0 = true) => zz_iconst (pc := 6) xf_216_6 (zz_goto (pc := 7) xf_216_7 (zz_zreturn (pc := 11) xf_216_11 rfl (by decide +kernel) (by decide +kernel) (by decide) (by first | exact ⟨zq_i (zb_t (show znan64 x by assumption)).symm, rfl⟩ | exact ⟨zq_i (zb_f (not_not_intro (by assumption))).symm, rfl⟩)))))))
theorem sp_isNaN32 {xs : List Int32} {d : Nat} {w : Bool} {M : zM} {x : UInt32} : xrun2 xs (d + 1) 218 [.float x] (w, zheap M) = some (.inl (some (.int (Int32.ofInt (zb (znan32 x))))), (w, zheap M)) := by
  exact zrun_v (N := 6) (by decide) rfl (zz_fload_n (pc := 0) xf_218_0 (zmem 0 rfl) (zz_fload_n (pc := 1) xf_218_1 (zmem 0 rfl) (zz_fcmp (pc := 2) xf_218_2 xf_218_3 (fun (zc1 : y_cmp (y_cd .eq) (Op.cmpValue (FP.fcmp x x) .l) 0 = true) => zz_iconst (pc := 10) xf_218_10 (zz_zreturn (pc := 11) xf_218_11 rfl (by decide +kernel) (by decide +kernel) (by decide) (by first | exact ⟨zq_i (zb_t (show znan32 x by assumption)).symm, rfl⟩ | exact ⟨zq_i (zb_f (not_not_intro (by assumption))).symm, rfl⟩))) (fun (zc2 : ¬ y_cmp (y_cd .eq) (Op.cmpValue (FP.fcmp x x) .l) 0 = true) => zz_iconst (pc := 6) xf_218_6 (zz_goto (pc := 7) xf_218_7 (zz_zreturn (pc := 11) xf_218_11 rfl (by decide +kernel) (by decide +kernel) (by decide) (by first | exact ⟨zq_i (zb_t (show znan32 x by assumption)).symm, rfl⟩ | exact ⟨zq_i (zb_f (not_not_intro (by assumption))).symm, rfl⟩)))))))
noncomputable def zrb64 (x : UInt64) : Int := @ite _ (znan64 x) (Classical.propDecidable _) (9221120237041090560) (x.toInt64).toInt
noncomputable def zrb32 (x : UInt32) : Int := @ite _ (znan32 x) (Classical.propDecidable _) (2143289344) (x.toInt32).toInt
theorem sp_doubleToLongBits {xs : List Int32} {d : Nat} {w : Bool} {M : zM} {x : UInt64} : xrun2 xs (d + 2) 217 [.double x] (w, zheap M) = some (.inl (some (.long (Int64.ofInt (zrb64 x)))), (w, zheap M)) := by
  exact zrun_v (N := 5) (by decide) rfl (zz_dload_n (pc := 0) xf_217_0 (zmem 0 rfl) (zz_call_v (pc := 1) (cu := 0) (su := 0) (fun ls hr => zz_calS xf_217_1 rfl ls hr) rfl (sp_isNaN64 (d := d) ) (zz_ifbne (pc := 4) xf_217_4 (fun (zc1 : znan64 x) => zz_ldc2_w (pc := 12) (v := .long (Int64.ofInt (9221120237041090560))) xf_217_12 (by decide +kernel) (zz_lreturn (pc := 15) xf_217_15 rfl (by decide +kernel) (by decide +kernel) (by first | exact ⟨zq_j (if_pos (by assumption)).symm, rfl⟩ | exact ⟨zq_j (if_neg (by assumption)).symm, rfl⟩))) (fun (zc2 : ¬ (znan64 x)) => zz_dload_n (pc := 7) xf_217_7 (zmem 0 rfl) (zz_raw1 (pc := 8) xf_217_8 (by decide +kernel) (zz_lreturn (pc := 11) xf_217_11 rfl (by decide +kernel) (by decide +kernel) (by first | exact ⟨zq_j (if_pos (by assumption)).symm, rfl⟩ | exact ⟨zq_j (if_neg (by assumption)).symm, rfl⟩)))))))
theorem sp_floatToIntBits {xs : List Int32} {d : Nat} {w : Bool} {M : zM} {x : UInt32} : xrun2 xs (d + 2) 219 [.float x] (w, zheap M) = some (.inl (some (.int (Int32.ofInt (zrb32 x)))), (w, zheap M)) := by
  exact zrun_v (N := 5) (by decide) rfl (zz_fload_n (pc := 0) xf_219_0 (zmem 0 rfl) (zz_call_v (pc := 1) (cu := 0) (su := 0) (fun ls hr => zz_calS xf_219_1 rfl ls hr) rfl (sp_isNaN32 (d := d) ) (zz_ifbne (pc := 4) xf_219_4 (fun (zc1 : znan32 x) => zz_ldc (pc := 12) (v := .int (Int32.ofInt (2143289344))) xf_219_12 (by decide +kernel) (zz_ireturn (pc := 14) xf_219_14 rfl (by decide +kernel) (by decide +kernel) (by first | exact ⟨zq_i (if_pos (by assumption)).symm, rfl⟩ | exact ⟨zq_i (if_neg (by assumption)).symm, rfl⟩))) (fun (zc2 : ¬ (znan32 x)) => zz_fload_n (pc := 7) xf_219_7 (zmem 0 rfl) (zz_raw2 (pc := 8) xf_219_8 (by decide +kernel) (zz_ireturn (pc := 11) xf_219_11 rfl (by decide +kernel) (by decide +kernel) (by first | exact ⟨zq_i (if_pos (by assumption)).symm, rfl⟩ | exact ⟨zq_i (if_neg (by assumption)).symm, rfl⟩)))))))
theorem zl_doubtBitsR_9 {xs : List Int32} {d : Nat} {w : Bool} {M : zM} {C : zM} {n : Int} (hB : zBI n C zn1) (hA : rA C M) (hL : rB C M)  : ∀ (zn : Nat) (i : Int) (v : UInt64), (v = zdbt (C (zn1 + 11)) i.toNat) → (0 ≤ i ∧ i ≤ zsz C zn1) → zsz C zn1 - i ≤ (zn : Int) → zG (xstep (xrun2 xs (d + 2)) xs 181) 181 (zn * 20 + 20) 9 [(0, .ref 115), (1, .double v), (3, .int (Int32.ofInt i))] [] 0 0 w M (fun o σ => o = (.inl (some (.long (Int64.ofInt (zrb64 (FP.dsub FP.dconst1 (zdbt (C (zn1 + 11)) (zsz C zn1).toNat)))))) : XO) ∧ σ = (w, zheap M)) := by
  intro zn
  induction zn with
  | zero =>
    intro i v hv hi hm
    obtain ⟨⟨a1, a2⟩, a3⟩ := id hA
    obtain ⟨⟨g1, g2⟩, ⟨g3, g4⟩, g5⟩ := id hB.g
    obtain ⟨g6, g7⟩ := hB.g.sz
    have hz : zsz C zn1 = C (zn1 + 1) 0 * C (zn1 + 1) 1 := rfl
    have hbl := hB.b2.1
    have hps := zp64_dbt (F := C (zn1 + 11)) i.toNat (fun j hj => hbl j (by omega))
    rw [← hv] at hps
    have hle : i < zsz C zn1 → M 120 i.toNat = C (zn1 + 11) i.toNat := fun h => hL _ (by omega)
    have hsh : i < zsz C zn1 → zp64 (FP.ddiv (FP.i2d (Int32.ofInt (M 120 i.toNat))) 4696837146684686336) := fun h => by rw [hle h]; exact zp64_sh (hbl _ (by omega))
    have hi2 : i < zsz C zn1 → zp64 (FP.i2d (Int32.ofInt (M 120 i.toNat))) := fun h => by rw [hle h]; exact zp64_i (by have := hbl i.toNat (by omega); omega)
    exact zG_mono (N := 0 + 20) (by omega) (zz_iload_n (pc := 9) xf_181_9 (zmem 2 rfl) (zz_aload_n (pc := 10) xf_181_10 (zmem 0 rfl) (zz_call_v (pc := 11) (cu := 0) (su := 0) (fun ls hr => zz_calV xf_181_11 rfl zis_115 ls hr) rfl (sp_cellsR (d := d + 1) hB hA) (zz_icmp (pc := 14) xf_181_14 (by unfold zr32; omega) (by unfold zr32; omega) (fun (zc1 : ¬ (i < (zsz C zn1))) => zz_dconst1 (pc := 44) xf_181_44 (zz_dload_n (pc := 45) xf_181_45 (zmem 1 rfl) (zz_dsub (pc := 46) xf_181_46 (z64_m (zn64_sub1 (zp64_n hps))) (zz_call_v (pc := 47) (cu := 0) (su := 0) (fun ls hr => zz_calS xf_181_47 rfl ls hr) rfl (sp_doubleToLongBits (d := d) ) (zz_lreturn (pc := 50) xf_181_50 rfl (by decide +kernel) (by decide +kernel) (by exact ⟨zq_j (by rw [hv, show i.toNat = (zsz C zn1).toNat by omega]), rfl⟩)))))) (fun zc20 => have zc2 : i < (zsz C zn1) := Classical.not_not.mp zc20; zz_aload_n (pc := 17) xf_181_17 (zmem 0 rfl) (zz_getR (pc := 18) xf_181_18 zis_115 (by decide +kernel) rfl (zz_iload_n (pc := 21) xf_181_21 (zmem 2 rfl) (zz_iald (pc := 22) xf_181_22 zis_120 (by omega) (zz_i2d (pc := 23) xf_181_23 (zz_ldc2_w (pc := 24) (v := .double 4696837146684686336) xf_181_24 (by decide +kernel) (zz_ddiv (pc := 27) xf_181_27 (z64_m (zp64_n (hsh (by omega)))) (zz_dstore (pc := 28) xf_181_28 (by decide +kernel) (zG_ro (ρ' := [(4, .double (FP.ddiv (FP.i2d (Int32.ofInt (M 120 i.toNat))) 4696837146684686336)), (0, .ref 115), (1, .double v), (3, .int (Int32.ofInt i))]) rfl (zz_dload_n (pc := 30) xf_181_30 (zmem 2 rfl) (zz_dload (pc := 31) xf_181_31 (zmem 0 rfl) (zz_dload (pc := 33) xf_181_33 (zmem 0 rfl) (zz_dmul (pc := 35) xf_181_35 (z64_m (zp64_n (zp64_sq (hsh (by omega))))) (zz_dadd (pc := 36) xf_181_36 (z64_m (zp64_n (zp64_add hps (zp64_sq (hsh (by omega)))))) (zz_dstore_n (pc := 37) xf_181_37 (by decide +kernel) (zG_ro (ρ' := [(1, .double (FP.dadd v (FP.dmul (FP.ddiv (FP.i2d (Int32.ofInt (M 120 i.toNat))) 4696837146684686336) (FP.ddiv (FP.i2d (Int32.ofInt (M 120 i.toNat))) 4696837146684686336)))), (4, .double (FP.ddiv (FP.i2d (Int32.ofInt (M 120 i.toNat))) 4696837146684686336)), (0, .ref 115), (3, .int (Int32.ofInt i))]) rfl (zz_iinc (pc := 38) xf_181_38 (zmem 3 rfl) (by decide +kernel) (zG_ro (ρ' := [(3, .int (Int32.ofInt (i + 1))), (1, .double (FP.dadd v (FP.dmul (FP.ddiv (FP.i2d (Int32.ofInt (M 120 i.toNat))) 4696837146684686336) (FP.ddiv (FP.i2d (Int32.ofInt (M 120 i.toNat))) 4696837146684686336)))), (4, .double (FP.ddiv (FP.i2d (Int32.ofInt (M 120 i.toNat))) 4696837146684686336)), (0, .ref 115)]) rfl (zz_goto (pc := 41) xf_181_41 ((by exfalso; omega)))))))))))))))))))))))))
  | succ zn ih =>
    intro i v hv hi hm
    obtain ⟨⟨a1, a2⟩, a3⟩ := id hA
    obtain ⟨⟨g1, g2⟩, ⟨g3, g4⟩, g5⟩ := id hB.g
    obtain ⟨g6, g7⟩ := hB.g.sz
    have hz : zsz C zn1 = C (zn1 + 1) 0 * C (zn1 + 1) 1 := rfl
    have hbl := hB.b2.1
    have hps := zp64_dbt (F := C (zn1 + 11)) i.toNat (fun j hj => hbl j (by omega))
    rw [← hv] at hps
    have hle : i < zsz C zn1 → M 120 i.toNat = C (zn1 + 11) i.toNat := fun h => hL _ (by omega)
    have hsh : i < zsz C zn1 → zp64 (FP.ddiv (FP.i2d (Int32.ofInt (M 120 i.toNat))) 4696837146684686336) := fun h => by rw [hle h]; exact zp64_sh (hbl _ (by omega))
    have hi2 : i < zsz C zn1 → zp64 (FP.i2d (Int32.ofInt (M 120 i.toNat))) := fun h => by rw [hle h]; exact zp64_i (by have := hbl i.toNat (by omega); omega)
    exact zG_mono (N := zn * 20 + 20 + 0 + 20) (by omega) (zz_iload_n (pc := 9) xf_181_9 (zmem 2 rfl) (zz_aload_n (pc := 10) xf_181_10 (zmem 0 rfl) (zz_call_v (pc := 11) (cu := 0) (su := 0) (fun ls hr => zz_calV xf_181_11 rfl zis_115 ls hr) rfl (sp_cellsR (d := d + 1) hB hA) (zz_icmp (pc := 14) xf_181_14 (by unfold zr32; omega) (by unfold zr32; omega) (fun (zc1 : ¬ (i < (zsz C zn1))) => zz_dconst1 (pc := 44) xf_181_44 (zz_dload_n (pc := 45) xf_181_45 (zmem 1 rfl) (zz_dsub (pc := 46) xf_181_46 (z64_m (zn64_sub1 (zp64_n hps))) (zz_call_v (pc := 47) (cu := 0) (su := 0) (fun ls hr => zz_calS xf_181_47 rfl ls hr) rfl (sp_doubleToLongBits (d := d) ) (zz_lreturn (pc := 50) xf_181_50 rfl (by decide +kernel) (by decide +kernel) (by exact ⟨zq_j (by rw [hv, show i.toNat = (zsz C zn1).toNat by omega]), rfl⟩)))))) (fun zc20 => have zc2 : i < (zsz C zn1) := Classical.not_not.mp zc20; zz_aload_n (pc := 17) xf_181_17 (zmem 0 rfl) (zz_getR (pc := 18) xf_181_18 zis_115 (by decide +kernel) rfl (zz_iload_n (pc := 21) xf_181_21 (zmem 2 rfl) (zz_iald (pc := 22) xf_181_22 zis_120 (by omega) (zz_i2d (pc := 23) xf_181_23 (zz_ldc2_w (pc := 24) (v := .double 4696837146684686336) xf_181_24 (by decide +kernel) (zz_ddiv (pc := 27) xf_181_27 (z64_m (zp64_n (hsh (by omega)))) (zz_dstore (pc := 28) xf_181_28 (by decide +kernel) (zG_ro (ρ' := [(4, .double (FP.ddiv (FP.i2d (Int32.ofInt (M 120 i.toNat))) 4696837146684686336)), (0, .ref 115), (1, .double v), (3, .int (Int32.ofInt i))]) rfl (zz_dload_n (pc := 30) xf_181_30 (zmem 2 rfl) (zz_dload (pc := 31) xf_181_31 (zmem 0 rfl) (zz_dload (pc := 33) xf_181_33 (zmem 0 rfl) (zz_dmul (pc := 35) xf_181_35 (z64_m (zp64_n (zp64_sq (hsh (by omega))))) (zz_dadd (pc := 36) xf_181_36 (z64_m (zp64_n (zp64_add hps (zp64_sq (hsh (by omega)))))) (zz_dstore_n (pc := 37) xf_181_37 (by decide +kernel) (zG_ro (ρ' := [(1, .double (FP.dadd v (FP.dmul (FP.ddiv (FP.i2d (Int32.ofInt (M 120 i.toNat))) 4696837146684686336) (FP.ddiv (FP.i2d (Int32.ofInt (M 120 i.toNat))) 4696837146684686336)))), (4, .double (FP.ddiv (FP.i2d (Int32.ofInt (M 120 i.toNat))) 4696837146684686336)), (0, .ref 115), (3, .int (Int32.ofInt i))]) rfl (zz_iinc (pc := 38) xf_181_38 (zmem 3 rfl) (by decide +kernel) (zG_ro (ρ' := [(3, .int (Int32.ofInt (i + 1))), (1, .double (FP.dadd v (FP.dmul (FP.ddiv (FP.i2d (Int32.ofInt (M 120 i.toNat))) 4696837146684686336) (FP.ddiv (FP.i2d (Int32.ofInt (M 120 i.toNat))) 4696837146684686336)))), (4, .double (FP.ddiv (FP.i2d (Int32.ofInt (M 120 i.toNat))) 4696837146684686336)), (0, .ref 115)]) rfl (zz_goto (pc := 41) xf_181_41 (zG_mono (N := zn * 20 + 20) (by omega) (zG_sub (List.forall_mem_cons.mpr ⟨zmem 3 rfl, (List.forall_mem_cons.mpr ⟨zmem 1 rfl, (List.forall_mem_cons.mpr ⟨zmem 0 rfl, (fun p hp => absurd hp List.not_mem_nil)⟩)⟩)⟩) (ih (i + 1) (FP.dadd v (FP.dmul (zshd (M 120 i.toNat)) (zshd (M 120 i.toNat))))  (by rw [hv, hle (by omega)]; exact (zdbt_s hi.1).symm) (by omega) (by omega)))))))))))))))))))))))))))
theorem sp_doubtBitsR {xs : List Int32} {d : Nat} {w : Bool} {M : zM} {C : zM} {n : Int} (hB : zBI n C zn1) (hA : rA C M) (hL : rB C M) : xrun2 xs (d + 3) 181 [.ref 115] (w, zheap M) = some (.inl (some (.long (Int64.ofInt (zrb64 (FP.dsub FP.dconst1 (zdbt (C (zn1 + 11)) (zsz C zn1).toNat)))))), (w, zheap (zup M 115 0 0))) := by
  exact zrun_v (N := 747) (by decide) rfl (zz_aload_n (pc := 0) xf_181_0 (zmem 0 rfl) (zz_iconst (pc := 1) xf_181_1 (zz_putI (pc := 2) xf_181_2 zis_115 (by decide +kernel) rfl (by decide +kernel) (zm_as (fun zM1 (ezM1 : zM1 = zup M 115 0 (0)) => zz_dconst0 (pc := 5) xf_181_5 (zz_dstore_n (pc := 6) xf_181_6 (by decide +kernel) (zG_ro (ρ' := [(1, .double FP.dconst0), (0, .ref 115)]) rfl (zz_iconst (pc := 7) xf_181_7 (zz_istore_n (pc := 8) xf_181_8 (by decide +kernel) (zG_ro (ρ' := [(3, .int (Int32.ofInt (0))), (1, .double FP.dconst0), (0, .ref 115)]) rfl (zG_mono (N := 740) (by omega) (zG_sub (List.forall_mem_cons.mpr ⟨zmem 2 rfl, (List.forall_mem_cons.mpr ⟨zmem 1 rfl, (List.forall_mem_cons.mpr ⟨zmem 0 rfl, (fun p hp => absurd hp List.not_mem_nil)⟩)⟩)⟩) ((by have h9 : zM1 = zup M 115 0 0 := (by subst_vars; rfl); rw [h9]; have h8 := hB.g.sz; exact zl_doubtBitsR_9 hB (rA_c (zup_ne (by decide)) (zup_ne (by decide)) (zup_or (by decide)) hA) (rB_c (zup_or (by decide)) hL) 36 0 FP.dconst0 rfl (by unfold zsz; omega) (by unfold zsz; omega)))))))))))))))
theorem sp_shareBitsR {xs : List Int32} {d : Nat} {w : Bool} {M : zM} {C : zM} {n : Int} (hB : zBI n C zn1) (hA : rA C M) (hL : rB C M) : xrun2 xs (d + 3) 182 [.ref 115] (w, zheap M) = some (.inl (some (.int (Int32.ofInt (zrb32 (FP.fdiv (FP.i2f (Int32.ofInt (M 120 (((zbest (M 120) (zsz C zn1).toNat : Nat) : Int)).toNat))) 1232348160))))), (w, zheap (zup M 115 0 0))) := by
  obtain ⟨⟨a1, a2⟩, a3⟩ := id hA
  obtain ⟨⟨g1, g2⟩, ⟨g3, g4⟩, g5⟩ := id hB.g
  obtain ⟨g6, g7⟩ := hB.g.sz
  have hz : zsz C zn1 = C (zn1 + 1) 0 * C (zn1 + 1) 1 := rfl
  have hbst : ∀ F : zF, zbest F (zsz C zn1).toNat < (zsz C zn1).toNat := fun F => zbest_lt F (by omega)
  have hbl := hB.b2.1
  have hr0 : ∀ j : Nat, (j : Int) < zsz C zn1 → 0 ≤ M 120 j ∧ M 120 j ≤ 1000000 := fun j hj => by rw [hL j hj]; exact hbl j (by omega)
  have hb0 := hbst (M 120)
  have hbv := hr0 (((zbest (M 120) (zsz C zn1).toNat : Nat) : Int)).toNat (by omega)
  have hsh : zn32 (FP.fdiv (FP.i2f (Int32.ofInt (M 120 (((zbest (M 120) (zsz C zn1).toNat : Nat) : Int)).toNat))) 1232348160) := zn32_sh (by omega)
  have hA0 : rA C (zup M 115 0 0) := rA_c (zup_ne (by decide)) (zup_ne (by decide)) (zup_or (by decide)) hA
  have hL0 : rB C (zup M 115 0 0) := rB_c (zup_or (by decide)) hL
  have h120 : zup M 115 0 0 120 = M 120 := zup_or (by decide)
  exact zrun_v (N := 12) (by decide) rfl (zz_aload_n (pc := 0) xf_182_0 (zmem 0 rfl) (zz_iconst (pc := 1) xf_182_1 (zz_putI (pc := 2) xf_182_2 zis_115 (by decide +kernel) rfl (by decide +kernel) (zm_as (fun zM1 (ezM1 : zM1 = zup M 115 0 (0)) => zz_aload_n (pc := 5) xf_182_5 (zmem 0 rfl) (zz_getR (pc := 6) xf_182_6 zis_115 (by decide +kernel) rfl (zz_aload_n (pc := 9) xf_182_9 (zmem 0 rfl) (zz_call_v (pc := 10) (cu := 0) (su := 0) (fun ls hr => zz_calV xf_182_10 rfl zis_115 ls hr) rfl (sp_greatestS2 (d := d) hB (by subst_vars; exact hA0) (by subst_vars; rw [h120]; exact hr0)) (zz_iald (pc := 13) xf_182_13 zis_120 (by have h9 := hbst (zM1 120); omega) (zz_i2f (pc := 14) xf_182_14 (zz_ldc (pc := 15) (v := .float 1232348160) xf_182_15 (by decide +kernel) (zz_fdiv (pc := 17) xf_182_17 (by subst_vars; rw [h120]; exact z32_m hsh) (zz_call_v (pc := 18) (cu := 0) (su := 0) (fun ls hr => zz_calS xf_182_18 rfl ls hr) rfl (sp_floatToIntBits (d := d) ) (zz_ireturn (pc := 21) xf_182_21 rfl (by decide +kernel) (by decide +kernel) (by subst_vars; exact ⟨zq_i (by rw [h120]), rfl⟩)))))))))))))))
end
noncomputable section
/-! The reference: ways. -/
/-- the class's row of ways' costs and the reference's; finite costs are at most b -/
def rwy (n b : Int) (W K : zF) : Prop := ∀ j : Nat, (j : Int) < n → (W j = 1000000 ∧ K j = -1) ∨ ((0 ≤ W j ∧ W j ≤ b) ∧ K j = W j)
theorem rwy_m {n b b' : Int} {W K : zF} (h : b ≤ b') (hw : rwy n b W K) : rwy n b' W K := fun j hj => by
  have := hw j hj
  omega
theorem rwy_up {n b x : Int} {W K : zF} {c : Nat} (hx : 0 ≤ x ∧ x ≤ b) (hw : rwy n b W K) : rwy n b (zrup W c x) (zrup K c x) := fun j hj => by
  have := hw j hj
  unfold zrup
  split <;> omega
theorem zup_row {M : zM} {q j : Nat} {x : Int} : zup M q j x q = zrup (M q) j x := by
  funext i
  unfold zup zrup
  by_cases h : i = j
  · subst h
    simp
  · simp [h]
theorem zl_findWaysR_53 {xs : List Int32} {d : Nat} {w : Bool}  {C : zM} {n : Int} (hB : zBI n C zn1) {M0 : zM} (hA : rA C M0) (hC : rC C M0) {c f0 b : Int} {W : zF} {NK : Nat} {Q : XO → XW → Prop} (hb : 0 ≤ b ∧ b ≤ 900000) (hc : 0 ≤ c ∧ c < zsz C zn1) (hk : ∀ (f2 : Int) (M2 : zM), (∀ q : Nat, ¬ q = 134 → M2 q = M0 q) → (∀ j : Nat, zsz C zn1 ≤ (j : Int) → M2 134 j = M0 134 j) → (zfree C zn1 c → rwy (zsz C zn1) (b + 36) (zim C zn1 c 4 (W, 0)).1 (M2 134) ∧ f2 = if (zim C zn1 c 4 (W, 0)).2 = 0 then f0 else 1) → (¬ zfree C zn1 c → rwy (zsz C zn1) b W (M2 134) ∧ f2 = f0) → zG (xstep (xrun2 xs (d + 3)) xs 196) 196 NK 42 [(0, .ref 115), (2, .int (Int32.ofInt f2)), (3, .int (Int32.ofInt (c + 1)))] [] 0 0 w M2 Q) : ∀ (zn : Nat) (f e : Int) (M : zM), (∀ q : Nat, ¬ q = 134 → M q = M0 q) → (∀ j : Nat, zsz C zn1 ≤ (j : Int) → M 134 j = M0 134 j) → (rwy (zsz C zn1) (b + 9 * e) (zim C zn1 c e.toNat (W, 0)).1 (M 134)) → (f = if (zim C zn1 c e.toNat (W, 0)).2 = 0 then f0 else 1) → (zfree C zn1 c ∨ e = 0) → (0 ≤ e ∧ e ≤ 4) → 4 - e ≤ (zn : Int) → zG (xstep (xrun2 xs (d + 3)) xs 196) 196 (zn * 56 + (NK + 56)) 53 [(0, .ref 115), (2, .int (Int32.ofInt f)), (3, .int (Int32.ofInt c)), (4, .int (Int32.ofInt e))] [] 0 0 w M Q := by
  intro zn
  induction zn with
  | zero =>
    intro f e M hX hY hK hf hfr he hm
    obtain ⟨g6, g7⟩ := hB.g.sz
    have hz : zsz C zn1 = C (zn1 + 1) 0 * C (zn1 + 1) 1 := rfl
    have hA2 : rA C M := rA_c (by rw [hX _ (by decide)]) (by rw [hX _ (by decide)]) (hX _ (by decide)) hA
    have hcn : e < 4 → 0 ≤ C (zn1 + 4) (c * 4 + e).toNat ∧ C (zn1 + 4) (c * 4 + e).toNat ≤ 35 := fun h => hB.b1.2.1 _ (by omega)
    have hM7 : M 117 = M0 117 := hX _ (by decide)
    have hnz : e < 4 → (0 ≤ C (zn1 + 4) (c * 4 + e).toNat ∧ C (zn1 + 4) (c * 4 + e).toNat < zsz C zn1) ∧ (C (zn1 + 4) (c * 4 + e).toNat = c ∨ zfree C zn1 c ∧ zfree C zn1 (C (zn1 + 4) (c * 4 + e).toNat)) := fun h => by
      rw [hB.b1.2.2.1 (c * 4 + e).toNat (by omega), zcn_at hc.1 ⟨he.1, h⟩ rfl]
      exact zjn_n hc
    have hcc := hK c.toNat (by omega)
    have hccb := hB.b5 c.toNat (by omega)
    have hnn : e < 4 → _ := fun h => hK (C (zn1 + 4) (c * 4 + e).toNat).toNat (by have := (hnz h).1; omega)
    have hco : e < 4 → M 117 (C (zn1 + 4) (c * 4 + e).toNat).toNat = C (zn1 + 3) (C (zn1 + 4) (c * 4 + e).toNat).toNat := fun h => by have := (hnz h).1; rw [hM7]; exact hC _ (by omega)
    have hcb : e < 4 → 1 ≤ C (zn1 + 3) (C (zn1 + 4) (c * 4 + e).toNat).toNat ∧ C (zn1 + 3) (C (zn1 + 4) (c * 4 + e).toNat).toNat ≤ 9 := fun h => hB.b5 _ (by have := (hnz h).1; omega)
    have hzc : zco C zn1 (zim C zn1 c e.toNat (W, 0)).1 c e = if (zim C zn1 c e.toNat (W, 0)).1 (C (zn1 + 4) (c * 4 + e).toNat).toNat < 1000000 then (zim C zn1 c e.toNat (W, 0)).1 (C (zn1 + 4) (c * 4 + e).toNat).toNat + C (zn1 + 3) (C (zn1 + 4) (c * 4 + e).toNat).toNat else 1000000 := rfl
    have hf01 := zim_01 (M := C) (a := zn1) (c := c) e.toNat (W, 0) (Or.inl rfl)
    exact zG_mono (N := NK + 56) (by omega) (zz_iload (pc := 53) xf_196_53 (zmem 3 rfl) (zz_iconst (pc := 55) xf_196_55 (zz_icmp (pc := 56) xf_196_56 (by first | (unfold zr32; omega) | (have q1 := hnn (by omega); have q2 := hcb (by omega); have q3 := hco (by omega); have q4 := (hnz (by omega)).1; unfold zr32; omega)) ⟨by decide, by decide⟩ (fun (zc1 : ¬ (e < (4))) => zz_iinc (pc := 157) xf_196_157 (zmem 2 rfl) (by decide +kernel) (zG_ro (ρ' := [(3, .int (Int32.ofInt (c + 1))), (0, .ref 115), (2, .int (Int32.ofInt f)), (4, .int (Int32.ofInt e))]) rfl (zz_goto (pc := 160) xf_196_160 (zG_mono (N := NK) (by omega) (zG_sub (List.forall_mem_cons.mpr ⟨zmem 1 rfl, (List.forall_mem_cons.mpr ⟨zmem 2 rfl, (List.forall_mem_cons.mpr ⟨zmem 0 rfl, (fun p hp => absurd hp List.not_mem_nil)⟩)⟩)⟩) (hk _ _ hX hY (fun h => by have e4 : e = 4 := (by first | omega | contradiction); subst e4; exact ⟨rwy_m (by omega) hK, hf⟩) (fun h => by have e0 : e = 0 := hfr.resolve_left h; subst e0; exact ⟨rwy_m (by omega) hK, hf⟩))))))) (fun zc20 => have zc2 : e < (4) := Classical.not_not.mp zc20; zz_aload_n (pc := 59) xf_196_59 (zmem 0 rfl) (zz_iload_n (pc := 60) xf_196_60 (zmem 2 rfl) (zz_call_v (pc := 61) (cu := 0) (su := 0) (fun ls hr => zz_calV xf_196_61 rfl zis_115 ls hr) rfl (sp_isFreeR (d := d + 2) hB (by omega) hA2) (zz_ifbeq (pc := 64) xf_196_64 (fun (zc3 : ¬ (zfree C zn1 c)) => zz_iinc (pc := 157) xf_196_157 (zmem 2 rfl) (by decide +kernel) (zG_ro (ρ' := [(3, .int (Int32.ofInt (c + 1))), (0, .ref 115), (2, .int (Int32.ofInt f)), (4, .int (Int32.ofInt e))]) rfl (zz_goto (pc := 160) xf_196_160 (zG_mono (N := NK) (by omega) (zG_sub (List.forall_mem_cons.mpr ⟨zmem 1 rfl, (List.forall_mem_cons.mpr ⟨zmem 2 rfl, (List.forall_mem_cons.mpr ⟨zmem 0 rfl, (fun p hp => absurd hp List.not_mem_nil)⟩)⟩)⟩) (hk _ _ hX hY (fun h => by have e4 : e = 4 := (by first | omega | contradiction); subst e4; exact ⟨rwy_m (by omega) hK, hf⟩) (fun h => by have e0 : e = 0 := hfr.resolve_left h; subst e0; exact ⟨rwy_m (by omega) hK, hf⟩))))))) (fun zc40 => have zc4 : zfree C zn1 c := Classical.not_not.mp zc40; zz_aload_n (pc := 67) xf_196_67 (zmem 0 rfl) (zz_iload_n (pc := 68) xf_196_68 (zmem 2 rfl) (zz_iload (pc := 69) xf_196_69 (zmem 3 rfl) (zz_call_v (pc := 71) (cu := 0) (su := 0) (fun ls hr => zz_calV xf_196_71 rfl zis_115 ls hr) rfl (sp_neighborR (d := d + 1) hB (by assumption) (by omega) hA2) (zz_istore (pc := 74) xf_196_74 (by decide +kernel) (zG_ro (ρ' := [(5, .int (Int32.ofInt (C (zn1 + 4) (c * 4 + e).toNat))), (0, .ref 115), (2, .int (Int32.ofInt f)), (3, .int (Int32.ofInt c)), (4, .int (Int32.ofInt e))]) rfl (zz_iload (pc := 76) xf_196_76 (zmem 0 rfl) (zz_iload_n (pc := 78) xf_196_78 (zmem 3 rfl) (zz_icmp (pc := 79) xf_196_79 (by first | (unfold zr32; omega) | (have q1 := hnn (by omega); have q2 := hcb (by omega); have q3 := hco (by omega); have q4 := (hnz (by omega)).1; unfold zr32; omega)) (by first | (unfold zr32; omega) | (have q1 := hnn (by omega); have q2 := hcb (by omega); have q3 := hco (by omega); have q4 := (hnz (by omega)).1; unfold zr32; omega)) (fun (zc5 : (C (zn1 + 4) (c * 4 + e).toNat) = c) => zz_iinc (pc := 151) xf_196_151 (zmem 4 rfl) (by decide +kernel) (zG_ro (ρ' := [(4, .int (Int32.ofInt (e + 1))), (5, .int (Int32.ofInt (C (zn1 + 4) (c * 4 + e).toNat))), (0, .ref 115), (2, .int (Int32.ofInt f)), (3, .int (Int32.ofInt c))]) rfl (zz_goto (pc := 154) xf_196_154 ((by exfalso; omega))))) (fun (zc6 : ¬ ((C (zn1 + 4) (c * 4 + e).toNat) = c)) => zz_aload_n (pc := 82) xf_196_82 (zmem 1 rfl) (zz_getR (pc := 83) xf_196_83 zis_115 (by decide +kernel) rfl (zz_iload (pc := 86) xf_196_86 (zmem 0 rfl) (zz_iald (pc := 88) xf_196_88 zis_134 (by have q4 := (hnz (by omega)).1; omega) (zz_if (pc := 89) xf_196_89 (by first | (unfold zr32; omega) | (have q1 := hnn (by omega); have q2 := hcb (by omega); have q3 := hco (by omega); have q4 := (hnz (by omega)).1; unfold zr32; omega)) (fun (zc7 : (M 134 (C (zn1 + 4) (c * 4 + e).toNat).toNat) < 0) => zz_iinc (pc := 151) xf_196_151 (zmem 4 rfl) (by decide +kernel) (zG_ro (ρ' := [(4, .int (Int32.ofInt (e + 1))), (5, .int (Int32.ofInt (C (zn1 + 4) (c * 4 + e).toNat))), (0, .ref 115), (2, .int (Int32.ofInt f)), (3, .int (Int32.ofInt c))]) rfl (zz_goto (pc := 154) xf_196_154 ((by exfalso; omega))))) (fun (zc8 : ¬ ((M 134 (C (zn1 + 4) (c * 4 + e).toNat).toNat) < 0)) => zz_aload_n (pc := 92) xf_196_92 (zmem 1 rfl) (zz_getR (pc := 93) xf_196_93 zis_115 (by decide +kernel) rfl (zz_iload_n (pc := 96) xf_196_96 (zmem 3 rfl) (zz_iald (pc := 97) xf_196_97 zis_134 (by omega) (zz_if (pc := 98) xf_196_98 (by first | (unfold zr32; omega) | (have q1 := hnn (by omega); have q2 := hcb (by omega); have q3 := hco (by omega); have q4 := (hnz (by omega)).1; unfold zr32; omega)) (fun (zc9 : (M 134 c.toNat) < 0) => zz_aload_n (pc := 128) xf_196_128 (zmem 1 rfl) (zz_getR (pc := 129) xf_196_129 zis_115 (by decide +kernel) rfl (zz_iload_n (pc := 132) xf_196_132 (zmem 3 rfl) (zz_aload_n (pc := 133) xf_196_133 (zmem 1 rfl) (zz_getR (pc := 134) xf_196_134 zis_115 (by decide +kernel) rfl (zz_iload (pc := 137) xf_196_137 (zmem 0 rfl) (zz_iald (pc := 139) xf_196_139 zis_134 (by have q4 := (hnz (by omega)).1; omega) (zz_aload_n (pc := 140) xf_196_140 (zmem 1 rfl) (zz_getR (pc := 141) xf_196_141 zis_115 (by decide +kernel) rfl (zz_iload (pc := 144) xf_196_144 (zmem 0 rfl) (zz_iald (pc := 146) xf_196_146 zis_117 (by have q4 := (hnz (by omega)).1; omega) (zz_iadd (pc := 147) xf_196_147 (zz_iast (pc := 148) xf_196_148 zis_134 (by omega) (zm_as (fun zM11 (ezM11 : zM11 = zup M 134 c.toNat ((M 134 (C (zn1 + 4) (c * 4 + e).toNat).toNat) + (M 117 (C (zn1 + 4) (c * 4 + e).toNat).toNat))) => zz_iconst (pc := 149) xf_196_149 (zz_istore_n (pc := 150) xf_196_150 (by decide +kernel) (zG_ro (ρ' := [(2, .int (Int32.ofInt (1))), (5, .int (Int32.ofInt (C (zn1 + 4) (c * 4 + e).toNat))), (0, .ref 115), (3, .int (Int32.ofInt c)), (4, .int (Int32.ofInt e))]) rfl (zz_iinc (pc := 151) xf_196_151 (zmem 4 rfl) (by decide +kernel) (zG_ro (ρ' := [(4, .int (Int32.ofInt (e + 1))), (2, .int (Int32.ofInt (1))), (5, .int (Int32.ofInt (C (zn1 + 4) (c * 4 + e).toNat))), (0, .ref 115), (3, .int (Int32.ofInt c))]) rfl (zz_goto (pc := 154) xf_196_154 ((by exfalso; omega)))))))))))))))))))))) (fun (zc10 : ¬ ((M 134 c.toNat) < 0)) => zz_aload_n (pc := 101) xf_196_101 (zmem 1 rfl) (zz_getR (pc := 102) xf_196_102 zis_115 (by decide +kernel) rfl (zz_iload_n (pc := 105) xf_196_105 (zmem 3 rfl) (zz_iald (pc := 106) xf_196_106 zis_134 (by omega) (zz_aload_n (pc := 107) xf_196_107 (zmem 1 rfl) (zz_getR (pc := 108) xf_196_108 zis_115 (by decide +kernel) rfl (zz_iload (pc := 111) xf_196_111 (zmem 0 rfl) (zz_iald (pc := 113) xf_196_113 zis_134 (by have q4 := (hnz (by omega)).1; omega) (zz_aload_n (pc := 114) xf_196_114 (zmem 1 rfl) (zz_getR (pc := 115) xf_196_115 zis_115 (by decide +kernel) rfl (zz_iload (pc := 118) xf_196_118 (zmem 0 rfl) (zz_iald (pc := 120) xf_196_120 zis_117 (by have q4 := (hnz (by omega)).1; omega) (zz_iadd (pc := 121) xf_196_121 (zz_icmp (pc := 122) xf_196_122 (by first | (unfold zr32; omega) | (have q1 := hnn (by omega); have q2 := hcb (by omega); have q3 := hco (by omega); have q4 := (hnz (by omega)).1; unfold zr32; omega)) (by first | (unfold zr32; omega) | (have q1 := hnn (by omega); have q2 := hcb (by omega); have q3 := hco (by omega); have q4 := (hnz (by omega)).1; unfold zr32; omega)) (fun (zc12 : ((M 134 (C (zn1 + 4) (c * 4 + e).toNat).toNat) + (M 117 (C (zn1 + 4) (c * 4 + e).toNat).toNat)) < (M 134 c.toNat)) => zz_aload_n (pc := 128) xf_196_128 (zmem 1 rfl) (zz_getR (pc := 129) xf_196_129 zis_115 (by decide +kernel) rfl (zz_iload_n (pc := 132) xf_196_132 (zmem 3 rfl) (zz_aload_n (pc := 133) xf_196_133 (zmem 1 rfl) (zz_getR (pc := 134) xf_196_134 zis_115 (by decide +kernel) rfl (zz_iload (pc := 137) xf_196_137 (zmem 0 rfl) (zz_iald (pc := 139) xf_196_139 zis_134 (by have q4 := (hnz (by omega)).1; omega) (zz_aload_n (pc := 140) xf_196_140 (zmem 1 rfl) (zz_getR (pc := 141) xf_196_141 zis_115 (by decide +kernel) rfl (zz_iload (pc := 144) xf_196_144 (zmem 0 rfl) (zz_iald (pc := 146) xf_196_146 zis_117 (by have q4 := (hnz (by omega)).1; omega) (zz_iadd (pc := 147) xf_196_147 (zz_iast (pc := 148) xf_196_148 zis_134 (by omega) (zm_as (fun zM14 (ezM14 : zM14 = zup M 134 c.toNat ((M 134 (C (zn1 + 4) (c * 4 + e).toNat).toNat) + (M 117 (C (zn1 + 4) (c * 4 + e).toNat).toNat))) => zz_iconst (pc := 149) xf_196_149 (zz_istore_n (pc := 150) xf_196_150 (by decide +kernel) (zG_ro (ρ' := [(2, .int (Int32.ofInt (1))), (5, .int (Int32.ofInt (C (zn1 + 4) (c * 4 + e).toNat))), (0, .ref 115), (3, .int (Int32.ofInt c)), (4, .int (Int32.ofInt e))]) rfl (zz_iinc (pc := 151) xf_196_151 (zmem 4 rfl) (by decide +kernel) (zG_ro (ρ' := [(4, .int (Int32.ofInt (e + 1))), (2, .int (Int32.ofInt (1))), (5, .int (Int32.ofInt (C (zn1 + 4) (c * 4 + e).toNat))), (0, .ref 115), (3, .int (Int32.ofInt c))]) rfl (zz_goto (pc := 154) xf_196_154 ((by exfalso; omega)))))))))))))))))))))) (fun (zc13 : ¬ (((M 134 (C (zn1 + 4) (c * 4 + e).toNat).toNat) + (M 117 (C (zn1 + 4) (c * 4 + e).toNat).toNat)) < (M 134 c.toNat))) => zz_goto (pc := 125) xf_196_125 (zz_iinc (pc := 151) xf_196_151 (zmem 4 rfl) (by decide +kernel) (zG_ro (ρ' := [(4, .int (Int32.ofInt (e + 1))), (5, .int (Int32.ofInt (C (zn1 + 4) (c * 4 + e).toNat))), (0, .ref 115), (2, .int (Int32.ofInt f)), (3, .int (Int32.ofInt c))]) rfl (zz_goto (pc := 154) xf_196_154 ((by exfalso; omega))))))))))))))))))))))))))))))))))))))))))))))
  | succ zn ih =>
    intro f e M hX hY hK hf hfr he hm
    obtain ⟨g6, g7⟩ := hB.g.sz
    have hz : zsz C zn1 = C (zn1 + 1) 0 * C (zn1 + 1) 1 := rfl
    have hA2 : rA C M := rA_c (by rw [hX _ (by decide)]) (by rw [hX _ (by decide)]) (hX _ (by decide)) hA
    have hcn : e < 4 → 0 ≤ C (zn1 + 4) (c * 4 + e).toNat ∧ C (zn1 + 4) (c * 4 + e).toNat ≤ 35 := fun h => hB.b1.2.1 _ (by omega)
    have hM7 : M 117 = M0 117 := hX _ (by decide)
    have hnz : e < 4 → (0 ≤ C (zn1 + 4) (c * 4 + e).toNat ∧ C (zn1 + 4) (c * 4 + e).toNat < zsz C zn1) ∧ (C (zn1 + 4) (c * 4 + e).toNat = c ∨ zfree C zn1 c ∧ zfree C zn1 (C (zn1 + 4) (c * 4 + e).toNat)) := fun h => by
      rw [hB.b1.2.2.1 (c * 4 + e).toNat (by omega), zcn_at hc.1 ⟨he.1, h⟩ rfl]
      exact zjn_n hc
    have hcc := hK c.toNat (by omega)
    have hccb := hB.b5 c.toNat (by omega)
    have hnn : e < 4 → _ := fun h => hK (C (zn1 + 4) (c * 4 + e).toNat).toNat (by have := (hnz h).1; omega)
    have hco : e < 4 → M 117 (C (zn1 + 4) (c * 4 + e).toNat).toNat = C (zn1 + 3) (C (zn1 + 4) (c * 4 + e).toNat).toNat := fun h => by have := (hnz h).1; rw [hM7]; exact hC _ (by omega)
    have hcb : e < 4 → 1 ≤ C (zn1 + 3) (C (zn1 + 4) (c * 4 + e).toNat).toNat ∧ C (zn1 + 3) (C (zn1 + 4) (c * 4 + e).toNat).toNat ≤ 9 := fun h => hB.b5 _ (by have := (hnz h).1; omega)
    have hzc : zco C zn1 (zim C zn1 c e.toNat (W, 0)).1 c e = if (zim C zn1 c e.toNat (W, 0)).1 (C (zn1 + 4) (c * 4 + e).toNat).toNat < 1000000 then (zim C zn1 c e.toNat (W, 0)).1 (C (zn1 + 4) (c * 4 + e).toNat).toNat + C (zn1 + 3) (C (zn1 + 4) (c * 4 + e).toNat).toNat else 1000000 := rfl
    have hf01 := zim_01 (M := C) (a := zn1) (c := c) e.toNat (W, 0) (Or.inl rfl)
    exact zG_mono (N := zn * 56 + (NK + 56) + 0 + 56) (by omega) (zz_iload (pc := 53) xf_196_53 (zmem 3 rfl) (zz_iconst (pc := 55) xf_196_55 (zz_icmp (pc := 56) xf_196_56 (by first | (unfold zr32; omega) | (have q1 := hnn (by omega); have q2 := hcb (by omega); have q3 := hco (by omega); have q4 := (hnz (by omega)).1; unfold zr32; omega)) ⟨by decide, by decide⟩ (fun (zc1 : ¬ (e < (4))) => zz_iinc (pc := 157) xf_196_157 (zmem 2 rfl) (by decide +kernel) (zG_ro (ρ' := [(3, .int (Int32.ofInt (c + 1))), (0, .ref 115), (2, .int (Int32.ofInt f)), (4, .int (Int32.ofInt e))]) rfl (zz_goto (pc := 160) xf_196_160 (zG_mono (N := NK) (by omega) (zG_sub (List.forall_mem_cons.mpr ⟨zmem 1 rfl, (List.forall_mem_cons.mpr ⟨zmem 2 rfl, (List.forall_mem_cons.mpr ⟨zmem 0 rfl, (fun p hp => absurd hp List.not_mem_nil)⟩)⟩)⟩) (hk _ _ hX hY (fun h => by have e4 : e = 4 := (by first | omega | contradiction); subst e4; exact ⟨rwy_m (by omega) hK, hf⟩) (fun h => by have e0 : e = 0 := hfr.resolve_left h; subst e0; exact ⟨rwy_m (by omega) hK, hf⟩))))))) (fun zc20 => have zc2 : e < (4) := Classical.not_not.mp zc20; zz_aload_n (pc := 59) xf_196_59 (zmem 0 rfl) (zz_iload_n (pc := 60) xf_196_60 (zmem 2 rfl) (zz_call_v (pc := 61) (cu := 0) (su := 0) (fun ls hr => zz_calV xf_196_61 rfl zis_115 ls hr) rfl (sp_isFreeR (d := d + 2) hB (by omega) hA2) (zz_ifbeq (pc := 64) xf_196_64 (fun (zc3 : ¬ (zfree C zn1 c)) => zz_iinc (pc := 157) xf_196_157 (zmem 2 rfl) (by decide +kernel) (zG_ro (ρ' := [(3, .int (Int32.ofInt (c + 1))), (0, .ref 115), (2, .int (Int32.ofInt f)), (4, .int (Int32.ofInt e))]) rfl (zz_goto (pc := 160) xf_196_160 (zG_mono (N := NK) (by omega) (zG_sub (List.forall_mem_cons.mpr ⟨zmem 1 rfl, (List.forall_mem_cons.mpr ⟨zmem 2 rfl, (List.forall_mem_cons.mpr ⟨zmem 0 rfl, (fun p hp => absurd hp List.not_mem_nil)⟩)⟩)⟩) (hk _ _ hX hY (fun h => by have e4 : e = 4 := (by first | omega | contradiction); subst e4; exact ⟨rwy_m (by omega) hK, hf⟩) (fun h => by have e0 : e = 0 := hfr.resolve_left h; subst e0; exact ⟨rwy_m (by omega) hK, hf⟩))))))) (fun zc40 => have zc4 : zfree C zn1 c := Classical.not_not.mp zc40; zz_aload_n (pc := 67) xf_196_67 (zmem 0 rfl) (zz_iload_n (pc := 68) xf_196_68 (zmem 2 rfl) (zz_iload (pc := 69) xf_196_69 (zmem 3 rfl) (zz_call_v (pc := 71) (cu := 0) (su := 0) (fun ls hr => zz_calV xf_196_71 rfl zis_115 ls hr) rfl (sp_neighborR (d := d + 1) hB (by assumption) (by omega) hA2) (zz_istore (pc := 74) xf_196_74 (by decide +kernel) (zG_ro (ρ' := [(5, .int (Int32.ofInt (C (zn1 + 4) (c * 4 + e).toNat))), (0, .ref 115), (2, .int (Int32.ofInt f)), (3, .int (Int32.ofInt c)), (4, .int (Int32.ofInt e))]) rfl (zz_iload (pc := 76) xf_196_76 (zmem 0 rfl) (zz_iload_n (pc := 78) xf_196_78 (zmem 3 rfl) (zz_icmp (pc := 79) xf_196_79 (by first | (unfold zr32; omega) | (have q1 := hnn (by omega); have q2 := hcb (by omega); have q3 := hco (by omega); have q4 := (hnz (by omega)).1; unfold zr32; omega)) (by first | (unfold zr32; omega) | (have q1 := hnn (by omega); have q2 := hcb (by omega); have q3 := hco (by omega); have q4 := (hnz (by omega)).1; unfold zr32; omega)) (fun (zc5 : (C (zn1 + 4) (c * 4 + e).toNat) = c) => zz_iinc (pc := 151) xf_196_151 (zmem 4 rfl) (by decide +kernel) (zG_ro (ρ' := [(4, .int (Int32.ofInt (e + 1))), (5, .int (Int32.ofInt (C (zn1 + 4) (c * 4 + e).toNat))), (0, .ref 115), (2, .int (Int32.ofInt f)), (3, .int (Int32.ofInt c))]) rfl (zz_goto (pc := 154) xf_196_154 (zG_mono (N := zn * 56 + (NK + 56)) (by omega) (zG_sub (List.forall_mem_cons.mpr ⟨zmem 2 rfl, (List.forall_mem_cons.mpr ⟨zmem 3 rfl, (List.forall_mem_cons.mpr ⟨zmem 4 rfl, (List.forall_mem_cons.mpr ⟨zmem 0 rfl, (fun p hp => absurd hp List.not_mem_nil)⟩)⟩)⟩)⟩) (ih f (e + 1) M  hX hY (by rw [zim_f he.1 (show ¬ zco C zn1 (zim C zn1 c e.toNat (W, 0)).1 c e < (zim C zn1 c e.toNat (W, 0)).1 c.toNat from (by have q1 := hnn (by omega); have q2 := hcb (by omega); have q3 := hco (by omega); have q4 := hnz (by omega); rw [hzc]; split <;> first | omega | (have q5 : C (zn1 + 4) (c * 4 + e).toNat = c := (by assumption); rw [q5] at *; omega)))]; exact rwy_m (by omega) hK) (by rw [zim_f he.1 (show ¬ zco C zn1 (zim C zn1 c e.toNat (W, 0)).1 c e < (zim C zn1 c e.toNat (W, 0)).1 c.toNat from (by have q1 := hnn (by omega); have q2 := hcb (by omega); have q3 := hco (by omega); have q4 := hnz (by omega); rw [hzc]; split <;> first | omega | (have q5 : C (zn1 + 4) (c * 4 + e).toNat = c := (by assumption); rw [q5] at *; omega)))]; exact hf) (Or.inl (by assumption)) (by omega) (by omega))))))) (fun (zc6 : ¬ ((C (zn1 + 4) (c * 4 + e).toNat) = c)) => zz_aload_n (pc := 82) xf_196_82 (zmem 1 rfl) (zz_getR (pc := 83) xf_196_83 zis_115 (by decide +kernel) rfl (zz_iload (pc := 86) xf_196_86 (zmem 0 rfl) (zz_iald (pc := 88) xf_196_88 zis_134 (by have q4 := (hnz (by omega)).1; omega) (zz_if (pc := 89) xf_196_89 (by first | (unfold zr32; omega) | (have q1 := hnn (by omega); have q2 := hcb (by omega); have q3 := hco (by omega); have q4 := (hnz (by omega)).1; unfold zr32; omega)) (fun (zc7 : (M 134 (C (zn1 + 4) (c * 4 + e).toNat).toNat) < 0) => zz_iinc (pc := 151) xf_196_151 (zmem 4 rfl) (by decide +kernel) (zG_ro (ρ' := [(4, .int (Int32.ofInt (e + 1))), (5, .int (Int32.ofInt (C (zn1 + 4) (c * 4 + e).toNat))), (0, .ref 115), (2, .int (Int32.ofInt f)), (3, .int (Int32.ofInt c))]) rfl (zz_goto (pc := 154) xf_196_154 (zG_mono (N := zn * 56 + (NK + 56)) (by omega) (zG_sub (List.forall_mem_cons.mpr ⟨zmem 2 rfl, (List.forall_mem_cons.mpr ⟨zmem 3 rfl, (List.forall_mem_cons.mpr ⟨zmem 4 rfl, (List.forall_mem_cons.mpr ⟨zmem 0 rfl, (fun p hp => absurd hp List.not_mem_nil)⟩)⟩)⟩)⟩) (ih f (e + 1) M  hX hY (by rw [zim_f he.1 (show ¬ zco C zn1 (zim C zn1 c e.toNat (W, 0)).1 c e < (zim C zn1 c e.toNat (W, 0)).1 c.toNat from (by have q1 := hnn (by omega); have q2 := hcb (by omega); have q3 := hco (by omega); have q4 := hnz (by omega); rw [hzc]; split <;> first | omega | (have q5 : C (zn1 + 4) (c * 4 + e).toNat = c := (by assumption); rw [q5] at *; omega)))]; exact rwy_m (by omega) hK) (by rw [zim_f he.1 (show ¬ zco C zn1 (zim C zn1 c e.toNat (W, 0)).1 c e < (zim C zn1 c e.toNat (W, 0)).1 c.toNat from (by have q1 := hnn (by omega); have q2 := hcb (by omega); have q3 := hco (by omega); have q4 := hnz (by omega); rw [hzc]; split <;> first | omega | (have q5 : C (zn1 + 4) (c * 4 + e).toNat = c := (by assumption); rw [q5] at *; omega)))]; exact hf) (Or.inl (by assumption)) (by omega) (by omega))))))) (fun (zc8 : ¬ ((M 134 (C (zn1 + 4) (c * 4 + e).toNat).toNat) < 0)) => zz_aload_n (pc := 92) xf_196_92 (zmem 1 rfl) (zz_getR (pc := 93) xf_196_93 zis_115 (by decide +kernel) rfl (zz_iload_n (pc := 96) xf_196_96 (zmem 3 rfl) (zz_iald (pc := 97) xf_196_97 zis_134 (by omega) (zz_if (pc := 98) xf_196_98 (by first | (unfold zr32; omega) | (have q1 := hnn (by omega); have q2 := hcb (by omega); have q3 := hco (by omega); have q4 := (hnz (by omega)).1; unfold zr32; omega)) (fun (zc9 : (M 134 c.toNat) < 0) => zz_aload_n (pc := 128) xf_196_128 (zmem 1 rfl) (zz_getR (pc := 129) xf_196_129 zis_115 (by decide +kernel) rfl (zz_iload_n (pc := 132) xf_196_132 (zmem 3 rfl) (zz_aload_n (pc := 133) xf_196_133 (zmem 1 rfl) (zz_getR (pc := 134) xf_196_134 zis_115 (by decide +kernel) rfl (zz_iload (pc := 137) xf_196_137 (zmem 0 rfl) (zz_iald (pc := 139) xf_196_139 zis_134 (by have q4 := (hnz (by omega)).1; omega) (zz_aload_n (pc := 140) xf_196_140 (zmem 1 rfl) (zz_getR (pc := 141) xf_196_141 zis_115 (by decide +kernel) rfl (zz_iload (pc := 144) xf_196_144 (zmem 0 rfl) (zz_iald (pc := 146) xf_196_146 zis_117 (by have q4 := (hnz (by omega)).1; omega) (zz_iadd (pc := 147) xf_196_147 (zz_iast (pc := 148) xf_196_148 zis_134 (by omega) (zm_as (fun zM11 (ezM11 : zM11 = zup M 134 c.toNat ((M 134 (C (zn1 + 4) (c * 4 + e).toNat).toNat) + (M 117 (C (zn1 + 4) (c * 4 + e).toNat).toNat))) => zz_iconst (pc := 149) xf_196_149 (zz_istore_n (pc := 150) xf_196_150 (by decide +kernel) (zG_ro (ρ' := [(2, .int (Int32.ofInt (1))), (5, .int (Int32.ofInt (C (zn1 + 4) (c * 4 + e).toNat))), (0, .ref 115), (3, .int (Int32.ofInt c)), (4, .int (Int32.ofInt e))]) rfl (zz_iinc (pc := 151) xf_196_151 (zmem 4 rfl) (by decide +kernel) (zG_ro (ρ' := [(4, .int (Int32.ofInt (e + 1))), (2, .int (Int32.ofInt (1))), (5, .int (Int32.ofInt (C (zn1 + 4) (c * 4 + e).toNat))), (0, .ref 115), (3, .int (Int32.ofInt c))]) rfl (zz_goto (pc := 154) xf_196_154 (zG_mono (N := zn * 56 + (NK + 56)) (by omega) (zG_sub (List.forall_mem_cons.mpr ⟨zmem 3 rfl, (List.forall_mem_cons.mpr ⟨zmem 1 rfl, (List.forall_mem_cons.mpr ⟨zmem 4 rfl, (List.forall_mem_cons.mpr ⟨zmem 0 rfl, (fun p hp => absurd hp List.not_mem_nil)⟩)⟩)⟩)⟩) (ih (1) (e + 1) zM11  (fun q hq => by rw [ezM11, zup_or hq]; exact hX q hq) (fun j hj => by rw [ezM11, zup_ne (by omega)]; exact hY j hj) (by have q1 := hnn (by omega); have q2 := hcb (by omega); have q3 := hco (by omega); have hlt := (show zco C zn1 (zim C zn1 c e.toNat (W, 0)).1 c e < (zim C zn1 c e.toNat (W, 0)).1 c.toNat from (by have q1 := hnn (by omega); have q2 := hcb (by omega); have q3 := hco (by omega); rw [hzc, if_pos (by omega)]; omega)); have hv : zco C zn1 (zim C zn1 c e.toNat (W, 0)).1 c e = M 134 (C (zn1 + 4) (c * 4 + e).toNat).toNat + M 117 (C (zn1 + 4) (c * 4 + e).toNat).toNat := (by rw [hzc, if_pos (by omega)]; omega); rw [zim_t he.1 hlt, ezM11, zup_row, ← hv]; exact rwy_up (by omega) (rwy_m (by omega) hK)) (by rw [zim_t he.1 (show zco C zn1 (zim C zn1 c e.toNat (W, 0)).1 c e < (zim C zn1 c e.toNat (W, 0)).1 c.toNat from (by have q1 := hnn (by omega); have q2 := hcb (by omega); have q3 := hco (by omega); rw [hzc, if_pos (by omega)]; omega))]; rfl) (Or.inl (by assumption)) (by omega) (by omega)))))))))))))))))))))))) (fun (zc10 : ¬ ((M 134 c.toNat) < 0)) => zz_aload_n (pc := 101) xf_196_101 (zmem 1 rfl) (zz_getR (pc := 102) xf_196_102 zis_115 (by decide +kernel) rfl (zz_iload_n (pc := 105) xf_196_105 (zmem 3 rfl) (zz_iald (pc := 106) xf_196_106 zis_134 (by omega) (zz_aload_n (pc := 107) xf_196_107 (zmem 1 rfl) (zz_getR (pc := 108) xf_196_108 zis_115 (by decide +kernel) rfl (zz_iload (pc := 111) xf_196_111 (zmem 0 rfl) (zz_iald (pc := 113) xf_196_113 zis_134 (by have q4 := (hnz (by omega)).1; omega) (zz_aload_n (pc := 114) xf_196_114 (zmem 1 rfl) (zz_getR (pc := 115) xf_196_115 zis_115 (by decide +kernel) rfl (zz_iload (pc := 118) xf_196_118 (zmem 0 rfl) (zz_iald (pc := 120) xf_196_120 zis_117 (by have q4 := (hnz (by omega)).1; omega) (zz_iadd (pc := 121) xf_196_121 (zz_icmp (pc := 122) xf_196_122 (by first | (unfold zr32; omega) | (have q1 := hnn (by omega); have q2 := hcb (by omega); have q3 := hco (by omega); have q4 := (hnz (by omega)).1; unfold zr32; omega)) (by first | (unfold zr32; omega) | (have q1 := hnn (by omega); have q2 := hcb (by omega); have q3 := hco (by omega); have q4 := (hnz (by omega)).1; unfold zr32; omega)) (fun (zc12 : ((M 134 (C (zn1 + 4) (c * 4 + e).toNat).toNat) + (M 117 (C (zn1 + 4) (c * 4 + e).toNat).toNat)) < (M 134 c.toNat)) => zz_aload_n (pc := 128) xf_196_128 (zmem 1 rfl) (zz_getR (pc := 129) xf_196_129 zis_115 (by decide +kernel) rfl (zz_iload_n (pc := 132) xf_196_132 (zmem 3 rfl) (zz_aload_n (pc := 133) xf_196_133 (zmem 1 rfl) (zz_getR (pc := 134) xf_196_134 zis_115 (by decide +kernel) rfl (zz_iload (pc := 137) xf_196_137 (zmem 0 rfl) (zz_iald (pc := 139) xf_196_139 zis_134 (by have q4 := (hnz (by omega)).1; omega) (zz_aload_n (pc := 140) xf_196_140 (zmem 1 rfl) (zz_getR (pc := 141) xf_196_141 zis_115 (by decide +kernel) rfl (zz_iload (pc := 144) xf_196_144 (zmem 0 rfl) (zz_iald (pc := 146) xf_196_146 zis_117 (by have q4 := (hnz (by omega)).1; omega) (zz_iadd (pc := 147) xf_196_147 (zz_iast (pc := 148) xf_196_148 zis_134 (by omega) (zm_as (fun zM14 (ezM14 : zM14 = zup M 134 c.toNat ((M 134 (C (zn1 + 4) (c * 4 + e).toNat).toNat) + (M 117 (C (zn1 + 4) (c * 4 + e).toNat).toNat))) => zz_iconst (pc := 149) xf_196_149 (zz_istore_n (pc := 150) xf_196_150 (by decide +kernel) (zG_ro (ρ' := [(2, .int (Int32.ofInt (1))), (5, .int (Int32.ofInt (C (zn1 + 4) (c * 4 + e).toNat))), (0, .ref 115), (3, .int (Int32.ofInt c)), (4, .int (Int32.ofInt e))]) rfl (zz_iinc (pc := 151) xf_196_151 (zmem 4 rfl) (by decide +kernel) (zG_ro (ρ' := [(4, .int (Int32.ofInt (e + 1))), (2, .int (Int32.ofInt (1))), (5, .int (Int32.ofInt (C (zn1 + 4) (c * 4 + e).toNat))), (0, .ref 115), (3, .int (Int32.ofInt c))]) rfl (zz_goto (pc := 154) xf_196_154 (zG_mono (N := zn * 56 + (NK + 56)) (by omega) (zG_sub (List.forall_mem_cons.mpr ⟨zmem 3 rfl, (List.forall_mem_cons.mpr ⟨zmem 1 rfl, (List.forall_mem_cons.mpr ⟨zmem 4 rfl, (List.forall_mem_cons.mpr ⟨zmem 0 rfl, (fun p hp => absurd hp List.not_mem_nil)⟩)⟩)⟩)⟩) (ih (1) (e + 1) zM14  (fun q hq => by rw [ezM14, zup_or hq]; exact hX q hq) (fun j hj => by rw [ezM14, zup_ne (by omega)]; exact hY j hj) (by have q1 := hnn (by omega); have q2 := hcb (by omega); have q3 := hco (by omega); have hlt := (show zco C zn1 (zim C zn1 c e.toNat (W, 0)).1 c e < (zim C zn1 c e.toNat (W, 0)).1 c.toNat from (by have q1 := hnn (by omega); have q2 := hcb (by omega); have q3 := hco (by omega); rw [hzc, if_pos (by omega)]; omega)); have hv : zco C zn1 (zim C zn1 c e.toNat (W, 0)).1 c e = M 134 (C (zn1 + 4) (c * 4 + e).toNat).toNat + M 117 (C (zn1 + 4) (c * 4 + e).toNat).toNat := (by rw [hzc, if_pos (by omega)]; omega); rw [zim_t he.1 hlt, ezM14, zup_row, ← hv]; exact rwy_up (by omega) (rwy_m (by omega) hK)) (by rw [zim_t he.1 (show zco C zn1 (zim C zn1 c e.toNat (W, 0)).1 c e < (zim C zn1 c e.toNat (W, 0)).1 c.toNat from (by have q1 := hnn (by omega); have q2 := hcb (by omega); have q3 := hco (by omega); rw [hzc, if_pos (by omega)]; omega))]; rfl) (Or.inl (by assumption)) (by omega) (by omega)))))))))))))))))))))))) (fun (zc13 : ¬ (((M 134 (C (zn1 + 4) (c * 4 + e).toNat).toNat) + (M 117 (C (zn1 + 4) (c * 4 + e).toNat).toNat)) < (M 134 c.toNat))) => zz_goto (pc := 125) xf_196_125 (zz_iinc (pc := 151) xf_196_151 (zmem 4 rfl) (by decide +kernel) (zG_ro (ρ' := [(4, .int (Int32.ofInt (e + 1))), (5, .int (Int32.ofInt (C (zn1 + 4) (c * 4 + e).toNat))), (0, .ref 115), (2, .int (Int32.ofInt f)), (3, .int (Int32.ofInt c))]) rfl (zz_goto (pc := 154) xf_196_154 (zG_mono (N := zn * 56 + (NK + 56)) (by omega) (zG_sub (List.forall_mem_cons.mpr ⟨zmem 2 rfl, (List.forall_mem_cons.mpr ⟨zmem 3 rfl, (List.forall_mem_cons.mpr ⟨zmem 4 rfl, (List.forall_mem_cons.mpr ⟨zmem 0 rfl, (fun p hp => absurd hp List.not_mem_nil)⟩)⟩)⟩)⟩) (ih f (e + 1) M  hX hY (by rw [zim_f he.1 (show ¬ zco C zn1 (zim C zn1 c e.toNat (W, 0)).1 c e < (zim C zn1 c e.toNat (W, 0)).1 c.toNat from (by have q1 := hnn (by omega); have q2 := hcb (by omega); have q3 := hco (by omega); have q4 := hnz (by omega); rw [hzc]; split <;> first | omega | (have q5 : C (zn1 + 4) (c * 4 + e).toNat = c := (by assumption); rw [q5] at *; omega)))]; exact rwy_m (by omega) hK) (by rw [zim_f he.1 (show ¬ zco C zn1 (zim C zn1 c e.toNat (W, 0)).1 c e < (zim C zn1 c e.toNat (W, 0)).1 c.toNat from (by have q1 := hnn (by omega); have q2 := hcb (by omega); have q3 := hco (by omega); have q4 := hnz (by omega); rw [hzc]; split <;> first | omega | (have q5 : C (zn1 + 4) (c * 4 + e).toNat = c := (by assumption); rw [q5] at *; omega)))]; exact hf) (Or.inl (by assumption)) (by omega) (by omega))))))))))))))))))))))))))))))))))))))))))))))))
theorem zl_findWaysR_42 {xs : List Int32} {d : Nat} {w : Bool}  {C : zM} {n : Int} (hB : zBI n C zn1) {M0 : zM} (hA : rA C M0) (hC : rC C M0) {b : Int} {V : zF} {NK : Nat} {Q : XO → XW → Prop} (hb : 0 ≤ b ∧ b ≤ 800000) (hk : ∀ (f2 : Int) (M2 : zM), (∀ q : Nat, ¬ q = 134 → M2 q = M0 q) → (∀ j : Nat, zsz C zn1 ≤ (j : Int) → M2 134 j = M0 134 j) → rwy (zsz C zn1) (b + 1296) (zrd C zn1 (zsz C zn1).toNat (V, 0)).1 (M2 134) → f2 = (zrd C zn1 (zsz C zn1).toNat (V, 0)).2 → zG (xstep (xrun2 xs (d + 3)) xs 196) 196 NK 34 [(0, .ref 115), (2, .int (Int32.ofInt f2))] [] 0 0 w M2 Q) : ∀ (zn : Nat) (f c : Int) (M : zM), (∀ q : Nat, ¬ q = 134 → M q = M0 q) → (∀ j : Nat, zsz C zn1 ≤ (j : Int) → M 134 j = M0 134 j) → (rwy (zsz C zn1) (b + 36 * c) (zrd C zn1 c.toNat (V, 0)).1 (M 134)) → (f = (zrd C zn1 c.toNat (V, 0)).2) → (0 ≤ c ∧ c ≤ zsz C zn1) → zsz C zn1 - c ≤ (zn : Int) → zG (xstep (xrun2 xs (d + 3)) xs 196) 196 (zn * 286 + (NK + 6)) 42 [(0, .ref 115), (2, .int (Int32.ofInt f)), (3, .int (Int32.ofInt c))] [] 0 0 w M Q := by
  intro zn
  induction zn with
  | zero =>
    intro f c M hX hY hK hf hc hm
    obtain ⟨g6, g7⟩ := hB.g.sz
    have hz : zsz C zn1 = C (zn1 + 1) 0 * C (zn1 + 1) 1 := rfl
    have hA2 : rA C M := rA_c (by rw [hX _ (by decide)]) (by rw [hX _ (by decide)]) (hX _ (by decide)) hA
    have h01 := zrd_01 (M := C) (a := zn1) c.toNat (V, 0) (Or.inl rfl)
    exact zG_mono (N := NK + 6) (by omega) (zz_iload_n (pc := 42) xf_196_42 (zmem 2 rfl) (zz_aload_n (pc := 43) xf_196_43 (zmem 0 rfl) (zz_call_v (pc := 44) (cu := 0) (su := 0) (fun ls hr => zz_calV xf_196_44 rfl zis_115 ls hr) rfl (sp_cellsR (d := d + 2) hB hA2) (zz_icmp (pc := 47) xf_196_47 (by unfold zr32; omega) (by unfold zr32; omega) (fun (zc1 : ¬ (c < (zsz C zn1))) => zz_goto (pc := 163) xf_196_163 (zG_mono (N := NK) (by omega) (zG_sub (List.forall_mem_cons.mpr ⟨zmem 0 rfl, (List.forall_mem_cons.mpr ⟨zmem 1 rfl, (fun p hp => absurd hp List.not_mem_nil)⟩)⟩) (hk _ _ hX hY (by rw [← show c.toNat = (zsz C zn1).toNat by omega]; exact rwy_m (by omega) hK) (by rw [← show c.toNat = (zsz C zn1).toNat by omega]; exact hf))))) (fun zc20 => have zc2 : c < (zsz C zn1) := Classical.not_not.mp zc20; zz_iconst (pc := 50) xf_196_50 (zz_istore (pc := 51) xf_196_51 (by decide +kernel) (zG_ro (ρ' := [(4, .int (Int32.ofInt (0))), (0, .ref 115), (2, .int (Int32.ofInt f)), (3, .int (Int32.ofInt c))]) rfl ((by exfalso; omega)))))))))
  | succ zn ih =>
    intro f c M hX hY hK hf hc hm
    obtain ⟨g6, g7⟩ := hB.g.sz
    have hz : zsz C zn1 = C (zn1 + 1) 0 * C (zn1 + 1) 1 := rfl
    have hA2 : rA C M := rA_c (by rw [hX _ (by decide)]) (by rw [hX _ (by decide)]) (hX _ (by decide)) hA
    have h01 := zrd_01 (M := C) (a := zn1) c.toNat (V, 0) (Or.inl rfl)
    exact zG_mono (N := zn * 286 + (NK + 6) + 280 + 6) (by omega) (zz_iload_n (pc := 42) xf_196_42 (zmem 2 rfl) (zz_aload_n (pc := 43) xf_196_43 (zmem 0 rfl) (zz_call_v (pc := 44) (cu := 0) (su := 0) (fun ls hr => zz_calV xf_196_44 rfl zis_115 ls hr) rfl (sp_cellsR (d := d + 2) hB hA2) (zz_icmp (pc := 47) xf_196_47 (by unfold zr32; omega) (by unfold zr32; omega) (fun (zc1 : ¬ (c < (zsz C zn1))) => zz_goto (pc := 163) xf_196_163 (zG_mono (N := NK) (by omega) (zG_sub (List.forall_mem_cons.mpr ⟨zmem 0 rfl, (List.forall_mem_cons.mpr ⟨zmem 1 rfl, (fun p hp => absurd hp List.not_mem_nil)⟩)⟩) (hk _ _ hX hY (by rw [← show c.toNat = (zsz C zn1).toNat by omega]; exact rwy_m (by omega) hK) (by rw [← show c.toNat = (zsz C zn1).toNat by omega]; exact hf))))) (fun zc20 => have zc2 : c < (zsz C zn1) := Classical.not_not.mp zc20; zz_iconst (pc := 50) xf_196_50 (zz_istore (pc := 51) xf_196_51 (by decide +kernel) (zG_ro (ρ' := [(4, .int (Int32.ofInt (0))), (0, .ref 115), (2, .int (Int32.ofInt f)), (3, .int (Int32.ofInt c))]) rfl (zG_mono (N := (4 * 56 + ((zn * 286 + (NK + 6)) + 56))) (by omega) (zG_sub (List.forall_mem_cons.mpr ⟨zmem 1 rfl, (List.forall_mem_cons.mpr ⟨zmem 2 rfl, (List.forall_mem_cons.mpr ⟨zmem 3 rfl, (List.forall_mem_cons.mpr ⟨zmem 0 rfl, (fun p hp => absurd hp List.not_mem_nil)⟩)⟩)⟩)⟩) (zl_findWaysR_53 hB hA hC (NK := (zn * 286 + (NK + 6))) (c := c) (f0 := f) (b := b + 36 * c) (W := (zrd C zn1 c.toNat (V, 0)).1) (Q := Q) (by omega) (by omega) (fun f2 M2 hX2 hY2 h1 h2 => ih _ _ M2 hX2 hY2 (by by_cases h : zfree C zn1 c; (rw [zrd_t hc.1 h]; exact rwy_m (by omega) (h1 h).1); (rw [zrd_f hc.1 h]; exact rwy_m (by omega) (h2 h).1)) (by by_cases h : zfree C zn1 c; (rw [zrd_t hc.1 h, ← hf]; exact (h1 h).2); (rw [zrd_f hc.1 h, ← hf]; exact (h2 h).2)) (by omega) (by omega)) 4 _ 0 _ hX hY (rwy_m (by omega) hK) rfl (Or.inr rfl) (by omega) (by omega)))))))))))
end
noncomputable section
/-! Ways: the rounds come to an end. -/
def zuw (M : zM) (W W' : zF) : Prop := ∃ c e : Int, zfree M zn1 c ∧ (0 ≤ e ∧ e < 4) ∧ zco M zn1 W c e < W c.toNat ∧ W' = zrup W c.toNat (zco M zn1 W c e)
theorem zim_ind {M : zM} {c : Int} {P : zF → Prop} (hc : zfree M zn1 c) (hU : ∀ W W', zuw M W W' → P W → P W') : ∀ n, n ≤ 4 → ∀ p : zF × Int, P p.1 → P (zim M zn1 c n p).1
  | 0, _, p, h => h
  | n + 1, hn, p, h => by
    have ih := zim_ind hc hU n (by omega) p h
    unfold zim
    split
    · next h1 => exact hU _ _ ⟨c, n, hc, by omega, h1, rfl⟩ ih
    · exact ih
theorem zrd_ind {M : zM} {P : zF → Prop} (hU : ∀ W W', zuw M W W' → P W → P W') : ∀ n, ∀ p : zF × Int, P p.1 → P (zrd M zn1 n p).1
  | 0, p, h => h
  | n + 1, p, h => by
    have ih := zrd_ind hU n p h
    unfold zrd
    split
    · next h1 => exact zim_ind h1 hU 4 (by omega) _ ih
    · exact ih
theorem zuw_le {M : zM} {W0 W W' : zF} (h : zuw M W W') (hW : ∀ j, W j ≤ W0 j) : ∀ j, W' j ≤ W0 j := by
  obtain ⟨c, e, h1, h2, h3, rfl⟩ := h
  intro j
  have := hW j
  unfold zrup
  split
  · next hj =>
    subst hj
    omega
  · exact this
theorem zrd_le {M : zM} (n : Nat) (p : zF × Int) : ∀ j, (zrd M zn1 n p).1 j ≤ p.1 j :=
  zrd_ind (P := fun W => ∀ j, W j ≤ p.1 j) (fun _ _ h hW => zuw_le h hW) n p (fun _ => Int.le_refl _)
/-- no cell can be improved -/
def zst (M : zM) (d : zF) : Prop := ∀ c e : Int, zfree M zn1 c → 0 ≤ e → e < 4 → ¬ zco M zn1 d c e < d c.toNat
theorem zim_0 {M : zM} {c : Int} : ∀ n, ∀ p : zF × Int, (∀ e : Nat, e < n → ¬ zco M zn1 p.1 c (e : Int) < p.1 c.toNat) → zim M zn1 c n p = p
  | 0, _, _ => rfl
  | n + 1, p, h => by
    have ih := zim_0 n p (fun e he => h e (by omega))
    unfold zim
    rw [ih]
    exact if_neg (h n (by omega))
theorem zim_1 {M : zM} {c : Int} : ∀ n, ∀ W : zF, (zim M zn1 c n (W, 0)).2 = 0 → (zim M zn1 c n (W, 0)).1 = W ∧ ∀ e : Nat, e < n → ¬ zco M zn1 W c (e : Int) < W c.toNat
  | 0, _, _ => ⟨rfl, fun e he => absurd he (Nat.not_lt_zero e)⟩
  | n + 1, W, h => by
    by_cases h1 : zco M zn1 (zim M zn1 c n (W, 0)).1 c (n : Int) < (zim M zn1 c n (W, 0)).1 c.toNat
    · exfalso
      rw [show zim M zn1 c (n + 1) (W, 0) = _ from if_pos h1] at h
      exact absurd (show (1 : Int) = 0 from h) (by decide)
    · have e1 : zim M zn1 c (n + 1) (W, 0) = zim M zn1 c n (W, 0) := if_neg h1
      rw [e1] at h ⊢
      obtain ⟨i1, i2⟩ := zim_1 n W h
      refine ⟨i1, fun e he => ?_⟩
      by_cases h2 : e = n
      · subst h2
        rw [i1] at h1
        exact h1
      · exact i2 e (by omega)
theorem zim_2 {M : zM} {c : Int} : ∀ n, ∀ W : zF, ¬ (zim M zn1 c n (W, 0)).2 = 0 → (zim M zn1 c n (W, 0)).1 c.toNat < W c.toNat
  | 0, _, h => absurd rfl h
  | n + 1, W, h => by
    by_cases h1 : zco M zn1 (zim M zn1 c n (W, 0)).1 c (n : Int) < (zim M zn1 c n (W, 0)).1 c.toNat
    · rw [show zim M zn1 c (n + 1) (W, 0) = _ from if_pos h1]
      have h2 := zim_le (M := M) (a := zn1) (c := c) n (W, 0) c.toNat
      show zrup _ c.toNat _ c.toNat < _
      unfold zrup
      rw [if_pos rfl]
      exact Int.lt_of_lt_of_le h1 h2
    · rw [show zim M zn1 c (n + 1) (W, 0) = zim M zn1 c n (W, 0) from if_neg h1] at h ⊢
      exact zim_2 n W h
theorem zrd_1 {M : zM} : ∀ n, ∀ W : zF, (zrd M zn1 n (W, 0)).2 = 0 → (zrd M zn1 n (W, 0)).1 = W ∧ ∀ c : Nat, c < n → zfreeN M zn1 c → ∀ e : Nat, e < 4 → ¬ zco M zn1 W (c : Int) (e : Int) < W c
  | 0, _, _ => ⟨rfl, fun c he => absurd he (Nat.not_lt_zero c)⟩
  | n + 1, W, h => by
    by_cases h1 : zfreeN M zn1 n
    · rw [show zrd M zn1 (n + 1) (W, 0) = _ from if_pos h1] at h ⊢
      by_cases h2 : (zim M zn1 (n : Int) 4 ((zrd M zn1 n (W, 0)).1, 0)).2 = 0
      · have h3 : (zrd M zn1 n (W, 0)).2 = 0 := (if_pos h2).symm.trans h
        obtain ⟨i1, i2⟩ := zrd_1 n W h3
        obtain ⟨k1, k2⟩ := zim_1 4 _ h2
        refine ⟨k1.trans i1, fun c hc hf e he => ?_⟩
        by_cases hcn : c = n
        · subst hcn
          have := k2 e he
          rw [i1, Int.toNat_natCast] at this
          exact this
        · exact i2 c (by omega) hf e he
      · exact absurd ((if_neg h2).symm.trans h) (by decide)
    · rw [show zrd M zn1 (n + 1) (W, 0) = zrd M zn1 n (W, 0) from if_neg h1] at h ⊢
      obtain ⟨i1, i2⟩ := zrd_1 n W h
      refine ⟨i1, fun c hc hf e he => ?_⟩
      by_cases hcn : c = n
      · subst hcn
        exact absurd hf h1
      · exact i2 c (by omega) hf e he
theorem zrd_2 {M : zM} : ∀ n, ∀ W : zF, ¬ (zrd M zn1 n (W, 0)).2 = 0 → ∃ j, j < n ∧ (zrd M zn1 n (W, 0)).1 j < W j
  | 0, _, h => absurd rfl h
  | n + 1, W, h => by
    by_cases h1 : zfreeN M zn1 n
    · have e1 : zrd M zn1 (n + 1) (W, 0) = _ := if_pos h1
      by_cases h2 : (zim M zn1 (n : Int) 4 ((zrd M zn1 n (W, 0)).1, 0)).2 = 0
      · have h3 : ¬ (zrd M zn1 n (W, 0)).2 = 0 := fun e => h (by rw [e1]; exact (if_pos h2).trans e)
        obtain ⟨j, hj, hl⟩ := zrd_2 n W h3
        refine ⟨j, by omega, ?_⟩
        rw [e1]
        show (zim M zn1 (n : Int) 4 ((zrd M zn1 n (W, 0)).1, 0)).1 j < W j
        rw [(zim_1 4 _ h2).1]
        exact hl
      · have h4 := zim_2 4 _ h2
        have h5 := zrd_le (M := M) n (W, 0) n
        refine ⟨n, by omega, ?_⟩
        rw [e1]
        rw [Int.toNat_natCast] at h4
        exact Int.lt_of_lt_of_le h4 h5
    · rw [show zrd M zn1 (n + 1) (W, 0) = zrd M zn1 n (W, 0) from if_neg h1] at h ⊢
      obtain ⟨j, hj, hl⟩ := zrd_2 n W h
      exact ⟨j, by omega, hl⟩
theorem zrd_0 {M : zM} {W : zF} (h : zst M W) : ∀ n, zrd M zn1 n (W, 0) = (W, 0)
  | 0 => rfl
  | n + 1 => by
    have ih := zrd_0 h n
    by_cases h1 : zfreeN M zn1 n
    · have e2 : zim M zn1 (n : Int) 4 ((zrd M zn1 n (W, 0)).1, 0) = (W, 0) := by
        rw [ih]
        exact zim_0 4 (W, 0) (fun e he => h (n : Int) (e : Int) h1 (by omega) (by omega))
      rw [show zrd M zn1 (n + 1) (W, 0) = _ from if_pos h1, e2, ih]
      rfl
    · exact (if_neg h1).trans ih
theorem zrd_st {M : zM} {W : zF} (h : (zrd M zn1 (zsz M zn1).toNat (W, 0)).2 = 0) : zst M W := by
  intro c e hc h0 h4
  have h1 := (zrd_1 _ W h).2 c.toNat (by have := hc.2.1; show c.toNat < (M (zn1 + 1) 0 * M (zn1 + 1) 1).toNat; have := hc.1; omega) ((zfreeN_i hc.1).mpr hc) e.toNat (by omega)
  rw [Int.toNat_of_nonneg hc.1, Int.toNat_of_nonneg h0] at h1
  exact h1
theorem zsum_mo {F G : Nat → Int} : ∀ n, (∀ j, j < n → F j ≤ G j) → zsum F n ≤ zsum G n
  | 0, _ => Int.le_refl _
  | n + 1, h => by
    have h1 := zsum_mo n (fun j hj => h j (by omega))
    have h2 := h n (by omega)
    show zsum F n + F n ≤ zsum G n + G n
    omega
theorem zsum_lt {F G : Nat → Int} : ∀ n, (∀ j, j < n → F j ≤ G j) → (∃ j, j < n ∧ F j < G j) → zsum F n < zsum G n
  | 0, _, h => by
    obtain ⟨j, hj, _⟩ := h
    omega
  | n + 1, h, ⟨j, hj, hl⟩ => by
    show zsum F n + F n < zsum G n + G n
    by_cases h1 : j = n
    · subst h1
      have h2 := zsum_mo j (fun i hi => h i (by omega))
      omega
    · have h2 := zsum_lt n (fun i hi => h i (by omega)) ⟨j, by omega, hl⟩
      have h3 := h n (by omega)
      omega
/-- the facts of the grid that ways need -/
theorem zwn {M : zM} {n : Int} (hB : zBI n M zn1) {c e : Int} (hc : zfree M zn1 c) (he : 0 ≤ e ∧ e < 4) : (0 ≤ M (zn1 + 4) (c * 4 + e).toNat ∧ M (zn1 + 4) (c * 4 + e).toNat < zsz M zn1) ∧ (1 ≤ M (zn1 + 3) (M (zn1 + 4) (c * 4 + e).toNat).toNat ∧ M (zn1 + 3) (M (zn1 + 4) (c * 4 + e).toNat).toNat ≤ 9) ∧ (M (zn1 + 4) (c * 4 + e).toNat = c ∨ zfree M zn1 (M (zn1 + 4) (c * 4 + e).toNat)) := by
  obtain ⟨g6, g7⟩ := hB.g.sz
  have hz : zsz M zn1 = M (zn1 + 1) 0 * M (zn1 + 1) 1 := rfl
  have hc0 := hc.1
  have hc1 := hc.2.1
  have h1 : (0 ≤ M (zn1 + 4) (c * 4 + e).toNat ∧ M (zn1 + 4) (c * 4 + e).toNat < zsz M zn1) ∧ (M (zn1 + 4) (c * 4 + e).toNat = c ∨ zfree M zn1 c ∧ zfree M zn1 (M (zn1 + 4) (c * 4 + e).toNat)) := by
    rw [hB.b1.2.2.1 (c * 4 + e).toNat (by omega), zcn_at hc0 he rfl]
    exact zjn_n ⟨hc0, by rw [hz]; exact hc1⟩
  refine ⟨h1.1, hB.b5 _ (by omega), ?_⟩
  rcases h1.2 with h | h
  · exact Or.inl h
  · exact Or.inr h.2
/-- each cost is none, that of the goal, or that over a neighbor at least -/
def zwi (M : zM) (t : Int) (W : zF) : Prop := (∀ j : Nat, (j : Int) < zsz M zn1 → 0 ≤ W j ∧ W j ≤ 1000000) ∧ (0 ≤ t ∧ t < zsz M zn1) ∧ W t.toNat = 0 ∧ ∀ c : Int, 0 ≤ c → c < zsz M zn1 → W c.toNat = 1000000 ∨ c = t ∨ (zfree M zn1 c ∧ ∃ e : Int, (0 ≤ e ∧ e < 4) ∧ W (M (zn1 + 4) (c * 4 + e).toNat).toNat < 1000000 ∧ W (M (zn1 + 4) (c * 4 + e).toNat).toNat + M (zn1 + 3) (M (zn1 + 4) (c * 4 + e).toNat).toNat ≤ W c.toNat)
theorem zuw_i {M : zM} {n t : Int} (hB : zBI n M zn1) {W W' : zF} (h : zuw M W W') (hW : zwi M t W) : zwi M t W' := by
  obtain ⟨c, e, h1, h2, h3, rfl⟩ := h
  obtain ⟨w1, w2, w3, w4⟩ := hW
  obtain ⟨k1, k2, k3⟩ := zwn hB h1 h2
  have hc0 := h1.1
  have hz : zsz M zn1 = M (zn1 + 1) 0 * M (zn1 + 1) 1 := rfl
  have hc1 : c < zsz M zn1 := by rw [hz]; exact h1.2.1
  have hwn := w1 (M (zn1 + 4) (c * 4 + e).toNat).toNat (by omega)
  have hwc := w1 c.toNat (by omega)
  have hco : zco M zn1 W c e = W (M (zn1 + 4) (c * 4 + e).toNat).toNat + M (zn1 + 3) (M (zn1 + 4) (c * 4 + e).toNat).toNat ∧ W (M (zn1 + 4) (c * 4 + e).toNat).toNat < 1000000 := by
    unfold zco at h3 ⊢
    by_cases hh : W (M (zn1 + 4) (c * 4 + e).toNat).toNat < 1000000
    · rw [if_pos hh]
      exact ⟨rfl, hh⟩
    · rw [if_neg hh] at h3
      omega
  have hne : ¬ (M (zn1 + 4) (c * 4 + e).toNat).toNat = c.toNat := fun h => by
    rw [h] at hco
    have := k2.1
    rw [h] at this
    omega
  have hct : ¬ c = t := fun h => by
    subst h
    omega
  generalize hx : zco M zn1 W c e = x at h3 hco ⊢
  have up : ∀ j : Nat, zrup W c.toNat x j ≤ W j := fun j => by
    unfold zrup
    split
    · next hj =>
      subst hj
      omega
    · exact Int.le_refl _
  have upn : ∀ j : Nat, ¬ j = c.toNat → zrup W c.toNat x j = W j := fun j hj => if_neg hj
  have upc : zrup W c.toNat x c.toNat = x := if_pos rfl
  refine ⟨fun j hj => ?_, w2, by rw [upn _ (by omega)]; exact w3, fun c' hc'0 hc'1 => ?_⟩
  · by_cases hj2 : j = c.toNat
    · rw [hj2, upc]
      omega
    · rw [upn j hj2]
      exact w1 j hj
  · by_cases hcc : c' = c
    · subst hcc
      refine Or.inr (Or.inr ⟨h1, e, h2, ?_⟩)
      rw [upc, upn _ hne]
      omega
    · rcases w4 c' hc'0 hc'1 with h | h | ⟨hf, e', he', h5, h6⟩
      · exact Or.inl (by rw [upn _ (by omega)]; exact h)
      · exact Or.inr (Or.inl h)
      · refine Or.inr (Or.inr ⟨hf, e', he', ?_⟩)
        have h7 := up (M (zn1 + 4) (c' * 4 + e').toNat).toNat
        rw [upn c'.toNat (by omega)]
        omega
theorem zuw_d {M : zM} {n : Int} (hB : zBI n M zn1) {d W W' : zF} (hd : zst M d) (hdb : ∀ j : Nat, (j : Int) < zsz M zn1 → d j ≤ 1000000) (hWb : ∀ j : Nat, (j : Int) < zsz M zn1 → W j ≤ 1000000) (h : zuw M W W') (hW : ∀ j : Nat, (j : Int) < zsz M zn1 → d j ≤ W j) : ∀ j : Nat, (j : Int) < zsz M zn1 → d j ≤ W' j := by
  obtain ⟨c, e, h1, h2, h3, rfl⟩ := h
  obtain ⟨k1, k2, k3⟩ := zwn hB h1 h2
  have h4 := hd c e h1 h2.1 h2.2
  intro j hj
  unfold zrup
  split
  · next hjc =>
    subst hjc
    have h5 := hW (M (zn1 + 4) (c * 4 + e).toNat).toNat (by omega)
    have h6 := hdb (M (zn1 + 4) (c * 4 + e).toNat).toNat (by omega)
    have h7 := hdb c.toNat hj
    have h8 := hWb c.toNat hj
    unfold zco at h3 h4 ⊢
    split at h3
    · split at h4
      · split <;> omega
      · omega
    · omega
  · exact hW j hj
theorem zim_4 {M : zM} {c e : Int} (he : 0 ≤ e) (hne : ¬ (M (zn1 + 4) (c * 4 + e).toNat).toNat = c.toNat) : ∀ n : Nat, e < (n : Int) → ∀ p : zF × Int, (zim M zn1 c n p).1 c.toNat ≤ zco M zn1 p.1 c e
  | 0, h, _ => by omega
  | n + 1, h, p => by
    have hoth : ∀ m, ∀ j : Nat, ¬ j = c.toNat → (zim M zn1 c m p).1 j = p.1 j := by
      intro m
      induction m with
      | zero => exact fun _ _ => rfl
      | succ m ih =>
        intro j hj
        unfold zim
        split
        · exact (if_neg hj).trans (ih j hj)
        · exact ih j hj
    have hzc : zco M zn1 (zim M zn1 c n p).1 c e = zco M zn1 p.1 c e := by
      unfold zco
      rw [hoth n _ hne]
    by_cases h1 : zco M zn1 (zim M zn1 c n p).1 c (n : Int) < (zim M zn1 c n p).1 c.toNat
    · rw [show zim M zn1 c (n + 1) p = _ from if_pos h1]
      show zrup _ c.toNat _ c.toNat ≤ _
      unfold zrup
      rw [if_pos rfl]
      by_cases h2 : e = (n : Int)
      · subst h2
        rw [hzc]
        exact Int.le_refl _
      · have ih := zim_4 he hne n (by omega) p
        omega
    · rw [show zim M zn1 c (n + 1) p = zim M zn1 c n p from if_neg h1]
      by_cases h2 : e = (n : Int)
      · subst h2
        omega
      · exact zim_4 he hne n (by omega) p
theorem zrd_se {M : zM} {n : Int} (hB : zBI n M zn1) {d W : zF} (hd : zst M d) (hdb : ∀ j : Nat, (j : Int) < zsz M zn1 → d j ≤ 1000000) (hWb : ∀ j : Nat, (j : Int) < zsz M zn1 → W j ≤ 1000000) (hW : ∀ j : Nat, (j : Int) < zsz M zn1 → d j ≤ W j) (m : Nat) : ∀ j : Nat, (j : Int) < zsz M zn1 → d j ≤ (zrd M zn1 m (W, 0)).1 j := by
  have h := zrd_ind (M := M) (P := fun V => (∀ j, V j ≤ W j) ∧ ∀ j : Nat, (j : Int) < zsz M zn1 → d j ≤ V j) (fun V V' hu hV => ⟨zuw_le hu hV.1, zuw_d hB hd hdb (fun j hj => Int.le_trans (hV.1 j) (hWb j hj)) hu hV.2⟩) m (W, 0) ⟨fun _ => Int.le_refl _, hW⟩
  exact h.2
/-- a cell whose least cost comes over a settled neighbor is settled in the round -/
theorem zrd_go {M : zM} {n : Int} (hB : zBI n M zn1) {d W : zF} (hd : zst M d) (hdb : ∀ j : Nat, (j : Int) < zsz M zn1 → d j ≤ 1000000) (hWb : ∀ j : Nat, (j : Int) < zsz M zn1 → W j ≤ 1000000) (hW : ∀ j : Nat, (j : Int) < zsz M zn1 → d j ≤ W j) {c e : Int} (hc : zfree M zn1 c) (he : 0 ≤ e ∧ e < 4) (hne : ¬ (M (zn1 + 4) (c * 4 + e).toNat).toNat = c.toNat) (hs : W (M (zn1 + 4) (c * 4 + e).toNat).toNat = d (M (zn1 + 4) (c * 4 + e).toNat).toNat) (hdc : zco M zn1 d c e ≤ d c.toNat) : ∀ m : Nat, c < (m : Int) → (zrd M zn1 m (W, 0)).1 c.toNat ≤ d c.toNat
  | 0, h => by have := hc.1; omega
  | m + 1, h => by
    have hc0 := hc.1
    by_cases h1 : c = (m : Int)
    · subst h1
      have h2 : zfreeN M zn1 m := hc
      rw [show zrd M zn1 (m + 1) (W, 0) = _ from if_pos h2]
      have h3 := zim_4 he.1 hne 4 (by omega) ((zrd M zn1 m (W, 0)).1, 0)
      refine Int.le_trans h3 (Int.le_trans ?_ hdc)
      obtain ⟨k1, k2, k3⟩ := zwn hB hc he
      have h4 := zrd_se hB hd hdb hWb hW m (M (zn1 + 4) ((m : Int) * 4 + e).toNat).toNat (by omega)
      have h5 := zrd_le (M := M) m (W, 0) (M (zn1 + 4) ((m : Int) * 4 + e).toNat).toNat
      have h6 : (zrd M zn1 m (W, 0)).1 (M (zn1 + 4) ((m : Int) * 4 + e).toNat).toNat = d (M (zn1 + 4) ((m : Int) * 4 + e).toNat).toNat := by
        refine Int.le_antisymm ?_ h4
        rw [← hs]
        exact h5
      unfold zco
      show (if (zrd M zn1 m (W, 0)).1 _ < 1000000 then (zrd M zn1 m (W, 0)).1 _ + _ else 1000000) ≤ _
      rw [h6]
      exact Int.le_refl _
    · have ih := zrd_go hB hd hdb hWb hW hc he hne hs hdc m (by omega)
      have h2 : (zrd M zn1 (m + 1) (W, 0)).1 c.toNat ≤ (zrd M zn1 m (W, 0)).1 c.toNat := by
        by_cases h3 : zfreeN M zn1 m
        · rw [show zrd M zn1 (m + 1) (W, 0) = _ from if_pos h3]
          exact zim_le 4 ((zrd M zn1 m (W, 0)).1, 0) c.toNat
        · rw [show zrd M zn1 (m + 1) (W, 0) = zrd M zn1 m (W, 0) from if_neg h3]
          exact Int.le_refl _
      omega
/-- of the unsettled cells one of the least cost -/
theorem zmin {d W : zF} {n : Nat} (h0 : ∀ j, j < n → 0 ≤ d j) : ∀ v : Nat, ∀ j, j < n → ¬ W j = d j → d j ≤ (v : Int) → ∃ i, i < n ∧ ¬ W i = d i ∧ ∀ k, k < n → d k < d i → W k = d k
  | 0, j, hj, hu, hv => ⟨j, hj, hu, fun k hk hl => by have := h0 k hk; omega⟩
  | v + 1, j, hj, hu, hv => by
    by_cases h : ∃ k, k < n ∧ d k < d j ∧ ¬ W k = d k
    · obtain ⟨k, hk, hl, hku⟩ := h
      exact zmin h0 v k hk hku (by omega)
    · refine ⟨j, hj, hu, fun k hk hl => Classical.byContradiction (fun e => h ⟨k, hk, hl, e⟩)⟩
/-- the rounds end within a number of them -/
def zend (M : zM) : Nat → zF → Prop
  | 0, _ => False
  | k + 1, W => (zrd M zn1 (zsz M zn1).toNat (W, 0)).2 = 0 ∨ zend M k (zrd M zn1 (zsz M zn1).toNat (W, 0)).1
theorem zend_m {M : zM} : ∀ k, ∀ W, zend M k W → zend M (k + 1) W
  | 0, _, h => h.elim
  | k + 1, W, h => by
    rcases h with h | h
    · exact Or.inl h
    · exact Or.inr (zend_m k _ h)
theorem zrd_i {M : zM} {n t : Int} (hB : zBI n M zn1) (m : Nat) {W : zF} (hW : zwi M t W) : zwi M t (zrd M zn1 m (W, 0)).1 :=
  zrd_ind (P := zwi M t) (fun _ _ hu hV => zuw_i hB hu hV) m (W, 0) hW
/-- the rounds come to an end -/
theorem zex {M : zM} {n t : Int} (hB : zBI n M zn1) : ∀ m : Nat, ∀ W, zwi M t W → zsum W (zsz M zn1).toNat ≤ (m : Int) → ∃ d : zF, zwi M t d ∧ zst M d ∧ ∀ j, d j ≤ W j
  | m, W, hW, hm => by
    by_cases h : (zrd M zn1 (zsz M zn1).toNat (W, 0)).2 = 0
    · exact ⟨W, hW, zrd_st h, fun _ => Int.le_refl _⟩
    · have h1 := zrd_i hB (zsz M zn1).toNat hW
      have h2 := zsum_lt (zsz M zn1).toNat (fun j _ => zrd_le (M := M) (zsz M zn1).toNat (W, 0) j) (zrd_2 _ W h)
      have h3 := (zsum_b (l := 0) (u := 1000000) (zsz M zn1).toNat (fun j hj => h1.1 j (by omega))).1
      match m, hm with
      | 0, hm =>
        exfalso
        have h4 : zsum W (zsz M zn1).toNat ≤ 0 := hm
        have h5 : zsum (zrd M zn1 (zsz M zn1).toNat (W, 0)).1 (zsz M zn1).toNat < zsum W (zsz M zn1).toNat := h2
        omega
      | m + 1, hm =>
        have h5 : zsum (zrd M zn1 (zsz M zn1).toNat (W, 0)).1 (zsz M zn1).toNat < zsum W (zsz M zn1).toNat := h2
        obtain ⟨d, d1, d2, d3⟩ := zex hB m _ h1 (by omega)
        exact ⟨d, d1, d2, fun j => Int.le_trans (d3 j) (zrd_le (M := M) _ (W, 0) j)⟩
noncomputable def zun (d W : zF) : zF := fun j => if W j = d j then 0 else 1
theorem zend_of {M : zM} {n t : Int} (hB : zBI n M zn1) {d : zF} (hd : zst M d) (hdi : zwi M t d) : ∀ k : Nat, ∀ W, zwi M t W → (∀ j : Nat, (j : Int) < zsz M zn1 → d j ≤ W j) → zsum (zun d W) (zsz M zn1).toNat ≤ (k : Int) → zend M (k + 1) W
  | k, W, hW, hl, hk => by
    obtain ⟨d1, d2, d3, d4⟩ := hdi
    obtain ⟨w1, w2, w3, w4⟩ := id hW
    by_cases hu : ∃ j, j < (zsz M zn1).toNat ∧ ¬ W j = d j
    · obtain ⟨j, hj, hju⟩ := hu
      obtain ⟨i, hi, hiu, hmin⟩ := zmin (d := d) (W := W) (n := (zsz M zn1).toNat) (fun j hj => (d1 j (by omega)).1) (d j).toNat j hj hju (by omega)
      have hli := hl i (by omega)
      have hwi := w1 i (by omega)
      have hset : (zrd M zn1 (zsz M zn1).toNat (W, 0)).1 i = d i := by
        have hlow := zrd_se hB hd (fun j hj => (d1 j hj).2) (fun j hj => (w1 j hj).2) hl (zsz M zn1).toNat i (by omega)
        refine Int.le_antisymm ?_ hlow
        rcases d4 (i : Int) (by omega) (by omega) with h | h | ⟨hf, e, he, h5, h6⟩
        · rw [Int.toNat_natCast] at h
          omega
        · exfalso
          have : i = t.toNat := by omega
          rw [this] at hiu
          exact hiu (w3.trans d3.symm)
        · obtain ⟨k1, k2, k3⟩ := zwn hB hf he
          rw [Int.toNat_natCast] at h6
          have hns := hmin (M (zn1 + 4) ((i : Int) * 4 + e).toNat).toNat (by omega) (by omega)
          have hgo := zrd_go hB hd (fun j hj => (d1 j hj).2) (fun j hj => (w1 j hj).2) hl hf he (fun h => by rw [h, Int.toNat_natCast] at h6 k2; omega) hns (by unfold zco; rw [if_pos h5, Int.toNat_natCast]; exact h6) (zsz M zn1).toNat (by omega)
          rw [Int.toNat_natCast] at hgo
          exact hgo
      have hfall : zsum (zun d (zrd M zn1 (zsz M zn1).toNat (W, 0)).1) (zsz M zn1).toNat < zsum (zun d W) (zsz M zn1).toNat := by
        refine zsum_lt _ (fun j hj => ?_) ⟨i, hi, ?_⟩
        · have hlow := zrd_se hB hd (fun j hj => (d1 j hj).2) (fun j hj => (w1 j hj).2) hl (zsz M zn1).toNat j (by omega)
          have hup : (zrd M zn1 (zsz M zn1).toNat (W, 0)).1 j ≤ W j := zrd_le (M := M) (zsz M zn1).toNat (W, 0) j
          unfold zun
          split <;> split <;> omega
        · unfold zun
          rw [if_pos hset, if_neg hiu]
          decide
      match k, hk with
      | 0, hk =>
        exfalso
        have h3 := (zsum_b (F := zun d (zrd M zn1 (zsz M zn1).toNat (W, 0)).1) (l := 0) (u := 1) (zsz M zn1).toNat (fun j hj => by unfold zun; split <;> decide)).1
        have hk0 : zsum (zun d W) (zsz M zn1).toNat ≤ 0 := hk
        omega
      | k + 1, hk =>
        refine Or.inr (zend_of hB hd ⟨d1, d2, d3, d4⟩ k _ (zrd_i hB _ hW) (zrd_se hB hd (fun j hj => (d1 j hj).2) (fun j hj => (w1 j hj).2) hl _) (by omega))
    · refine Or.inl ?_
      have hWd : ∀ j : Nat, (j : Int) < zsz M zn1 → W j = d j := fun j hj => Classical.byContradiction (fun e => hu ⟨j, by omega, e⟩)
      have hst : zst M W := by
        intro c e hc h0 h4
        obtain ⟨k1, k2, k3⟩ := zwn hB hc ⟨h0, h4⟩
        have h5 := hd c e hc h0 h4
        have hz : zsz M zn1 = M (zn1 + 1) 0 * M (zn1 + 1) 1 := rfl
        have hc0 := hc.1
        have hc1 := hc.2.1
        have e1 := hWd (M (zn1 + 4) (c * 4 + e).toNat).toNat (by omega)
        have e2 := hWd c.toNat (by omega)
        unfold zco at h5 ⊢
        rw [e1, e2]
        exact h5
      rw [zrd_0 hst]
theorem zsum_ones : ∀ n : Nat, zsum (fun _ => 1) n = (n : Int)
  | 0 => rfl
  | n + 1 => by
    show zsum (fun _ => 1) n + 1 = _
    rw [zsum_ones n]
    omega
noncomputable def zv0 (M : zM) (t : Int) : zF := ztab M 114 (zsz M zn1).toNat (zw0 t) 114
theorem zv0_at {M : zM} {t : Int} {j : Nat} (hj : (j : Int) < zsz M zn1) : zv0 M t j = if (j : Int) = t then 0 else 1000000 := if_pos ⟨rfl, by omega⟩
theorem zv0_i {M : zM} {t : Int} (ht : 0 ≤ t ∧ t < zsz M zn1) : zwi M t (zv0 M t) := by
  refine ⟨fun j hj => by rw [zv0_at hj]; split <;> decide, ht, by rw [zv0_at (by omega), if_pos (by omega)], fun c h0 h1 => ?_⟩
  by_cases h : c = t
  · exact Or.inr (Or.inl h)
  · exact Or.inl (by rw [zv0_at (by omega), if_neg (by omega)])
theorem zend_n {M : zM} {n t : Int} (hB : zBI n M zn1) (ht : 0 ≤ t ∧ t < zsz M zn1) : zend M (zsz M zn1).toNat (zv0 M t) := by
  obtain ⟨g6, g7⟩ := hB.g.sz
  have hz : zsz M zn1 = M (zn1 + 1) 0 * M (zn1 + 1) 1 := rfl
  have hi := zv0_i (M := M) ht
  obtain ⟨d, d1, d2, d3⟩ := zex hB (zsum (zv0 M t) (zsz M zn1).toNat).toNat (zv0 M t) hi (by omega)
  have h1 : zsum (zun d (zv0 M t)) (zsz M zn1).toNat < (((zsz M zn1).toNat : Nat) : Int) := by
    rw [← zsum_ones (zsz M zn1).toNat]
    refine zsum_lt _ (fun j _ => by unfold zun; split <;> decide) ⟨t.toNat, by omega, ?_⟩
    unfold zun
    rw [if_pos (hi.2.2.1.trans d1.2.2.1.symm)]
    decide
  have h2 := zend_of hB d2 d1 ((zsz M zn1).toNat - 1) (zv0 M t) hi (fun j _ => d3 j) (by omega)
  rw [show (zsz M zn1).toNat - 1 + 1 = (zsz M zn1).toNat by omega] at h2
  exact h2
/-- the row behind the rounds -/
noncomputable def zvf (M : zM) (t : Int) : zF := zfa M zn1 (zsz M zn1).toNat (zv0 M t)
theorem zfa_st {M : zM} {n t : Int} (hB : zBI n M zn1) : ∀ k, ∀ W, zwi M t W → zend M k W → zwi M t (zfa M zn1 k W) ∧ zst M (zfa M zn1 k W)
  | 0, _, _, h => h.elim
  | k + 1, W, hW, h => by
    unfold zfa
    by_cases h1 : (zrd M zn1 (zsz M zn1).toNat (W, 0)).2 = 0
    · rw [if_pos h1]
      refine ⟨zrd_i hB _ hW, ?_⟩
      rw [(zrd_1 _ W h1).1]
      exact zrd_st h1
    · rw [if_neg h1]
      exact zfa_st hB k _ (zrd_i hB _ hW) (h.resolve_left h1)
theorem zvf_st {M : zM} {n t : Int} (hB : zBI n M zn1) (ht : 0 ≤ t ∧ t < zsz M zn1) : zwi M t (zvf M t) ∧ zst M (zvf M t) := zfa_st hB _ _ (zv0_i ht) (zend_n hB ht)
theorem zfaM_vf {M : zM} {t : Int} : zfaM M zn1 t 114 = zvf M t := zrow_q
theorem zend_a {M : zM} {W : zF} {a : Nat} (h : zend M a W) : ∀ b, zend M (a + b) W
  | 0 => h
  | b + 1 => zend_m _ _ (zend_a h b)
theorem zend_36 {M : zM} {W : zF} {a : Nat} (h : zend M a W) (ha : a ≤ 36) : zend M 36 W := by
  have h1 := zend_a h (36 - a)
  rw [show a + (36 - a) = 36 by omega] at h1
  exact h1
theorem zfa_m {M : zM} : ∀ k, ∀ b, ∀ W, zend M k W → zfa M zn1 (k + b) W = zfa M zn1 k W
  | 0, _, _, h => h.elim
  | k + 1, b, W, h => by
    rw [show k + 1 + b = (k + b) + 1 by omega]
    unfold zfa
    by_cases h1 : (zrd M zn1 (zsz M zn1).toNat (W, 0)).2 = 0
    · rw [if_pos h1, if_pos h1]
    · rw [if_neg h1, if_neg h1]
      exact zfa_m k b _ (h.resolve_left h1)
theorem zfa_36 {M : zM} {t : Int} (h : zend M (zsz M zn1).toNat (zv0 M t)) (ha : (zsz M zn1).toNat ≤ 36) : zfa M zn1 36 (zv0 M t) = zvf M t := by
  have h1 := zfa_m _ (36 - (zsz M zn1).toNat) _ h
  rw [show (zsz M zn1).toNat + (36 - (zsz M zn1).toNat) = 36 by omega] at h1
  exact h1
end
