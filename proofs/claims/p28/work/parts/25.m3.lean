noncomputable section
/-! The filter. -/
def zE2 (M M0 : zM) (a : Nat) : Prop := M (a + 1) = M0 (a + 1) ∧ M (a + 2) = M0 (a + 2)
theorem zGr_c {M M0 : zM} {a : Nat} (h : zE2 M M0 a) (hg : zGr M0 a) : zGr M a := by
  unfold zGr
  rw [h.1, h.2]
  exact hg
theorem zfree_c {M M0 : zM} {a : Nat} {c : Int} (h : zE2 M M0 a) : zfree M a c ↔ zfree M0 a c := by
  unfold zfree
  rw [h.1, h.2]
theorem zsz_c {M M0 : zM} {a : Nat} (h : zE2 M M0 a) : zsz M a = zsz M0 a := by
  unfold zsz
  rw [h.1]
theorem zfreeN_c {M M0 : zM} {a : Nat} (h : zE2 M M0 a) : zfreeN M a = zfreeN M0 a := by
  funext j
  exact propext (zfree_c h)
theorem zSt_le {a : Nat} (h : zSt a) : 1 ≤ a ∧ a ≤ 87 := by
  rcases h with rfl | rfl | rfl | rfl | rfl | rfl | rfl | rfl <;> decide
theorem zE2_tab {M : zM} {a q n : Nat} {F : zF} (h1 : q ≠ a + 1) (h2 : q ≠ a + 2) : zE2 (ztab M q n F) M a := ⟨by funext j; exact ztab_o (fun e => h1 e.symm), by funext j; exact ztab_o (fun e => h2 e.symm)⟩
noncomputable def zevW (M : zM) (a : Nat) : zF := fun j => zb (zfreeN M a j)
theorem zevW_sum (M : zM) (a : Nat) : ∀ n, zsum (zevW M a) n = zcount (zfreeN M a) n
  | 0 => rfl
  | n + 1 => by
    show zsum (zevW M a) n + zb (zfreeN M a n) = zcount (zfreeN M a) n + zb (zfreeN M a n)
    rw [zevW_sum M a n]
noncomputable def zevM (M : zM) (a q : Nat) : zM := zscM (ztab M 102 (zsz M a).toNat (zevW M a)) q (zsz M a).toNat
theorem zl_evenInto_8 {xs : List Int32} {d : Nat} {w : Bool}  {a : Nat} (ha : zSt a) {q : Nat} (hq : zIs q 100 36 zI) {M0 : zM} (hg : zGr M0 a) (hf : 0 < zmany M0 a)  : ∀ (zn : Nat) (s i : Int) (M : zM), (M = ztab M0 102 i.toNat (zevW M0 a)) → (s = zsz M0 a) → (0 ≤ i ∧ i ≤ s) → s - i ≤ (zn : Int) → zG (xstep (xrun2 xs (d + 2)) xs 4) 4 (zn * 15 + 15) 8 [(0, .ref 101), (1, .ref (a + 1)), (2, .ref q), (3, .int (Int32.ofInt s)), (4, .int (Int32.ofInt i))] [] 0 0 w M (fun o σ => o = (.inl none : XO) ∧ σ = (w, zheap (zevM M0 a q))) := by
  intro zn
  induction zn with
  | zero =>
    intro s i M hM hs hi hm
    have ha1 := zSt_le ha
    have hE : zE2 M M0 a := by rw [hM]; exact zE2_tab (by omega) (by omega)
    have hg' := zGr_c hE hg
    obtain ⟨g6, g7⟩ := hg.sz
    have hz : zsz M0 a = M0 (a + 1) 0 * M0 (a + 1) 1 := rfl
    have hi2 : i = s → i.toNat = (zsz M0 a).toNat := fun h => by rw [h, hs]
    exact zG_mono (N := 0 + 15) (by omega) (zz_iload (pc := 8) xf_4_8 (zmem 4 rfl) (zz_iload_n (pc := 10) xf_4_10 (zmem 3 rfl) (zz_icmp (pc := 11) xf_4_11 (by unfold zr32; omega) (by unfold zr32; omega) (fun (zc1 : ¬ (i < s)) => zz_aload_n (pc := 41) xf_4_41 (zmem 0 rfl) (zz_aload_n (pc := 42) xf_4_42 (zmem 2 rfl) (zz_iload_n (pc := 43) xf_4_43 (zmem 3 rfl) (zz_call_0 (pc := 44) (cu := 0) (su := 0) (fun ls hr => zz_calV xf_4_44 rfl zis_101 ls hr) rfl (sp_scaleInto (d := d) hq (by omega) (fun j hj => by rw [hM, ztab_i (by omega)]; unfold zevW; rcases zb_01 (zfreeN M0 a j) with e | e <;> rw [e] <;> omega) (by rw [zsum_c (K := zevW M0 a) _ (fun j hj => by rw [hM]; exact ztab_i (by omega)), zevW_sum, hs]; exact hf)) (zm_as (fun zM3 (ezM3 : zM3 = zscM M q s.toNat) => zz_return (pc := 47) xf_4_47 rfl (by decide +kernel) (by decide +kernel) (by exact ⟨rfl, by rw [ezM3, hM, hi2 (by omega), hs]; rfl⟩))))))) (fun zc20 => have zc2 : i < s := Classical.not_not.mp zc20; zz_aload_n (pc := 14) xf_4_14 (zmem 0 rfl) (zz_getR (pc := 15) xf_4_15 zis_101 (by decide +kernel) rfl (zz_iload (pc := 18) xf_4_18 (zmem 4 rfl) (zz_aload_n (pc := 20) xf_4_20 (zmem 1 rfl) (zz_iload (pc := 21) xf_4_21 (zmem 4 rfl) (zz_call_v (pc := 23) (cu := 0) (su := 0) (fun ls hr => zz_calV xf_4_23 rfl (zst_1 ha) ls hr) rfl (sp_isFree (d := d + 1) ha (by unfold zr32; omega) hg') (zz_ifbeq (pc := 26) xf_4_26 (fun (zc4 : ¬ (zfree M a i)) => zz_lconst (pc := 33) (x := 0) xf_4_33 (by decide +kernel) (zz_last (pc := 34) xf_4_34 zis_102 (by omega) (zm_as (fun zM6 (ezM6 : zM6 = zup M 102 i.toNat (0)) => zz_iinc (pc := 35) xf_4_35 (zmem 4 rfl) (by decide +kernel) (zG_ro (ρ' := [(4, .int (Int32.ofInt (i + 1))), (0, .ref 101), (1, .ref (a + 1)), (2, .ref q), (3, .int (Int32.ofInt s))]) rfl (zz_goto (pc := 38) xf_4_38 ((by exfalso; omega)))))))) (fun zc50 => have zc5 : zfree M a i := Classical.not_not.mp zc50; zz_lconst (pc := 29) (x := 1) xf_4_29 (by decide +kernel) (zz_goto (pc := 30) xf_4_30 (zz_last (pc := 34) xf_4_34 zis_102 (by omega) (zm_as (fun zM7 (ezM7 : zM7 = zup M 102 i.toNat (1)) => zz_iinc (pc := 35) xf_4_35 (zmem 4 rfl) (by decide +kernel) (zG_ro (ρ' := [(4, .int (Int32.ofInt (i + 1))), (0, .ref 101), (1, .ref (a + 1)), (2, .ref q), (3, .int (Int32.ofInt s))]) rfl (zz_goto (pc := 38) xf_4_38 ((by exfalso; omega)))))))))))))))))))
  | succ zn ih =>
    intro s i M hM hs hi hm
    have ha1 := zSt_le ha
    have hE : zE2 M M0 a := by rw [hM]; exact zE2_tab (by omega) (by omega)
    have hg' := zGr_c hE hg
    obtain ⟨g6, g7⟩ := hg.sz
    have hz : zsz M0 a = M0 (a + 1) 0 * M0 (a + 1) 1 := rfl
    have hi2 : i = s → i.toNat = (zsz M0 a).toNat := fun h => by rw [h, hs]
    exact zG_mono (N := zn * 15 + 15 + 0 + 15) (by omega) (zz_iload (pc := 8) xf_4_8 (zmem 4 rfl) (zz_iload_n (pc := 10) xf_4_10 (zmem 3 rfl) (zz_icmp (pc := 11) xf_4_11 (by unfold zr32; omega) (by unfold zr32; omega) (fun (zc1 : ¬ (i < s)) => zz_aload_n (pc := 41) xf_4_41 (zmem 0 rfl) (zz_aload_n (pc := 42) xf_4_42 (zmem 2 rfl) (zz_iload_n (pc := 43) xf_4_43 (zmem 3 rfl) (zz_call_0 (pc := 44) (cu := 0) (su := 0) (fun ls hr => zz_calV xf_4_44 rfl zis_101 ls hr) rfl (sp_scaleInto (d := d) hq (by omega) (fun j hj => by rw [hM, ztab_i (by omega)]; unfold zevW; rcases zb_01 (zfreeN M0 a j) with e | e <;> rw [e] <;> omega) (by rw [zsum_c (K := zevW M0 a) _ (fun j hj => by rw [hM]; exact ztab_i (by omega)), zevW_sum, hs]; exact hf)) (zm_as (fun zM3 (ezM3 : zM3 = zscM M q s.toNat) => zz_return (pc := 47) xf_4_47 rfl (by decide +kernel) (by decide +kernel) (by exact ⟨rfl, by rw [ezM3, hM, hi2 (by omega), hs]; rfl⟩))))))) (fun zc20 => have zc2 : i < s := Classical.not_not.mp zc20; zz_aload_n (pc := 14) xf_4_14 (zmem 0 rfl) (zz_getR (pc := 15) xf_4_15 zis_101 (by decide +kernel) rfl (zz_iload (pc := 18) xf_4_18 (zmem 4 rfl) (zz_aload_n (pc := 20) xf_4_20 (zmem 1 rfl) (zz_iload (pc := 21) xf_4_21 (zmem 4 rfl) (zz_call_v (pc := 23) (cu := 0) (su := 0) (fun ls hr => zz_calV xf_4_23 rfl (zst_1 ha) ls hr) rfl (sp_isFree (d := d + 1) ha (by unfold zr32; omega) hg') (zz_ifbeq (pc := 26) xf_4_26 (fun (zc4 : ¬ (zfree M a i)) => zz_lconst (pc := 33) (x := 0) xf_4_33 (by decide +kernel) (zz_last (pc := 34) xf_4_34 zis_102 (by omega) (zm_as (fun zM6 (ezM6 : zM6 = zup M 102 i.toNat (0)) => zz_iinc (pc := 35) xf_4_35 (zmem 4 rfl) (by decide +kernel) (zG_ro (ρ' := [(4, .int (Int32.ofInt (i + 1))), (0, .ref 101), (1, .ref (a + 1)), (2, .ref q), (3, .int (Int32.ofInt s))]) rfl (zz_goto (pc := 38) xf_4_38 (zG_mono (N := zn * 15 + 15) (by omega) (zG_sub (List.forall_mem_cons.mpr ⟨zmem 1 rfl, (List.forall_mem_cons.mpr ⟨zmem 2 rfl, (List.forall_mem_cons.mpr ⟨zmem 3 rfl, (List.forall_mem_cons.mpr ⟨zmem 4 rfl, (List.forall_mem_cons.mpr ⟨zmem 0 rfl, (fun p hp => absurd hp List.not_mem_nil)⟩)⟩)⟩)⟩)⟩) (ih s (i + 1) zM6  (by rw [ezM6, hM, show (i + 1).toNat = i.toNat + 1 by omega]; first | exact ztab_s (zb_t ((zfreeN_i hi.1).mpr ((zfree_c hE).mp (by assumption)))).symm | exact ztab_s (zb_f (fun e => absurd ((zfree_c hE).mpr ((zfreeN_i hi.1).mp e)) (by assumption))).symm) hs (by omega) (by omega)))))))))) (fun zc50 => have zc5 : zfree M a i := Classical.not_not.mp zc50; zz_lconst (pc := 29) (x := 1) xf_4_29 (by decide +kernel) (zz_goto (pc := 30) xf_4_30 (zz_last (pc := 34) xf_4_34 zis_102 (by omega) (zm_as (fun zM7 (ezM7 : zM7 = zup M 102 i.toNat (1)) => zz_iinc (pc := 35) xf_4_35 (zmem 4 rfl) (by decide +kernel) (zG_ro (ρ' := [(4, .int (Int32.ofInt (i + 1))), (0, .ref 101), (1, .ref (a + 1)), (2, .ref q), (3, .int (Int32.ofInt s))]) rfl (zz_goto (pc := 38) xf_4_38 (zG_mono (N := zn * 15 + 15) (by omega) (zG_sub (List.forall_mem_cons.mpr ⟨zmem 1 rfl, (List.forall_mem_cons.mpr ⟨zmem 2 rfl, (List.forall_mem_cons.mpr ⟨zmem 3 rfl, (List.forall_mem_cons.mpr ⟨zmem 4 rfl, (List.forall_mem_cons.mpr ⟨zmem 0 rfl, (fun p hp => absurd hp List.not_mem_nil)⟩)⟩)⟩)⟩)⟩) (ih s (i + 1) zM7  (by rw [ezM7, hM, show (i + 1).toNat = i.toNat + 1 by omega]; first | exact ztab_s (zb_t ((zfreeN_i hi.1).mpr ((zfree_c hE).mp (by assumption)))).symm | exact ztab_s (zb_f (fun e => absurd ((zfree_c hE).mpr ((zfreeN_i hi.1).mp e)) (by assumption))).symm) hs (by omega) (by omega)))))))))))))))))))))
theorem sp_evenInto {xs : List Int32} {d : Nat} {w : Bool} {M : zM} {a : Nat} (ha : zSt a) {q : Nat} (hq : zIs q 100 36 zI) (hg : zGr M a) (hf : 0 < zmany M a) : xrun2 xs (d + 3) 4 [.ref 101, .ref (a + 1), .ref q] (w, zheap M) = some (.inl none, (w, zheap (zevM M a q))) := by
  obtain ⟨⟨g1, g2⟩, ⟨g3, g4⟩, g5⟩ := id hg
  obtain ⟨g6, g7⟩ := hg.sz
  have hz : zsz M a = M (a + 1) 0 * M (a + 1) 1 := rfl
  exact zrun_v (N := 560) (by decide) rfl (zz_aload_n (pc := 0) xf_4_0 (zmem 1 rfl) (zz_call_v (pc := 1) (cu := 0) (su := 0) (fun ls hr => zz_calV xf_4_1 rfl (zst_1 ha) ls hr) rfl (sp_size (d := d + 1) ha) (zz_istore_n (pc := 4) xf_4_4 (by decide +kernel) (zG_ro (ρ' := [(3, .int (Int32.ofInt (zsz M a))), (0, .ref 101), (1, .ref (a + 1)), (2, .ref q)]) rfl (zz_iconst (pc := 5) xf_4_5 (zz_istore (pc := 6) xf_4_6 (by decide +kernel) (zG_ro (ρ' := [(4, .int (Int32.ofInt (0))), (3, .int (Int32.ofInt (zsz M a))), (0, .ref 101), (1, .ref (a + 1)), (2, .ref q)]) rfl (zG_mono (N := 555) (by omega) (zG_sub (List.forall_mem_cons.mpr ⟨zmem 2 rfl, (List.forall_mem_cons.mpr ⟨zmem 3 rfl, (List.forall_mem_cons.mpr ⟨zmem 4 rfl, (List.forall_mem_cons.mpr ⟨zmem 1 rfl, (List.forall_mem_cons.mpr ⟨zmem 0 rfl, (fun p hp => absurd hp List.not_mem_nil)⟩)⟩)⟩)⟩)⟩) (zl_evenInto_8 (M0 := M) ha hq hg hf 36 _ _ _ ztab_0.symm rfl (by omega) (by omega)))))))))))
def zrow (M : zM) (q : Nat) (F : zF) : zM := fun q' j => if q' = q then F j else M q' j
theorem zrow_q {M : zM} {q : Nat} {F : zF} : zrow M q F q = F := by
  funext j
  exact if_pos rfl
theorem zrow_o {M : zM} {q q' : Nat} {F : zF} (h : q' ≠ q) : zrow M q F q' = M q' := by
  funext j
  exact if_neg h
theorem zrow_up {M : zM} {q j : Nat} {F : zF} {x : Int} : zup (zrow M q F) q j x = zrow M q (zrup F j x) := by
  funext q' i
  unfold zup zrow zrup
  by_cases h : q' = q
  · subst h
    by_cases h2 : i = j
    · subst h2; simp
    · simp [h2]
  · simp [h]
theorem zrow_tab {M : zM} {q n : Nat} {F : zF} : ztab M q n F = zrow M q (fun j => if j < n then F j else M q j) := by
  funext q' i
  unfold ztab zrow
  by_cases h : q' = q
  · subst h
    by_cases h2 : i < n
    · simp [h2]
    · simp [h2]
  · simp [h]
theorem zradd {F : zF} {j : Nat} {x : Int} : zrup F j (F j + x) = fun t => F t + (if j = t then x else 0) := by
  funext t
  unfold zrup
  by_cases h : t = j
  · subst h; simp
  · rw [if_neg h, if_neg (fun e => h e.symm), Int.add_zero]
/-- the neighbours are cells; the beliefs are shares -/
def zNb (M : zM) (a : Nat) : Prop := ∀ j : Nat, j < 144 → 0 ≤ M (a + 4) j ∧ M (a + 4) j ≤ 35
def zBl (M : zM) (a : Nat) : Prop := ∀ j : Nat, j < 36 → 0 ≤ M (a + 11) j ∧ M (a + 11) j ≤ 1000000
theorem ztarget_b {M : zM} {a : Nat} {c e y : Int} (h : zNb M a) (hc : 0 ≤ c ∧ c < 36) (he : 0 ≤ e ∧ e < 4) : 0 ≤ ztarget M a c e y ∧ ztarget M a c e y < 36 := by
  unfold ztarget
  split
  · have := h (c * 4 + e).toNat (by omega); omega
  · split
    · have := h (c * 4 + (e + 3) % 4).toNat (by omega); omega
    · split
      · have := h (c * 4 + (e + 1) % 4).toNat (by omega); omega
      · omega
theorem ztarget_c {M M0 : zM} {a : Nat} {c e y : Int} (h : M (a + 4) = M0 (a + 4)) : ztarget M a c e y = ztarget M0 a c e y := by
  unfold ztarget
  rw [h]
/-- what a cell gives to another one, in one of the four cases of a move -/
def zterm (M : zM) (a : Nat) (e : Int) (c y t : Nat) : Int := if (ztarget M a c e y).toNat = t then M (a + 11) c * M (a + 6) y else 0
def zmvF (M : zM) (a : Nat) (e : Int) (n i : Nat) : zF := fun t => (if t < n then 0 else M 102 t) + zsum (fun c => zsum (fun y => zterm M a e c y t) 4) i
theorem zsum_0 {F : zF} : ∀ n, (∀ j, j < n → F j = 0) → zsum F n = 0
  | 0, _ => rfl
  | n + 1, h => by
    show zsum F n + F n = 0
    rw [zsum_0 n (fun j hj => h j (by omega)), h n (by omega)]
    rfl
def zE9 (M M0 : zM) (a : Nat) : Prop := M (a + 1) = M0 (a + 1) ∧ M (a + 2) = M0 (a + 2) ∧ M (a + 4) = M0 (a + 4) ∧ M (a + 5) = M0 (a + 5) ∧ M (a + 6) = M0 (a + 6) ∧ M (a + 7) = M0 (a + 7) ∧ M (a + 11) = M0 (a + 11)
theorem zE9_row {M : zM} {a q : Nat} {F : zF} (ha : zSt a) (hq : 99 ≤ q) : zE9 (zrow M q F) M a := by
  have := zSt_le ha
  exact ⟨zrow_o (by omega), zrow_o (by omega), zrow_o (by omega), zrow_o (by omega), zrow_o (by omega), zrow_o (by omega), zrow_o (by omega)⟩
theorem zE9.e2 {M M0 : zM} {a : Nat} (h : zE9 M M0 a) : zE2 M M0 a := ⟨h.1, h.2.1⟩
theorem zl_weighMove_53 {xs : List Int32} {d : Nat} {w : Bool}  {a : Nat} (ha : zSt a) {e : Int} (he : 0 ≤ e ∧ e < 4) {M0 : zM} (hg : zGr M0 a) (hnb : zNb M0 a) (hbl : zBl M0 a) (ht : zTb M0 a) {s i b : Int} {NK : Nat} (hs : s = zsz M0 a) (hi : 0 ≤ i ∧ i < s) (hb : b = M0 (a + 11) i.toNat) (hk : ∀ M : zM, M = zrow M0 102 (zmvF M0 a e (zsz M0 a).toNat (i + 1).toNat) → zG (xstep (xrun2 xs (d + 2)) xs 6) 6 NK 34 [(0, .ref 101), (1, .ref a), (2, .int (Int32.ofInt e)), (3, .int (Int32.ofInt s)), (4, .int (Int32.ofInt (i + 1)))] [] 0 0 w M (fun o σ => o = (.inl none : XO) ∧ σ = (w, zheap (zrow M0 102 (zmvF M0 a e (zsz M0 a).toNat (zsz M0 a).toNat))))) : ∀ (zn : Nat) (y : Int) (M : zM), (M = zrow M0 102 (fun t => zmvF M0 a e (zsz M0 a).toNat i.toNat t + zsum (fun y => zterm M0 a e i.toNat y t) y.toNat)) → (0 ≤ y ∧ y ≤ 4) → 4 - y ≤ (zn : Int) → zG (xstep (xrun2 xs (d + 2)) xs 6) 6 (zn * 29 + (NK + 29)) 53 [(0, .ref 101), (1, .ref a), (2, .int (Int32.ofInt e)), (3, .int (Int32.ofInt s)), (4, .int (Int32.ofInt i)), (5, .long (Int64.ofInt b)), (7, .int (Int32.ofInt y))] [] 0 0 w M (fun o σ => o = (.inl none : XO) ∧ σ = (w, zheap (zrow M0 102 (zmvF M0 a e (zsz M0 a).toNat (zsz M0 a).toNat)))) := by
  intro zn
  induction zn with
  | zero =>
    intro y M hM hy hm
    have ha1 := zSt_le ha
    have hE : zE9 M M0 a := by rw [hM]; exact zE9_row ha (by omega)
    obtain ⟨g6, g7⟩ := hg.sz
    have hz : zsz M0 a = M0 (a + 1) 0 * M0 (a + 1) 1 := rfl
    have hbl' := hbl i.toNat (by omega)
    have htg := ztarget_b (y := y) hnb (c := i) (by omega) he
    rw [← ztarget_c (M := M) hE.2.2.1] at htg
    have hmo : y < 4 → 0 ≤ M (a + 6) y.toNat ∧ M (a + 6) y.toNat ≤ 16 := fun h => by rw [hE.2.2.2.2.1]; exact ht.1 _ (by omega)
    exact zG_mono (N := NK + 29) (by omega) (zz_lload (pc := 53) xf_6_53 (zmem 5 rfl) (zz_lconst (pc := 55) (x := 0) xf_6_55 (by decide +kernel) (zz_lcmp (pc := 56) xf_6_56 xf_6_57 (by unfold zr64; omega) ⟨by decide, by decide⟩ (fun (zc1 : ¬ ((0) < b)) => zz_iinc (pc := 106) xf_6_106 (zmem 4 rfl) (by decide +kernel) (zG_ro (ρ' := [(4, .int (Int32.ofInt (i + 1))), (0, .ref 101), (1, .ref a), (2, .int (Int32.ofInt e)), (3, .int (Int32.ofInt s)), (5, .long (Int64.ofInt b)), (7, .int (Int32.ofInt y))]) rfl (zz_goto (pc := 109) xf_6_109 (zG_mono (N := NK) (by omega) (zG_sub (List.forall_mem_cons.mpr ⟨zmem 1 rfl, (List.forall_mem_cons.mpr ⟨zmem 2 rfl, (List.forall_mem_cons.mpr ⟨zmem 3 rfl, (List.forall_mem_cons.mpr ⟨zmem 4 rfl, (List.forall_mem_cons.mpr ⟨zmem 0 rfl, (fun p hp => absurd hp List.not_mem_nil)⟩)⟩)⟩)⟩)⟩) (hk _ (by rw [hM]; congr 1; funext t; rw [show (i + 1).toNat = i.toNat + 1 by omega]; show _ = (if t < _ then (0 : Int) else _) + (zsum (fun c => zsum (fun y => zterm M0 a e c y t) 4) i.toNat + zsum (fun y => zterm M0 a e i.toNat y t) 4); rw [← Int.add_assoc]; congr 1; first | (rw [show y.toNat = 4 by omega]) | (rw [zsum_0 _ (fun j _ => by unfold zterm; rw [show M0 (a + 11) i.toNat = 0 by omega, Int.zero_mul]; split <;> rfl), zsum_0 _ (fun j _ => by unfold zterm; rw [show M0 (a + 11) i.toNat = 0 by omega, Int.zero_mul]; split <;> rfl)])))))))) (fun zc20 => have zc2 : (0) < b := Classical.not_not.mp zc20; zz_iload (pc := 60) xf_6_60 (zmem 6 rfl) (zz_iconst (pc := 62) xf_6_62 (zz_icmp (pc := 63) xf_6_63 (by unfold zr32; omega) ⟨by decide, by decide⟩ (fun (zc3 : ¬ (y < (4))) => zz_iinc (pc := 106) xf_6_106 (zmem 4 rfl) (by decide +kernel) (zG_ro (ρ' := [(4, .int (Int32.ofInt (i + 1))), (0, .ref 101), (1, .ref a), (2, .int (Int32.ofInt e)), (3, .int (Int32.ofInt s)), (5, .long (Int64.ofInt b)), (7, .int (Int32.ofInt y))]) rfl (zz_goto (pc := 109) xf_6_109 (zG_mono (N := NK) (by omega) (zG_sub (List.forall_mem_cons.mpr ⟨zmem 1 rfl, (List.forall_mem_cons.mpr ⟨zmem 2 rfl, (List.forall_mem_cons.mpr ⟨zmem 3 rfl, (List.forall_mem_cons.mpr ⟨zmem 4 rfl, (List.forall_mem_cons.mpr ⟨zmem 0 rfl, (fun p hp => absurd hp List.not_mem_nil)⟩)⟩)⟩)⟩)⟩) (hk _ (by rw [hM]; congr 1; funext t; rw [show (i + 1).toNat = i.toNat + 1 by omega]; show _ = (if t < _ then (0 : Int) else _) + (zsum (fun c => zsum (fun y => zterm M0 a e c y t) 4) i.toNat + zsum (fun y => zterm M0 a e i.toNat y t) 4); rw [← Int.add_assoc]; congr 1; first | (rw [show y.toNat = 4 by omega]) | (rw [zsum_0 _ (fun j _ => by unfold zterm; rw [show M0 (a + 11) i.toNat = 0 by omega, Int.zero_mul]; split <;> rfl), zsum_0 _ (fun j _ => by unfold zterm; rw [show M0 (a + 11) i.toNat = 0 by omega, Int.zero_mul]; split <;> rfl)])))))))) (fun zc40 => have zc4 : y < (4) := Classical.not_not.mp zc40; zz_aload_n (pc := 66) xf_6_66 (zmem 0 rfl) (zz_getR (pc := 67) xf_6_67 zis_101 (by decide +kernel) rfl (zz_aload_n (pc := 70) xf_6_70 (zmem 1 rfl) (zz_getR (pc := 71) xf_6_71 (zst_0 ha) (by decide +kernel) rfl (zz_iload (pc := 74) xf_6_74 (zmem 4 rfl) (zz_iload_n (pc := 76) xf_6_76 (zmem 2 rfl) (zz_iload (pc := 77) xf_6_77 (zmem 6 rfl) (zz_call_v (pc := 79) (cu := 0) (su := 0) (fun ls hr => zz_calV xf_6_79 rfl (zst_1 ha) ls hr) rfl (sp_target (d := d) ha (by omega) (by omega) (by unfold zr32; omega)) (zz_dup2_ir (pc := 82) xf_6_82 (zz_lald (pc := 83) xf_6_83 zis_102 (by omega) (zz_lload (pc := 84) xf_6_84 (zmem 5 rfl) (zz_aload_n (pc := 86) xf_6_86 (zmem 1 rfl) (zz_getR (pc := 87) xf_6_87 (zst_0 ha) (by decide +kernel) rfl (zz_getR (pc := 90) xf_6_90 (zst_5 ha) (by decide +kernel) rfl (zz_iload (pc := 93) xf_6_93 (zmem 6 rfl) (zz_iald (pc := 95) xf_6_95 (zst_6 ha) (by omega) (zz_i2l (pc := 96) xf_6_96 (by unfold zr32; omega) (zz_lmul (pc := 97) xf_6_97 (zz_ladd (pc := 98) xf_6_98 (zz_last (pc := 99) xf_6_99 zis_102 (by omega) (zm_as (fun zM5 (ezM5 : zM5 = zup M 102 (ztarget M a i e y).toNat ((M 102 (ztarget M a i e y).toNat) + (b * (M (a + 6) y.toNat)))) => zz_iinc (pc := 100) xf_6_100 (zmem 6 rfl) (by decide +kernel) (zG_ro (ρ' := [(7, .int (Int32.ofInt (y + 1))), (0, .ref 101), (1, .ref a), (2, .int (Int32.ofInt e)), (3, .int (Int32.ofInt s)), (4, .int (Int32.ofInt i)), (5, .long (Int64.ofInt b))]) rfl (zz_goto (pc := 103) xf_6_103 ((by exfalso; omega))))))))))))))))))))))))))))))))
  | succ zn ih =>
    intro y M hM hy hm
    have ha1 := zSt_le ha
    have hE : zE9 M M0 a := by rw [hM]; exact zE9_row ha (by omega)
    obtain ⟨g6, g7⟩ := hg.sz
    have hz : zsz M0 a = M0 (a + 1) 0 * M0 (a + 1) 1 := rfl
    have hbl' := hbl i.toNat (by omega)
    have htg := ztarget_b (y := y) hnb (c := i) (by omega) he
    rw [← ztarget_c (M := M) hE.2.2.1] at htg
    have hmo : y < 4 → 0 ≤ M (a + 6) y.toNat ∧ M (a + 6) y.toNat ≤ 16 := fun h => by rw [hE.2.2.2.2.1]; exact ht.1 _ (by omega)
    exact zG_mono (N := zn * 29 + (NK + 29) + 0 + 29) (by omega) (zz_lload (pc := 53) xf_6_53 (zmem 5 rfl) (zz_lconst (pc := 55) (x := 0) xf_6_55 (by decide +kernel) (zz_lcmp (pc := 56) xf_6_56 xf_6_57 (by unfold zr64; omega) ⟨by decide, by decide⟩ (fun (zc1 : ¬ ((0) < b)) => zz_iinc (pc := 106) xf_6_106 (zmem 4 rfl) (by decide +kernel) (zG_ro (ρ' := [(4, .int (Int32.ofInt (i + 1))), (0, .ref 101), (1, .ref a), (2, .int (Int32.ofInt e)), (3, .int (Int32.ofInt s)), (5, .long (Int64.ofInt b)), (7, .int (Int32.ofInt y))]) rfl (zz_goto (pc := 109) xf_6_109 (zG_mono (N := NK) (by omega) (zG_sub (List.forall_mem_cons.mpr ⟨zmem 1 rfl, (List.forall_mem_cons.mpr ⟨zmem 2 rfl, (List.forall_mem_cons.mpr ⟨zmem 3 rfl, (List.forall_mem_cons.mpr ⟨zmem 4 rfl, (List.forall_mem_cons.mpr ⟨zmem 0 rfl, (fun p hp => absurd hp List.not_mem_nil)⟩)⟩)⟩)⟩)⟩) (hk _ (by rw [hM]; congr 1; funext t; rw [show (i + 1).toNat = i.toNat + 1 by omega]; show _ = (if t < _ then (0 : Int) else _) + (zsum (fun c => zsum (fun y => zterm M0 a e c y t) 4) i.toNat + zsum (fun y => zterm M0 a e i.toNat y t) 4); rw [← Int.add_assoc]; congr 1; first | (rw [show y.toNat = 4 by omega]) | (rw [zsum_0 _ (fun j _ => by unfold zterm; rw [show M0 (a + 11) i.toNat = 0 by omega, Int.zero_mul]; split <;> rfl), zsum_0 _ (fun j _ => by unfold zterm; rw [show M0 (a + 11) i.toNat = 0 by omega, Int.zero_mul]; split <;> rfl)])))))))) (fun zc20 => have zc2 : (0) < b := Classical.not_not.mp zc20; zz_iload (pc := 60) xf_6_60 (zmem 6 rfl) (zz_iconst (pc := 62) xf_6_62 (zz_icmp (pc := 63) xf_6_63 (by unfold zr32; omega) ⟨by decide, by decide⟩ (fun (zc3 : ¬ (y < (4))) => zz_iinc (pc := 106) xf_6_106 (zmem 4 rfl) (by decide +kernel) (zG_ro (ρ' := [(4, .int (Int32.ofInt (i + 1))), (0, .ref 101), (1, .ref a), (2, .int (Int32.ofInt e)), (3, .int (Int32.ofInt s)), (5, .long (Int64.ofInt b)), (7, .int (Int32.ofInt y))]) rfl (zz_goto (pc := 109) xf_6_109 (zG_mono (N := NK) (by omega) (zG_sub (List.forall_mem_cons.mpr ⟨zmem 1 rfl, (List.forall_mem_cons.mpr ⟨zmem 2 rfl, (List.forall_mem_cons.mpr ⟨zmem 3 rfl, (List.forall_mem_cons.mpr ⟨zmem 4 rfl, (List.forall_mem_cons.mpr ⟨zmem 0 rfl, (fun p hp => absurd hp List.not_mem_nil)⟩)⟩)⟩)⟩)⟩) (hk _ (by rw [hM]; congr 1; funext t; rw [show (i + 1).toNat = i.toNat + 1 by omega]; show _ = (if t < _ then (0 : Int) else _) + (zsum (fun c => zsum (fun y => zterm M0 a e c y t) 4) i.toNat + zsum (fun y => zterm M0 a e i.toNat y t) 4); rw [← Int.add_assoc]; congr 1; first | (rw [show y.toNat = 4 by omega]) | (rw [zsum_0 _ (fun j _ => by unfold zterm; rw [show M0 (a + 11) i.toNat = 0 by omega, Int.zero_mul]; split <;> rfl), zsum_0 _ (fun j _ => by unfold zterm; rw [show M0 (a + 11) i.toNat = 0 by omega, Int.zero_mul]; split <;> rfl)])))))))) (fun zc40 => have zc4 : y < (4) := Classical.not_not.mp zc40; zz_aload_n (pc := 66) xf_6_66 (zmem 0 rfl) (zz_getR (pc := 67) xf_6_67 zis_101 (by decide +kernel) rfl (zz_aload_n (pc := 70) xf_6_70 (zmem 1 rfl) (zz_getR (pc := 71) xf_6_71 (zst_0 ha) (by decide +kernel) rfl (zz_iload (pc := 74) xf_6_74 (zmem 4 rfl) (zz_iload_n (pc := 76) xf_6_76 (zmem 2 rfl) (zz_iload (pc := 77) xf_6_77 (zmem 6 rfl) (zz_call_v (pc := 79) (cu := 0) (su := 0) (fun ls hr => zz_calV xf_6_79 rfl (zst_1 ha) ls hr) rfl (sp_target (d := d) ha (by omega) (by omega) (by unfold zr32; omega)) (zz_dup2_ir (pc := 82) xf_6_82 (zz_lald (pc := 83) xf_6_83 zis_102 (by omega) (zz_lload (pc := 84) xf_6_84 (zmem 5 rfl) (zz_aload_n (pc := 86) xf_6_86 (zmem 1 rfl) (zz_getR (pc := 87) xf_6_87 (zst_0 ha) (by decide +kernel) rfl (zz_getR (pc := 90) xf_6_90 (zst_5 ha) (by decide +kernel) rfl (zz_iload (pc := 93) xf_6_93 (zmem 6 rfl) (zz_iald (pc := 95) xf_6_95 (zst_6 ha) (by omega) (zz_i2l (pc := 96) xf_6_96 (by unfold zr32; omega) (zz_lmul (pc := 97) xf_6_97 (zz_ladd (pc := 98) xf_6_98 (zz_last (pc := 99) xf_6_99 zis_102 (by omega) (zm_as (fun zM5 (ezM5 : zM5 = zup M 102 (ztarget M a i e y).toNat ((M 102 (ztarget M a i e y).toNat) + (b * (M (a + 6) y.toNat)))) => zz_iinc (pc := 100) xf_6_100 (zmem 6 rfl) (by decide +kernel) (zG_ro (ρ' := [(7, .int (Int32.ofInt (y + 1))), (0, .ref 101), (1, .ref a), (2, .int (Int32.ofInt e)), (3, .int (Int32.ofInt s)), (4, .int (Int32.ofInt i)), (5, .long (Int64.ofInt b))]) rfl (zz_goto (pc := 103) xf_6_103 (zG_mono (N := zn * 29 + (NK + 29)) (by omega) (zG_sub (List.forall_mem_cons.mpr ⟨zmem 1 rfl, (List.forall_mem_cons.mpr ⟨zmem 2 rfl, (List.forall_mem_cons.mpr ⟨zmem 3 rfl, (List.forall_mem_cons.mpr ⟨zmem 4 rfl, (List.forall_mem_cons.mpr ⟨zmem 5 rfl, (List.forall_mem_cons.mpr ⟨zmem 6 rfl, (List.forall_mem_cons.mpr ⟨zmem 0 rfl, (fun p hp => absurd hp List.not_mem_nil)⟩)⟩)⟩)⟩)⟩)⟩)⟩) (ih (y + 1) zM5  (by rw [ezM5, hM, zrow_up, zrow_q, zradd, ← hM, ztarget_c hE.2.2.1, hE.2.2.2.2.1]; congr 1; funext t; rw [zsum_s hy.1, Int.add_assoc]; congr 1; congr 1; unfold zterm; rw [hb, Int.toNat_of_nonneg hi.1, Int.toNat_of_nonneg hy.1]) (by omega) (by omega))))))))))))))))))))))))))))))))))
theorem zl_weighMove_34 {xs : List Int32} {d : Nat} {w : Bool}  {a : Nat} (ha : zSt a) {e : Int} (he : 0 ≤ e ∧ e < 4) {M0 : zM} (hg : zGr M0 a) (hnb : zNb M0 a) (hbl : zBl M0 a) (ht : zTb M0 a)  : ∀ (zn : Nat) (s i : Int) (M : zM), (M = zrow M0 102 (zmvF M0 a e (zsz M0 a).toNat i.toNat)) → (s = zsz M0 a) → (0 ≤ i ∧ i ≤ s) → s - i ≤ (zn : Int) → zG (xstep (xrun2 xs (d + 2)) xs 6) 6 (zn * 156 + 11) 34 [(0, .ref 101), (1, .ref a), (2, .int (Int32.ofInt e)), (3, .int (Int32.ofInt s)), (4, .int (Int32.ofInt i))] [] 0 0 w M (fun o σ => o = (.inl none : XO) ∧ σ = (w, zheap (zrow M0 102 (zmvF M0 a e (zsz M0 a).toNat (zsz M0 a).toNat)))) := by
  intro zn
  induction zn with
  | zero =>
    intro s i M hM hs hi hm
    have ha1 := zSt_le ha
    have hE : zE9 M M0 a := by rw [hM]; exact zE9_row ha (by omega)
    obtain ⟨g6, g7⟩ := hg.sz
    have hz : zsz M0 a = M0 (a + 1) 0 * M0 (a + 1) 1 := rfl
    have hbb : i < s → 0 ≤ M (a + 11) i.toNat ∧ M (a + 11) i.toNat ≤ 1000000 := fun h => by rw [hE.2.2.2.2.2.2]; exact hbl _ (by omega)
    exact zG_mono (N := 0 + 11) (by omega) (zz_iload (pc := 34) xf_6_34 (zmem 4 rfl) (zz_iload_n (pc := 36) xf_6_36 (zmem 3 rfl) (zz_icmp (pc := 37) xf_6_37 (by unfold zr32; omega) (by unfold zr32; omega) (fun (zc1 : ¬ (i < s)) => zz_return (pc := 112) xf_6_112 rfl (by decide +kernel) (by decide +kernel) (by exact ⟨rfl, by rw [hM, show i.toNat = (zsz M0 a).toNat by omega]⟩)) (fun zc20 => have zc2 : i < s := Classical.not_not.mp zc20; zz_aload_n (pc := 40) xf_6_40 (zmem 1 rfl) (zz_getR (pc := 41) xf_6_41 (zst_0 ha) (by decide +kernel) rfl (zz_iload (pc := 44) xf_6_44 (zmem 4 rfl) (zz_iald (pc := 46) xf_6_46 (zst_11 ha) (by omega) (zz_i2l (pc := 47) xf_6_47 (by unfold zr32; omega) (zz_lstore (pc := 48) xf_6_48 (by decide +kernel) (zG_ro (ρ' := [(5, .long (Int64.ofInt (M (a + 11) i.toNat))), (0, .ref 101), (1, .ref a), (2, .int (Int32.ofInt e)), (3, .int (Int32.ofInt s)), (4, .int (Int32.ofInt i))]) rfl (zz_iconst (pc := 50) xf_6_50 (zz_istore (pc := 51) xf_6_51 (by decide +kernel) (zG_ro (ρ' := [(7, .int (Int32.ofInt (0))), (5, .long (Int64.ofInt (M (a + 11) i.toNat))), (0, .ref 101), (1, .ref a), (2, .int (Int32.ofInt e)), (3, .int (Int32.ofInt s)), (4, .int (Int32.ofInt i))]) rfl ((by exfalso; omega)))))))))))))))
  | succ zn ih =>
    intro s i M hM hs hi hm
    have ha1 := zSt_le ha
    have hE : zE9 M M0 a := by rw [hM]; exact zE9_row ha (by omega)
    obtain ⟨g6, g7⟩ := hg.sz
    have hz : zsz M0 a = M0 (a + 1) 0 * M0 (a + 1) 1 := rfl
    have hbb : i < s → 0 ≤ M (a + 11) i.toNat ∧ M (a + 11) i.toNat ≤ 1000000 := fun h => by rw [hE.2.2.2.2.2.2]; exact hbl _ (by omega)
    exact zG_mono (N := zn * 156 + 11 + 145 + 11) (by omega) (zz_iload (pc := 34) xf_6_34 (zmem 4 rfl) (zz_iload_n (pc := 36) xf_6_36 (zmem 3 rfl) (zz_icmp (pc := 37) xf_6_37 (by unfold zr32; omega) (by unfold zr32; omega) (fun (zc1 : ¬ (i < s)) => zz_return (pc := 112) xf_6_112 rfl (by decide +kernel) (by decide +kernel) (by exact ⟨rfl, by rw [hM, show i.toNat = (zsz M0 a).toNat by omega]⟩)) (fun zc20 => have zc2 : i < s := Classical.not_not.mp zc20; zz_aload_n (pc := 40) xf_6_40 (zmem 1 rfl) (zz_getR (pc := 41) xf_6_41 (zst_0 ha) (by decide +kernel) rfl (zz_iload (pc := 44) xf_6_44 (zmem 4 rfl) (zz_iald (pc := 46) xf_6_46 (zst_11 ha) (by omega) (zz_i2l (pc := 47) xf_6_47 (by unfold zr32; omega) (zz_lstore (pc := 48) xf_6_48 (by decide +kernel) (zG_ro (ρ' := [(5, .long (Int64.ofInt (M (a + 11) i.toNat))), (0, .ref 101), (1, .ref a), (2, .int (Int32.ofInt e)), (3, .int (Int32.ofInt s)), (4, .int (Int32.ofInt i))]) rfl (zz_iconst (pc := 50) xf_6_50 (zz_istore (pc := 51) xf_6_51 (by decide +kernel) (zG_ro (ρ' := [(7, .int (Int32.ofInt (0))), (5, .long (Int64.ofInt (M (a + 11) i.toNat))), (0, .ref 101), (1, .ref a), (2, .int (Int32.ofInt e)), (3, .int (Int32.ofInt s)), (4, .int (Int32.ofInt i))]) rfl (zG_mono (N := (4 * 29 + ((zn * 156 + 11) + 29))) (by omega) (zG_sub (List.forall_mem_cons.mpr ⟨zmem 2 rfl, (List.forall_mem_cons.mpr ⟨zmem 3 rfl, (List.forall_mem_cons.mpr ⟨zmem 4 rfl, (List.forall_mem_cons.mpr ⟨zmem 5 rfl, (List.forall_mem_cons.mpr ⟨zmem 6 rfl, (List.forall_mem_cons.mpr ⟨zmem 1 rfl, (List.forall_mem_cons.mpr ⟨zmem 0 rfl, (fun p hp => absurd hp List.not_mem_nil)⟩)⟩)⟩)⟩)⟩)⟩)⟩) (zl_weighMove_53 ha he hg hnb hbl ht (NK := (zn * 156 + 11)) hs (by omega) (by rw [hE.2.2.2.2.2.2]) (fun M' hM' => ih _ _ M' hM' hs (by omega) (by omega)) 4 _ _ (by rw [hM]; congr 1; funext t; exact (Int.add_zero _).symm) (by omega) (by omega)))))))))))))))))
theorem zl_weighMove_11 {xs : List Int32} {d : Nat} {w : Bool}  {a : Nat} (ha : zSt a) {e : Int} (he : 0 ≤ e ∧ e < 4) {M0 : zM} (hg : zGr M0 a) (hnb : zNb M0 a) (hbl : zBl M0 a) (ht : zTb M0 a)  : ∀ (zn : Nat) (s i : Int) (M : zM), (M = ztab M0 102 i.toNat (fun _ => 0)) → (s = zsz M0 a) → (0 ≤ i ∧ i ≤ s) → s - i ≤ (zn : Int) → zG (xstep (xrun2 xs (d + 2)) xs 6) 6 (zn * 10 + 5637) 11 [(0, .ref 101), (1, .ref a), (2, .int (Int32.ofInt e)), (3, .int (Int32.ofInt s)), (4, .int (Int32.ofInt i))] [] 0 0 w M (fun o σ => o = (.inl none : XO) ∧ σ = (w, zheap (zrow M0 102 (zmvF M0 a e (zsz M0 a).toNat (zsz M0 a).toNat)))) := by
  intro zn
  induction zn with
  | zero =>
    intro s i M hM hs hi hm
    have ha1 := zSt_le ha
    obtain ⟨g6, g7⟩ := hg.sz
    have hz : zsz M0 a = M0 (a + 1) 0 * M0 (a + 1) 1 := rfl
    exact zG_mono (N := 5627 + 10) (by omega) (zz_iload (pc := 11) xf_6_11 (zmem 4 rfl) (zz_iload_n (pc := 13) xf_6_13 (zmem 3 rfl) (zz_icmp (pc := 14) xf_6_14 (by unfold zr32; omega) (by unfold zr32; omega) (fun (zc1 : ¬ (i < s)) => zz_iconst (pc := 31) xf_6_31 (zz_istore (pc := 32) xf_6_32 (by decide +kernel) (zG_ro (ρ' := [(4, .int (Int32.ofInt (0))), (0, .ref 101), (1, .ref a), (2, .int (Int32.ofInt e)), (3, .int (Int32.ofInt s))]) rfl (zG_mono (N := 5627) (by omega) (zG_sub (List.forall_mem_cons.mpr ⟨zmem 1 rfl, (List.forall_mem_cons.mpr ⟨zmem 2 rfl, (List.forall_mem_cons.mpr ⟨zmem 3 rfl, (List.forall_mem_cons.mpr ⟨zmem 4 rfl, (List.forall_mem_cons.mpr ⟨zmem 0 rfl, (fun p hp => absurd hp List.not_mem_nil)⟩)⟩)⟩)⟩)⟩) (zl_weighMove_34 ha he hg hnb hbl ht 36 _ _ _ (by rw [hM, zrow_tab, show i.toNat = (zsz M0 a).toNat by omega]; congr 1; funext t; exact (Int.add_zero _).symm) hs (by omega) (by omega))))))) (fun zc20 => have zc2 : i < s := Classical.not_not.mp zc20; zz_aload_n (pc := 17) xf_6_17 (zmem 0 rfl) (zz_getR (pc := 18) xf_6_18 zis_101 (by decide +kernel) rfl (zz_iload (pc := 21) xf_6_21 (zmem 4 rfl) (zz_lconst (pc := 23) (x := 0) xf_6_23 (by decide +kernel) (zz_last (pc := 24) xf_6_24 zis_102 (by omega) (zm_as (fun zM3 (ezM3 : zM3 = zup M 102 i.toNat (0)) => zz_iinc (pc := 25) xf_6_25 (zmem 4 rfl) (by decide +kernel) (zG_ro (ρ' := [(4, .int (Int32.ofInt (i + 1))), (0, .ref 101), (1, .ref a), (2, .int (Int32.ofInt e)), (3, .int (Int32.ofInt s))]) rfl (zz_goto (pc := 28) xf_6_28 ((by exfalso; omega))))))))))))))
  | succ zn ih =>
    intro s i M hM hs hi hm
    have ha1 := zSt_le ha
    obtain ⟨g6, g7⟩ := hg.sz
    have hz : zsz M0 a = M0 (a + 1) 0 * M0 (a + 1) 1 := rfl
    exact zG_mono (N := zn * 10 + 5637 + 0 + 10) (by omega) (zz_iload (pc := 11) xf_6_11 (zmem 4 rfl) (zz_iload_n (pc := 13) xf_6_13 (zmem 3 rfl) (zz_icmp (pc := 14) xf_6_14 (by unfold zr32; omega) (by unfold zr32; omega) (fun (zc1 : ¬ (i < s)) => zz_iconst (pc := 31) xf_6_31 (zz_istore (pc := 32) xf_6_32 (by decide +kernel) (zG_ro (ρ' := [(4, .int (Int32.ofInt (0))), (0, .ref 101), (1, .ref a), (2, .int (Int32.ofInt e)), (3, .int (Int32.ofInt s))]) rfl (zG_mono (N := 5627) (by omega) (zG_sub (List.forall_mem_cons.mpr ⟨zmem 1 rfl, (List.forall_mem_cons.mpr ⟨zmem 2 rfl, (List.forall_mem_cons.mpr ⟨zmem 3 rfl, (List.forall_mem_cons.mpr ⟨zmem 4 rfl, (List.forall_mem_cons.mpr ⟨zmem 0 rfl, (fun p hp => absurd hp List.not_mem_nil)⟩)⟩)⟩)⟩)⟩) (zl_weighMove_34 ha he hg hnb hbl ht 36 _ _ _ (by rw [hM, zrow_tab, show i.toNat = (zsz M0 a).toNat by omega]; congr 1; funext t; exact (Int.add_zero _).symm) hs (by omega) (by omega))))))) (fun zc20 => have zc2 : i < s := Classical.not_not.mp zc20; zz_aload_n (pc := 17) xf_6_17 (zmem 0 rfl) (zz_getR (pc := 18) xf_6_18 zis_101 (by decide +kernel) rfl (zz_iload (pc := 21) xf_6_21 (zmem 4 rfl) (zz_lconst (pc := 23) (x := 0) xf_6_23 (by decide +kernel) (zz_last (pc := 24) xf_6_24 zis_102 (by omega) (zm_as (fun zM3 (ezM3 : zM3 = zup M 102 i.toNat (0)) => zz_iinc (pc := 25) xf_6_25 (zmem 4 rfl) (by decide +kernel) (zG_ro (ρ' := [(4, .int (Int32.ofInt (i + 1))), (0, .ref 101), (1, .ref a), (2, .int (Int32.ofInt e)), (3, .int (Int32.ofInt s))]) rfl (zz_goto (pc := 28) xf_6_28 (zG_mono (N := zn * 10 + 5637) (by omega) (zG_sub (List.forall_mem_cons.mpr ⟨zmem 1 rfl, (List.forall_mem_cons.mpr ⟨zmem 2 rfl, (List.forall_mem_cons.mpr ⟨zmem 3 rfl, (List.forall_mem_cons.mpr ⟨zmem 4 rfl, (List.forall_mem_cons.mpr ⟨zmem 0 rfl, (fun p hp => absurd hp List.not_mem_nil)⟩)⟩)⟩)⟩)⟩) (ih s (i + 1) zM3  (by rw [ezM3, hM, show (i + 1).toNat = i.toNat + 1 by omega]; exact ztab_s rfl) hs (by omega) (by omega))))))))))))))))
theorem sp_weighMove {xs : List Int32} {d : Nat} {w : Bool} {M : zM} {a : Nat} (ha : zSt a) {e : Int} (he : 0 ≤ e ∧ e < 4) (hg : zGr M a) (hnb : zNb M a) (hbl : zBl M a) (ht : zTb M a) : xrun2 xs (d + 3) 6 [.ref 101, .ref a, .int (Int32.ofInt e)] (w, zheap M) = some (.inl none, (w, zheap (zrow M 102 (zmvF M a e (zsz M a).toNat (zsz M a).toNat)))) := by
  obtain ⟨⟨g1, g2⟩, ⟨g3, g4⟩, g5⟩ := id hg
  obtain ⟨g6, g7⟩ := hg.sz
  have hz : zsz M a = M (a + 1) 0 * M (a + 1) 1 := rfl
  exact zrun_v (N := 6003) (by decide) rfl (zz_aload_n (pc := 0) xf_6_0 (zmem 1 rfl) (zz_getR (pc := 1) xf_6_1 (zst_0 ha) (by decide +kernel) rfl (zz_call_v (pc := 4) (cu := 0) (su := 0) (fun ls hr => zz_calV xf_6_4 rfl (zst_1 ha) ls hr) rfl (sp_size (d := d + 1) ha) (zz_istore_n (pc := 7) xf_6_7 (by decide +kernel) (zG_ro (ρ' := [(3, .int (Int32.ofInt (zsz M a))), (0, .ref 101), (1, .ref a), (2, .int (Int32.ofInt e))]) rfl (zz_iconst (pc := 8) xf_6_8 (zz_istore (pc := 9) xf_6_9 (by decide +kernel) (zG_ro (ρ' := [(4, .int (Int32.ofInt (0))), (3, .int (Int32.ofInt (zsz M a))), (0, .ref 101), (1, .ref a), (2, .int (Int32.ofInt e))]) rfl (zG_mono (N := 5997) (by omega) (zG_sub (List.forall_mem_cons.mpr ⟨zmem 2 rfl, (List.forall_mem_cons.mpr ⟨zmem 3 rfl, (List.forall_mem_cons.mpr ⟨zmem 4 rfl, (List.forall_mem_cons.mpr ⟨zmem 1 rfl, (List.forall_mem_cons.mpr ⟨zmem 0 rfl, (fun p hp => absurd hp List.not_mem_nil)⟩)⟩)⟩)⟩)⟩) (zl_weighMove_11 (M0 := M) ha he hg hnb hbl ht 36 _ _ _ ztab_0.symm rfl (by omega) (by omega))))))))))))
/-- the weights behind the carrying away -/
noncomputable def zcaF (M : zM) (a n : Nat) : zF := fun t => @ite _ (t < n ∧ zfreeN M a t) (Classical.propDecidable _) ((100 - M (a + 5) 2) * zmany M a * M 102 t + M (a + 5) 2 * 16 * 1000000) (M 102 t)
theorem zmany_c {M M0 : zM} {a : Nat} (h : zE2 M M0 a) : zmany M a = zmany M0 a := by
  unfold zmany
  rw [zfreeN_c h, zsz_c h]
theorem zmany_b {M : zM} {a : Nat} (h : zGr M a) : 0 ≤ zmany M a ∧ zmany M a ≤ 36 := by
  have h1 := zcount_b (zfreeN M a) (zsz M a).toNat
  have h2 := h.sz
  have h3 : zsz M a = M (a + 1) 0 * M (a + 1) 1 := rfl
  unfold zmany
  omega
theorem zcaF_t {M : zM} {a : Nat} {i : Int} (h0 : 0 ≤ i) (h : zfree M a i) : zrup (zcaF M a i.toNat) i.toNat ((100 - M (a + 5) 2) * zmany M a * zcaF M a i.toNat i.toNat + M (a + 5) 2 * 16 * 1000000) = zcaF M a (i + 1).toNat := by
  funext t
  have e0 : zcaF M a i.toNat i.toNat = M 102 i.toNat := if_neg (fun e => Nat.lt_irrefl _ e.1)
  rw [e0, show (i + 1).toNat = i.toNat + 1 by omega]
  unfold zrup zcaF
  by_cases h1 : t = i.toNat
  · subst h1
    rw [if_pos rfl, if_pos ⟨Nat.lt_succ_self _, (zfreeN_i h0).mpr h⟩]
  · rw [if_neg h1]
    by_cases h2 : t < i.toNat ∧ zfreeN M a t
    · rw [if_pos h2, if_pos ⟨by omega, h2.2⟩]
    · rw [if_neg h2, if_neg (fun e => h2 ⟨by omega, e.2⟩)]
theorem zcaF_f {M : zM} {a : Nat} {i : Int} (h0 : 0 ≤ i) (h : ¬ zfree M a i) : zcaF M a i.toNat = zcaF M a (i + 1).toNat := by
  funext t
  rw [show (i + 1).toNat = i.toNat + 1 by omega]
  unfold zcaF
  by_cases h2 : t < i.toNat ∧ zfreeN M a t
  · rw [if_pos h2, if_pos ⟨by omega, h2.2⟩]
  · rw [if_neg h2, if_neg (fun e => h2 ⟨by
      have h3 : ¬ t = i.toNat := fun e2 => h ((zfreeN_i h0).mp (e2 ▸ e.2))
      omega, e.2⟩)]
theorem zcaF_0 {M : zM} {a : Nat} : zcaF M a 0 = M 102 := by
  funext t
  exact if_neg (fun e => Nat.not_lt_zero _ e.1)
theorem zrow_id {M : zM} {q : Nat} : zrow M q (M q) = M := by
  funext q' j
  unfold zrow
  by_cases h : q' = q
  · subst h; rw [if_pos rfl]
  · rw [if_neg h]
theorem zl_carryAway_30 {xs : List Int32} {d : Nat} {w : Bool}  {a : Nat} (ha : zSt a) {M0 : zM} (hg : zGr M0 a) (ht : zTb M0 a)  : ∀ (zn : Nat) (s f r i : Int) (M : zM), (M = zrow M0 102 (zcaF M0 a i.toNat)) → (s = zsz M0 a) → (f = zmany M0 a) → (r = M0 (a + 5) 2) → (0 ≤ i ∧ i ≤ s) → s - i ≤ (zn : Int) → zG (xstep (xrun2 xs (d + 3)) xs 7) 7 (zn * 30 + 30) 30 [(0, .ref 101), (1, .ref a), (2, .int (Int32.ofInt s)), (3, .long (Int64.ofInt f)), (5, .long (Int64.ofInt r)), (7, .int (Int32.ofInt i))] [] 0 0 w M (fun o σ => o = (.inl none : XO) ∧ σ = (w, zheap (zrow M0 102 (zcaF M0 a (zsz M0 a).toNat)))) := by
  intro zn
  induction zn with
  | zero =>
    intro s f r i M hM hs hf hr hi hm
    have ha1 := zSt_le ha
    have hE : zE9 M M0 a := by rw [hM]; exact zE9_row ha (by omega)
    obtain ⟨g6, g7⟩ := hg.sz
    have hz : zsz M0 a = M0 (a + 1) 0 * M0 (a + 1) 1 := rfl
    exact zG_mono (N := 0 + 30) (by omega) (zz_iload (pc := 30) xf_7_30 (zmem 5 rfl) (zz_iload_n (pc := 32) xf_7_32 (zmem 2 rfl) (zz_icmp (pc := 33) xf_7_33 (by unfold zr32; omega) (by unfold zr32; omega) (fun (zc1 : ¬ (i < s)) => zz_return (pc := 88) xf_7_88 rfl (by decide +kernel) (by decide +kernel) (by exact ⟨rfl, by rw [hM, show i.toNat = (zsz M0 a).toNat by omega]⟩)) (fun zc20 => have zc2 : i < s := Classical.not_not.mp zc20; zz_aload_n (pc := 36) xf_7_36 (zmem 1 rfl) (zz_getR (pc := 37) xf_7_37 (zst_0 ha) (by decide +kernel) rfl (zz_iload (pc := 40) xf_7_40 (zmem 5 rfl) (zz_call_v (pc := 42) (cu := 0) (su := 0) (fun ls hr => zz_calV xf_7_42 rfl (zst_1 ha) ls hr) rfl (sp_isFree (d := d + 2) ha (by unfold zr32; omega) (zGr_c hE.e2 hg)) (zz_ifbeq (pc := 45) xf_7_45 (fun (zc3 : ¬ (zfree M a i)) => zz_iinc (pc := 82) xf_7_82 (zmem 5 rfl) (by decide +kernel) (zG_ro (ρ' := [(7, .int (Int32.ofInt (i + 1))), (0, .ref 101), (1, .ref a), (2, .int (Int32.ofInt s)), (3, .long (Int64.ofInt f)), (5, .long (Int64.ofInt r))]) rfl (zz_goto (pc := 85) xf_7_85 ((by exfalso; omega))))) (fun zc40 => have zc4 : zfree M a i := Classical.not_not.mp zc40; zz_aload_n (pc := 48) xf_7_48 (zmem 0 rfl) (zz_getR (pc := 49) xf_7_49 zis_101 (by decide +kernel) rfl (zz_iload (pc := 52) xf_7_52 (zmem 5 rfl) (zz_ldc2_w (pc := 54) (v := .long (Int64.ofInt (100))) xf_7_54 (by decide +kernel) (zz_lload (pc := 57) xf_7_57 (zmem 4 rfl) (zz_lsub (pc := 59) xf_7_59 (zz_lload_n (pc := 60) xf_7_60 (zmem 3 rfl) (zz_lmul (pc := 61) xf_7_61 (zz_aload_n (pc := 62) xf_7_62 (zmem 0 rfl) (zz_getR (pc := 63) xf_7_63 zis_101 (by decide +kernel) rfl (zz_iload (pc := 66) xf_7_66 (zmem 5 rfl) (zz_lald (pc := 68) xf_7_68 zis_102 (by omega) (zz_lmul (pc := 69) xf_7_69 (zz_lload (pc := 70) xf_7_70 (zmem 4 rfl) (zz_ldc2_w (pc := 72) (v := .long (Int64.ofInt (16))) xf_7_72 (by decide +kernel) (zz_lmul (pc := 75) xf_7_75 (zz_ldc2_w (pc := 76) (v := .long (Int64.ofInt (1000000))) xf_7_76 (by decide +kernel) (zz_lmul (pc := 79) xf_7_79 (zz_ladd (pc := 80) xf_7_80 (zz_last (pc := 81) xf_7_81 zis_102 (by omega) (zm_as (fun zM5 (ezM5 : zM5 = zup M 102 i.toNat (((((100) - r) * f) * (M 102 i.toNat)) + ((r * (16)) * (1000000)))) => zz_iinc (pc := 82) xf_7_82 (zmem 5 rfl) (by decide +kernel) (zG_ro (ρ' := [(7, .int (Int32.ofInt (i + 1))), (0, .ref 101), (1, .ref a), (2, .int (Int32.ofInt s)), (3, .long (Int64.ofInt f)), (5, .long (Int64.ofInt r))]) rfl (zz_goto (pc := 85) xf_7_85 ((by exfalso; omega))))))))))))))))))))))))))))))))))
  | succ zn ih =>
    intro s f r i M hM hs hf hr hi hm
    have ha1 := zSt_le ha
    have hE : zE9 M M0 a := by rw [hM]; exact zE9_row ha (by omega)
    obtain ⟨g6, g7⟩ := hg.sz
    have hz : zsz M0 a = M0 (a + 1) 0 * M0 (a + 1) 1 := rfl
    exact zG_mono (N := zn * 30 + 30 + 0 + 30) (by omega) (zz_iload (pc := 30) xf_7_30 (zmem 5 rfl) (zz_iload_n (pc := 32) xf_7_32 (zmem 2 rfl) (zz_icmp (pc := 33) xf_7_33 (by unfold zr32; omega) (by unfold zr32; omega) (fun (zc1 : ¬ (i < s)) => zz_return (pc := 88) xf_7_88 rfl (by decide +kernel) (by decide +kernel) (by exact ⟨rfl, by rw [hM, show i.toNat = (zsz M0 a).toNat by omega]⟩)) (fun zc20 => have zc2 : i < s := Classical.not_not.mp zc20; zz_aload_n (pc := 36) xf_7_36 (zmem 1 rfl) (zz_getR (pc := 37) xf_7_37 (zst_0 ha) (by decide +kernel) rfl (zz_iload (pc := 40) xf_7_40 (zmem 5 rfl) (zz_call_v (pc := 42) (cu := 0) (su := 0) (fun ls hr => zz_calV xf_7_42 rfl (zst_1 ha) ls hr) rfl (sp_isFree (d := d + 2) ha (by unfold zr32; omega) (zGr_c hE.e2 hg)) (zz_ifbeq (pc := 45) xf_7_45 (fun (zc3 : ¬ (zfree M a i)) => zz_iinc (pc := 82) xf_7_82 (zmem 5 rfl) (by decide +kernel) (zG_ro (ρ' := [(7, .int (Int32.ofInt (i + 1))), (0, .ref 101), (1, .ref a), (2, .int (Int32.ofInt s)), (3, .long (Int64.ofInt f)), (5, .long (Int64.ofInt r))]) rfl (zz_goto (pc := 85) xf_7_85 (zG_mono (N := zn * 30 + 30) (by omega) (zG_sub (List.forall_mem_cons.mpr ⟨zmem 1 rfl, (List.forall_mem_cons.mpr ⟨zmem 2 rfl, (List.forall_mem_cons.mpr ⟨zmem 3 rfl, (List.forall_mem_cons.mpr ⟨zmem 4 rfl, (List.forall_mem_cons.mpr ⟨zmem 5 rfl, (List.forall_mem_cons.mpr ⟨zmem 0 rfl, (fun p hp => absurd hp List.not_mem_nil)⟩)⟩)⟩)⟩)⟩)⟩) (ih s f r (i + 1) M  (by rw [hM]; congr 1; exact zcaF_f hi.1 (fun e => absurd ((zfree_c hE.e2).mpr e) (by assumption))) hs hf hr (by omega) (by omega))))))) (fun zc40 => have zc4 : zfree M a i := Classical.not_not.mp zc40; zz_aload_n (pc := 48) xf_7_48 (zmem 0 rfl) (zz_getR (pc := 49) xf_7_49 zis_101 (by decide +kernel) rfl (zz_iload (pc := 52) xf_7_52 (zmem 5 rfl) (zz_ldc2_w (pc := 54) (v := .long (Int64.ofInt (100))) xf_7_54 (by decide +kernel) (zz_lload (pc := 57) xf_7_57 (zmem 4 rfl) (zz_lsub (pc := 59) xf_7_59 (zz_lload_n (pc := 60) xf_7_60 (zmem 3 rfl) (zz_lmul (pc := 61) xf_7_61 (zz_aload_n (pc := 62) xf_7_62 (zmem 0 rfl) (zz_getR (pc := 63) xf_7_63 zis_101 (by decide +kernel) rfl (zz_iload (pc := 66) xf_7_66 (zmem 5 rfl) (zz_lald (pc := 68) xf_7_68 zis_102 (by omega) (zz_lmul (pc := 69) xf_7_69 (zz_lload (pc := 70) xf_7_70 (zmem 4 rfl) (zz_ldc2_w (pc := 72) (v := .long (Int64.ofInt (16))) xf_7_72 (by decide +kernel) (zz_lmul (pc := 75) xf_7_75 (zz_ldc2_w (pc := 76) (v := .long (Int64.ofInt (1000000))) xf_7_76 (by decide +kernel) (zz_lmul (pc := 79) xf_7_79 (zz_ladd (pc := 80) xf_7_80 (zz_last (pc := 81) xf_7_81 zis_102 (by omega) (zm_as (fun zM5 (ezM5 : zM5 = zup M 102 i.toNat (((((100) - r) * f) * (M 102 i.toNat)) + ((r * (16)) * (1000000)))) => zz_iinc (pc := 82) xf_7_82 (zmem 5 rfl) (by decide +kernel) (zG_ro (ρ' := [(7, .int (Int32.ofInt (i + 1))), (0, .ref 101), (1, .ref a), (2, .int (Int32.ofInt s)), (3, .long (Int64.ofInt f)), (5, .long (Int64.ofInt r))]) rfl (zz_goto (pc := 85) xf_7_85 (zG_mono (N := zn * 30 + 30) (by omega) (zG_sub (List.forall_mem_cons.mpr ⟨zmem 1 rfl, (List.forall_mem_cons.mpr ⟨zmem 2 rfl, (List.forall_mem_cons.mpr ⟨zmem 3 rfl, (List.forall_mem_cons.mpr ⟨zmem 4 rfl, (List.forall_mem_cons.mpr ⟨zmem 5 rfl, (List.forall_mem_cons.mpr ⟨zmem 0 rfl, (fun p hp => absurd hp List.not_mem_nil)⟩)⟩)⟩)⟩)⟩)⟩) (ih s f r (i + 1) zM5  (by rw [ezM5, hM, zrow_up, zrow_q, hf, hr]; congr 1; exact zcaF_t hi.1 ((zfree_c hE.e2).mp (by assumption))) hs hf hr (by omega) (by omega))))))))))))))))))))))))))))))))))))
theorem sp_carryAway {xs : List Int32} {d : Nat} {w : Bool} {M : zM} {a : Nat} (ha : zSt a) (hg : zGr M a) (ht : zTb M a) : xrun2 xs (d + 4) 7 [.ref 101, .ref a] (w, zheap M) = some (.inl none, (w, zheap (zrow M 102 (zcaF M a (zsz M a).toNat)))) := by
  obtain ⟨⟨g1, g2⟩, ⟨g3, g4⟩, g5⟩ := id hg
  obtain ⟨g6, g7⟩ := hg.sz
  have hz : zsz M a = M (a + 1) 0 * M (a + 1) 1 := rfl
  have hmb := zmany_b hg
  have htb := ht.2.2.1
  exact zrun_v (N := 1126) (by decide) rfl (zz_aload_n (pc := 0) xf_7_0 (zmem 1 rfl) (zz_getR (pc := 1) xf_7_1 (zst_0 ha) (by decide +kernel) rfl (zz_call_v (pc := 4) (cu := 0) (su := 0) (fun ls hr => zz_calV xf_7_4 rfl (zst_1 ha) ls hr) rfl (sp_size (d := d + 2) ha) (zz_istore_n (pc := 7) xf_7_7 (by decide +kernel) (zG_ro (ρ' := [(2, .int (Int32.ofInt (zsz M a))), (0, .ref 101), (1, .ref a)]) rfl (zz_aload_n (pc := 8) xf_7_8 (zmem 2 rfl) (zz_getR (pc := 9) xf_7_9 (zst_0 ha) (by decide +kernel) rfl (zz_call_v (pc := 12) (cu := 0) (su := 0) (fun ls hr => zz_calV xf_7_12 rfl (zst_1 ha) ls hr) rfl (sp_freeCells (d := d + 1) ha hg) (zz_i2l (pc := 15) xf_7_15 (by unfold zr32; omega) (zz_lstore_n (pc := 16) xf_7_16 (by decide +kernel) (zG_ro (ρ' := [(3, .long (Int64.ofInt (zmany M a))), (2, .int (Int32.ofInt (zsz M a))), (0, .ref 101), (1, .ref a)]) rfl (zz_aload_n (pc := 17) xf_7_17 (zmem 3 rfl) (zz_getR (pc := 18) xf_7_18 (zst_0 ha) (by decide +kernel) rfl (zz_getI (pc := 21) xf_7_21 (zst_5 ha) (by decide +kernel) rfl (zz_i2l (pc := 24) xf_7_24 (by unfold zr32; omega) (zz_lstore (pc := 25) xf_7_25 (by decide +kernel) (zG_ro (ρ' := [(5, .long (Int64.ofInt (M (a + 5) 2))), (3, .long (Int64.ofInt (zmany M a))), (2, .int (Int32.ofInt (zsz M a))), (0, .ref 101), (1, .ref a)]) rfl (zz_iconst (pc := 27) xf_7_27 (zz_istore (pc := 28) xf_7_28 (by decide +kernel) (zG_ro (ρ' := [(7, .int (Int32.ofInt (0))), (5, .long (Int64.ofInt (M (a + 5) 2))), (3, .long (Int64.ofInt (zmany M a))), (2, .int (Int32.ofInt (zsz M a))), (0, .ref 101), (1, .ref a)]) rfl (zG_mono (N := 1110) (by omega) (zG_sub (List.forall_mem_cons.mpr ⟨zmem 4 rfl, (List.forall_mem_cons.mpr ⟨zmem 5 rfl, (List.forall_mem_cons.mpr ⟨zmem 3 rfl, (List.forall_mem_cons.mpr ⟨zmem 2 rfl, (List.forall_mem_cons.mpr ⟨zmem 1 rfl, (List.forall_mem_cons.mpr ⟨zmem 0 rfl, (fun p hp => absurd hp List.not_mem_nil)⟩)⟩)⟩)⟩)⟩)⟩) (zl_carryAway_30 (M0 := M) ha hg ht 36 _ _ _ _ _ (by rw [show (0 : Int).toNat = 0 from rfl, zcaF_0, zrow_id]) rfl rfl rfl (by omega) (by omega))))))))))))))))))))))))
/-- the weights of a move -/
noncomputable def zmw (M : zM) (a : Nat) (e : Int) : zF := zcaF (zrow M 102 (zmvF M a e (zsz M a).toNat (zsz M a).toNat)) a (zsz M a).toNat
noncomputable def zmwM (M : zM) (a : Nat) (e : Int) : zM := zrow M 102 (zmw M a e)
noncomputable def zmvM (M : zM) (a : Nat) (e : Int) (q : Nat) : zM := zscM (zmwM M a e) q (zsz M a).toNat
theorem zrow_row {M : zM} {q : Nat} {F K : zF} : zrow (zrow M q F) q K = zrow M q K := by
  funext q' j
  unfold zrow
  by_cases h : q' = q
  · simp [h]
  · simp [h]
theorem zmul_b {x y X Y : Int} (hx : 0 ≤ x ∧ x ≤ X) (hy : 0 ≤ y ∧ y ≤ Y) : 0 ≤ x * y ∧ x * y ≤ X * Y :=
  ⟨Int.mul_nonneg hx.1 hy.1, Int.le_trans (Int.mul_le_mul_of_nonneg_right hx.2 hy.1) (Int.mul_le_mul_of_nonneg_left hy.2 (by omega))⟩
theorem zterm_b {M : zM} {a : Nat} {e : Int} {c y t : Nat} (hbl : zBl M a) (ht : zTb M a) (hc : c < 36) (hy : y < 4) : 0 ≤ zterm M a e c y t ∧ zterm M a e c y t ≤ 16000000 := by
  unfold zterm
  split
  · exact zmul_b (X := 1000000) (Y := 16) (hbl c hc) (ht.1 y hy)
  · omega
theorem zmvF_b {M : zM} {a : Nat} {e : Int} {n t : Nat} (hbl : zBl M a) (ht : zTb M a) (hn : n ≤ 36) (h : t < n) : 0 ≤ zmvF M a e n n t ∧ zmvF M a e n n t ≤ 2304000000 := by
  unfold zmvF
  rw [if_pos h]
  have h1 := zsum_b (F := fun c => zsum (fun y => zterm M a e c y t) 4) (l := 0) (u := 64000000) n (fun c hc => by
    have h2 := zsum_b (F := fun y => zterm M a e c y t) (l := 0) (u := 16000000) 4 (fun y hy => zterm_b hbl ht (by omega) hy)
    show 0 ≤ zsum (fun y => zterm M a e c y t) 4 ∧ zsum (fun y => zterm M a e c y t) 4 ≤ 64000000
    omega)
  omega
theorem zmw_b {M : zM} {a : Nat} {e : Int} (ha : zSt a) (hg : zGr M a) (hbl : zBl M a) (ht : zTb M a) {t : Nat} (h : t < (zsz M a).toNat) : 0 ≤ zmw M a e t ∧ zmw M a e t ≤ 9000000000000 := by
  have hE := zE9_row (M := M) (F := zmvF M a e (zsz M a).toNat (zsz M a).toNat) ha (show 99 ≤ 102 by decide)
  have h3 := hg.sz
  have h4 : zsz M a = M (a + 1) 0 * M (a + 1) 1 := rfl
  have h1 := zmvF_b (e := e) hbl ht (show (zsz M a).toNat ≤ 36 by omega) h
  have h2 := zmany_b hg
  have h5 := ht.2.2.1
  unfold zmw zcaF
  rw [zmany_c hE.e2, hE.2.2.2.1, zrow_q]
  split
  · have h6 := zmul_b (x := 100 - M (a + 5) 2) (y := zmany M a) (X := 100) (Y := 36) (by omega) h2
    have h7 := zmul_b (X := 100 * 36) (Y := 2304000000) h6 h1
    omega
  · omega
theorem sp_moveInto {xs : List Int32} {d : Nat} {w : Bool} {M : zM} {a : Nat} (ha : zSt a) {e : Int} (he : 0 ≤ e ∧ e < 4) {q : Nat} (hq : zIs q 100 36 zI) (hg : zGr M a) (hnb : zNb M a) (hbl : zBl M a) (ht : zTb M a) (hp : 0 < zsum (zmw M a e) (zsz M a).toNat) : xrun2 xs (d + 5) 5 [.ref 101, .ref a, .int (Int32.ofInt e), .ref q] (w, zheap M) = some (.inl none, (w, zheap (zmvM M a e q))) := by
  have hE1 := zE9_row (M := M) (F := zmvF M a e (zsz M a).toNat (zsz M a).toNat) ha (show 99 ≤ 102 by decide)
  have hE2 := zE9_row (M := M) (F := zmw M a e) ha (show 99 ≤ 102 by decide)
  obtain ⟨g6, g7⟩ := hg.sz
  have hz : zsz M a = M (a + 1) 0 * M (a + 1) 1 := rfl
  have hzc : ∀ M' : zM, M' = zmwM M a e → zsz M' a = zsz M a := fun M' h => by rw [h]; exact zsz_c hE2.e2
  exact zrun_v (N := 13) (by decide) rfl (zz_aload_n (pc := 0) xf_5_0 (zmem 0 rfl) (zz_aload_n (pc := 1) xf_5_1 (zmem 1 rfl) (zz_iload_n (pc := 2) xf_5_2 (zmem 2 rfl) (zz_call_0 (pc := 3) (cu := 0) (su := 0) (fun ls hr => zz_calV xf_5_3 rfl zis_101 ls hr) rfl (sp_weighMove (d := d + 1) ha he hg hnb hbl ht) (zm_as (fun zM1 (ezM1 : zM1 = zrow M 102 (zmvF M a e (zsz M a).toNat (zsz M a).toNat)) => zz_aload_n (pc := 6) xf_5_6 (zmem 0 rfl) (zz_aload_n (pc := 7) xf_5_7 (zmem 1 rfl) (zz_call_0 (pc := 8) (cu := 0) (su := 0) (fun ls hr => zz_calV xf_5_8 rfl zis_101 ls hr) rfl (sp_carryAway (d := d) ha (by rw [ezM1]; exact zGr_c hE1.e2 hg) (by rw [ezM1]; unfold zTb; rw [hE1.2.2.2.1, hE1.2.2.2.2.1, hE1.2.2.2.2.2.1]; exact ht)) (zm_as (fun zM2 (ezM2 : zM2 = zrow zM1 102 (zcaF zM1 a (zsz zM1 a).toNat)) => zz_aload_n (pc := 11) xf_5_11 (zmem 0 rfl) (zz_aload_n (pc := 12) xf_5_12 (zmem 3 rfl) (zz_aload_n (pc := 13) xf_5_13 (zmem 1 rfl) (zz_getR (pc := 14) xf_5_14 (zst_0 ha) (by decide +kernel) rfl (zz_call_v (pc := 17) (cu := 0) (su := 0) (fun ls hr => zz_calV xf_5_17 rfl (zst_1 ha) ls hr) rfl (sp_size (d := d + 3) ha) (zz_call_0 (pc := 20) (cu := 0) (su := 0) (fun ls hr => zz_calV xf_5_20 rfl zis_101 ls hr) rfl (sp_scaleInto (d := d + 2) hq (by rw [hzc _ (show zM2 = zmwM M a e by rw [ezM2, ezM1]; unfold zmwM zmw; rw [zrow_row, zsz_c hE1.e2])]; omega) (fun j hj => by have hj := hj; rw [hzc _ (show zM2 = zmwM M a e by rw [ezM2, ezM1]; unfold zmwM zmw; rw [zrow_row, zsz_c hE1.e2])] at hj; rw [(show zM2 = zmwM M a e by rw [ezM2, ezM1]; unfold zmwM zmw; rw [zrow_row, zsz_c hE1.e2])]; unfold zmwM; rw [zrow_q]; exact zmw_b ha hg hbl ht (by omega)) (by rw [hzc _ (show zM2 = zmwM M a e by rw [ezM2, ezM1]; unfold zmwM zmw; rw [zrow_row, zsz_c hE1.e2]), (show zM2 = zmwM M a e by rw [ezM2, ezM1]; unfold zmwM zmw; rw [zrow_row, zsz_c hE1.e2])]; unfold zmwM; rw [zrow_q]; exact hp)) (zm_as (fun zM3 (ezM3 : zM3 = zscM zM2 q (zsz zM2 a).toNat) => zz_return (pc := 23) xf_5_23 rfl (by decide +kernel) (by decide +kernel) (by exact ⟨rfl, by rw [ezM3, show zM2 = zmwM M a e from (by rw [ezM2, ezM1]; unfold zmwM zmw; rw [zrow_row, zsz_c hE1.e2]), hzc _ rfl]; rfl⟩))))))))))))))))))
/-- the weights of a seen mark, by a row of beliefs -/
noncomputable def zsgF (M : zM) (a q : Nat) (k : Int) : zF := fun t => @ite _ (zfreeN M a t) (Classical.propDecidable _) (M q t * M (a + 7) (zmark M a t * 4 + k).toNat) 0
noncomputable def zsgM (M : zM) (a q : Nat) (k : Int) : zM := ztab M 102 (zsz M a).toNat (zsgF M a q k)
theorem zmark_b {M : zM} {a : Nat} {c : Int} (hg : zGr M a) : 0 ≤ zmark M a c ∧ zmark M a c ≤ 3 := by
  by_cases h : zfree M a c
  · rw [zmark_t h]
    have h1 := hg.2.2 c.toNat (by have := zfree_b hg h; omega)
    unfold zfree at h
    omega
  · rw [zmark_f h]
    omega
theorem zmark_c {M M0 : zM} {a : Nat} {c : Int} (h : zE2 M M0 a) : zmark M a c = zmark M0 a c := by
  by_cases h1 : zfree M0 a c
  · rw [zmark_t h1, zmark_t ((zfree_c h).mpr h1), h.2]
  · rw [zmark_f h1, zmark_f (fun e => h1 ((zfree_c h).mp e))]
theorem zsgF_t {M : zM} {a q : Nat} {k i : Int} (h0 : 0 ≤ i) (h : zfree M a i) : zsgF M a q k i.toNat = M q i.toNat * M (a + 7) (zmark M a i * 4 + k).toNat := by
  unfold zsgF
  rw [if_pos ((zfreeN_i h0).mpr h), Int.toNat_of_nonneg h0]
theorem zsgF_f {M : zM} {a q : Nat} {k i : Int} (h0 : 0 ≤ i) (h : ¬ zfree M a i) : zsgF M a q k i.toNat = 0 := if_neg (fun e => h ((zfreeN_i h0).mp e))
theorem zE9_tab {M : zM} {a q n : Nat} {F : zF} (ha : zSt a) (hq : 99 ≤ q) : zE9 (ztab M q n F) M a := by
  rw [zrow_tab]
  exact zE9_row ha hq
theorem zl_weighSight_15 {xs : List Int32} {d : Nat} {w : Bool}  {a : Nat} (ha : zSt a) {k : Int} (hk : 0 ≤ k ∧ k < 4) {q : Nat} (hq : zIs q 100 36 zI) {M0 : zM} (hg : zGr M0 a) (ht : zTb M0 a) (hb : ∀ j : Nat, j < 36 → 0 ≤ M0 q j ∧ M0 q j ≤ 1000000)  : ∀ (zn : Nat) (s u i : Int) (M : zM), (M = ztab M0 102 i.toNat (zsgF M0 a q k)) → (s = zsz M0 a) → (u = zsum (zsgF M0 a q k) i.toNat) → (0 ≤ i ∧ i ≤ s) → s - i ≤ (zn : Int) → zG (xstep (xrun2 xs (d + 2)) xs 8) 8 (zn * 42 + 42) 15 [(0, .ref 101), (1, .ref a), (2, .ref q), (3, .int (Int32.ofInt k)), (4, .int (Int32.ofInt s)), (5, .long (Int64.ofInt u)), (7, .int (Int32.ofInt i))] [] 0 0 w M (fun o σ => o = (.inl (some (.long (Int64.ofInt (zsum (zsgF M0 a q k) (zsz M0 a).toNat)))) : XO) ∧ σ = (w, zheap (zsgM M0 a q k))) := by
  intro zn
  induction zn with
  | zero =>
    intro s u i M hM hs hu hi hm
    have ha1 := zSt_le ha
    have hq2 : q ≠ 102 := zIs_ne hq zis_102 (by decide)
    have hE : zE9 M M0 a := by rw [hM]; exact zE9_tab ha (by omega)
    have hMq : M q = M0 q := by rw [hM]; funext j; exact ztab_o hq2
    obtain ⟨g6, g7⟩ := hg.sz
    have hz : zsz M0 a = M0 (a + 1) 0 * M0 (a + 1) 1 := rfl
    have hmk := zmark_b (c := i) (zGr_c hE.e2 hg)
    have hmb : 0 ≤ M (a + 7) (zmark M a i * 4 + k).toNat ∧ M (a + 7) (zmark M a i * 4 + k).toNat ≤ 100 := by rw [hE.2.2.2.2.2.1]; exact ht.2.1 _ (by omega)
    have hbi : i < s → 0 ≤ M q i.toNat ∧ M q i.toNat ≤ 1000000 := fun h => by rw [hMq]; exact hb _ (by omega)
    exact zG_mono (N := 0 + 42) (by omega) (zz_iload (pc := 15) xf_8_15 (zmem 6 rfl) (zz_iload (pc := 17) xf_8_17 (zmem 4 rfl) (zz_icmp (pc := 19) xf_8_19 (by unfold zr32; omega) (by unfold zr32; omega) (fun (zc1 : ¬ (i < s)) => zz_lload (pc := 95) xf_8_95 (zmem 5 rfl) (zz_lreturn (pc := 97) xf_8_97 rfl (by decide +kernel) (by decide +kernel) (by exact ⟨zq_j (by rw [hu, show i.toNat = (zsz M0 a).toNat by omega]), by rw [hM, show i.toNat = (zsz M0 a).toNat by omega]; rfl⟩))) (fun zc20 => have zc2 : i < s := Classical.not_not.mp zc20; zz_aload_n (pc := 22) xf_8_22 (zmem 1 rfl) (zz_getR (pc := 23) xf_8_23 (zst_0 ha) (by decide +kernel) rfl (zz_getR (pc := 26) xf_8_26 (zst_5 ha) (by decide +kernel) rfl (zz_aload_n (pc := 29) xf_8_29 (zmem 1 rfl) (zz_getR (pc := 30) xf_8_30 (zst_0 ha) (by decide +kernel) rfl (zz_iload (pc := 33) xf_8_33 (zmem 6 rfl) (zz_call_v (pc := 35) (cu := 0) (su := 0) (fun ls hr => zz_calV xf_8_35 rfl (zst_1 ha) ls hr) rfl (sp_markOf (d := d) ha (by unfold zr32; omega) (zGr_c hE.e2 hg)) (zz_iconst (pc := 38) xf_8_38 (zz_imul (pc := 39) xf_8_39 (zz_iload_n (pc := 40) xf_8_40 (zmem 3 rfl) (zz_iadd (pc := 41) xf_8_41 (zz_iald (pc := 42) xf_8_42 (zst_7 ha) (by omega) (zz_istore (pc := 43) xf_8_43 (by decide +kernel) (zG_ro (ρ' := [(8, .int (Int32.ofInt (M (a + 7) (((zmark M a i) * (4)) + k).toNat))), (0, .ref 101), (1, .ref a), (2, .ref q), (3, .int (Int32.ofInt k)), (4, .int (Int32.ofInt s)), (5, .long (Int64.ofInt u)), (7, .int (Int32.ofInt i))]) rfl (zz_aload_n (pc := 45) xf_8_45 (zmem 1 rfl) (zz_getR (pc := 46) xf_8_46 zis_101 (by decide +kernel) rfl (zz_iload (pc := 49) xf_8_49 (zmem 7 rfl) (zz_aload_n (pc := 51) xf_8_51 (zmem 2 rfl) (zz_getR (pc := 52) xf_8_52 (zst_0 ha) (by decide +kernel) rfl (zz_iload (pc := 55) xf_8_55 (zmem 7 rfl) (zz_call_v (pc := 57) (cu := 0) (su := 0) (fun ls hr => zz_calV xf_8_57 rfl (zst_1 ha) ls hr) rfl (sp_isFree (d := d + 1) ha (by unfold zr32; omega) (zGr_c hE.e2 hg)) (zz_ifbeq (pc := 60) xf_8_60 (fun (zc3 : ¬ (zfree M a i)) => zz_lconst (pc := 75) (x := 0) xf_8_75 (by decide +kernel) (zz_last (pc := 76) xf_8_76 zis_102 (by omega) (zm_as (fun zM5 (ezM5 : zM5 = zup M 102 i.toNat (0)) => zz_lload (pc := 77) xf_8_77 (zmem 6 rfl) (zz_aload_n (pc := 79) xf_8_79 (zmem 1 rfl) (zz_getR (pc := 80) xf_8_80 zis_101 (by decide +kernel) rfl (zz_iload (pc := 83) xf_8_83 (zmem 7 rfl) (zz_lald (pc := 85) xf_8_85 zis_102 (by omega) (zz_ladd (pc := 86) xf_8_86 (zz_lstore (pc := 87) xf_8_87 (by decide +kernel) (zG_ro (ρ' := [(5, .long (Int64.ofInt (u + (zM5 102 i.toNat)))), (8, .int (Int32.ofInt (M (a + 7) (((zmark M a i) * (4)) + k).toNat))), (0, .ref 101), (1, .ref a), (2, .ref q), (3, .int (Int32.ofInt k)), (4, .int (Int32.ofInt s)), (7, .int (Int32.ofInt i))]) rfl (zz_iinc (pc := 89) xf_8_89 (zmem 7 rfl) (by decide +kernel) (zG_ro (ρ' := [(7, .int (Int32.ofInt (i + 1))), (5, .long (Int64.ofInt (u + (zM5 102 i.toNat)))), (8, .int (Int32.ofInt (M (a + 7) (((zmark M a i) * (4)) + k).toNat))), (0, .ref 101), (1, .ref a), (2, .ref q), (3, .int (Int32.ofInt k)), (4, .int (Int32.ofInt s))]) rfl (zz_goto (pc := 92) xf_8_92 ((by exfalso; omega)))))))))))))))) (fun zc40 => have zc4 : zfree M a i := Classical.not_not.mp zc40; zz_aload_n (pc := 63) xf_8_63 (zmem 3 rfl) (zz_iload (pc := 64) xf_8_64 (zmem 7 rfl) (zz_iald (pc := 66) xf_8_66 hq (by omega) (zz_i2l (pc := 67) xf_8_67 (by unfold zr32; omega) (zz_iload (pc := 68) xf_8_68 (zmem 0 rfl) (zz_i2l (pc := 70) xf_8_70 (by unfold zr32; omega) (zz_lmul (pc := 71) xf_8_71 (zz_goto (pc := 72) xf_8_72 (zz_last (pc := 76) xf_8_76 zis_102 (by omega) (zm_as (fun zM6 (ezM6 : zM6 = zup M 102 i.toNat ((M q i.toNat) * (M (a + 7) (((zmark M a i) * (4)) + k).toNat))) => zz_lload (pc := 77) xf_8_77 (zmem 6 rfl) (zz_aload_n (pc := 79) xf_8_79 (zmem 1 rfl) (zz_getR (pc := 80) xf_8_80 zis_101 (by decide +kernel) rfl (zz_iload (pc := 83) xf_8_83 (zmem 7 rfl) (zz_lald (pc := 85) xf_8_85 zis_102 (by omega) (zz_ladd (pc := 86) xf_8_86 (zz_lstore (pc := 87) xf_8_87 (by decide +kernel) (zG_ro (ρ' := [(5, .long (Int64.ofInt (u + (zM6 102 i.toNat)))), (8, .int (Int32.ofInt (M (a + 7) (((zmark M a i) * (4)) + k).toNat))), (0, .ref 101), (1, .ref a), (2, .ref q), (3, .int (Int32.ofInt k)), (4, .int (Int32.ofInt s)), (7, .int (Int32.ofInt i))]) rfl (zz_iinc (pc := 89) xf_8_89 (zmem 7 rfl) (by decide +kernel) (zG_ro (ρ' := [(7, .int (Int32.ofInt (i + 1))), (5, .long (Int64.ofInt (u + (zM6 102 i.toNat)))), (8, .int (Int32.ofInt (M (a + 7) (((zmark M a i) * (4)) + k).toNat))), (0, .ref 101), (1, .ref a), (2, .ref q), (3, .int (Int32.ofInt k)), (4, .int (Int32.ofInt s))]) rfl (zz_goto (pc := 92) xf_8_92 ((by exfalso; omega))))))))))))))))))))))))))))))))))))))))))))))))
  | succ zn ih =>
    intro s u i M hM hs hu hi hm
    have ha1 := zSt_le ha
    have hq2 : q ≠ 102 := zIs_ne hq zis_102 (by decide)
    have hE : zE9 M M0 a := by rw [hM]; exact zE9_tab ha (by omega)
    have hMq : M q = M0 q := by rw [hM]; funext j; exact ztab_o hq2
    obtain ⟨g6, g7⟩ := hg.sz
    have hz : zsz M0 a = M0 (a + 1) 0 * M0 (a + 1) 1 := rfl
    have hmk := zmark_b (c := i) (zGr_c hE.e2 hg)
    have hmb : 0 ≤ M (a + 7) (zmark M a i * 4 + k).toNat ∧ M (a + 7) (zmark M a i * 4 + k).toNat ≤ 100 := by rw [hE.2.2.2.2.2.1]; exact ht.2.1 _ (by omega)
    have hbi : i < s → 0 ≤ M q i.toNat ∧ M q i.toNat ≤ 1000000 := fun h => by rw [hMq]; exact hb _ (by omega)
    exact zG_mono (N := zn * 42 + 42 + 0 + 42) (by omega) (zz_iload (pc := 15) xf_8_15 (zmem 6 rfl) (zz_iload (pc := 17) xf_8_17 (zmem 4 rfl) (zz_icmp (pc := 19) xf_8_19 (by unfold zr32; omega) (by unfold zr32; omega) (fun (zc1 : ¬ (i < s)) => zz_lload (pc := 95) xf_8_95 (zmem 5 rfl) (zz_lreturn (pc := 97) xf_8_97 rfl (by decide +kernel) (by decide +kernel) (by exact ⟨zq_j (by rw [hu, show i.toNat = (zsz M0 a).toNat by omega]), by rw [hM, show i.toNat = (zsz M0 a).toNat by omega]; rfl⟩))) (fun zc20 => have zc2 : i < s := Classical.not_not.mp zc20; zz_aload_n (pc := 22) xf_8_22 (zmem 1 rfl) (zz_getR (pc := 23) xf_8_23 (zst_0 ha) (by decide +kernel) rfl (zz_getR (pc := 26) xf_8_26 (zst_5 ha) (by decide +kernel) rfl (zz_aload_n (pc := 29) xf_8_29 (zmem 1 rfl) (zz_getR (pc := 30) xf_8_30 (zst_0 ha) (by decide +kernel) rfl (zz_iload (pc := 33) xf_8_33 (zmem 6 rfl) (zz_call_v (pc := 35) (cu := 0) (su := 0) (fun ls hr => zz_calV xf_8_35 rfl (zst_1 ha) ls hr) rfl (sp_markOf (d := d) ha (by unfold zr32; omega) (zGr_c hE.e2 hg)) (zz_iconst (pc := 38) xf_8_38 (zz_imul (pc := 39) xf_8_39 (zz_iload_n (pc := 40) xf_8_40 (zmem 3 rfl) (zz_iadd (pc := 41) xf_8_41 (zz_iald (pc := 42) xf_8_42 (zst_7 ha) (by omega) (zz_istore (pc := 43) xf_8_43 (by decide +kernel) (zG_ro (ρ' := [(8, .int (Int32.ofInt (M (a + 7) (((zmark M a i) * (4)) + k).toNat))), (0, .ref 101), (1, .ref a), (2, .ref q), (3, .int (Int32.ofInt k)), (4, .int (Int32.ofInt s)), (5, .long (Int64.ofInt u)), (7, .int (Int32.ofInt i))]) rfl (zz_aload_n (pc := 45) xf_8_45 (zmem 1 rfl) (zz_getR (pc := 46) xf_8_46 zis_101 (by decide +kernel) rfl (zz_iload (pc := 49) xf_8_49 (zmem 7 rfl) (zz_aload_n (pc := 51) xf_8_51 (zmem 2 rfl) (zz_getR (pc := 52) xf_8_52 (zst_0 ha) (by decide +kernel) rfl (zz_iload (pc := 55) xf_8_55 (zmem 7 rfl) (zz_call_v (pc := 57) (cu := 0) (su := 0) (fun ls hr => zz_calV xf_8_57 rfl (zst_1 ha) ls hr) rfl (sp_isFree (d := d + 1) ha (by unfold zr32; omega) (zGr_c hE.e2 hg)) (zz_ifbeq (pc := 60) xf_8_60 (fun (zc3 : ¬ (zfree M a i)) => zz_lconst (pc := 75) (x := 0) xf_8_75 (by decide +kernel) (zz_last (pc := 76) xf_8_76 zis_102 (by omega) (zm_as (fun zM5 (ezM5 : zM5 = zup M 102 i.toNat (0)) => zz_lload (pc := 77) xf_8_77 (zmem 6 rfl) (zz_aload_n (pc := 79) xf_8_79 (zmem 1 rfl) (zz_getR (pc := 80) xf_8_80 zis_101 (by decide +kernel) rfl (zz_iload (pc := 83) xf_8_83 (zmem 7 rfl) (zz_lald (pc := 85) xf_8_85 zis_102 (by omega) (zz_ladd (pc := 86) xf_8_86 (zz_lstore (pc := 87) xf_8_87 (by decide +kernel) (zG_ro (ρ' := [(5, .long (Int64.ofInt (u + (zM5 102 i.toNat)))), (8, .int (Int32.ofInt (M (a + 7) (((zmark M a i) * (4)) + k).toNat))), (0, .ref 101), (1, .ref a), (2, .ref q), (3, .int (Int32.ofInt k)), (4, .int (Int32.ofInt s)), (7, .int (Int32.ofInt i))]) rfl (zz_iinc (pc := 89) xf_8_89 (zmem 7 rfl) (by decide +kernel) (zG_ro (ρ' := [(7, .int (Int32.ofInt (i + 1))), (5, .long (Int64.ofInt (u + (zM5 102 i.toNat)))), (8, .int (Int32.ofInt (M (a + 7) (((zmark M a i) * (4)) + k).toNat))), (0, .ref 101), (1, .ref a), (2, .ref q), (3, .int (Int32.ofInt k)), (4, .int (Int32.ofInt s))]) rfl (zz_goto (pc := 92) xf_8_92 (zG_mono (N := zn * 42 + 42) (by omega) (zG_sub (List.forall_mem_cons.mpr ⟨zmem 3 rfl, (List.forall_mem_cons.mpr ⟨zmem 4 rfl, (List.forall_mem_cons.mpr ⟨zmem 5 rfl, (List.forall_mem_cons.mpr ⟨zmem 6 rfl, (List.forall_mem_cons.mpr ⟨zmem 7 rfl, (List.forall_mem_cons.mpr ⟨zmem 1 rfl, (List.forall_mem_cons.mpr ⟨zmem 0 rfl, (fun p hp => absurd hp List.not_mem_nil)⟩)⟩)⟩)⟩)⟩)⟩)⟩) (ih s (u + (zM5 102 i.toNat)) (i + 1) zM5  (by have hx : ∀ x, x = zsgF M0 a q k i.toNat → zup M 102 i.toNat x = ztab M0 102 (i + 1).toNat (zsgF M0 a q k) := fun x hx => (by rw [hM, show (i + 1).toNat = i.toNat + 1 by omega]; exact ztab_s hx); rw [ezM5]; first | exact hx _ (by rw [zsgF_t hi.1 ((zfree_c hE.e2).mp (by assumption)), hMq, hE.2.2.2.2.2.1, zmark_c hE.e2]) | exact hx _ (by rw [zsgF_f hi.1 (fun e => absurd ((zfree_c hE.e2).mpr e) (by assumption))])) hs (by rw [ezM5, zup_i, hu, zsum_s hi.1]; congr 1; first | exact (by rw [zsgF_t hi.1 ((zfree_c hE.e2).mp (by assumption)), hMq, hE.2.2.2.2.2.1, zmark_c hE.e2]) | exact (by rw [zsgF_f hi.1 (fun e => absurd ((zfree_c hE.e2).mpr e) (by assumption))])) (by omega) (by omega)))))))))))))))))) (fun zc40 => have zc4 : zfree M a i := Classical.not_not.mp zc40; zz_aload_n (pc := 63) xf_8_63 (zmem 3 rfl) (zz_iload (pc := 64) xf_8_64 (zmem 7 rfl) (zz_iald (pc := 66) xf_8_66 hq (by omega) (zz_i2l (pc := 67) xf_8_67 (by unfold zr32; omega) (zz_iload (pc := 68) xf_8_68 (zmem 0 rfl) (zz_i2l (pc := 70) xf_8_70 (by unfold zr32; omega) (zz_lmul (pc := 71) xf_8_71 (zz_goto (pc := 72) xf_8_72 (zz_last (pc := 76) xf_8_76 zis_102 (by omega) (zm_as (fun zM6 (ezM6 : zM6 = zup M 102 i.toNat ((M q i.toNat) * (M (a + 7) (((zmark M a i) * (4)) + k).toNat))) => zz_lload (pc := 77) xf_8_77 (zmem 6 rfl) (zz_aload_n (pc := 79) xf_8_79 (zmem 1 rfl) (zz_getR (pc := 80) xf_8_80 zis_101 (by decide +kernel) rfl (zz_iload (pc := 83) xf_8_83 (zmem 7 rfl) (zz_lald (pc := 85) xf_8_85 zis_102 (by omega) (zz_ladd (pc := 86) xf_8_86 (zz_lstore (pc := 87) xf_8_87 (by decide +kernel) (zG_ro (ρ' := [(5, .long (Int64.ofInt (u + (zM6 102 i.toNat)))), (8, .int (Int32.ofInt (M (a + 7) (((zmark M a i) * (4)) + k).toNat))), (0, .ref 101), (1, .ref a), (2, .ref q), (3, .int (Int32.ofInt k)), (4, .int (Int32.ofInt s)), (7, .int (Int32.ofInt i))]) rfl (zz_iinc (pc := 89) xf_8_89 (zmem 7 rfl) (by decide +kernel) (zG_ro (ρ' := [(7, .int (Int32.ofInt (i + 1))), (5, .long (Int64.ofInt (u + (zM6 102 i.toNat)))), (8, .int (Int32.ofInt (M (a + 7) (((zmark M a i) * (4)) + k).toNat))), (0, .ref 101), (1, .ref a), (2, .ref q), (3, .int (Int32.ofInt k)), (4, .int (Int32.ofInt s))]) rfl (zz_goto (pc := 92) xf_8_92 (zG_mono (N := zn * 42 + 42) (by omega) (zG_sub (List.forall_mem_cons.mpr ⟨zmem 3 rfl, (List.forall_mem_cons.mpr ⟨zmem 4 rfl, (List.forall_mem_cons.mpr ⟨zmem 5 rfl, (List.forall_mem_cons.mpr ⟨zmem 6 rfl, (List.forall_mem_cons.mpr ⟨zmem 7 rfl, (List.forall_mem_cons.mpr ⟨zmem 1 rfl, (List.forall_mem_cons.mpr ⟨zmem 0 rfl, (fun p hp => absurd hp List.not_mem_nil)⟩)⟩)⟩)⟩)⟩)⟩)⟩) (ih s (u + (zM6 102 i.toNat)) (i + 1) zM6  (by have hx : ∀ x, x = zsgF M0 a q k i.toNat → zup M 102 i.toNat x = ztab M0 102 (i + 1).toNat (zsgF M0 a q k) := fun x hx => (by rw [hM, show (i + 1).toNat = i.toNat + 1 by omega]; exact ztab_s hx); rw [ezM6]; first | exact hx _ (by rw [zsgF_t hi.1 ((zfree_c hE.e2).mp (by assumption)), hMq, hE.2.2.2.2.2.1, zmark_c hE.e2]) | exact hx _ (by rw [zsgF_f hi.1 (fun e => absurd ((zfree_c hE.e2).mpr e) (by assumption))])) hs (by rw [ezM6, zup_i, hu, zsum_s hi.1]; congr 1; first | exact (by rw [zsgF_t hi.1 ((zfree_c hE.e2).mp (by assumption)), hMq, hE.2.2.2.2.2.1, zmark_c hE.e2]) | exact (by rw [zsgF_f hi.1 (fun e => absurd ((zfree_c hE.e2).mpr e) (by assumption))])) (by omega) (by omega))))))))))))))))))))))))))))))))))))))))))))))))))
end
noncomputable section
/-! Seeing, and what a scaling gives. -/
theorem zsum_up {F : zF} {b : Nat} {x : Int} : ∀ n, b < n → zsum (zrup F b x) n = zsum F n - F b + x
  | 0, h => absurd h (Nat.not_lt_zero b)
  | n + 1, h => by
    show zsum (zrup F b x) n + zrup F b x n = zsum F n + F n - F b + x
    by_cases e : n = b
    · subst e
      have h1 : zsum (zrup F n x) n = zsum F n := zsum_c n (fun j hj => if_neg (Nat.ne_of_lt hj))
      have h2 : zrup F n x n = x := if_pos rfl
      rw [h1, h2]
      omega
    · rw [zsum_up n (by omega), show zrup F b x n = F n from if_neg e]
      omega
theorem zadd_sum {n : Nat} (hn : 0 < n) : ∀ (k : Nat) (B R : zF), zsum (zadd n k (B, R)).1 n = zsum B n + k
  | 0, B, R => (Int.add_zero _).symm
  | k + 1, B, R => by
    show zsum (zadd n k (zrup B (zbest R n) (B (zbest R n) + 1), zrup R (zbest R n) (-1))).1 n = _
    rw [zadd_sum hn k, zsum_up n (zbest_lt R hn)]
    omega
theorem zadd_nn {n : Nat} : ∀ (k : Nat) (B R : zF), (∀ j, j < n → 0 ≤ B j) → ∀ j, j < n → 0 ≤ (zadd n k (B, R)).1 j
  | 0, B, R, h, j, hj => h j hj
  | k + 1, B, R, h, j, hj => zadd_nn k _ _ (fun i hi => by
      unfold zrup
      split
      · next e =>
        have h1 : 0 ≤ B i := h i hi
        rw [e] at h1
        show 0 ≤ B _ + 1
        omega
      · exact h i hi) j hj
theorem zsc_nn {W : zF} {n : Nat} (hW : ∀ j, j < n → 0 ≤ W j) (hS : 0 < zsum W n) (j : Nat) (hj : j < n) : 0 ≤ (zsc W n).1 j := zadd_nn _ _ _ (fun i hi => zshare_nn hS (hW i hi)) j hj
theorem zsc_sum {W : zF} {n : Nat} (hn : 0 < n) (hW : ∀ j, j < n → 0 ≤ W j) (hS : 0 < zsum W n) : zsum (zsc W n).1 n = 1000000 := by
  unfold zsc
  rw [zadd_sum hn]
  have h := zshare_sum hW hS
  unfold zlack
  omega
theorem zsc_le {W : zF} {n : Nat} (hW : ∀ j, j < n → 0 ≤ W j) (hS : 0 < zsum W n) (j : Nat) (hj : j < n) : (zsc W n).1 j ≤ 1000000 := by
  rw [← zsc_sum (by omega) hW hS]
  exact zsum_ge n (fun i hi => zsc_nn hW hS i hi) j hj
theorem zscM_o {M : zM} {q n q' : Nat} (h1 : q' ≠ q) (h2 : q' ≠ 103) : zscM M q n q' = M q' := zrows_o h1 h2
theorem zscM_q {M : zM} {q n j : Nat} (hq : q ≠ 103) (hj : j < n) : zscM M q n q j = (zsc (M 102) n).1 j := zrows_q hq hj
theorem zscM_g {M : zM} {q n j : Nat} (hq : q ≠ 103) (hj : n ≤ j) : zscM M q n q j = M q j := by
  unfold zscM zrows
  rw [ztab_o hq, ztab_g hj]
/-- a row of shares -/
def zBr (M : zM) (q : Nat) : Prop := ∀ j : Nat, j < 36 → 0 ≤ M q j ∧ M q j ≤ 1000000
theorem zBr_sc {M : zM} {q n : Nat} (hq : q ≠ 103) (hb : zBr M q) (hW : ∀ j, j < n → 0 ≤ M 102 j) (hS : 0 < zsum (M 102) n) : zBr (zscM M q n) q := by
  intro j hj
  by_cases h : j < n
  · rw [zscM_q hq h]
    exact ⟨zsc_nn hW hS j h, zsc_le hW hS j h⟩
  · rw [zscM_g hq (by omega)]
    exact hb j hj
theorem zE9_sc {M : zM} {a q n : Nat} (ha : zSt a) (hq : 99 ≤ q) : zE9 (zscM M q n) M a := by
  have := zSt_le ha
  exact ⟨zscM_o (by omega) (by omega), zscM_o (by omega) (by omega), zscM_o (by omega) (by omega), zscM_o (by omega) (by omega), zscM_o (by omega) (by omega), zscM_o (by omega) (by omega), zscM_o (by omega) (by omega)⟩
theorem zE9.tr {M M' M0 : zM} {a : Nat} (h : zE9 M M' a) (h' : zE9 M' M0 a) : zE9 M M0 a :=
  ⟨h.1.trans h'.1, h.2.1.trans h'.2.1, h.2.2.1.trans h'.2.2.1, h.2.2.2.1.trans h'.2.2.2.1, h.2.2.2.2.1.trans h'.2.2.2.2.1, h.2.2.2.2.2.1.trans h'.2.2.2.2.2.1, h.2.2.2.2.2.2.trans h'.2.2.2.2.2.2⟩
theorem zE9.tb {M M0 : zM} {a : Nat} (h : zE9 M M0 a) (ht : zTb M0 a) : zTb M a := by
  unfold zTb
  rw [h.2.2.2.1, h.2.2.2.2.1, h.2.2.2.2.2.1]
  exact ht
theorem zE9_ev {M : zM} {a q : Nat} (ha : zSt a) (hq : 99 ≤ q) : zE9 (zevM M a q) M a := (zE9_sc ha hq).tr (zE9_tab ha (by decide))
theorem zE9_sg {M : zM} {a q : Nat} {k : Int} (ha : zSt a) : zE9 (zsgM M a q k) M a := zE9_tab ha (by decide)
theorem zev_pos {M : zM} {a : Nat} (hf : 0 < zmany M a) : (∀ j, j < (zsz M a).toNat → 0 ≤ ztab M 102 (zsz M a).toNat (zevW M a) 102 j) ∧ 0 < zsum (ztab M 102 (zsz M a).toNat (zevW M a) 102) (zsz M a).toNat := by
  constructor
  · intro j hj
    rw [ztab_i hj]
    unfold zevW
    rcases zb_01 (zfreeN M a j) with e | e <;> rw [e] <;> decide
  · rw [zsum_c (K := zevW M a) _ (fun j hj => ztab_i hj), zevW_sum]
    exact hf
theorem zBr_ev {M : zM} {a q : Nat} (h1 : q ≠ 103) (h2 : q ≠ 102) (hf : 0 < zmany M a) (hb : zBr M q) : zBr (zevM M a q) q := by
  have h := zev_pos hf
  exact zBr_sc h1 (fun j hj => by rw [ztab_o h2]; exact hb j hj) h.1 h.2
theorem sp_weighSight {xs : List Int32} {d : Nat} {w : Bool} {M : zM} {a : Nat} (ha : zSt a) {k : Int} (hk : 0 ≤ k ∧ k < 4) {q : Nat} (hq : zIs q 100 36 zI) (hg : zGr M a) (ht : zTb M a) (hb : zBr M q) : xrun2 xs (d + 3) 8 [.ref 101, .ref a, .ref q, .int (Int32.ofInt k)] (w, zheap M) = some (.inl (some (.long (Int64.ofInt (zsum (zsgF M a q k) (zsz M a).toNat)))), (w, zheap (zsgM M a q k))) := by
  obtain ⟨⟨g1, g2⟩, ⟨g3, g4⟩, g5⟩ := id hg
  obtain ⟨g6, g7⟩ := hg.sz
  have hz : zsz M a = M (a + 1) 0 * M (a + 1) 1 := rfl
  exact zrun_v (N := 1562) (by decide) rfl (zz_aload_n (pc := 0) xf_8_0 (zmem 1 rfl) (zz_getR (pc := 1) xf_8_1 (zst_0 ha) (by decide +kernel) rfl (zz_call_v (pc := 4) (cu := 0) (su := 0) (fun ls hr => zz_calV xf_8_4 rfl (zst_1 ha) ls hr) rfl (sp_size (d := d + 1) ha) (zz_istore (pc := 7) xf_8_7 (by decide +kernel) (zG_ro (ρ' := [(4, .int (Int32.ofInt (zsz M a))), (0, .ref 101), (1, .ref a), (2, .ref q), (3, .int (Int32.ofInt k))]) rfl (zz_lconst (pc := 9) (x := 0) xf_8_9 (by decide +kernel) (zz_lstore (pc := 10) xf_8_10 (by decide +kernel) (zG_ro (ρ' := [(5, .long (Int64.ofInt (0))), (4, .int (Int32.ofInt (zsz M a))), (0, .ref 101), (1, .ref a), (2, .ref q), (3, .int (Int32.ofInt k))]) rfl (zz_iconst (pc := 12) xf_8_12 (zz_istore (pc := 13) xf_8_13 (by decide +kernel) (zG_ro (ρ' := [(7, .int (Int32.ofInt (0))), (5, .long (Int64.ofInt (0))), (4, .int (Int32.ofInt (zsz M a))), (0, .ref 101), (1, .ref a), (2, .ref q), (3, .int (Int32.ofInt k))]) rfl (zG_mono (N := 1554) (by omega) (zG_sub (List.forall_mem_cons.mpr ⟨zmem 3 rfl, (List.forall_mem_cons.mpr ⟨zmem 4 rfl, (List.forall_mem_cons.mpr ⟨zmem 5 rfl, (List.forall_mem_cons.mpr ⟨zmem 6 rfl, (List.forall_mem_cons.mpr ⟨zmem 2 rfl, (List.forall_mem_cons.mpr ⟨zmem 1 rfl, (List.forall_mem_cons.mpr ⟨zmem 0 rfl, (fun p hp => absurd hp List.not_mem_nil)⟩)⟩)⟩)⟩)⟩)⟩)⟩) (zl_weighSight_15 (M0 := M) ha hk hq hg ht hb 36 _ _ _ _ ztab_0.symm rfl rfl (by omega) (by omega)))))))))))))))
theorem zsgF_b {M : zM} {a q : Nat} {k : Int} (hg : zGr M a) (ht : zTb M a) (hb : zBr M q) (hk : 0 ≤ k ∧ k < 4) {j : Nat} (hj : j < 36) : 0 ≤ zsgF M a q k j ∧ zsgF M a q k j ≤ 100000000 := by
  unfold zsgF
  split
  · have h1 := zmark_b (c := (j : Int)) hg
    exact zmul_b (X := 1000000) (Y := 100) (hb j hj) (ht.2.1 _ (by omega))
  · omega
theorem zsgF_s {M : zM} {a q : Nat} {k : Int} (hg : zGr M a) (ht : zTb M a) (hb : zBr M q) (hk : 0 ≤ k ∧ k < 4) {n : Nat} (hn : n ≤ 36) : 0 ≤ zsum (zsgF M a q k) n ∧ zsum (zsgF M a q k) n ≤ 3600000000 := by
  have h := zsum_b (l := 0) (u := 100000000) n (fun j hj => zsgF_b hg ht hb hk (j := j) (by omega))
  omega
/-- the sum that seeing a mark has before scaling; whether it is seen without a restart -/
noncomputable def zs1 (M : zM) (a q : Nat) (k : Int) : Int := zsum (zsgF M a q k) (zsz M a).toNat
noncomputable def zok (M : zM) (a : Nat) (k : Int) : Prop := 0 < zs1 M a (a + 11) k ∧ ¬ zs1 M a (a + 11) k < 1000000 * M (a + 5) 3
noncomputable def zrsM (M : zM) (a : Nat) (k : Int) : zM := zevM (zsgM M a (a + 11) k) a 104
noncomputable def zrs (M : zM) (a : Nat) (k : Int) : Int := @ite _ (0 < zs1 (zrsM M a k) a 104 k) (Classical.propDecidable _) 2 0
theorem sp_wsrT {xs : List Int32} {d : Nat} {w : Bool} {M : zM} {a : Nat} (ha : zSt a) {k : Int} (hk : 0 ≤ k ∧ k < 4) (hg : zGr M a) (ht : zTb M a) (hb : zBr M (a + 11)) (hc : zBr M 104) (hf : 0 < zmany M a) (ho : zok M a k) : xrun2 xs (d + 4) 9 [.ref 101, .ref a, .int (Int32.ofInt k)] (w, zheap M) = some (.inl (some (.int (Int32.ofInt 1))), (w, zheap (zsgM M a (a + 11) k))) := by
  have ha1 := zSt_le ha
  have hgz := hg.sz
  have hz : zsz M a = M (a + 1) 0 * M (a + 1) 1 := rfl
  have hEs := zE9_sg (q := a + 11) (k := k) (M := M) ha
  have hEe := (zE9_ev (M := zsgM M a (a + 11) k) (q := 104) ha (by decide)).tr hEs
  have hz2 := zsz_c hEs.e2
  have hz3 := zsz_c hEe.e2
  have hs1 : 0 ≤ zsum (zsgF M a (a + 11) k) (zsz M a).toNat ∧ zsum (zsgF M a (a + 11) k) (zsz M a).toNat ≤ 3600000000 := zsgF_s hg ht hb hk (by omega)
  have hf2 : 0 < zmany (zsgM M a (a + 11) k) a := by rw [zmany_c hEs.e2]; exact hf
  have hc2 : zBr (zsgM M a (a + 11) k) 104 := fun j hj => by unfold zsgM; rw [ztab_o (by decide)]; exact hc j hj
  have hc3 := zBr_ev (by decide) (by decide) hf2 hc2
  have hlt := ht.2.2.2
  have hlt2 : M (a + 5) 3 = zsgM M a (a + 11) k (a + 5) 3 := by rw [hEs.2.2.2.1]
  have hs2 : 0 ≤ zsum (zsgF (zevM (zsgM M a (a + 11) k) a 104) a 104 k) (zsz M a).toNat ∧ zsum (zsgF (zevM (zsgM M a (a + 11) k) a 104) a 104 k) (zsz M a).toNat ≤ 3600000000 := zsgF_s (zGr_c hEe.e2 hg) (hEe.tb ht) hc3 hk (by omega)
  have hs3 : zsum (zsgF (zevM (zsgM M a (a + 11) k) a 104) a 104 k) (zsz (zevM (zsgM M a (a + 11) k) a 104) a).toNat = zsum (zsgF (zevM (zsgM M a (a + 11) k) a 104) a 104 k) (zsz M a).toNat := by rw [hz3]
  exact zrun_v (N := 37) (by decide) rfl (zz_aload_n (pc := 0) xf_9_0 (zmem 0 rfl) (zz_aload_n (pc := 1) xf_9_1 (zmem 1 rfl) (zz_aload_n (pc := 2) xf_9_2 (zmem 1 rfl) (zz_getR (pc := 3) xf_9_3 (zst_0 ha) (by decide +kernel) rfl (zz_iload_n (pc := 6) xf_9_6 (zmem 2 rfl) (zz_call_v (pc := 7) (cu := 0) (su := 0) (fun ls hr => zz_calV xf_9_7 rfl zis_101 ls hr) rfl (sp_weighSight (d := d) ha hk (zst_11 ha) hg ht hb) (zm_as (fun zM1 (ezM1 : zM1 = zsgM M a (a + 11) k) => zz_lstore_n (pc := 10) xf_9_10 (by decide +kernel) (zG_ro (ρ' := [(3, .long (Int64.ofInt (zsum (zsgF M a (a + 11) k) (zsz M a).toNat))), (0, .ref 101), (1, .ref a), (2, .int (Int32.ofInt k))]) rfl (zz_lload_n (pc := 11) xf_9_11 (zmem 0 rfl) (zz_lconst (pc := 12) (x := 0) xf_9_12 (by decide +kernel) (zz_lcmp (pc := 13) xf_9_13 xf_9_14 (by subst_vars; unfold zr64; omega) ⟨by decide, by decide⟩ (fun (zc2 : ¬ ((0) < (zsum (zsgF M a (a + 11) k) (zsz M a).toNat))) => zz_aload_n (pc := 36) xf_9_36 (zmem 1 rfl) (zz_aload_n (pc := 37) xf_9_37 (zmem 2 rfl) (zz_getR (pc := 38) xf_9_38 (zst_0 ha) (by decide +kernel) rfl (zz_aload_n (pc := 41) xf_9_41 (zmem 1 rfl) (zz_getR (pc := 42) xf_9_42 zis_101 (by decide +kernel) rfl (zz_call_0 (pc := 45) (cu := 0) (su := 0) (fun ls hr => zz_calV xf_9_45 rfl zis_101 ls hr) rfl (sp_evenInto (d := d) ha zis_104 (by subst_vars; first | exact zGr_c hEs.e2 hg | exact zGr_c hEe.e2 hg) (by subst_vars; exact hf2)) (zm_as (fun zM4 (ezM4 : zM4 = zevM zM1 a 104) => zz_aload_n (pc := 48) xf_9_48 (zmem 1 rfl) (zz_aload_n (pc := 49) xf_9_49 (zmem 2 rfl) (zz_aload_n (pc := 50) xf_9_50 (zmem 1 rfl) (zz_getR (pc := 51) xf_9_51 zis_101 (by decide +kernel) rfl (zz_iload_n (pc := 54) xf_9_54 (zmem 3 rfl) (zz_call_v (pc := 55) (cu := 0) (su := 0) (fun ls hr => zz_calV xf_9_55 rfl zis_101 ls hr) rfl (sp_weighSight (d := d) ha hk zis_104 (by subst_vars; first | exact zGr_c hEs.e2 hg | exact zGr_c hEe.e2 hg) (by subst_vars; first | exact hEs.tb ht | exact hEe.tb ht) (by subst_vars; exact hc3)) (zm_as (fun zM5 (ezM5 : zM5 = zsgM zM4 a 104 k) => zz_lconst (pc := 58) (x := 0) xf_9_58 (by decide +kernel) (zz_lcmp (pc := 59) xf_9_59 xf_9_60 (by subst_vars; unfold zr64; omega) ⟨by decide, by decide⟩ (fun (zc6 : ¬ ((0) < (zsum (zsgF zM4 a 104 k) (zsz zM4 a).toNat))) => zz_iconst (pc := 67) xf_9_67 (zz_ireturn (pc := 68) xf_9_68 rfl (by decide +kernel) (by decide +kernel) (by subst_vars; first | (exfalso; unfold zok zs1 at ho; omega) | exact ⟨rfl, rfl⟩))) (fun zc70 => have zc7 : (0) < (zsum (zsgF zM4 a 104 k) (zsz zM4 a).toNat) := Classical.not_not.mp zc70; zz_iconst (pc := 63) xf_9_63 (zz_goto (pc := 64) xf_9_64 (zz_ireturn (pc := 68) xf_9_68 rfl (by decide +kernel) (by decide +kernel) (by subst_vars; first | (exfalso; unfold zok zs1 at ho; omega) | exact ⟨rfl, rfl⟩)))))))))))))))))))) (fun zc30 => have zc3 : (0) < (zsum (zsgF M a (a + 11) k) (zsz M a).toNat) := Classical.not_not.mp zc30; zz_lload_n (pc := 17) xf_9_17 (zmem 0 rfl) (zz_ldc2_w (pc := 18) (v := .long (Int64.ofInt (1000000))) xf_9_18 (by decide +kernel) (zz_aload_n (pc := 21) xf_9_21 (zmem 2 rfl) (zz_getR (pc := 22) xf_9_22 (zst_0 ha) (by decide +kernel) rfl (zz_getI (pc := 25) xf_9_25 (zst_5 ha) (by decide +kernel) rfl (zz_i2l (pc := 28) xf_9_28 (by subst_vars; unfold zr32; omega) (zz_lmul (pc := 29) xf_9_29 (zz_lcmp (pc := 30) xf_9_30 xf_9_31 (by subst_vars; unfold zr64; omega) (by subst_vars; unfold zr64; omega) (fun (zc8 : (zsum (zsgF M a (a + 11) k) (zsz M a).toNat) < ((1000000) * (zM1 (a + 5) 3))) => zz_aload_n (pc := 36) xf_9_36 (zmem 1 rfl) (zz_aload_n (pc := 37) xf_9_37 (zmem 2 rfl) (zz_getR (pc := 38) xf_9_38 (zst_0 ha) (by decide +kernel) rfl (zz_aload_n (pc := 41) xf_9_41 (zmem 1 rfl) (zz_getR (pc := 42) xf_9_42 zis_101 (by decide +kernel) rfl (zz_call_0 (pc := 45) (cu := 0) (su := 0) (fun ls hr => zz_calV xf_9_45 rfl zis_101 ls hr) rfl (sp_evenInto (d := d) ha zis_104 (by subst_vars; first | exact zGr_c hEs.e2 hg | exact zGr_c hEe.e2 hg) (by subst_vars; exact hf2)) (zm_as (fun zM10 (ezM10 : zM10 = zevM zM1 a 104) => zz_aload_n (pc := 48) xf_9_48 (zmem 1 rfl) (zz_aload_n (pc := 49) xf_9_49 (zmem 2 rfl) (zz_aload_n (pc := 50) xf_9_50 (zmem 1 rfl) (zz_getR (pc := 51) xf_9_51 zis_101 (by decide +kernel) rfl (zz_iload_n (pc := 54) xf_9_54 (zmem 3 rfl) (zz_call_v (pc := 55) (cu := 0) (su := 0) (fun ls hr => zz_calV xf_9_55 rfl zis_101 ls hr) rfl (sp_weighSight (d := d) ha hk zis_104 (by subst_vars; first | exact zGr_c hEs.e2 hg | exact zGr_c hEe.e2 hg) (by subst_vars; first | exact hEs.tb ht | exact hEe.tb ht) (by subst_vars; exact hc3)) (zm_as (fun zM11 (ezM11 : zM11 = zsgM zM10 a 104 k) => zz_lconst (pc := 58) (x := 0) xf_9_58 (by decide +kernel) (zz_lcmp (pc := 59) xf_9_59 xf_9_60 (by subst_vars; unfold zr64; omega) ⟨by decide, by decide⟩ (fun (zc12 : ¬ ((0) < (zsum (zsgF zM10 a 104 k) (zsz zM10 a).toNat))) => zz_iconst (pc := 67) xf_9_67 (zz_ireturn (pc := 68) xf_9_68 rfl (by decide +kernel) (by decide +kernel) (by subst_vars; first | (exfalso; unfold zok zs1 at ho; omega) | exact ⟨rfl, rfl⟩))) (fun zc130 => have zc13 : (0) < (zsum (zsgF zM10 a 104 k) (zsz zM10 a).toNat) := Classical.not_not.mp zc130; zz_iconst (pc := 63) xf_9_63 (zz_goto (pc := 64) xf_9_64 (zz_ireturn (pc := 68) xf_9_68 rfl (by decide +kernel) (by decide +kernel) (by subst_vars; first | (exfalso; unfold zok zs1 at ho; omega) | exact ⟨rfl, rfl⟩)))))))))))))))))))) (fun (zc9 : ¬ ((zsum (zsgF M a (a + 11) k) (zsz M a).toNat) < ((1000000) * (zM1 (a + 5) 3)))) => zz_iconst (pc := 34) xf_9_34 (zz_ireturn (pc := 35) xf_9_35 rfl (by decide +kernel) (by decide +kernel) (by subst_vars; first | (exfalso; unfold zok zs1 at ho; omega) | exact ⟨rfl, rfl⟩)))))))))))))))))))))))
theorem sp_wsrF {xs : List Int32} {d : Nat} {w : Bool} {M : zM} {a : Nat} (ha : zSt a) {k : Int} (hk : 0 ≤ k ∧ k < 4) (hg : zGr M a) (ht : zTb M a) (hb : zBr M (a + 11)) (hc : zBr M 104) (hf : 0 < zmany M a) (ho : ¬ zok M a k) : xrun2 xs (d + 4) 9 [.ref 101, .ref a, .int (Int32.ofInt k)] (w, zheap M) = some (.inl (some (.int (Int32.ofInt (zrs M a k)))), (w, zheap (zsgM (zrsM M a k) a 104 k))) := by
  have ha1 := zSt_le ha
  have hgz := hg.sz
  have hz : zsz M a = M (a + 1) 0 * M (a + 1) 1 := rfl
  have hEs := zE9_sg (q := a + 11) (k := k) (M := M) ha
  have hEe := (zE9_ev (M := zsgM M a (a + 11) k) (q := 104) ha (by decide)).tr hEs
  have hz2 := zsz_c hEs.e2
  have hz3 := zsz_c hEe.e2
  have hs1 : 0 ≤ zsum (zsgF M a (a + 11) k) (zsz M a).toNat ∧ zsum (zsgF M a (a + 11) k) (zsz M a).toNat ≤ 3600000000 := zsgF_s hg ht hb hk (by omega)
  have hf2 : 0 < zmany (zsgM M a (a + 11) k) a := by rw [zmany_c hEs.e2]; exact hf
  have hc2 : zBr (zsgM M a (a + 11) k) 104 := fun j hj => by unfold zsgM; rw [ztab_o (by decide)]; exact hc j hj
  have hc3 := zBr_ev (by decide) (by decide) hf2 hc2
  have hlt := ht.2.2.2
  have hlt2 : M (a + 5) 3 = zsgM M a (a + 11) k (a + 5) 3 := by rw [hEs.2.2.2.1]
  have hs2 : 0 ≤ zsum (zsgF (zevM (zsgM M a (a + 11) k) a 104) a 104 k) (zsz M a).toNat ∧ zsum (zsgF (zevM (zsgM M a (a + 11) k) a 104) a 104 k) (zsz M a).toNat ≤ 3600000000 := zsgF_s (zGr_c hEe.e2 hg) (hEe.tb ht) hc3 hk (by omega)
  have hs3 : zsum (zsgF (zevM (zsgM M a (a + 11) k) a 104) a 104 k) (zsz (zevM (zsgM M a (a + 11) k) a 104) a).toNat = zsum (zsgF (zevM (zsgM M a (a + 11) k) a 104) a 104 k) (zsz M a).toNat := by rw [hz3]
  exact zrun_v (N := 37) (by decide) rfl (zz_aload_n (pc := 0) xf_9_0 (zmem 0 rfl) (zz_aload_n (pc := 1) xf_9_1 (zmem 1 rfl) (zz_aload_n (pc := 2) xf_9_2 (zmem 1 rfl) (zz_getR (pc := 3) xf_9_3 (zst_0 ha) (by decide +kernel) rfl (zz_iload_n (pc := 6) xf_9_6 (zmem 2 rfl) (zz_call_v (pc := 7) (cu := 0) (su := 0) (fun ls hr => zz_calV xf_9_7 rfl zis_101 ls hr) rfl (sp_weighSight (d := d) ha hk (zst_11 ha) hg ht hb) (zm_as (fun zM1 (ezM1 : zM1 = zsgM M a (a + 11) k) => zz_lstore_n (pc := 10) xf_9_10 (by decide +kernel) (zG_ro (ρ' := [(3, .long (Int64.ofInt (zsum (zsgF M a (a + 11) k) (zsz M a).toNat))), (0, .ref 101), (1, .ref a), (2, .int (Int32.ofInt k))]) rfl (zz_lload_n (pc := 11) xf_9_11 (zmem 0 rfl) (zz_lconst (pc := 12) (x := 0) xf_9_12 (by decide +kernel) (zz_lcmp (pc := 13) xf_9_13 xf_9_14 (by subst_vars; unfold zr64; omega) ⟨by decide, by decide⟩ (fun (zc2 : ¬ ((0) < (zsum (zsgF M a (a + 11) k) (zsz M a).toNat))) => zz_aload_n (pc := 36) xf_9_36 (zmem 1 rfl) (zz_aload_n (pc := 37) xf_9_37 (zmem 2 rfl) (zz_getR (pc := 38) xf_9_38 (zst_0 ha) (by decide +kernel) rfl (zz_aload_n (pc := 41) xf_9_41 (zmem 1 rfl) (zz_getR (pc := 42) xf_9_42 zis_101 (by decide +kernel) rfl (zz_call_0 (pc := 45) (cu := 0) (su := 0) (fun ls hr => zz_calV xf_9_45 rfl zis_101 ls hr) rfl (sp_evenInto (d := d) ha zis_104 (by subst_vars; first | exact zGr_c hEs.e2 hg | exact zGr_c hEe.e2 hg) (by subst_vars; exact hf2)) (zm_as (fun zM4 (ezM4 : zM4 = zevM zM1 a 104) => zz_aload_n (pc := 48) xf_9_48 (zmem 1 rfl) (zz_aload_n (pc := 49) xf_9_49 (zmem 2 rfl) (zz_aload_n (pc := 50) xf_9_50 (zmem 1 rfl) (zz_getR (pc := 51) xf_9_51 zis_101 (by decide +kernel) rfl (zz_iload_n (pc := 54) xf_9_54 (zmem 3 rfl) (zz_call_v (pc := 55) (cu := 0) (su := 0) (fun ls hr => zz_calV xf_9_55 rfl zis_101 ls hr) rfl (sp_weighSight (d := d) ha hk zis_104 (by subst_vars; first | exact zGr_c hEs.e2 hg | exact zGr_c hEe.e2 hg) (by subst_vars; first | exact hEs.tb ht | exact hEe.tb ht) (by subst_vars; exact hc3)) (zm_as (fun zM5 (ezM5 : zM5 = zsgM zM4 a 104 k) => zz_lconst (pc := 58) (x := 0) xf_9_58 (by decide +kernel) (zz_lcmp (pc := 59) xf_9_59 xf_9_60 (by subst_vars; unfold zr64; omega) ⟨by decide, by decide⟩ (fun (zc6 : ¬ ((0) < (zsum (zsgF zM4 a 104 k) (zsz zM4 a).toNat))) => zz_iconst (pc := 67) xf_9_67 (zz_ireturn (pc := 68) xf_9_68 rfl (by decide +kernel) (by decide +kernel) (by subst_vars; first | (exfalso; unfold zok zs1 at ho; omega) | exact ⟨zq_i (by unfold zrs zs1 zrsM; exact (if_pos (by omega)).symm), rfl⟩ | exact ⟨zq_i (by unfold zrs zs1 zrsM; exact (if_neg (by omega)).symm), rfl⟩))) (fun zc70 => have zc7 : (0) < (zsum (zsgF zM4 a 104 k) (zsz zM4 a).toNat) := Classical.not_not.mp zc70; zz_iconst (pc := 63) xf_9_63 (zz_goto (pc := 64) xf_9_64 (zz_ireturn (pc := 68) xf_9_68 rfl (by decide +kernel) (by decide +kernel) (by subst_vars; first | (exfalso; unfold zok zs1 at ho; omega) | exact ⟨zq_i (by unfold zrs zs1 zrsM; exact (if_pos (by omega)).symm), rfl⟩ | exact ⟨zq_i (by unfold zrs zs1 zrsM; exact (if_neg (by omega)).symm), rfl⟩)))))))))))))))))))) (fun zc30 => have zc3 : (0) < (zsum (zsgF M a (a + 11) k) (zsz M a).toNat) := Classical.not_not.mp zc30; zz_lload_n (pc := 17) xf_9_17 (zmem 0 rfl) (zz_ldc2_w (pc := 18) (v := .long (Int64.ofInt (1000000))) xf_9_18 (by decide +kernel) (zz_aload_n (pc := 21) xf_9_21 (zmem 2 rfl) (zz_getR (pc := 22) xf_9_22 (zst_0 ha) (by decide +kernel) rfl (zz_getI (pc := 25) xf_9_25 (zst_5 ha) (by decide +kernel) rfl (zz_i2l (pc := 28) xf_9_28 (by subst_vars; unfold zr32; omega) (zz_lmul (pc := 29) xf_9_29 (zz_lcmp (pc := 30) xf_9_30 xf_9_31 (by subst_vars; unfold zr64; omega) (by subst_vars; unfold zr64; omega) (fun (zc8 : (zsum (zsgF M a (a + 11) k) (zsz M a).toNat) < ((1000000) * (zM1 (a + 5) 3))) => zz_aload_n (pc := 36) xf_9_36 (zmem 1 rfl) (zz_aload_n (pc := 37) xf_9_37 (zmem 2 rfl) (zz_getR (pc := 38) xf_9_38 (zst_0 ha) (by decide +kernel) rfl (zz_aload_n (pc := 41) xf_9_41 (zmem 1 rfl) (zz_getR (pc := 42) xf_9_42 zis_101 (by decide +kernel) rfl (zz_call_0 (pc := 45) (cu := 0) (su := 0) (fun ls hr => zz_calV xf_9_45 rfl zis_101 ls hr) rfl (sp_evenInto (d := d) ha zis_104 (by subst_vars; first | exact zGr_c hEs.e2 hg | exact zGr_c hEe.e2 hg) (by subst_vars; exact hf2)) (zm_as (fun zM10 (ezM10 : zM10 = zevM zM1 a 104) => zz_aload_n (pc := 48) xf_9_48 (zmem 1 rfl) (zz_aload_n (pc := 49) xf_9_49 (zmem 2 rfl) (zz_aload_n (pc := 50) xf_9_50 (zmem 1 rfl) (zz_getR (pc := 51) xf_9_51 zis_101 (by decide +kernel) rfl (zz_iload_n (pc := 54) xf_9_54 (zmem 3 rfl) (zz_call_v (pc := 55) (cu := 0) (su := 0) (fun ls hr => zz_calV xf_9_55 rfl zis_101 ls hr) rfl (sp_weighSight (d := d) ha hk zis_104 (by subst_vars; first | exact zGr_c hEs.e2 hg | exact zGr_c hEe.e2 hg) (by subst_vars; first | exact hEs.tb ht | exact hEe.tb ht) (by subst_vars; exact hc3)) (zm_as (fun zM11 (ezM11 : zM11 = zsgM zM10 a 104 k) => zz_lconst (pc := 58) (x := 0) xf_9_58 (by decide +kernel) (zz_lcmp (pc := 59) xf_9_59 xf_9_60 (by subst_vars; unfold zr64; omega) ⟨by decide, by decide⟩ (fun (zc12 : ¬ ((0) < (zsum (zsgF zM10 a 104 k) (zsz zM10 a).toNat))) => zz_iconst (pc := 67) xf_9_67 (zz_ireturn (pc := 68) xf_9_68 rfl (by decide +kernel) (by decide +kernel) (by subst_vars; first | (exfalso; unfold zok zs1 at ho; omega) | exact ⟨zq_i (by unfold zrs zs1 zrsM; exact (if_pos (by omega)).symm), rfl⟩ | exact ⟨zq_i (by unfold zrs zs1 zrsM; exact (if_neg (by omega)).symm), rfl⟩))) (fun zc130 => have zc13 : (0) < (zsum (zsgF zM10 a 104 k) (zsz zM10 a).toNat) := Classical.not_not.mp zc130; zz_iconst (pc := 63) xf_9_63 (zz_goto (pc := 64) xf_9_64 (zz_ireturn (pc := 68) xf_9_68 rfl (by decide +kernel) (by decide +kernel) (by subst_vars; first | (exfalso; unfold zok zs1 at ho; omega) | exact ⟨zq_i (by unfold zrs zs1 zrsM; exact (if_pos (by omega)).symm), rfl⟩ | exact ⟨zq_i (by unfold zrs zs1 zrsM; exact (if_neg (by omega)).symm), rfl⟩)))))))))))))))))))) (fun (zc9 : ¬ ((zsum (zsgF M a (a + 11) k) (zsz M a).toNat) < ((1000000) * (zM1 (a + 5) 3)))) => zz_iconst (pc := 34) xf_9_34 (zz_ireturn (pc := 35) xf_9_35 rfl (by decide +kernel) (by decide +kernel) (by subst_vars; first | (exfalso; unfold zok zs1 at ho; omega) | exact ⟨zq_i (by unfold zrs zs1 zrsM; exact (if_pos (by omega)).symm), rfl⟩ | exact ⟨zq_i (by unfold zrs zs1 zrsM; exact (if_neg (by omega)).symm), rfl⟩)))))))))))))))))))))))
end
noncomputable section
/-! Trails, states, changes. -/
def zmx (x y : Int) : Int := if x < y then y else x
theorem zmx_b {x y l u : Int} (hx : l ≤ x ∧ x ≤ u) (hy : l ≤ y ∧ y ≤ u) : l ≤ zmx x y ∧ zmx x y ≤ u := by
  unfold zmx
  split <;> assumption
def zgr (F : zF) : Nat → Int
  | 0 => 0
  | n + 1 => zmx (zgr F n) (F n)
theorem zgr_s {F : zF} {i : Int} (h : 0 ≤ i) : zgr F (i + 1).toNat = zmx (zgr F i.toNat) (F i.toNat) := by
  rw [show (i + 1).toNat = i.toNat + 1 by omega]
  rfl
theorem zgr_b {F : zF} {u : Int} : ∀ n, (∀ j, j < n → 0 ≤ F j ∧ F j ≤ u) → 0 ≤ u → 0 ≤ zgr F n ∧ zgr F n ≤ u
  | 0, _, h => ⟨Int.le_refl _, h⟩
  | n + 1, h, h0 => zmx_b (zgr_b n (fun j hj => h j (by omega)) h0) (h n (by omega))
theorem zgr_c {F K : zF} : ∀ n, (∀ j, j < n → F j = K j) → zgr F n = zgr K n
  | 0, _ => rfl
  | n + 1, h => by
    show zmx (zgr F n) (F n) = zmx (zgr K n) (K n)
    rw [zgr_c n (fun j hj => h j (by omega)), h n (by omega)]
theorem sp_maxI {xs : List Int32} {d : Nat} {w : Bool} {M : zM} {x y : Int} (hx : zr32 x) (hy : zr32 y) : xrun2 xs (d + 1) 220 [.int (Int32.ofInt x), .int (Int32.ofInt y)] (w, zheap M) = some (.inl (some (.int (Int32.ofInt (zmx x y)))), (w, zheap M)) := by
  exact zrun_v (N := 5) (by decide) rfl (zz_iload_n (pc := 0) xf_220_0 (zmem 0 rfl) (zz_iload_n (pc := 1) xf_220_1 (zmem 1 rfl) (zz_icmp (pc := 2) xf_220_2 hx hy (fun (zc1 : x < y) => zz_iload_n (pc := 9) xf_220_9 (zmem 1 rfl) (zz_ireturn (pc := 10) xf_220_10 rfl (by decide +kernel) (by decide +kernel) (by unfold zmx; first | (rw [if_pos (by omega)]; exact ⟨rfl, rfl⟩) | (rw [if_neg (by omega)]; exact ⟨rfl, rfl⟩)))) (fun (zc2 : ¬ (x < y)) => zz_iload_n (pc := 5) xf_220_5 (zmem 0 rfl) (zz_goto (pc := 6) xf_220_6 (zz_ireturn (pc := 10) xf_220_10 rfl (by decide +kernel) (by decide +kernel) (by unfold zmx; first | (rw [if_pos (by omega)]; exact ⟨rfl, rfl⟩) | (rw [if_neg (by omega)]; exact ⟨rfl, rfl⟩))))))))
theorem sp_maxJ {xs : List Int32} {d : Nat} {w : Bool} {M : zM} {x y : Int} (hx : zr64 x) (hy : zr64 y) : xrun2 xs (d + 1) 221 [.long (Int64.ofInt x), .long (Int64.ofInt y)] (w, zheap M) = some (.inl (some (.long (Int64.ofInt (zmx x y)))), (w, zheap M)) := by
  exact zrun_v (N := 6) (by decide) rfl (zz_lload_n (pc := 0) xf_221_0 (zmem 0 rfl) (zz_lload_n (pc := 1) xf_221_1 (zmem 1 rfl) (zz_lcmp (pc := 2) xf_221_2 xf_221_3 hx hy (fun (zc1 : x < y) => zz_lload_n (pc := 10) xf_221_10 (zmem 1 rfl) (zz_lreturn (pc := 11) xf_221_11 rfl (by decide +kernel) (by decide +kernel) (by unfold zmx; first | (rw [if_pos (by omega)]; exact ⟨rfl, rfl⟩) | (rw [if_neg (by omega)]; exact ⟨rfl, rfl⟩)))) (fun (zc2 : ¬ (x < y)) => zz_lload_n (pc := 6) xf_221_6 (zmem 0 rfl) (zz_goto (pc := 7) xf_221_7 (zz_lreturn (pc := 11) xf_221_11 rfl (by decide +kernel) (by decide +kernel) (by unfold zmx; first | (rw [if_pos (by omega)]; exact ⟨rfl, rfl⟩) | (rw [if_neg (by omega)]; exact ⟨rfl, rfl⟩))))))))
def zmi (x y : Int) : Int := if x ≤ y then x else y
theorem sp_minI {xs : List Int32} {d : Nat} {w : Bool} {M : zM} {x y : Int} (hx : zr32 x) (hy : zr32 y) : xrun2 xs (d + 1) 222 [.int (Int32.ofInt x), .int (Int32.ofInt y)] (w, zheap M) = some (.inl (some (.int (Int32.ofInt (zmi x y)))), (w, zheap M)) := by
  exact zrun_v (N := 5) (by decide) rfl (zz_iload_n (pc := 0) xf_222_0 (zmem 0 rfl) (zz_iload_n (pc := 1) xf_222_1 (zmem 1 rfl) (zz_icmp (pc := 2) xf_222_2 hx hy (fun (zc1 : y < x) => zz_iload_n (pc := 9) xf_222_9 (zmem 1 rfl) (zz_ireturn (pc := 10) xf_222_10 rfl (by decide +kernel) (by decide +kernel) (by unfold zmi; first | (rw [if_pos (by omega)]; exact ⟨rfl, rfl⟩) | (rw [if_neg (by omega)]; exact ⟨rfl, rfl⟩)))) (fun (zc2 : ¬ (y < x)) => zz_iload_n (pc := 5) xf_222_5 (zmem 0 rfl) (zz_goto (pc := 6) xf_222_6 (zz_ireturn (pc := 10) xf_222_10 rfl (by decide +kernel) (by decide +kernel) (by unfold zmi; first | (rw [if_pos (by omega)]; exact ⟨rfl, rfl⟩) | (rw [if_neg (by omega)]; exact ⟨rfl, rfl⟩))))))))
/-- how many steps; the trail's ranges -/
def ztot (M : zM) (a : Nat) : Int := M (a + 8) 1 + M (a + 8) 2
def zTr (M : zM) (a : Nat) : Prop := (-1 ≤ M (a + 8) 0 ∧ M (a + 8) 0 ≤ 35) ∧ (0 ≤ M (a + 8) 1 ∧ M (a + 8) 1 ≤ 1000000) ∧ (0 ≤ M (a + 8) 2 ∧ M (a + 8) 2 ≤ 1000000) ∧ (∀ j : Nat, j < 8 → 0 ≤ M (a + 9) j ∧ M (a + 9) j ≤ 13) ∧ (∀ j : Nat, j < 288 → 0 ≤ M (a + 10) j ∧ M (a + 10) j ≤ 100)
theorem sp_total {xs : List Int32} {d : Nat} {w : Bool} {M : zM} {a : Nat} (ha : zSt a) : xrun2 xs (d + 1) 58 [.ref (a + 8)] (w, zheap M) = some (.inl (some (.int (Int32.ofInt (ztot M a)))), (w, zheap M)) := by
  exact zrun_v (N := 5) (by decide) rfl (zz_aload_n (pc := 0) xf_58_0 (zmem 0 rfl) (zz_getI (pc := 1) xf_58_1 (zst_8 ha) (by decide +kernel) rfl (zz_aload_n (pc := 4) xf_58_4 (zmem 0 rfl) (zz_getI (pc := 5) xf_58_5 (zst_8 ha) (by decide +kernel) rfl (zz_iadd (pc := 8) xf_58_8 (zz_ireturn (pc := 9) xf_58_9 rfl (by decide +kernel) (by decide +kernel) (by exact ⟨rfl, rfl⟩)))))))
def zclM (M : zM) (a : Nat) (c : Int) : zM := zup (zup (zup M (a + 8) 0 c) (a + 8) 1 0) (a + 8) 2 0
theorem sp_clear {xs : List Int32} {d : Nat} {w : Bool} {M : zM} {a : Nat} (ha : zSt a) {c : Int} : xrun2 xs (d + 1) 59 [.ref (a + 8), .int (Int32.ofInt c)] (w, zheap M) = some (.inl none, (w, zheap (zclM M a c))) := by
  exact zrun_v (N := 9) (by decide) rfl (zz_aload_n (pc := 0) xf_59_0 (zmem 0 rfl) (zz_iload_n (pc := 1) xf_59_1 (zmem 1 rfl) (zz_putI (pc := 2) xf_59_2 (zst_8 ha) (by decide +kernel) rfl (by decide +kernel) (zm_as (fun zM1 (ezM1 : zM1 = zup M (a + 8) 0 c) => zz_aload_n (pc := 5) xf_59_5 (zmem 0 rfl) (zz_iconst (pc := 6) xf_59_6 (zz_putI (pc := 7) xf_59_7 (zst_8 ha) (by decide +kernel) rfl (by decide +kernel) (zm_as (fun zM2 (ezM2 : zM2 = zup zM1 (a + 8) 1 (0)) => zz_aload_n (pc := 10) xf_59_10 (zmem 0 rfl) (zz_iconst (pc := 11) xf_59_11 (zz_putI (pc := 12) xf_59_12 (zst_8 ha) (by decide +kernel) rfl (by decide +kernel) (zm_as (fun zM3 (ezM3 : zM3 = zup zM2 (a + 8) 2 (0)) => zz_return (pc := 15) xf_59_15 rfl (by decide +kernel) (by decide +kernel) (by subst_vars; exact ⟨rfl, rfl⟩))))))))))))))
def zamX (M : zM) (a : Nat) (e : Int) : zM := zcp (zup M (a + 9) (ztot M a).toNat e) (a + 6) (a + 10) (0 : Int).toNat (ztot M a * 36).toNat (4 : Int).toNat
def zin1 (M : zM) (a j : Nat) : zM := zup M (a + 8) j (M (a + 8) j + 1)
def zamM (M : zM) (a : Nat) (e : Int) : zM := if ztot M a < 8 then zin1 (zamX M a e) a 1 else zin1 M a 1
theorem sp_addMove {xs : List Int32} {d : Nat} {w : Bool} {M : zM} {a : Nat} (ha : zSt a) {e : Int} (hr : zTr M a) : xrun2 xs (d + 2) 60 [.ref (a + 8), .int (Int32.ofInt e), .ref (a + 5)] (w, zheap M) = some (.inl none, (w, zheap (zamM M a e))) := by
  obtain ⟨⟨r1, r2⟩, ⟨r3, r4⟩, ⟨r5, r6⟩, r7, r8⟩ := id hr
  have htt : ztot M a = M (a + 8) 1 + M (a + 8) 2 := rfl
  exact zrun_v (N := 27) (by decide) rfl (zz_aload_n (pc := 0) xf_60_0 (zmem 0 rfl) (zz_call_v (pc := 1) (cu := 0) (su := 0) (fun ls hr => zz_calV xf_60_1 rfl (zst_8 ha) ls hr) rfl (sp_total (d := d) ha) (zz_istore_n (pc := 4) xf_60_4 (by decide +kernel) (zG_ro (ρ' := [(3, .int (Int32.ofInt (ztot M a))), (0, .ref (a + 8)), (1, .int (Int32.ofInt e)), (2, .ref (a + 5))]) rfl (zz_iload_n (pc := 5) xf_60_5 (zmem 0 rfl) (zz_bipush (pc := 6) (x := 8) xf_60_6 (by decide +kernel) (zz_icmp (pc := 8) xf_60_8 (by unfold zr32; omega) ⟨by decide, by decide⟩ (fun (zc1 : ¬ ((ztot M a) < (8))) => zz_aload_n (pc := 35) xf_60_35 (zmem 1 rfl) (zz_dup_r (pc := 36) xf_60_36 (zz_getI (pc := 37) xf_60_37 (zst_8 ha) (by decide +kernel) rfl (zz_iconst (pc := 40) xf_60_40 (zz_iadd (pc := 41) xf_60_41 (zz_putI (pc := 42) xf_60_42 (zst_8 ha) (by decide +kernel) rfl (by decide +kernel) (zm_as (fun zM3 (ezM3 : zM3 = zup M (a + 8) 1 ((M (a + 8) 1) + (1))) => zz_return (pc := 45) xf_60_45 rfl (by decide +kernel) (by decide +kernel) (by subst_vars; unfold zamM; first | (rw [if_pos (by omega)]; exact ⟨rfl, rfl⟩) | (rw [if_neg (by omega)]; exact ⟨rfl, rfl⟩)))))))))) (fun zc20 => have zc2 : (ztot M a) < (8) := Classical.not_not.mp zc20; zz_aload_n (pc := 11) xf_60_11 (zmem 1 rfl) (zz_getR (pc := 12) xf_60_12 (zst_8 ha) (by decide +kernel) rfl (zz_iload_n (pc := 15) xf_60_15 (zmem 0 rfl) (zz_iload_n (pc := 16) xf_60_16 (zmem 2 rfl) (zz_iast (pc := 17) xf_60_17 (zst_9 ha) (by omega) (zm_as (fun zM4 (ezM4 : zM4 = zup M (a + 9) (ztot M a).toNat e) => zz_aload_n (pc := 18) xf_60_18 (zmem 3 rfl) (zz_getR (pc := 19) xf_60_19 (zst_5 ha) (by decide +kernel) rfl (zz_iconst (pc := 22) xf_60_22 (zz_aload_n (pc := 23) xf_60_23 (zmem 1 rfl) (zz_getR (pc := 24) xf_60_24 (zst_8 ha) (by decide +kernel) rfl (zz_iload_n (pc := 27) xf_60_27 (zmem 0 rfl) (zz_bipush (pc := 28) (x := 36) xf_60_28 (by decide +kernel) (zz_imul (pc := 30) xf_60_30 (zz_iconst (pc := 31) xf_60_31 (zz_acpy (pc := 32) xf_60_32 (by decide +kernel) rfl (zst_6 ha) (zst_10 ha) (Or.inl ⟨rfl, rfl⟩) (by decide +kernel) (by decide) (by omega) (by decide) (by omega) (by omega) (zm_as (fun zM5 (ezM5 : zM5 = zcp zM4 (a + 6) (a + 10) 0 ((ztot M a) * (36)).toNat 4) => zz_aload_n (pc := 35) xf_60_35 (zmem 1 rfl) (zz_dup_r (pc := 36) xf_60_36 (zz_getI (pc := 37) xf_60_37 (zst_8 ha) (by decide +kernel) rfl (zz_iconst (pc := 40) xf_60_40 (zz_iadd (pc := 41) xf_60_41 (zz_putI (pc := 42) xf_60_42 (zst_8 ha) (by decide +kernel) rfl (by decide +kernel) (zm_as (fun zM6 (ezM6 : zM6 = zup zM5 (a + 8) 1 ((zM5 (a + 8) 1) + (1))) => zz_return (pc := 45) xf_60_45 rfl (by decide +kernel) (by decide +kernel) (by subst_vars; unfold zamM; first | (rw [if_pos (by omega)]; exact ⟨rfl, rfl⟩) | (rw [if_neg (by omega)]; exact ⟨rfl, rfl⟩))))))))))))))))))))))))))))))))))
theorem sp_isMove {xs : List Int32} {d : Nat} {w : Bool} {M : zM} {a : Nat} (ha : zSt a) {i : Int} (hi : 0 ≤ i ∧ i < 8) (hr : zTr M a) : xrun2 xs (d + 1) 62 [.ref (a + 8), .int (Int32.ofInt i)] (w, zheap M) = some (.inl (some (.int (Int32.ofInt (zb (M (a + 9) i.toNat < 10))))), (w, zheap M)) := by
  obtain ⟨⟨r1, r2⟩, ⟨r3, r4⟩, ⟨r5, r6⟩, r7, r8⟩ := id hr
  have htt : ztot M a = M (a + 8) 1 + M (a + 8) 2 := rfl
  have r9 := r7 i.toNat (by omega)
  exact zrun_v (N := 8) (by decide) rfl (zz_aload_n (pc := 0) xf_62_0 (zmem 0 rfl) (zz_getR (pc := 1) xf_62_1 (zst_8 ha) (by decide +kernel) rfl (zz_iload_n (pc := 4) xf_62_4 (zmem 1 rfl) (zz_iald (pc := 5) xf_62_5 (zst_9 ha) (by omega) (zz_bipush (pc := 6) (x := 10) xf_62_6 (by decide +kernel) (zz_icmp (pc := 8) xf_62_8 (by unfold zr32; omega) ⟨by decide, by decide⟩ (fun (zc1 : ¬ ((M (a + 9) i.toNat) < (10))) => zz_iconst (pc := 15) xf_62_15 (zz_zreturn (pc := 16) xf_62_16 rfl (by decide +kernel) (by decide +kernel) (by decide) (by first | exact ⟨zq_i (zb_f (by omega)).symm, rfl⟩ | exact ⟨zq_i (zb_t (by omega)).symm, rfl⟩))) (fun zc20 => have zc2 : (M (a + 9) i.toNat) < (10) := Classical.not_not.mp zc20; zz_iconst (pc := 11) xf_62_11 (zz_goto (pc := 12) xf_62_12 (zz_zreturn (pc := 16) xf_62_16 rfl (by decide +kernel) (by decide +kernel) (by decide) (by first | exact ⟨zq_i (zb_f (by omega)).symm, rfl⟩ | exact ⟨zq_i (zb_t (by omega)).symm, rfl⟩))))))))))
theorem sp_number {xs : List Int32} {d : Nat} {w : Bool} {M : zM} {a : Nat} (ha : zSt a) {i c : Int} (hi : 0 ≤ i ∧ i < 8) (hc : 0 ≤ c ∧ c < 36) : xrun2 xs (d + 1) 63 [.ref (a + 8), .int (Int32.ofInt i), .int (Int32.ofInt c)] (w, zheap M) = some (.inl (some (.int (Int32.ofInt (M (a + 10) (i * 36 + c).toNat)))), (w, zheap M)) := by
  exact zrun_v (N := 8) (by decide) rfl (zz_aload_n (pc := 0) xf_63_0 (zmem 0 rfl) (zz_getR (pc := 1) xf_63_1 (zst_8 ha) (by decide +kernel) rfl (zz_iload_n (pc := 4) xf_63_4 (zmem 1 rfl) (zz_bipush (pc := 5) (x := 36) xf_63_5 (by decide +kernel) (zz_imul (pc := 7) xf_63_7 (zz_iload_n (pc := 8) xf_63_8 (zmem 2 rfl) (zz_iadd (pc := 9) xf_63_9 (zz_iald (pc := 10) xf_63_10 (zst_10 ha) (by omega) (zz_ireturn (pc := 11) xf_63_11 rfl (by decide +kernel) (by decide +kernel) (by exact ⟨rfl, rfl⟩))))))))))
/-- a part of a row that is filled -/
def ztao (M : zM) (q o n : Nat) (F : zF) : zM := fun q' j => if q' = q ∧ o ≤ j ∧ j < o + n then F (j - o) else M q' j
theorem ztao_0 {M : zM} {q o : Nat} {F : zF} : ztao M q o 0 F = M := by
  funext q' j
  unfold ztao
  rw [if_neg (fun h => by have := h.2; omega)]
theorem ztao_s {M : zM} {q o n j : Nat} {F : zF} {x : Int} (hj : j = o + n) (h : x = F n) : zup (ztao M q o n F) q j x = ztao M q o (n + 1) F := by
  subst hj
  funext q' j
  unfold zup ztao
  by_cases h1 : q' = q ∧ j = o + n
  · rw [if_pos h1, if_pos ⟨h1.1, by omega⟩, h, h1.2, Nat.add_sub_cancel_left]
  · rw [if_neg h1]
    by_cases h2 : q' = q ∧ o ≤ j ∧ j < o + n
    · rw [if_pos h2, if_pos ⟨h2.1, by omega⟩]
    · rw [if_neg h2, if_neg (fun h3 => h2 ⟨h3.1, by have := h3.2; have : ¬ j = o + n := fun e => h1 ⟨h3.1, e⟩; omega⟩)]
theorem ztao_o {M : zM} {q o n q' j : Nat} {F : zF} (h : ¬ q' = q) : ztao M q o n F q' j = M q' j := if_neg (fun e => h e.1)
theorem ztao_or {M : zM} {q o n q' : Nat} {F : zF} (h : ¬ q' = q) : ztao M q o n F q' = M q' := by
  funext j
  exact ztao_o h
theorem ztao_i {M : zM} {q o n j : Nat} {F : zF} (h : j < n) : ztao M q o n F q (o + j) = F j := by
  unfold ztao
  rw [if_pos ⟨rfl, by omega⟩, Nat.add_sub_cancel_left]
theorem ztao_g {M : zM} {q o n j : Nat} {F : zF} (h : j < o ∨ o + n ≤ j) : ztao M q o n F q j = M q j := if_neg (fun e => by have := e.2; omega)
theorem zup_or {M : zM} {q j q' : Nat} {x : Int} (h : ¬ q' = q) : zup M q j x q' = M q' := by
  funext i
  exact zup_o (fun e => h e.1)
/-- the numbers of a seen mark -/
noncomputable def zasF (M : zM) (a : Nat) (k : Int) : zF := fun c => M (a + 7) (zmark M a (c : Int) * 4 + k).toNat
noncomputable def zasX (M : zM) (a : Nat) (k : Int) (n : Nat) : zM := ztao (zup M (a + 9) (ztot M a).toNat (10 + k)) (a + 10) (ztot M a * 36).toNat n (zasF M a k)
noncomputable def zasM (M : zM) (a : Nat) (k : Int) : zM := if ztot M a < 8 then zin1 (zasX M a k (zsz M a).toNat) a 2 else zin1 M a 2
theorem zl_addSight_33 {xs : List Int32} {d : Nat} {w : Bool}  {a : Nat} (ha : zSt a) {k : Int} (hk : 0 ≤ k ∧ k < 4) {M0 : zM} (hr : zTr M0 a) (hg : zGr M0 a) (ht : zTb M0 a) (hlt : ztot M0 a < 8)  : ∀ (zn : Nat) (t s i : Int) (M : zM), (M = zasX M0 a k i.toNat) → (t = ztot M0 a) → (s = zsz M0 a) → (0 ≤ i ∧ i ≤ s) → s - i ≤ (zn : Int) → zG (xstep (xrun2 xs (d + 2)) xs 61) 61 (zn * 23 + 23) 33 [(0, .ref (a + 8)), (1, .int (Int32.ofInt k)), (2, .ref (a + 1)), (3, .ref (a + 5)), (4, .int (Int32.ofInt t)), (5, .int (Int32.ofInt s)), (6, .int (Int32.ofInt i))] [] 0 0 w M (fun o σ => o = (.inl none : XO) ∧ σ = (w, zheap (zasM M0 a k))) := by
  intro zn
  induction zn with
  | zero =>
    intro t s i M hM ht2 hs hi hm
    have ha1 := zSt_le ha
    have hX : ∀ q : Nat, q ≠ a + 9 → q ≠ a + 10 → M q = M0 q := fun q h1 h2 => by rw [hM]; unfold zasX; rw [ztao_or h2, zup_or h1]
    have hE : zE2 M M0 a := ⟨hX _ (by omega) (by omega), hX _ (by omega) (by omega)⟩
    obtain ⟨g6, g7⟩ := hg.sz
    have hz : zsz M0 a = M0 (a + 1) 0 * M0 (a + 1) 1 := rfl
    have hmk := zmark_b (c := i) (zGr_c hE hg)
    have h0 : 0 ≤ t := by subst ht2; unfold zTr at hr; unfold ztot; omega
    exact zG_mono (N := 0 + 23) (by omega) (zz_iload (pc := 33) xf_61_33 (zmem 6 rfl) (zz_iload (pc := 35) xf_61_35 (zmem 5 rfl) (zz_icmp (pc := 37) xf_61_37 (by unfold zr32; omega) (by unfold zr32; omega) (fun (zc1 : ¬ (i < s)) => zz_aload_n (pc := 74) xf_61_74 (zmem 0 rfl) (zz_dup_r (pc := 75) xf_61_75 (zz_getI (pc := 76) xf_61_76 (zst_8 ha) (by decide +kernel) rfl (zz_iconst (pc := 79) xf_61_79 (zz_iadd (pc := 80) xf_61_80 (zz_putI (pc := 81) xf_61_81 (zst_8 ha) (by decide +kernel) rfl (by decide +kernel) (zm_as (fun zM3 (ezM3 : zM3 = zup M (a + 8) 2 ((M (a + 8) 2) + (1))) => zz_return (pc := 84) xf_61_84 rfl (by decide +kernel) (by decide +kernel) (by refine ⟨rfl, ?_⟩; unfold zasM; rw [if_pos hlt, show (zsz M0 a).toNat = i.toNat by omega, ← hM]; subst_vars; rfl))))))))) (fun zc20 => have zc2 : i < s := Classical.not_not.mp zc20; zz_aload_n (pc := 40) xf_61_40 (zmem 0 rfl) (zz_getR (pc := 41) xf_61_41 (zst_8 ha) (by decide +kernel) rfl (zz_iload (pc := 44) xf_61_44 (zmem 4 rfl) (zz_bipush (pc := 46) (x := 36) xf_61_46 (by decide +kernel) (zz_imul (pc := 48) xf_61_48 (zz_iload (pc := 49) xf_61_49 (zmem 6 rfl) (zz_iadd (pc := 51) xf_61_51 (zz_aload_n (pc := 52) xf_61_52 (zmem 3 rfl) (zz_getR (pc := 53) xf_61_53 (zst_5 ha) (by decide +kernel) rfl (zz_aload_n (pc := 56) xf_61_56 (zmem 2 rfl) (zz_iload (pc := 57) xf_61_57 (zmem 6 rfl) (zz_call_v (pc := 59) (cu := 0) (su := 0) (fun ls hr => zz_calV xf_61_59 rfl (zst_1 ha) ls hr) rfl (sp_markOf (d := d) ha (by unfold zr32; omega) (zGr_c hE hg)) (zz_iconst (pc := 62) xf_61_62 (zz_imul (pc := 63) xf_61_63 (zz_iload_n (pc := 64) xf_61_64 (zmem 1 rfl) (zz_iadd (pc := 65) xf_61_65 (zz_iald (pc := 66) xf_61_66 (zst_7 ha) (by omega) (zz_iast (pc := 67) xf_61_67 (zst_10 ha) (by omega) (zm_as (fun zM4 (ezM4 : zM4 = zup M (a + 10) ((t * (36)) + i).toNat (M (a + 7) (((zmark M a i) * (4)) + k).toNat)) => zz_iinc (pc := 68) xf_61_68 (zmem 6 rfl) (by decide +kernel) (zG_ro (ρ' := [(6, .int (Int32.ofInt (i + 1))), (0, .ref (a + 8)), (1, .int (Int32.ofInt k)), (2, .ref (a + 1)), (3, .ref (a + 5)), (4, .int (Int32.ofInt t)), (5, .int (Int32.ofInt s))]) rfl (zz_goto (pc := 71) xf_61_71 ((by exfalso; omega)))))))))))))))))))))))))))
  | succ zn ih =>
    intro t s i M hM ht2 hs hi hm
    have ha1 := zSt_le ha
    have hX : ∀ q : Nat, q ≠ a + 9 → q ≠ a + 10 → M q = M0 q := fun q h1 h2 => by rw [hM]; unfold zasX; rw [ztao_or h2, zup_or h1]
    have hE : zE2 M M0 a := ⟨hX _ (by omega) (by omega), hX _ (by omega) (by omega)⟩
    obtain ⟨g6, g7⟩ := hg.sz
    have hz : zsz M0 a = M0 (a + 1) 0 * M0 (a + 1) 1 := rfl
    have hmk := zmark_b (c := i) (zGr_c hE hg)
    have h0 : 0 ≤ t := by subst ht2; unfold zTr at hr; unfold ztot; omega
    exact zG_mono (N := zn * 23 + 23 + 0 + 23) (by omega) (zz_iload (pc := 33) xf_61_33 (zmem 6 rfl) (zz_iload (pc := 35) xf_61_35 (zmem 5 rfl) (zz_icmp (pc := 37) xf_61_37 (by unfold zr32; omega) (by unfold zr32; omega) (fun (zc1 : ¬ (i < s)) => zz_aload_n (pc := 74) xf_61_74 (zmem 0 rfl) (zz_dup_r (pc := 75) xf_61_75 (zz_getI (pc := 76) xf_61_76 (zst_8 ha) (by decide +kernel) rfl (zz_iconst (pc := 79) xf_61_79 (zz_iadd (pc := 80) xf_61_80 (zz_putI (pc := 81) xf_61_81 (zst_8 ha) (by decide +kernel) rfl (by decide +kernel) (zm_as (fun zM3 (ezM3 : zM3 = zup M (a + 8) 2 ((M (a + 8) 2) + (1))) => zz_return (pc := 84) xf_61_84 rfl (by decide +kernel) (by decide +kernel) (by refine ⟨rfl, ?_⟩; unfold zasM; rw [if_pos hlt, show (zsz M0 a).toNat = i.toNat by omega, ← hM]; subst_vars; rfl))))))))) (fun zc20 => have zc2 : i < s := Classical.not_not.mp zc20; zz_aload_n (pc := 40) xf_61_40 (zmem 0 rfl) (zz_getR (pc := 41) xf_61_41 (zst_8 ha) (by decide +kernel) rfl (zz_iload (pc := 44) xf_61_44 (zmem 4 rfl) (zz_bipush (pc := 46) (x := 36) xf_61_46 (by decide +kernel) (zz_imul (pc := 48) xf_61_48 (zz_iload (pc := 49) xf_61_49 (zmem 6 rfl) (zz_iadd (pc := 51) xf_61_51 (zz_aload_n (pc := 52) xf_61_52 (zmem 3 rfl) (zz_getR (pc := 53) xf_61_53 (zst_5 ha) (by decide +kernel) rfl (zz_aload_n (pc := 56) xf_61_56 (zmem 2 rfl) (zz_iload (pc := 57) xf_61_57 (zmem 6 rfl) (zz_call_v (pc := 59) (cu := 0) (su := 0) (fun ls hr => zz_calV xf_61_59 rfl (zst_1 ha) ls hr) rfl (sp_markOf (d := d) ha (by unfold zr32; omega) (zGr_c hE hg)) (zz_iconst (pc := 62) xf_61_62 (zz_imul (pc := 63) xf_61_63 (zz_iload_n (pc := 64) xf_61_64 (zmem 1 rfl) (zz_iadd (pc := 65) xf_61_65 (zz_iald (pc := 66) xf_61_66 (zst_7 ha) (by omega) (zz_iast (pc := 67) xf_61_67 (zst_10 ha) (by omega) (zm_as (fun zM4 (ezM4 : zM4 = zup M (a + 10) ((t * (36)) + i).toNat (M (a + 7) (((zmark M a i) * (4)) + k).toNat)) => zz_iinc (pc := 68) xf_61_68 (zmem 6 rfl) (by decide +kernel) (zG_ro (ρ' := [(6, .int (Int32.ofInt (i + 1))), (0, .ref (a + 8)), (1, .int (Int32.ofInt k)), (2, .ref (a + 1)), (3, .ref (a + 5)), (4, .int (Int32.ofInt t)), (5, .int (Int32.ofInt s))]) rfl (zz_goto (pc := 71) xf_61_71 (zG_mono (N := zn * 23 + 23) (by omega) (zG_sub (List.forall_mem_cons.mpr ⟨zmem 1 rfl, (List.forall_mem_cons.mpr ⟨zmem 2 rfl, (List.forall_mem_cons.mpr ⟨zmem 3 rfl, (List.forall_mem_cons.mpr ⟨zmem 4 rfl, (List.forall_mem_cons.mpr ⟨zmem 5 rfl, (List.forall_mem_cons.mpr ⟨zmem 6 rfl, (List.forall_mem_cons.mpr ⟨zmem 0 rfl, (fun p hp => absurd hp List.not_mem_nil)⟩)⟩)⟩)⟩)⟩)⟩)⟩) (ih t s (i + 1) zM4  (by have hx : ∀ x, x = zasF M0 a k i.toNat → zup M (a + 10) (t * 36 + i).toNat x = zasX M0 a k (i + 1).toNat := fun x hx => (by rw [hM]; unfold zasX; rw [← ht2, show (i + 1).toNat = i.toNat + 1 by omega]; exact ztao_s (by omega) hx); rw [ezM4]; exact hx _ (by unfold zasF; rw [hX _ (by omega) (by omega), zmark_c hE, Int.toNat_of_nonneg hi.1])) ht2 hs (by omega) (by omega)))))))))))))))))))))))))))))
theorem sp_addSight {xs : List Int32} {d : Nat} {w : Bool} {M : zM} {a : Nat} (ha : zSt a) {k : Int} (hk : 0 ≤ k ∧ k < 4) (hr : zTr M a) (hg : zGr M a) (ht : zTb M a) : xrun2 xs (d + 3) 61 [.ref (a + 8), .int (Int32.ofInt k), .ref (a + 1), .ref (a + 5)] (w, zheap M) = some (.inl none, (w, zheap (zasM M a k))) := by
  obtain ⟨⟨r1, r2⟩, ⟨r3, r4⟩, ⟨r5, r6⟩, r7, r8⟩ := id hr
  have htt : ztot M a = M (a + 8) 1 + M (a + 8) 2 := rfl
  obtain ⟨⟨g1, g2⟩, ⟨g3, g4⟩, g5⟩ := id hg
  obtain ⟨g6, g7⟩ := hg.sz
  have hz : zsz M a = M (a + 1) 0 * M (a + 1) 1 := rfl
  have hz2 : zsz (zup M (a + 9) (ztot M a).toNat (10 + k)) a = zsz M a := by unfold zsz; rw [zup_or (by omega)]
  exact zrun_v (N := 869) (by decide) rfl (zz_aload_n (pc := 0) xf_61_0 (zmem 0 rfl) (zz_call_v (pc := 1) (cu := 0) (su := 0) (fun ls hr => zz_calV xf_61_1 rfl (zst_8 ha) ls hr) rfl (sp_total (d := d + 1) ha) (zz_istore (pc := 4) xf_61_4 (by decide +kernel) (zG_ro (ρ' := [(4, .int (Int32.ofInt (ztot M a))), (0, .ref (a + 8)), (1, .int (Int32.ofInt k)), (2, .ref (a + 1)), (3, .ref (a + 5))]) rfl (zz_iload (pc := 6) xf_61_6 (zmem 0 rfl) (zz_bipush (pc := 8) (x := 8) xf_61_8 (by decide +kernel) (zz_icmp (pc := 10) xf_61_10 (by unfold zr32; omega) ⟨by decide, by decide⟩ (fun (zc1 : ¬ ((ztot M a) < (8))) => zz_aload_n (pc := 74) xf_61_74 (zmem 1 rfl) (zz_dup_r (pc := 75) xf_61_75 (zz_getI (pc := 76) xf_61_76 (zst_8 ha) (by decide +kernel) rfl (zz_iconst (pc := 79) xf_61_79 (zz_iadd (pc := 80) xf_61_80 (zz_putI (pc := 81) xf_61_81 (zst_8 ha) (by decide +kernel) rfl (by decide +kernel) (zm_as (fun zM3 (ezM3 : zM3 = zup M (a + 8) 2 ((M (a + 8) 2) + (1))) => zz_return (pc := 84) xf_61_84 rfl (by decide +kernel) (by decide +kernel) (by subst_vars; unfold zasM; rw [if_neg (by omega)]; exact ⟨rfl, rfl⟩))))))))) (fun zc20 => have zc2 : (ztot M a) < (8) := Classical.not_not.mp zc20; zz_aload_n (pc := 13) xf_61_13 (zmem 1 rfl) (zz_getR (pc := 14) xf_61_14 (zst_8 ha) (by decide +kernel) rfl (zz_iload (pc := 17) xf_61_17 (zmem 0 rfl) (zz_bipush (pc := 19) (x := 10) xf_61_19 (by decide +kernel) (zz_iload_n (pc := 21) xf_61_21 (zmem 2 rfl) (zz_iadd (pc := 22) xf_61_22 (zz_iast (pc := 23) xf_61_23 (zst_9 ha) (by omega) (zm_as (fun zM4 (ezM4 : zM4 = zup M (a + 9) (ztot M a).toNat ((10) + k)) => zz_aload_n (pc := 24) xf_61_24 (zmem 3 rfl) (zz_call_v (pc := 25) (cu := 0) (su := 0) (fun ls hr => zz_calV xf_61_25 rfl (zst_1 ha) ls hr) rfl (sp_size (d := d + 1) ha) (zz_istore (pc := 28) xf_61_28 (by decide +kernel) (zG_ro (ρ' := [(5, .int (Int32.ofInt (zsz zM4 a))), (4, .int (Int32.ofInt (ztot M a))), (0, .ref (a + 8)), (1, .int (Int32.ofInt k)), (2, .ref (a + 1)), (3, .ref (a + 5))]) rfl (zz_iconst (pc := 30) xf_61_30 (zz_istore (pc := 31) xf_61_31 (by decide +kernel) (zG_ro (ρ' := [(6, .int (Int32.ofInt (0))), (5, .int (Int32.ofInt (zsz zM4 a))), (4, .int (Int32.ofInt (ztot M a))), (0, .ref (a + 8)), (1, .int (Int32.ofInt k)), (2, .ref (a + 1)), (3, .ref (a + 5))]) rfl (zG_mono (N := 851) (by omega) (zG_sub (List.forall_mem_cons.mpr ⟨zmem 3 rfl, (List.forall_mem_cons.mpr ⟨zmem 4 rfl, (List.forall_mem_cons.mpr ⟨zmem 5 rfl, (List.forall_mem_cons.mpr ⟨zmem 6 rfl, (List.forall_mem_cons.mpr ⟨zmem 2 rfl, (List.forall_mem_cons.mpr ⟨zmem 1 rfl, (List.forall_mem_cons.mpr ⟨zmem 0 rfl, (fun p hp => absurd hp List.not_mem_nil)⟩)⟩)⟩)⟩)⟩)⟩)⟩) (zl_addSight_33 (M0 := M) ha hk hr hg ht (by omega) 36 _ _ _ _ (by unfold zasX; subst_vars; exact ztao_0.symm) rfl (by subst_vars; exact hz2) (by subst_vars; omega) (by subst_vars; omega))))))))))))))))))))))))))
end
