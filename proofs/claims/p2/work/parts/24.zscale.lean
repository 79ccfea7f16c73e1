/-! Rows; how weights are scaled. -/
abbrev zF : Type := Nat → Int
def zrup (F : zF) (j : Nat) (x : Int) : zF := fun i => if i = j then x else F i
/-- the place of the greatest of the first n + 1, of several the first -/
def zbestf (F : zF) : Nat → Nat
  | 0 => 0
  | n + 1 => if F (zbestf F n) < F (n + 1) then n + 1 else zbestf F n
theorem zbestf_le (F : zF) : ∀ n, zbestf F n ≤ n
  | 0 => Nat.le_refl 0
  | n + 1 => by
    have h := zbestf_le F n
    unfold zbestf
    split <;> omega
def zbest (F : zF) (n : Nat) : Nat := zbestf F (n - 1)
theorem zbest_lt (F : zF) {n : Nat} (h : 0 < n) : zbest F n < n := by
  have := zbestf_le F (n - 1)
  unfold zbest
  omega
theorem zbestf_i {F : zF} {i : Int} (h : 1 ≤ i) : zbestf F i.toNat = if F (zbestf F (i - 1).toNat) < F i.toNat then i.toNat else zbestf F (i - 1).toNat := by
  rw [show i.toNat = (i - 1).toNat + 1 by omega]
  rfl
/-- so many more are given to the greatest rests -/
def zadd (n : Nat) : Nat → zF × zF → zF × zF
  | 0, p => p
  | k + 1, p => zadd n k (zrup p.1 (zbest p.2 n) (p.1 (zbest p.2 n) + 1), zrup p.2 (zbest p.2 n) (-1))
/-- a weight's share, and what is left -/
def zshare (W : zF) (n : Nat) : zF := fun j => W j * 1000000 / zsum W n
def zleft (W : zF) (n : Nat) : zF := fun j => W j * 1000000 % zsum W n
/-- how many are still to be given -/
def zlack (W : zF) (n : Nat) : Nat := (1000000 - zsum (zshare W n) n).toNat
def zscale (W : zF) (n : Nat) : zF := (zadd n (zlack W n) (zshare W n, zleft W n)).1
theorem zsum_mul (F : zF) (c : Int) : ∀ n, zsum (fun j => F j * c) n = zsum F n * c
  | 0 => (Int.zero_mul c).symm
  | n + 1 => by
    show zsum (fun j => F j * c) n + F n * c = (zsum F n + F n) * c
    rw [zsum_mul F c n, Int.add_mul]
theorem zsum_add (F K : zF) : ∀ n, zsum (fun j => F j + K j) n = zsum F n + zsum K n
  | 0 => rfl
  | n + 1 => by
    show zsum (fun j => F j + K j) n + (F n + K n) = zsum F n + F n + (zsum K n + K n)
    rw [zsum_add F K n]
    omega
theorem zsum_c {F K : zF} : ∀ n, (∀ j, j < n → F j = K j) → zsum F n = zsum K n
  | 0, _ => rfl
  | n + 1, h => by
    show zsum F n + F n = zsum K n + K n
    rw [zsum_c n (fun j hj => h j (by omega)), h n (by omega)]
theorem zsum_nn {F : zF} : ∀ n, (∀ j, j < n → 0 ≤ F j) → 0 ≤ zsum F n
  | 0, _ => Int.le_refl 0
  | n + 1, h => by
    have h1 := zsum_nn n (fun j hj => h j (by omega))
    have h2 := h n (by omega)
    show 0 ≤ zsum F n + F n
    omega
theorem zsum_ge {F : zF} : ∀ n, (∀ j, j < n → 0 ≤ F j) → ∀ j, j < n → F j ≤ zsum F n
  | 0, _, j, hj => absurd hj (Nat.not_lt_zero j)
  | n + 1, h, j, hj => by
    have h1 := zsum_nn n (fun j hj => h j (by omega))
    have h2 := h n (by omega)
    show F j ≤ zsum F n + F n
    by_cases e : j = n
    · subst e; omega
    · have := zsum_ge n (fun j hj => h j (by omega)) j (by omega)
      omega
/-- the shares' sum: at most a million, less than n below it -/
theorem zshare_sum {W : zF} {n : Nat} (hW : ∀ j, j < n → 0 ≤ W j) (hs : 0 < zsum W n) : zsum (zshare W n) n ≤ 1000000 ∧ 1000000 < zsum (zshare W n) n + n ∨ n = 0 := by
  by_cases hn : n = 0
  · exact Or.inr hn
  · refine Or.inl ?_
    have h1 : zsum (fun j => W j * 1000000) n = zsum W n * 1000000 := zsum_mul W 1000000 n
    have h2 : zsum (fun j => W j * 1000000) n = zsum (fun j => zshare W n j * zsum W n + zleft W n j) n := zsum_c n (fun j _ => by
      show W j * 1000000 = W j * 1000000 / zsum W n * zsum W n + W j * 1000000 % zsum W n
      have := Int.mul_ediv_add_emod (W j * 1000000) (zsum W n)
      have h := Int.mul_comm (zsum W n) (W j * 1000000 / zsum W n)
      omega)
    rw [h1, zsum_add, zsum_mul] at h2
    have h3 : 0 ≤ zsum (zleft W n) n := zsum_nn n (fun j _ => Int.emod_nonneg _ (by omega))
    have h4 : zsum (zleft W n) n ≤ (zsum W n - 1) * n := (zsum_b (l := 0) n (fun j _ => ⟨Int.emod_nonneg _ (by omega), by have := Int.emod_lt_of_pos (W j * 1000000) hs; show W j * 1000000 % zsum W n ≤ _; omega⟩)).2
    generalize zsum W n = S at *
    generalize zsum (zshare W n) n = T at *
    generalize zsum (zleft W n) n = U at *
    constructor
    · by_cases h : T ≤ 1000000
      · exact h
      · exfalso
        have h5 : (1000001 : Int) * S ≤ T * S := Int.mul_le_mul_of_nonneg_right (by omega) (by omega)
        omega
    · by_cases h : 1000000 < T + n
      · exact h
      · exfalso
        have h5 : (T + n) * S ≤ 1000000 * S := Int.mul_le_mul_of_nonneg_right (by omega) (by omega)
        rw [Int.add_mul] at h5
        have h6 : (S - 1) * (n : Int) = S * n - n := by rw [Int.sub_mul, Int.one_mul]
        have h7 : (n : Int) * S = S * n := Int.mul_comm _ _
        omega
theorem zl_greatestRemainder_4 {xs : List Int32} {d : Nat} {w : Bool} {M : zM} {n : Int} (hn : 1 ≤ n ∧ n ≤ 36) (hr : ∀ j : Nat, (j : Int) < n → zr64 (M 103 j))  : ∀ (zn : Nat) (b i : Int), (b = ((zbestf (M 103) (i - 1).toNat : Nat) : Int)) → (1 ≤ i ∧ i ≤ n) → n - i ≤ (zn : Int) → zG (xstep (xrun2 xs (d + 0)) xs 12) 12 (zn * 17 + 17) 4 [(0, .ref 101), (1, .int (Int32.ofInt n)), (2, .int (Int32.ofInt b)), (3, .int (Int32.ofInt i))] [] 0 0 w M (fun o σ => o = (.inl (some (.int (Int32.ofInt ((zbest (M 103) n.toNat : Nat) : Int)))) : XO) ∧ σ = (w, zheap M)) := by
  intro zn
  induction zn with
  | zero =>
    intro b i hb hi hm
    have hbl := zbestf_le (M 103) (i - 1).toNat
    exact zG_mono (N := 0 + 17) (by omega) (zz_iload_n (pc := 4) (show xcode 12 4 = some (.iload_n 3, 1, 0, 0) from by decide +kernel) (zmem 3 rfl) (zz_iload_n (pc := 5) (show xcode 12 5 = some (.iload_n 1, 1, 0, 0) from by decide +kernel) (zmem 1 rfl) (zz_icmp (pc := 6) (show xcode 12 6 = some (.if_icmp .ge 27, 3, 33, 0) from by decide +kernel) (by unfold zr32; omega) (by unfold zr32; omega) (fun (zc1 : ¬ (i < n)) => zz_iload_n (pc := 33) (show xcode 12 33 = some (.iload_n 2, 1, 0, 0) from by decide +kernel) (zmem 2 rfl) (zz_ireturn (pc := 34) (show xcode 12 34 = some (.ireturn, 1, 0, 0) from by decide +kernel) rfl (by decide +kernel) (by decide +kernel) (by exact ⟨zq_i (by rw [hb]; unfold zbest; rw [show (i - 1).toNat = n.toNat - 1 by omega]), rfl⟩))) (fun zc20 => have zc2 : i < n := Classical.not_not.mp zc20; zz_aload_n (pc := 9) (show xcode 12 9 = some (.aload_n 0, 1, 0, 0) from by decide +kernel) (zmem 0 rfl) (zz_getR (pc := 10) (show xcode 12 10 = some (.getfield 15, 3, 1, 1) from by decide +kernel) zis_101 (by decide +kernel) rfl (zz_iload_n (pc := 13) (show xcode 12 13 = some (.iload_n 3, 1, 0, 0) from by decide +kernel) (zmem 3 rfl) (zz_lald (pc := 14) (show xcode 12 14 = some (.laload, 1, 0, 0) from by decide +kernel) zis_103 (by omega) (zz_aload_n (pc := 15) (show xcode 12 15 = some (.aload_n 0, 1, 0, 0) from by decide +kernel) (zmem 0 rfl) (zz_getR (pc := 16) (show xcode 12 16 = some (.getfield 15, 3, 1, 1) from by decide +kernel) zis_101 (by decide +kernel) rfl (zz_iload_n (pc := 19) (show xcode 12 19 = some (.iload_n 2, 1, 0, 0) from by decide +kernel) (zmem 2 rfl) (zz_lald (pc := 20) (show xcode 12 20 = some (.laload, 1, 0, 0) from by decide +kernel) zis_103 (by omega) (zz_lcmp (pc := 21) (show xcode 12 21 = some (.lcmp, 1, 0, 0) from by decide +kernel) (show xcode 12 22 = some (.ifCond .le 5, 3, 27, 0) from by decide +kernel) (hr _ (by omega)) (hr _ (by omega)) (fun (zc3 : ¬ ((M 103 b.toNat) < (M 103 i.toNat))) => zz_iinc (pc := 27) (show xcode 12 27 = some (.iinc 3 1, 3, 0, 0) from by decide +kernel) (zmem 3 rfl) (by decide +kernel) (zG_ro (ρ' := [(3, .int (Int32.ofInt (i + 1))), (0, .ref 101), (1, .int (Int32.ofInt n)), (2, .int (Int32.ofInt b))]) rfl (zz_goto (pc := 30) (show xcode 12 30 = some (.goto (-26), 3, 4, 0) from by decide +kernel) ((by exfalso; omega))))) (fun zc40 => have zc4 : (M 103 b.toNat) < (M 103 i.toNat) := Classical.not_not.mp zc40; zz_iload_n (pc := 25) (show xcode 12 25 = some (.iload_n 3, 1, 0, 0) from by decide +kernel) (zmem 3 rfl) (zz_istore_n (pc := 26) (show xcode 12 26 = some (.istore_n 2, 1, 0, 0) from by decide +kernel) (by decide +kernel) (zG_ro (ρ' := [(2, .int (Int32.ofInt i)), (0, .ref 101), (1, .int (Int32.ofInt n)), (3, .int (Int32.ofInt i))]) rfl (zz_iinc (pc := 27) (show xcode 12 27 = some (.iinc 3 1, 3, 0, 0) from by decide +kernel) (zmem 3 rfl) (by decide +kernel) (zG_ro (ρ' := [(3, .int (Int32.ofInt (i + 1))), (2, .int (Int32.ofInt i)), (0, .ref 101), (1, .int (Int32.ofInt n))]) rfl (zz_goto (pc := 30) (show xcode 12 30 = some (.goto (-26), 3, 4, 0) from by decide +kernel) ((by exfalso; omega))))))))))))))))))))
  | succ zn ih =>
    intro b i hb hi hm
    have hbl := zbestf_le (M 103) (i - 1).toNat
    exact zG_mono (N := zn * 17 + 17 + 17) (by omega) (zz_iload_n (pc := 4) (show xcode 12 4 = some (.iload_n 3, 1, 0, 0) from by decide +kernel) (zmem 3 rfl) (zz_iload_n (pc := 5) (show xcode 12 5 = some (.iload_n 1, 1, 0, 0) from by decide +kernel) (zmem 1 rfl) (zz_icmp (pc := 6) (show xcode 12 6 = some (.if_icmp .ge 27, 3, 33, 0) from by decide +kernel) (by unfold zr32; omega) (by unfold zr32; omega) (fun (zc1 : ¬ (i < n)) => zz_iload_n (pc := 33) (show xcode 12 33 = some (.iload_n 2, 1, 0, 0) from by decide +kernel) (zmem 2 rfl) (zz_ireturn (pc := 34) (show xcode 12 34 = some (.ireturn, 1, 0, 0) from by decide +kernel) rfl (by decide +kernel) (by decide +kernel) (by exact ⟨zq_i (by rw [hb]; unfold zbest; rw [show (i - 1).toNat = n.toNat - 1 by omega]), rfl⟩))) (fun zc20 => have zc2 : i < n := Classical.not_not.mp zc20; zz_aload_n (pc := 9) (show xcode 12 9 = some (.aload_n 0, 1, 0, 0) from by decide +kernel) (zmem 0 rfl) (zz_getR (pc := 10) (show xcode 12 10 = some (.getfield 15, 3, 1, 1) from by decide +kernel) zis_101 (by decide +kernel) rfl (zz_iload_n (pc := 13) (show xcode 12 13 = some (.iload_n 3, 1, 0, 0) from by decide +kernel) (zmem 3 rfl) (zz_lald (pc := 14) (show xcode 12 14 = some (.laload, 1, 0, 0) from by decide +kernel) zis_103 (by omega) (zz_aload_n (pc := 15) (show xcode 12 15 = some (.aload_n 0, 1, 0, 0) from by decide +kernel) (zmem 0 rfl) (zz_getR (pc := 16) (show xcode 12 16 = some (.getfield 15, 3, 1, 1) from by decide +kernel) zis_101 (by decide +kernel) rfl (zz_iload_n (pc := 19) (show xcode 12 19 = some (.iload_n 2, 1, 0, 0) from by decide +kernel) (zmem 2 rfl) (zz_lald (pc := 20) (show xcode 12 20 = some (.laload, 1, 0, 0) from by decide +kernel) zis_103 (by omega) (zz_lcmp (pc := 21) (show xcode 12 21 = some (.lcmp, 1, 0, 0) from by decide +kernel) (show xcode 12 22 = some (.ifCond .le 5, 3, 27, 0) from by decide +kernel) (hr _ (by omega)) (hr _ (by omega)) (fun (zc3 : ¬ ((M 103 b.toNat) < (M 103 i.toNat))) => zz_iinc (pc := 27) (show xcode 12 27 = some (.iinc 3 1, 3, 0, 0) from by decide +kernel) (zmem 3 rfl) (by decide +kernel) (zG_ro (ρ' := [(3, .int (Int32.ofInt (i + 1))), (0, .ref 101), (1, .int (Int32.ofInt n)), (2, .int (Int32.ofInt b))]) rfl (zz_goto (pc := 30) (show xcode 12 30 = some (.goto (-26), 3, 4, 0) from by decide +kernel) (zG_mono (N := zn * 17 + 17) (by omega) (zG_sub (List.forall_mem_cons.mpr ⟨zmem 1 rfl, (List.forall_mem_cons.mpr ⟨zmem 2 rfl, (List.forall_mem_cons.mpr ⟨zmem 3 rfl, (List.forall_mem_cons.mpr ⟨zmem 0 rfl, (fun p hp => absurd hp List.not_mem_nil)⟩)⟩)⟩)⟩) (ih b (i + 1)  (by rw [show i + 1 - 1 = i by omega, zbestf_i hi.1]; subst hb; rw [Int.toNat_natCast] at *; split <;> omega) (by omega) (by omega))))))) (fun zc40 => have zc4 : (M 103 b.toNat) < (M 103 i.toNat) := Classical.not_not.mp zc40; zz_iload_n (pc := 25) (show xcode 12 25 = some (.iload_n 3, 1, 0, 0) from by decide +kernel) (zmem 3 rfl) (zz_istore_n (pc := 26) (show xcode 12 26 = some (.istore_n 2, 1, 0, 0) from by decide +kernel) (by decide +kernel) (zG_ro (ρ' := [(2, .int (Int32.ofInt i)), (0, .ref 101), (1, .int (Int32.ofInt n)), (3, .int (Int32.ofInt i))]) rfl (zz_iinc (pc := 27) (show xcode 12 27 = some (.iinc 3 1, 3, 0, 0) from by decide +kernel) (zmem 3 rfl) (by decide +kernel) (zG_ro (ρ' := [(3, .int (Int32.ofInt (i + 1))), (2, .int (Int32.ofInt i)), (0, .ref 101), (1, .int (Int32.ofInt n))]) rfl (zz_goto (pc := 30) (show xcode 12 30 = some (.goto (-26), 3, 4, 0) from by decide +kernel) (zG_mono (N := zn * 17 + 17) (by omega) (zG_sub (List.forall_mem_cons.mpr ⟨zmem 2 rfl, (List.forall_mem_cons.mpr ⟨zmem 3 rfl, (List.forall_mem_cons.mpr ⟨zmem 1 rfl, (List.forall_mem_cons.mpr ⟨zmem 0 rfl, (fun p hp => absurd hp List.not_mem_nil)⟩)⟩)⟩)⟩) (ih i (i + 1)  (by rw [show i + 1 - 1 = i by omega, zbestf_i hi.1]; subst hb; rw [Int.toNat_natCast] at *; split <;> omega) (by omega) (by omega))))))))))))))))))))))
theorem sp_greatestRemainder {xs : List Int32} {d : Nat} {w : Bool} {M : zM} {n : Int} (hn : 1 ≤ n ∧ n ≤ 36) (hr : ∀ j : Nat, (j : Int) < n → zr64 (M 103 j)) : xrun2 xs (d + 1) 12 [.ref 101, .int (Int32.ofInt n)] (w, zheap M) = some (.inl (some (.int (Int32.ofInt ((zbest (M 103) n.toNat : Nat) : Int)))), (w, zheap M)) := by
  exact zrun_v (N := 633) (by decide) rfl (zz_iconst (pc := 0) (show xcode 12 0 = some (.iconst 0, 1, 0, 0) from by decide +kernel) (zz_istore_n (pc := 1) (show xcode 12 1 = some (.istore_n 2, 1, 0, 0) from by decide +kernel) (by decide +kernel) (zG_ro (ρ' := [(2, .int (Int32.ofInt (0))), (0, .ref 101), (1, .int (Int32.ofInt n))]) rfl (zz_iconst (pc := 2) (show xcode 12 2 = some (.iconst 1, 1, 0, 0) from by decide +kernel) (zz_istore_n (pc := 3) (show xcode 12 3 = some (.istore_n 3, 1, 0, 0) from by decide +kernel) (by decide +kernel) (zG_ro (ρ' := [(3, .int (Int32.ofInt (1))), (2, .int (Int32.ofInt (0))), (0, .ref 101), (1, .int (Int32.ofInt n))]) rfl (zG_mono (N := 629) (by omega) (zG_sub (List.forall_mem_cons.mpr ⟨zmem 2 rfl, (List.forall_mem_cons.mpr ⟨zmem 3 rfl, (List.forall_mem_cons.mpr ⟨zmem 1 rfl, (List.forall_mem_cons.mpr ⟨zmem 0 rfl, (fun p hp => absurd hp List.not_mem_nil)⟩)⟩)⟩)⟩) (zl_greatestRemainder_4 hn hr 36 _ _ rfl (by omega) (by omega))))))))))
theorem zIs_ne {q q' c c' l l' : Nat} {K K' : Nat → zK} (h : zIs q c l K) (h' : zIs q' c' l' K') (hc : c ≠ c') : q ≠ q' := fun e => hc (by
  have h1 := h.2.1
  rw [e, h'.2.1] at h1
  exact (congrArg Prod.fst h1).symm)
theorem zbestf_c {F K : zF} : ∀ n, (∀ j, j ≤ n → F j = K j) → zbestf F n = zbestf K n
  | 0, _ => rfl
  | n + 1, h => by
    have h1 := zbestf_c n (fun j hj => h j (by omega))
    unfold zbestf
    rw [h1, h (n + 1) (Nat.le_refl _), h (zbestf K n) (by have := zbestf_le K n; omega)]
theorem zbest_c {F K : zF} {n : Nat} (h0 : 0 < n) (h : ∀ j, j < n → F j = K j) : zbest F n = zbest K n := zbestf_c _ (fun j hj => h j (by omega))
/-- the two rows that a scaling writes -/
def zrows (M : zM) (q n : Nat) (B R : zF) : zM := ztab (ztab M q n B) 103 n R
theorem zrows_q {M : zM} {q n j : Nat} {B R : zF} (hq : q ≠ 103) (hj : j < n) : zrows M q n B R q j = B j := by
  unfold zrows
  rw [ztab_o hq, ztab_i hj]
theorem zrows_r {M : zM} {q n j : Nat} {B R : zF} (hj : j < n) : zrows M q n B R 103 j = R j := ztab_i hj
theorem zrows_o {M : zM} {q n q' : Nat} {B R : zF} (h1 : q' ≠ q) (h2 : q' ≠ 103) : zrows M q n B R q' = M q' := by
  funext j
  unfold zrows
  rw [ztab_o h2, ztab_o h1]
theorem zrows_up {M : zM} {q n b : Nat} {B R : zF} {x y : Int} (hq : q ≠ 103) (hb : b < n) : zup (zup (zrows M q n B R) q b x) 103 b y = zrows M q n (zrup B b x) (zrup R b y) := by
  funext q' j
  unfold zrows zup ztab zrup
  have hq' : ¬ 103 = q := fun e => hq e.symm
  by_cases h1 : q' = 103
  · subst h1
    by_cases h2 : j = b
    · subst h2
      simp [hb]
    · simp [h2, hq']
  · by_cases h4 : q' = q
    · subst h4
      by_cases h2 : j = b
      · subst h2
        simp [h1, hb]
      · simp [h1, h2]
    · simp [h1, h4]
theorem zrows_s {M : zM} {q n : Nat} {B R : zF} {x y : Int} (hq : q ≠ 103) (hx : x = B n) (hy : y = R n) : zup (zup (zrows M q n B R) q n x) 103 n y = zrows M q (n + 1) B R := by
  funext q' j
  unfold zrows zup ztab
  have hq' : ¬ 103 = q := fun e => hq e.symm
  by_cases h1 : q' = 103
  · subst h1
    by_cases h2 : j = n
    · subst h2
      simp [hy]
    · by_cases h3 : j < n
      · simp [h2, h3, hq', show j < n + 1 by omega]
      · simp [h2, h3, hq', show ¬ j < n + 1 by omega]
  · by_cases h4 : q' = q
    · subst h4
      by_cases h2 : j = n
      · subst h2
        simp [h1, hx]
      · by_cases h3 : j < n
        · simp [h1, h2, h3, show j < n + 1 by omega]
        · simp [h1, h2, h3, show ¬ j < n + 1 by omega]
    · simp [h1, h4]
theorem zrows_0 {M : zM} {q : Nat} {B R : zF} : zrows M q 0 B R = M := by unfold zrows; rw [ztab_0, ztab_0]
/-- the row and the rests of a scaling -/
def zsc (W : zF) (n : Nat) : zF × zF := zadd n (zlack W n) (zshare W n, zleft W n)
def zscM (M : zM) (q n : Nat) : zM := zrows M q n (zsc (M 102) n).1 (zsc (M 102) n).2
theorem zl_scaleInto_97 {xs : List Int32} {d : Nat} {w : Bool}  {M0 : zM} {q : Nat} (hq : zIs q 100 36 zI) {n : Int} (hn : 1 ≤ n ∧ n ≤ 36) (hw : ∀ j : Nat, (j : Int) < n → 0 ≤ M0 102 j ∧ M0 102 j ≤ 100000000000) (hS : 0 < zsum (M0 102) n.toNat)  : ∀ (zn : Nat) (g k : Int) (B : zF) (R : zF) (M : zM), (M = zrows M0 q n.toNat B R) → (∀ j : Nat, (j : Int) < n → zr64 (R j)) → (zadd n.toNat (1000000 - g).toNat (B, R) = zsc (M0 102) n.toNat) → (0 ≤ g ∧ g ≤ 1000000 ∧ 1000000 - g ≤ n - k ∧ 0 ≤ k) → n - k ≤ (zn : Int) → zG (xstep (xrun2 xs (d + 1)) xs 11) 11 (zn * 25 + 25) 97 [(0, .ref 101), (1, .ref q), (2, .int (Int32.ofInt n)), (5, .int (Int32.ofInt g)), (6, .int (Int32.ofInt k))] [] 0 0 w M (fun o σ => o = (.inl none : XO) ∧ σ = (w, zheap (zscM M0 q n.toNat))) := by
  intro zn
  induction zn with
  | zero =>
    intro g k B R M hM hR hz hg hm
    have hq3 : q ≠ 103 := zIs_ne hq zis_103 (by decide)
    have hn0 : 0 < n.toNat := by omega
    have hbe : zbest (M 103) n.toNat = zbest R n.toNat := zbest_c hn0 (fun j hj => by rw [hM]; exact zrows_r hj)
    have hbl : zbest R n.toNat < n.toNat := zbest_lt R hn0
    have hBr : M q (zbest R n.toNat) = B (zbest R n.toNat) := by rw [hM]; exact zrows_q hq3 hbl
    exact zG_mono (N := 0 + 25) (by omega) (zz_iload (pc := 97) (show xcode 11 97 = some (.iload 6, 2, 0, 0) from by decide +kernel) (zmem 4 rfl) (zz_iload_n (pc := 99) (show xcode 11 99 = some (.iload_n 2, 1, 0, 0) from by decide +kernel) (zmem 2 rfl) (zz_icmp (pc := 100) (show xcode 11 100 = some (.if_icmp .ge 44, 3, 144, 0) from by decide +kernel) (by unfold zr32; omega) (by unfold zr32; omega) (fun (zc1 : ¬ (k < n)) => zz_return (pc := 144) (show xcode 11 144 = some (.return_, 1, 0, 0) from by decide +kernel) rfl (by decide +kernel) (by decide +kernel) (by exact ⟨rfl, by rw [hM, show (1000000 - g).toNat = 0 by omega] at *; unfold zscM; rw [← hz]; rfl⟩)) (fun zc20 => have zc2 : k < n := Classical.not_not.mp zc20; zz_iload (pc := 103) (show xcode 11 103 = some (.iload 5, 2, 0, 0) from by decide +kernel) (zmem 3 rfl) (zz_ldc (pc := 105) (v := .int (Int32.ofInt (1000000))) (show xcode 11 105 = some (.ldc 107, 2, 3, 0) from by decide +kernel) (by decide +kernel) (zz_icmp (pc := 107) (show xcode 11 107 = some (.if_icmp .ge 37, 3, 144, 0) from by decide +kernel) (by unfold zr32; omega) ⟨by decide, by decide⟩ (fun (zc3 : ¬ (g < (1000000))) => zz_return (pc := 144) (show xcode 11 144 = some (.return_, 1, 0, 0) from by decide +kernel) rfl (by decide +kernel) (by decide +kernel) (by exact ⟨rfl, by rw [hM, show (1000000 - g).toNat = 0 by omega] at *; unfold zscM; rw [← hz]; rfl⟩)) (fun zc40 => have zc4 : g < (1000000) := Classical.not_not.mp zc40; zz_aload_n (pc := 110) (show xcode 11 110 = some (.aload_n 0, 1, 0, 0) from by decide +kernel) (zmem 0 rfl) (zz_iload_n (pc := 111) (show xcode 11 111 = some (.iload_n 2, 1, 0, 0) from by decide +kernel) (zmem 2 rfl) (zz_call_v (pc := 112) (cu := 0) (su := 0) (fun ls hr => zz_calV (show xcode 11 112 = some (.invokevirtual 108, 3, 12, 0) from by decide +kernel) rfl zis_101 ls hr) rfl (sp_greatestRemainder (d := d) (by omega) (fun j hj => by rw [hM, zrows_r (by omega)]; exact hR j hj)) (zz_istore (pc := 115) (show xcode 11 115 = some (.istore 7, 2, 0, 0) from by decide +kernel) (by decide +kernel) (zG_ro (ρ' := [(7, .int (Int32.ofInt ((zbest (M 103) n.toNat : Nat) : Int))), (0, .ref 101), (1, .ref q), (2, .int (Int32.ofInt n)), (5, .int (Int32.ofInt g)), (6, .int (Int32.ofInt k))]) rfl (zz_aload_n (pc := 117) (show xcode 11 117 = some (.aload_n 1, 1, 0, 0) from by decide +kernel) (zmem 2 rfl) (zz_iload (pc := 118) (show xcode 11 118 = some (.iload 7, 2, 0, 0) from by decide +kernel) (zmem 0 rfl) (zz_dup2_ir (pc := 120) (show xcode 11 120 = some (.dup2, 1, 0, 0) from by decide +kernel) (zz_iald (pc := 121) (show xcode 11 121 = some (.iaload, 1, 0, 0) from by decide +kernel) hq (by rw [hbe]; omega) (zz_iconst (pc := 122) (show xcode 11 122 = some (.iconst 1, 1, 0, 0) from by decide +kernel) (zz_iadd (pc := 123) (show xcode 11 123 = some (.iadd, 1, 0, 0) from by decide +kernel) (zz_iast (pc := 124) (show xcode 11 124 = some (.iastore, 1, 0, 0) from by decide +kernel) hq (by rw [hbe]; omega) (zm_as (fun zM5 (ezM5 : zM5 = zup M q ((zbest (M 103) n.toNat : Nat) : Int).toNat ((M q ((zbest (M 103) n.toNat : Nat) : Int).toNat) + (1))) => zz_aload_n (pc := 125) (show xcode 11 125 = some (.aload_n 0, 1, 0, 0) from by decide +kernel) (zmem 1 rfl) (zz_getR (pc := 126) (show xcode 11 126 = some (.getfield 15, 3, 1, 1) from by decide +kernel) zis_101 (by decide +kernel) rfl (zz_iload (pc := 129) (show xcode 11 129 = some (.iload 7, 2, 0, 0) from by decide +kernel) (zmem 0 rfl) (zz_ldc2_w (pc := 131) (v := .long (Int64.ofInt (-1))) (show xcode 11 131 = some (.ldc2_w 111, 3, 4, 0) from by decide +kernel) (by decide +kernel) (zz_last (pc := 134) (show xcode 11 134 = some (.lastore, 1, 0, 0) from by decide +kernel) zis_103 (by rw [hbe]; omega) (zm_as (fun zM6 (ezM6 : zM6 = zup zM5 103 ((zbest (M 103) n.toNat : Nat) : Int).toNat (-1)) => zz_iinc (pc := 135) (show xcode 11 135 = some (.iinc 5 1, 3, 0, 0) from by decide +kernel) (zmem 4 rfl) (by decide +kernel) (zG_ro (ρ' := [(5, .int (Int32.ofInt (g + 1))), (7, .int (Int32.ofInt ((zbest (M 103) n.toNat : Nat) : Int))), (0, .ref 101), (1, .ref q), (2, .int (Int32.ofInt n)), (6, .int (Int32.ofInt k))]) rfl (zz_iinc (pc := 138) (show xcode 11 138 = some (.iinc 6 1, 3, 0, 0) from by decide +kernel) (zmem 5 rfl) (by decide +kernel) (zG_ro (ρ' := [(6, .int (Int32.ofInt (k + 1))), (5, .int (Int32.ofInt (g + 1))), (7, .int (Int32.ofInt ((zbest (M 103) n.toNat : Nat) : Int))), (0, .ref 101), (1, .ref q), (2, .int (Int32.ofInt n))]) rfl (zz_goto (pc := 141) (show xcode 11 141 = some (.goto (-44), 3, 97, 0) from by decide +kernel) ((by exfalso; omega))))))))))))))))))))))))))))))))
  | succ zn ih =>
    intro g k B R M hM hR hz hg hm
    have hq3 : q ≠ 103 := zIs_ne hq zis_103 (by decide)
    have hn0 : 0 < n.toNat := by omega
    have hbe : zbest (M 103) n.toNat = zbest R n.toNat := zbest_c hn0 (fun j hj => by rw [hM]; exact zrows_r hj)
    have hbl : zbest R n.toNat < n.toNat := zbest_lt R hn0
    have hBr : M q (zbest R n.toNat) = B (zbest R n.toNat) := by rw [hM]; exact zrows_q hq3 hbl
    exact zG_mono (N := zn * 25 + 25 + 25) (by omega) (zz_iload (pc := 97) (show xcode 11 97 = some (.iload 6, 2, 0, 0) from by decide +kernel) (zmem 4 rfl) (zz_iload_n (pc := 99) (show xcode 11 99 = some (.iload_n 2, 1, 0, 0) from by decide +kernel) (zmem 2 rfl) (zz_icmp (pc := 100) (show xcode 11 100 = some (.if_icmp .ge 44, 3, 144, 0) from by decide +kernel) (by unfold zr32; omega) (by unfold zr32; omega) (fun (zc1 : ¬ (k < n)) => zz_return (pc := 144) (show xcode 11 144 = some (.return_, 1, 0, 0) from by decide +kernel) rfl (by decide +kernel) (by decide +kernel) (by exact ⟨rfl, by rw [hM, show (1000000 - g).toNat = 0 by omega] at *; unfold zscM; rw [← hz]; rfl⟩)) (fun zc20 => have zc2 : k < n := Classical.not_not.mp zc20; zz_iload (pc := 103) (show xcode 11 103 = some (.iload 5, 2, 0, 0) from by decide +kernel) (zmem 3 rfl) (zz_ldc (pc := 105) (v := .int (Int32.ofInt (1000000))) (show xcode 11 105 = some (.ldc 107, 2, 3, 0) from by decide +kernel) (by decide +kernel) (zz_icmp (pc := 107) (show xcode 11 107 = some (.if_icmp .ge 37, 3, 144, 0) from by decide +kernel) (by unfold zr32; omega) ⟨by decide, by decide⟩ (fun (zc3 : ¬ (g < (1000000))) => zz_return (pc := 144) (show xcode 11 144 = some (.return_, 1, 0, 0) from by decide +kernel) rfl (by decide +kernel) (by decide +kernel) (by exact ⟨rfl, by rw [hM, show (1000000 - g).toNat = 0 by omega] at *; unfold zscM; rw [← hz]; rfl⟩)) (fun zc40 => have zc4 : g < (1000000) := Classical.not_not.mp zc40; zz_aload_n (pc := 110) (show xcode 11 110 = some (.aload_n 0, 1, 0, 0) from by decide +kernel) (zmem 0 rfl) (zz_iload_n (pc := 111) (show xcode 11 111 = some (.iload_n 2, 1, 0, 0) from by decide +kernel) (zmem 2 rfl) (zz_call_v (pc := 112) (cu := 0) (su := 0) (fun ls hr => zz_calV (show xcode 11 112 = some (.invokevirtual 108, 3, 12, 0) from by decide +kernel) rfl zis_101 ls hr) rfl (sp_greatestRemainder (d := d) (by omega) (fun j hj => by rw [hM, zrows_r (by omega)]; exact hR j hj)) (zz_istore (pc := 115) (show xcode 11 115 = some (.istore 7, 2, 0, 0) from by decide +kernel) (by decide +kernel) (zG_ro (ρ' := [(7, .int (Int32.ofInt ((zbest (M 103) n.toNat : Nat) : Int))), (0, .ref 101), (1, .ref q), (2, .int (Int32.ofInt n)), (5, .int (Int32.ofInt g)), (6, .int (Int32.ofInt k))]) rfl (zz_aload_n (pc := 117) (show xcode 11 117 = some (.aload_n 1, 1, 0, 0) from by decide +kernel) (zmem 2 rfl) (zz_iload (pc := 118) (show xcode 11 118 = some (.iload 7, 2, 0, 0) from by decide +kernel) (zmem 0 rfl) (zz_dup2_ir (pc := 120) (show xcode 11 120 = some (.dup2, 1, 0, 0) from by decide +kernel) (zz_iald (pc := 121) (show xcode 11 121 = some (.iaload, 1, 0, 0) from by decide +kernel) hq (by rw [hbe]; omega) (zz_iconst (pc := 122) (show xcode 11 122 = some (.iconst 1, 1, 0, 0) from by decide +kernel) (zz_iadd (pc := 123) (show xcode 11 123 = some (.iadd, 1, 0, 0) from by decide +kernel) (zz_iast (pc := 124) (show xcode 11 124 = some (.iastore, 1, 0, 0) from by decide +kernel) hq (by rw [hbe]; omega) (zm_as (fun zM5 (ezM5 : zM5 = zup M q ((zbest (M 103) n.toNat : Nat) : Int).toNat ((M q ((zbest (M 103) n.toNat : Nat) : Int).toNat) + (1))) => zz_aload_n (pc := 125) (show xcode 11 125 = some (.aload_n 0, 1, 0, 0) from by decide +kernel) (zmem 1 rfl) (zz_getR (pc := 126) (show xcode 11 126 = some (.getfield 15, 3, 1, 1) from by decide +kernel) zis_101 (by decide +kernel) rfl (zz_iload (pc := 129) (show xcode 11 129 = some (.iload 7, 2, 0, 0) from by decide +kernel) (zmem 0 rfl) (zz_ldc2_w (pc := 131) (v := .long (Int64.ofInt (-1))) (show xcode 11 131 = some (.ldc2_w 111, 3, 4, 0) from by decide +kernel) (by decide +kernel) (zz_last (pc := 134) (show xcode 11 134 = some (.lastore, 1, 0, 0) from by decide +kernel) zis_103 (by rw [hbe]; omega) (zm_as (fun zM6 (ezM6 : zM6 = zup zM5 103 ((zbest (M 103) n.toNat : Nat) : Int).toNat (-1)) => zz_iinc (pc := 135) (show xcode 11 135 = some (.iinc 5 1, 3, 0, 0) from by decide +kernel) (zmem 4 rfl) (by decide +kernel) (zG_ro (ρ' := [(5, .int (Int32.ofInt (g + 1))), (7, .int (Int32.ofInt ((zbest (M 103) n.toNat : Nat) : Int))), (0, .ref 101), (1, .ref q), (2, .int (Int32.ofInt n)), (6, .int (Int32.ofInt k))]) rfl (zz_iinc (pc := 138) (show xcode 11 138 = some (.iinc 6 1, 3, 0, 0) from by decide +kernel) (zmem 5 rfl) (by decide +kernel) (zG_ro (ρ' := [(6, .int (Int32.ofInt (k + 1))), (5, .int (Int32.ofInt (g + 1))), (7, .int (Int32.ofInt ((zbest (M 103) n.toNat : Nat) : Int))), (0, .ref 101), (1, .ref q), (2, .int (Int32.ofInt n))]) rfl (zz_goto (pc := 141) (show xcode 11 141 = some (.goto (-44), 3, 97, 0) from by decide +kernel) (zG_mono (N := zn * 25 + 25) (by omega) (zG_sub (List.forall_mem_cons.mpr ⟨zmem 3 rfl, (List.forall_mem_cons.mpr ⟨zmem 4 rfl, (List.forall_mem_cons.mpr ⟨zmem 5 rfl, (List.forall_mem_cons.mpr ⟨zmem 1 rfl, (List.forall_mem_cons.mpr ⟨zmem 0 rfl, (fun p hp => absurd hp List.not_mem_nil)⟩)⟩)⟩)⟩)⟩) (ih (g + 1) (k + 1) (zrup B (zbest R n.toNat) (B (zbest R n.toNat) + 1)) (zrup R (zbest R n.toNat) (-1)) zM6  (by rw [ezM6, ezM5, hbe, Int.toNat_natCast, hBr, hM]; exact zrows_up hq3 hbl) (fun j hj => by unfold zrup; split; exact ⟨by decide, by decide⟩; exact hR j hj) (by rw [show (1000000 - (g + 1)).toNat = (1000000 - g).toNat - 1 by omega]; rw [show (1000000 - g).toNat = (1000000 - g).toNat - 1 + 1 by omega] at hz; exact hz) (by omega) (by omega))))))))))))))))))))))))))))))))))
