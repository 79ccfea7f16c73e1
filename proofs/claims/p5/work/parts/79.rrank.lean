/-! Ranks. -/
def zbfr (F : zF) (x c : Nat) : Prop := F c < F x ∨ F x = F c ∧ x < c
noncomputable def zrkk (F : zF) (n c : Nat) : Int := zcount (fun x => zbfr F x c) n
def zRK (F : zF) (n : Nat) (p : zF × zF) : Prop := (∀ i j, i ≤ j → j < n → p.1 j ≤ p.1 i) ∧ (∀ P : Int → Prop, zcount (fun c => P (F c)) n = zcount (fun i => P (p.1 i)) n) ∧ zsum p.1 n = zsum F n ∧ (∀ i, i < n → (0 ≤ p.2 i ∧ p.2 i < n) ∧ p.1 i = F (p.2 i).toNat ∧ zrkk F n (p.2 i).toNat = i)
theorem zip_s (B : zF) (b : Int) : ∀ n, (∀ j, zip_ B b n ≤ j → j < n → B j < b) ∧ (0 < zip_ B b n → ¬ B (zip_ B b n - 1) < b)
  | 0 => ⟨fun j _ h => absurd h (Nat.not_lt_zero j), fun h => absurd h (Nat.not_lt_zero 0)⟩
  | n + 1 => by
    obtain ⟨h1, h2⟩ := zip_s B b n
    unfold zip_
    split
    · next h =>
      refine ⟨fun j a c => ?_, h2⟩
      by_cases e : j = n
      · rw [e]; exact h
      · exact h1 j a (by omega)
    · next h => exact ⟨fun j a c => by omega, fun _ => by rw [Nat.add_sub_cancel]; exact h⟩
def zins (B : zF) (q n : Nat) (b : Int) : zF := zrup (zshf B q n) q b
theorem zins_q {B : zF} {q n : Nat} {b : Int} : zins B q n b q = b := if_pos rfl
theorem zins_l {B : zF} {q n j : Nat} {b : Int} (h : j < q) : zins B q n b j = B j := by
  unfold zins zrup zshf
  rw [if_neg (by omega), if_neg (by omega)]
theorem zins_g {B : zF} {q n j : Nat} {b : Int} (h : q < j) (h2 : j ≤ n) : zins B q n b j = B (j - 1) := by
  unfold zins zrup zshf
  rw [if_neg (by omega), if_pos ⟨h, h2⟩]
theorem zins_c {B : zF} {q n : Nat} {b : Int} {P : Int → Prop} : ∀ m, q ≤ m → m ≤ n → zcount (fun i => P (zins B q n b i)) (m + 1) = zcount (fun i => P (B i)) m + zb (P b)
  | 0, h, _ => by
    have hq : q = 0 := by omega
    subst hq
    show 0 + zb (P (zins B 0 n b 0)) = 0 + zb (P b)
    rw [zins_q]
  | m + 1, h, h2 => by
    show zcount (fun i => P (zins B q n b i)) (m + 1) + zb (P (zins B q n b (m + 1))) = zcount (fun i => P (B i)) m + zb (P (B m)) + zb (P b)
    by_cases e : q = m + 1
    · subst e
      rw [zins_q]
      show zcount (fun i => P (zins B (m + 1) n b i)) m + zb (P (zins B (m + 1) n b m)) + _ = _
      rw [zins_l (Nat.lt_succ_self m), zcount_cc m (fun j hj => by rw [zins_l (show j < m + 1 by omega)])]
    · rw [zins_c m (by omega) (by omega), zins_g (by omega) h2, Nat.add_sub_cancel]
      omega
theorem zins_u {B : zF} {q n : Nat} {b : Int} : ∀ m, q ≤ m → m ≤ n → zsum (zins B q n b) (m + 1) = zsum B m + b
  | 0, h, _ => by
    have hq : q = 0 := by omega
    subst hq
    show 0 + zins B 0 n b 0 = 0 + b
    rw [zins_q]
  | m + 1, h, h2 => by
    show zsum (zins B q n b) (m + 1) + zins B q n b (m + 1) = zsum B m + B m + b
    by_cases e : q = m + 1
    · subst e
      rw [zins_q]
      show zsum (zins B (m + 1) n b) m + zins B (m + 1) n b m + _ = _
      rw [zins_l (Nat.lt_succ_self m), zsum_c (K := B) m (fun j hj => zins_l (by omega))]
    · rw [zins_u m (by omega) (by omega), zins_g (by omega) h2, Nat.add_sub_cancel]
      omega
theorem zcount_q : ∀ n q : Nat, q ≤ n → zcount (fun i => i < q) n = q
  | 0, q, h => by rw [show q = 0 by omega]; rfl
  | n + 1, q, h => by
    show zcount (fun i => i < q) n + zb (n < q) = q
    by_cases e : q = n + 1
    · rw [e, zb_t (Nat.lt_succ_self n), zcount_cc (P' := fun i => i < n) n (fun j hj => ⟨fun _ => hj, fun _ => by omega⟩), zcount_q n n (Nat.le_refl n)]
      omega
    · rw [zb_f (by omega), zcount_q n q (by omega), Int.add_zero]
theorem zRK_s {F : zF} {n : Nat} {p : zF × zF} (h : zRK F n p) : zRK F (n + 1) (zins p.1 (zip_ p.1 (F n) n) n (F n), zins p.2 (zip_ p.1 (F n) n) n (n : Int)) := by
  obtain ⟨h1, h2, h3, h4⟩ := h
  have hq := zip_le p.1 (F n) n
  obtain ⟨s1, s2⟩ := zip_s p.1 (F n) n
  generalize zip_ p.1 (F n) n = q at hq s1 s2
  have s3 : ∀ i, i < q → F n ≤ p.1 i := fun i hi => by
    have a := h1 i (q - 1) (by omega) (by omega)
    have b := s2 (by omega)
    omega
  refine ⟨fun i j hij hj => ?_, fun P => ?_, ?_, fun i hi => ?_⟩
  · show zins p.1 q n (F n) j ≤ zins p.1 q n (F n) i
    by_cases a : j < q
    · rw [zins_l a, zins_l (show i < q by omega)]
      exact h1 i j hij (by omega)
    · by_cases b : j = q
      · subst b
        rw [zins_q]
        by_cases c : i = j
        · rw [c, zins_q]; exact Int.le_refl _
        · rw [zins_l (show i < j by omega)]
          exact s3 i (by omega)
      · rw [zins_g (show q < j by omega) (by omega)]
        by_cases c : i < q
        · rw [zins_l c]
          exact h1 i (j - 1) (by omega) (by omega)
        · by_cases d : i = q
          · rw [d, zins_q]
            have := s1 (j - 1) (by omega) (by omega)
            omega
          · rw [zins_g (show q < i by omega) (by omega)]
            exact h1 (i - 1) (j - 1) (by omega) (by omega)
  · rw [zins_c n hq (Nat.le_refl n), ← h2 P]
    rfl
  · rw [zins_u n hq (Nat.le_refl n), h3]
    rfl
  · have hr : ∀ c, zrkk F (n + 1) c = zrkk F n c + zb (zbfr F n c) := fun c => rfl
    show (0 ≤ zins p.2 q n (n : Int) i ∧ zins p.2 q n (n : Int) i < ((n + 1 : Nat) : Int)) ∧ zins p.1 q n (F n) i = F (zins p.2 q n (n : Int) i).toNat ∧ zrkk F (n + 1) (zins p.2 q n (n : Int) i).toNat = i
    by_cases a : i < q
    · rw [zins_l a, zins_l a]
      obtain ⟨b1, b2, b3⟩ := h4 i (by omega)
      refine ⟨by omega, b2, ?_⟩
      rw [hr, b3, zb_f, Int.add_zero]
      rintro (e | e)
      · have := s3 i a
        omega
      · have := e.2
        omega
    · by_cases b : i = q
      · subst b
        rw [zins_q, zins_q, Int.toNat_natCast]
        refine ⟨by omega, rfl, ?_⟩
        rw [hr, zb_f (by rintro (e | e) <;> omega), Int.add_zero]
        unfold zrkk
        rw [zcount_cc (P' := fun x => ¬ F x < F n) n (fun x hx => ⟨fun e => by rcases e with e | e <;> omega, fun e => by unfold zbfr; omega⟩), h2 (fun v => ¬ v < F n), zcount_cc (P' := fun x => x < i) n (fun x hx => ⟨fun e => by
          by_cases hx2 : x < i
          · exact hx2
          · exact absurd (s1 x (by omega) hx) e, fun e => by have := s3 x e; omega⟩), zcount_q n i hq]
      · rw [zins_g (show q < i by omega) (by omega), zins_g (show q < i by omega) (by omega)]
        obtain ⟨b1, b2, b3⟩ := h4 (i - 1) (by omega)
        refine ⟨by omega, b2, ?_⟩
        rw [hr, b3, zb_t]
        · omega
        · have := s1 (i - 1) (by omega) (by omega)
          exact Or.inl (by omega)
theorem zRK_n {F : zF} {p : zF × zF} : ∀ n, zRK F n (zrk F n p)
  | 0 => ⟨fun i j _ h => absurd h (Nat.not_lt_zero j), fun P => rfl, rfl, fun i h => absurd h (Nat.not_lt_zero i)⟩
  | n + 1 => zRK_s (zRK_n n)
theorem zcount_lt {P P' : Nat → Prop} : ∀ n, (∀ j, j < n → P j → P' j) → (∃ j, j < n ∧ P' j ∧ ¬ P j) → zcount P n < zcount P' n
  | 0, _, ⟨j, hj, _⟩ => absurd hj (Nat.not_lt_zero j)
  | n + 1, h, ⟨j, hj, h1, h2⟩ => by
    have hle : ∀ m, m ≤ n → zcount P m ≤ zcount P' m := by
      intro m
      induction m with
      | zero => intro _; exact Int.le_refl _
      | succ m ih =>
        intro hm
        have := ih (by omega)
        show zcount P m + zb (P m) ≤ zcount P' m + zb (P' m)
        by_cases e : P m
        · rw [zb_t e, zb_t (h m (by omega) e)]; omega
        · have := zb_01 (P' m)
          rw [zb_f e]
          omega
    show zcount P n + zb (P n) < zcount P' n + zb (P' n)
    by_cases e : j = n
    · subst e
      rw [zb_f h2, zb_t h1]
      have := hle j (Nat.le_refl j)
      omega
    · have := zcount_lt n (fun j hj => h j (by omega)) ⟨j, by omega, h1, h2⟩
      by_cases e2 : P n
      · rw [zb_t e2, zb_t (h n (by omega) e2)]; omega
      · have := zb_01 (P' n)
        rw [zb_f e2]
        omega
theorem zrkk_lt {F : zF} {n c c' : Nat} (hc : c < n) (h : zbfr F c c') : zrkk F n c < zrkk F n c' := by
  refine zcount_lt n (fun x _ hx => ?_) ⟨c, hc, h, ?_⟩
  · unfold zbfr at *
    omega
  · unfold zbfr
    omega
theorem zrkk_inj {F : zF} {n c c' : Nat} (hc : c < n) (hc' : c' < n) (h : zrkk F n c = zrkk F n c') : c = c' := by
  by_cases e : c = c'
  · exact e
  · exfalso
    have : zbfr F c c' ∨ zbfr F c' c := by unfold zbfr; omega
    rcases this with h1 | h1
    · have := zrkk_lt hc h1; omega
    · have := zrkk_lt hc' h1; omega
/-- the class's order: ranks -/
theorem zord {C : zM} {i : Nat} (hi : i < (zsz C zn1).toNat) : (0 ≤ zrkM C zn1 106 i ∧ zrkM C zn1 106 i < zsz C zn1) ∧ zrkM C zn1 107 i = C (zn1 + 11) (zrkM C zn1 106 i).toNat ∧ zrkk (C (zn1 + 11)) (zsz C zn1).toNat (zrkM C zn1 106 i).toNat = i := by
  obtain ⟨h1, h2, h3, h4⟩ := zRK_n (F := C (zn1 + 11)) (p := (C 107, C 106)) (zsz C zn1).toNat
  have h := h4 i hi
  unfold zrkM
  rw [zrw_6, zrw_7]
  exact ⟨by omega, h.2⟩
theorem zl_rankOfR_4 {xs : List Int32} {d : Nat} {w : Bool} {M : zM} {C : zM} {n : Int} (hB : zBI n C zn1) (hA : rA C M) (hL : rB C M) {x : Int} (hx : 0 ≤ x ∧ x < zsz C zn1)  : ∀ (zn : Nat) (v i : Int), (v = zcount (fun y => zbfr (C (zn1 + 11)) y x.toNat) i.toNat) → (0 ≤ i ∧ i ≤ zsz C zn1) → zsz C zn1 - i ≤ (zn : Int) → zG (xstep (xrun2 xs (d + 1)) xs 177) 177 (zn * 32 + 32) 4 [(0, .ref 115), (1, .int (Int32.ofInt x)), (2, .int (Int32.ofInt v)), (3, .int (Int32.ofInt i))] [] 0 0 w M (fun o σ => o = (.inl (some (.int (Int32.ofInt (zrkk (C (zn1 + 11)) (zsz C zn1).toNat x.toNat)))) : XO) ∧ σ = (w, zheap M)) := by
  intro zn
  induction zn with
  | zero =>
    intro v i hv hi hm
    obtain ⟨⟨a1, a2⟩, a3⟩ := id hA
    obtain ⟨⟨g1, g2⟩, ⟨g3, g4⟩, g5⟩ := id hB.g
    obtain ⟨g6, g7⟩ := hB.g.sz
    have hz : zsz C zn1 = C (zn1 + 1) 0 * C (zn1 + 1) 1 := rfl
    have hbl := hB.b2.1
    have hr : ∀ j : Nat, (j : Int) < zsz C zn1 → M 120 j = C (zn1 + 11) j ∧ 0 ≤ M 120 j ∧ M 120 j ≤ 1000000 := fun j hj => ⟨hL j hj, by rw [hL j hj]; exact hbl j (by omega)⟩
    have hri := hr i.toNat
    have hrx := hr x.toNat (by omega)
    exact zG_mono (N := 0 + 32) (by omega) (zz_iload_n (pc := 4) (show xcode 177 4 = some (.iload_n 3, 1, 0, 0) from by decide +kernel) (zmem 3 rfl) (zz_aload_n (pc := 5) (show xcode 177 5 = some (.aload_n 0, 1, 0, 0) from by decide +kernel) (zmem 0 rfl) (zz_call_v (pc := 6) (cu := 0) (su := 0) (fun ls hr => zz_calV (show xcode 177 6 = some (.invokevirtual 96, 3, 134, 0) from by decide +kernel) rfl zis_115 ls hr) rfl (sp_cellsR (d := d) hB hA) (zz_icmp (pc := 9) (show xcode 177 9 = some (.if_icmp .ge 52, 3, 61, 0) from by decide +kernel) (by unfold zr32; omega) (by unfold zr32; omega) (fun (zc1 : ¬ (i < (zsz C zn1))) => zz_iload_n (pc := 61) (show xcode 177 61 = some (.iload_n 2, 1, 0, 0) from by decide +kernel) (zmem 2 rfl) (zz_ireturn (pc := 62) (show xcode 177 62 = some (.ireturn, 1, 0, 0) from by decide +kernel) rfl (by decide +kernel) (by decide +kernel) (by exact ⟨zq_i (by rw [hv, show i = zsz C zn1 by omega]; rfl), rfl⟩))) (fun zc20 => have zc2 : i < (zsz C zn1) := Classical.not_not.mp zc20; zz_iload_n (pc := 12) (show xcode 177 12 = some (.iload_n 2, 1, 0, 0) from by decide +kernel) (zmem 2 rfl) (zz_aload_n (pc := 13) (show xcode 177 13 = some (.aload_n 0, 1, 0, 0) from by decide +kernel) (zmem 0 rfl) (zz_getR (pc := 14) (show xcode 177 14 = some (.getfield 22, 3, 11, 5) from by decide +kernel) zis_115 (by decide +kernel) rfl (zz_iload_n (pc := 17) (show xcode 177 17 = some (.iload_n 3, 1, 0, 0) from by decide +kernel) (zmem 3 rfl) (zz_iald (pc := 18) (show xcode 177 18 = some (.iaload, 1, 0, 0) from by decide +kernel) zis_120 (by omega) (zz_aload_n (pc := 19) (show xcode 177 19 = some (.aload_n 0, 1, 0, 0) from by decide +kernel) (zmem 0 rfl) (zz_getR (pc := 20) (show xcode 177 20 = some (.getfield 22, 3, 11, 5) from by decide +kernel) zis_115 (by decide +kernel) rfl (zz_iload_n (pc := 23) (show xcode 177 23 = some (.iload_n 1, 1, 0, 0) from by decide +kernel) (zmem 1 rfl) (zz_iald (pc := 24) (show xcode 177 24 = some (.iaload, 1, 0, 0) from by decide +kernel) zis_120 (by omega) (zz_icmp (pc := 25) (show xcode 177 25 = some (.if_icmp .gt 23, 3, 48, 0) from by decide +kernel) (by unfold zr32; omega) (by unfold zr32; omega) (fun (zc3 : (M 120 x.toNat) < (M 120 i.toNat)) => zz_iconst (pc := 48) (show xcode 177 48 = some (.iconst 1, 1, 0, 0) from by decide +kernel) (zz_goto (pc := 49) (show xcode 177 49 = some (.goto 4, 3, 53, 0) from by decide +kernel) (zz_iadd (pc := 53) (show xcode 177 53 = some (.iadd, 1, 0, 0) from by decide +kernel) (zz_istore_n (pc := 54) (show xcode 177 54 = some (.istore_n 2, 1, 0, 0) from by decide +kernel) (by decide +kernel) (zG_ro (ρ' := [(2, .int (Int32.ofInt (v + (1)))), (0, .ref 115), (1, .int (Int32.ofInt x)), (3, .int (Int32.ofInt i))]) rfl (zz_iinc (pc := 55) (show xcode 177 55 = some (.iinc 3 1, 3, 0, 0) from by decide +kernel) (zmem 3 rfl) (by decide +kernel) (zG_ro (ρ' := [(3, .int (Int32.ofInt (i + 1))), (2, .int (Int32.ofInt (v + (1)))), (0, .ref 115), (1, .int (Int32.ofInt x))]) rfl (zz_goto (pc := 58) (show xcode 177 58 = some (.goto (-54), 3, 4, 0) from by decide +kernel) ((by exfalso; omega)))))))))) (fun (zc4 : ¬ ((M 120 x.toNat) < (M 120 i.toNat))) => zz_aload_n (pc := 28) (show xcode 177 28 = some (.aload_n 0, 1, 0, 0) from by decide +kernel) (zmem 0 rfl) (zz_getR (pc := 29) (show xcode 177 29 = some (.getfield 22, 3, 11, 5) from by decide +kernel) zis_115 (by decide +kernel) rfl (zz_iload_n (pc := 32) (show xcode 177 32 = some (.iload_n 3, 1, 0, 0) from by decide +kernel) (zmem 3 rfl) (zz_iald (pc := 33) (show xcode 177 33 = some (.iaload, 1, 0, 0) from by decide +kernel) zis_120 (by omega) (zz_aload_n (pc := 34) (show xcode 177 34 = some (.aload_n 0, 1, 0, 0) from by decide +kernel) (zmem 0 rfl) (zz_getR (pc := 35) (show xcode 177 35 = some (.getfield 22, 3, 11, 5) from by decide +kernel) zis_115 (by decide +kernel) rfl (zz_iload_n (pc := 38) (show xcode 177 38 = some (.iload_n 1, 1, 0, 0) from by decide +kernel) (zmem 1 rfl) (zz_iald (pc := 39) (show xcode 177 39 = some (.iaload, 1, 0, 0) from by decide +kernel) zis_120 (by omega) (zz_icmp (pc := 40) (show xcode 177 40 = some (.if_icmp .ne 12, 3, 52, 0) from by decide +kernel) (by unfold zr32; omega) (by unfold zr32; omega) (fun (zc5 : ¬ ((M 120 i.toNat) = (M 120 x.toNat))) => zz_iconst (pc := 52) (show xcode 177 52 = some (.iconst 0, 1, 0, 0) from by decide +kernel) (zz_iadd (pc := 53) (show xcode 177 53 = some (.iadd, 1, 0, 0) from by decide +kernel) (zz_istore_n (pc := 54) (show xcode 177 54 = some (.istore_n 2, 1, 0, 0) from by decide +kernel) (by decide +kernel) (zG_ro (ρ' := [(2, .int (Int32.ofInt (v + (0)))), (0, .ref 115), (1, .int (Int32.ofInt x)), (3, .int (Int32.ofInt i))]) rfl (zz_iinc (pc := 55) (show xcode 177 55 = some (.iinc 3 1, 3, 0, 0) from by decide +kernel) (zmem 3 rfl) (by decide +kernel) (zG_ro (ρ' := [(3, .int (Int32.ofInt (i + 1))), (2, .int (Int32.ofInt (v + (0)))), (0, .ref 115), (1, .int (Int32.ofInt x))]) rfl (zz_goto (pc := 58) (show xcode 177 58 = some (.goto (-54), 3, 4, 0) from by decide +kernel) ((by exfalso; omega))))))))) (fun zc60 => have zc6 : (M 120 i.toNat) = (M 120 x.toNat) := Classical.not_not.mp zc60; zz_iload_n (pc := 43) (show xcode 177 43 = some (.iload_n 3, 1, 0, 0) from by decide +kernel) (zmem 3 rfl) (zz_iload_n (pc := 44) (show xcode 177 44 = some (.iload_n 1, 1, 0, 0) from by decide +kernel) (zmem 1 rfl) (zz_icmp (pc := 45) (show xcode 177 45 = some (.if_icmp .ge 7, 3, 52, 0) from by decide +kernel) (by unfold zr32; omega) (by unfold zr32; omega) (fun (zc7 : ¬ (i < x)) => zz_iconst (pc := 52) (show xcode 177 52 = some (.iconst 0, 1, 0, 0) from by decide +kernel) (zz_iadd (pc := 53) (show xcode 177 53 = some (.iadd, 1, 0, 0) from by decide +kernel) (zz_istore_n (pc := 54) (show xcode 177 54 = some (.istore_n 2, 1, 0, 0) from by decide +kernel) (by decide +kernel) (zG_ro (ρ' := [(2, .int (Int32.ofInt (v + (0)))), (0, .ref 115), (1, .int (Int32.ofInt x)), (3, .int (Int32.ofInt i))]) rfl (zz_iinc (pc := 55) (show xcode 177 55 = some (.iinc 3 1, 3, 0, 0) from by decide +kernel) (zmem 3 rfl) (by decide +kernel) (zG_ro (ρ' := [(3, .int (Int32.ofInt (i + 1))), (2, .int (Int32.ofInt (v + (0)))), (0, .ref 115), (1, .int (Int32.ofInt x))]) rfl (zz_goto (pc := 58) (show xcode 177 58 = some (.goto (-54), 3, 4, 0) from by decide +kernel) ((by exfalso; omega))))))))) (fun zc80 => have zc8 : i < x := Classical.not_not.mp zc80; zz_iconst (pc := 48) (show xcode 177 48 = some (.iconst 1, 1, 0, 0) from by decide +kernel) (zz_goto (pc := 49) (show xcode 177 49 = some (.goto 4, 3, 53, 0) from by decide +kernel) (zz_iadd (pc := 53) (show xcode 177 53 = some (.iadd, 1, 0, 0) from by decide +kernel) (zz_istore_n (pc := 54) (show xcode 177 54 = some (.istore_n 2, 1, 0, 0) from by decide +kernel) (by decide +kernel) (zG_ro (ρ' := [(2, .int (Int32.ofInt (v + (1)))), (0, .ref 115), (1, .int (Int32.ofInt x)), (3, .int (Int32.ofInt i))]) rfl (zz_iinc (pc := 55) (show xcode 177 55 = some (.iinc 3 1, 3, 0, 0) from by decide +kernel) (zmem 3 rfl) (by decide +kernel) (zG_ro (ρ' := [(3, .int (Int32.ofInt (i + 1))), (2, .int (Int32.ofInt (v + (1)))), (0, .ref 115), (1, .int (Int32.ofInt x))]) rfl (zz_goto (pc := 58) (show xcode 177 58 = some (.goto (-54), 3, 4, 0) from by decide +kernel) ((by exfalso; omega))))))))))))))))))))))))))))))))))))
  | succ zn ih =>
    intro v i hv hi hm
    obtain ⟨⟨a1, a2⟩, a3⟩ := id hA
    obtain ⟨⟨g1, g2⟩, ⟨g3, g4⟩, g5⟩ := id hB.g
    obtain ⟨g6, g7⟩ := hB.g.sz
    have hz : zsz C zn1 = C (zn1 + 1) 0 * C (zn1 + 1) 1 := rfl
    have hbl := hB.b2.1
    have hr : ∀ j : Nat, (j : Int) < zsz C zn1 → M 120 j = C (zn1 + 11) j ∧ 0 ≤ M 120 j ∧ M 120 j ≤ 1000000 := fun j hj => ⟨hL j hj, by rw [hL j hj]; exact hbl j (by omega)⟩
    have hri := hr i.toNat
    have hrx := hr x.toNat (by omega)
    exact zG_mono (N := zn * 32 + 32 + 0 + 32) (by omega) (zz_iload_n (pc := 4) (show xcode 177 4 = some (.iload_n 3, 1, 0, 0) from by decide +kernel) (zmem 3 rfl) (zz_aload_n (pc := 5) (show xcode 177 5 = some (.aload_n 0, 1, 0, 0) from by decide +kernel) (zmem 0 rfl) (zz_call_v (pc := 6) (cu := 0) (su := 0) (fun ls hr => zz_calV (show xcode 177 6 = some (.invokevirtual 96, 3, 134, 0) from by decide +kernel) rfl zis_115 ls hr) rfl (sp_cellsR (d := d) hB hA) (zz_icmp (pc := 9) (show xcode 177 9 = some (.if_icmp .ge 52, 3, 61, 0) from by decide +kernel) (by unfold zr32; omega) (by unfold zr32; omega) (fun (zc1 : ¬ (i < (zsz C zn1))) => zz_iload_n (pc := 61) (show xcode 177 61 = some (.iload_n 2, 1, 0, 0) from by decide +kernel) (zmem 2 rfl) (zz_ireturn (pc := 62) (show xcode 177 62 = some (.ireturn, 1, 0, 0) from by decide +kernel) rfl (by decide +kernel) (by decide +kernel) (by exact ⟨zq_i (by rw [hv, show i = zsz C zn1 by omega]; rfl), rfl⟩))) (fun zc20 => have zc2 : i < (zsz C zn1) := Classical.not_not.mp zc20; zz_iload_n (pc := 12) (show xcode 177 12 = some (.iload_n 2, 1, 0, 0) from by decide +kernel) (zmem 2 rfl) (zz_aload_n (pc := 13) (show xcode 177 13 = some (.aload_n 0, 1, 0, 0) from by decide +kernel) (zmem 0 rfl) (zz_getR (pc := 14) (show xcode 177 14 = some (.getfield 22, 3, 11, 5) from by decide +kernel) zis_115 (by decide +kernel) rfl (zz_iload_n (pc := 17) (show xcode 177 17 = some (.iload_n 3, 1, 0, 0) from by decide +kernel) (zmem 3 rfl) (zz_iald (pc := 18) (show xcode 177 18 = some (.iaload, 1, 0, 0) from by decide +kernel) zis_120 (by omega) (zz_aload_n (pc := 19) (show xcode 177 19 = some (.aload_n 0, 1, 0, 0) from by decide +kernel) (zmem 0 rfl) (zz_getR (pc := 20) (show xcode 177 20 = some (.getfield 22, 3, 11, 5) from by decide +kernel) zis_115 (by decide +kernel) rfl (zz_iload_n (pc := 23) (show xcode 177 23 = some (.iload_n 1, 1, 0, 0) from by decide +kernel) (zmem 1 rfl) (zz_iald (pc := 24) (show xcode 177 24 = some (.iaload, 1, 0, 0) from by decide +kernel) zis_120 (by omega) (zz_icmp (pc := 25) (show xcode 177 25 = some (.if_icmp .gt 23, 3, 48, 0) from by decide +kernel) (by unfold zr32; omega) (by unfold zr32; omega) (fun (zc3 : (M 120 x.toNat) < (M 120 i.toNat)) => zz_iconst (pc := 48) (show xcode 177 48 = some (.iconst 1, 1, 0, 0) from by decide +kernel) (zz_goto (pc := 49) (show xcode 177 49 = some (.goto 4, 3, 53, 0) from by decide +kernel) (zz_iadd (pc := 53) (show xcode 177 53 = some (.iadd, 1, 0, 0) from by decide +kernel) (zz_istore_n (pc := 54) (show xcode 177 54 = some (.istore_n 2, 1, 0, 0) from by decide +kernel) (by decide +kernel) (zG_ro (ρ' := [(2, .int (Int32.ofInt (v + (1)))), (0, .ref 115), (1, .int (Int32.ofInt x)), (3, .int (Int32.ofInt i))]) rfl (zz_iinc (pc := 55) (show xcode 177 55 = some (.iinc 3 1, 3, 0, 0) from by decide +kernel) (zmem 3 rfl) (by decide +kernel) (zG_ro (ρ' := [(3, .int (Int32.ofInt (i + 1))), (2, .int (Int32.ofInt (v + (1)))), (0, .ref 115), (1, .int (Int32.ofInt x))]) rfl (zz_goto (pc := 58) (show xcode 177 58 = some (.goto (-54), 3, 4, 0) from by decide +kernel) (zG_mono (N := zn * 32 + 32) (by omega) (zG_sub (List.forall_mem_cons.mpr ⟨zmem 2 rfl, (List.forall_mem_cons.mpr ⟨zmem 3 rfl, (List.forall_mem_cons.mpr ⟨zmem 1 rfl, (List.forall_mem_cons.mpr ⟨zmem 0 rfl, (fun p hp => absurd hp List.not_mem_nil)⟩)⟩)⟩)⟩) (ih (v + (1)) (i + 1)  (by have hr1 := hri (by omega); rw [hv]; first | (exact (zcount_t hi.1 (by unfold zbfr; omega)).symm) | (rw [Int.add_zero]; exact (zcount_f hi.1 (by unfold zbfr; omega)).symm)) (by omega) (by omega)))))))))))) (fun (zc4 : ¬ ((M 120 x.toNat) < (M 120 i.toNat))) => zz_aload_n (pc := 28) (show xcode 177 28 = some (.aload_n 0, 1, 0, 0) from by decide +kernel) (zmem 0 rfl) (zz_getR (pc := 29) (show xcode 177 29 = some (.getfield 22, 3, 11, 5) from by decide +kernel) zis_115 (by decide +kernel) rfl (zz_iload_n (pc := 32) (show xcode 177 32 = some (.iload_n 3, 1, 0, 0) from by decide +kernel) (zmem 3 rfl) (zz_iald (pc := 33) (show xcode 177 33 = some (.iaload, 1, 0, 0) from by decide +kernel) zis_120 (by omega) (zz_aload_n (pc := 34) (show xcode 177 34 = some (.aload_n 0, 1, 0, 0) from by decide +kernel) (zmem 0 rfl) (zz_getR (pc := 35) (show xcode 177 35 = some (.getfield 22, 3, 11, 5) from by decide +kernel) zis_115 (by decide +kernel) rfl (zz_iload_n (pc := 38) (show xcode 177 38 = some (.iload_n 1, 1, 0, 0) from by decide +kernel) (zmem 1 rfl) (zz_iald (pc := 39) (show xcode 177 39 = some (.iaload, 1, 0, 0) from by decide +kernel) zis_120 (by omega) (zz_icmp (pc := 40) (show xcode 177 40 = some (.if_icmp .ne 12, 3, 52, 0) from by decide +kernel) (by unfold zr32; omega) (by unfold zr32; omega) (fun (zc5 : ¬ ((M 120 i.toNat) = (M 120 x.toNat))) => zz_iconst (pc := 52) (show xcode 177 52 = some (.iconst 0, 1, 0, 0) from by decide +kernel) (zz_iadd (pc := 53) (show xcode 177 53 = some (.iadd, 1, 0, 0) from by decide +kernel) (zz_istore_n (pc := 54) (show xcode 177 54 = some (.istore_n 2, 1, 0, 0) from by decide +kernel) (by decide +kernel) (zG_ro (ρ' := [(2, .int (Int32.ofInt (v + (0)))), (0, .ref 115), (1, .int (Int32.ofInt x)), (3, .int (Int32.ofInt i))]) rfl (zz_iinc (pc := 55) (show xcode 177 55 = some (.iinc 3 1, 3, 0, 0) from by decide +kernel) (zmem 3 rfl) (by decide +kernel) (zG_ro (ρ' := [(3, .int (Int32.ofInt (i + 1))), (2, .int (Int32.ofInt (v + (0)))), (0, .ref 115), (1, .int (Int32.ofInt x))]) rfl (zz_goto (pc := 58) (show xcode 177 58 = some (.goto (-54), 3, 4, 0) from by decide +kernel) (zG_mono (N := zn * 32 + 32) (by omega) (zG_sub (List.forall_mem_cons.mpr ⟨zmem 2 rfl, (List.forall_mem_cons.mpr ⟨zmem 3 rfl, (List.forall_mem_cons.mpr ⟨zmem 1 rfl, (List.forall_mem_cons.mpr ⟨zmem 0 rfl, (fun p hp => absurd hp List.not_mem_nil)⟩)⟩)⟩)⟩) (ih (v + (0)) (i + 1)  (by have hr1 := hri (by omega); rw [hv]; first | (exact (zcount_t hi.1 (by unfold zbfr; omega)).symm) | (rw [Int.add_zero]; exact (zcount_f hi.1 (by unfold zbfr; omega)).symm)) (by omega) (by omega))))))))))) (fun zc60 => have zc6 : (M 120 i.toNat) = (M 120 x.toNat) := Classical.not_not.mp zc60; zz_iload_n (pc := 43) (show xcode 177 43 = some (.iload_n 3, 1, 0, 0) from by decide +kernel) (zmem 3 rfl) (zz_iload_n (pc := 44) (show xcode 177 44 = some (.iload_n 1, 1, 0, 0) from by decide +kernel) (zmem 1 rfl) (zz_icmp (pc := 45) (show xcode 177 45 = some (.if_icmp .ge 7, 3, 52, 0) from by decide +kernel) (by unfold zr32; omega) (by unfold zr32; omega) (fun (zc7 : ¬ (i < x)) => zz_iconst (pc := 52) (show xcode 177 52 = some (.iconst 0, 1, 0, 0) from by decide +kernel) (zz_iadd (pc := 53) (show xcode 177 53 = some (.iadd, 1, 0, 0) from by decide +kernel) (zz_istore_n (pc := 54) (show xcode 177 54 = some (.istore_n 2, 1, 0, 0) from by decide +kernel) (by decide +kernel) (zG_ro (ρ' := [(2, .int (Int32.ofInt (v + (0)))), (0, .ref 115), (1, .int (Int32.ofInt x)), (3, .int (Int32.ofInt i))]) rfl (zz_iinc (pc := 55) (show xcode 177 55 = some (.iinc 3 1, 3, 0, 0) from by decide +kernel) (zmem 3 rfl) (by decide +kernel) (zG_ro (ρ' := [(3, .int (Int32.ofInt (i + 1))), (2, .int (Int32.ofInt (v + (0)))), (0, .ref 115), (1, .int (Int32.ofInt x))]) rfl (zz_goto (pc := 58) (show xcode 177 58 = some (.goto (-54), 3, 4, 0) from by decide +kernel) (zG_mono (N := zn * 32 + 32) (by omega) (zG_sub (List.forall_mem_cons.mpr ⟨zmem 2 rfl, (List.forall_mem_cons.mpr ⟨zmem 3 rfl, (List.forall_mem_cons.mpr ⟨zmem 1 rfl, (List.forall_mem_cons.mpr ⟨zmem 0 rfl, (fun p hp => absurd hp List.not_mem_nil)⟩)⟩)⟩)⟩) (ih (v + (0)) (i + 1)  (by have hr1 := hri (by omega); rw [hv]; first | (exact (zcount_t hi.1 (by unfold zbfr; omega)).symm) | (rw [Int.add_zero]; exact (zcount_f hi.1 (by unfold zbfr; omega)).symm)) (by omega) (by omega))))))))))) (fun zc80 => have zc8 : i < x := Classical.not_not.mp zc80; zz_iconst (pc := 48) (show xcode 177 48 = some (.iconst 1, 1, 0, 0) from by decide +kernel) (zz_goto (pc := 49) (show xcode 177 49 = some (.goto 4, 3, 53, 0) from by decide +kernel) (zz_iadd (pc := 53) (show xcode 177 53 = some (.iadd, 1, 0, 0) from by decide +kernel) (zz_istore_n (pc := 54) (show xcode 177 54 = some (.istore_n 2, 1, 0, 0) from by decide +kernel) (by decide +kernel) (zG_ro (ρ' := [(2, .int (Int32.ofInt (v + (1)))), (0, .ref 115), (1, .int (Int32.ofInt x)), (3, .int (Int32.ofInt i))]) rfl (zz_iinc (pc := 55) (show xcode 177 55 = some (.iinc 3 1, 3, 0, 0) from by decide +kernel) (zmem 3 rfl) (by decide +kernel) (zG_ro (ρ' := [(3, .int (Int32.ofInt (i + 1))), (2, .int (Int32.ofInt (v + (1)))), (0, .ref 115), (1, .int (Int32.ofInt x))]) rfl (zz_goto (pc := 58) (show xcode 177 58 = some (.goto (-54), 3, 4, 0) from by decide +kernel) (zG_mono (N := zn * 32 + 32) (by omega) (zG_sub (List.forall_mem_cons.mpr ⟨zmem 2 rfl, (List.forall_mem_cons.mpr ⟨zmem 3 rfl, (List.forall_mem_cons.mpr ⟨zmem 1 rfl, (List.forall_mem_cons.mpr ⟨zmem 0 rfl, (fun p hp => absurd hp List.not_mem_nil)⟩)⟩)⟩)⟩) (ih (v + (1)) (i + 1)  (by have hr1 := hri (by omega); rw [hv]; first | (exact (zcount_t hi.1 (by unfold zbfr; omega)).symm) | (rw [Int.add_zero]; exact (zcount_f hi.1 (by unfold zbfr; omega)).symm)) (by omega) (by omega))))))))))))))))))))))))))))))))))))))
theorem sp_rankOfR {xs : List Int32} {d : Nat} {w : Bool} {M : zM} {C : zM} {n : Int} (hB : zBI n C zn1) {x : Int} (hA : rA C M) (hL : rB C M) (hx : 0 ≤ x ∧ x < zsz C zn1) : xrun2 xs (d + 2) 177 [.ref 115, .int (Int32.ofInt x)] (w, zheap M) = some (.inl (some (.int (Int32.ofInt (zrkk (C (zn1 + 11)) (zsz C zn1).toNat x.toNat)))), (w, zheap M)) := by
  obtain ⟨⟨a1, a2⟩, a3⟩ := id hA
  obtain ⟨⟨g1, g2⟩, ⟨g3, g4⟩, g5⟩ := id hB.g
  obtain ⟨g6, g7⟩ := hB.g.sz
  have hz : zsz C zn1 = C (zn1 + 1) 0 * C (zn1 + 1) 1 := rfl
  exact zrun_v (N := 1188) (by decide) rfl (zz_iconst (pc := 0) (show xcode 177 0 = some (.iconst 0, 1, 0, 0) from by decide +kernel) (zz_istore_n (pc := 1) (show xcode 177 1 = some (.istore_n 2, 1, 0, 0) from by decide +kernel) (by decide +kernel) (zG_ro (ρ' := [(2, .int (Int32.ofInt (0))), (0, .ref 115), (1, .int (Int32.ofInt x))]) rfl (zz_iconst (pc := 2) (show xcode 177 2 = some (.iconst 0, 1, 0, 0) from by decide +kernel) (zz_istore_n (pc := 3) (show xcode 177 3 = some (.istore_n 3, 1, 0, 0) from by decide +kernel) (by decide +kernel) (zG_ro (ρ' := [(3, .int (Int32.ofInt (0))), (2, .int (Int32.ofInt (0))), (0, .ref 115), (1, .int (Int32.ofInt x))]) rfl (zG_mono (N := 1184) (by omega) (zG_sub (List.forall_mem_cons.mpr ⟨zmem 2 rfl, (List.forall_mem_cons.mpr ⟨zmem 3 rfl, (List.forall_mem_cons.mpr ⟨zmem 1 rfl, (List.forall_mem_cons.mpr ⟨zmem 0 rfl, (fun p hp => absurd hp List.not_mem_nil)⟩)⟩)⟩)⟩) (zl_rankOfR_4 hB hA hL hx 36 _ _ rfl (by omega) (by omega))))))))))
theorem zl_atRankR_2 {xs : List Int32} {d : Nat} {w : Bool} {M : zM} {C : zM} {n : Int} (hB : zBI n C zn1) (hA : rA C M) (hL : rB C M) {x : Int} (hx : 0 ≤ x ∧ x < zsz C zn1)  : ∀ (zn : Nat) (c : Int), (0 ≤ c ∧ c ≤ zrkM C zn1 106 x.toNat) → zrkM C zn1 106 x.toNat - c + 1 ≤ (zn : Int) → zG (xstep (xrun2 xs (d + 2)) xs 178) 178 (zn * 7 + 7) 2 [(0, .ref 115), (1, .int (Int32.ofInt x)), (2, .int (Int32.ofInt c))] [] 0 0 w M (fun o σ => o = (.inl (some (.int (Int32.ofInt (zrkM C zn1 106 x.toNat)))) : XO) ∧ σ = (w, zheap M)) := by
  intro zn
  induction zn with
  | zero =>
    intro c hc hm
    obtain ⟨⟨a1, a2⟩, a3⟩ := id hA
    obtain ⟨⟨g1, g2⟩, ⟨g3, g4⟩, g5⟩ := id hB.g
    obtain ⟨g6, g7⟩ := hB.g.sz
    have hz : zsz C zn1 = C (zn1 + 1) 0 * C (zn1 + 1) 1 := rfl
    obtain ⟨o1, o2, o3⟩ := zord (C := C) (i := x.toNat) (by omega)
    have ob := zcount_b (fun y => zbfr (C (zn1 + 11)) y c.toNat) (zsz C zn1).toNat
    have ox : ((x.toNat : Nat) : Int) = x := Int.toNat_of_nonneg hx.1
    have oi : 0 ≤ c → c < zsz C zn1 → zrkk (C (zn1 + 11)) (zsz C zn1).toNat c.toNat = x → c = zrkM C zn1 106 x.toNat := fun h1 h2 h3 => by
      have := zrkk_inj (F := C (zn1 + 11)) (n := (zsz C zn1).toNat) (c := c.toNat) (c' := (zrkM C zn1 106 x.toNat).toNat) (by omega) (by omega) (by rw [h3, o3, ox])
      omega
    have oj : c = zrkM C zn1 106 x.toNat → zrkk (C (zn1 + 11)) (zsz C zn1).toNat c.toNat = x := fun h => by rw [h, o3, ox]
    exact zG_mono (N := 0 + 7) (by omega) (zz_aload_n (pc := 2) (show xcode 178 2 = some (.aload_n 0, 1, 0, 0) from by decide +kernel) (zmem 0 rfl) (zz_iload_n (pc := 3) (show xcode 178 3 = some (.iload_n 2, 1, 0, 0) from by decide +kernel) (zmem 2 rfl) (zz_call_v (pc := 4) (cu := 0) (su := 0) (fun ls hr => zz_calV (show xcode 178 4 = some (.invokevirtual 234, 3, 177, 0) from by decide +kernel) rfl zis_115 ls hr) rfl (sp_rankOfR (d := d) hB hA hL (by omega)) (zz_iload_n (pc := 7) (show xcode 178 7 = some (.iload_n 1, 1, 0, 0) from by decide +kernel) (zmem 1 rfl) (zz_icmp (pc := 8) (show xcode 178 8 = some (.if_icmp .eq 9, 3, 17, 0) from by decide +kernel) (by unfold zrkk zr32; omega) (by unfold zr32; omega) (fun (zc1 : (zrkk (C (zn1 + 11)) (zsz C zn1).toNat c.toNat) = x) => zz_iload_n (pc := 17) (show xcode 178 17 = some (.iload_n 2, 1, 0, 0) from by decide +kernel) (zmem 2 rfl) (zz_ireturn (pc := 18) (show xcode 178 18 = some (.ireturn, 1, 0, 0) from by decide +kernel) rfl (by decide +kernel) (by decide +kernel) (by exact ⟨zq_i (oi (by omega) (by omega) (by first | assumption | omega)), rfl⟩))) (fun (zc2 : ¬ ((zrkk (C (zn1 + 11)) (zsz C zn1).toNat c.toNat) = x)) => zz_iinc (pc := 11) (show xcode 178 11 = some (.iinc 2 1, 3, 0, 0) from by decide +kernel) (zmem 2 rfl) (by decide +kernel) (zG_ro (ρ' := [(2, .int (Int32.ofInt (c + 1))), (0, .ref 115), (1, .int (Int32.ofInt x))]) rfl (zz_goto (pc := 14) (show xcode 178 14 = some (.goto (-12), 3, 2, 0) from by decide +kernel) ((by exfalso; omega))))))))))
  | succ zn ih =>
    intro c hc hm
    obtain ⟨⟨a1, a2⟩, a3⟩ := id hA
    obtain ⟨⟨g1, g2⟩, ⟨g3, g4⟩, g5⟩ := id hB.g
    obtain ⟨g6, g7⟩ := hB.g.sz
    have hz : zsz C zn1 = C (zn1 + 1) 0 * C (zn1 + 1) 1 := rfl
    obtain ⟨o1, o2, o3⟩ := zord (C := C) (i := x.toNat) (by omega)
    have ob := zcount_b (fun y => zbfr (C (zn1 + 11)) y c.toNat) (zsz C zn1).toNat
    have ox : ((x.toNat : Nat) : Int) = x := Int.toNat_of_nonneg hx.1
    have oi : 0 ≤ c → c < zsz C zn1 → zrkk (C (zn1 + 11)) (zsz C zn1).toNat c.toNat = x → c = zrkM C zn1 106 x.toNat := fun h1 h2 h3 => by
      have := zrkk_inj (F := C (zn1 + 11)) (n := (zsz C zn1).toNat) (c := c.toNat) (c' := (zrkM C zn1 106 x.toNat).toNat) (by omega) (by omega) (by rw [h3, o3, ox])
      omega
    have oj : c = zrkM C zn1 106 x.toNat → zrkk (C (zn1 + 11)) (zsz C zn1).toNat c.toNat = x := fun h => by rw [h, o3, ox]
    exact zG_mono (N := zn * 7 + 7 + 0 + 7) (by omega) (zz_aload_n (pc := 2) (show xcode 178 2 = some (.aload_n 0, 1, 0, 0) from by decide +kernel) (zmem 0 rfl) (zz_iload_n (pc := 3) (show xcode 178 3 = some (.iload_n 2, 1, 0, 0) from by decide +kernel) (zmem 2 rfl) (zz_call_v (pc := 4) (cu := 0) (su := 0) (fun ls hr => zz_calV (show xcode 178 4 = some (.invokevirtual 234, 3, 177, 0) from by decide +kernel) rfl zis_115 ls hr) rfl (sp_rankOfR (d := d) hB hA hL (by omega)) (zz_iload_n (pc := 7) (show xcode 178 7 = some (.iload_n 1, 1, 0, 0) from by decide +kernel) (zmem 1 rfl) (zz_icmp (pc := 8) (show xcode 178 8 = some (.if_icmp .eq 9, 3, 17, 0) from by decide +kernel) (by unfold zrkk zr32; omega) (by unfold zr32; omega) (fun (zc1 : (zrkk (C (zn1 + 11)) (zsz C zn1).toNat c.toNat) = x) => zz_iload_n (pc := 17) (show xcode 178 17 = some (.iload_n 2, 1, 0, 0) from by decide +kernel) (zmem 2 rfl) (zz_ireturn (pc := 18) (show xcode 178 18 = some (.ireturn, 1, 0, 0) from by decide +kernel) rfl (by decide +kernel) (by decide +kernel) (by exact ⟨zq_i (oi (by omega) (by omega) (by first | assumption | omega)), rfl⟩))) (fun (zc2 : ¬ ((zrkk (C (zn1 + 11)) (zsz C zn1).toNat c.toNat) = x)) => zz_iinc (pc := 11) (show xcode 178 11 = some (.iinc 2 1, 3, 0, 0) from by decide +kernel) (zmem 2 rfl) (by decide +kernel) (zG_ro (ρ' := [(2, .int (Int32.ofInt (c + 1))), (0, .ref 115), (1, .int (Int32.ofInt x))]) rfl (zz_goto (pc := 14) (show xcode 178 14 = some (.goto (-12), 3, 2, 0) from by decide +kernel) (zG_mono (N := zn * 7 + 7) (by omega) (zG_sub (List.forall_mem_cons.mpr ⟨zmem 1 rfl, (List.forall_mem_cons.mpr ⟨zmem 2 rfl, (List.forall_mem_cons.mpr ⟨zmem 0 rfl, (fun p hp => absurd hp List.not_mem_nil)⟩)⟩)⟩) (ih (c + 1)  (by have h9 : ¬ c = zrkM C zn1 106 x.toNat := (fun e => absurd (oj e) (by assumption)); omega) (by omega))))))))))))
theorem sp_atRankR {xs : List Int32} {d : Nat} {w : Bool} {M : zM} {C : zM} {n : Int} (hB : zBI n C zn1) {x : Int} (hA : rA C M) (hL : rB C M) (hx : 0 ≤ x ∧ x < zsz C zn1) : xrun2 xs (d + 3) 178 [.ref 115, .int (Int32.ofInt x)] (w, zheap M) = some (.inl (some (.int (Int32.ofInt (zrkM C zn1 106 x.toNat)))), (w, zheap M)) := by
  obtain ⟨⟨a1, a2⟩, a3⟩ := id hA
  obtain ⟨⟨g1, g2⟩, ⟨g3, g4⟩, g5⟩ := id hB.g
  obtain ⟨g6, g7⟩ := hB.g.sz
  have hz : zsz C zn1 = C (zn1 + 1) 0 * C (zn1 + 1) 1 := rfl
  obtain ⟨o1, o2, o3⟩ := zord (C := C) (i := x.toNat) (by omega)
  have ob := zcount_b (fun y => zbfr (C (zn1 + 11)) y x.toNat) (zsz C zn1).toNat
  exact zrun_v (N := 275) (by decide) rfl (zz_iconst (pc := 0) (show xcode 178 0 = some (.iconst 0, 1, 0, 0) from by decide +kernel) (zz_istore_n (pc := 1) (show xcode 178 1 = some (.istore_n 2, 1, 0, 0) from by decide +kernel) (by decide +kernel) (zG_ro (ρ' := [(2, .int (Int32.ofInt (0))), (0, .ref 115), (1, .int (Int32.ofInt x))]) rfl (zG_mono (N := 273) (by omega) (zG_sub (List.forall_mem_cons.mpr ⟨zmem 1 rfl, (List.forall_mem_cons.mpr ⟨zmem 2 rfl, (List.forall_mem_cons.mpr ⟨zmem 0 rfl, (fun p hp => absurd hp List.not_mem_nil)⟩)⟩)⟩) (zl_atRankR_2 hB hA hL hx 38 _ (by omega) (by omega)))))))
theorem sp_rankedR_0 {xs : List Int32} {d : Nat} {w : Bool} {M : zM} {C : zM} {n : Int} (hB : zBI n C zn1) {x : Int} (hx : zr32 x) (hA : rA C M) (hL : rB C M) (c0 : ¬ (0 ≤ x ∧ x < zsz C zn1)) : xrun2 xs (d + 4) 179 [.ref 115, .int (Int32.ofInt x)] (w, zheap M) = some (.inl (some (.int (Int32.ofInt (0)))), (w, zheap (zup M 115 0 1))) := by
  obtain ⟨⟨a1, a2⟩, a3⟩ := id hA
  obtain ⟨⟨g1, g2⟩, ⟨g3, g4⟩, g5⟩ := id hB.g
  obtain ⟨g6, g7⟩ := hB.g.sz
  have hz : zsz C zn1 = C (zn1 + 1) 0 * C (zn1 + 1) 1 := rfl
  exact zrun_v (N := 14) (by decide) rfl (zz_iload_n (pc := 0) (show xcode 179 0 = some (.iload_n 1, 1, 0, 0) from by decide +kernel) (zmem 1 rfl) (zz_iconst (pc := 1) (show xcode 179 1 = some (.iconst 0, 1, 0, 0) from by decide +kernel) (zz_aload_n (pc := 2) (show xcode 179 2 = some (.aload_n 0, 1, 0, 0) from by decide +kernel) (zmem 0 rfl) (zz_call_v (pc := 3) (cu := 0) (su := 0) (fun ls hr => zz_calV (show xcode 179 3 = some (.invokevirtual 96, 3, 134, 0) from by decide +kernel) rfl zis_115 ls hr) rfl (sp_cellsR (d := d + 2) hB hA) (zz_iconst (pc := 6) (show xcode 179 6 = some (.iconst 1, 1, 0, 0) from by decide +kernel) (zz_isub (pc := 7) (show xcode 179 7 = some (.isub, 1, 0, 0) from by decide +kernel) (zz_call_v (pc := 8) (cu := 0) (su := 0) (fun ls hr => zz_calS (show xcode 179 8 = some (.invokestatic 175, 3, 133, 0) from by decide +kernel) rfl ls hr) rfl (sp_isBetweenR (d := d + 2) hx (by unfold zr32; omega) (by unfold zr32; omega)) (zz_ifbne (pc := 11) (show xcode 179 11 = some (.ifCond .ne 9, 3, 20, 0) from by decide +kernel) (fun (zc1 : (0) ≤ x ∧ x ≤ ((zsz C zn1) - (1))) => zz_aload_n (pc := 20) (show xcode 179 20 = some (.aload_n 0, 1, 0, 0) from by decide +kernel) (zmem 0 rfl) (zz_iconst (pc := 21) (show xcode 179 21 = some (.iconst 0, 1, 0, 0) from by decide +kernel) (zz_putI (pc := 22) (show xcode 179 22 = some (.putfield 93, 3, 11, 0) from by decide +kernel) zis_115 (by decide +kernel) rfl (by decide +kernel) (zm_as (fun zM3 (ezM3 : zM3 = zup M 115 0 (0)) => zz_aload_n (pc := 25) (show xcode 179 25 = some (.aload_n 0, 1, 0, 0) from by decide +kernel) (zmem 0 rfl) (zz_iload_n (pc := 26) (show xcode 179 26 = some (.iload_n 1, 1, 0, 0) from by decide +kernel) (zmem 1 rfl) (zz_call_v (pc := 27) (cu := 0) (su := 0) (fun ls hr => zz_calV (show xcode 179 27 = some (.invokevirtual 237, 3, 178, 0) from by decide +kernel) rfl zis_115 ls hr) rfl (sp_atRankR (d := d) hB (by subst_vars; exact rA_c (by first | rfl | simp (disch := decide) only [zup_o, zup_or, zup_ne, ztab_or, zrow_o, rsc_o, rm1_o, rm1_5, remM_o, remM_5]) (by first | rfl | simp (disch := decide) only [zup_o, zup_or, zup_ne, ztab_or, zrow_o, rsc_o, rm1_o, rm1_5, remM_o, remM_5]) (by first | rfl | simp (disch := decide) only [zup_o, zup_or, zup_ne, ztab_or, zrow_o, rsc_o, rm1_o, rm1_5, remM_o, remM_5]) hA) (by subst_vars; exact rB_c (by first | rfl | simp (disch := decide) only [zup_o, zup_or, zup_ne, ztab_or, zrow_o, rsc_o, rm1_o, rm1_5, remM_o, remM_5]) hL) (by omega)) (zz_ireturn (pc := 30) (show xcode 179 30 = some (.ireturn, 1, 0, 0) from by decide +kernel) rfl (by decide +kernel) (by decide +kernel) (by first | (exfalso; first | omega | contradiction) | (subst_vars; exact ⟨rfl, rfl⟩)))))))))) (fun (zc2 : ¬ ((0) ≤ x ∧ x ≤ ((zsz C zn1) - (1)))) => zz_aload_n (pc := 14) (show xcode 179 14 = some (.aload_n 0, 1, 0, 0) from by decide +kernel) (zmem 0 rfl) (zz_iconst (pc := 15) (show xcode 179 15 = some (.iconst 1, 1, 0, 0) from by decide +kernel) (zz_call_v (pc := 16) (cu := 0) (su := 0) (fun ls hr => zz_calV (show xcode 179 16 = some (.invokevirtual 179, 3, 131, 0) from by decide +kernel) rfl zis_115 ls hr) rfl (sp_failsR (d := d + 2) ) (zm_as (fun zM4 (ezM4 : zM4 = zup M 115 0 (1)) => zz_ireturn (pc := 19) (show xcode 179 19 = some (.ireturn, 1, 0, 0) from by decide +kernel) rfl (by decide +kernel) (by decide +kernel) (by first | (exfalso; first | omega | contradiction) | (subst_vars; exact ⟨rfl, rfl⟩)))))))))))))))
theorem sp_rankedR_1 {xs : List Int32} {d : Nat} {w : Bool} {M : zM} {C : zM} {n : Int} (hB : zBI n C zn1) {x : Int} (hx : zr32 x) (hA : rA C M) (hL : rB C M) (c0 : ¬ (¬ (0 ≤ x ∧ x < zsz C zn1))) : xrun2 xs (d + 4) 179 [.ref 115, .int (Int32.ofInt x)] (w, zheap M) = some (.inl (some (.int (Int32.ofInt (zrkM C zn1 106 x.toNat)))), (w, zheap (zup M 115 0 0))) := by
  obtain ⟨⟨a1, a2⟩, a3⟩ := id hA
  obtain ⟨⟨g1, g2⟩, ⟨g3, g4⟩, g5⟩ := id hB.g
  obtain ⟨g6, g7⟩ := hB.g.sz
  have hz : zsz C zn1 = C (zn1 + 1) 0 * C (zn1 + 1) 1 := rfl
  exact zrun_v (N := 14) (by decide) rfl (zz_iload_n (pc := 0) (show xcode 179 0 = some (.iload_n 1, 1, 0, 0) from by decide +kernel) (zmem 1 rfl) (zz_iconst (pc := 1) (show xcode 179 1 = some (.iconst 0, 1, 0, 0) from by decide +kernel) (zz_aload_n (pc := 2) (show xcode 179 2 = some (.aload_n 0, 1, 0, 0) from by decide +kernel) (zmem 0 rfl) (zz_call_v (pc := 3) (cu := 0) (su := 0) (fun ls hr => zz_calV (show xcode 179 3 = some (.invokevirtual 96, 3, 134, 0) from by decide +kernel) rfl zis_115 ls hr) rfl (sp_cellsR (d := d + 2) hB hA) (zz_iconst (pc := 6) (show xcode 179 6 = some (.iconst 1, 1, 0, 0) from by decide +kernel) (zz_isub (pc := 7) (show xcode 179 7 = some (.isub, 1, 0, 0) from by decide +kernel) (zz_call_v (pc := 8) (cu := 0) (su := 0) (fun ls hr => zz_calS (show xcode 179 8 = some (.invokestatic 175, 3, 133, 0) from by decide +kernel) rfl ls hr) rfl (sp_isBetweenR (d := d + 2) hx (by unfold zr32; omega) (by unfold zr32; omega)) (zz_ifbne (pc := 11) (show xcode 179 11 = some (.ifCond .ne 9, 3, 20, 0) from by decide +kernel) (fun (zc1 : (0) ≤ x ∧ x ≤ ((zsz C zn1) - (1))) => zz_aload_n (pc := 20) (show xcode 179 20 = some (.aload_n 0, 1, 0, 0) from by decide +kernel) (zmem 0 rfl) (zz_iconst (pc := 21) (show xcode 179 21 = some (.iconst 0, 1, 0, 0) from by decide +kernel) (zz_putI (pc := 22) (show xcode 179 22 = some (.putfield 93, 3, 11, 0) from by decide +kernel) zis_115 (by decide +kernel) rfl (by decide +kernel) (zm_as (fun zM3 (ezM3 : zM3 = zup M 115 0 (0)) => zz_aload_n (pc := 25) (show xcode 179 25 = some (.aload_n 0, 1, 0, 0) from by decide +kernel) (zmem 0 rfl) (zz_iload_n (pc := 26) (show xcode 179 26 = some (.iload_n 1, 1, 0, 0) from by decide +kernel) (zmem 1 rfl) (zz_call_v (pc := 27) (cu := 0) (su := 0) (fun ls hr => zz_calV (show xcode 179 27 = some (.invokevirtual 237, 3, 178, 0) from by decide +kernel) rfl zis_115 ls hr) rfl (sp_atRankR (d := d) hB (by subst_vars; exact rA_c (by first | rfl | simp (disch := decide) only [zup_o, zup_or, zup_ne, ztab_or, zrow_o, rsc_o, rm1_o, rm1_5, remM_o, remM_5]) (by first | rfl | simp (disch := decide) only [zup_o, zup_or, zup_ne, ztab_or, zrow_o, rsc_o, rm1_o, rm1_5, remM_o, remM_5]) (by first | rfl | simp (disch := decide) only [zup_o, zup_or, zup_ne, ztab_or, zrow_o, rsc_o, rm1_o, rm1_5, remM_o, remM_5]) hA) (by subst_vars; exact rB_c (by first | rfl | simp (disch := decide) only [zup_o, zup_or, zup_ne, ztab_or, zrow_o, rsc_o, rm1_o, rm1_5, remM_o, remM_5]) hL) (by omega)) (zz_ireturn (pc := 30) (show xcode 179 30 = some (.ireturn, 1, 0, 0) from by decide +kernel) rfl (by decide +kernel) (by decide +kernel) (by first | (exfalso; first | omega | contradiction) | (subst_vars; exact ⟨rfl, rfl⟩)))))))))) (fun (zc2 : ¬ ((0) ≤ x ∧ x ≤ ((zsz C zn1) - (1)))) => zz_aload_n (pc := 14) (show xcode 179 14 = some (.aload_n 0, 1, 0, 0) from by decide +kernel) (zmem 0 rfl) (zz_iconst (pc := 15) (show xcode 179 15 = some (.iconst 1, 1, 0, 0) from by decide +kernel) (zz_call_v (pc := 16) (cu := 0) (su := 0) (fun ls hr => zz_calV (show xcode 179 16 = some (.invokevirtual 179, 3, 131, 0) from by decide +kernel) rfl zis_115 ls hr) rfl (sp_failsR (d := d + 2) ) (zm_as (fun zM4 (ezM4 : zM4 = zup M 115 0 (1)) => zz_ireturn (pc := 19) (show xcode 179 19 = some (.ireturn, 1, 0, 0) from by decide +kernel) rfl (by decide +kernel) (by decide +kernel) (by first | (exfalso; first | omega | contradiction) | (subst_vars; exact ⟨rfl, rfl⟩)))))))))))))))
