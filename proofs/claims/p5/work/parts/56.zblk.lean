/-! What a state block holds. -/
def zNx (M : zM) (a : Nat) : Prop := ∀ j : Nat, (j : Int) < zsz M a * 4 → M (a + 4) j = zcnF M a j
def zTs (M : zM) (a : Nat) : Prop := ∀ i : Nat, (i : Int) < zmi (ztot M a) 8 → (M (a + 9) i < 4 ∧ ∀ y : Nat, y < 4 → M (a + 10) (i * 36 + y) ≤ 16) ∨ 10 ≤ M (a + 9) i
def zB1 (M : zM) (a : Nat) : Prop := zGr M a ∧ zNb M a ∧ zNx M a ∧ 0 < zmany M a
def zB2 (M : zM) (a : Nat) : Prop := zBl M a ∧ zsum (M (a + 11)) (zsz M a).toNat = 1000000 ∧ (∀ j : Nat, (j : Int) < zsz M a → ¬ zfreeN M a j → M (a + 11) j = 0)
def zB3 (M : zM) (a : Nat) : Prop := zTb M a ∧ zms M a 4 = 16
def zB4 (n : Int) (M : zM) (a : Nat) : Prop := zTr M a ∧ (M (a + 8) 1 ≤ n ∧ M (a + 8) 2 ≤ n) ∧ zTs M a ∧ (M (a + 8) 0 = -1 ∨ zfree M a (M (a + 8) 0))
def zB6 (M : zM) (a : Nat) : Prop := zfree M a (M a 4)
def zBI (n : Int) (M : zM) (a : Nat) : Prop := zB1 M a ∧ zB2 M a ∧ zB3 M a ∧ zB4 n M a ∧ zCo M a ∧ zB6 M a
theorem zBI.b1 {n : Int} {M : zM} {a : Nat} (h : zBI n M a) : zB1 M a := h.1
theorem zBI.b2 {n : Int} {M : zM} {a : Nat} (h : zBI n M a) : zB2 M a := h.2.1
theorem zBI.b3 {n : Int} {M : zM} {a : Nat} (h : zBI n M a) : zB3 M a := h.2.2.1
theorem zBI.b4 {n : Int} {M : zM} {a : Nat} (h : zBI n M a) : zB4 n M a := h.2.2.2.1
theorem zBI.b5 {n : Int} {M : zM} {a : Nat} (h : zBI n M a) : zCo M a := h.2.2.2.2.1
theorem zBI.b6 {n : Int} {M : zM} {a : Nat} (h : zBI n M a) : zB6 M a := h.2.2.2.2.2
theorem zBI.g {n : Int} {M : zM} {a : Nat} (h : zBI n M a) : zGr M a := h.b1.1
theorem zcount_cc {P P' : Nat → Prop} : ∀ n, (∀ j, j < n → (P j ↔ P' j)) → zcount P n = zcount P' n
  | 0, _ => rfl
  | n + 1, h => by
    show zcount P n + zb (P n) = zcount P' n + zb (P' n)
    rw [zcount_cc n (fun j hj => h j (by omega)), show P n = P' n from propext (h n (by omega))]
/-- the same cells are free -/
def zEf (M : zM) (a : Nat) (M0 : zM) (b : Nat) : Prop := (M (a + 1) 0 = M0 (b + 1) 0 ∧ M (a + 1) 1 = M0 (b + 1) 1) ∧ ∀ c : Int, zfree M a c ↔ zfree M0 b c
theorem zEf.sz {M M0 : zM} {a b : Nat} (h : zEf M a M0 b) : zsz M a = zsz M0 b := by
  unfold zsz
  rw [h.1.1, h.1.2]
theorem zEf.many {M M0 : zM} {a b : Nat} (h : zEf M a M0 b) : zmany M a = zmany M0 b := by
  unfold zmany
  rw [h.sz]
  exact zcount_cc _ (fun j _ => h.2 (j : Int))
theorem zEf.cn {M M0 : zM} {a b : Nat} (h : zEf M a M0 b) : zcnF M a = zcnF M0 b := by
  funext j
  unfold zcnF zjn
  rw [h.1.1, show (zfree M a ((j : Int) / 4) ∧ zfree M a (znx (M0 (b + 1) 0) ((j : Int) / 4) ((j : Int) % 4))) = (zfree M0 b ((j : Int) / 4) ∧ zfree M0 b (znx (M0 (b + 1) 0) ((j : Int) / 4) ((j : Int) % 4))) from propext ⟨fun e => ⟨(h.2 _).mp e.1, (h.2 _).mp e.2⟩, fun e => ⟨(h.2 _).mpr e.1, (h.2 _).mpr e.2⟩⟩]
theorem zEf.fr {M M0 : zM} {a b : Nat} (h : zEf M a M0 b) (j : Nat) : zfreeN M a j ↔ zfreeN M0 b j := h.2 (j : Int)
theorem zE2.ef {M M0 : zM} {a : Nat} (h : zE2 M M0 a) : zEf M a M0 a := ⟨⟨by rw [h.1], by rw [h.1]⟩, fun c => zfree_c h⟩
theorem zB1_c {M M0 : zM} {a b : Nat} (h : zEf M a M0 b) (hg : zGr M a) (h4 : ∀ j : Nat, j < 144 → M (a + 4) j = M0 (b + 4) j) (hB : zB1 M0 b) : zB1 M a := by
  obtain ⟨h1, h2, h3, h5⟩ := hB
  obtain ⟨g6, g7⟩ := h1.sz
  have hz : zsz M0 b = M0 (b + 1) 0 * M0 (b + 1) 1 := rfl
  refine ⟨hg, fun j hj => by rw [h4 j hj]; exact h2 j hj, fun j hj => ?_, by rw [h.many]; exact h5⟩
  rw [h.sz] at hj
  rw [h4 j (by omega), h.cn]
  exact h3 j hj
theorem zB2_c {M M0 : zM} {a b : Nat} (h : zEf M a M0 b) (hg : zGr M0 b) (h11 : ∀ j : Nat, j < 36 → M (a + 11) j = M0 (b + 11) j) (hB : zB2 M0 b) : zB2 M a := by
  obtain ⟨h1, h2, h3⟩ := hB
  obtain ⟨g6, g7⟩ := hg.sz
  have hz : zsz M0 b = M0 (b + 1) 0 * M0 (b + 1) 1 := rfl
  refine ⟨fun j hj => by rw [h11 j hj]; exact h1 j hj, ?_, fun j hj hn => ?_⟩
  · rw [h.sz, zsum_c _ (fun j hj => h11 j (by omega))]
    exact h2
  · rw [h.sz] at hj
    rw [h11 j (by omega)]
    exact h3 j hj (fun e => hn ((h.fr j).mpr e))
theorem zB3_c {M M0 : zM} {a b : Nat} (h5 : M (a + 5) 2 = M0 (b + 5) 2 ∧ M (a + 5) 3 = M0 (b + 5) 3) (h6 : ∀ j : Nat, j < 4 → M (a + 6) j = M0 (b + 6) j) (h7 : ∀ j : Nat, j < 16 → M (a + 7) j = M0 (b + 7) j) (hB : zB3 M0 b) : zB3 M a := by
  obtain ⟨⟨t1, t2, t3, t4⟩, h2⟩ := hB
  refine ⟨⟨fun j hj => by rw [h6 j hj]; exact t1 j hj, fun j hj => by rw [h7 j hj]; exact t2 j hj, by rw [h5.1]; exact t3, by rw [h5.2]; exact t4⟩, ?_⟩
  rw [← h2]
  exact zsum_c 4 (fun j hj => h6 _ (by omega))
theorem zB4_c {n : Int} {M M0 : zM} {a b : Nat} (h : zEf M a M0 b) (h8 : ∀ j : Nat, j < 3 → M (a + 8) j = M0 (b + 8) j) (h9 : ∀ j : Nat, j < 8 → M (a + 9) j = M0 (b + 9) j) (h10 : ∀ j : Nat, j < 288 → M (a + 10) j = M0 (b + 10) j) (hB : zB4 n M0 b) : zB4 n M a := by
  obtain ⟨⟨t1, t2, t3, t4, t5⟩, h2, h3, h4⟩ := hB
  have e0 := h8 0 (by decide)
  have e1 := h8 1 (by decide)
  have e2 := h8 2 (by decide)
  refine ⟨⟨by rw [e0]; exact t1, by rw [e1]; exact t2, by rw [e2]; exact t3, fun j hj => by rw [h9 j hj]; exact t4 j hj, fun j hj => by rw [h10 j hj]; exact t5 j hj⟩, by rw [e1, e2]; exact h2, fun i hi => ?_, ?_⟩
  · have ht : ztot M a = ztot M0 b := by unfold ztot; rw [e1, e2]
    rw [ht] at hi
    have hi8 : i < 8 := by unfold zmi at hi; split at hi <;> omega
    rw [h9 i hi8]
    rcases h3 i hi with h | h
    · exact Or.inl ⟨h.1, fun y hy => by rw [h10 _ (by omega)]; exact h.2 y hy⟩
    · exact Or.inr h
  · rw [e0]
    exact h4.imp id (fun e => (h.2 _).mpr e)
theorem zCo_cc {M M0 : zM} {a b : Nat} (h3 : ∀ j : Nat, j < 36 → M (a + 3) j = M0 (b + 3) j) (hB : zCo M0 b) : zCo M a := fun j hj => by rw [h3 j hj]; exact hB j hj
theorem zB6_c {M M0 : zM} {a b : Nat} (h : zEf M a M0 b) (h4 : M a 4 = M0 b 4) (hB : zB6 M0 b) : zB6 M a := by
  unfold zB6
  rw [h4]
  exact (h.2 _).mpr hB
/-- two state blocks hold the same -/
def zBE (M : zM) (a : Nat) (M0 : zM) (b : Nat) : Prop := ∀ o j : Nat, zslot o j → M (a + o) j = M0 (b + o) j
theorem zBE.ef {M M0 : zM} {a b : Nat} (h : zBE M a M0 b) (hg : zGr M0 b) : zEf M a M0 b := by
  have e0 : M (a + 1) 0 = M0 (b + 1) 0 := h 1 0 (by unfold zslot; omega)
  have e1 : M (a + 1) 1 = M0 (b + 1) 1 := h 1 1 (by unfold zslot; omega)
  obtain ⟨g6, g7⟩ := hg.sz
  refine ⟨⟨e0, e1⟩, fun c => ?_⟩
  unfold zfree
  rw [e0, e1]
  constructor
  · rintro ⟨h1, h2, h3⟩
    rw [h 2 c.toNat (by unfold zslot; omega)] at h3
    exact ⟨h1, h2, h3⟩
  · rintro ⟨h1, h2, h3⟩
    rw [← h 2 c.toNat (by unfold zslot; omega)] at h3
    exact ⟨h1, h2, h3⟩
theorem zBE.gr {M M0 : zM} {a b : Nat} (h : zBE M a M0 b) (hg : zGr M0 b) : zGr M a := by
  unfold zGr
  rw [h 1 0 (by unfold zslot; omega), h 1 1 (by unfold zslot; omega)]
  exact ⟨hg.1, hg.2.1, fun c hc => by rw [h 2 c (by unfold zslot; omega)]; exact hg.2.2 c hc⟩
theorem zBI_c {n : Int} {M M0 : zM} {a b : Nat} (h : zBE M a M0 b) (hB : zBI n M0 b) : zBI n M a := by
  have hg := hB.g
  have hf := h.ef hg
  exact ⟨zB1_c hf (h.gr hg) (fun j hj => h 4 j (by unfold zslot; omega)) hB.b1,
    zB2_c hf hg (fun j hj => h 11 j (by unfold zslot; omega)) hB.b2,
    zB3_c ⟨h 5 2 (by unfold zslot; omega), h 5 3 (by unfold zslot; omega)⟩ (fun j hj => h 6 j (by unfold zslot; omega)) (fun j hj => h 7 j (by unfold zslot; omega)) hB.b3,
    zB4_c hf (fun j hj => h 8 j (by unfold zslot; omega)) (fun j hj => h 9 j (by unfold zslot; omega)) (fun j hj => h 10 j (by unfold zslot; omega)) hB.b4,
    zCo_cc (fun j hj => h 3 j (by unfold zslot; omega)) hB.b5,
    zB6_c hf (h 0 4 (by unfold zslot; omega)) hB.b6⟩
theorem zslot_lt {o j : Nat} (h : zslot o j) : o < 12 := by unfold zslot at h; omega
theorem zBE_q {M M0 : zM} {a : Nat} (h : ∀ q : Nat, a ≤ q → q < a + 12 → M q = M0 q) : zBE M a M0 a := fun o j hs => by
  have := zslot_lt hs
  rw [h (a + o) (by omega) (by omega)]
theorem zBE.tr {M M' M0 : zM} {a b c : Nat} (h : zBE M a M' b) (h' : zBE M' b M0 c) : zBE M a M0 c := fun o j hs => (h o j hs).trans (h' o j hs)
theorem zBI_n {n n' : Int} {M : zM} {a : Nat} (hn : n ≤ n') (h : zBI n M a) : zBI n' M a := ⟨h.b1, h.b2, h.b3, ⟨h.b4.1, ⟨Int.le_trans h.b4.2.1.1 hn, Int.le_trans h.b4.2.1.2 hn⟩, h.b4.2.2.1, h.b4.2.2.2⟩, h.b5, h.b6⟩
/-! The ring. -/
def zslo (M : zM) (i : Int) : Nat := zring ((M 25 1 + i) % 6).toNat
theorem zslo_st (M : zM) (i : Int) : zSt (zslo M i) := by
  unfold zslo zring
  have h := Int.emod_nonneg (M 25 1 + i) (show (6 : Int) ≠ 0 by decide)
  have h2 := Int.emod_lt_of_pos (M 25 1 + i) (show (0 : Int) < 6 by decide)
  generalize (M 25 1 + i) % 6 = r at h h2
  have h3 : r = 0 ∨ r = 1 ∨ r = 2 ∨ r = 3 ∨ r = 4 ∨ r = 5 := by omega
  unfold zSt
  rcases h3 with rfl | rfl | rfl | rfl | rfl | rfl <;> decide
/-- how many are kept behind keeping one more, and where they come from -/
def zkn (M : zM) : Int := M 25 2 + (if M 25 2 = 6 then 0 else 1)
theorem zkp_2 {M : zM} {a : Nat} : zkpM M a 25 2 = zkn M := zup_i
theorem zkp_1 {M : zM} {a : Nat} : zkpM M a 25 1 = if M 25 2 = 6 then (M 25 1 + 1) % 6 else M 25 1 := by
  unfold zkpM
  rw [zup_ne (by decide), zcp_25]
  unfold zkpR
  split
  · rw [zup_ne (by decide), zup_i]
  · rfl
theorem zkp_sl {M : zM} {a : Nat} (i : Int) : zslo (zkpM M a) i = zslo M (i + (if M 25 2 = 6 then 1 else 0)) := by
  unfold zslo
  rw [zkp_1]
  split
  · rw [show (M 25 1 + 1) % 6 + i = i + (M 25 1 + 1) % 6 by omega, Int.add_emod_emod, show i + (M 25 1 + 1) = M 25 1 + (i + 1) by omega]
  · rw [Int.add_zero]
theorem zring_in {x y : Int} (hx : 0 ≤ x ∧ x < 6) (hy : 0 ≤ y ∧ y < 6) (h : x ≠ y) : zring x.toNat + 12 ≤ zring y.toNat ∨ zring y.toNat + 12 ≤ zring x.toNat := by
  unfold zring
  omega
theorem zslt_R {M : zM} (hc : zCh M) : zslt (zkpR M) = zslo M (zkn M - 1 + (if M 25 2 = 6 then 1 else 0)) := by
  unfold zslt zslo zkn zkpR
  split
  · next h =>
    rw [zup_i, zup_ne (by decide), zup_i, h]
    congr 2
    omega
  · next h =>
    congr 2
    omega
theorem zkp_ring {M : zM} {a : Nat} (ha : zSt a) (h25 : a < 25) (hc : zCh M) {i : Int} (h0 : 0 ≤ i) (h1 : i < zkn M) : zBE (zkpM M a) (zslo (zkpM M a) i) M (if i = zkn M - 1 then a else zslo M (i + (if M 25 2 = 6 then 1 else 0))) := by
  obtain ⟨⟨c1, c2⟩, c3, c4⟩ := id hc
  have ha2 : a ≤ 13 := by unfold zSt at ha; omega
  have hs := zslt_R hc
  have hR : ∀ q : Nat, q ≠ 25 → zkpR M q = M q := fun q hq => by
    unfold zkpR
    split
    · rw [zup_or hq, zup_or hq]
    · rfl
  have hst := zslo_st M (zkn M - 1 + (if M 25 2 = 6 then 1 else 0))
  have hst2 := zslo_st M (i + (if M 25 2 = 6 then 1 else 0))
  have hle := zSt_le hst2
  have h27 : 27 ≤ zslo M (i + (if M 25 2 = 6 then 1 else 0)) := by unfold zslo zring; omega
  have h27' : 27 ≤ zslo M (zkn M - 1 + (if M 25 2 = 6 then 1 else 0)) := by unfold zslo zring; omega
  intro o j hj
  have ho := zslot_lt hj
  rw [zkp_sl]
  unfold zkpM
  rw [zup_or (by omega), hs]
  by_cases hi : i = zkn M - 1
  · rw [if_pos hi, ← hi, zcpM_i hst2 ha (by omega) hj, hR _ (by omega)]
  · rw [if_neg hi]
    have hne : zslo M (i + (if M 25 2 = 6 then 1 else 0)) + 12 ≤ zslo M (zkn M - 1 + (if M 25 2 = 6 then 1 else 0)) ∨ zslo M (zkn M - 1 + (if M 25 2 = 6 then 1 else 0)) + 12 ≤ zslo M (i + (if M 25 2 = 6 then 1 else 0)) := by
      unfold zslo
      unfold zkn at hi h1 ⊢
      exact zring_in (by omega) (by omega) (by split <;> omega)
    rw [zcpM_o (by omega), hR _ (by omega)]
