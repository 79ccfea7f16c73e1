/-! Every script of at most four ints. -/
theorem y_itv {x : Int32} {lo hi : Int} (h1 : lo ≤ x.toInt) (h2 : x.toInt ≤ hi) : y_in x (.inr (lo, hi)) := ⟨h1, h2⟩
theorem y_iv1 {g : Nat → Int32} {k1 : Nat} {l1 u1 : Int} (a1 : l1 ≤ (g k1).toInt) (b1 : (g k1).toInt ≤ u1) : ∀ q ∈ [((k1, l1, u1) : Nat × Int × Int)], q.2.1 ≤ (g q.1).toInt ∧ (g q.1).toInt ≤ q.2.2 := by
  intro q hq
  have hq := List.mem_singleton.mp hq
  subst hq
  exact ⟨a1, b1⟩
theorem y_iv2 {g : Nat → Int32} {k1 k2 : Nat} {l1 u1 l2 u2 : Int} (a1 : l1 ≤ (g k1).toInt) (b1 : (g k1).toInt ≤ u1) (a2 : l2 ≤ (g k2).toInt) (b2 : (g k2).toInt ≤ u2) : ∀ q ∈ [((k1, l1, u1) : Nat × Int × Int), ((k2, l2, u2) : Nat × Int × Int)], q.2.1 ≤ (g q.1).toInt ∧ (g q.1).toInt ≤ q.2.2 := by
  intro q hq
  rcases List.mem_cons.mp hq with hq | hq
  · subst hq; exact ⟨a1, b1⟩
  have hq := List.mem_singleton.mp hq
  subst hq
  exact ⟨a2, b2⟩
theorem y_iv3 {g : Nat → Int32} {k1 k2 k3 : Nat} {l1 u1 l2 u2 l3 u3 : Int} (a1 : l1 ≤ (g k1).toInt) (b1 : (g k1).toInt ≤ u1) (a2 : l2 ≤ (g k2).toInt) (b2 : (g k2).toInt ≤ u2) (a3 : l3 ≤ (g k3).toInt) (b3 : (g k3).toInt ≤ u3) : ∀ q ∈ [((k1, l1, u1) : Nat × Int × Int), ((k2, l2, u2) : Nat × Int × Int), ((k3, l3, u3) : Nat × Int × Int)], q.2.1 ≤ (g q.1).toInt ∧ (g q.1).toInt ≤ q.2.2 := by
  intro q hq
  rcases List.mem_cons.mp hq with hq | hq
  · subst hq; exact ⟨a1, b1⟩
  rcases List.mem_cons.mp hq with hq | hq
  · subst hq; exact ⟨a2, b2⟩
  have hq := List.mem_singleton.mp hq
  subst hq
  exact ⟨a3, b3⟩
theorem y_iv4 {g : Nat → Int32} {k1 k2 k3 k4 : Nat} {l1 u1 l2 u2 l3 u3 l4 u4 : Int} (a1 : l1 ≤ (g k1).toInt) (b1 : (g k1).toInt ≤ u1) (a2 : l2 ≤ (g k2).toInt) (b2 : (g k2).toInt ≤ u2) (a3 : l3 ≤ (g k3).toInt) (b3 : (g k3).toInt ≤ u3) (a4 : l4 ≤ (g k4).toInt) (b4 : (g k4).toInt ≤ u4) : ∀ q ∈ [((k1, l1, u1) : Nat × Int × Int), ((k2, l2, u2) : Nat × Int × Int), ((k3, l3, u3) : Nat × Int × Int), ((k4, l4, u4) : Nat × Int × Int)], q.2.1 ≤ (g q.1).toInt ∧ (g q.1).toInt ≤ q.2.2 := by
  intro q hq
  rcases List.mem_cons.mp hq with hq | hq
  · subst hq; exact ⟨a1, b1⟩
  rcases List.mem_cons.mp hq with hq | hq
  · subst hq; exact ⟨a2, b2⟩
  rcases List.mem_cons.mp hq with hq | hq
  · subst hq; exact ⟨a3, b3⟩
  have hq := List.mem_singleton.mp hq
  subst hq
  exact ⟨a4, b4⟩
theorem y_iv5 {g : Nat → Int32} {k1 k2 k3 k4 k5 : Nat} {l1 u1 l2 u2 l3 u3 l4 u4 l5 u5 : Int} (a1 : l1 ≤ (g k1).toInt) (b1 : (g k1).toInt ≤ u1) (a2 : l2 ≤ (g k2).toInt) (b2 : (g k2).toInt ≤ u2) (a3 : l3 ≤ (g k3).toInt) (b3 : (g k3).toInt ≤ u3) (a4 : l4 ≤ (g k4).toInt) (b4 : (g k4).toInt ≤ u4) (a5 : l5 ≤ (g k5).toInt) (b5 : (g k5).toInt ≤ u5) : ∀ q ∈ [((k1, l1, u1) : Nat × Int × Int), ((k2, l2, u2) : Nat × Int × Int), ((k3, l3, u3) : Nat × Int × Int), ((k4, l4, u4) : Nat × Int × Int), ((k5, l5, u5) : Nat × Int × Int)], q.2.1 ≤ (g q.1).toInt ∧ (g q.1).toInt ≤ q.2.2 := by
  intro q hq
  rcases List.mem_cons.mp hq with hq | hq
  · subst hq; exact ⟨a1, b1⟩
  rcases List.mem_cons.mp hq with hq | hq
  · subst hq; exact ⟨a2, b2⟩
  rcases List.mem_cons.mp hq with hq | hq
  · subst hq; exact ⟨a3, b3⟩
  rcases List.mem_cons.mp hq with hq | hq
  · subst hq; exact ⟨a4, b4⟩
  have hq := List.mem_singleton.mp hq
  subst hq
  exact ⟨a5, b5⟩
theorem y_by (y : Int32) : 0 ≤ (y &&& 255).toInt ∧ (y &&& 255).toInt ≤ 255 := by
  have h1 : (y &&& 255).toUInt32.toNat ≤ 255 := by
    show (y.toUInt32 &&& (255 : Int32).toUInt32).toNat ≤ 255
    rw [UInt32.toNat_and]
    have h : (255 : Int32).toUInt32.toNat = 255 := by decide
    rw [h]
    exact Nat.and_le_right
  have h2 : Int32.ofNat (y &&& 255).toUInt32.toNat = y &&& 255 := (y_u32 (y &&& 255).toUInt32).trans rfl
  rw [← h2, Int32.toInt_ofNat_of_lt (by omega)]
  omega
theorem y_b16 (y : Int32) : ((y &&& 255).toUInt32 % 65536).toInt32 = y &&& 255 := by
  have hb := y_by y
  generalize y &&& 255 = x at hb ⊢
  rw [← y_ofn (x := x) hb.1, y_i2c_e, Nat.mod_eq_of_lt (by omega)]
def y_ga (x0 x1 x2 x3 : Int32) (k : Nat) : Int32 := match k with
  | 0 => x0
  | 1 => x1
  | 2 => x2
  | 3 => x3
  | 4 => x0 &&& 63
  | 5 => (x1.toUInt32 >>> ((Int32.ofNat 24).toUInt32 &&& Int32.toUInt32 31)).toInt32
  | 6 => (x1.toUInt32 >>> ((Int32.ofNat 24).toUInt32 &&& Int32.toUInt32 31)).toInt32 &&& 255
  | 7 => (x1.toUInt32 >>> ((Int32.ofNat 16).toUInt32 &&& Int32.toUInt32 31)).toInt32
  | 8 => (x1.toUInt32 >>> ((Int32.ofNat 16).toUInt32 &&& Int32.toUInt32 31)).toInt32 &&& 255
  | 9 => (x1.toUInt32 >>> ((Int32.ofNat 8).toUInt32 &&& Int32.toUInt32 31)).toInt32
  | 10 => (x1.toUInt32 >>> ((Int32.ofNat 8).toUInt32 &&& Int32.toUInt32 31)).toInt32 &&& 255
  | 11 => (x1.toUInt32 >>> ((Int32.ofNat 0).toUInt32 &&& Int32.toUInt32 31)).toInt32
  | _ => (x1.toUInt32 >>> ((Int32.ofNat 0).toUInt32 &&& Int32.toUInt32 31)).toInt32 &&& 255
def y_T1a : List (Nat × Nat × Nat × Nat) := [((nat_lit 3), (nat_lit 1), (nat_lit 126), (nat_lit 4)), ((nat_lit 8), (nat_lit 3), (nat_lit 48), (nat_lit 5)), ((nat_lit 3), (nat_lit 11), (nat_lit 510), (nat_lit 6)), ((nat_lit 21), (nat_lit 13), (nat_lit 0), (nat_lit 6)), ((nat_lit 8), (nat_lit 3), (nat_lit 32), (nat_lit 7)), ((nat_lit 3), (nat_lit 15), (nat_lit 510), (nat_lit 8)), ((nat_lit 21), (nat_lit 17), (nat_lit 0), (nat_lit 8)), ((nat_lit 8), (nat_lit 3), (nat_lit 16), (nat_lit 9)), ((nat_lit 3), (nat_lit 19), (nat_lit 510), (nat_lit 10)), ((nat_lit 21), (nat_lit 21), (nat_lit 0), (nat_lit 10)), ((nat_lit 8), (nat_lit 3), (nat_lit 0), (nat_lit 11)), ((nat_lit 3), (nat_lit 23), (nat_lit 510), (nat_lit 12)), ((nat_lit 21), (nat_lit 25), (nat_lit 0), (nat_lit 12))]
theorem y_t1a {G : yG} {e : Nat × Nat × Nat × Nat} {f : Int32 → Int32 → Int32} (hf : y_opf e.1 = some f) (h : G.1 e.2.2.2 = f (y_vi G e.2.1) (y_vi G e.2.2.1)) : ∃ f, y_opf e.1 = some f ∧ G.1 e.2.2.2 = f (y_vi G e.2.1) (y_vi G e.2.2.1) := ⟨f, hf, h⟩
theorem y_app_e {iv : List (Nat × Int × Int)} {T2 : List (Nat × Nat × Nat × Bool)} {x0 x1 x2 x3 : Int32} (h : y_fam ((4, (0), (0)) :: iv) y_T1a T2 (.inr (-2147483648, 2147483647)) (.inr (-2147483648, 2147483647)) (.inr (-2147483648, 2147483647)) = true) (h0 : x0 &&& 63 = Int32.ofNat 0) (hiv : ∀ q ∈ iv, q.2.1 ≤ (y_ga x0 x1 x2 x3 q.1).toInt ∧ (y_ga x0 x1 x2 x3 q.1).toInt ≤ q.2.2) : ∃ d n, xlaw [x0, x1, x2, x3] d n = true := by
  refine y_fam_e (y_ga x0 x1 x2 x3) rfl rfl rfl rfl ?_ ?_ (y_full _) (y_full _) (y_full _) h
  · have hall : ∀ e ∈ y_T1a, ∃ f, y_opf e.1 = some f ∧ (y_ga x0 x1 x2 x3, fun k => (y_ga x0 x1 x2 x3 k).toInt64).1 e.2.2.2 = f (y_vi (y_ga x0 x1 x2 x3, fun k => (y_ga x0 x1 x2 x3 k).toInt64) e.2.1) (y_vi (y_ga x0 x1 x2 x3, fun k => (y_ga x0 x1 x2 x3 k).toInt64) e.2.2.1) :=
      List.forall_mem_cons.mpr ⟨⟨_, rfl, rfl⟩,
      List.forall_mem_cons.mpr ⟨⟨_, rfl, rfl⟩, List.forall_mem_cons.mpr ⟨⟨_, rfl, rfl⟩, List.forall_mem_cons.mpr ⟨⟨_, rfl, (y_b16 _).symm⟩,
      List.forall_mem_cons.mpr ⟨⟨_, rfl, rfl⟩, List.forall_mem_cons.mpr ⟨⟨_, rfl, rfl⟩, List.forall_mem_cons.mpr ⟨⟨_, rfl, (y_b16 _).symm⟩,
      List.forall_mem_cons.mpr ⟨⟨_, rfl, rfl⟩, List.forall_mem_cons.mpr ⟨⟨_, rfl, rfl⟩, List.forall_mem_cons.mpr ⟨⟨_, rfl, (y_b16 _).symm⟩,
      List.forall_mem_cons.mpr ⟨⟨_, rfl, rfl⟩, List.forall_mem_cons.mpr ⟨⟨_, rfl, rfl⟩, List.forall_mem_cons.mpr ⟨⟨_, rfl, (y_b16 _).symm⟩, fun _ h => absurd h List.not_mem_nil⟩⟩⟩⟩⟩⟩⟩⟩⟩⟩⟩⟩⟩
    exact fun o a b r hr => hall _ (y_o3_mem hr)
  · intro q hq
    rcases List.mem_cons.mp hq with hq | hq
    · subst hq
      show (0 : Int) ≤ (x0 &&& 63).toInt ∧ (x0 &&& 63).toInt ≤ 0
      rw [h0]
      exact ⟨by decide, by decide⟩
    · exact hiv q hq
def y_gm (x0 x1 x2 x3 : Int32) (k : Nat) : Int32 := match k with
  | 0 => x0
  | 1 => x1
  | 2 => x2
  | 3 => x3
  | 4 => x0 &&& 63
  | 5 => Int32.ofNat 16 - x1
  | 6 => Int32.ofNat 16 - x1 - x2
  | 7 => Int32.ofNat 16 - x1 - x2 - x3
  | 8 => x1 + x2
  | _ => x1 + x2 + x3
def y_T1m : List (Nat × Nat × Nat × Nat) := [((nat_lit 3), (nat_lit 1), (nat_lit 126), (nat_lit 4)), ((nat_lit 1), (nat_lit 32), (nat_lit 3), (nat_lit 5)), ((nat_lit 1), (nat_lit 11), (nat_lit 5), (nat_lit 6)), ((nat_lit 1), (nat_lit 13), (nat_lit 7), (nat_lit 7)), ((nat_lit 0), (nat_lit 3), (nat_lit 5), (nat_lit 8)), ((nat_lit 0), (nat_lit 17), (nat_lit 7), (nat_lit 9))]
theorem y_mot_e {iv : List (Nat × Int × Int)} {T2 : List (Nat × Nat × Nat × Bool)} {A1 A2 A3 : yA} {x0 x1 x2 x3 : Int32} (h : y_fam ((4, (6), (6)) :: iv) y_T1m T2 A1 A2 A3 = true) (h0 : x0 &&& 63 = Int32.ofNat 6) (hiv : ∀ q ∈ iv, q.2.1 ≤ (y_gm x0 x1 x2 x3 q.1).toInt ∧ (y_gm x0 x1 x2 x3 q.1).toInt ≤ q.2.2) (hA1 : y_in x1 A1) (hA2 : y_in x2 A2) (hA3 : y_in x3 A3) : ∃ d n, xlaw [x0, x1, x2, x3] d n = true := by
  refine y_fam_e (y_gm x0 x1 x2 x3) rfl rfl rfl rfl ?_ ?_ hA1 hA2 hA3 h
  · have hall : ∀ e ∈ y_T1m, ∃ f, y_opf e.1 = some f ∧ (y_gm x0 x1 x2 x3, fun k => (y_gm x0 x1 x2 x3 k).toInt64).1 e.2.2.2 = f (y_vi (y_gm x0 x1 x2 x3, fun k => (y_gm x0 x1 x2 x3 k).toInt64) e.2.1) (y_vi (y_gm x0 x1 x2 x3, fun k => (y_gm x0 x1 x2 x3 k).toInt64) e.2.2.1) :=
      List.forall_mem_cons.mpr ⟨⟨_, rfl, rfl⟩, List.forall_mem_cons.mpr ⟨⟨_, rfl, rfl⟩, List.forall_mem_cons.mpr ⟨⟨_, rfl, rfl⟩, List.forall_mem_cons.mpr ⟨⟨_, rfl, rfl⟩, List.forall_mem_cons.mpr ⟨⟨_, rfl, rfl⟩, List.forall_mem_cons.mpr ⟨⟨_, rfl, rfl⟩, fun _ h => absurd h List.not_mem_nil⟩⟩⟩⟩⟩⟩
    exact fun o a b r hr => hall _ (y_o3_mem hr)
  · intro q hq
    rcases List.mem_cons.mp hq with hq | hq
    · subst hq
      show (6 : Int) ≤ (x0 &&& 63).toInt ∧ (x0 &&& 63).toInt ≤ 6
      rw [h0]
      exact ⟨by decide, by decide⟩
    · exact hiv q hq
theorem y_bm {z : Int} (h : -2147483648 ≤ z) (h2 : z ≤ 2147483647) : z.bmod (2 ^ 32) = z := by
  show z.bmod 4294967296 = z
  rw [Int.bmod_def]
  split <;> omega
theorem y_mot7 {x0 x1 x2 x3 : Int32} (a1 : 0 ≤ (y_gm x0 x1 x2 x3 1).toInt) (b1 : (y_gm x0 x1 x2 x3 1).toInt ≤ 16) (a2 : 0 ≤ (y_gm x0 x1 x2 x3 2).toInt) (b2 : (y_gm x0 x1 x2 x3 2).toInt ≤ 16) (a3 : 0 ≤ (y_gm x0 x1 x2 x3 3).toInt) (b3 : (y_gm x0 x1 x2 x3 3).toInt ≤ 16) : (y_gm x0 x1 x2 x3 7).toInt = 16 - (y_gm x0 x1 x2 x3 1).toInt - (y_gm x0 x1 x2 x3 2).toInt - (y_gm x0 x1 x2 x3 3).toInt ∧ (y_gm x0 x1 x2 x3 9).toInt = (y_gm x0 x1 x2 x3 1).toInt + (y_gm x0 x1 x2 x3 2).toInt + (y_gm x0 x1 x2 x3 3).toInt := by
  have a1 : 0 ≤ x1.toInt := a1
  have b1 : x1.toInt ≤ 16 := b1
  have a2 : 0 ≤ x2.toInt := a2
  have b2 : x2.toInt ≤ 16 := b2
  have a3 : 0 ≤ x3.toInt := a3
  have b3 : x3.toInt ≤ 16 := b3
  show (Int32.ofNat 16 - x1 - x2 - x3).toInt = 16 - x1.toInt - x2.toInt - x3.toInt ∧ (x1 + x2 + x3).toInt = x1.toInt + x2.toInt + x3.toInt
  have h16 : (Int32.ofNat 16).toInt = 16 := by decide
  rw [Int32.toInt_sub, Int32.toInt_sub, Int32.toInt_sub, Int32.toInt_add, Int32.toInt_add, h16]
  rw [y_bm (z := 16 - x1.toInt) (by omega) (by omega), y_bm (z := 16 - x1.toInt - x2.toInt) (by omega) (by omega), y_bm (z := 16 - x1.toInt - x2.toInt - x3.toInt) (by omega) (by omega), y_bm (z := x1.toInt + x2.toInt) (by omega) (by omega), y_bm (z := x1.toInt + x2.toInt + x3.toInt) (by omega) (by omega)]
  exact ⟨rfl, rfl⟩
theorem y_short {xs : List Int32} {n : Nat} (hl : xs.length = n) (hn : n ≤ 4096) (h : y_case ([y_i n], [], []) = true) : ∃ d n, xlaw xs d n = true := by
  subst hl
  refine ⟨12, 20, y_law (G := (fun _ => 0, fun _ => (0 : Int32).toInt64)) (E := ([y_i xs.length], [], [])) ⟨fun _ _ _ _ h => (by cases h), fun _ _ _ _ h => (by cases h), ?_, ?_, fun _ => rfl, hn⟩ h⟩
  · intro v hv
    rw [y_lk_e] at hv
    cases hv
    rfl
  · intro j v hv
    rw [y_lk_e] at hv
    cases hv
