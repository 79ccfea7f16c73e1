/-! Families of cases: each argument one of some numbers, or a symbol from lo to hi. -/
abbrev yA : Type := (Nat × Nat) ⊕ (Int × Int)
def y_iv (lo hi : Int) (o : Nat) (c : Int) (r : Bool) : Bool := match o, r with
  | 0, true => decide (lo = c) && decide (hi = c)
  | 0, false => decide (hi < c) || decide (c < lo)
  | 1, true => decide (hi < c) || decide (c < lo)
  | 1, false => decide (lo = c) && decide (hi = c)
  | 2, true => decide (hi < c)
  | 2, false => decide (c ≤ lo)
  | 3, true => decide (c ≤ lo)
  | 3, false => decide (hi < c)
  | 4, true => decide (c < lo)
  | 4, false => decide (hi ≤ c)
  | 5, true => decide (hi ≤ c)
  | 5, false => decide (c < lo)
  | 20, true => decide (0 ≤ lo) && decide (hi ≤ 65535)
  | _, _ => false
theorem y_ofn {x : Int32} (h : 0 ≤ x.toInt) : Int32.ofNat x.toInt.toNat = x := by
  apply Int32.toInt_inj.mp
  have h2 : x.toInt < 2 ^ 31 := Int32.toInt_lt x
  rw [Int32.toInt_ofNat_of_lt (by omega)]
  omega
theorem y_iv_e {lo hi : Int} {o : Nat} {x y : Int32} {r : Bool} (h1 : lo ≤ x.toInt) (h2 : x.toInt ≤ hi) (h : y_iv lo hi o y.toInt r = true) : y_cmp o x y = r := by
  unfold y_iv at h
  split at h
  · obtain ⟨a, b⟩ := xand h
    have a := xdb a
    have b := xdb b
    exact decide_eq_true (Int32.toInt_inj.mp (by omega))
  · rw [Bool.or_eq_true] at h
    refine decide_eq_false (fun e => ?_)
    subst e
    rcases h with h | h <;> have h := xdb h <;> omega
  · rw [Bool.or_eq_true] at h
    show (!decide (x = y)) = true
    rw [decide_eq_false (fun e => by subst e; rcases h with h | h <;> have h := xdb h <;> omega)]
    rfl
  · obtain ⟨a, b⟩ := xand h
    have a := xdb a
    have b := xdb b
    show (!decide (x = y)) = false
    rw [decide_eq_true (Int32.toInt_inj.mp (by omega))]
    rfl
  · have h := xdb h
    exact decide_eq_true (Int32.lt_iff_toInt_lt.mpr (by omega))
  · have h := xdb h
    exact decide_eq_false (fun e => by have e := Int32.lt_iff_toInt_lt.mp e; omega)
  · have h := xdb h
    exact decide_eq_true (Int32.le_iff_toInt_le.mpr (by omega))
  · have h := xdb h
    exact decide_eq_false (fun e => by have e := Int32.le_iff_toInt_le.mp e; omega)
  · have h := xdb h
    exact decide_eq_true (Int32.lt_iff_toInt_lt.mpr (by omega))
  · have h := xdb h
    exact decide_eq_false (fun e => by have e := Int32.lt_iff_toInt_lt.mp e; omega)
  · have h := xdb h
    exact decide_eq_true (Int32.le_iff_toInt_le.mpr (by omega))
  · have h := xdb h
    exact decide_eq_false (fun e => by have e := Int32.le_iff_toInt_le.mp e; omega)
  · obtain ⟨a, b⟩ := xand h
    have a := xdb a
    have b := xdb b
    show decide (narrow .char (.int x) = .int x) = true
    rw [← y_ofn (x := x) (by omega)]
    exact y_char (by omega)
  · cases h
def y_at2 (k : Nat) : List (Nat × Int × Int) → Option (Int × Int)
  | [] => none
  | q :: r => bif Nat.beq k q.1 then some q.2 else y_at2 k r
theorem y_at2_e {k : Nat} {p : Int × Int} : ∀ {l : List (Nat × Int × Int)}, y_at2 k l = some p → (k, p) ∈ l
  | [], h => by cases h
  | q :: r, h => by
    unfold y_at2 at h
    cases hb : Nat.beq k q.1 with
    | true =>
      rw [hb, cond_true] at h
      cases h
      rw [Nat.eq_of_beq_eq_true hb]
      exact List.mem_cons_self
    | false =>
      rw [hb, cond_false] at h
      exact List.mem_cons_of_mem _ (y_at2_e h)
def y_chk (iv : List (Nat × Int × Int)) (e : Nat × Nat × Nat × Bool) : Bool := Nat.beq (e.2.1 % 2) 1 && (Nat.beq (e.2.2.1 % 2) 0 && (match y_at2 (e.2.1 / 2) iv with | some (lo, hi) => y_iv lo hi e.1 (Int32.ofNat (e.2.2.1 / 2)).toInt e.2.2.2 | none => false))
theorem y_o3_mem {α : Type} {o a b : Nat} {r : α} : ∀ {l : List (Nat × Nat × Nat × α)}, y_o3 l o a b = some r → (o, a, b, r) ∈ l
  | [], h => by cases h
  | (o', a', b', x) :: l, h => by
    have h : y_if (Nat.beq o o') (y_if (Nat.beq a a') (y_if (Nat.beq b b') (some x) (y_o3 l o a b)) (y_o3 l o a b)) (y_o3 l o a b) = some r := h
    cases h1 : Nat.beq o o' with
    | false => rw [h1] at h; exact List.mem_cons_of_mem _ (y_o3_mem h)
    | true =>
      rw [h1, y_ift] at h
      cases h2 : Nat.beq a a' with
      | false => rw [h2] at h; exact List.mem_cons_of_mem _ (y_o3_mem h)
      | true =>
        rw [h2, y_ift] at h
        cases h3 : Nat.beq b b' with
        | false => rw [h3] at h; exact List.mem_cons_of_mem _ (y_o3_mem h)
        | true =>
          rw [h3, y_ift] at h
          cases h
          rw [Nat.eq_of_beq_eq_true h1, Nat.eq_of_beq_eq_true h2, Nat.eq_of_beq_eq_true h3]
          exact List.mem_cons_self
theorem y_chk_e {G : yG} {iv : List (Nat × Int × Int)} {l : List (Nat × Nat × Nat × Bool)} (hiv : ∀ q ∈ iv, q.2.1 ≤ (G.1 q.1).toInt ∧ (G.1 q.1).toInt ≤ q.2.2) (h : l.all (y_chk iv) = true) (o a b : Nat) (r : Bool) (hr : y_o3 l o a b = some r) : y_cmp o (y_vi G a) (y_vi G b) = r := by
  have h1 := List.all_eq_true.mp h _ (y_o3_mem hr)
  unfold y_chk at h1
  dsimp only at h1
  obtain ⟨ha, h1⟩ := xand h1
  obtain ⟨hb, h1⟩ := xand h1
  have ha := Nat.eq_of_beq_eq_true ha
  have hb := Nat.eq_of_beq_eq_true hb
  cases hq : y_at2 (a / 2) iv with
  | none => rw [hq] at h1; cases h1
  | some p =>
    obtain ⟨lo, hi⟩ := p
    rw [hq] at h1
    dsimp only at h1
    obtain ⟨g1, g2⟩ := hiv _ (y_at2_e hq)
    have e1 : y_vi G a = G.1 (a / 2) := by unfold y_vi; rw [if_neg (by omega)]
    have e2 : y_vi G b = Int32.ofNat (b / 2) := by unfold y_vi; rw [if_pos hb]
    rw [e1, e2]
    exact y_iv_e g1 g2 h1
noncomputable section
def y_all1 (A : yA) (k : Nat) (f : yV → Bool) : Bool := match A with
  | .inl (s, c) => @Nat.rec (fun _ => Bool) true (fun j ih => y_if (y_fz (Nat.add s j) (fun n => f (y_i n))) ih false) c
  | .inr _ => f (y_s k)
def y_T1 : List (Nat × Nat × Nat × Nat) := [(nat_lit 3, nat_lit 1, nat_lit 126, nat_lit 4)]
def y_fam (iv : List (Nat × Int × Int)) (T1 : List (Nat × Nat × Nat × Nat)) (T2 : List (Nat × Nat × Nat × Bool)) (A1 A2 A3 : yA) : Bool := y_if (T2.all (y_chk iv)) (y_all1 A1 (nat_lit 1) (fun v1 => y_all1 A2 (nat_lit 2) (fun v2 => y_all1 A3 (nat_lit 3) (fun v3 => y_case ([y_i (nat_lit 4), y_s (nat_lit 0), v1, v2, v3], T1, T2))))) false
end
def y_in (x : Int32) (A : yA) : Prop := match A with
  | .inl (s, c) => ∃ j, j < c ∧ x = Int32.ofNat (s + j)
  | .inr (lo, hi) => lo ≤ x.toInt ∧ x.toInt ≤ hi
theorem y_all1_e {G : yG} {x : Int32} {k : Nat} {f : yV → Bool} : ∀ {A : yA}, y_all1 A k f = true → y_in x A → G.1 k = x → ∃ v, y_dec G v = .int x ∧ f v = true
  | .inr _, h, _, hk => ⟨y_s k, congrArg Value.int hk, h⟩
  | .inl (s, c), h, hx, hk => by
    obtain ⟨j, hj, hx⟩ := hx
    have h2 : ∀ c, @Nat.rec (fun _ => Bool) true (fun j ih => y_if (y_fz (Nat.add s j) (fun n => f (y_i n))) ih false) c = true → ∀ j, j < c → f (y_i (s + j)) = true := by
      intro c
      induction c with
      | zero => exact fun _ j hj => absurd hj (Nat.not_lt_zero j)
      | succ c ih =>
        intro h j hj
        have h : y_if (y_fz (Nat.add s c) (fun n => f (y_i n))) (@Nat.rec (fun _ => Bool) true (fun j ih => y_if (y_fz (Nat.add s j) (fun n => f (y_i n))) ih false) c) false = true := h
        obtain ⟨h1, h2⟩ := y_ib h
        rw [y_fz_e] at h1
        by_cases hjc : j = c
        · subst hjc; exact h1
        · exact ih h2 j (by omega)
    exact ⟨y_i (s + j), by rw [hx]; rfl, h2 c h j hj⟩
theorem y_fam_e {iv : List (Nat × Int × Int)} {T1 : List (Nat × Nat × Nat × Nat)} {T2 : List (Nat × Nat × Nat × Bool)} {A1 A2 A3 : yA} {x0 x1 x2 x3 : Int32} (g : Nat → Int32) (e0 : g 0 = x0) (e1 : g 1 = x1) (e2 : g 2 = x2) (e3 : g 3 = x3) (hT1 : ∀ o a b r, y_o3 T1 o a b = some r → ∃ f, y_opf o = some f ∧ g r = f (y_vi (g, fun k => (g k).toInt64) a) (y_vi (g, fun k => (g k).toInt64) b)) (hiv : ∀ q ∈ iv, q.2.1 ≤ (g q.1).toInt ∧ (g q.1).toInt ≤ q.2.2) (hA1 : y_in x1 A1) (hA2 : y_in x2 A2) (hA3 : y_in x3 A3) (h : y_fam iv T1 T2 A1 A2 A3 = true) : ∃ d n, xlaw [x0, x1, x2, x3] d n = true := by
  obtain ⟨hT, h⟩ := y_ib h
  obtain ⟨v1, d1, h⟩ := y_all1_e (G := (g, fun k => (g k).toInt64)) h hA1 e1
  obtain ⟨v2, d2, h⟩ := y_all1_e (G := (g, fun k => (g k).toInt64)) h hA2 e2
  obtain ⟨v3, d3, h⟩ := y_all1_e (G := (g, fun k => (g k).toInt64)) h hA3 e3
  refine ⟨12, 20, y_law (G := (g, fun k => (g k).toInt64)) (E := ([y_i (nat_lit 4), y_s (nat_lit 0), v1, v2, v3], T1, T2)) ⟨hT1, y_chk_e hiv hT, ?_, ?_, fun _ => rfl, (by show 4 ≤ 4096; omega)⟩ h⟩
  · intro v hv
    rw [y_lk_e] at hv
    cases hv
    rfl
  · intro j v hv
    rw [y_lk_e] at hv
    match j, hv with
    | 0, hv => cases hv; exact ⟨x0, rfl, congrArg Value.int e0⟩
    | 1, hv => cases hv; exact ⟨x1, rfl, d1⟩
    | 2, hv => cases hv; exact ⟨x2, rfl, d2⟩
    | 3, hv => cases hv; exact ⟨x3, rfl, d3⟩
    | j + 4, hv => cases hv
def y_ivA (k : Nat) (A : yA) : List (Nat × Int × Int) := match A with
  | .inl _ => []
  | .inr p => [(k, p)]
def y_ivs (op : Nat) (A1 A2 A3 : yA) : List (Nat × Int × Int) := (4, (op : Int), (op : Int)) :: (y_ivA 1 A1 ++ (y_ivA 2 A2 ++ y_ivA 3 A3))
noncomputable def y_std (op : Nat) (T2 : List (Nat × Nat × Nat × Bool)) (A1 A2 A3 : yA) : Bool := y_fam (y_ivs op A1 A2 A3) y_T1 T2 A1 A2 A3
def y_g4 (x0 x1 x2 x3 : Int32) (k : Nat) : Int32 := match k with
  | 0 => x0
  | 1 => x1
  | 2 => x2
  | 3 => x3
  | _ => x0 &&& 63
theorem y_ivA_e {g : Nat → Int32} {k : Nat} {x : Int32} (hg : g k = x) : ∀ {A : yA}, y_in x A → ∀ q ∈ y_ivA k A, q.2.1 ≤ (g q.1).toInt ∧ (g q.1).toInt ≤ q.2.2
  | .inl _, _, q, hq => by cases hq
  | .inr (lo, hi), h, q, hq => by
    have hq := List.mem_singleton.mp hq
    subst hq
    show lo ≤ (g k).toInt ∧ (g k).toInt ≤ hi
    rw [hg]
    exact h
theorem y_std_e {op : Nat} {T2 : List (Nat × Nat × Nat × Bool)} {A1 A2 A3 : yA} (h : y_std op T2 A1 A2 A3 = true) (hop : op < 64) {x0 x1 x2 x3 : Int32} (h0 : x0 &&& 63 = Int32.ofNat op) (hA1 : y_in x1 A1) (hA2 : y_in x2 A2) (hA3 : y_in x3 A3) : ∃ d n, xlaw [x0, x1, x2, x3] d n = true := by
  refine y_fam_e (y_g4 x0 x1 x2 x3) rfl rfl rfl rfl ?_ ?_ hA1 hA2 hA3 h
  · intro o a b r hr
    have hm := List.mem_singleton.mp (y_o3_mem hr)
    cases hm
    exact ⟨_, rfl, rfl⟩
  · intro q hq
    rcases List.mem_cons.mp hq with hq | hq
    · subst hq
      show (op : Int) ≤ (x0 &&& 63).toInt ∧ (x0 &&& 63).toInt ≤ (op : Int)
      rw [h0, Int32.toInt_ofNat_of_lt (by omega)]
      omega
    · rcases List.mem_append.mp hq with hq | hq
      · exact y_ivA_e rfl hA1 q hq
      · rcases List.mem_append.mp hq with hq | hq
        · exact y_ivA_e rfl hA2 q hq
        · exact y_ivA_e rfl hA3 q hq
theorem y_num {x : Int32} {s c : Nat} (h1 : (s : Int) ≤ x.toInt) (h2 : x.toInt < (s : Int) + c) : y_in x (.inl (s, c)) := ⟨x.toInt.toNat - s, by omega, by rw [show s + (x.toInt.toNat - s) = x.toInt.toNat by omega, y_ofn (by omega)]⟩
theorem y_full (x : Int32) : y_in x (.inr (-2147483648, 2147483647)) := by
  have h1 : -2 ^ 31 ≤ x.toInt := Int32.le_toInt x
  have h2 : x.toInt < 2 ^ 31 := Int32.toInt_lt x
  exact ⟨by omega, by omega⟩
theorem y_bd32 (x : Int32) : -2147483648 ≤ x.toInt ∧ x.toInt ≤ 2147483647 := y_full x
theorem y_op64 (x : Int32) : ∃ op, op < 64 ∧ x &&& 63 = Int32.ofNat op := by
  refine ⟨(x &&& 63).toUInt32.toNat, ?_, ((y_u32 (x &&& 63).toUInt32).trans rfl).symm⟩
  show (x.toUInt32 &&& (63 : Int32).toUInt32).toNat < 64
  rw [UInt32.toNat_and]
  have h : (63 : Int32).toUInt32.toNat = 63 := by decide
  rw [h]
  have := Nat.and_le_right (n := x.toUInt32.toNat) (m := 63)
  omega
