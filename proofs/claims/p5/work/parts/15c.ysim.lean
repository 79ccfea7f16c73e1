/-! What the fast machine's states say of the machine of numbers. -/
abbrev yG : Type := (Nat → Int32) × (Nat → Int64)
def y_dec (G : yG) (v : yV) : Value := match v with
  | .inl n => .int (Int32.ofNat n)
  | .inr (.inl q) => .ref q
  | .inr (.inr (.inl n)) => .long (Int64.ofNat n)
  | .inr (.inr (.inr (.inl k))) => .int (G.1 k)
  | .inr (.inr (.inr (.inr (.inl k)))) => .long (G.2 k)
  | .inr (.inr (.inr (.inr (.inr x)))) => x
def y_dl (G : yG) (ls : yL) : XL := ls.map (fun q => (q.1, y_dec G q.2))
def y_ds (G : yG) (st : yS) : List Value := st.map (y_dec G)
noncomputable def y_sl (G : yG) (l : Nat) (t : yT) : List Value := (List.range l).map (fun i => y_dec G (y_get (y_dp l) y_z t i))
noncomputable def y_dc (G : yG) (c : yCe) : XE := (c.1, y_sl G c.2.1 c.2.2)
noncomputable def y_dh (G : yG) (cnt : Nat) (h : yH) : List XE := (List.range cnt).map (fun q => y_dc G (y_get y_hd y_no h q))
noncomputable def y_dw (G : yG) (h : yH) (m : yM) : XW := (m.2.2.1, y_dh G m.2.2.2 h)
noncomputable def y_dx (G : yG) (pc : Nat) (ls : yL) (st : yS) (h : yH) (m : yM) : XC := (pc, y_dl G ls, y_ds G st, m.1, m.2.1, y_dw G h m)
/-- n steps within a frame -/
def xpow (f : XC → XS) : Nat → XC → XC → Prop
  | 0, c, c' => c = c'
  | n + 1, c, c' => ∃ c1, f c = some (.inl c1) ∧ xpow f n c1 c'
/-- what a result of the fast machine says of a frame of the other at c: at most N steps -/
noncomputable def yTo (G : yG) (f : XC → XS) (k N : Nat) (c : XC) (r : yR) : Prop := match r with
  | none => True
  | some (.inl (t, ls, st, h, m)) => ∃ n, n ≤ N ∧ xpow f n c (y_dx G t ls st h m)
  | some (.inr (.inl (o, h, m))) => ∃ n c1 z, n ≤ N ∧ xpow f n c c1 ∧ f c1 = some (.inr z) ∧ xfin2 k z = some (.inl (o.map (y_dec G)), y_dw G h m)
  | some (.inr (.inr (e, h, m))) => ∃ n c1 z, n ≤ N ∧ xpow f n c c1 ∧ f c1 = some (.inr z) ∧ xfin2 k z = some (.inr e, (false, y_dh G m.2.2.2 h))
theorem yTo_step {G : yG} {f : XC → XS} {k N : Nat} {c c1 : XC} {r : yR} (h : f c = some (.inl c1)) (ht : yTo G f k N c1 r) : yTo G f k (N + 1) c r := by
  unfold yTo at ht ⊢
  split at ht
  · trivial
  · obtain ⟨n, hn, h1⟩ := ht
    exact ⟨n + 1, by omega, c1, h, h1⟩
  · obtain ⟨n, c2, z, hn, h1, h2, h3⟩ := ht
    exact ⟨n + 1, c2, z, by omega, ⟨c1, h, h1⟩, h2, h3⟩
  · obtain ⟨n, c2, z, hn, h1, h2, h3⟩ := ht
    exact ⟨n + 1, c2, z, by omega, ⟨c1, h, h1⟩, h2, h3⟩
theorem yTo_no {G : yG} {f : XC → XS} {k N : Nat} {c : XC} : yTo G f k N c none := trivial
/-! Whatever holds of no result and of what is gone on with, holds of a step that looks. -/
section YEL
variable {P : yR → Prop}
theorem y_pop_e {st : yS} {k : yV → yS → yR} (h0 : P none) (h : ∀ v r, st = v :: r → P (k v r)) : P (y_pop st k) := by
  cases st with
  | nil => exact h0
  | cons v r => exact h v r rfl
theorem y_on_e {α : Type} {o : Option α} {k : α → yR} (h0 : P none) (h : ∀ v, o = some v → P (k v)) : P (y_on o k) := by
  cases o with
  | none => exact h0
  | some v => exact h v rfl
theorem y_isI_e {v : yV} {k : Nat → yR} (h0 : P none) (h : ∀ n, v = y_i n → P (k n)) : P (y_isI v k) := by
  rcases v with n | v
  · exact h n rfl
  · exact h0
theorem y_bd_e {α : Type} {P : α → Prop} {v : yV} {fi fr fj fs ft : Nat → α} {fv : Value → α} (h1 : ∀ n, v = y_i n → P (fi n)) (h2 : ∀ n, v = y_r n → P (fr n)) (h3 : ∀ n, v = y_j n → P (fj n)) (h4 : ∀ n, v = y_s n → P (fs n)) (h5 : ∀ n, v = y_t n → P (ft n)) (h6 : ∀ n, v = y_v n → P (fv n)) : P (y_bd v fi fr fj fs ft fv) := by
  rcases v with n | n | n | n | n | x
  · exact h1 n rfl
  · exact h2 n rfl
  · exact h3 n rfl
  · exact h4 n rfl
  · exact h5 n rfl
  · exact h6 x rfl
theorem y_isR_e {v : yV} {k : Nat → yR} (h0 : P none) (h : ∀ n, v = y_r n → P (k n)) : P (y_isR v k) :=
  y_bd_e (fun _ _ => h0) h (fun _ _ => h0) (fun _ _ => h0) (fun _ _ => h0) (fun _ _ => h0)
theorem y_isJ_e {v : yV} {k : Nat → yR} (h0 : P none) (h : ∀ n, v = y_j n → P (k n)) : P (y_isJ v k) :=
  y_bd_e (fun _ _ => h0) (fun _ _ => h0) h (fun _ _ => h0) (fun _ _ => h0) (fun _ _ => h0)
theorem y_if_e {α : Type} {P : α → Prop} {b : Bool} {x y : α} (h1 : b = true → P x) (h2 : b = false → P y) : P (y_if b x y) := by
  cases b with
  | true => exact h1 rfl
  | false => exact h2 rfl
theorem y_fz_e {α : Type} (n : Nat) (k : Nat → α) : y_fz n k = k n := by
  cases n with
  | zero => rfl
  | succ m => rfl
theorem y_ce_e {c : yCe} {k : Nat → Nat → yT → yR} : y_ce c k = k c.1 c.2.1 c.2.2 := rfl
theorem y_m4_e {m : yM} {k : Nat → Nat → Bool → Nat → yR} : y_m4 m k = k m.1 m.2.1 m.2.2.1 m.2.2.2 := rfl
end YEL
theorem y_lr_e {α : Type} (p : Nat × yV → Bool) : ∀ (ls : yL) (k : yL → α), y_lr p ls k = k (ls.filter p)
  | [], k => rfl
  | q :: r, k => by
    show @Bool.rec (fun _ => α) (y_lr p r k) (y_lr p r (fun r => k (q :: r))) (p q) = _
    rw [List.filter_cons, y_lr_e p r, y_lr_e p r]
    cases p q with
    | true => rfl
    | false => rfl
theorem y_lf_e (G : yG) : ∀ (ls : yL) (j : Nat) (v : yV), y_lf ls j = some v → xgl (y_dl G ls) j = some (y_dec G v)
  | [], j, v, h => by cases h
  | (x, u) :: r, j, v, h => by
    have h1 : @Bool.rec (fun _ => Option yV) (y_lf r j) (some u) (Nat.beq x j) = some v := h
    show xgl ((x, y_dec G u) :: y_dl G r) j = _
    unfold xgl
    cases hb : Nat.beq x j with
    | true =>
      rw [hb] at h1
      cases h1
      first | rfl | (simp [hb]; done) | (have := Nat.eq_of_beq_eq_true hb; subst this; simp)
    | false =>
      rw [hb] at h1
      have h2 := y_lf_e G r j v h1
      first | exact h2 | (simp only [hb]; exact h2) | (simp [hb]; exact h2)
/-! Tries. -/
theorem y_ev_t {i : Nat} (h : y_ev i = true) : i = 2 * y_hf i := by
  have h1 : i % 2 = 0 := Nat.eq_of_beq_eq_true h
  show i = 2 * (i / 2)
  omega
theorem y_ev_f {i : Nat} (h : y_ev i = false) : i = 2 * y_hf i + 1 := by
  have h1 : i % 2 ≠ 0 := fun e => by
    have : y_ev i = true := by show Nat.beq (i % 2) 0 = true; rw [e]; rfl
    rw [h] at this; cases this
  show i = 2 * (i / 2) + 1
  omega
theorem y_set_e {α β : Type} (b0 : α) {P : β → Prop} : ∀ (d : Nat) (t : Lean.RArray α) (i : Nat) (v : α) (k : Lean.RArray α → β) (b : β), i < 2 ^ d → P b → (∀ t', (∀ j, j < 2 ^ d → y_get d b0 t' j = if j = i then v else y_get d b0 t j) → P (k t')) → P (y_set d t i v k b)
  | 0, t, i, v, k, b, hi, hb, h => h _ (fun j hj => by
      have h1 : j = i := by have := hi; simp at *; omega
      rw [if_pos h1]; rfl)
  | d + 1, t, i, v, k, b, hi, hb, h => by
    cases t with
    | leaf a => exact hb
    | branch p x y =>
      show P (@Bool.rec (fun _ => β) (y_set d y (y_hf i) v (fun y' => k (.branch p x y')) b) (y_set d x (y_hf i) v (fun x' => k (.branch p x' y)) b) (y_ev i))
      have hh : y_hf i < 2 ^ d := by show i / 2 < 2 ^ d; rw [Nat.pow_succ] at hi; omega
      have hg : ∀ (u w : Lean.RArray α) (j : Nat), y_get (d + 1) b0 (.branch p u w) j = @Bool.rec (fun _ => α) (y_get d b0 w (y_hf j)) (y_get d b0 u (y_hf j)) (y_ev j) := fun _ _ _ => rfl
      cases he : y_ev i with
      | true =>
        refine y_set_e b0 d x (y_hf i) v _ b hh hb (fun t' ht => h _ (fun j hj => ?_))
        have hj2 : y_hf j < 2 ^ d := by show j / 2 < 2 ^ d; rw [Nat.pow_succ] at hj; omega
        rw [hg, hg]
        cases hej : y_ev j with
        | true =>
          have e1 := y_ev_t he
          have e2 := y_ev_t hej
          show y_get d b0 t' (y_hf j) = if j = i then v else y_get d b0 x (y_hf j)
          rw [ht _ hj2]
          by_cases hji : j = i
          · rw [if_pos hji, if_pos (by rw [hji])]
          · rw [if_neg hji, if_neg (fun e => hji (by omega))]
        | false =>
          have e1 := y_ev_t he
          have e2 := y_ev_f hej
          rw [if_neg (by omega)]
      | false =>
        refine y_set_e b0 d y (y_hf i) v _ b hh hb (fun t' ht => h _ (fun j hj => ?_))
        have hj2 : y_hf j < 2 ^ d := by show j / 2 < 2 ^ d; rw [Nat.pow_succ] at hj; omega
        rw [hg, hg]
        cases hej : y_ev j with
        | false =>
          have e1 := y_ev_f he
          have e2 := y_ev_f hej
          show y_get d b0 t' (y_hf j) = if j = i then v else y_get d b0 y (y_hf j)
          rw [ht _ hj2]
          by_cases hji : j = i
          · rw [if_pos hji, if_pos (by rw [hji])]
          · rw [if_neg hji, if_neg (fun e => hji (by omega))]
        | true =>
          have e1 := y_ev_f he
          have e2 := y_ev_t hej
          rw [if_neg (by omega)]
theorem y_rep_e {α : Type} (b0 v : α) : ∀ (d j : Nat), j < 2 ^ d → y_get d b0 (y_rep d v) j = v
  | 0, j, _ => rfl
  | d + 1, j, hj => by
    have hj2 : y_hf j < 2 ^ d := by show j / 2 < 2 ^ d; rw [Nat.pow_succ] at hj; omega
    show @Bool.rec (fun _ => α) (y_get d b0 (y_rep d v) (y_hf j)) (y_get d b0 (y_rep d v) (y_hf j)) (y_ev j) = v
    cases y_ev j with
    | true => exact y_rep_e b0 v d _ hj2
    | false => exact y_rep_e b0 v d _ hj2
