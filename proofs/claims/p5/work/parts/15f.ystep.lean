/-! More instructions of the fast machine: arithmetic, branches. -/
def y_vi (G : yG) (c : Nat) : Int32 := if c % 2 = 0 then Int32.ofNat (c / 2) else G.1 (c / 2)
theorem y_vi_n (G : yG) (x : Nat) : y_vi G (y_cn x) = Int32.ofNat x := by
  unfold y_vi
  rw [if_pos (show y_cn x % 2 = 0 from (by show (2 * x) % 2 = 0; omega)), show y_cn x / 2 = x from (by show (2 * x) / 2 = x; omega)]
theorem y_vi_s (G : yG) (x : Nat) : y_vi G (y_cs x) = G.1 x := by
  unfold y_vi
  rw [if_neg (show ¬ y_cs x % 2 = 0 from (by show ¬ (2 * x + 1) % 2 = 0; omega)), show y_cs x / 2 = x from (by show (2 * x + 1) / 2 = x; omega)]
def y_opf (o : Nat) : Option (Int32 → Int32 → Int32) := match o with
  | 0 => some (fun x y => x + y)
  | 1 => some (fun x y => x - y)
  | 2 => some (fun x y => x * y)
  | 3 => some (fun x y => x &&& y)
  | 4 => some (fun x y => x ||| y)
  | 8 => some (fun x y => (x.toUInt32 >>> (y.toUInt32 &&& Int32.toUInt32 31)).toInt32)
  | 21 => some (fun x _ => (x.toUInt32 % 65536).toInt32)
  | _ => none
/-- what a case's tables say is so -/
def yOk (G : yG) (xs : List Int32) (E : yE) : Prop := (∀ o a b r, y_o3 E.2.1 o a b = some r → ∃ f, y_opf o = some f ∧ G.1 r = f (y_vi G a) (y_vi G b)) ∧ (∀ o a b r, y_o3 E.2.2 o a b = some r → y_cmp o (y_vi G a) (y_vi G b) = r) ∧ (∀ v, y_lk E.1 0 = some v → y_dec G v = .int (Int32.ofNat xs.length)) ∧ (∀ j v, y_lk E.1 (j + 1) = some v → ∃ x, xs[j]? = some x ∧ y_dec G v = .int x) ∧ (∀ k, G.2 k = (G.1 k).toInt64) ∧ xs.length ≤ 4096
theorem y_ift {α : Type} (x y : α) : y_if true x y = x := rfl
theorem y_iff {α : Type} (x y : α) : y_if false x y = y := rfl
theorem y_cm1 {x y : Int64} (h : x < y) : lg_cmp x y = Int32.ofNat 4294967295 := by
  have h1 : ¬ y < x := by rw [Int64.lt_iff_toInt_lt] at h ⊢; omega
  have h2 : ¬ x = y := fun e => by rw [e, Int64.lt_iff_toInt_lt] at h; omega
  unfold lg_cmp
  rw [if_neg h1, if_neg h2]
  rfl
theorem y_cm2 {x y : Int64} (h : y < x) : lg_cmp x y = Int32.ofNat 1 := by
  unfold lg_cmp
  rw [if_pos h]
  rfl
theorem y_cm3 {x y : Int64} (h : ¬ x < y) (h2 : ¬ y < x) : lg_cmp x y = Int32.ofNat 0 := by
  have h3 : x = y := by rw [Int64.lt_iff_toInt_lt] at h h2; exact Int64.toInt_inj.mp (by omega)
  unfold lg_cmp
  rw [if_neg h2, if_pos h3]
  rfl
section YST
variable {G : yG} {xrec : Nat → List Value → XW → Option (XO × XW)} {xs : List Int32} {E : yE} {rec : yCl} {k N pc pc' len a b : Nat} {i : Instr} {n : yKK}
theorem g_ar {o : Nat} (hE : yOk G xs E) (hc : xcode k pc = some (i, len, a, b)) (hp : xpl i = true)
    (ho : ∀ nl ls r x y q, y_ar o x y = some q → xop i pc a nl ls (.int (Int32.ofNat y) :: .int (Int32.ofNat x) :: r) = some (pc', ls, .int (Int32.ofNat q) :: r))
    (hs : ∀ f, y_opf o = some f → ∀ nl ls r x y, xop i pc a nl ls (.int y :: .int x :: r) = some (pc', ls, .int (f x y) :: r)) (hn : yGd G xrec xs E rec k N pc' n) : yGd G xrec xs E rec k (N + 1) pc (yAr o n) := by
  intro ls st h m
  have sym : ∀ (v u : yV) (r : yS) (cx cy : Nat), st = v :: u :: r → (∃ y, y_dec G v = .int y ∧ y_vi G cy = y) → (∃ x, y_dec G u = .int x ∧ y_vi G cx = x) → yTo G (xstep xrec xs k) k (N + 1) (y_dx G pc ls st h m) (y_on (y_o3 E.2.1 o cx cy) (fun q => n E rec ls (y_s q :: r) h m)) := by
    intro v u r cx cy hst hy hx
    obtain ⟨y, hy1, hy2⟩ := hy
    obtain ⟨x, hx1, hx2⟩ := hx
    subst hst
    refine y_on_e yTo_no (fun q hq => ?_)
    obtain ⟨f, hf, hr⟩ := hE.1 _ _ _ _ hq
    refine yTo_op hc hp (st' := y_s q :: r) (ls' := ls) ?_ (hn ls _ h m)
    show xop i pc a (xNl k) (y_dl G ls) (y_dec G v :: y_dec G u :: y_ds G r) = some (pc', y_dl G ls, .int (G.1 q) :: y_ds G r)
    rw [hy1, hx1, hs f hf, hr, hy2, hx2]
  refine y_pop_e yTo_no (fun v r hs1 => y_pop_e yTo_no (fun u r2 hs2 => ?_))
  subst hs2
  refine y_bd_e (fun y e => ?_) (fun _ _ => yTo_no) (fun _ _ => yTo_no) (fun y e => ?_) (fun _ _ => yTo_no) (fun _ _ => yTo_no)
  · subst e
    refine y_bd_e (fun x e => ?_) (fun _ _ => yTo_no) (fun _ _ => yTo_no) (fun x e => ?_) (fun _ _ => yTo_no) (fun _ _ => yTo_no)
    · subst e
      refine y_on_e yTo_no (fun q hq => ?_)
      rw [y_fz_e]
      subst hs1
      exact yTo_op hc hp (ho _ _ _ _ _ _ hq) (hn ls (y_i q :: r2) h m)
    · subst e
      exact sym _ _ _ _ _ hs1 ⟨_, rfl, y_vi_n G y⟩ ⟨_, rfl, y_vi_s G x⟩
  · subst e
    refine y_bd_e (fun x e => ?_) (fun _ _ => yTo_no) (fun _ _ => yTo_no) (fun x e => ?_) (fun _ _ => yTo_no) (fun _ _ => yTo_no)
    · subst e
      exact sym _ _ _ _ _ hs1 ⟨_, rfl, y_vi_s G y⟩ ⟨_, rfl, y_vi_n G x⟩
    · subst e
      exact sym _ _ _ _ _ hs1 ⟨_, rfl, y_vi_s G y⟩ ⟨_, rfl, y_vi_s G x⟩
theorem g_la {o : Nat} (hc : xcode k pc = some (i, len, a, b)) (hp : xpl i = true)
    (ho : ∀ nl ls r x y q, y_la o x y = some q → xop i pc a nl ls (.long (Int64.ofNat y) :: .long (Int64.ofNat x) :: r) = some (pc', ls, .long (Int64.ofNat q) :: r)) (hn : yGd G xrec xs E rec k N pc' n) : yGd G xrec xs E rec k (N + 1) pc (yLa o n) := by
  intro ls st h m
  refine y_pop_e yTo_no (fun v r hs1 => y_pop_e yTo_no (fun u r2 hs2 => ?_))
  subst hs2
  refine y_isJ_e yTo_no (fun y e => y_isJ_e yTo_no (fun x e2 => y_on_e yTo_no (fun q hq => ?_)))
  subst e; subst e2; subst hs1
  rw [y_fz_e]
  exact yTo_op hc hp (ho _ _ _ _ _ _ hq) (hn ls (y_j q :: r2) h m)
theorem g_lcmp (hc : xcode k pc = some (.lcmp, len, a, b)) (hn : yGd G xrec xs E rec k N (pc + 1) n) : yGd G xrec xs E rec k (N + 1) pc (yLcmp n) := by
  intro ls st h m
  refine y_pop_e yTo_no (fun v r hs1 => y_pop_e yTo_no (fun u r2 hs2 => ?_))
  subst hs2; subst hs1
  refine y_bd_e (fun _ _ => yTo_no) (fun _ _ => yTo_no) (fun y e => y_isJ_e yTo_no (fun x e2 => ?_)) (fun _ _ => yTo_no) (fun y e => y_bd_e (fun _ _ => yTo_no) (fun _ _ => yTo_no) (fun _ _ => yTo_no) (fun _ _ => yTo_no) (fun x e2 => ?_) (fun _ _ => yTo_no)) (fun _ _ => yTo_no)
  · subst e; subst e2
    have hop : ∀ q : Nat, lg_cmp (Int64.ofNat x) (Int64.ofNat y) = Int32.ofNat q → xop .lcmp pc a (xNl k) (y_dl G ls) (y_ds G (y_j y :: y_j x :: r2)) = some (pc + 1, y_dl G ls, y_ds G (y_i q :: r2)) := fun q hq => by
      show some (pc + 1, y_dl G ls, Value.int (lg_cmp (Int64.ofNat x) (Int64.ofNat y)) :: y_ds G r2) = some (pc + 1, y_dl G ls, Value.int (Int32.ofNat q) :: y_ds G r2)
      rw [hq]
    generalize hm1 : nat_lit 4294967295 = m1
    cases h1 : y_lt64 x y with
    | true =>
      rw [y_lt64_e] at h1
      rw [y_ift]
      exact yTo_op hc rfl (hop _ (by rw [← hm1]; exact y_cm1 (of_decide_eq_true h1))) (hn ls (y_i m1 :: r2) h m)
    | false =>
      rw [y_lt64_e] at h1
      rw [y_iff]
      cases h2 : y_lt64 y x with
      | true =>
        rw [y_lt64_e] at h2
        rw [y_ift]
        exact yTo_op hc rfl (hop _ (y_cm2 (of_decide_eq_true h2))) (hn ls (y_i (nat_lit 1) :: r2) h m)
      | false =>
        rw [y_lt64_e] at h2
        rw [y_iff]
        exact yTo_op hc rfl (hop _ (y_cm3 (of_decide_eq_false h1) (of_decide_eq_false h2))) (hn ls (y_i (nat_lit 0) :: r2) h m)
  · subst e; subst e2
    cases hq : Nat.beq y x with
    | false => exact yTo_no
    | true =>
      have hq := Nat.eq_of_beq_eq_true hq
      subst hq
      rw [y_ift]
      have hirr : ¬ G.2 y < G.2 y := by rw [Int64.lt_iff_toInt_lt]; omega
      refine yTo_op hc rfl (st' := y_i (nat_lit 0) :: r2) (ls' := ls) ?_ (hn ls (y_i (nat_lit 0) :: r2) h m)
      show some (pc + 1, y_dl G ls, Value.int (lg_cmp (G.2 y) (G.2 y)) :: y_ds G r2) = some (pc + 1, y_dl G ls, Value.int (Int32.ofNat 0) :: y_ds G r2)
      rw [y_cm3 hirr hirr]
theorem g_br {ls : yL} {r : yS} {st : yS} {h : yH} {m : yM} {bb : Bool} {t : Nat} {R : yR} (hc : xcode k pc = some (i, len, a, b)) (hp : xpl i = true) (ho : xop i pc a (xNl k) (y_dl G ls) (y_ds G st) = some ((if bb = true then t else pc'), y_dl G ls, y_ds G r)) (hR : R = y_if bb (y_go t ls r h m) (n E rec ls r h m)) (hn : yGd G xrec xs E rec k N pc' n) : yTo G (xstep xrec xs k) k (N + 1) (y_dx G pc ls st h m) R := by
  subst hR
  cases bb with
  | true => exact yTo_op hc hp (ls' := ls) (st' := r) (pc' := t) ho ⟨0, Nat.zero_le _, rfl⟩
  | false => exact yTo_op hc hp (ls' := ls) (st' := r) (pc' := pc') ho (hn ls r h m)
theorem g_ifc {c t : Nat} (hE : yOk G xs E) (hlt : c < 6) (hc : xcode k pc = some (i, len, a, b)) (hp : xpl i = true) (ho : ∀ nl ls r x, xop i pc a nl ls (.int x :: r) = some ((if y_cmp c x 0 = true then t else pc'), ls, r)) (hn : yGd G xrec xs E rec k N pc' n) : yGd G xrec xs E rec k (N + 1) pc (yIfc c t n) := by
  intro ls st h m
  refine y_pop_e yTo_no (fun v r hs => ?_)
  subst hs
  refine y_bd_e (fun x e => ?_) (fun _ _ => yTo_no) (fun _ _ => yTo_no) (fun x e => y_on_e yTo_no (fun bb hb => ?_)) (fun _ _ => yTo_no) (fun _ _ => yTo_no)
  · subst e
    refine g_br (bb := y_cc c x 0) hc hp ?_ rfl hn
    rw [y_cc_e c x 0 hlt]
    exact ho _ _ _ _
  · subst e
    refine g_br (bb := bb) hc hp ?_ rfl hn
    have h1 := hE.2.1 _ _ _ _ hb
    rw [y_vi_s, show y_vi G 0 = 0 from rfl] at h1
    rw [← h1]
    exact ho _ _ _ _
theorem g_icmp {c t : Nat} (hE : yOk G xs E) (hlt : c < 6) (hc : xcode k pc = some (i, len, a, b)) (hp : xpl i = true) (ho : ∀ nl ls r x y, xop i pc a nl ls (.int y :: .int x :: r) = some ((if y_cmp c x y = true then t else pc'), ls, r)) (hn : yGd G xrec xs E rec k N pc' n) : yGd G xrec xs E rec k (N + 1) pc (yIcmp c t n) := by
  intro ls st h m
  refine y_pop_e yTo_no (fun v r hs1 => y_pop_e yTo_no (fun u r2 hs2 => ?_))
  subst hs2; subst hs1
  refine y_bd_e (fun y e => ?_) (fun _ _ => yTo_no) (fun _ _ => yTo_no) (fun y e => ?_) (fun _ _ => yTo_no) (fun _ _ => yTo_no)
  · subst e
    refine y_bd_e (fun x e => ?_) (fun _ _ => yTo_no) (fun _ _ => yTo_no) (fun x e => y_on_e yTo_no (fun bb hb => ?_)) (fun _ _ => yTo_no) (fun _ _ => yTo_no)
    · subst e
      refine g_br (bb := y_cc c x y) hc hp ?_ rfl hn
      rw [y_cc_e c x y hlt]
      exact ho _ _ _ _ _
    · subst e
      refine g_br (bb := bb) hc hp ?_ rfl hn
      have h1 := hE.2.1 _ _ _ _ hb
      rw [y_vi_s, y_vi_n] at h1
      rw [← h1]
      exact ho _ _ _ _ _
  · subst e
    refine y_bd_e (fun x e => y_on_e yTo_no (fun bb hb => ?_)) (fun _ _ => yTo_no) (fun _ _ => yTo_no) (fun x e => y_on_e yTo_no (fun bb hb => ?_)) (fun _ _ => yTo_no) (fun _ _ => yTo_no)
    · subst e
      refine g_br (bb := bb) hc hp ?_ rfl hn
      have h1 := hE.2.1 _ _ _ _ hb
      rw [y_vi_s, y_vi_n] at h1
      rw [← h1]
      exact ho _ _ _ _ _
    · subst e
      refine g_br (bb := bb) hc hp ?_ rfl hn
      have h1 := hE.2.1 _ _ _ _ hb
      rw [y_vi_s, y_vi_s] at h1
      rw [← h1]
      exact ho _ _ _ _ _
end YST
