/-! One instruction of the fast machine is a step of the machine of numbers. -/
def xpl (i : Instr) : Bool := match i with
  | .getfield _ | .putfield _ | .iaload | .laload | .caload | .aaload | .iastore | .lastore | .castore | .aastore | .arraylength | .new _ | .newarray _ | .anewarray _ | .ldc _ | .ldc_w _ | .ldc2_w _ | .invokevirtual _ | .invokespecial _ | .invokestatic _ | .ireturn | .lreturn | .return_ => false
  | _ => true
theorem xstep_op {rec : Nat → List Value → XW → Option (XO × XW)} {xs : List Int32} {k pc pc' a b len cu su : Nat} {i : Instr} {ls ls' : XL} {st st' : List Value} {σ : XW} (hc : xcode k pc = some (i, len, a, b)) (hp : xpl i = true) (ho : xop i pc a (xNl k) ls st = some (pc', ls', st')) : xstep rec xs k (pc, ls, st, cu, su, σ) = some (.inl (pc', ls', st', cu, su, σ)) := by
  unfold xstep
  dsimp only
  rw [hc]
  dsimp only
  split <;> first | cases hp | (rw [ho])
section YST
variable {G : yG} {xrec : Nat → List Value → XW → Option (XO × XW)} {xs : List Int32} {E : yE} {rec : yCl} {k N pc pc' len a b : Nat} {i : Instr} {n : yKK}
def yGd (G : yG) (xrec : Nat → List Value → XW → Option (XO × XW)) (xs : List Int32) (E : yE) (rec : yCl) (k N pc : Nat) (n : yKK) : Prop := ∀ ls st h m, yTo G (xstep xrec xs k) k N (y_dx G pc ls st h m) (n E rec ls st h m)
theorem yTo_op {ls ls' : yL} {st st' : yS} {h : yH} {m : yM} {r : yR} (hc : xcode k pc = some (i, len, a, b)) (hp : xpl i = true) (ho : xop i pc a (xNl k) (y_dl G ls) (y_ds G st) = some (pc', y_dl G ls', y_ds G st')) (ht : yTo G (xstep xrec xs k) k N (y_dx G pc' ls' st' h m) r) : yTo G (xstep xrec xs k) k (N + 1) (y_dx G pc ls st h m) r :=
  yTo_step (xstep_op hc hp ho) ht
theorem g_push {v : yV} {u : Value} (hc : xcode k pc = some (i, len, a, b)) (hp : xpl i = true) (ho : ∀ nl ls st, xop i pc a nl ls st = some (pc', ls, u :: st)) (hu : u = y_dec G v) (hn : yGd G xrec xs E rec k N pc' n) : yGd G xrec xs E rec k (N + 1) pc (yPush v n) :=
  fun ls st h m => yTo_op hc hp (by rw [ho, hu]; rfl) (hn ls (v :: st) h m)
theorem g_ldi {j : Nat} (hc : xcode k pc = some (i, len, a, b)) (hp : xpl i = true) (ho : ∀ nl ls st x, xgl ls j = some (.int x) → xop i pc a nl ls st = some (pc', ls, .int x :: st)) (hn : yGd G xrec xs E rec k N pc' n) : yGd G xrec xs E rec k (N + 1) pc (yLdi j n) := by
  intro ls st h m
  refine y_on_e yTo_no (fun v hv => ?_)
  have h1 := y_lf_e G ls j v hv
  refine y_bd_e (fun x e => ?_) (fun _ _ => yTo_no) (fun _ _ => yTo_no) (fun x e => ?_) (fun _ _ => yTo_no) (fun _ _ => yTo_no)
  · subst e; exact yTo_op hc hp (ho _ _ _ _ h1) (hn ls (_ :: st) h m)
  · subst e; exact yTo_op hc hp (ho _ _ _ _ h1) (hn ls (_ :: st) h m)
theorem g_ldl {j : Nat} (hc : xcode k pc = some (i, len, a, b)) (hp : xpl i = true) (ho : ∀ nl ls st x, xgl ls j = some (.long x) → xop i pc a nl ls st = some (pc', ls, .long x :: st)) (hn : yGd G xrec xs E rec k N pc' n) : yGd G xrec xs E rec k (N + 1) pc (yLdl j n) := by
  intro ls st h m
  refine y_on_e yTo_no (fun v hv => ?_)
  have h1 := y_lf_e G ls j v hv
  refine y_bd_e (fun _ _ => yTo_no) (fun _ _ => yTo_no) (fun x e => ?_) (fun _ _ => yTo_no) (fun x e => ?_) (fun _ _ => yTo_no)
  · subst e; exact yTo_op hc hp (ho _ _ _ _ h1) (hn ls (_ :: st) h m)
  · subst e; exact yTo_op hc hp (ho _ _ _ _ h1) (hn ls (_ :: st) h m)
theorem g_lda {j : Nat} (hc : xcode k pc = some (i, len, a, b)) (hp : xpl i = true) (ho : ∀ nl ls st x, xgl ls j = some (.ref x) → xop i pc a nl ls st = some (pc', ls, .ref x :: st)) (ho2 : ∀ nl ls st x, xgl ls j = some (.retAddr x) → xop i pc a nl ls st = some (pc', ls, .retAddr x :: st)) (hn : yGd G xrec xs E rec k N pc' n) : yGd G xrec xs E rec k (N + 1) pc (yLda j n) := by
  intro ls st h m
  refine y_on_e yTo_no (fun v hv => ?_)
  have h1 := y_lf_e G ls j v hv
  refine y_bd_e (fun _ _ => yTo_no) (fun x e => ?_) (fun _ _ => yTo_no) (fun _ _ => yTo_no) (fun _ _ => yTo_no) (fun x e => y_if_e (fun hb => ?_) (fun _ => yTo_no))
  · subst e; exact yTo_op hc hp (ho _ _ _ _ h1) (hn ls (_ :: st) h m)
  · subst e
    cases x with
    | retAddr q => exact yTo_op hc hp (ho2 _ _ _ _ h1) (hn ls (_ :: st) h m)
    | _ => cases hb
theorem y_cat_e (G : yG) (v : yV) : (y_dec G v).category = y_cat v := by
  rcases v with n | n | n | n | n | x <;> rfl
theorem y_k1_e (G : yG) (i : Nat) (q : Nat × yV) : xk1 i (q.1, y_dec G q.2) = y_k1 i q := by
  show (!(Nat.beq q.1 i) && !(Nat.beq (q.1 + 1) i && Nat.beq (y_dec G q.2).category 2)) = y_if (Nat.beq q.1 i) false (y_if (Nat.beq (Nat.succ q.1) i) (y_if (Nat.beq (y_cat q.2) 2) false true) true)
  rw [y_cat_e]
  cases Nat.beq q.1 i <;> cases h2 : Nat.beq (q.1 + 1) i <;> cases Nat.beq (y_cat q.2) 2 <;> simp only [y_if, Nat.succ_eq_add_one, h2] <;> rfl
theorem y_k2_e (G : yG) (i : Nat) (q : Nat × yV) : xk2 i (q.1, y_dec G q.2) = y_k2 i q := by
  show (!(Nat.beq q.1 i) && (!(Nat.beq q.1 (i + 1)) && !(Nat.beq (q.1 + 1) i && Nat.beq (y_dec G q.2).category 2))) = y_if (Nat.beq q.1 i) false (y_if (Nat.beq q.1 (Nat.succ i)) false (y_if (Nat.beq (Nat.succ q.1) i) (y_if (Nat.beq (y_cat q.2) 2) false true) true))
  rw [y_cat_e]
  cases Nat.beq q.1 i <;> cases h2 : Nat.beq (q.1 + 1) i <;> cases h3 : Nat.beq q.1 (i + 1) <;> cases Nat.beq (y_cat q.2) 2 <;> simp only [y_if, Nat.succ_eq_add_one, h2, h3] <;> rfl
theorem y_f1_e (G : yG) (j : Nat) (ls : yL) : (y_dl G ls).filter (xk1 j) = y_dl G (ls.filter (y_k1 j)) := by
  induction ls with
  | nil => rfl
  | cons q r ih =>
    show List.filter (xk1 j) ((q.1, y_dec G q.2) :: y_dl G r) = _
    rw [List.filter_cons, List.filter_cons, y_k1_e, ih]
    cases y_k1 j q <;> rfl
theorem y_f2_e (G : yG) (j : Nat) (ls : yL) : (y_dl G ls).filter (xk2 j) = y_dl G (ls.filter (y_k2 j)) := by
  induction ls with
  | nil => rfl
  | cons q r ih =>
    show List.filter (xk2 j) ((q.1, y_dec G q.2) :: y_dl G r) = _
    rw [List.filter_cons, List.filter_cons, y_k2_e, ih]
    cases y_k2 j q <;> rfl
theorem g_sti {j : Nat} (hc : xcode k pc = some (i, len, a, b)) (hp : xpl i = true) (ho : ∀ ls r x, xop i pc a (xNl k) ls (.int x :: r) = some (pc', xs1 ls j (.int x), r)) (hn : yGd G xrec xs E rec k N pc' n) : yGd G xrec xs E rec k (N + 1) pc (ySti j n) := by
  intro ls st h m
  refine y_pop_e yTo_no (fun v r hs => ?_)
  subst hs
  refine y_bd_e (fun x e => ?_) (fun _ _ => yTo_no) (fun _ _ => yTo_no) (fun x e => ?_) (fun _ _ => yTo_no) (fun _ _ => yTo_no)
  · subst e; rw [y_lr_e]; exact yTo_op hc hp ((ho _ _ _).trans (by unfold xs1; rw [y_f1_e]; rfl)) (hn (_ :: _) r h m)
  · subst e; rw [y_lr_e]; exact yTo_op hc hp ((ho _ _ _).trans (by unfold xs1; rw [y_f1_e]; rfl)) (hn (_ :: _) r h m)
theorem g_sta {j : Nat} (hc : xcode k pc = some (i, len, a, b)) (hp : xpl i = true) (ho : ∀ ls r x, xop i pc a (xNl k) ls (.ref x :: r) = some (pc', xs1 ls j (.ref x), r)) (hn : yGd G xrec xs E rec k N pc' n) : yGd G xrec xs E rec k (N + 1) pc (ySta j n) := by
  intro ls st h m
  refine y_pop_e yTo_no (fun v r hs => ?_)
  subst hs
  refine y_isR_e yTo_no (fun x e => ?_)
  subst e; rw [y_lr_e]; exact yTo_op hc hp ((ho _ _ _).trans (by unfold xs1; rw [y_f1_e]; rfl)) (hn (_ :: _) r h m)
theorem g_stl {j : Nat} (hc : xcode k pc = some (i, len, a, b)) (hp : xpl i = true) (ho : ∀ ls r x, xop i pc a (xNl k) ls (.long x :: r) = some (pc', xs2 ls j (.long x), r)) (hn : yGd G xrec xs E rec k N pc' n) : yGd G xrec xs E rec k (N + 1) pc (yStl j n) := by
  intro ls st h m
  refine y_pop_e yTo_no (fun v r hs => ?_)
  subst hs
  refine y_bd_e (fun _ _ => yTo_no) (fun _ _ => yTo_no) (fun x e => ?_) (fun _ _ => yTo_no) (fun x e => ?_) (fun _ _ => yTo_no)
  · subst e; rw [y_lr_e]; exact yTo_op hc hp ((ho _ _ _).trans (by unfold xs2; rw [y_f2_e]; rfl)) (hn (_ :: _) r h m)
  · subst e; rw [y_lr_e]; exact yTo_op hc hp ((ho _ _ _).trans (by unfold xs2; rw [y_f2_e]; rfl)) (hn (_ :: _) r h m)
theorem g_goto {t : Nat} (hc : xcode k pc = some (i, len, a, b)) (hp : xpl i = true) (ho : ∀ nl ls st, xop i pc a nl ls st = some (t, ls, st)) : yGd G xrec xs E rec k 1 pc (yGoto t n) :=
  fun ls st h m => yTo_op (N := 0) (ls' := ls) (st' := st) hc hp (ho _ _ _) ⟨0, Nat.le_refl 0, rfl⟩
theorem g_lab {t : Nat} : yGd G xrec xs E rec k 0 t (yLab t) := fun ls st h m => ⟨0, Nat.le_refl 0, rfl⟩
theorem g_bad : yGd G xrec xs E rec k 0 pc (yBad n) := fun _ _ _ _ => yTo_no
theorem g_ifnull (hc : xcode k pc = some (i, len, a, b)) (hp : xpl i = true) (ho : ∀ nl ls r x, xop i pc a nl ls (.ref x :: r) = some (pc', ls, r)) (hn : yGd G xrec xs E rec k N pc' n) : yGd G xrec xs E rec k (N + 1) pc (yIfnull n) := by
  intro ls st h m
  refine y_pop_e yTo_no (fun v r hs => ?_)
  subst hs
  refine y_isR_e yTo_no (fun x e => ?_)
  subst e; exact yTo_op hc hp (ho _ _ _ _) (hn ls r h m)
end YST
