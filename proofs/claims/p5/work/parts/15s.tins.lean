/-! One lemma an instruction: what the tables hold at a place, and what the fast machine does there. -/
def y_cd (cd : Jvm.ClassFile.Cond) : Nat := match cd with
  | .eq => 0
  | .ne => 1
  | .lt => 2
  | .ge => 3
  | .gt => 4
  | .le => 5
theorem y_if_e2 (pc a nl : Nat) (ls : XL) (r : List Value) (x : Int32) (cd : Jvm.ClassFile.Cond) (o : Int) : xop (.ifCond cd o) pc a nl ls (.int x :: r) = some ((if y_cmp (y_cd cd) x 0 = true then a else pc + 3), ls, r) := by
  cases cd with
  | eq => show (if x = 0 then _ else _) = some ((if decide (x = 0) = true then a else pc + 3), ls, r); by_cases h : x = 0 <;> simp only [h, decide_true, decide_false, if_true, if_false, Bool.false_eq_true]
  | ne => show (if x = 0 then _ else _) = some ((if (!decide (x = 0)) = true then a else pc + 3), ls, r); by_cases h : x = 0 <;> simp only [h, decide_true, decide_false, if_true, if_false, Bool.false_eq_true, Bool.not_true, Bool.not_false]
  | lt => show (if x < 0 then _ else _) = some ((if decide (x < 0) = true then a else pc + 3), ls, r); by_cases h : x < 0 <;> simp only [h, decide_true, decide_false, if_true, if_false, Bool.false_eq_true]
  | ge => show (if 0 ≤ x then _ else _) = some ((if decide (0 ≤ x) = true then a else pc + 3), ls, r); by_cases h : 0 ≤ x <;> simp only [h, decide_true, decide_false, if_true, if_false, Bool.false_eq_true]
  | gt => show (if 0 < x then _ else _) = some ((if decide (0 < x) = true then a else pc + 3), ls, r); by_cases h : 0 < x <;> simp only [h, decide_true, decide_false, if_true, if_false, Bool.false_eq_true]
  | le => show (if x ≤ 0 then _ else _) = some ((if decide (x ≤ 0) = true then a else pc + 3), ls, r); by_cases h : x ≤ 0 <;> simp only [h, decide_true, decide_false, if_true, if_false, Bool.false_eq_true]
theorem y_icmp_e2 (pc a nl : Nat) (ls : XL) (r : List Value) (x y : Int32) (cd : Jvm.ClassFile.Cond) (o : Int) : xop (.if_icmp cd o) pc a nl ls (.int y :: .int x :: r) = some ((if y_cmp (y_cd cd) x y = true then a else pc + 3), ls, r) := by
  cases cd with
  | eq => show (if x = y then _ else _) = some ((if decide (x = y) = true then a else pc + 3), ls, r); by_cases h : x = y <;> simp only [h, decide_true, decide_false, if_true, if_false, Bool.false_eq_true]
  | ne => show (if x = y then _ else _) = some ((if (!decide (x = y)) = true then a else pc + 3), ls, r); by_cases h : x = y <;> simp only [h, decide_true, decide_false, if_true, if_false, Bool.false_eq_true, Bool.not_true, Bool.not_false]
  | lt => show (if x < y then _ else _) = some ((if decide (x < y) = true then a else pc + 3), ls, r); by_cases h : x < y <;> simp only [h, decide_true, decide_false, if_true, if_false, Bool.false_eq_true]
  | ge => show (if y ≤ x then _ else _) = some ((if decide (y ≤ x) = true then a else pc + 3), ls, r); by_cases h : y ≤ x <;> simp only [h, decide_true, decide_false, if_true, if_false, Bool.false_eq_true]
  | gt => show (if y < x then _ else _) = some ((if decide (y < x) = true then a else pc + 3), ls, r); by_cases h : y < x <;> simp only [h, decide_true, decide_false, if_true, if_false, Bool.false_eq_true]
  | le => show (if x ≤ y then _ else _) = some ((if decide (x ≤ y) = true then a else pc + 3), ls, r); by_cases h : x ≤ y <;> simp only [h, decide_true, decide_false, if_true, if_false, Bool.false_eq_true]
theorem y_blt_t {a b : Nat} (h : Nat.blt a b = true) : a < b := Nat.le_of_ble_eq_true h
section YST
variable {G : yG} {xrec : Nat → List Value → XW → Option (XO × XW)} {xs : List Int32} {E : yE} {rec : yCl} {k N pc pc' len a b : Nat} {i : Instr} {n : yKK}
theorem yGd_mono {M : Nat} (h : Nat.ble N M = true) (hn : yGd G xrec xs E rec k N pc n) : yGd G xrec xs E rec k M pc n := fun ls st h' m => yTo_mono (Nat.le_of_ble_eq_true h) (hn ls st h' m)
theorem tt_iconst {c : Int} {x : Nat} (hc : xcode k pc = some (.iconst c, len, a, b)) (hv : Int32.ofInt c = Int32.ofNat x) (hn : yGd G xrec xs E rec k N (pc + 1) n) : yGd G xrec xs E rec k (N + 1) pc (yPush (y_i x) n) := g_push hc rfl (fun _ _ _ => rfl) (congrArg Value.int hv) hn
theorem tt_bipush {c : Int} {x : Nat} (hc : xcode k pc = some (.bipush c, len, a, b)) (hv : (Int8.ofInt c).toInt32 = Int32.ofNat x) (hn : yGd G xrec xs E rec k N (pc + 2) n) : yGd G xrec xs E rec k (N + 1) pc (yPush (y_i x) n) := g_push hc rfl (fun _ _ _ => rfl) (congrArg Value.int hv) hn
theorem tt_sipush {c : Int} {x : Nat} (hc : xcode k pc = some (.sipush c, len, a, b)) (hv : (Int16.ofInt c).toInt32 = Int32.ofNat x) (hn : yGd G xrec xs E rec k N (pc + 3) n) : yGd G xrec xs E rec k (N + 1) pc (yPush (y_i x) n) := g_push hc rfl (fun _ _ _ => rfl) (congrArg Value.int hv) hn
theorem tt_lconst {c : Fin 2} {x : Nat} (hc : xcode k pc = some (.lconst c, len, a, b)) (hv : Int64.ofNat c = Int64.ofNat x) (hn : yGd G xrec xs E rec k N (pc + 1) n) : yGd G xrec xs E rec k (N + 1) pc (yPush (y_j x) n) := g_push hc rfl (fun _ _ _ => rfl) (congrArg Value.long hv) hn
theorem tt_dconst0 (hc : xcode k pc = some (.dconst 0, len, a, b)) (hn : yGd G xrec xs E rec k N (pc + 1) n) : yGd G xrec xs E rec k (N + 1) pc (yPush (y_v (.double FP.dconst0)) n) := g_push hc rfl (fun _ _ _ => rfl) rfl hn
theorem tt_dconst1 (hc : xcode k pc = some (.dconst 1, len, a, b)) (hn : yGd G xrec xs E rec k N (pc + 1) n) : yGd G xrec xs E rec k (N + 1) pc (yPush (y_v (.double FP.dconst1)) n) := g_push hc rfl (fun _ _ _ => rfl) rfl hn
theorem tt_fconst0 (hc : xcode k pc = some (.fconst 0, len, a, b)) (hn : yGd G xrec xs E rec k N (pc + 1) n) : yGd G xrec xs E rec k (N + 1) pc (yPush (y_v (.float FP.fconst0)) n) := g_push hc rfl (fun _ _ _ => rfl) rfl hn
theorem tt_fconst1 (hc : xcode k pc = some (.fconst 1, len, a, b)) (hn : yGd G xrec xs E rec k N (pc + 1) n) : yGd G xrec xs E rec k (N + 1) pc (yPush (y_v (.float FP.fconst1)) n) := g_push hc rfl (fun _ _ _ => rfl) rfl hn
theorem tt_fconst2 (hc : xcode k pc = some (.fconst 2, len, a, b)) (hn : yGd G xrec xs E rec k N (pc + 1) n) : yGd G xrec xs E rec k (N + 1) pc (yPush (y_v (.float FP.fconst2)) n) := g_push hc rfl (fun _ _ _ => rfl) rfl hn
theorem tt_ldc {ix : Nat} {v : yV} {u : Value} (hc : xcode k pc = some (.ldc ix, len, a, b)) (hv : xnth xcon a = some u) (hu : y_dec G v = u) (hn : yGd G xrec xs E rec k N (pc + 2) n) : yGd G xrec xs E rec k (N + 1) pc (yPush v n) := by
  intro ls st h m
  refine yTo_step ?_ (hn ls (v :: st) h m)
  show xstep xrec xs k (pc, y_dl G ls, y_ds G st, m.1, m.2.1, y_dw G h m) = some (.inl (pc + 2, y_dl G ls, y_dec G v :: y_ds G st, m.1, m.2.1, y_dw G h m))
  rw [hu]
  unfold xstep; dsimp only; rw [hc]; dsimp only; rw [hv]
theorem tt_ldc_w {ix : Nat} {v : yV} {u : Value} (hc : xcode k pc = some (.ldc_w ix, len, a, b)) (hv : xnth xcon a = some u) (hu : y_dec G v = u) (hn : yGd G xrec xs E rec k N (pc + 3) n) : yGd G xrec xs E rec k (N + 1) pc (yPush v n) := by
  intro ls st h m
  refine yTo_step ?_ (hn ls (v :: st) h m)
  show xstep xrec xs k (pc, y_dl G ls, y_ds G st, m.1, m.2.1, y_dw G h m) = some (.inl (pc + 3, y_dl G ls, y_dec G v :: y_ds G st, m.1, m.2.1, y_dw G h m))
  rw [hu]
  unfold xstep; dsimp only; rw [hc]; dsimp only; rw [hv]
theorem tt_ldc2_w {ix : Nat} {v : yV} {u : Value} (hc : xcode k pc = some (.ldc2_w ix, len, a, b)) (hv : xnth xcon a = some u) (hu : y_dec G v = u) (hn : yGd G xrec xs E rec k N (pc + 3) n) : yGd G xrec xs E rec k (N + 1) pc (yPush v n) := by
  intro ls st h m
  refine yTo_step ?_ (hn ls (v :: st) h m)
  show xstep xrec xs k (pc, y_dl G ls, y_ds G st, m.1, m.2.1, y_dw G h m) = some (.inl (pc + 3, y_dl G ls, y_dec G v :: y_ds G st, m.1, m.2.1, y_dw G h m))
  rw [hu]
  unfold xstep; dsimp only; rw [hc]; dsimp only; rw [hv]
theorem tt_iload_n {jj : Fin 4} {j : Nat} (hc : xcode k pc = some (.iload_n jj, len, a, b)) (hj : jj.val = j) (hn : yGd G xrec xs E rec k N (pc + 1) n) : yGd G xrec xs E rec k (N + 1) pc (yLdi j n) := by subst hj; exact g_ldi hc rfl (fun _ _ _ _ h => by unfold xop; dsimp only; rw [h]) hn
theorem tt_iload {j : Nat} (hc : xcode k pc = some (.iload j, len, a, b)) (hn : yGd G xrec xs E rec k N (pc + 2) n) : yGd G xrec xs E rec k (N + 1) pc (yLdi j n) := g_ldi hc rfl (fun _ _ _ _ h => by unfold xop; dsimp only; rw [h]) hn
theorem tt_lload_n {jj : Fin 4} {j : Nat} (hc : xcode k pc = some (.lload_n jj, len, a, b)) (hj : jj.val = j) (hn : yGd G xrec xs E rec k N (pc + 1) n) : yGd G xrec xs E rec k (N + 1) pc (yLdl j n) := by subst hj; exact g_ldl hc rfl (fun _ _ _ _ h => by unfold xop; dsimp only; rw [h]) hn
theorem tt_lload {j : Nat} (hc : xcode k pc = some (.lload j, len, a, b)) (hn : yGd G xrec xs E rec k N (pc + 2) n) : yGd G xrec xs E rec k (N + 1) pc (yLdl j n) := g_ldl hc rfl (fun _ _ _ _ h => by unfold xop; dsimp only; rw [h]) hn
theorem tt_aload_n {jj : Fin 4} {j : Nat} (hc : xcode k pc = some (.aload_n jj, len, a, b)) (hj : jj.val = j) (hn : yGd G xrec xs E rec k N (pc + 1) n) : yGd G xrec xs E rec k (N + 1) pc (yLda j n) := by subst hj; exact g_lda hc rfl (fun _ _ _ _ h => by unfold xop; dsimp only; rw [h]) (fun _ _ _ _ h => by unfold xop; dsimp only; rw [h]) hn
theorem tt_aload {j : Nat} (hc : xcode k pc = some (.aload j, len, a, b)) (hn : yGd G xrec xs E rec k N (pc + 2) n) : yGd G xrec xs E rec k (N + 1) pc (yLda j n) := g_lda hc rfl (fun _ _ _ _ h => by unfold xop; dsimp only; rw [h]) (fun _ _ _ _ h => by unfold xop; dsimp only; rw [h]) hn
theorem tt_dload_n {jj : Fin 4} {j : Nat} (hc : xcode k pc = some (.dload_n jj, len, a, b)) (hj : jj.val = j) (hn : yGd G xrec xs E rec k N (pc + 1) n) : yGd G xrec xs E rec k (N + 1) pc (yLdv y_kD j n) := by subst hj; exact g_ldv hc rfl (fun _ _ _ v hok h => by obtain ⟨x, hx⟩ := y_kD_e (G := G) hok; rw [hx] at h ⊢; unfold xop; dsimp only; rw [h]) hn
theorem tt_dload {j : Nat} (hc : xcode k pc = some (.dload j, len, a, b)) (hn : yGd G xrec xs E rec k N (pc + 2) n) : yGd G xrec xs E rec k (N + 1) pc (yLdv y_kD j n) := g_ldv hc rfl (fun _ _ _ v hok h => by obtain ⟨x, hx⟩ := y_kD_e (G := G) hok; rw [hx] at h ⊢; unfold xop; dsimp only; rw [h]) hn
theorem tt_fload_n {jj : Fin 4} {j : Nat} (hc : xcode k pc = some (.fload_n jj, len, a, b)) (hj : jj.val = j) (hn : yGd G xrec xs E rec k N (pc + 1) n) : yGd G xrec xs E rec k (N + 1) pc (yLdv y_kF j n) := by subst hj; exact g_ldv hc rfl (fun _ _ _ v hok h => by obtain ⟨x, hx⟩ := y_kF_e (G := G) hok; rw [hx] at h ⊢; unfold xop; dsimp only; rw [h]) hn
theorem tt_fload {j : Nat} (hc : xcode k pc = some (.fload j, len, a, b)) (hn : yGd G xrec xs E rec k N (pc + 2) n) : yGd G xrec xs E rec k (N + 1) pc (yLdv y_kF j n) := g_ldv hc rfl (fun _ _ _ v hok h => by obtain ⟨x, hx⟩ := y_kF_e (G := G) hok; rw [hx] at h ⊢; unfold xop; dsimp only; rw [h]) hn
theorem tt_istore_n {jj : Fin 4} {j : Nat} (hc : xcode k pc = some (.istore_n jj, len, a, b)) (hj : jj.val = j) (hl : Nat.blt j (xNl k) = true) (hn : yGd G xrec xs E rec k N (pc + 1) n) : yGd G xrec xs E rec k (N + 1) pc (ySti j n) := by subst hj; exact g_sti hc rfl (fun _ _ _ => by unfold xop; dsimp only; rw [if_pos (y_blt_t hl)]) hn
theorem tt_istore {j : Nat} (hc : xcode k pc = some (.istore j, len, a, b)) (hl : Nat.blt j (xNl k) = true) (hn : yGd G xrec xs E rec k N (pc + 2) n) : yGd G xrec xs E rec k (N + 1) pc (ySti j n) := g_sti hc rfl (fun _ _ _ => by unfold xop; dsimp only; rw [if_pos (y_blt_t hl)]) hn
theorem tt_astore_n {jj : Fin 4} {j : Nat} (hc : xcode k pc = some (.astore_n jj, len, a, b)) (hj : jj.val = j) (hl : Nat.blt j (xNl k) = true) (hn : yGd G xrec xs E rec k N (pc + 1) n) : yGd G xrec xs E rec k (N + 1) pc (ySta j n) := by subst hj; exact g_sta hc rfl (fun _ _ _ => by unfold xop; dsimp only; rw [if_pos (y_blt_t hl)]) hn
theorem tt_astore {j : Nat} (hc : xcode k pc = some (.astore j, len, a, b)) (hl : Nat.blt j (xNl k) = true) (hn : yGd G xrec xs E rec k N (pc + 2) n) : yGd G xrec xs E rec k (N + 1) pc (ySta j n) := g_sta hc rfl (fun _ _ _ => by unfold xop; dsimp only; rw [if_pos (y_blt_t hl)]) hn
theorem tt_lstore_n {jj : Fin 4} {j : Nat} (hc : xcode k pc = some (.lstore_n jj, len, a, b)) (hj : jj.val = j) (hl : Nat.blt (j + 1) (xNl k) = true) (hn : yGd G xrec xs E rec k N (pc + 1) n) : yGd G xrec xs E rec k (N + 1) pc (yStl j n) := by subst hj; exact g_stl hc rfl (fun _ _ _ => by unfold xop; dsimp only; rw [if_pos (y_blt_t hl)]) hn
theorem tt_lstore {j : Nat} (hc : xcode k pc = some (.lstore j, len, a, b)) (hl : Nat.blt (j + 1) (xNl k) = true) (hn : yGd G xrec xs E rec k N (pc + 2) n) : yGd G xrec xs E rec k (N + 1) pc (yStl j n) := g_stl hc rfl (fun _ _ _ => by unfold xop; dsimp only; rw [if_pos (y_blt_t hl)]) hn
theorem tt_dstore_n {jj : Fin 4} {j : Nat} (hc : xcode k pc = some (.dstore_n jj, len, a, b)) (hj : jj.val = j) (hl : Nat.blt (j + 1) (xNl k) = true) (hn : yGd G xrec xs E rec k N (pc + 1) n) : yGd G xrec xs E rec k (N + 1) pc (yStd j n) := by subst hj; exact g_std hc rfl (fun _ _ _ => by unfold xop; dsimp only; rw [if_pos (y_blt_t hl)]) hn
theorem tt_dstore {j : Nat} (hc : xcode k pc = some (.dstore j, len, a, b)) (hl : Nat.blt (j + 1) (xNl k) = true) (hn : yGd G xrec xs E rec k N (pc + 2) n) : yGd G xrec xs E rec k (N + 1) pc (yStd j n) := g_std hc rfl (fun _ _ _ => by unfold xop; dsimp only; rw [if_pos (y_blt_t hl)]) hn
theorem tt_fstore_n {jj : Fin 4} {j : Nat} (hc : xcode k pc = some (.fstore_n jj, len, a, b)) (hj : jj.val = j) (hl : Nat.blt j (xNl k) = true) (hn : yGd G xrec xs E rec k N (pc + 1) n) : yGd G xrec xs E rec k (N + 1) pc (yStf j n) := by subst hj; exact g_stf hc rfl (fun _ _ _ => by unfold xop; dsimp only; rw [if_pos (y_blt_t hl)]) hn
theorem tt_fstore {j : Nat} (hc : xcode k pc = some (.fstore j, len, a, b)) (hl : Nat.blt j (xNl k) = true) (hn : yGd G xrec xs E rec k N (pc + 2) n) : yGd G xrec xs E rec k (N + 1) pc (yStf j n) := g_stf hc rfl (fun _ _ _ => by unfold xop; dsimp only; rw [if_pos (y_blt_t hl)]) hn
theorem tt_iinc {j x : Nat} {c : Int} (hc : xcode k pc = some (.iinc j c, len, a, b)) (hv : Int32.ofInt c = Int32.ofNat x) (hl : Nat.blt j (xNl k) = true) (hn : yGd G xrec xs E rec k N (pc + 3) n) : yGd G xrec xs E rec k (N + 1) pc (yInc j x n) := g_inc hc rfl hv (fun _ _ _ h => by unfold xop; dsimp only; rw [h]; dsimp only; rw [if_pos (y_blt_t hl)]) hn
theorem tt_iadd (hE : yOk G xs E) (hc : xcode k pc = some (.iadd, len, a, b)) (hn : yGd G xrec xs E rec k N (pc + 1) n) : yGd G xrec xs E rec k (N + 1) pc (yAr (nat_lit 0) n) := g_ar (o := nat_lit 0) hE hc rfl (fun _ _ _ x y q hq => by have hq : some ((x + y) % 4294967296) = some q := hq; have hq := Option.some.inj hq; subst hq; rw [y_add32]; rfl) (fun f hf _ _ _ _ _ => by have hf := Option.some.inj hf; subst hf; rfl) hn
theorem tt_imul (hE : yOk G xs E) (hc : xcode k pc = some (.imul, len, a, b)) (hn : yGd G xrec xs E rec k N (pc + 1) n) : yGd G xrec xs E rec k (N + 1) pc (yAr (nat_lit 2) n) := g_ar (o := nat_lit 2) hE hc rfl (fun _ _ _ x y q hq => by have hq : some ((x * y) % 4294967296) = some q := hq; have hq := Option.some.inj hq; subst hq; rw [y_mul32]; rfl) (fun f hf _ _ _ _ _ => by have hf := Option.some.inj hf; subst hf; rfl) hn
theorem tt_iand (hE : yOk G xs E) (hc : xcode k pc = some (.iand, len, a, b)) (hn : yGd G xrec xs E rec k N (pc + 1) n) : yGd G xrec xs E rec k (N + 1) pc (yAr (nat_lit 3) n) := g_ar (o := nat_lit 3) hE hc rfl (fun _ _ _ x y q hq => by have hq : some (Nat.land x y) = some q := hq; have hq := Option.some.inj hq; subst hq; rw [y_and32]; rfl) (fun f hf _ _ _ _ _ => by have hf := Option.some.inj hf; subst hf; rfl) hn
theorem tt_ior (hE : yOk G xs E) (hc : xcode k pc = some (.ior, len, a, b)) (hn : yGd G xrec xs E rec k N (pc + 1) n) : yGd G xrec xs E rec k (N + 1) pc (yAr (nat_lit 4) n) := g_ar (o := nat_lit 4) hE hc rfl (fun _ _ _ x y q hq => by have hq : some (Nat.lor x y) = some q := hq; have hq := Option.some.inj hq; subst hq; rw [y_or32]; rfl) (fun f hf _ _ _ _ _ => by have hf := Option.some.inj hf; subst hf; rfl) hn
theorem y_tb_o {α : Type} {c : Bool} {x : Option α} {q : α} (h : y_if c x none = some q) : c = true ∧ x = some q := by
  cases c with
  | false => cases h
  | true => exact ⟨rfl, h⟩
theorem y_tb_n {α : Type} {c : Bool} {x : Option α} {q : α} (h : y_if c none x = some q) : c = false ∧ x = some q := by
  cases c with
  | false => exact ⟨rfl, h⟩
  | true => cases h
theorem tt_isub (hE : yOk G xs E) (hc : xcode k pc = some (.isub, len, a, b)) (hn : yGd G xrec xs E rec k N (pc + 1) n) : yGd G xrec xs E rec k (N + 1) pc (yAr (nat_lit 1) n) := g_ar (o := nat_lit 1) hE hc rfl (fun _ _ _ x y q hq => by obtain ⟨h1, h2⟩ := y_tb_o hq; have h2 := Option.some.inj h2; rw [← h2]; show _ = some (pc + 1, _, Value.int (Int32.ofNat ((x + (4294967296 - y)) % 4294967296)) :: _); rw [y_sub32 x y (Nat.le_of_ble_eq_true h1)]; rfl) (fun f hf _ _ _ _ _ => by have hf := Option.some.inj hf; subst hf; rfl) hn
theorem y_i32z {y : Nat} (hy : y < 2147483648) (h : Nat.beq y (nat_lit 0) = false) : ¬ Int32.ofNat y = 0 := by
  intro e
  have h1 : (Int32.ofNat y).toInt = (0 : Int32).toInt := by rw [e]
  rw [Int32.toInt_ofNat_of_lt (by omega), show (0 : Int32).toInt = 0 from by decide] at h1
  have h2 : y = 0 := by omega
  subst h2
  cases h
theorem y_i64z {y : Nat} (hy : y < 9223372036854775808) (h : Nat.beq y (nat_lit 0) = false) : ¬ Int64.ofNat y = 0 := by
  intro e
  have h1 : (Int64.ofNat y).toInt = (0 : Int64).toInt := by rw [e]
  rw [Int64.toInt_ofNat_of_lt (by omega), show (0 : Int64).toInt = 0 from by decide] at h1
  have h2 : y = 0 := by omega
  subst h2
  cases h
theorem tt_idiv (hE : yOk G xs E) (hc : xcode k pc = some (.idiv, len, a, b)) (hn : yGd G xrec xs E rec k N (pc + 1) n) : yGd G xrec xs E rec k (N + 1) pc (yAr (nat_lit 5) n) := g_ar (o := nat_lit 5) hE hc rfl (fun _ _ _ x y q hq => by obtain ⟨h1, hq⟩ := y_tb_o hq; obtain ⟨h2, hq⟩ := y_tb_o hq; obtain ⟨h3, hq⟩ := y_tb_n hq; have hq := Option.some.inj hq; rw [← hq]; have h1 := y_blt_t h1; have h2 := y_blt_t h2; unfold xop; dsimp only; rw [if_neg (y_i32z h2 h3)]; show some (pc + 1, _, Value.int _ :: _) = some (pc + 1, _, Value.int (Int32.ofNat (x / y)) :: _); rw [y_div32 h1 h2]) (fun f hf _ _ _ _ _ => by cases hf) hn
theorem tt_irem (hE : yOk G xs E) (hc : xcode k pc = some (.irem, len, a, b)) (hn : yGd G xrec xs E rec k N (pc + 1) n) : yGd G xrec xs E rec k (N + 1) pc (yAr (nat_lit 6) n) := g_ar (o := nat_lit 6) hE hc rfl (fun _ _ _ x y q hq => by obtain ⟨h1, hq⟩ := y_tb_o hq; obtain ⟨h2, hq⟩ := y_tb_o hq; obtain ⟨h3, hq⟩ := y_tb_n hq; have hq := Option.some.inj hq; rw [← hq]; have h1 := y_blt_t h1; have h2 := y_blt_t h2; unfold xop; dsimp only; rw [if_neg (y_i32z h2 h3)]; show some (pc + 1, _, Value.int _ :: _) = some (pc + 1, _, Value.int (Int32.ofNat (x % y)) :: _); rw [y_rem32 h1 h2]) (fun f hf _ _ _ _ _ => by cases hf) hn
theorem y_shr32 {x y : Nat} (hx : x < 4294967296) (h : y < 32) : Int32.ofNat (x >>> y) = ((Int32.ofNat x).toUInt32 >>> ((Int32.ofNat y).toUInt32 &&& Int32.toUInt32 31)).toInt32 := by
  apply Int32.toBitVec_inj.mp
  apply BitVec.eq_of_toNat_eq
  show (x >>> y) % 2 ^ 32 = ((Int32.ofNat x).toUInt32 >>> ((Int32.ofNat y).toUInt32 &&& Int32.toUInt32 31)).toNat
  rw [UInt32.toNat_shiftRight]
  have h1 : ((Int32.ofNat y).toUInt32 &&& Int32.toUInt32 31).toNat = y := by
    rw [UInt32.toNat_and]
    show (y % 2 ^ 32) &&& 31 = y
    have h3 : y % 2 ^ 32 = y := by omega
    have h2 : y &&& (2 ^ 5 - 1) = y % 2 ^ 5 := Nat.and_two_pow_sub_one_eq_mod y 5
    rw [h3, show (31 : Nat) = 2 ^ 5 - 1 from rfl, h2]
    omega
  have h4 : (Int32.ofNat x).toUInt32.toNat = x := by
    show x % 2 ^ 32 = x
    omega
  rw [h1, h4, Nat.mod_eq_of_lt h]
  have h5 : x >>> y ≤ x := by rw [Nat.shiftRight_eq_div_pow]; exact Nat.div_le_self _ _
  exact Nat.mod_eq_of_lt (Nat.lt_of_le_of_lt h5 hx)
theorem tt_iushr (hE : yOk G xs E) (hc : xcode k pc = some (.iushr, len, a, b)) (hn : yGd G xrec xs E rec k N (pc + 1) n) : yGd G xrec xs E rec k (N + 1) pc (yAr (nat_lit 8) n) := g_ar (o := nat_lit 8) hE hc rfl (fun _ _ _ x y q hq => by obtain ⟨h1, hq⟩ := y_tb_o hq; obtain ⟨h2, hq⟩ := y_tb_o hq; have hq := Option.some.inj hq; rw [← hq]; show some (pc + 1, _, Value.int _ :: _) = some (pc + 1, _, Value.int (Int32.ofNat (x >>> y)) :: _); rw [y_shr32 (y_blt_t h1) (y_blt_t h2)]) (fun f hf _ _ _ _ _ => by have hf := Option.some.inj hf; subst hf; rfl) hn
theorem tt_ladd (hc : xcode k pc = some (.ladd, len, a, b)) (hn : yGd G xrec xs E rec k N (pc + 1) n) : yGd G xrec xs E rec k (N + 1) pc (yLa (nat_lit 0) n) := g_la (o := nat_lit 0) hc rfl (fun _ _ _ x y q hq => by have hq : some ((x + y) % 18446744073709551616) = some q := hq; have hq := Option.some.inj hq; subst hq; rw [y_add64]; rfl) hn
theorem tt_lsub (hc : xcode k pc = some (.lsub, len, a, b)) (hn : yGd G xrec xs E rec k N (pc + 1) n) : yGd G xrec xs E rec k (N + 1) pc (yLa (nat_lit 1) n) := g_la (o := nat_lit 1) hc rfl (fun _ _ _ x y q hq => by obtain ⟨h1, h2⟩ := y_tb_o hq; have h2 := Option.some.inj h2; rw [← h2]; show _ = some (pc + 1, _, Value.long (Int64.ofNat ((x + (18446744073709551616 - y)) % 18446744073709551616)) :: _); rw [y_sub64 x y (Nat.le_of_ble_eq_true h1)]; rfl) hn
theorem tt_lmul (hc : xcode k pc = some (.lmul, len, a, b)) (hn : yGd G xrec xs E rec k N (pc + 1) n) : yGd G xrec xs E rec k (N + 1) pc (yLa (nat_lit 2) n) := g_la (o := nat_lit 2) hc rfl (fun _ _ _ x y q hq => by have hq : some ((x * y) % 18446744073709551616) = some q := hq; have hq := Option.some.inj hq; subst hq; rw [y_mul64]; rfl) hn
theorem tt_lor (hc : xcode k pc = some (.lor, len, a, b)) (hn : yGd G xrec xs E rec k N (pc + 1) n) : yGd G xrec xs E rec k (N + 1) pc (yLa (nat_lit 3) n) := g_la (o := nat_lit 3) hc rfl (fun _ _ _ x y q hq => by have hq : some (Nat.lor x y) = some q := hq; have hq := Option.some.inj hq; subst hq; rw [y_or64]; rfl) hn
theorem tt_ldiv (hc : xcode k pc = some (.ldiv, len, a, b)) (hn : yGd G xrec xs E rec k N (pc + 1) n) : yGd G xrec xs E rec k (N + 1) pc (yLa (nat_lit 4) n) := g_la (o := nat_lit 4) hc rfl (fun _ _ _ x y q hq => by obtain ⟨h1, hq⟩ := y_tb_o hq; obtain ⟨h2, hq⟩ := y_tb_o hq; obtain ⟨h3, hq⟩ := y_tb_n hq; have hq := Option.some.inj hq; rw [← hq]; have h1 := y_blt_t h1; have h2 := y_blt_t h2; unfold xop; dsimp only; rw [if_neg (y_i64z h2 h3)]; show some (pc + 1, _, Value.long _ :: _) = some (pc + 1, _, Value.long (Int64.ofNat (x / y)) :: _); rw [y_div64 h1 h2]) hn
theorem tt_lrem (hc : xcode k pc = some (.lrem, len, a, b)) (hn : yGd G xrec xs E rec k N (pc + 1) n) : yGd G xrec xs E rec k (N + 1) pc (yLa (nat_lit 5) n) := g_la (o := nat_lit 5) hc rfl (fun _ _ _ x y q hq => by obtain ⟨h1, hq⟩ := y_tb_o hq; obtain ⟨h2, hq⟩ := y_tb_o hq; obtain ⟨h3, hq⟩ := y_tb_n hq; have hq := Option.some.inj hq; rw [← hq]; have h1 := y_blt_t h1; have h2 := y_blt_t h2; unfold xop; dsimp only; rw [if_neg (y_i64z h2 h3)]; show some (pc + 1, _, Value.long _ :: _) = some (pc + 1, _, Value.long (Int64.ofNat (x % y)) :: _); rw [y_rem64 h1 h2]) hn
theorem tt_lcmp (hc : xcode k pc = some (.lcmp, len, a, b)) (hn : yGd G xrec xs E rec k N (pc + 1) n) : yGd G xrec xs E rec k (N + 1) pc (yLcmp n) := g_lcmp hc hn
theorem tt_i2l (hE : yOk G xs E) (hc : xcode k pc = some (.i2l, len, a, b)) (hn : yGd G xrec xs E rec k N (pc + 1) n) : yGd G xrec xs E rec k (N + 1) pc (yI2l n) := g_i2l hE hc rfl (fun _ _ _ _ => rfl) hn
theorem tt_l2i (hc : xcode k pc = some (.l2i, len, a, b)) (hn : yGd G xrec xs E rec k N (pc + 1) n) : yGd G xrec xs E rec k (N + 1) pc (yL2i n) := g_l2i hc rfl (fun _ _ _ _ => rfl) hn
theorem tt_i2c (hE : yOk G xs E) (hc : xcode k pc = some (.i2c, len, a, b)) (hn : yGd G xrec xs E rec k N (pc + 1) n) : yGd G xrec xs E rec k (N + 1) pc (yI2c n) := g_i2c hE hc rfl (fun _ _ _ _ => rfl) hn
theorem tt_goto {o : Int} (hc : xcode k pc = some (.goto o, len, a, b)) : yGd G xrec xs E rec k 1 pc (yGoto a n) := g_goto hc rfl (fun _ _ _ => rfl)
theorem tt_ifnull {o : Int} (hc : xcode k pc = some (.ifnull o, len, a, b)) (hn : yGd G xrec xs E rec k N (pc + 3) n) : yGd G xrec xs E rec k (N + 1) pc (yIfnull n) := g_ifnull hc rfl (fun _ _ _ _ => rfl) hn
theorem y_cd_lt (cd : Jvm.ClassFile.Cond) : y_cd cd < 6 := by cases cd <;> decide
theorem tt_if {cd : Jvm.ClassFile.Cond} {o : Int} {c : Nat} (hE : yOk G xs E) (hc : xcode k pc = some (.ifCond cd o, len, a, b)) (hcd : y_cd cd = c) (hn : yGd G xrec xs E rec k N (pc + 3) n) : yGd G xrec xs E rec k (N + 1) pc (yIfc c a n) := by subst hcd; exact g_ifc hE (y_cd_lt cd) hc rfl (fun _ _ _ _ => y_if_e2 _ _ _ _ _ _ _ _) hn
theorem tt_icmp {cd : Jvm.ClassFile.Cond} {o : Int} {c : Nat} (hE : yOk G xs E) (hc : xcode k pc = some (.if_icmp cd o, len, a, b)) (hcd : y_cd cd = c) (hn : yGd G xrec xs E rec k N (pc + 3) n) : yGd G xrec xs E rec k (N + 1) pc (yIcmp c a n) := by subst hcd; exact g_icmp hE (y_cd_lt cd) hc rfl (fun _ _ _ _ _ => y_icmp_e2 _ _ _ _ _ _ _ _ _) hn
theorem y_putI {v : yV} (hf : xfty a b = .int) (h : y_kI v = true) : xfit (xfty a b) (y_dec G v) = true := by
  obtain ⟨x, hx⟩ := y_kI_e (G := G) h
  rw [hf, hx]
  rfl
theorem y_putZ {v : yV} (hf : xfty a b = .boolean) (h : y_kZ v = true) : xfit (xfty a b) (y_dec G v) = true := by
  obtain ⟨x, hx, hz⟩ := y_kZ_e (G := G) h
  rw [hf, hx]
  exact hz
theorem y_putR {v : yV} (hf : xfit (xfty a b) (.ref 0) = true) (h : y_kR v = true) : xfit (xfty a b) (y_dec G v) = true := by
  obtain ⟨x, hx⟩ := y_kR_e (G := G) h
  rw [hx]
  generalize xfty a b = t at hf
  cases t with
  | object _ => rfl
  | array _ => rfl
  | _ => cases hf
theorem tt_putI {ix : Nat} (hc : xcode k pc = some (.putfield ix, len, a, b)) (hf : xfty a b = .int) (hn : yGd G xrec xs E rec k N (pc + 3) n) : yGd G xrec xs E rec k (N + 1) pc (yPutf a b y_kI n) := g_putf hc (fun _ h => y_putI hf h) hn
theorem tt_putZ {ix : Nat} (hc : xcode k pc = some (.putfield ix, len, a, b)) (hf : xfty a b = .boolean) (hn : yGd G xrec xs E rec k N (pc + 3) n) : yGd G xrec xs E rec k (N + 1) pc (yPutf a b y_kZ n) := g_putf hc (fun _ h => y_putZ hf h) hn
theorem tt_putR {ix : Nat} (hc : xcode k pc = some (.putfield ix, len, a, b)) (hf : xfit (xfty a b) (.ref 0) = true) (hn : yGd G xrec xs E rec k N (pc + 3) n) : yGd G xrec xs E rec k (N + 1) pc (yPutf a b y_kR n) := g_putf hc (fun _ h => y_putR hf h) hn
theorem tt_get {ix : Nat} (hc : xcode k pc = some (.getfield ix, len, a, b)) (hn : yGd G xrec xs E rec k N (pc + 3) n) : yGd G xrec xs E rec k (N + 1) pc (yGetf a b n) := g_getf hc hn
theorem tt_iaload (hc : xcode k pc = some (.iaload, len, a, b)) (hn : yGd G xrec xs E rec k N (pc + 1) n) : yGd G xrec xs E rec k (N + 1) pc (yAld (nat_lit 100) y_kI n) := g_ald (a := nat_lit 100) (fun _ _ _ _ _ _ _ _ _ hok h1 hj h2 => by obtain ⟨x, hx⟩ := y_kI_e (G := G) hok; rw [hx] at h2 ⊢; exact xs_iald hc h1 hj h2) hn
theorem tt_laload (hc : xcode k pc = some (.laload, len, a, b)) (hn : yGd G xrec xs E rec k N (pc + 1) n) : yGd G xrec xs E rec k (N + 1) pc (yAld (nat_lit 101) y_kJ n) := g_ald (a := nat_lit 101) (fun _ _ _ _ _ _ _ _ _ hok h1 hj h2 => by obtain ⟨x, hx⟩ := y_kJ_e (G := G) hok; rw [hx] at h2 ⊢; exact xs_lald hc h1 hj h2) hn
theorem tt_caload (hc : xcode k pc = some (.caload, len, a, b)) (hn : yGd G xrec xs E rec k N (pc + 1) n) : yGd G xrec xs E rec k (N + 1) pc (yAld (nat_lit 102) y_kI n) := g_ald (a := nat_lit 102) (fun _ _ _ _ _ _ _ _ _ hok h1 hj h2 => by obtain ⟨x, hx⟩ := y_kI_e (G := G) hok; rw [hx] at h2 ⊢; exact xs_cald hc h1 hj h2) hn
theorem tt_aaload (hc : xcode k pc = some (.aaload, len, a, b)) (hn : yGd G xrec xs E rec k N (pc + 1) n) : yGd G xrec xs E rec k (N + 1) pc (yAld (nat_lit 103) y_kR n) := g_ald (a := nat_lit 103) (fun _ _ _ _ _ _ _ _ _ hok h1 hj h2 => by obtain ⟨x, hx⟩ := y_kR_e (G := G) hok; rw [hx] at h2 ⊢; exact xs_aald hc h1 hj h2) hn
theorem tt_iastore (hc : xcode k pc = some (.iastore, len, a, b)) (hn : yGd G xrec xs E rec k N (pc + 1) n) : yGd G xrec xs E rec k (N + 1) pc (yAst (nat_lit 100) y_kI n) := g_ast (a := nat_lit 100) (fun _ _ _ _ _ _ _ _ _ hok h1 hj => by obtain ⟨x, hx⟩ := y_kI_e (G := G) hok; rw [hx]; exact xs_iast hc h1 hj) hn
theorem tt_lastore (hc : xcode k pc = some (.lastore, len, a, b)) (hn : yGd G xrec xs E rec k N (pc + 1) n) : yGd G xrec xs E rec k (N + 1) pc (yAst (nat_lit 101) y_kJ n) := g_ast (a := nat_lit 101) (fun _ _ _ _ _ _ _ _ _ hok h1 hj => by obtain ⟨x, hx⟩ := y_kJ_e (G := G) hok; rw [hx]; exact xs_last hc h1 hj) hn
theorem tt_castore (hE : yOk G xs E) (hc : xcode k pc = some (.castore, len, a, b)) (hn : yGd G xrec xs E rec k N (pc + 1) n) : yGd G xrec xs E rec k (N + 1) pc (yCast n) := g_cast hE hc hn
theorem tt_aastore (hc : xcode k pc = some (.aastore, len, a, b)) (hn : yGd G xrec xs E rec k N (pc + 1) n) : yGd G xrec xs E rec k (N + 1) pc (yAast n) := g_aast hc hn
theorem tt_arraylength (hc : xcode k pc = some (.arraylength, len, a, b)) (hn : yGd G xrec xs E rec k N (pc + 1) n) : yGd G xrec xs E rec k (N + 1) pc (yAlen n) := g_alen hc hn
theorem tt_slen (hE : yOk G xs E) (hc : xcode k pc = some (.arraylength, len, a, b)) (hn : yGd G xrec xs E rec k N (pc + 1) n) : yGd G xrec xs E rec k (N + 1) pc (ySlen n) := g_slen hE hc hn
theorem tt_sld (hE : yOk G xs E) (hc : xcode k pc = some (.iaload, len, a, b)) (hn : yGd G xrec xs E rec k N (pc + 1) n) : yGd G xrec xs E rec k (N + 1) pc (ySld n) := g_sld hE hc hn
theorem tt_new {MC MS l : Nat} {s : yT} {ix : Nat} (hc : xcode k pc = some (.new ix, len, a, 0)) (hM : (Nat.beq MC (xMc k) && Nat.beq MS (xMs k)) = true) (hd : xdef a = y_sl G l s) (hn : yGd G xrec xs E rec k N (pc + 3) n) : yGd G xrec xs E rec k (N + 1) pc (yNew MC MS a l s n) := by obtain ⟨h1, h2⟩ := xand hM; exact g_new hc (xbe h1) (xbe h2) hd hn
theorem tt_thr {MC MS ix : Nat} (hc : xcode k pc = some (.new ix, len, a, b)) (hM : (Nat.blt 0 b && (Nat.beq MC (xMc k) && (Nat.beq MS (xMs k) && (Nat.ble 6 (xFr k) && Nat.ble 90 (xLo k))))) = true) : yGd G xrec xs E rec k 0 pc (yThr MC MS a n) := by obtain ⟨h0, hM⟩ := xand hM; obtain ⟨h1, hM⟩ := xand hM; obtain ⟨h2, hM⟩ := xand hM; exact g_thr (y_blt_t h0) hc hM (xbe h1) (xbe h2)
theorem xs_newa {ty : ArrayType} {ls : XL} {r : List Value} {q cu su : Nat} {σ : XW} (hc : xcode k pc = some (.newarray ty, len, a, b)) (hf : σ.1 = true) (hq : q ≤ 4096) (h1 : cu + 1 ≤ xMc k) (h2 : su + q ≤ xMs k) : xstep xrec xs k (pc, ls, .int (Int32.ofNat q) :: r, cu, su, σ) = some (.inl (pc + 2, ls, .ref σ.2.length :: r, cu + 1, su + q, (true, σ.2 ++ [(a, List.replicate q (bif Nat.beq a 101 then .long 0 else .int 0))]))) := by
  unfold xstep; dsimp only; rw [hc]; dsimp only
  rw [hf, y_tn32 hq, decide_eq_true (y_nn32 hq), show Nat.ble q 1000000 = true from Nat.ble_eq_true_of_le (by omega), show Nat.ble (cu + 1) (xMc k) = true from Nat.ble_eq_true_of_le h1, show Nat.ble (su + q) (xMs k) = true from Nat.ble_eq_true_of_le h2]
  rfl
theorem xs_anew {ix : Nat} {ls : XL} {r : List Value} {q cu su : Nat} {σ : XW} (hc : xcode k pc = some (.anewarray ix, len, a, b)) (hf : σ.1 = true) (hq : q ≤ 4096) (h1 : cu + 1 ≤ xMc k) (h2 : su + q ≤ xMs k) : xstep xrec xs k (pc, ls, .int (Int32.ofNat q) :: r, cu, su, σ) = some (.inl (pc + 3, ls, .ref σ.2.length :: r, cu + 1, su + q, (true, σ.2 ++ [(103, List.replicate q .null)]))) := by
  unfold xstep; dsimp only; rw [hc]; dsimp only
  rw [hf, y_tn32 hq, decide_eq_true (y_nn32 hq), show Nat.ble q 1000000 = true from Nat.ble_eq_true_of_le (by omega), show Nat.ble (cu + 1) (xMc k) = true from Nat.ble_eq_true_of_le h1, show Nat.ble (su + q) (xMs k) = true from Nat.ble_eq_true_of_le h2]
  rfl
theorem tt_newarray {MC MS : Nat} {z : yV} {ty : ArrayType} (hc : xcode k pc = some (.newarray ty, len, a, b)) (hM : (Nat.beq MC (xMc k) && Nat.beq MS (xMs k)) = true) (hz : y_dec G z = (bif Nat.beq a 101 then .long 0 else .int 0)) (hn : yGd G xrec xs E rec k N (pc + 2) n) : yGd G xrec xs E rec k (N + 1) pc (yNewa MC MS a z n) := by obtain ⟨h1, h2⟩ := xand hM; exact g_newa hz (fun _ _ _ _ _ _ hf hq g1 g2 => xs_newa hc hf hq g1 g2) (xbe h1) (xbe h2) hn
theorem tt_anewarray {MC MS : Nat} {ix : Nat} (hc : xcode k pc = some (.anewarray ix, len, a, b)) (hM : (Nat.beq MC (xMc k) && Nat.beq MS (xMs k)) = true) (hn : yGd G xrec xs E rec k N (pc + 3) n) : yGd G xrec xs E rec k (N + 1) pc (yNewa MC MS (nat_lit 103) (y_v .null) n) := by obtain ⟨h1, h2⟩ := xand hM; exact g_newa (u := .null) rfl (fun _ _ _ _ _ _ hf hq g1 g2 => xs_anew hc hf hq g1 g2) (xbe h1) (xbe h2) hn
/-- all that a call asks of the tables -/
def y_cst (k pc a na mc ms MC MS : Nat) (hs : List (Nat × Nat × Nat)) : Bool := Nat.beq na (xNa a) && (Nat.beq mc (xMc a) && (Nat.beq ms (xMs a) && (Nat.beq MC (xMc k) && (Nat.beq MS (xMs k) && (y_rst k a && y_hk k pc (xHh k) hs)))))
theorem y_cst_e {na mc ms MC MS : Nat} {hs : List (Nat × Nat × Nat)} (h : y_cst k pc a na mc ms MC MS hs = true) : na = xNa a ∧ mc = xMc a ∧ ms = xMs a ∧ MC = xMc k ∧ MS = xMs k ∧ y_rst k a = true ∧ y_hk k pc (xHh k) hs = true := by
  unfold y_cst at h
  obtain ⟨h1, h⟩ := xand h
  obtain ⟨h2, h⟩ := xand h
  obtain ⟨h3, h⟩ := xand h
  obtain ⟨h4, h⟩ := xand h
  obtain ⟨h5, h⟩ := xand h
  obtain ⟨h6, h⟩ := xand h
  exact ⟨xbe h1, xbe h2, xbe h3, xbe h4, xbe h5, h6, h⟩
theorem tt_calS {na mc ms MC MS ix : Nat} {hs : List (Nat × Nat × Nat)} (hR : yRecOk G rec xrec) (hc : xcode k pc = some (.invokestatic ix, len, a, 0)) (h : y_cst k pc a na mc ms MC MS hs = true) (hn : yGd G xrec xs E rec k N (pc + 3) n) : yGd G xrec xs E rec k (N + 1) pc (yCalS a na mc ms MC MS hs n) := by obtain ⟨e1, e2, e3, e4, e5, h6, h7⟩ := y_cst_e h; exact g_calS hR hc e1 e2 e3 e4 e5 h6 h7 hn
theorem tt_calI {na mc ms MC MS ix : Nat} {hs : List (Nat × Nat × Nat)} (hR : yRecOk G rec xrec) (hc : xcode k pc = some (.invokespecial ix, len, a, b)) (hb : (Nat.beq b 0 || Nat.beq b 1) = true) (h : y_cst k pc a na mc ms MC MS hs = true) (hn : yGd G xrec xs E rec k N (pc + 3) n) : yGd G xrec xs E rec k (N + 1) pc (yCalI a na mc ms MC MS hs n) := by obtain ⟨e1, e2, e3, e4, e5, h6, h7⟩ := y_cst_e h; exact g_calI hR ((Bool.or_eq_true _ _ ▸ hb).imp Nat.eq_of_beq_eq_true Nat.eq_of_beq_eq_true) hc e1 e2 e3 e4 e5 h6 h7 hn
theorem tt_calV {na cl mc ms MC MS ix : Nat} {hs : List (Nat × Nat × Nat)} (hR : yRecOk G rec xrec) (hc : xcode k pc = some (.invokevirtual ix, len, a, b)) (hk : Nat.beq cl (xK a) = true) (h : y_cst k pc a na mc ms MC MS hs = true) (hn : yGd G xrec xs E rec k N (pc + 3) n) : yGd G xrec xs E rec k (N + 1) pc (yCalV a na cl mc ms MC MS hs n) := by obtain ⟨e1, e2, e3, e4, e5, h6, h7⟩ := y_cst_e h; exact g_calV hR hc (xbe hk) e1 e2 e3 e4 e5 h6 h7 hn
theorem tt_obj {ix : Nat} (hc : xcode k pc = some (.invokespecial ix, len, a, 2)) (hst : (Nat.ble 1 (xFr k) && Nat.ble 20 (xLo k)) = true) (hn : yGd G xrec xs E rec k N (pc + 3) n) : yGd G xrec xs E rec k (N + 1) pc (yObj n) := g_obj hc hst hn
theorem tt_acpy {ix : Nat} (hc : xcode k pc = some (.invokestatic ix, len, 0, 1)) (hst : (Nat.ble 1 (xFr k) && Nat.ble 38 (xLo k)) = true) (hn : yGd G xrec xs E rec k N (pc + 3) n) : yGd G xrec xs E rec k (N + 1) pc (yAcpy n) := g_acpy hc hst hn
theorem tt_bitd {ix : Nat} (hc : xcode k pc = some (.invokestatic ix, len, 1, 1)) (hst : (Nat.ble 1 (xFr k) && Nat.ble 23 (xLo k)) = true) (hn : yGd G xrec xs E rec k N (pc + 3) n) : yGd G xrec xs E rec k (N + 1) pc (yBitD n) := g_bitd hc hst hn
theorem tt_bitf {ix : Nat} (hc : xcode k pc = some (.invokestatic ix, len, 2, 1)) (hst : (Nat.ble 1 (xFr k) && Nat.ble 23 (xLo k)) = true) (hn : yGd G xrec xs E rec k N (pc + 3) n) : yGd G xrec xs E rec k (N + 1) pc (yBitF n) := g_bitf hc hst hn
theorem tt_reti {MC MS : Nat} (hc : xcode k pc = some (.ireturn, len, a, b)) (hr : xRet k = some .int) (hM : (Nat.beq MC (xMc k) && Nat.beq MS (xMs k)) = true) : yGd G xrec xs E rec k 0 pc (yRet1 MC MS y_kI n) := by obtain ⟨h1, h2⟩ := xand hM; exact g_reti hc hr (xbe h1) (xbe h2)
theorem tt_retz {MC MS : Nat} (hc : xcode k pc = some (.ireturn, len, a, b)) (hr : xRet k = some .boolean) (hM : (Nat.beq MC (xMc k) && Nat.beq MS (xMs k)) = true) : yGd G xrec xs E rec k 0 pc (yRet1 MC MS y_kZ n) := by obtain ⟨h1, h2⟩ := xand hM; exact g_retz hc hr (xbe h1) (xbe h2)
theorem tt_retl {MC MS : Nat} (hc : xcode k pc = some (.lreturn, len, a, b)) (hr : xRet k = some .long) (hM : (Nat.beq MC (xMc k) && Nat.beq MS (xMs k)) = true) : yGd G xrec xs E rec k 0 pc (yRet1 MC MS y_kJ n) := by obtain ⟨h1, h2⟩ := xand hM; exact g_retl hc hr (xbe h1) (xbe h2)
theorem tt_ret0 {MC MS : Nat} (hc : xcode k pc = some (.return_, len, a, b)) (hr : xRet k = none) (hM : (Nat.beq MC (xMc k) && Nat.beq MS (xMs k)) = true) : yGd G xrec xs E rec k 0 pc (yRet0 MC MS n) := by obtain ⟨h1, h2⟩ := xand hM; exact g_ret0 hc hr (xbe h1) (xbe h2)
theorem h_dadd (nl : Nat) (ls : XL) (r : List Value) (y x w : Value) (h : y_F2 (.dadd) y x = some w) : xop (.dadd) pc a nl ls (y :: x :: r) = some (pc + 1, ls, w :: r) := by
  cases y with
  | double y => cases x with
    | double x => 
      by_cases hcnd : FP.dadd x y &&& 0x7fffffffffffffff ≤ 0x7ff0000000000000
      · have h2 : y_F2 (.dadd) (.double y) (.double x) = some (.double (FP.dadd x y)) := by unfold y_F2 xop; dsimp only; rw [if_pos hcnd]
        rw [h2] at h
        cases h
        unfold xop; dsimp only; rw [if_pos hcnd]
      · have h2 : y_F2 (.dadd) (.double y) (.double x) = none := by unfold y_F2 xop; dsimp only; rw [if_neg hcnd]
        rw [h2] at h
        cases h
    | _ => cases h
  | _ => cases h
theorem tt_dadd (hc : xcode k pc = some (.dadd, len, a, b)) (hn : yGd G xrec xs E rec k N (pc + 1) n) : yGd G xrec xs E rec k (N + 1) pc (yF2 (.dadd) n) := g_F2 hc rfl (fun nl ls r y x w h => h_dadd nl ls r y x w h) hn
theorem h_dsub (nl : Nat) (ls : XL) (r : List Value) (y x w : Value) (h : y_F2 (.dsub) y x = some w) : xop (.dsub) pc a nl ls (y :: x :: r) = some (pc + 1, ls, w :: r) := by
  cases y with
  | double y => cases x with
    | double x => 
      by_cases hcnd : FP.dsub x y &&& 0x7fffffffffffffff ≤ 0x7ff0000000000000
      · have h2 : y_F2 (.dsub) (.double y) (.double x) = some (.double (FP.dsub x y)) := by unfold y_F2 xop; dsimp only; rw [if_pos hcnd]
        rw [h2] at h
        cases h
        unfold xop; dsimp only; rw [if_pos hcnd]
      · have h2 : y_F2 (.dsub) (.double y) (.double x) = none := by unfold y_F2 xop; dsimp only; rw [if_neg hcnd]
        rw [h2] at h
        cases h
    | _ => cases h
  | _ => cases h
theorem tt_dsub (hc : xcode k pc = some (.dsub, len, a, b)) (hn : yGd G xrec xs E rec k N (pc + 1) n) : yGd G xrec xs E rec k (N + 1) pc (yF2 (.dsub) n) := g_F2 hc rfl (fun nl ls r y x w h => h_dsub nl ls r y x w h) hn
theorem h_dmul (nl : Nat) (ls : XL) (r : List Value) (y x w : Value) (h : y_F2 (.dmul) y x = some w) : xop (.dmul) pc a nl ls (y :: x :: r) = some (pc + 1, ls, w :: r) := by
  cases y with
  | double y => cases x with
    | double x => 
      by_cases hcnd : FP.dmul x y &&& 0x7fffffffffffffff ≤ 0x7ff0000000000000
      · have h2 : y_F2 (.dmul) (.double y) (.double x) = some (.double (FP.dmul x y)) := by unfold y_F2 xop; dsimp only; rw [if_pos hcnd]
        rw [h2] at h
        cases h
        unfold xop; dsimp only; rw [if_pos hcnd]
      · have h2 : y_F2 (.dmul) (.double y) (.double x) = none := by unfold y_F2 xop; dsimp only; rw [if_neg hcnd]
        rw [h2] at h
        cases h
    | _ => cases h
  | _ => cases h
theorem tt_dmul (hc : xcode k pc = some (.dmul, len, a, b)) (hn : yGd G xrec xs E rec k N (pc + 1) n) : yGd G xrec xs E rec k (N + 1) pc (yF2 (.dmul) n) := g_F2 hc rfl (fun nl ls r y x w h => h_dmul nl ls r y x w h) hn
theorem h_ddiv (nl : Nat) (ls : XL) (r : List Value) (y x w : Value) (h : y_F2 (.ddiv) y x = some w) : xop (.ddiv) pc a nl ls (y :: x :: r) = some (pc + 1, ls, w :: r) := by
  cases y with
  | double y => cases x with
    | double x => 
      by_cases hcnd : FP.ddiv x y &&& 0x7fffffffffffffff ≤ 0x7ff0000000000000
      · have h2 : y_F2 (.ddiv) (.double y) (.double x) = some (.double (FP.ddiv x y)) := by unfold y_F2 xop; dsimp only; rw [if_pos hcnd]
        rw [h2] at h
        cases h
        unfold xop; dsimp only; rw [if_pos hcnd]
      · have h2 : y_F2 (.ddiv) (.double y) (.double x) = none := by unfold y_F2 xop; dsimp only; rw [if_neg hcnd]
        rw [h2] at h
        cases h
    | _ => cases h
  | _ => cases h
theorem tt_ddiv (hc : xcode k pc = some (.ddiv, len, a, b)) (hn : yGd G xrec xs E rec k N (pc + 1) n) : yGd G xrec xs E rec k (N + 1) pc (yF2 (.ddiv) n) := g_F2 hc rfl (fun nl ls r y x w h => h_ddiv nl ls r y x w h) hn
theorem h_fsub (nl : Nat) (ls : XL) (r : List Value) (y x w : Value) (h : y_F2 (.fsub) y x = some w) : xop (.fsub) pc a nl ls (y :: x :: r) = some (pc + 1, ls, w :: r) := by
  cases y with
  | float y => cases x with
    | float x => 
      by_cases hcnd : FP.fsub x y &&& 0x7fffffff ≤ 0x7f800000
      · have h2 : y_F2 (.fsub) (.float y) (.float x) = some (.float (FP.fsub x y)) := by unfold y_F2 xop; dsimp only; rw [if_pos hcnd]
        rw [h2] at h
        cases h
        unfold xop; dsimp only; rw [if_pos hcnd]
      · have h2 : y_F2 (.fsub) (.float y) (.float x) = none := by unfold y_F2 xop; dsimp only; rw [if_neg hcnd]
        rw [h2] at h
        cases h
    | _ => cases h
  | _ => cases h
theorem tt_fsub (hc : xcode k pc = some (.fsub, len, a, b)) (hn : yGd G xrec xs E rec k N (pc + 1) n) : yGd G xrec xs E rec k (N + 1) pc (yF2 (.fsub) n) := g_F2 hc rfl (fun nl ls r y x w h => h_fsub nl ls r y x w h) hn
theorem h_fmul (nl : Nat) (ls : XL) (r : List Value) (y x w : Value) (h : y_F2 (.fmul) y x = some w) : xop (.fmul) pc a nl ls (y :: x :: r) = some (pc + 1, ls, w :: r) := by
  cases y with
  | float y => cases x with
    | float x => 
      by_cases hcnd : FP.fmul x y &&& 0x7fffffff ≤ 0x7f800000
      · have h2 : y_F2 (.fmul) (.float y) (.float x) = some (.float (FP.fmul x y)) := by unfold y_F2 xop; dsimp only; rw [if_pos hcnd]
        rw [h2] at h
        cases h
        unfold xop; dsimp only; rw [if_pos hcnd]
      · have h2 : y_F2 (.fmul) (.float y) (.float x) = none := by unfold y_F2 xop; dsimp only; rw [if_neg hcnd]
        rw [h2] at h
        cases h
    | _ => cases h
  | _ => cases h
theorem tt_fmul (hc : xcode k pc = some (.fmul, len, a, b)) (hn : yGd G xrec xs E rec k N (pc + 1) n) : yGd G xrec xs E rec k (N + 1) pc (yF2 (.fmul) n) := g_F2 hc rfl (fun nl ls r y x w h => h_fmul nl ls r y x w h) hn
theorem h_fdiv (nl : Nat) (ls : XL) (r : List Value) (y x w : Value) (h : y_F2 (.fdiv) y x = some w) : xop (.fdiv) pc a nl ls (y :: x :: r) = some (pc + 1, ls, w :: r) := by
  cases y with
  | float y => cases x with
    | float x => 
      by_cases hcnd : FP.fdiv x y &&& 0x7fffffff ≤ 0x7f800000
      · have h2 : y_F2 (.fdiv) (.float y) (.float x) = some (.float (FP.fdiv x y)) := by unfold y_F2 xop; dsimp only; rw [if_pos hcnd]
        rw [h2] at h
        cases h
        unfold xop; dsimp only; rw [if_pos hcnd]
      · have h2 : y_F2 (.fdiv) (.float y) (.float x) = none := by unfold y_F2 xop; dsimp only; rw [if_neg hcnd]
        rw [h2] at h
        cases h
    | _ => cases h
  | _ => cases h
theorem tt_fdiv (hc : xcode k pc = some (.fdiv, len, a, b)) (hn : yGd G xrec xs E rec k N (pc + 1) n) : yGd G xrec xs E rec k (N + 1) pc (yF2 (.fdiv) n) := g_F2 hc rfl (fun nl ls r y x w h => h_fdiv nl ls r y x w h) hn
theorem h_dcmp {o : Jvm.ClassFile.CmpOp} (nl : Nat) (ls : XL) (r : List Value) (y x w : Value) (h : y_F2 (.dcmp o) y x = some w) : xop (.dcmp o) pc a nl ls (y :: x :: r) = some (pc + 1, ls, w :: r) := by
  cases y with
  | double y => cases x with
    | double x => cases h; rfl
    | _ => cases h
  | _ => cases h
theorem tt_dcmp {o : Jvm.ClassFile.CmpOp} (hc : xcode k pc = some (.dcmp o, len, a, b)) (hn : yGd G xrec xs E rec k N (pc + 1) n) : yGd G xrec xs E rec k (N + 1) pc (yF2 (.dcmp o) n) := g_F2 hc rfl (fun nl ls r y x w h => h_dcmp nl ls r y x w h) hn
theorem h_fcmp {o : Jvm.ClassFile.CmpOp} (nl : Nat) (ls : XL) (r : List Value) (y x w : Value) (h : y_F2 (.fcmp o) y x = some w) : xop (.fcmp o) pc a nl ls (y :: x :: r) = some (pc + 1, ls, w :: r) := by
  cases y with
  | float y => cases x with
    | float x => cases h; rfl
    | _ => cases h
  | _ => cases h
theorem tt_fcmp {o : Jvm.ClassFile.CmpOp} (hc : xcode k pc = some (.fcmp o, len, a, b)) (hn : yGd G xrec xs E rec k N (pc + 1) n) : yGd G xrec xs E rec k (N + 1) pc (yF2 (.fcmp o) n) := g_F2 hc rfl (fun nl ls r y x w h => h_fcmp nl ls r y x w h) hn
theorem h_lshl (nl : Nat) (ls : XL) (r : List Value) (y x w : Value) (h : y_F2 .lshl y x = some w) : xop .lshl pc a nl ls (y :: x :: r) = some (pc + 1, ls, w :: r) := by
  cases y with
  | int y => cases x with
    | long x => cases h; rfl
    | _ => cases h
  | _ => cases h
theorem tt_lshl (hc : xcode k pc = some (.lshl, len, a, b)) (hn : yGd G xrec xs E rec k N (pc + 1) n) : yGd G xrec xs E rec k (N + 1) pc (yF2 .lshl n) := g_F2 hc rfl (fun nl ls r y x w h => h_lshl nl ls r y x w h) hn
theorem h_ishl (nl : Nat) (ls : XL) (r : List Value) (y x w : Value) (h : y_F2 .ishl y x = some w) : xop .ishl pc a nl ls (y :: x :: r) = some (pc + 1, ls, w :: r) := by
  cases y with
  | int y => cases x with
    | int x => cases h; rfl
    | _ => cases h
  | _ => cases h
theorem tt_ishl (hc : xcode k pc = some (.ishl, len, a, b)) (hn : yGd G xrec xs E rec k N (pc + 1) n) : yGd G xrec xs E rec k (N + 1) pc (yF2 .ishl n) := g_F2 hc rfl (fun nl ls r y x w h => h_ishl nl ls r y x w h) hn
theorem h_i2d (nl : Nat) (ls : XL) (r : List Value) (x w : Value) (h : y_F1 .i2d x = some w) : xop .i2d pc a nl ls (x :: r) = some (pc + 1, ls, w :: r) := by
  cases x with
  | int x => cases h; rfl
  | _ => cases h
theorem tt_i2d (hc : xcode k pc = some (.i2d, len, a, b)) (hn : yGd G xrec xs E rec k N (pc + 1) n) : yGd G xrec xs E rec k (N + 1) pc (yF1 .i2d n) := g_F1 hc rfl (fun nl ls r x w h => h_i2d nl ls r x w h) hn
theorem h_i2f (nl : Nat) (ls : XL) (r : List Value) (x w : Value) (h : y_F1 .i2f x = some w) : xop .i2f pc a nl ls (x :: r) = some (pc + 1, ls, w :: r) := by
  cases x with
  | int x => cases h; rfl
  | _ => cases h
theorem tt_i2f (hc : xcode k pc = some (.i2f, len, a, b)) (hn : yGd G xrec xs E rec k N (pc + 1) n) : yGd G xrec xs E rec k (N + 1) pc (yF1 .i2f n) := g_F1 hc rfl (fun nl ls r x w h => h_i2f nl ls r x w h) hn
theorem h_f2i (nl : Nat) (ls : XL) (r : List Value) (x w : Value) (h : y_F1 .f2i x = some w) : xop .f2i pc a nl ls (x :: r) = some (pc + 1, ls, w :: r) := by
  cases x with
  | float x => cases h; rfl
  | _ => cases h
theorem tt_f2i (hc : xcode k pc = some (.f2i, len, a, b)) (hn : yGd G xrec xs E rec k N (pc + 1) n) : yGd G xrec xs E rec k (N + 1) pc (yF1 .f2i n) := g_F1 hc rfl (fun nl ls r x w h => h_f2i nl ls r x w h) hn
theorem h_d2l (nl : Nat) (ls : XL) (r : List Value) (x w : Value) (h : y_F1 .d2l x = some w) : xop .d2l pc a nl ls (x :: r) = some (pc + 1, ls, w :: r) := by
  cases x with
  | double x => cases h; rfl
  | _ => cases h
theorem tt_d2l (hc : xcode k pc = some (.d2l, len, a, b)) (hn : yGd G xrec xs E rec k N (pc + 1) n) : yGd G xrec xs E rec k (N + 1) pc (yF1 .d2l n) := g_F1 hc rfl (fun nl ls r x w h => h_d2l nl ls r x w h) hn
theorem g_node {t : Nat} {bb : Bool} {x y : yKK} (hx : yGd G xrec xs E rec k 63 t x) (hy : yGd G xrec xs E rec k 63 t y) : yGd G xrec xs E rec k 63 t (@Bool.rec (fun _ => yKK) y x bb) := by
  cases bb with
  | true => exact hx
  | false => exact hy
theorem g_leaf {t p : Nat} {x : yKK} (hx : yGd G xrec xs E rec k 63 p x) : yGd G xrec xs E rec k 63 t (@Bool.rec (fun _ => yKK) yBad2 x (Nat.beq t p)) := by
  cases hb : Nat.beq t p with
  | true => have hb := Nat.eq_of_beq_eq_true hb; subst hb; exact hx
  | false => exact fun _ _ _ _ => yTo_no
theorem g_bad2 {t : Nat} : yGd G xrec xs E rec k 63 t yBad2 := fun _ _ _ _ => yTo_no
end YST
