/-! One step of the machine of numbers is a step of the JVM. -/
theorem xent_at {k pc : Nat} {e : XEn} (h : xcode k pc = some e) : xent k pc e = true ∧ (xlen2 e.1 e.2.1 = true ∧ xthc k pc e = true) := by
  have h1 := xchk_at h
  unfold xchk at h1
  rw [Bool.and_eq_true, Bool.and_eq_true] at h1
  exact h1
theorem xent_dec {k pc : Nat} {e : XEn} (h : xcode k pc = some e) : decode (xB k) pc = .ok (e.1, e.2.1) ∧ xlen e.1 e.2.1 = true ∧ (∀ o, xoff e.1 = some o → (pc : Int) + o = (e.2.2.1 : Int)) ∧ xlnk k e = true := by
  have h1 := (xent_at h).1
  unfold xent at h1
  rw [Bool.and_eq_true, Bool.and_eq_true, Bool.and_eq_true] at h1
  refine ⟨of_decide_eq_true h1.1, h1.2.1, fun o ho => ?_, h1.2.2.2⟩
  have h2 := h1.2.2.1
  rw [ho] at h2
  exact of_decide_eq_true h2
def xFx (p : Program) (l : Launch) (s : State) (m : MethodId) (meth : Method) (c : Code) (g : XG) (D : va_G) (xs : List Int32) (k : Nat) : Prop :=
  p.tables.exec = Jvm.exec ∧ c.code = xB k ∧ c.maxLocals = xNl k ∧ s.vm.findClass (xcn (xK k)) = some m.cls ∧ meth.name = (xY k).name ∧ meth.locks = false ∧ c.exceptionTable.toList = tableOf ((xHh k).map (fun h => (h.1, h.2.1, h.2.2.1, h.2.2.2.1))) ∧ xI g D xs s ∧ l.stackTraces = false ∧ meth.sig.returnType = xRet k
def xRec (l : Launch) (g : XG) (D : va_G) (xs : List Int32) (rec : Nat → List Value → XW → Option (XO × XW)) : Prop := ∀ a av σ o σ', a < 256 → rec a av σ = some (o, σ') → xMet l g D xs a av σ o σ'
theorem xhh_f : ∀ k, k < 257 → ∀ h ∈ xHh k, xK k = 12 ∧ h.2.2.2.1 ≠ 0 ∧ h.2.2.2.2 < 4 ∧ (h.2.2.2.1, h.2.2.2.2) ∈ [(13, 0), (15, 1), (25, 2), (81, 3)] := by decide +kernel
set_option maxRecDepth 100000 in
theorem xhh_w : ∀ q ∈ [(13, 0), (15, 1), (25, 2), (81, 3)], (Cond.classLink (xcn 12) q.1 (xexc q.2) ∈ lw_tbl ∧ xgw (Cond.classLink (xcn 12) q.1 (xexc q.2)) = true) ∧ (Cond.castable (xexc q.2) (xexc q.2) ∈ lw_tbl ∧ xgw (Cond.castable (xexc q.2) (xexc q.2)) = true) := by decide +kernel
section XST
variable {p : Program} {l : Launch} {e : Env} {s : State} {m : MethodId} {args : Array Value} {below : List Frame} {meth : Method} {c : Code} {H : Heap} {locs : List Loc} {cells slots : Nat} {Q : State → Prop}
variable {D : va_G} {g : XG} {xs : List Int32} {k : Nat}
def xWc (p : Program) (l : Launch) (e : Env) (s : State) (m : MethodId) (args : Array Value) (below : List Frame) (meth : Method) (c : Code) (Q : State → Prop) (g : XG) (D : va_G) (k : Nat) (z : XC) : Prop :=
  ∀ (lsA : Array Slot) (H : Heap) (locs : List Loc), lv_has lsA (xNl k) (xls g.1 g.2.1 z.2.1) → xH g D xcl z.2.2.2.2.2 s H locs → W p l e (xrm k) s m args below meth c H locs z.2.2.2.1 z.2.2.2.2.1 Q (F0 m z.1 lsA (xst g.1 g.2.1 z.2.2.1))
theorem xcl_c {a : Nat} (h : a < 12) : xcl[a]? = some ((xcT a).1, (xcT a).2.1, (xcT a).2.2) := xcl_at a h
theorem xts {s : State} (hI : xI g D xs s) (args : Array Value) : ∀ w ∈ lw_tbl.filter xgw, w.before args s = true := fun w hw => by
  obtain ⟨h1, h2⟩ := List.mem_filter.mp hw
  exact hI.1 w h1 h2 args
theorem xin_cl {a : Nat} (h : a < 12) : ∀ w ∈ u_ws (xcT a).1 (xcT a).2.1 (xcT a).2.2, w ∈ lw_tbl.filter xgw := fun w hw => List.mem_filter.mpr (xcl_in a h w hw)
/-- a link of a field entry -/
theorem xfl_at {c ix a b : Nat} {n : Bool} (h : (c, ix, a, b, n) ∈ xfl) {s : State} (hI : xI g D xs s) (args : Array Value) : a < 12 ∧ b < (xcT a).2.2 ∧ (if n = true then (Cond.fieldLinkNest (xcn c) ix ((xcT a).2.1 b).1 ((xcT a).2.1 b).2.1 ((xcT a).2.1 b).2.2.1 "RoverLocator").before args s = true else (Cond.fieldLink (xcn c) ix ((xcT a).2.1 b).1 ((xcT a).2.1 b).2.1 ((xcT a).2.1 b).2.2.1).before args s = true) := by
  obtain ⟨h1, h2⟩ := xfl_b _ h
  obtain ⟨h3, h4⟩ := xfl_w _ h
  refine ⟨h1, h2, ?_⟩
  have h5 := hI.1 _ h3 h4 args
  cases n with
  | true => rw [if_pos rfl]; exact h5
  | false => rw [if_neg (by decide)]; exact h5
theorem xhnd_ok {pc E h : Nat} : ∀ {hs : List (Nat × Nat × Nat × Nat × Nat)}, xhnd hs pc E = some h → ∃ pre x suf, hs = pre ++ x :: suf ∧ x.2.2.1 = h ∧ x.1 ≤ pc ∧ pc < x.2.1 ∧ x.2.2.2.2 = E ∧ ∀ y ∈ pre, ¬ (y.1 ≤ pc ∧ pc < y.2.1) ∨ y.2.2.2.2 ≠ E := by
  intro hs
  induction hs with
  | nil => intro h; cases h
  | cons q r ih =>
    intro hq
    unfold xhnd at hq
    cases hb : (Nat.ble q.1 pc && (Nat.blt pc q.2.1 && Nat.beq q.2.2.2.2 E)) with
    | true =>
      rw [hb] at hq
      rw [Bool.and_eq_true, Bool.and_eq_true] at hb
      exact ⟨[], q, r, rfl, Option.some.inj hq, Nat.le_of_ble_eq_true hb.1, Nat.le_of_ble_eq_true hb.2.1, Nat.eq_of_beq_eq_true hb.2.2, fun y hy => by cases hy⟩
    | false =>
      rw [hb] at hq
      obtain ⟨pre, x, suf, h1, h2, h3, h4, h5, h6⟩ := ih hq
      refine ⟨q :: pre, x, suf, by rw [h1]; rfl, h2, h3, h4, h5, fun y hy => ?_⟩
      rcases List.mem_cons.mp hy with hy | hy
      · subst hy
        rw [Bool.and_eq_false_iff, Bool.and_eq_false_iff] at hb
        rcases hb with hb | hb | hb
        · exact Or.inl (fun z => by rw [Nat.ble_eq_true_of_le z.1] at hb; cases hb)
        · exact Or.inl (fun z => by
            have : Nat.blt pc y.2.1 = true := Nat.ble_eq_true_of_le z.2
            rw [this] at hb; cases hb)
        · exact Or.inr (fun z => by rw [z, Nat.beq_refl] at hb; cases hb)
      · exact h6 y hy
theorem xk1_ok (b0 b : Nat) (ls : XL) (j : Nat) : (xls b0 b ls).filter (fun q => !(q.1 == j) && !(q.1 + 1 == j && q.2.category == 2)) = xls b0 b (ls.filter (xk1 j)) := by
  unfold xls
  rw [xfm (q := xk1 j)]
  intro a
  simp only [xk1, xbeq, xrv_cat]
theorem xsplit_ok : ∀ (n : Nat) (st acc as rest : List Value), xsplit n st acc = some (as, rest) → ∃ tk, st = tk ++ rest ∧ as = tk.reverse ++ acc ∧ tk.length = n
  | 0, st, acc, as, rest, h => by
    cases h
    exact ⟨[], rfl, rfl, rfl⟩
  | n + 1, [], acc, as, rest, h => by cases h
  | n + 1, v :: st, acc, as, rest, h => by
    obtain ⟨tk, h1, h2, h3⟩ := xsplit_ok n st (v :: acc) as rest h
    exact ⟨v :: tk, by rw [h1]; rfl, by rw [h2]; simp, by rw [← h3]; rfl⟩
theorem xsplit_st {n : Nat} {st as rest : List Value} (b0 b : Nat) (h : xsplit n st [] = some (as, rest)) : xst b0 b st = (xst b0 b as).reverse ++ xst b0 b rest ∧ (xst b0 b as).length = n ∧ as.length = n := by
  obtain ⟨tk, h1, h2, h3⟩ := xsplit_ok n st [] as rest h
  rw [List.append_nil] at h2
  subst h1
  subst h2
  unfold xst
  rw [List.map_append, List.map_reverse, List.reverse_reverse]
  exact ⟨rfl, by simp [h3], by simp [h3]⟩
theorem xroom_ok {k a cu su : Nat} {rest : List Value} (h : xroom k a rest cu su = true) : xcat rest ≤ 8 ∧ xFr a + 1 ≤ xFr k ∧ 8 + (xNl a + 11) + xLo a ≤ xLo k ∧ cu + xMc a ≤ xMc k ∧ su + xMs a ≤ xMs k := by
  unfold xroom at h
  rw [Bool.and_eq_true, Bool.and_eq_true, Bool.and_eq_true, Bool.and_eq_true] at h
  exact ⟨Nat.le_of_ble_eq_true h.1, Nat.le_of_ble_eq_true h.2.1, Nat.le_of_ble_eq_true h.2.2.1, Nat.le_of_ble_eq_true h.2.2.2.1, Nat.le_of_ble_eq_true h.2.2.2.2⟩
theorem xwords (b0 b : Nat) {rest : List Value} {n : Nat} (h : xcat rest ≤ n) : ((xst b0 b rest).map fun v => v.category).sum ≤ n := by rw [xcat_eq, xcat_rv]; exact h
theorem xcn_T : ∀ a, a < 12 → xcn a = (xcT a).1 := by decide +kernel
theorem xcw_at {a : Nat} (ha : a < 256) : xcw a ∈ lw_tbl ∧ xgw (xcw a) = true := xall_w a (xall_in a ha)
theorem xcw_0 {a : Nat} (h : xHh a = []) : xcw a = Cond.code (xY a) (xB a) (xNl a) (xRet a) := by unfold xcw; rw [h]
theorem xcw_1 {a : Nat} (h : xHh a ≠ []) : xcw a = Cond.codeWith (xY a) (xB a) (xNl a) (xRet a) ((xHh a).map (fun h => (h.1, h.2.1, h.2.2.1, h.2.2.2.1))) := by
  unfold xcw
  cases hh : xHh a with
  | nil => exact absurd hh h
  | cons x r => rfl
theorem xcls {a : Nat} (ha : a < 257) : (xY a).cls = xcn (xK a) := (xm_f1 a ha).1
theorem xsig {a : Nat} (ha : a < 257) : ∀ sig, parseMethodDescriptor (xY a).desc = some sig → xNa a = sig.parameters.length := fun sig h => by
  have h1 := xm_f2 a ha
  rw [h] at h1
  exact (Option.some.inj h1).symm
theorem xini_at {a : Nat} (ha : a < 257) (hI : xI g D xs s) (args : Array Value) : (Cond.initialized (xY a).cls).before args s = true := by
  obtain ⟨h1, h2⟩ := xini_w _ (xini_k a ha)
  rw [xcls ha]
  exact hI.1 _ h1 h2 args
theorem xpay {a : Nat} (ha : a < 256) (hI : xI g D xs s) : ∀ w ∈ [xcw a], ∀ (a' : Array Value) (U : State), s.WarmedH U.vm → w.before a' U = true := fun w hw a' U hW => by
  rw [List.mem_singleton.mp hw]
  exact xgw_ok (xcw_at ha).2 hW (hI.1 _ (xcw_at ha).1 (xcw_at ha).2 #[])
/-- what a call site needs, but its link -/
theorem xcallB {a ix cu su : Nat} {rest : List Value} (ha : a < 256) (hh : xHh a = []) (hI : xI g D xs s) (hroom : xroom k a rest cu su = true) (hl : (Cond.methodLink (xcn (xK k)) ix (xY a)).before args s = true) :
    CallB (xrm k) s args (xcn (xK k)) ix (xY a) (xB a) (xNl a) (xRet a) [xcw a] (xrm a) (xMc a) (xMs a) (xNa a) := by
  obtain ⟨-, r2, r3, -, -⟩ := xroom_ok hroom
  have hm : Cond.code (xY a) (xB a) (xNl a) (xRet a) ∈ [xcw a] := by rw [xcw_0 hh]; exact List.mem_singleton.mpr rfl
  exact ⟨rfl, rfl, r2, r3, xpay ha hI, hm, by rw [← xcw_0 hh]; exact hI.1 _ (xcw_at ha).1 (xcw_at ha).2 args, xini_at (by omega) hI args, (xm_f1 a (by omega)).2, xsig (by omega), hl⟩
theorem xml_at {q : Nat × Nat × Nat} (h : q ∈ xml) (hI : xI g D xs s) (args : Array Value) : (Cond.methodLink (xcn q.1) q.2.1 (xY q.2.2)).before args s = true := hI.1 _ (xml_w q h).1 (xml_w q h).2 args
theorem x_runV {lsA : Array Slot} {σ σ' : XW} {o : XO} {a ix pc cu su q t : Nat} {as rest fs : List Value} (F : xFx p l s m meth c g D xs k) (hM : xMet l g D xs a (.ref q :: as) σ o σ') (ha : a ∈ xvm) (hml : (xK k, ix, a) ∈ xml) (hH : xH g D xcl σ s H locs) (hq : σ.2[q]? = some (t, fs)) (ht : t = xK a) (hn : (xst g.1 g.2.1 as).length = xNa a) (hroom : xroom k a rest cu su = true) (hsz : lsA.size = xNl k) (hdg : decode (xB k) pc = .ok (.invokevirtual ix, 3)) :
    vx_Run p l e (xrm k) s m args below meth c H locs cu su (xMc a) (xMs a) (F0 m pc lsA ((xst g.1 g.2.1 as).reverse ++ .ref (g.1 + q) :: xst g.1 g.2.1 rest)) (xst g.1 g.2.1 rest) (xQo g D o σ' (Value.ref (g.1 + q) :: xst g.1 g.2.1 as).toArray) (xXo g D o σ') (xA g) := by
  obtain ⟨hx, hb, hml', hown, -, -, -, hI, -, -⟩ := F
  obtain ⟨b1, b2, b3, b4⟩ := xmb.1 a ha
  obtain ⟨r1, -, -, r4, r5⟩ := xroom_ok hroom
  obtain ⟨i1, i2⟩ := xvm_w a ha
  obtain ⟨s1, s2⟩ := xvs_w a b4
  subst ht
  obtain ⟨cell, q1, q2, q3, -⟩ := hH.1.obj hq (by omega) (xcl_at _ b3)
  have hcl := (hI.2.1.1 _ _ (xcl_at _ b3)).2.1
  refine vx_runV (own := xcn (xK k)) (C := (xY a).cls) (bytes := xB a) (maxL := xNl a) (ret := xRet a) (n := xNa a) (Ts := lw_tbl.filter xgw) ⟨hx, hb, hml', hown, xts hI args⟩ hM ⟨xcallB b1 b2 hI hroom (xml_at hml hI args), hI.1 _ i1 i2 args, hI.1 _ s1 s2 args⟩ ⟨xPc_blind _ _ _ _ _, ⟨cell, q1, by rw [q3]; rfl, ?_⟩, fun U hU hW => xgive hI hH rfl U hU hW⟩ rfl hn hsz rfl (lv_room (xwords _ _ r1)) hdg ⟨r4, r5⟩
  rw [xcls (by omega), q2, xcn_T _ b3]
  exact hcl
theorem x_runI {lsA : Array Slot} {σ σ' : XW} {o : XO} {a ix pc cu su q : Nat} {as rest : List Value} (F : xFx p l s m meth c g D xs k) (hM : xMet l g D xs a (.ref q :: as) σ o σ') (ha : a ∈ xim) (hml : (xK k, ix, a) ∈ xml) (hH : xH g D xcl σ s H locs) (hn : (xst g.1 g.2.1 as).length = xNa a) (hroom : xroom k a rest cu su = true) (hsz : lsA.size = xNl k) (hdg : decode (xB k) pc = .ok (.invokespecial ix, 3)) :
    vx_Run p l e (xrm k) s m args below meth c H locs cu su (xMc a) (xMs a) (F0 m pc lsA ((xst g.1 g.2.1 as).reverse ++ .ref (g.1 + q) :: xst g.1 g.2.1 rest)) (xst g.1 g.2.1 rest) (xQo g D o σ' (Value.ref (g.1 + q) :: xst g.1 g.2.1 as).toArray) (xXo g D o σ') (xA g) := by
  obtain ⟨hx, hb, hml', hown, -, -, -, hI, -, -⟩ := F
  obtain ⟨b1, b2, b3, b4⟩ := xmb.2.2 a ha
  obtain ⟨r1, -, -, r4, r5⟩ := xroom_ok hroom
  obtain ⟨i1, i2⟩ := xim_w a ha
  have cb := xcallB (args := args) b1 b2 hI hroom (xml_at hml hI args)
  rw [b4] at cb
  exact vx_runI (own := xcn (xK k)) (bytes := xB a) (maxL := xNl a) (n := xNa a) (Ts := lw_tbl.filter xgw) ⟨hx, hb, hml', hown, xts hI args⟩ hM ⟨cb, b3, hI.1 _ i1 i2 args⟩ ⟨xPc_blind _ _ _ _ _, fun U hU hW => xgive hI hH rfl U hU hW⟩ rfl hn hsz rfl (lv_room (xwords _ _ r1)) hdg ⟨r4, r5⟩
theorem x_runIN {lsA : Array Slot} {σ σ' : XW} {o : XO} {a ix pc cu su q : Nat} {as rest : List Value} (F : xFx p l s m meth c g D xs k) (hM : xMet l g D xs a (.ref q :: as) σ o σ') (ha : a ∈ xim) (hml : (xK k, ix, a) ∈ xmn) (hH : xH g D xcl σ s H locs) (hn : (xst g.1 g.2.1 as).length = xNa a) (hroom : xroom k a rest cu su = true) (hsz : lsA.size = xNl k) (hdg : decode (xB k) pc = .ok (.invokespecial ix, 3)) :
    vx_Run p l e (xrm k) s m args below meth c H locs cu su (xMc a) (xMs a) (F0 m pc lsA ((xst g.1 g.2.1 as).reverse ++ .ref (g.1 + q) :: xst g.1 g.2.1 rest)) (xst g.1 g.2.1 rest) (xQo g D o σ' (Value.ref (g.1 + q) :: xst g.1 g.2.1 as).toArray) (xXo g D o σ') (xA g) := by
  obtain ⟨hx, hb, hml', hown, -, -, -, hI, -, -⟩ := F
  obtain ⟨b1, b2, b3, b4⟩ := xmb.2.2 a ha
  obtain ⟨r1, r2, r3, r4, r5⟩ := xroom_ok hroom
  obtain ⟨i1, i2⟩ := xim_w a ha
  have hm : Cond.code (xY a) (xB a) (xNl a) none ∈ [xcw a] := by rw [xcw_0 b2, b4]; exact List.mem_singleton.mpr rfl
  have hc0 : (Cond.code (xY a) (xB a) (xNl a) none).before args s = true := by
    have h9 := hI.1 _ (xcw_at b1).1 (xcw_at b1).2 args
    rw [xcw_0 b2, b4] at h9
    exact h9
  exact vx_runIN (own := xcn (xK k)) (bytes := xB a) (maxL := xNl a) (n := xNa a) (host := "RoverLocator") (Ts := lw_tbl.filter xgw) ⟨hx, hb, hml', hown, xts hI args⟩ hM ⟨⟨⟨rfl, rfl, r2, r3, xpay b1 hI, hm⟩, hc0, xini_at (by omega) hI args, (xm_f1 a (by omega)).2, xsig (by omega), hI.1 _ (xmn_w _ hml).1 (xmn_w _ hml).2 args⟩, b3, hI.1 _ i1 i2 args⟩ ⟨xPc_blind _ _ _ _ _, fun U hU hW => xgive hI hH rfl U hU hW⟩ rfl hn hsz rfl (lv_room (xwords _ _ r1)) hdg ⟨r4, r5⟩
theorem x_runS {lsA : Array Slot} {σ σ' : XW} {o : XO} {a ix pc cu su : Nat} {as rest : List Value} (F : xFx p l s m meth c g D xs k) (hM : xMet l g D xs a as σ o σ') (ha : a ∈ xsm) (hml : (xK k, ix, a) ∈ xml) (hH : xH g D xcl σ s H locs) (hn : (xst g.1 g.2.1 as).length = xNa a) (hroom : xroom k a rest cu su = true) (hsz : lsA.size = xNl k) (hdg : decode (xB k) pc = .ok (.invokestatic ix, 3)) :
    vx_Run p l e (xrm k) s m args below meth c H locs cu su (xMc a) (xMs a) (F0 m pc lsA ((xst g.1 g.2.1 as).reverse ++ xst g.1 g.2.1 rest)) (xst g.1 g.2.1 rest) (xQo g D o σ' (xst g.1 g.2.1 as).toArray) (xXo g D o σ') (xA g) := by
  obtain ⟨hx, hb, hml', hown, -, -, -, hI, -, -⟩ := F
  have b1 := xmb.2.1 a ha
  obtain ⟨r1, r2, r3, r4, r5⟩ := xroom_ok hroom
  obtain ⟨i1, i2⟩ := xsm_w a ha
  by_cases hh : xHh a = []
  · exact vx_runS (own := xcn (xK k)) (bytes := xB a) (maxL := xNl a) (ret := xRet a) (n := xNa a) (Ts := lw_tbl.filter xgw) ⟨hx, hb, hml', hown, xts hI args⟩ hM ⟨xcallB b1 hh hI hroom (xml_at hml hI args), hI.1 _ i1 i2 args⟩ ⟨xPc_blind _ _ _ _ _, fun U hU hW => xgive hI hH rfl U hU hW⟩ rfl hn hsz rfl (lv_room (xwords _ _ r1)) hdg ⟨r4, r5⟩
  · have hm : Cond.codeWith (xY a) (xB a) (xNl a) (xRet a) ((xHh a).map (fun h => (h.1, h.2.1, h.2.2.1, h.2.2.2.1))) ∈ [xcw a] := by rw [xcw_1 hh]; exact List.mem_singleton.mpr rfl
    have hc0 := hI.1 _ (xcw_at b1).1 (xcw_at b1).2 args
    rw [xcw_1 hh] at hc0
    exact vx_runSX (own := xcn (xK k)) (bytes := xB a) (maxL := xNl a) (ret := xRet a) (n := xNa a) (Ts := lw_tbl.filter xgw) ⟨hx, hb, hml', hown, xts hI args⟩ hM ⟨⟨rfl, rfl, r2, r3, xpay b1 hI, hm⟩, hc0, xini_at (by omega) hI args, (xm_f1 a (by omega)).2, xsig (by omega), xml_at hml hI args, hI.1 _ i1 i2 args⟩ ⟨xPc_blind _ _ _ _ _, fun U hU hW => xgive hI hH rfl U hU hW⟩ rfl hn hsz rfl (lv_room (xwords _ _ r1)) hdg ⟨r4, r5⟩
theorem xpass {E pc : Nat} (hE : E < 4) (hI : xI g D xs s) (args : Array Value) (hk : k < 257) {y : Nat × Nat × Nat × Nat × Nat} (hy : y ∈ xHh k) (hp : ¬ (y.1 ≤ pc ∧ pc < y.2.1) ∨ y.2.2.2.2 ≠ E) :
    covers ⟨y.1, y.2.1, y.2.2.1, y.2.2.2.1⟩ pc = false ∨ (y.2.2.2.1 ≠ 0 ∧ ∃ nm : String, (Cond.classLink (xcn (xK k)) y.2.2.2.1 nm).before args s = true ∧ va_Nc (xexc E) nm s) := by
  obtain ⟨f1, f2, f3, f4⟩ := xhh_f k hk y hy
  rcases hp with hp | hp
  · refine Or.inl ?_
    show (decide (y.1 ≤ pc) && decide (pc < y.2.1)) = false
    rw [Bool.and_eq_false_iff]
    by_cases h1 : y.1 ≤ pc
    · exact Or.inr (decide_eq_false (fun h2 => hp ⟨h1, h2⟩))
    · exact Or.inl (decide_eq_false h1)
  · obtain ⟨⟨w1, w2⟩, -⟩ := xhh_w _ f4
    refine Or.inr ⟨f2, xexc y.2.2.2.2, ?_, hI.2.2.2.2.2.1 E _ hE f3 (Ne.symm hp)⟩
    rw [f1]
    exact hI.1 _ w1 w2 args
set_option maxHeartbeats 1000000 in
theorem x_back {lsA : Array Slot} {ls : XL} {σ' : XW} {o : XO} {a pc cu su : Nat} {rest st0 : List Value} {av : Array Value} {z : XC} (hk : k < 257) (F : xFx p l s m meth c g D xs k) (hl : lv_has lsA (xNl k) (xls g.1 g.2.1 ls))
    (hr : vx_Run p l e (xrm k) s m args below meth c H locs cu su (xMc a) (xMs a) (F0 m pc lsA st0) (xst g.1 g.2.1 rest) (xQo g D o σ' av) (xXo g D o σ') (xA g)) (hS : va_S (xA g) s.heap H locs) (h : xback k a pc ls rest cu su (some (o, σ')) = some (.inl z)) (kw : xWc p l e s m args below meth c Q g D k z) :
    W p l e (xrm k) s m args below meth c H locs cu su Q (F0 m pc lsA st0) := by
  obtain ⟨hx, hb, hml', hown, -, -, htab, hI, -, -⟩ := F
  refine xgo hr hS (fun E hE hE4 H1 locs1 q ce hH1 hce hcv hcl => ?_) (fun r hr' H1 locs1 hH1 => ?_)
  · subst hE
    unfold xback at h
    dsimp only at h
    split at h
    · next hp hnd =>
      obtain ⟨pre, x, suf, g1, g2, g3, g4, g5, g6⟩ := xhnd_ok hnd
      have hxm : x ∈ xHh k := by rw [g1]; exact List.mem_append_right _ List.mem_cons_self
      obtain ⟨f1, f2, f3, f4⟩ := xhh_f k hk x hxm
      obtain ⟨⟨w1, w2⟩, w3, w4⟩ := xhh_w _ f4
      have cat : W p l e (xrm k) s m args below meth c H1 locs1 (cu + xMc a) (su + xMs a) Q (F0 m hp lsA [.ref q]) → vx_W p l e (xrm k) s m args below meth c H1 locs1 (cu + xMc a) (su + xMs a) Q (F0 m pc lsA (xst g.1 g.2.1 rest)) q := fun kk => by
        refine vx_catch (own := xcn (xK k)) (name := xexc E) (E := xexc E) hown (tableOf (pre.map (fun h => (h.1, h.2.1, h.2.2.1, h.2.2.2.1)))) ⟨x.1, x.2.1, x.2.2.1, x.2.2.2.1⟩ (tableOf (suf.map (fun h => (h.1, h.2.1, h.2.2.1, h.2.2.2.1)))) ?_ ?_ ?_ f2 ?_ ?_ hce hcv hcl ?_
        · rw [htab, g1]
          simp [tableOf]
        · intro z hz
          obtain ⟨y4, hy4, rfl⟩ := List.mem_map.mp hz
          obtain ⟨y, hy, rfl⟩ := List.mem_map.mp hy4
          exact xpass hE4 hI args hk (by rw [g1]; exact List.mem_append_left _ hy) (g6 y hy)
        · show (decide (x.1 ≤ pc) && decide (pc < x.2.1)) = true
          rw [decide_eq_true g3, decide_eq_true g4]
          rfl
        · rw [f1, ← g5]
          exact hI.1 _ w1 w2 args
        · rw [← g5]
          exact hI.1 _ w3 w4 args
        · rw [show (⟨x.1, x.2.1, x.2.2.1, x.2.2.2.1⟩ : ExceptionTableEntry).handlerPc = hp from g2]
          exact kk
      refine cat ?_
      split at h
      · next j ent hent =>
        cases hj : Nat.blt j (xNl k) with
        | false => rw [hj] at h; cases h
        | true =>
          rw [hj] at h
          cases h
          obtain ⟨hd, -, -, -⟩ := xent_dec hent
          have hlen := (xent_at hent).2.1
          have e1 : ent.1 = 1 := Nat.eq_of_beq_eq_true hlen
          rw [show ((Instr.astore_n j, ent) : XEn).2.1 = 1 from e1] at hd
          refine lv_astore_n hx hb hd rfl hl (Nat.le_of_ble_eq_true hj) rfl (fun lsB hB => kw lsB H1 locs1 ⟨hB.1, hB.2.1, fun q hq => hB.2.2 q (List.mem_cons_of_mem _ (by rw [xk1_ok]; exact hq))⟩ hH1)
      · next j ent hent =>
        cases hj : Nat.blt j (xNl k) with
        | false => rw [hj] at h; cases h
        | true =>
          rw [hj] at h
          cases h
          obtain ⟨hd, -, -, -⟩ := xent_dec hent
          have hlen := (xent_at hent).2.1
          have e1 : ent.1 = 2 := Nat.eq_of_beq_eq_true hlen
          rw [show ((Instr.astore j, ent) : XEn).2.1 = 2 from e1] at hd
          refine lv_astore hx hb hd hl (Nat.le_of_ble_eq_true hj) rfl (fun lsB hB => kw lsB H1 locs1 ⟨hB.1, hB.2.1, fun q hq => hB.2.2 q (List.mem_cons_of_mem _ (by rw [xk1_ok]; exact hq))⟩ hH1)
      · cases h
    · cases h
  · subst hr'
    cases r with
    | none => cases h; exact kw lsA H1 locs1 hl hH1
    | some v => cases h; exact kw lsA H1 locs1 hl hH1
end XST
