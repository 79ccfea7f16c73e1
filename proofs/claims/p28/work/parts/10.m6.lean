noncomputable section
def xI (g : XG) (D : va_G) (xs : List Int32) (U : State) : Prop :=
  xGW U ∧ va_K D xcl (xty g) U ∧ (∀ q ∈ xstrs, ∃ sa, vk_R "RoverLocator" q.1 q.2 sa U) ∧ vx_Zq Bundle.tN "UNASSIGNED_STACK" Bundle.steD (xA g) U U.heap ∧ vx_Zq Bundle.tN "SUPPRESSED_SENTINEL" Bundle.listD (xA g) U U.heap ∧
  (∀ e e', e < 4 → e' < 4 → e ≠ e' → va_Nc (xexc e) (xexc e') U) ∧ va_X g.2.1 xs.length (fun j => xs.getD j 0) U U.heap ∧ g.2.1 < g.1 ∧ g.1 ≤ U.heap.size ∧ va_AO "RoverLocator$State" U
theorem xI.move {g : XG} {D : va_G} {xs : List Int32} {s U : State} (h : xI g D xs s) (hW : s.WarmedH U.vm) (hz : s.heap.size ≤ U.heap.size) (hk : ∀ q, q < s.heap.size → ¬ xA g q → U.heap[q]? = s.heap[q]?) : xI g D xs U := by
  obtain ⟨h1, h2, h3, h4, h5, h6, h7, h8, h9, h10⟩ := h
  refine ⟨h1.move hW, va_K.moved hW.alike h2, fun q hq => ?_, (h4.moved hW.alike).kept hk, (h5.moved hW.alike).kept hk, fun e e' he he' hne => (h6 e e' he he' hne).moved hW.alike, (h7.moved hW.alike).kept (hk _ (by omega) (by show ¬ g.1 ≤ g.2.1; omega)), h8, Nat.le_trans h9 hz, h10.moved hW.alike⟩
  obtain ⟨sa, hsa⟩ := h3 q hq
  exact ⟨sa, vk_R.warm hW hsa⟩
def xPc (g : XG) (D : va_G) (xs : List Int32) (av : List Value) (σ : XW) : Array Value → State → Prop := fun v U => v = (av.map (xrv g.1 g.2.1)).toArray ∧ xI g D xs U ∧ xR g D xcl σ.2 U.heap ∧ (σ.1 = true → U.heap.size = g.1 + σ.2.length)
def xQr (g : XG) (D : va_G) (r : Option Value) (σ : XW) : Array Value → State → Outcome → State → Prop := fun _ st o t => o = .returned (r.map (xrv g.1 g.2.1)) ∧ xR g D xcl σ.2 t.heap ∧ (σ.1 = true → t.heap.size = g.1 + σ.2.length) ∧ va_F (xA g) st t
def xQx (g : XG) (D : va_G) (E : Nat) (σ : XW) : String → State → State → Prop := fun E' st t => E' = xexc E ∧ E < 4 ∧ xR g D xcl σ.2 t.heap ∧ (σ.1 = true → t.heap.size = g.1 + σ.2.length) ∧ va_F (xA g) st t
def xQo (g : XG) (D : va_G) (o : XO) (σ : XW) : Array Value → State → Outcome → State → Prop := match o with
  | .inl r => xQr g D r σ
  | .inr _ => fun _ _ _ _ => False
def xXo (g : XG) (D : va_G) (o : XO) (σ : XW) : String → State → State → Prop := match o with
  | .inl _ => fun _ _ _ => False
  | .inr E => xQx g D E σ
def xrm (k : Nat) : Room := { frames := xFr k, cells := xMc k, slots := xMs k, locals := xLo k }
def xMet (l : Launch) (g : XG) (D : va_G) (xs : List Int32) (k : Nat) (av : List Value) (σ : XW) (o : XO) (σ' : XW) : Prop :=
  vx_Met l (xY k) [xcw k] (xrm k) (xPc g D xs av σ) (xQo g D o σ') (xXo g D o σ') (xMc k) (xMs k) (xA g)
theorem xPc_blind (g : XG) (D : va_G) (xs : List Int32) (av : List Value) (σ : XW) : FrameBlind (xPc g D xs av σ) := fun a U fr mk h =>
  ⟨h.1, h.2.1.move (U := U.calling fr mk a) (State.WarmedH.refl U) (Nat.le_refl _) (fun _ _ _ => rfl), h.2.2.1, h.2.2.2⟩
theorem xcat_eq (st : List Value) : (st.map fun v => v.category).sum = xcat st := by
  induction st with
  | nil => rfl
  | cons v r ih => rw [List.map_cons, List.sum_cons, ih]; rfl
theorem xcat_rv (b0 b : Nat) (st : List Value) : xcat (xst b0 b st) = xcat st := by
  induction st with
  | nil => rfl
  | cons v r ih =>
    show (xrv b0 b v).category + xcat (xst b0 b r) = _
    rw [ih, xrv_cat]
    rfl
theorem xnth_eq {α : Type} : ∀ (l : List α) (n : Nat), xnth l n = l[n]?
  | [], n => by simp [xnth]
  | a :: l, 0 => by simp [xnth]
  | a :: l, n + 1 => by simp [xnth, xnth_eq l n]
theorem xarg_eq (b0 b : Nat) : ∀ (n : Nat) (av : List Value), xls b0 b (lv_args n av) = lv_args n (xst b0 b av)
  | _, [] => rfl
  | n, v :: r => by
    show (n, xrv b0 b v) :: xls b0 b (lv_args _ r) = (n, xrv b0 b v) :: lv_args _ (xst b0 b r)
    rw [xarg_eq, xrv_cat]
theorem xsl_len (vs : List Value) : (lg_sl vs).length = xcat vs := by
  induction vs with
  | nil => rfl
  | cons v r ih =>
    show (lg_sl (v :: r)).length = v.category + xcat r
    rw [← ih]
    unfold lg_sl
    rw [List.flatMap_cons, List.length_append]
    rcases lv_cat v with h | h
    · rw [if_neg (by omega), h]; rfl
    · rw [if_pos h, h]; rfl
section XGO
variable {p : Program} {l : Launch} {e : Env} {R : Room} {s : State} {m : MethodId} {args : Array Value} {below : List Frame} {meth : Method} {c : Code} {H : Heap} {locs : List Loc} {cells slots : Nat} {Q : State → Prop}
variable {pc : Nat} {ls : Array Slot} {rest st0 : List Value} {D : va_G} {g : XG} {σ' : XW} {mc ms : Nat} {a : Array Value} {o : XO}
theorem xgo (hr : vx_Run p l e R s m args below meth c H locs cells slots mc ms (F0 m pc ls st0) rest (xQo g D o σ' a) (xXo g D o σ') (xA g)) (hS : va_S (xA g) s.heap H locs)
    (kx : ∀ E, o = .inr E → E < 4 → ∀ (H1 : Heap) (locs1 : List Loc) (q : Addr) (ce : Cell), xH g D xcl σ' s H1 locs1 → H1[q]? = some ce → ce.vm = .none → s.vm.findClass (xexc E) = some ce.cls → vx_W p l e R s m args below meth c H1 locs1 (cells + mc) (slots + ms) Q (F0 m pc ls rest) q)
    (kk : ∀ r, o = .inl r → ∀ (H1 : Heap) (locs1 : List Loc), xH g D xcl σ' s H1 locs1 → W p l e R s m args below meth c H1 locs1 (cells + mc) (slots + ms) Q (F0 m (pc + 3) ls ((r.map (xrv g.1 g.2.1)).toList ++ rest))) : W p l e R s m args below meth c H locs cells slots Q (F0 m pc ls st0) := by
  intro T hT X
  rcases hr T hT X with ⟨v, st₀, t, T', L, h0, X', hL, e1, e2, hq, st⟩ | ⟨q, st₀, t, T', L, E', ce, h0, X', hL, e1, e2, hq, hce, hcv, hcl, st⟩
  · cases o with
    | inr E => exact hq.elim
    | inl r =>
      obtain ⟨hv, hR, hsz, hF⟩ := hq
      cases hv
      obtain ⟨k1, k2, k3⟩ := vx_keep h0 e1 hS (fun _ _ h => h) (fun _ h => h) hL hF
      obtain ⟨t2, a1, b1⟩ := kk r rfl T'.heap (locs ++ L) ⟨by rw [e1]; exact hR, k3, fun h => by rw [e1]; exact hsz h⟩ T' rfl X'
      exact ⟨t2, st t2 a1, b1⟩
  · cases o with
    | inl r => exact hq.elim
    | inr E =>
      obtain ⟨hv, hE4, hR, hsz, hF⟩ := hq
      subst hv
      obtain ⟨k1, k2, k3⟩ := vx_keep h0 e1 hS (fun _ _ h => h) (fun _ h => h) hL hF
      obtain ⟨t2, a1, b1⟩ := kx E rfl hE4 T'.heap (locs ++ L) q ce ⟨by rw [e1]; exact hR, k3, fun h => by rw [e1]; exact hsz h⟩ (by rw [e1]; exact hce) hcv hcl T' rfl X'
      exact ⟨t2, st.trans a1, b1⟩
/-- what a callee is given -/
theorem xgive {xs : List Int32} {σ : XW} (hI : xI g D xs s) (hH : xH g D xcl σ s H locs) {av : List Value} {a : Array Value} (ha : a = (xst g.1 g.2.1 av).toArray) (U : State) (hU : U.heap = H) (hW : s.WarmedH U.vm) : xPc g D xs av σ a U :=
  ⟨ha, hI.move hW (by rw [hU]; exact hH.2.1.1) (fun q h1 h2 => by rw [hU]; exact hH.2.1.2.1 q h1 h2), by rw [hU]; exact hH.1, fun h => by rw [hU]; exact hH.2.2 h⟩
end XGO
/-- a body that returns or throws, by what the class's natives say of the method alone -/
theorem xofW {l : Launch} {y : MethodName} {w : Cond} {rm : Room} {Pc : Array Value → State → Prop} {Qc : Array Value → State → Outcome → State → Prop} {XC : String → State → State → Prop} {mc ms : Nat} {free : Addr → Prop} {cc : ByteArray} {maxL : Nat} {ret : Option FieldType} {hh : List (Nat × Nat × Nat × Nat)}
    (hy : plainFor y = true) (hw : (w = Cond.code y cc maxL ret ∧ hh = []) ∨ w = Cond.codeWith y cc maxL ret hh)
    (body : ∀ p e s m args below meth c s₁, BodyLoose p l y (headSpec [w] rm) cc maxL ret e s m args below meth c s₁ → c.maxLocals = maxL → c.exceptionTable.toList = tableOf hh → Pc args s →
      W p l e (headSpec [w] rm).room s m args below meth c s.heap [] 0 0 (vx_MQ below Qc XC args s mc ms free) (entryFrame m args maxL)) : vx_Met l y [w] rm Pc Qc XC mc ms free := by
  refine MetFree.of_bodySF (code := cc) (maxLocals := maxL) (ret := ret) hy ?_ ?_
  · intro args s m h hn
    rcases hw with ⟨hw, -⟩ | hw
    · obtain ⟨meth, c, h1, h2, h3, h4, h5, h6, -, -⟩ := Cond.code_spec hn (atoms_spec (ws := [w]) h _ (by rw [hw]; exact List.mem_cons_self))
      exact ⟨meth, c, h1, h2, h3, h4, h5, h6⟩
    · obtain ⟨m9, meth, c, hn9, h1, h2, h3, h4, -, h5, h6, -⟩ := Cond.codeWith_spec (atoms_spec (ws := [w]) h _ (by rw [hw]; exact List.mem_cons_self))
      cases hn.symm.trans hn9
      exact ⟨meth, c, h1, h2, h3, h4, h5, h6⟩
  · intro p e s m args below meth c s₁ B hml hP _
    have hh0 : s₁.heap = s.heap := by rw [B.state]; rfl
    have ht : c.exceptionTable.toList = tableOf hh := by
      rcases hw with ⟨hw, hh0⟩ | hw
      · subst hh0
        obtain ⟨meth9, c9, h1, h2, -, -, -, -, h7, -⟩ := Cond.code_spec B.named (atoms_spec (ws := [w]) B.pre _ (by rw [hw]; exact List.mem_cons_self))
        cases Option.some.inj (h1.symm.trans B.method)
        cases Option.some.inj (h2.symm.trans (Stand.of_body B).code)
        rw [Array.isEmpty_iff.mp h7]
        rfl
      · exact vx_table (x := y) B (atoms_spec (ws := [w]) B.pre (Cond.codeWith y cc maxL ret hh) (by rw [hw]; exact List.mem_cons_self))
    obtain ⟨t, a1, o, b1, b2, b3⟩ := body p e s m args below meth c s₁ B hml ht hP s₁ hh0 (Stand.of_body B)
    exact ⟨t, o, a1, b1, b2, b3⟩
end
noncomputable section
/-! 'throw new E(text)' where E's own constructor links its superclass's by another entry than the kit's row has it (as 'vx_throwS' of the kit, with the first link left open). -/
/-- the words: as the kit's, but the first pass from X to Y by the entry ix of the bytes rx -/
def xow (own : String) (ic : Nat) (X : String) (ix : Nat) (rx : ByteArray) (Y : String) (r : List String) : List Cond :=
  Bundle.throwableAtoms ++ Bundle.throwableSAtoms ++ (Bundle.passSAtoms X Y ix rx ++ Bundle.chainSAtoms Y r) ++
  [.methodLink own ic (Bundle.initS X), .instantiable X 6, .castable X X, .selects X Bundle.tFill0 Bundle.tFill0, .selects X Bundle.tFill Bundle.tFill,
   .lays X Bundle.tN "cause" "Ljava/lang/Throwable;", .lays X Bundle.tN "stackTrace" Bundle.steD, .lays X Bundle.tN "suppressedExceptions" Bundle.listD, .lays X Bundle.tN "detailMessage" "Ljava/lang/String;",
   .isRef (.static Bundle.tN "UNASSIGNED_STACK" Bundle.steD), .isRef (.static Bundle.tN "SUPPRESSED_SENTINEL" Bundle.listD),
   .fieldLink Bundle.tN 198 Bundle.tN "backtrace" "Ljava/lang/Object;", .lays Bundle.tN Bundle.tN "backtrace" "Ljava/lang/Object;", .lays X Bundle.tN "backtrace" "Ljava/lang/Object;"]
section XNS
variable {p : Program} {l : Launch} {e : Env} {R : Room} {s : State} {m₀ : MethodId} {args : Array Value} {below : List Frame} {meth : Method} {c : Code} {W : State} {locs : List Loc} {cells slots : Nat}
set_option maxHeartbeats 1000000 in
theorem xctorX (X : Stand p l e R s m₀ args below meth c W locs cells slots) (hexec : p.tables.exec = Jvm.exec) (htr : e.platform.stackTraces = false) {own cls Y0 : String} {r0 : List String} {ic ix : Nat} {rx : ByteArray}
    (x0 : decode rx 0 = .ok (.aload_n 0, 1)) (x1 : decode rx 1 = .ok (.aload_n 1, 1)) (x2 : decode rx 2 = .ok (.invokespecial ix, 3)) (x5 : decode rx 5 = .ok (.return_, 1))
    (hown : s.vm.findClass own = some m₀.cls) (hcls : Bundle.fit cls = true) (hY0 : Bundle.fit Y0 = true) (hr0 : ∀ n ∈ r0, Bundle.fit n = true) (h : ∀ a ∈ xow own ic cls ix rx Y0 r0, a.before args s = true)
    (hlocs : ∀ x ∈ locs, ∀ cell, s.heap[x.base]? = some cell → cell.vm.isStatics = false)
    {a : Addr} {cX : ClassId} {kX : Class} (hfoundX : s.vm.findClass cls = some cX) (hkX : s.vm.classes[cX]? = some kX) (hcell : W.heap[a]? = some (freshCell cX kX)) (hnew : s.heap.size ≤ a) {msg : Value} (hmsg : msg.isRef = true)
    {g : JFrame} (hg : g.method = m₀) (hsize : g.locals.size = c.maxLocals) (hlocked : g.locked = none) (hentered : g.entered = []) {rest : List Value} (hstack : g.stack = msg :: .ref a :: .ref a :: rest)
    (hd6 : decode c.code g.pc = .ok (.invokespecial ic, 3)) (hd9 : decode c.code (g.pc + 3) = .ok (.athrow, 1)) (hout : ∀ x ∈ c.exceptionTable.toList, covers x (g.pc + 3) = false)
    (hRframes : r0.length + 4 < R.frames) (hRlocals : 2 * g.monitorRoom + ((Value.ref a :: rest).map fun v => v.category).sum + (13 * (r0.length + 2) + 42) ≤ R.locals) (hlocks : meth.locks = false) :
    ∃ U : State, Steps p.tables e below (W.setTop g) U ∧ U.status = .running ∧ Ended U below (.threw a) ∧ s.WarmedH U.vm ∧ s.sameButNew ({ U with vm := s.vm } : State) locs cells slots ∧ ∃ ce, U.heap[a]? = some ce ∧ ce.vm = .none ∧ s.vm.findClass cls = some ce.cls := by
  have hpl : e.platform.magicAccessors = ({} : Platform).magicAccessors := by rw [X.admits.platform]
  have a' : ∀ x, x ∈ xow own ic cls ix rx Y0 r0 → x.holds args s none s [] = true := fun x hx => h x hx
  obtain ⟨T, Z0, L, -, Y⟩ := ThrowableC.of_atoms (args := args) (by rw [X.admits.platform]) (by rw [X.admits.platform]) hpl (fun x hx => h x (by simp [xow, hx]))
  obtain ⟨Z, M, LZ, LM, hnZ⟩ := Init0T.ofS_atoms (args := args) hpl L Y (fun x hx => h x (by simp [xow, hx]))
  obtain ⟨P1, L1, hP1m, hs1⟩ := PassC.ofS_atoms (args := args) (s := s) hpl (X := cls) (Y := Y0) (Bundle.fit_spec hcls).1 (Bundle.fit_spec hY0).2 x0 x1 x2 x5 (fun x hx => h x (by simp [xow, hx]))
  obtain ⟨P2, Ps, hlen, L2, hL, hP2m, hlink1, hlink⟩ := Bundle.chainS (args := args) hpl hnZ r0 Y0 hY0 hr0 (fun x hx => h x (by simp [xow, hx]))
  have hfound : s.vm.findClass cls = some P1.m.cls := findClass_of_methodNamed hP1m
  cases Option.some.inj (hfoundX.symm.trans hfound)
  obtain ⟨c1, kX', hc1, hk, hord, -, -, hn6⟩ := Cond.instantiable_spec (a' (.instantiable cls 6) (by simp [xow]))
  cases Option.some.inj (hc1.symm.trans hfound)
  cases Option.some.inj (hkX.symm.trans hk)
  have hsel0 : selectMethod e.platform s.vm P1.m.cls T.fill0 = .method T.fill0 := by
    obtain ⟨c2, r2, m2, q1, q2, q3, q4, -⟩ := Cond.selects_spec (a' (.selects cls Bundle.tFill0 Bundle.tFill0) (by simp [xow]))
    cases Option.some.inj (q1.symm.trans hfound)
    cases Option.some.inj (q2.symm.trans (State.methodFound?_of_named Y.fill0 (by decide)))
    cases Option.some.inj (q3.symm.trans Y.fill0)
    rw [Launch.admits_selectMethod X.admits]; exact q4
  have hselF : selectMethod e.platform s.vm P1.m.cls T.fill = .method T.fill := by
    obtain ⟨c2, r2, m2, q1, q2, q3, q4, -⟩ := Cond.selects_spec (a' (.selects cls Bundle.tFill Bundle.tFill) (by simp [xow]))
    cases Option.some.inj (q1.symm.trans hfound)
    cases Option.some.inj (q2.symm.trans (State.methodFound?_of_named Y.fill (by decide)))
    cases Option.some.inj (q3.symm.trans Y.fill)
    rw [Launch.admits_selectMethod X.admits]; exact q4
  obtain ⟨cellS0, hcS0, hiss⟩ := Y.statics
  obtain ⟨u0, hu0⟩ := Cond.staticRefV Y.unassigned L.unassignedStatic L.statics hcS0 hiss (a' (.isRef (.static Bundle.tN "UNASSIGNED_STACK" Bundle.steD)) (by simp [xow]))
  obtain ⟨sen, hsen⟩ := Cond.staticRefV Y.sentinel L.sentinelStatic L.statics hcS0 hiss (a' (.isRef (.static Bundle.tN "SUPPRESSED_SENTINEL" Bundle.listD)) (by simp [xow]))
  obtain ⟨ci198, i198, fB, hk198, hg198, ha198, hsB, -, hnB, htB, hffB⟩ := Cond.ownField (t := .object "java/lang/Object") Y.found L.cls (by decide +kernel) (a' (.fieldLink Bundle.tN 198 Bundle.tN "backtrace" "Ljava/lang/Object;") (by simp [xow])) (a' (.lays Bundle.tN Bundle.tN "backtrace" "Ljava/lang/Object;") (by simp [xow])) e.platform hpl
  obtain ⟨cellS, hcS', heS, -, hkeep⟩ := X.same.2.2.2.2.2 T.aS cellS0 hcS0
  have hcellS : W.heap[T.aS]? = some cellS := hcS'
  have hout' : ∀ i, (⟨T.aS, i⟩ : Loc) ∉ locs := fun i hmem => by
    have := hlocs _ hmem cellS0 hcS0
    rw [hiss] at this; cases this
  have hknownS : cellS.vm ≠ .unknown := by
    rw [heS]; intro hu
    rw [show cellS0.vm = .unknown from hu] at hiss
    cases hiss
  have hneS : T.aS ≠ a := Nat.ne_of_lt (Nat.lt_of_lt_of_le (Array.getElem?_eq_some_iff.mp hcS0).1 hnew)
  obtain ⟨iM, hffM⟩ := Y.msg
  obtain ⟨tyC, dC, hdC, hdnC⟩ := Cond.laysAt hfound hk Y.cause (a' (.lays cls Bundle.tN "cause" "Ljava/lang/Throwable;") (by simp [xow]))
  obtain ⟨tyS, dS, hdS, hdnS⟩ := Cond.laysAt hfound hk Y.stack (a' (.lays cls Bundle.tN "stackTrace" Bundle.steD) (by simp [xow]))
  obtain ⟨tyP, dP, hdP, hdnP⟩ := Cond.laysAt hfound hk Y.supp (a' (.lays cls Bundle.tN "suppressedExceptions" Bundle.listD) (by simp [xow]))
  obtain ⟨tyM, dM, hdM, hdnM⟩ := Cond.laysAt hfound hk hffM (a' (.lays cls Bundle.tN "detailMessage" "Ljava/lang/String;") (by simp [xow]))
  obtain ⟨tyB, dB, hdB, hdnB⟩ := Cond.laysAt hfound hk hffB (a' (.lays cls Bundle.tN "backtrace" "Ljava/lang/Object;") (by simp [xow]))
  have bC := Cond.laysApart hdB hdC hdnB hdnC (by rw [hnB, Y.causeName]; decide)
  have bS := Cond.laysApart hdB hdS hdnB hdnS (by rw [hnB, Y.stackName]; decide)
  have bP := Cond.laysApart hdB hdP hdnB hdnP (by rw [hnB, Y.suppName]; decide)
  have hskip : SkipFacts T e.platform s (fun u => u) u0 ((preparedCellV T.toThrowableT (freshCell P1.m.cls kX) a u0 sen).withEntry W.cur) :=
    ⟨{ ci198 := ci198, i198 := i198, fBack := fB }, ⟨hk198, hg198, ha198, hsB⟩, by
      have := fresh_default (c := P1.m.cls) tyB
      rw [htB] at this
      simpa [preparedCellV, Cell.setSlot, Cell.withEntry, Array.getElem?_setIfInBounds, bC, bS, bP, bC.symm, bS.symm, bP.symm, defaultValue] using this, fun _ _ => rfl⟩
  obtain ⟨tm, methC, cdC, kC, vm₁, hnC, -, -, -, -, -, -, -, hW₁, st1⟩ := Steps.initColdS (tb := p.tables) (e := e) (below := below) (s := s) (U := W) X.here hexec X.warmed hpl hown (t := Bundle.initS cls) rfl rfl (Bundle.fit_spec hcls).2
    (a' (.methodLink own ic (Bundle.initS cls)) (by simp [xow])) (h (.instanceMethod (Bundle.initS cls)) (by simp [xow, Bundle.passSAtoms])) (bytes := rx) (maxL := 2) (h (.code (Bundle.initS cls) rx 2 none) (by simp [xow, Bundle.passSAtoms]))
    (f := g) hg (a := a) (msg := msg) (rest := .ref a :: rest) hstack hd6
  cases Option.some.inj (hnC.symm.trans hP1m)
  have X₁ := X.noted hW₁
  obtain ⟨vm₂, X₂, st2⟩ := X₁.ctorMessageOffV hexec (g := { g with stack := .ref a :: rest }) hg hsize T L Z LZ M LM (P1 :: P2 :: Ps)
    (fun P hP => by
      rcases List.mem_cons.mp hP with rfl | hP
      · exact L1
      · rcases List.mem_cons.mp hP with rfl | hP
        · exact L2
        · exact hL P hP) ⟨Option.some.inj (hs1.symm.trans hP2m), hlink1, hlink⟩ (u0 := u0) (sen := sen) (self := a) hmsg (cell := freshCell P1.m.cls kX) (cellS := cellS)
    hcell (fun _ => by simp) (by simp) rfl rfl hsel0 hselF hcellS hneS hknownS (by rw [hkeep _ (hout' _)]; exact hu0) (by rw [hkeep _ (hout' _)]; exact hsen)
    (Takes.of_laid hk hord tyC (by rw [Y.causeType]; rfl)) (Takes.of_laid hk hord tyS (by rw [Y.stackType]; exact fits_refV_array _ u0)) (Takes.of_laid hk hord tyP (by rw [Y.suppType]; exact fits_refV_object _ sen))
    (Takes.of_laid hk hord tyM (by rw [Y.msgType]; exact fits_refV_object _ ⟨msg, hmsg⟩)) Y.objLocals hskip htr [] hd6
    (by simp only [List.length_cons, hlen]; omega) (by simp only [List.length_cons, hlen]; exact hRlocals)
  obtain ⟨hwalk, hrun, hended, hWU, hsame⟩ := X₂.athrowLeaves hexec (g := { g with stack := .ref a :: rest, pc := g.pc + 3 }) hg hlocked hentered hout (a := a) (rest := rest) rfl hd9
  have hlt : a < ((W.setVm vm₁).setVm vm₂).heap.size := (Array.getElem?_eq_some_iff.mp hcell).1
  have hU := heapAt_setCell_self (s := (W.setVm vm₁).setVm vm₂) (plainBareV T.toThrowableT (freshCell P1.m.cls kX) a u0 sen msg) hlt
  refine ⟨_, st1 _ (fun acts => ?_), hrun, hended, hWU, hsame.weaken (fun y hy hlt' => ?_) (Nat.le_refl _) (Nat.le_refl _), _, hU, rfl, hfound⟩
  · rw [doInvoke_state]
    exact st2 _ hwalk
  · rcases List.mem_append.mp hy with h1 | h1
    · exact h1
    · exfalso
      have hb : y.base = a := by
        simp only [List.mem_cons, List.not_mem_nil, or_false] at h1
        rcases h1 with rfl | rfl | rfl | rfl | rfl <;> rfl
      rw [hb] at hlt'
      exact Nat.not_lt.mpr hnew hlt'
end XNS
section XTX
variable {p : Program} {l : Launch} {e : Env} {R : Room} {s : State} {m : MethodId} {args : Array Value} {below : List Frame} {meth : Method} {c : Code} {H : Heap} {locs : List Loc} {cells slots : Nat}
variable {free : Addr → Prop} {ls : Array Slot} {rest : List Value} {Qc : Array Value → State → Outcome → State → Prop} {XC : String → State → State → Prop}
theorem xthrowX {cc : ByteArray} {pc : Nat} (hexec : p.tables.exec = Jvm.exec) (hb : c.code = cc) (hl : l.stackTraces = false) {own cls text : String} {Y0 : String} {r0 : List String} {ik is ic ix mc ms sa : Nat} {rx : ByteArray} {A : Nat → Prop}
    (hown : s.vm.findClass own = some m.cls) (x0 : decode rx 0 = .ok (.aload_n 0, 1)) (x1 : decode rx 1 = .ok (.aload_n 1, 1)) (x2 : decode rx 2 = .ok (.invokespecial ix, 3)) (x5 : decode rx 5 = .ok (.return_, 1)) (hcls : Bundle.fit cls = true) (hY0 : Bundle.fit Y0 = true) (hr0 : ∀ n ∈ r0, Bundle.fit n = true)
    (hk : (Cond.classLink own ik cls).before args s = true) (hini : (Cond.initialized cls).before args s = true) (hstr : vk_R own is text sa s) (hat : ∀ w ∈ (xow own ic cls ix rx Y0 r0).filter vx_no, w.before args s = true)
    (hgood : ∀ w ∈ Cond.classLink own ik cls :: Cond.initialized cls :: (xow own ic cls ix rx Y0 r0).filter vx_no, vx_ot w = true)
    (hU : vx_Zq Bundle.tN "UNASSIGNED_STACK" Bundle.steD A s s.heap) (hN : vx_Zq Bundle.tN "SUPPRESSED_SENTINEL" Bundle.listD A s s.heap) (hS : va_S A s.heap H locs) (hsize : ls.size = c.maxLocals)
    (d0 : decode cc pc = .ok (.new ik, 3)) (d3 : decode cc (pc + 3) = .ok (.dup, 1)) (d4 : decode cc (pc + 4) = .ok (.ldc_w is, 3)) (d7 : decode cc (pc + 7) = .ok (.invokespecial ic, 3)) (d10 : decode cc (pc + 10) = .ok (.athrow, 1))
    (hout : ∀ x ∈ c.exceptionTable.toList, covers x (pc + 10) = false)
    (hRframes : r0.length + 4 < R.frames) (hRlocals : (rest.map fun v => v.category).sum + (13 * (r0.length + 2) + 43) ≤ R.locals) (hRcells : cells + 1 ≤ R.cells) (hRslots : slots + 6 ≤ R.slots) (hlocks : meth.locks = false)
    (hx : ∀ t : State, s.vm.Alike t.vm → H.size ≤ t.heap.size → (∀ q : Nat, q < H.size → t.heap[q]? = H[q]?) → XC cls s t)
    (hf : ∀ z ∈ locs, free z.base) (hc : cells + 1 ≤ mc) (hs : slots + 6 ≤ ms) :
    W p l e R s m args below meth c H locs cells slots (vx_MQ below Qc XC args s mc ms free) (F0 m pc ls rest) := by
  intro T hT X
  have htr : e.platform.stackTraces = false := (show e.platform.stackTraces = l.stackTraces by rw [X.admits.platform]).trans hl
  have Y := vx_rebase X (R' := { frames := R.frames, locals := R.locals, cells := 1, slots := 6 }) (Nat.le_refl _) (Nat.le_refl _) hRcells hRslots
  obtain ⟨s', hA⟩ : ∃ z, z = (T.setVm s.vm).setFrames (.invoking m args :: below) := ⟨_, rfl⟩
  rw [← hA] at Y
  have hvm : s'.vm = s.vm := by rw [hA]; rfl
  have hhp : s'.heap = H := by rw [hA]; exact hT
  have hW0 : s.WarmedH s'.vm := by rw [hvm]; exact State.WarmedH.refl s
  have hat' : ∀ w ∈ (xow own ic cls ix rx Y0 r0).filter vx_no, w.before args s' = true := fun w hw => vx_ot_at hW0 hvm.symm (hgood w (List.mem_cons_of_mem _ (List.mem_cons_of_mem _ hw))) (hat w hw)
  have hk' : (Cond.classLink own ik cls).before args s' = true := vx_ot_at hW0 hvm.symm (hgood _ List.mem_cons_self) hk
  have hini' : (Cond.initialized cls).before args s' = true := vx_ot_at hW0 hvm.symm (hgood _ (List.mem_cons_of_mem _ List.mem_cons_self)) hini
  have hU' : vx_Zq Bundle.tN "UNASSIGNED_STACK" Bundle.steD A s' s'.heap := by rw [hhp]; exact vx_Zq.moved hW0.alike (hU.kept hS.2.1)
  have hN' : vx_Zq Bundle.tN "SUPPRESSED_SENTINEL" Bundle.listD A s' s'.heap := by rw [hhp]; exact vx_Zq.moved hW0.alike (hN.kept hS.2.1)
  have h : ∀ w ∈ xow own ic cls ix rx Y0 r0, w.before args s' = true := vx_own hat' (vx_isRefq hU'.1) (vx_isRefq hN'.1) hU'.2.word hN'.2.word
  have hown' : s'.vm.findClass own = some m.cls := by rw [hvm]; exact hown
  have hins : (Cond.instantiable cls 6).before args s' = true := h _ (by simp [xow])
  obtain ⟨vm₁, cX, kX, hfX, hkX, -, -, X₁, st1⟩ := Y.newCold hexec (own := own) (C := cls) (index := ik) (n := 6) hown' hk' hins hini'
    (g := F0 m pc ls rest) rfl (by rw [hb]; exact d0) (Nat.le_refl _) (Nat.le_refl _)
  generalize hT1 : (T.setVm vm₁).pushCell { cls := cX, slots := kX.instanceTypes.map defaultValue, vm := .none } = T1 at X₁ st1
  have hcat : (Value.ref T.heap.size).category = 1 := rfl
  have hcellA : T1.heap[T.heap.size]? = some (freshCell cX kX) := by rw [← hT1]; exact State.heap_pushCell_size _ _
  have d3' : decode c.code (pc + 3) = .ok (.dup, 1) := by rw [hb]; exact d3
  have d4' : decode c.code (pc + 4) = .ok (.ldc_w is, 3) := by rw [hb]; exact d4
  have hstr' : vk_R own is text sa s' := vk_R.warm hW0 hstr
  obtain ⟨U, hsteps, hrun, hend, hW, hsame, ce, hce, hOv, hOc⟩ := xctorX X₁ hexec htr (own := own) (cls := cls) (Y0 := Y0) (r0 := r0) (ic := ic) x0 x1 x2 x5 hown' hcls hY0 hr0 h (fun x hx => nomatch hx) hfX hkX hcellA (by rw [hhp, hT]; exact Nat.le_refl _) (msg := .ref sa) rfl
    (g := { method := m, pc := pc + 7, locals := ls, stack := .ref sa :: .ref T.heap.size :: .ref T.heap.size :: rest, locked := none }) rfl hsize rfl rfl (rest := rest) rfl
    (by rw [hb]; exact d7) (by rw [hb]; exact d10) hout hRframes (by simp only [List.map_cons, List.sum_cons, hcat]; omega) hlocks
  obtain ⟨f1, f2⟩ := vx_frame hsame
  rw [hhp] at f1 f2
  have hWs : s.WarmedH U.vm := State.WarmedH.trans hW0 hW
  have hcl : s.vm.findClass cls = some ce.cls := by
    have h9 := hOc
    rw [hvm] at h9
    exact h9
  have hall : s.sameButNew ({ U with vm := s.vm } : State) locs mc ms := by
    subst hA
    obtain ⟨e1, e2⟩ := hsame
    rw [State.setFrames_setFrames] at e1
    have h2 : (T.setVm s.vm).sameButNew ({ U with vm := s.vm } : State) [] (0 + 1) (0 + 6) := ⟨e1, e2⟩
    have h3 := X.same.trans h2
    rw [List.append_nil] at h3
    exact h3.mono hc hs
  refine ⟨U, ?_, .threw T.heap.size, hrun, hend, Or.inr ⟨T.heap.size, rfl, cls, ce, locs, hx U hWs.alike f1 (fun q hq => f2 q hq (fun z hz => nomatch hz)), hce, hOv, hcl, hWs, hall, hf⟩⟩
  refine st1 _ ?_
  show Steps p.tables e below (T1.setTop { method := m, pc := pc + 3, locals := ls, stack := .ref T.heap.size :: rest, locked := none }) _
  jvm_step X₁.here [X₁.here.top, hexec, d3', Value.category]
  exact X₁.ldcStringW hexec (own := own) (text := text) (index := is) (a := sa) hown' hstr'.1 hstr'.2
    (g := { method := m, pc := pc + 4, locals := ls, stack := .ref T.heap.size :: .ref T.heap.size :: rest, locked := none }) rfl d4' _ hsteps
end XTX
end
noncomputable section
/-! One step of the machine of numbers is a step of the JVM. -/
theorem xent_at {k pc : Nat} {e : XEn} (h : xcode k pc = some e) : xent k pc e = true ∧ (xlen2 e.1 e.2.1 = true ∧ xthc k pc e = true) := by
  have h1 := xchk_at h
  unfold xchk at h1
  rw [Bool.and_eq_true, Bool.and_eq_true] at h1
  exact h1
theorem xent_dec {k pc : Nat} {e : XEn} (h : xcode k pc = some e) : decode (xB k) pc = .ok (e.1, e.2.1) ∧ xlen e.1 e.2.1 = true ∧ (∀ o, xoff e.1 = some o → (pc : Int) + o = (e.2.2.1 : Int)) ∧ xlnk k e = true := by
  have h1 := (xent_at h).1
  unfold xent at h1
  rw [Bool.and_eq_true, Bool.and_eq_true, Bool.and_eq_true] at h1
  refine ⟨of_decide_eq_true h1.1, h1.2.1, fun o ho => ?_, h1.2.2.2⟩
  have h2 := h1.2.2.1
  rw [ho] at h2
  exact of_decide_eq_true h2
def xFx (p : Program) (l : Launch) (s : State) (m : MethodId) (meth : Method) (c : Code) (g : XG) (D : va_G) (xs : List Int32) (k : Nat) : Prop :=
  p.tables.exec = Jvm.exec ∧ c.code = xB k ∧ c.maxLocals = xNl k ∧ s.vm.findClass (xcn (xK k)) = some m.cls ∧ meth.name = (xY k).name ∧ meth.locks = false ∧ c.exceptionTable.toList = tableOf ((xHh k).map (fun h => (h.1, h.2.1, h.2.2.1, h.2.2.2.1))) ∧ xI g D xs s ∧ l.stackTraces = false ∧ meth.sig.returnType = xRet k
def xRec (l : Launch) (g : XG) (D : va_G) (xs : List Int32) (rec : Nat → List Value → XW → Option (XO × XW)) : Prop := ∀ a av σ o σ', a < 256 → rec a av σ = some (o, σ') → xMet l g D xs a av σ o σ'
theorem xhh_f : ∀ k, k < 257 → ∀ h ∈ xHh k, xK k = 12 ∧ h.2.2.2.1 ≠ 0 ∧ h.2.2.2.2 < 4 ∧ (h.2.2.2.1, h.2.2.2.2) ∈ [(13, 0), (15, 1), (25, 2), (81, 3)] := by decide +kernel
set_option maxRecDepth 100000 in
theorem xhh_w : ∀ q ∈ [(13, 0), (15, 1), (25, 2), (81, 3)], (Cond.classLink (xcn 12) q.1 (xexc q.2) ∈ lw_tbl ∧ xgw (Cond.classLink (xcn 12) q.1 (xexc q.2)) = true) ∧ (Cond.castable (xexc q.2) (xexc q.2) ∈ lw_tbl ∧ xgw (Cond.castable (xexc q.2) (xexc q.2)) = true) := by decide +kernel
section XST
variable {p : Program} {l : Launch} {e : Env} {s : State} {m : MethodId} {args : Array Value} {below : List Frame} {meth : Method} {c : Code} {H : Heap} {locs : List Loc} {cells slots : Nat} {Q : State → Prop}
variable {D : va_G} {g : XG} {xs : List Int32} {k : Nat}
def xWc (p : Program) (l : Launch) (e : Env) (s : State) (m : MethodId) (args : Array Value) (below : List Frame) (meth : Method) (c : Code) (Q : State → Prop) (g : XG) (D : va_G) (k : Nat) (z : XC) : Prop :=
  ∀ (lsA : Array Slot) (H : Heap) (locs : List Loc), lv_has lsA (xNl k) (xls g.1 g.2.1 z.2.1) → xH g D xcl z.2.2.2.2.2 s H locs → W p l e (xrm k) s m args below meth c H locs z.2.2.2.1 z.2.2.2.2.1 Q (F0 m z.1 lsA (xst g.1 g.2.1 z.2.2.1))
theorem xcl_c {a : Nat} (h : a < 12) : xcl[a]? = some ((xcT a).1, (xcT a).2.1, (xcT a).2.2) := xcl_at a h
theorem xts {s : State} (hI : xI g D xs s) (args : Array Value) : ∀ w ∈ lw_tbl.filter xgw, w.before args s = true := fun w hw => by
  obtain ⟨h1, h2⟩ := List.mem_filter.mp hw
  exact hI.1 w h1 h2 args
theorem xin_cl {a : Nat} (h : a < 12) : ∀ w ∈ u_ws (xcT a).1 (xcT a).2.1 (xcT a).2.2, w ∈ lw_tbl.filter xgw := fun w hw => List.mem_filter.mpr (xcl_in a h w hw)
/-- a link of a field entry -/
theorem xfl_at {c ix a b : Nat} {n : Bool} (h : (c, ix, a, b, n) ∈ xfl) {s : State} (hI : xI g D xs s) (args : Array Value) : a < 12 ∧ b < (xcT a).2.2 ∧ (if n = true then (Cond.fieldLinkNest (xcn c) ix ((xcT a).2.1 b).1 ((xcT a).2.1 b).2.1 ((xcT a).2.1 b).2.2.1 "RoverLocator").before args s = true else (Cond.fieldLink (xcn c) ix ((xcT a).2.1 b).1 ((xcT a).2.1 b).2.1 ((xcT a).2.1 b).2.2.1).before args s = true) := by
  obtain ⟨h1, h2⟩ := xfl_b _ h
  obtain ⟨h3, h4⟩ := xfl_w _ h
  refine ⟨h1, h2, ?_⟩
  have h5 := hI.1 _ h3 h4 args
  cases n with
  | true => rw [if_pos rfl]; exact h5
  | false => rw [if_neg (by decide)]; exact h5
theorem xhnd_ok {pc E h : Nat} : ∀ {hs : List (Nat × Nat × Nat × Nat × Nat)}, xhnd hs pc E = some h → ∃ pre x suf, hs = pre ++ x :: suf ∧ x.2.2.1 = h ∧ x.1 ≤ pc ∧ pc < x.2.1 ∧ x.2.2.2.2 = E ∧ ∀ y ∈ pre, ¬ (y.1 ≤ pc ∧ pc < y.2.1) ∨ y.2.2.2.2 ≠ E := by
  intro hs
  induction hs with
  | nil => intro h; cases h
  | cons q r ih =>
    intro hq
    unfold xhnd at hq
    cases hb : (Nat.ble q.1 pc && (Nat.blt pc q.2.1 && Nat.beq q.2.2.2.2 E)) with
    | true =>
      rw [hb] at hq
      rw [Bool.and_eq_true, Bool.and_eq_true] at hb
      exact ⟨[], q, r, rfl, Option.some.inj hq, Nat.le_of_ble_eq_true hb.1, Nat.le_of_ble_eq_true hb.2.1, Nat.eq_of_beq_eq_true hb.2.2, fun y hy => by cases hy⟩
    | false =>
      rw [hb] at hq
      obtain ⟨pre, x, suf, h1, h2, h3, h4, h5, h6⟩ := ih hq
      refine ⟨q :: pre, x, suf, by rw [h1]; rfl, h2, h3, h4, h5, fun y hy => ?_⟩
      rcases List.mem_cons.mp hy with hy | hy
      · subst hy
        rw [Bool.and_eq_false_iff, Bool.and_eq_false_iff] at hb
        rcases hb with hb | hb | hb
        · exact Or.inl (fun z => by rw [Nat.ble_eq_true_of_le z.1] at hb; cases hb)
        · exact Or.inl (fun z => by
            have : Nat.blt pc y.2.1 = true := Nat.ble_eq_true_of_le z.2
            rw [this] at hb; cases hb)
        · exact Or.inr (fun z => by rw [z, Nat.beq_refl] at hb; cases hb)
      · exact h6 y hy
theorem xk1_ok (b0 b : Nat) (ls : XL) (j : Nat) : (xls b0 b ls).filter (fun q => !(q.1 == j) && !(q.1 + 1 == j && q.2.category == 2)) = xls b0 b (ls.filter (xk1 j)) := by
  unfold xls
  rw [xfm (q := xk1 j)]
  intro a
  simp only [xk1, xbeq, xrv_cat]
theorem xsplit_ok : ∀ (n : Nat) (st acc as rest : List Value), xsplit n st acc = some (as, rest) → ∃ tk, st = tk ++ rest ∧ as = tk.reverse ++ acc ∧ tk.length = n
  | 0, st, acc, as, rest, h => by
    cases h
    exact ⟨[], rfl, rfl, rfl⟩
  | n + 1, [], acc, as, rest, h => by cases h
  | n + 1, v :: st, acc, as, rest, h => by
    obtain ⟨tk, h1, h2, h3⟩ := xsplit_ok n st (v :: acc) as rest h
    exact ⟨v :: tk, by rw [h1]; rfl, by rw [h2]; simp, by rw [← h3]; rfl⟩
theorem xsplit_st {n : Nat} {st as rest : List Value} (b0 b : Nat) (h : xsplit n st [] = some (as, rest)) : xst b0 b st = (xst b0 b as).reverse ++ xst b0 b rest ∧ (xst b0 b as).length = n ∧ as.length = n := by
  obtain ⟨tk, h1, h2, h3⟩ := xsplit_ok n st [] as rest h
  rw [List.append_nil] at h2
  subst h1
  subst h2
  unfold xst
  rw [List.map_append, List.map_reverse, List.reverse_reverse]
  exact ⟨rfl, by simp [h3], by simp [h3]⟩
theorem xroom_ok {k a cu su : Nat} {rest : List Value} (h : xroom k a rest cu su = true) : xcat rest ≤ 8 ∧ xFr a + 1 ≤ xFr k ∧ 8 + (xNl a + 11) + xLo a ≤ xLo k ∧ cu + xMc a ≤ xMc k ∧ su + xMs a ≤ xMs k := by
  unfold xroom at h
  rw [Bool.and_eq_true, Bool.and_eq_true, Bool.and_eq_true, Bool.and_eq_true] at h
  exact ⟨Nat.le_of_ble_eq_true h.1, Nat.le_of_ble_eq_true h.2.1, Nat.le_of_ble_eq_true h.2.2.1, Nat.le_of_ble_eq_true h.2.2.2.1, Nat.le_of_ble_eq_true h.2.2.2.2⟩
theorem xwords (b0 b : Nat) {rest : List Value} {n : Nat} (h : xcat rest ≤ n) : ((xst b0 b rest).map fun v => v.category).sum ≤ n := by rw [xcat_eq, xcat_rv]; exact h
theorem xcn_T : ∀ a, a < 12 → xcn a = (xcT a).1 := by decide +kernel
theorem xcw_at {a : Nat} (ha : a < 256) : xcw a ∈ lw_tbl ∧ xgw (xcw a) = true := xall_w a (xall_in a ha)
theorem xcw_0 {a : Nat} (h : xHh a = []) : xcw a = Cond.code (xY a) (xB a) (xNl a) (xRet a) := by unfold xcw; rw [h]
theorem xcw_1 {a : Nat} (h : xHh a ≠ []) : xcw a = Cond.codeWith (xY a) (xB a) (xNl a) (xRet a) ((xHh a).map (fun h => (h.1, h.2.1, h.2.2.1, h.2.2.2.1))) := by
  unfold xcw
  cases hh : xHh a with
  | nil => exact absurd hh h
  | cons x r => rfl
theorem xcls {a : Nat} (ha : a < 257) : (xY a).cls = xcn (xK a) := (xm_f1 a ha).1
theorem xsig {a : Nat} (ha : a < 257) : ∀ sig, parseMethodDescriptor (xY a).desc = some sig → xNa a = sig.parameters.length := fun sig h => by
  have h1 := xm_f2 a ha
  rw [h] at h1
  exact (Option.some.inj h1).symm
theorem xini_at {a : Nat} (ha : a < 257) (hI : xI g D xs s) (args : Array Value) : (Cond.initialized (xY a).cls).before args s = true := by
  obtain ⟨h1, h2⟩ := xini_w _ (xini_k a ha)
  rw [xcls ha]
  exact hI.1 _ h1 h2 args
theorem xpay {a : Nat} (ha : a < 256) (hI : xI g D xs s) : ∀ w ∈ [xcw a], ∀ (a' : Array Value) (U : State), s.WarmedH U.vm → w.before a' U = true := fun w hw a' U hW => by
  rw [List.mem_singleton.mp hw]
  exact xgw_ok (xcw_at ha).2 hW (hI.1 _ (xcw_at ha).1 (xcw_at ha).2 #[])
/-- what a call site needs, but its link -/
theorem xcallB {a ix cu su : Nat} {rest : List Value} (ha : a < 256) (hh : xHh a = []) (hI : xI g D xs s) (hroom : xroom k a rest cu su = true) (hl : (Cond.methodLink (xcn (xK k)) ix (xY a)).before args s = true) :
    CallB (xrm k) s args (xcn (xK k)) ix (xY a) (xB a) (xNl a) (xRet a) [xcw a] (xrm a) (xMc a) (xMs a) (xNa a) := by
  obtain ⟨-, r2, r3, -, -⟩ := xroom_ok hroom
  have hm : Cond.code (xY a) (xB a) (xNl a) (xRet a) ∈ [xcw a] := by rw [xcw_0 hh]; exact List.mem_singleton.mpr rfl
  exact ⟨rfl, rfl, r2, r3, xpay ha hI, hm, by rw [← xcw_0 hh]; exact hI.1 _ (xcw_at ha).1 (xcw_at ha).2 args, xini_at (by omega) hI args, (xm_f1 a (by omega)).2, xsig (by omega), hl⟩
theorem xml_at {q : Nat × Nat × Nat} (h : q ∈ xml) (hI : xI g D xs s) (args : Array Value) : (Cond.methodLink (xcn q.1) q.2.1 (xY q.2.2)).before args s = true := hI.1 _ (xml_w q h).1 (xml_w q h).2 args
theorem x_runV {lsA : Array Slot} {σ σ' : XW} {o : XO} {a ix pc cu su q t : Nat} {as rest fs : List Value} (F : xFx p l s m meth c g D xs k) (hM : xMet l g D xs a (.ref q :: as) σ o σ') (ha : a ∈ xvm) (hml : (xK k, ix, a) ∈ xml) (hH : xH g D xcl σ s H locs) (hq : σ.2[q]? = some (t, fs)) (ht : t = xK a) (hn : (xst g.1 g.2.1 as).length = xNa a) (hroom : xroom k a rest cu su = true) (hsz : lsA.size = xNl k) (hdg : decode (xB k) pc = .ok (.invokevirtual ix, 3)) :
    vx_Run p l e (xrm k) s m args below meth c H locs cu su (xMc a) (xMs a) (F0 m pc lsA ((xst g.1 g.2.1 as).reverse ++ .ref (g.1 + q) :: xst g.1 g.2.1 rest)) (xst g.1 g.2.1 rest) (xQo g D o σ' (Value.ref (g.1 + q) :: xst g.1 g.2.1 as).toArray) (xXo g D o σ') (xA g) := by
  obtain ⟨hx, hb, hml', hown, -, -, -, hI, -, -⟩ := F
  obtain ⟨b1, b2, b3, b4⟩ := xmb.1 a ha
  obtain ⟨r1, -, -, r4, r5⟩ := xroom_ok hroom
  obtain ⟨i1, i2⟩ := xvm_w a ha
  obtain ⟨s1, s2⟩ := xvs_w a b4
  subst ht
  obtain ⟨cell, q1, q2, q3, -⟩ := hH.1.obj hq (by omega) (xcl_at _ b3)
  have hcl := (hI.2.1.1 _ _ (xcl_at _ b3)).2.1
  refine vx_runV (own := xcn (xK k)) (C := (xY a).cls) (bytes := xB a) (maxL := xNl a) (ret := xRet a) (n := xNa a) (Ts := lw_tbl.filter xgw) ⟨hx, hb, hml', hown, xts hI args⟩ hM ⟨xcallB b1 b2 hI hroom (xml_at hml hI args), hI.1 _ i1 i2 args, hI.1 _ s1 s2 args⟩ ⟨xPc_blind _ _ _ _ _, ⟨cell, q1, by rw [q3]; rfl, ?_⟩, fun U hU hW => xgive hI hH rfl U hU hW⟩ rfl hn hsz rfl (lv_room (xwords _ _ r1)) hdg ⟨r4, r5⟩
  rw [xcls (by omega), q2, xcn_T _ b3]
  exact hcl
theorem x_runI {lsA : Array Slot} {σ σ' : XW} {o : XO} {a ix pc cu su q : Nat} {as rest : List Value} (F : xFx p l s m meth c g D xs k) (hM : xMet l g D xs a (.ref q :: as) σ o σ') (ha : a ∈ xim) (hml : (xK k, ix, a) ∈ xml) (hH : xH g D xcl σ s H locs) (hn : (xst g.1 g.2.1 as).length = xNa a) (hroom : xroom k a rest cu su = true) (hsz : lsA.size = xNl k) (hdg : decode (xB k) pc = .ok (.invokespecial ix, 3)) :
    vx_Run p l e (xrm k) s m args below meth c H locs cu su (xMc a) (xMs a) (F0 m pc lsA ((xst g.1 g.2.1 as).reverse ++ .ref (g.1 + q) :: xst g.1 g.2.1 rest)) (xst g.1 g.2.1 rest) (xQo g D o σ' (Value.ref (g.1 + q) :: xst g.1 g.2.1 as).toArray) (xXo g D o σ') (xA g) := by
  obtain ⟨hx, hb, hml', hown, -, -, -, hI, -, -⟩ := F
  obtain ⟨b1, b2, b3, b4⟩ := xmb.2.2 a ha
  obtain ⟨r1, -, -, r4, r5⟩ := xroom_ok hroom
  obtain ⟨i1, i2⟩ := xim_w a ha
  have cb := xcallB (args := args) b1 b2 hI hroom (xml_at hml hI args)
  rw [b4] at cb
  exact vx_runI (own := xcn (xK k)) (bytes := xB a) (maxL := xNl a) (n := xNa a) (Ts := lw_tbl.filter xgw) ⟨hx, hb, hml', hown, xts hI args⟩ hM ⟨cb, b3, hI.1 _ i1 i2 args⟩ ⟨xPc_blind _ _ _ _ _, fun U hU hW => xgive hI hH rfl U hU hW⟩ rfl hn hsz rfl (lv_room (xwords _ _ r1)) hdg ⟨r4, r5⟩
theorem x_runIN {lsA : Array Slot} {σ σ' : XW} {o : XO} {a ix pc cu su q : Nat} {as rest : List Value} (F : xFx p l s m meth c g D xs k) (hM : xMet l g D xs a (.ref q :: as) σ o σ') (ha : a ∈ xim) (hml : (xK k, ix, a) ∈ xmn) (hH : xH g D xcl σ s H locs) (hn : (xst g.1 g.2.1 as).length = xNa a) (hroom : xroom k a rest cu su = true) (hsz : lsA.size = xNl k) (hdg : decode (xB k) pc = .ok (.invokespecial ix, 3)) :
    vx_Run p l e (xrm k) s m args below meth c H locs cu su (xMc a) (xMs a) (F0 m pc lsA ((xst g.1 g.2.1 as).reverse ++ .ref (g.1 + q) :: xst g.1 g.2.1 rest)) (xst g.1 g.2.1 rest) (xQo g D o σ' (Value.ref (g.1 + q) :: xst g.1 g.2.1 as).toArray) (xXo g D o σ') (xA g) := by
  obtain ⟨hx, hb, hml', hown, -, -, -, hI, -, -⟩ := F
  obtain ⟨b1, b2, b3, b4⟩ := xmb.2.2 a ha
  obtain ⟨r1, r2, r3, r4, r5⟩ := xroom_ok hroom
  obtain ⟨i1, i2⟩ := xim_w a ha
  have hm : Cond.code (xY a) (xB a) (xNl a) none ∈ [xcw a] := by rw [xcw_0 b2, b4]; exact List.mem_singleton.mpr rfl
  have hc0 : (Cond.code (xY a) (xB a) (xNl a) none).before args s = true := by
    have h9 := hI.1 _ (xcw_at b1).1 (xcw_at b1).2 args
    rw [xcw_0 b2, b4] at h9
    exact h9
  exact vx_runIN (own := xcn (xK k)) (bytes := xB a) (maxL := xNl a) (n := xNa a) (host := "RoverLocator") (Ts := lw_tbl.filter xgw) ⟨hx, hb, hml', hown, xts hI args⟩ hM ⟨⟨⟨rfl, rfl, r2, r3, xpay b1 hI, hm⟩, hc0, xini_at (by omega) hI args, (xm_f1 a (by omega)).2, xsig (by omega), hI.1 _ (xmn_w _ hml).1 (xmn_w _ hml).2 args⟩, b3, hI.1 _ i1 i2 args⟩ ⟨xPc_blind _ _ _ _ _, fun U hU hW => xgive hI hH rfl U hU hW⟩ rfl hn hsz rfl (lv_room (xwords _ _ r1)) hdg ⟨r4, r5⟩
theorem x_runS {lsA : Array Slot} {σ σ' : XW} {o : XO} {a ix pc cu su : Nat} {as rest : List Value} (F : xFx p l s m meth c g D xs k) (hM : xMet l g D xs a as σ o σ') (ha : a ∈ xsm) (hml : (xK k, ix, a) ∈ xml) (hH : xH g D xcl σ s H locs) (hn : (xst g.1 g.2.1 as).length = xNa a) (hroom : xroom k a rest cu su = true) (hsz : lsA.size = xNl k) (hdg : decode (xB k) pc = .ok (.invokestatic ix, 3)) :
    vx_Run p l e (xrm k) s m args below meth c H locs cu su (xMc a) (xMs a) (F0 m pc lsA ((xst g.1 g.2.1 as).reverse ++ xst g.1 g.2.1 rest)) (xst g.1 g.2.1 rest) (xQo g D o σ' (xst g.1 g.2.1 as).toArray) (xXo g D o σ') (xA g) := by
  obtain ⟨hx, hb, hml', hown, -, -, -, hI, -, -⟩ := F
  have b1 := xmb.2.1 a ha
  obtain ⟨r1, r2, r3, r4, r5⟩ := xroom_ok hroom
  obtain ⟨i1, i2⟩ := xsm_w a ha
  by_cases hh : xHh a = []
  · exact vx_runS (own := xcn (xK k)) (bytes := xB a) (maxL := xNl a) (ret := xRet a) (n := xNa a) (Ts := lw_tbl.filter xgw) ⟨hx, hb, hml', hown, xts hI args⟩ hM ⟨xcallB b1 hh hI hroom (xml_at hml hI args), hI.1 _ i1 i2 args⟩ ⟨xPc_blind _ _ _ _ _, fun U hU hW => xgive hI hH rfl U hU hW⟩ rfl hn hsz rfl (lv_room (xwords _ _ r1)) hdg ⟨r4, r5⟩
  · have hm : Cond.codeWith (xY a) (xB a) (xNl a) (xRet a) ((xHh a).map (fun h => (h.1, h.2.1, h.2.2.1, h.2.2.2.1))) ∈ [xcw a] := by rw [xcw_1 hh]; exact List.mem_singleton.mpr rfl
    have hc0 := hI.1 _ (xcw_at b1).1 (xcw_at b1).2 args
    rw [xcw_1 hh] at hc0
    exact vx_runSX (own := xcn (xK k)) (bytes := xB a) (maxL := xNl a) (ret := xRet a) (n := xNa a) (Ts := lw_tbl.filter xgw) ⟨hx, hb, hml', hown, xts hI args⟩ hM ⟨⟨rfl, rfl, r2, r3, xpay b1 hI, hm⟩, hc0, xini_at (by omega) hI args, (xm_f1 a (by omega)).2, xsig (by omega), xml_at hml hI args, hI.1 _ i1 i2 args⟩ ⟨xPc_blind _ _ _ _ _, fun U hU hW => xgive hI hH rfl U hU hW⟩ rfl hn hsz rfl (lv_room (xwords _ _ r1)) hdg ⟨r4, r5⟩
theorem xpass {E pc : Nat} (hE : E < 4) (hI : xI g D xs s) (args : Array Value) (hk : k < 257) {y : Nat × Nat × Nat × Nat × Nat} (hy : y ∈ xHh k) (hp : ¬ (y.1 ≤ pc ∧ pc < y.2.1) ∨ y.2.2.2.2 ≠ E) :
    covers ⟨y.1, y.2.1, y.2.2.1, y.2.2.2.1⟩ pc = false ∨ (y.2.2.2.1 ≠ 0 ∧ ∃ nm : String, (Cond.classLink (xcn (xK k)) y.2.2.2.1 nm).before args s = true ∧ va_Nc (xexc E) nm s) := by
  obtain ⟨f1, f2, f3, f4⟩ := xhh_f k hk y hy
  rcases hp with hp | hp
  · refine Or.inl ?_
    show (decide (y.1 ≤ pc) && decide (pc < y.2.1)) = false
    rw [Bool.and_eq_false_iff]
    by_cases h1 : y.1 ≤ pc
    · exact Or.inr (decide_eq_false (fun h2 => hp ⟨h1, h2⟩))
    · exact Or.inl (decide_eq_false h1)
  · obtain ⟨⟨w1, w2⟩, -⟩ := xhh_w _ f4
    refine Or.inr ⟨f2, xexc y.2.2.2.2, ?_, hI.2.2.2.2.2.1 E _ hE f3 (Ne.symm hp)⟩
    rw [f1]
    exact hI.1 _ w1 w2 args
set_option maxHeartbeats 1000000 in
theorem x_back {lsA : Array Slot} {ls : XL} {σ' : XW} {o : XO} {a pc cu su : Nat} {rest st0 : List Value} {av : Array Value} {z : XC} (hk : k < 257) (F : xFx p l s m meth c g D xs k) (hl : lv_has lsA (xNl k) (xls g.1 g.2.1 ls))
    (hr : vx_Run p l e (xrm k) s m args below meth c H locs cu su (xMc a) (xMs a) (F0 m pc lsA st0) (xst g.1 g.2.1 rest) (xQo g D o σ' av) (xXo g D o σ') (xA g)) (hS : va_S (xA g) s.heap H locs) (h : xback k a pc ls rest cu su (some (o, σ')) = some (.inl z)) (kw : xWc p l e s m args below meth c Q g D k z) :
    W p l e (xrm k) s m args below meth c H locs cu su Q (F0 m pc lsA st0) := by
  obtain ⟨hx, hb, hml', hown, -, -, htab, hI, -, -⟩ := F
  refine xgo hr hS (fun E hE hE4 H1 locs1 q ce hH1 hce hcv hcl => ?_) (fun r hr' H1 locs1 hH1 => ?_)
  · subst hE
    unfold xback at h
    dsimp only at h
    split at h
    · next hp hnd =>
      obtain ⟨pre, x, suf, g1, g2, g3, g4, g5, g6⟩ := xhnd_ok hnd
      have hxm : x ∈ xHh k := by rw [g1]; exact List.mem_append_right _ List.mem_cons_self
      obtain ⟨f1, f2, f3, f4⟩ := xhh_f k hk x hxm
      obtain ⟨⟨w1, w2⟩, w3, w4⟩ := xhh_w _ f4
      have cat : W p l e (xrm k) s m args below meth c H1 locs1 (cu + xMc a) (su + xMs a) Q (F0 m hp lsA [.ref q]) → vx_W p l e (xrm k) s m args below meth c H1 locs1 (cu + xMc a) (su + xMs a) Q (F0 m pc lsA (xst g.1 g.2.1 rest)) q := fun kk => by
        refine vx_catch (own := xcn (xK k)) (name := xexc E) (E := xexc E) hown (tableOf (pre.map (fun h => (h.1, h.2.1, h.2.2.1, h.2.2.2.1)))) ⟨x.1, x.2.1, x.2.2.1, x.2.2.2.1⟩ (tableOf (suf.map (fun h => (h.1, h.2.1, h.2.2.1, h.2.2.2.1)))) ?_ ?_ ?_ f2 ?_ ?_ hce hcv hcl ?_
        · rw [htab, g1]
          simp [tableOf]
        · intro z hz
          obtain ⟨y4, hy4, rfl⟩ := List.mem_map.mp hz
          obtain ⟨y, hy, rfl⟩ := List.mem_map.mp hy4
          exact xpass hE4 hI args hk (by rw [g1]; exact List.mem_append_left _ hy) (g6 y hy)
        · show (decide (x.1 ≤ pc) && decide (pc < x.2.1)) = true
          rw [decide_eq_true g3, decide_eq_true g4]
          rfl
        · rw [f1, ← g5]
          exact hI.1 _ w1 w2 args
        · rw [← g5]
          exact hI.1 _ w3 w4 args
        · rw [show (⟨x.1, x.2.1, x.2.2.1, x.2.2.2.1⟩ : ExceptionTableEntry).handlerPc = hp from g2]
          exact kk
      refine cat ?_
      split at h
      · next j ent hent =>
        cases hj : Nat.blt j (xNl k) with
        | false => rw [hj] at h; cases h
        | true =>
          rw [hj] at h
          cases h
          obtain ⟨hd, -, -, -⟩ := xent_dec hent
          have hlen := (xent_at hent).2.1
          have e1 : ent.1 = 1 := Nat.eq_of_beq_eq_true hlen
          rw [show ((Instr.astore_n j, ent) : XEn).2.1 = 1 from e1] at hd
          refine lv_astore_n hx hb hd rfl hl (Nat.le_of_ble_eq_true hj) rfl (fun lsB hB => kw lsB H1 locs1 ⟨hB.1, hB.2.1, fun q hq => hB.2.2 q (List.mem_cons_of_mem _ (by rw [xk1_ok]; exact hq))⟩ hH1)
      · next j ent hent =>
        cases hj : Nat.blt j (xNl k) with
        | false => rw [hj] at h; cases h
        | true =>
          rw [hj] at h
          cases h
          obtain ⟨hd, -, -, -⟩ := xent_dec hent
          have hlen := (xent_at hent).2.1
          have e1 : ent.1 = 2 := Nat.eq_of_beq_eq_true hlen
          rw [show ((Instr.astore j, ent) : XEn).2.1 = 2 from e1] at hd
          refine lv_astore hx hb hd hl (Nat.le_of_ble_eq_true hj) rfl (fun lsB hB => kw lsB H1 locs1 ⟨hB.1, hB.2.1, fun q hq => hB.2.2 q (List.mem_cons_of_mem _ (by rw [xk1_ok]; exact hq))⟩ hH1)
      · cases h
    · cases h
  · subst hr'
    cases r with
    | none => cases h; exact kw lsA H1 locs1 hl hH1
    | some v => cases h; exact kw lsA H1 locs1 hl hH1
end XST
end
noncomputable section
theorem xm012 : ∀ a, a < 3 → a ∈ [0, 1, 2] := by decide
/-! A step that goes on within the frame. -/
section XMO
variable {p : Program} {l : Launch} {e : Env} {s : State} {m : MethodId} {args : Array Value} {below : List Frame} {meth : Method} {c : Code} {Q : State → Prop}
variable {D : va_G} {g : XG} {xs : List Int32} {k : Nat}
theorem xldcwf {cc : ByteArray} {pc : Nat} {ls : Array Slot} {rest : List Value} {R : Room} {H : Heap} {locs : List Loc} {cells slots : Nat} (hexec : p.tables.exec = Jvm.exec) (hb : c.code = cc) {own : String} {index : Nat} {v : UInt32} (hown : s.vm.findClass own = some m.cls) (hconst : (Jvm.Cond.constantFloat own index v).before args s = true) (hdg : decode cc pc = .ok (.ldc_w index, 3)) (k : W p l e R s m args below meth c H locs cells slots Q (F0 m (pc + 3) ls (.float v :: rest))) : W p l e R s m args below meth c H locs cells slots Q (F0 m pc ls rest) := by
  intro T hT X
  obtain ⟨t, a, b⟩ := k T hT X
  refine ⟨t, ?_, b⟩
  obtain ⟨kc, cf, hk, hcf, hcp⟩ := Cond.constantFloat_spec hown hconst
  obtain ⟨k', hk', he⟩ := X.warmed.alike.2.2 _ _ hk
  have hdg' : decode c.code pc = .ok (.ldc_w index, 3) := by rw [hb]; exact hdg
  jvm_step X.here [X.here.top, hexec, hdg', ldc_w.wp_float (s := T) (f := F0 m pc ls rest) X.here.top hk' (by rw [he]; exact hcf) hcp]
  exact a
theorem xhk {σ : XW} {q : Nat} {t : Nat} {fs : List Value} (h : xnth σ.2 q = some (t, fs)) : σ.2[q]? = some (t, fs) := by rw [← xnth_eq]; exact h
theorem xand {a b : Bool} (h : (a && b) = true) : a = true ∧ b = true := by rw [Bool.and_eq_true] at h; exact h
theorem xbif {α : Type} {b : Bool} {x : α} {y : Option α} (h : (bif b then some x else none) = y) {z : α} (hy : y = some z) : b = true ∧ x = z := by
  subst hy
  cases b with
  | true => exact ⟨rfl, Option.some.inj h⟩
  | false => cases h
theorem xbif2 {α : Type} {b : Bool} {x : Option α} {z : α} (h : (bif b then x else none) = some z) : b = true ∧ x = some z := by
  cases b with
  | true => exact ⟨rfl, h⟩
  | false => cases h
theorem xble {a b : Nat} (h : Nat.ble a b = true) : a ≤ b := Nat.le_of_ble_eq_true h
theorem xblt' {a b : Nat} (h : Nat.blt a b = true) : a < b := Nat.le_of_ble_eq_true h
theorem xbe {a b : Nat} (h : Nat.beq a b = true) : a = b := Nat.eq_of_beq_eq_true h
theorem xdb {p : Prop} [Decidable p] (h : decide p = true) : p := of_decide_eq_true h

set_option maxHeartbeats 4000000 in
set_option maxRecDepth 100000 in
theorem x_more {rec : Nat → List Value → XW → Option (XO × XW)} {z0 z1 : XC} (F : xFx p l s m meth c g D xs k) (hrec : xRec l g D xs rec) (h : xstep rec xs k z0 = some (.inl z1)) (kw : xWc p l e s m args below meth c Q g D k z1) : xWc p l e s m args below meth c Q g D k z0 := by
  intro lsA H locs hl hH
  obtain ⟨hx, hb, hml', hown, hnm, -, -, hI, hst, -⟩ := id F
  have hK := hI.2.1
  obtain ⟨pc, ls, st, cu, su, σ⟩ := z0
  dsimp only at hl hH ⊢
  unfold xstep at h
  dsimp only at h
  split at h
  · cases h
  · next i len a b hcode =>
    have hk : k < 257 := xcode_k hcode
    obtain ⟨hd, hlen, hoff, hlnk⟩ := xent_dec hcode
    have hlen2 := (xent_at hcode).2.1
    dsimp only at hd hlen hoff hlen2
    split at h
    · next ix =>
      obtain rfl : len = 3 := xbe hlen2
      split at h
      · next q r =>
        split at h
        · next t fs hq =>
          have hz9 := xbif2 h; clear h; obtain ⟨ht, h⟩ := hz9
          obtain rfl := xbe ht
          split at h
          · next v hv =>
            cases h
            rw [xnth_eq] at hv
            have hL : ∃ n, (xK k, ix, t, b, n) ∈ xfl := by
              have h9 : (decide ((xK k, ix, t, b, true) ∈ xfl) || decide ((xK k, ix, t, b, false) ∈ xfl)) = true := hlnk
              rw [Bool.or_eq_true] at h9
              exact h9.elim (fun q => ⟨true, xdb q⟩) (fun q => ⟨false, xdb q⟩)
            obtain ⟨n, hn⟩ := hL
            obtain ⟨f1, f2, f3⟩ := xfl_at hn hI args
            refine xgetf (own := xcn (xK k)) hx hb (xts hI args) (xin_cl f1) hown hK hH (xhk hq) (by omega) (xcl_at _ f1) f2 ?_ hv hd (kw lsA H locs hl hH)
            cases n with
            | true => exact Or.inr ⟨_, by rw [if_pos rfl] at f3; exact f3⟩
            | false => exact Or.inl (by rw [if_neg (by decide)] at f3; exact f3)
          · cases h
        · cases h
      · cases h
    · next ix =>
      obtain rfl : len = 3 := xbe hlen2
      split at h
      · next v q r =>
        split at h
        · next t fs hq =>
          have hz9 := xbif2 h; clear h; obtain ⟨hc9, h⟩ := hz9
          obtain ⟨ht, hc8⟩ := xand hc9
          obtain ⟨hfit, hlt⟩ := xand hc8
          obtain rfl := xbe ht
          cases h
          have h9 : ((decide ((xK k, ix, t, b, false) ∈ xfl) && (decide (((xcT t).2.1 b).2.2.2 = false) || (decide ((xY k).name = "<init>") && decide (((xcT t).2.1 b).1 = xcn (xK k))))) || (decide ((xK k, ix, t, b, true) ∈ xfl) && decide (((xcT t).2.1 b).2.2.2 = false))) = true := hlnk
          rw [Bool.or_eq_true] at h9
          rcases h9 with h9 | h9
          · obtain ⟨hn, hf⟩ := xand h9
            obtain ⟨f1, f2, f3⟩ := xfl_at (xdb hn) hI args
            rw [if_neg (by decide)] at f3
            refine xputf (own := xcn (xK k)) hx hb (xts hI args) (xin_cl f1) (xfty t) (xcl_ty t f1) (xcl_nm t f1) hown hK hH (xhk hq) (by omega) (xcl_at _ f1) f2 (Or.inl f3) ?_ hfit (xblt' hlt) hd (fun H1 locs1 hH1 => kw lsA H1 locs1 hl hH1)
            rw [Bool.or_eq_true] at hf
            rcases hf with hf | hf
            · exact Or.inl (xdb hf)
            · obtain ⟨hf1, hf2⟩ := xand hf
              cases hfin : ((xcT t).2.1 b).2.2.2 with
              | false => exact Or.inl rfl
              | true => exact Or.inr ⟨rfl, hnm.trans (xdb hf1), xdb hf2, f3⟩
          · obtain ⟨hn, hf⟩ := xand h9
            obtain ⟨f1, f2, f3⟩ := xfl_at (xdb hn) hI args
            rw [if_pos rfl] at f3
            exact xputf (own := xcn (xK k)) hx hb (xts hI args) (xin_cl f1) (xfty t) (xcl_ty t f1) (xcl_nm t f1) hown hK hH (xhk hq) (by omega) (xcl_at _ f1) f2 (Or.inr ⟨_, f3⟩) (Or.inl (xdb hf)) hfit (xblt' hlt) hd (fun H1 locs1 hH1 => kw lsA H1 locs1 hl hH1)
        · cases h
      · cases h
    · obtain rfl : len = 1 := xbe hlen2
      split at h
      · next j q r =>
        split at h
        · next t fs hq =>
          have hz9 := xbif2 h; clear h; obtain ⟨hc9, h⟩ := hz9
          obtain ⟨ht, hin⟩ := xand hc9
          obtain rfl := xbe ht
          split at h
          · next x hv =>
            cases h
            rw [xnth_eq] at hv
            exact xiald hx hb hK hH (xhk hq) hin hv hd (kw lsA H locs hl hH)
          · cases h
        · cases h
      · next j w r =>
        have hz9 := xbif2 h; clear h; obtain ⟨hin, h⟩ := hz9
        split at h
        · next x hv =>
          cases h
          rw [xnth_eq] at hv
          have hx9 : xs.getD j.toNatClampNeg 0 = x := by rw [List.getD_eq_getElem?_getD, hv]; rfl
          have h8 := va_sld (ls := lsA) (rest := xst g.1 g.2.1 r) (locs := locs) (cells := cu) (slots := su) (Q := Q) (p := p) (l := l) (e := e) (R := xrm k) (m := m) (args := args) (below := below) (meth := meth) hx hb hI.2.2.2.2.2.2.1 (by have := hI.2.2.2.2.2.2.2.1; have := hI.2.2.2.2.2.2.2.2.1; omega) (by show ¬ g.1 ≤ g.2.1; have := hI.2.2.2.2.2.2.2.1; omega) hH.2.1 (xin_ok hin).1 hd
          rw [hx9] at h8
          exact h8 (kw lsA H locs hl hH)
        · cases h
      · cases h
    · obtain rfl : len = 1 := xbe hlen2
      split at h
      · next j q r =>
        split at h
        · next t fs hq =>
          have hz9 := xbif2 h; clear h; obtain ⟨hc9, h⟩ := hz9
          obtain ⟨ht, hin⟩ := xand hc9
          obtain rfl := xbe ht
          split at h
          · next x hv =>
            cases h
            rw [xnth_eq] at hv
            exact xlald hx hb hK hH (xhk hq) hin hv hd (kw lsA H locs hl hH)
          · cases h
        · cases h
      · cases h
    · obtain rfl : len = 1 := xbe hlen2
      split at h
      · next j q r =>
        split at h
        · next t fs hq =>
          have hz9 := xbif2 h; clear h; obtain ⟨hc9, h⟩ := hz9
          obtain ⟨ht, hin⟩ := xand hc9
          obtain rfl := xbe ht
          split at h
          · next x hv =>
            cases h
            rw [xnth_eq] at hv
            exact xcald hx hb hK hH (xhk hq) hin hv hd (kw lsA H locs hl hH)
          · cases h
        · cases h
      · cases h
    · obtain rfl : len = 1 := xbe hlen2
      split at h
      · next j q r =>
        split at h
        · next t fs hq =>
          have hz9 := xbif2 h; clear h; obtain ⟨hc9, h⟩ := hz9
          obtain ⟨ht, hin⟩ := xand hc9
          obtain rfl := xbe ht
          split at h
          · next x hv =>
            cases h
            rw [xnth_eq] at hv
            exact xaald hx hb hK hH (xhk hq) hin hv hd (kw lsA H locs hl hH)
          · cases h
        · cases h
      · cases h
    · obtain rfl : len = 1 := xbe hlen2
      split at h
      · next x j q r =>
        split at h
        · next t fs hq =>
          have hz9 := xbif2 h; clear h; obtain ⟨hc9, h⟩ := hz9
          obtain ⟨ht, hin⟩ := xand hc9
          obtain rfl := xbe ht
          cases h
          exact xiast hx hb hK hH (xhk hq) hin hd (fun H1 locs1 hH1 => kw lsA H1 locs1 hl hH1)
        · cases h
      · cases h
    · obtain rfl : len = 1 := xbe hlen2
      split at h
      · next x j q r =>
        split at h
        · next t fs hq =>
          have hz9 := xbif2 h; clear h; obtain ⟨hc9, h⟩ := hz9
          obtain ⟨ht, hin⟩ := xand hc9
          obtain rfl := xbe ht
          cases h
          exact xlast hx hb hK hH (xhk hq) hin hd (fun H1 locs1 hH1 => kw lsA H1 locs1 hl hH1)
        · cases h
      · cases h
    · obtain rfl : len = 1 := xbe hlen2
      split at h
      · next x j q r =>
        split at h
        · next t fs hq =>
          have hz9 := xbif2 h; clear h; obtain ⟨hc9, h⟩ := hz9
          obtain ⟨ht, hin⟩ := xand hc9
          obtain rfl := xbe ht
          obtain ⟨hin, hnar⟩ := xand hin
          cases h
          exact xcast hx hb hK hH (xhk hq) hin (xdb hnar) hd (fun H1 locs1 hH1 => kw lsA H1 locs1 hl hH1)
        · cases h
      · cases h
    · obtain rfl : len = 1 := xbe hlen2
      split at h
      · next x j q r =>
        split at h
        · next t fs hq =>
          have hz9 := xbif2 h; clear h; obtain ⟨hc9, h⟩ := hz9
          obtain ⟨ht, hin⟩ := xand hc9
          obtain rfl := xbe ht
          split at h
          · next t2 vs hq2 =>
            have hz9 := xbif2 h; clear h; obtain ⟨ht2, h⟩ := hz9
            obtain rfl := xbe ht2
            cases h
            exact xaast (ci := 6) hx hb hK hH (xhk hq) (xhk hq2) (by decide) rfl hin hd (fun H1 locs1 hH1 => kw lsA H1 locs1 hl hH1)
          · cases h
        · cases h
      · cases h
    · obtain rfl : len = 1 := xbe hlen2
      split at h
      · next q r =>
        split at h
        · next t fs hq =>
          have hz9 := xbif2 h; clear h; obtain ⟨ht, h⟩ := hz9
          cases h
          exact xalen hx hb hK hH (xhk hq) (xble ht) hd (kw lsA H locs hl hH)
        · cases h
      · next w r =>
        cases h
        exact va_slen hx hb hI.2.2.2.2.2.2.1 (by have := hI.2.2.2.2.2.2.2.1; have := hI.2.2.2.2.2.2.2.2.1; omega) (by show ¬ g.1 ≤ g.2.1; have := hI.2.2.2.2.2.2.2.1; omega) hH.2.1 hd (kw lsA H locs hl hH)
      · cases h
    · next ix =>
      obtain rfl : len = 3 := xbe hlen2
      split at h
      · have hz9 := xbif2 h; clear h; obtain ⟨hc9, h⟩ := hz9
        obtain ⟨hf, hc8⟩ := xand hc9
        obtain ⟨hc7, hc6⟩ := xand hc8
        cases h
        have hn : (xK k, ix, a) ∈ xnl := xdb hlnk
        have ha : a < 12 := xnl_b _ hn
        obtain ⟨d1, d2⟩ := xcl_df a ha
        obtain ⟨w1, w2⟩ := xnl_w _ hn
        obtain ⟨w3, w4⟩ := xci_w (Cond.instantiable (xcT a).1 (xcT a).2.2) (List.mem_map.mpr ⟨a, List.mem_range.mpr ha, rfl⟩)
        have hini : (Cond.initialized (xcT a).1).before args s = true := by
          obtain ⟨h1, h2⟩ := xini_w a (xini_12 a ha)
          rw [← xcn_T a ha]
          exact hI.1 _ h1 h2 args
        rw [d1] at hc6
        have h8 := xnew (own := xcn (xK k)) (ci := a) (fs := xdef a) (rest := xst g.1 g.2.1 st) (ls := lsA) (Q := Q) (locs := locs) (cells := cu) (slots := su) (p := p) (l := l) (e := e) (R := xrm k) (args := args) (below := below) (meth := meth) hx hb (xts hI args) (xin_cl ha) (xfty a) (xcl_ty a ha) hown (hI.1 _ w1 w2 args) (hI.1 _ w3 w4 args) hini hK hH hf (by omega) (xcl_at a ha) (fun j hj => by rw [xF_at (d2 j hj)]; generalize xfty a j = tt; cases tt <;> rfl) (xble hc7) (xble hc6) hd
        refine h8 (fun H1 hH1 => ?_)
        have h7 := kw lsA H1 locs hl hH1
        dsimp only at h7
        rw [d1] at h7
        exact h7
      · have hz9 := xbif2 h; clear h; obtain ⟨hc9, h⟩ := hz9
        cases h
    · next t =>
      obtain rfl : len = 2 := xbe hlen2
      split at h
      · next n r =>
        have hz9 := xbif2 h; clear h; obtain ⟨hc9, h⟩ := hz9
        obtain ⟨hf, hc8⟩ := xand hc9
        obtain ⟨hn0, hc7⟩ := xand hc8
        obtain ⟨hn1, hc6⟩ := xand hc7
        obtain ⟨hc5, hc4⟩ := xand hc6
        cases h
        obtain ⟨l1, l23⟩ := xand (show (decide (newarray.typeOf t = xat a) && (decide (100 ≤ a) && decide (a < 103))) = true from hlnk)
        obtain ⟨l2, l3⟩ := xand l23
        have l1 := xdb l1
        have l2 := xdb l2
        have l3 := xdb l3
        have hb9 := xble hn1
        have ha3 : a = 100 ∨ a = 101 ∨ a = 102 := by omega
        refine xnewa (t := a) hx hb l1 (fun cA hA => ?_) l2 ?_ hK hH hf (xdb hn0) rfl (by omega) (by rw [l1]; rcases ha3 with rfl | rfl | rfl <;> decide) (by rcases ha3 with rfl | rfl | rfl <;> rfl) (xble hc5) (xble hc4) hd (fun H1 hH1 => kw lsA H1 locs hl hH1)
        · rcases ha3 with rfl | rfl | rfl <;> exact hA
        · rw [l1]
          rcases ha3 with rfl | rfl | rfl
          · exact hI.1 _ (xar_w _ List.mem_cons_self).1 (xar_w _ List.mem_cons_self).2 args
          · exact hI.1 _ (xar_w _ (List.mem_cons_of_mem _ List.mem_cons_self)).1 (xar_w _ (List.mem_cons_of_mem _ List.mem_cons_self)).2 args
          · exact hI.1 _ (xar_w _ (List.mem_cons_of_mem _ (List.mem_cons_of_mem _ List.mem_cons_self))).1 (xar_w _ (List.mem_cons_of_mem _ (List.mem_cons_of_mem _ List.mem_cons_self))).2 args
      · cases h
    · next ix =>
      obtain rfl : len = 3 := xbe hlen2
      split at h
      · next n r =>
        have hz9 := xbif2 h; clear h; obtain ⟨hc9, h⟩ := hz9
        obtain ⟨hf, hc8⟩ := xand hc9
        obtain ⟨hn0, hc7⟩ := xand hc8
        obtain ⟨hn1, hc6⟩ := xand hc7
        obtain ⟨hc5, hc4⟩ := xand hc6
        cases h
        have hn : (xK k, ix) ∈ xan := xdb hlnk
        obtain ⟨w1, w2⟩ := xan_w _ hn
        have hb9 := xble hn1
        exact xanew (own := xcn (xK k)) hx hb hown (hI.1 _ w1 w2 args) (va_AO.use hI.2.2.2.2.2.2.2.2.2) hK hH hf (xdb hn0) rfl (by omega) (xble hc5) (xble hc4) hd (fun H1 hH1 => kw lsA H1 locs hl hH1)
      · cases h
    · next ix =>
      obtain rfl : len = 2 := xbe hlen2
      split at h
      · next v hv =>
        cases h
        have h9 := hlnk
        unfold xlnk at h9
        dsimp only at h9
        rw [hv] at h9
        rw [Bool.or_eq_true] at h9
        rcases h9 with h9 | h9
        · obtain ⟨hn, hty⟩ := xand h9
          obtain ⟨w1, w2⟩ := xkl_w _ (xdb hn)
          have h8 := hI.1 _ w1 w2 args
          unfold xklW at h8
          dsimp only at h8
          rw [hv] at h8
          cases v with
          | int x => exact lv_ldc hx hb hown h8 hd (kw lsA H locs hl hH)
          | float x => exact lv_ldcf hx hb hown h8 hd (kw lsA H locs hl hH)
          | _ => cases hty
        · (rw [xdb h9] at hv; cases hv)
      · cases h
    · next ix =>
      obtain rfl : len = 3 := xbe hlen2
      split at h
      · next v hv =>
        cases h
        have h9 := hlnk
        unfold xlnk at h9
        dsimp only at h9
        rw [hv] at h9
        rw [Bool.or_eq_true] at h9
        rcases h9 with h9 | h9
        · obtain ⟨hn, hty⟩ := xand h9
          obtain ⟨w1, w2⟩ := xkl_w _ (xdb hn)
          have h8 := hI.1 _ w1 w2 args
          unfold xklW at h8
          dsimp only at h8
          rw [hv] at h8
          cases v with
          | int x => exact lv_ldcw hx hb hown h8 hd (kw lsA H locs hl hH)
          | float x => exact xldcwf hx hb hown h8 hd (kw lsA H locs hl hH)
          | _ => cases hty
        · (rw [xdb h9] at hv; cases hv)
      · cases h
    · next ix =>
      obtain rfl : len = 3 := xbe hlen2
      split at h
      · next v hv =>
        cases h
        have h9 := hlnk
        unfold xlnk at h9
        dsimp only at h9
        rw [hv] at h9
        obtain ⟨hn, hty⟩ := xand h9
        obtain ⟨w1, w2⟩ := xkl_w _ (xdb hn)
        have h8 := hI.1 _ w1 w2 args
        unfold xklW at h8
        dsimp only at h8
        rw [hv] at h8
        cases v with
        | long x => exact lv_ldc2 hx hb hown h8 hd (kw lsA H locs hl hH)
        | double x => exact lv_ldc2d hx hb hown h8 hd (kw lsA H locs hl hH)
        | _ => cases hty
      · cases h
    · next ix =>
      obtain rfl : len = 3 := xbe hlen2
      split at h
      · next as q r hs =>
        split at h
        · next t fs hq =>
          have hz9 := xbif2 h; clear h; obtain ⟨hc9, h⟩ := hz9
          obtain ⟨ht, hroom⟩ := xand hc9
          obtain ⟨e1, e2, -⟩ := xsplit_st g.1 g.2.1 hs
          obtain ⟨l1, l2⟩ := xand (show (decide ((xK k, ix, a) ∈ xml) && decide (a ∈ xvm)) = true from hlnk)
          cases hr : rec a (.ref q :: as) σ with
          | none => rw [hr] at h; cases h
          | some r9 =>
            obtain ⟨o, σ'⟩ := r9
            rw [hr] at h
            have hM := hrec a (.ref q :: as) σ o σ' (xmb.1 a (xdb l2)).1 hr
            rw [e1]
            exact x_back hk F hl (x_runV F hM (xdb l2) (xdb l1) hH (xhk hq) (xbe ht) e2 hroom hl.1 hd) hH.2.1 h kw
        · cases h
      · cases h
    · next ix =>
      obtain rfl : len = 3 := xbe hlen2
      split at h
      · split at h
        · next q r =>
          have hz9 := xbif2 h; clear h; obtain ⟨hc9, h⟩ := hz9
          obtain ⟨hc8, hc7⟩ := xand hc9
          cases h
          have hn : (xK k, ix) ∈ xmo := xdb hlnk
          obtain ⟨w1, w2⟩ := xmo_w _ hn
          have hw := xble hc7
          exact W.objInit hx hb hown (hI.1 _ w1 w2 args) (hI.1 _ (xoi_w _ List.mem_cons_self).1 (xoi_w _ List.mem_cons_self).2 args) (hI.1 _ (xoi_w _ (List.mem_cons_of_mem _ List.mem_cons_self)).1 (xoi_w _ (List.mem_cons_of_mem _ List.mem_cons_self)).2 args) rfl (by rw [hml']; exact hl.1) rfl hd (xble hc8) (by show 2 * 0 + ((xst g.1 g.2.1 r).map fun v => v.category).sum + 12 ≤ xLo k; rw [xcat_eq, xcat_rv]; omega) (kw lsA H locs hl hH)
        · cases h
      · split at h
        · next as q r hs =>
          have hz9 := xbif2 h; clear h; obtain ⟨hroom, h⟩ := hz9
          obtain ⟨e1, e2, -⟩ := xsplit_st g.1 g.2.1 hs
          obtain ⟨l1, l2⟩ := xand (show (decide ((xK k, ix, a) ∈ xml) && decide (a ∈ xim)) = true from hlnk)
          cases hr : rec a (.ref q :: as) σ with
          | none => rw [hr] at h; cases h
          | some r9 =>
            obtain ⟨o, σ'⟩ := r9
            rw [hr] at h
            have hM := hrec a (.ref q :: as) σ o σ' (xmb.2.2 a (xdb l2)).1 hr
            rw [e1]
            exact x_back hk F hl (x_runI F hM (xdb l2) (xdb l1) hH e2 hroom hl.1 hd) hH.2.1 h kw
        · cases h
      · split at h
        · next as q r hs =>
          have hz9 := xbif2 h; clear h; obtain ⟨hroom, h⟩ := hz9
          obtain ⟨e1, e2, -⟩ := xsplit_st g.1 g.2.1 hs
          obtain ⟨l1, l2⟩ := xand (show (decide ((xK k, ix, a) ∈ xmn) && decide (a ∈ xim)) = true from hlnk)
          cases hr : rec a (.ref q :: as) σ with
          | none => rw [hr] at h; cases h
          | some r9 =>
            obtain ⟨o, σ'⟩ := r9
            rw [hr] at h
            have hM := hrec a (.ref q :: as) σ o σ' (xmb.2.2 a (xdb l2)).1 hr
            rw [e1]
            exact x_back hk F hl (x_runIN F hM (xdb l2) (xdb l1) hH e2 hroom hl.1 hd) hH.2.1 h kw
        · cases h
      · cases h
    · next ix =>
      obtain rfl : len = 3 := xbe hlen2
      split at h
      · split at h
        · next as r hs =>
          have hz9 := xbif2 h; clear h; obtain ⟨hroom, h⟩ := hz9
          obtain ⟨e1, e2, -⟩ := xsplit_st g.1 g.2.1 hs
          obtain ⟨l1, l2⟩ := xand (show (decide ((xK k, ix, a) ∈ xml) && decide (a ∈ xsm)) = true from hlnk)
          cases hr : rec a as σ with
          | none => rw [hr] at h; cases h
          | some r9 =>
            obtain ⟨o, σ'⟩ := r9
            rw [hr] at h
            have hM := hrec a as σ o σ' (xmb.2.1 a (xdb l2)) hr
            rw [e1]
            exact x_back hk F hl (x_runS F hM (xdb l2) (xdb l1) hH e2 hroom hl.1 hd) hH.2.1 h kw
        · cases h
      · obtain ⟨l1, l2⟩ := xand (show (decide ((xK k, ix, a) ∈ xnat) && decide (a < 3)) = true from hlnk)
        have l2 := xdb l2
        obtain ⟨w1, w2⟩ := xnat_w _ (xdb l1)
        have hlk := hI.1 _ w1 w2 args
        have hnat : (Cond.native (xny a)).before args s = true := by
          have h5 := xnn_n (Cond.native (xny a)) (List.mem_map.mpr ⟨a, xm012 a l2, rfl⟩)
          exact hI.1 _ h5.1 h5.2 args
        have hsta : (Cond.static (xny a)).before args s = true := by
          have h5 := xnn_s (Cond.static (xny a)) (List.mem_map.mpr ⟨a, xm012 a l2, rfl⟩)
          exact hI.1 _ h5.1 h5.2 args
        have hini : (Cond.initialized (xny a).cls).before args s = true := by
          have h5 := xnn_i (Cond.initialized (xny a).cls) (List.mem_map.mpr ⟨a, xm012 a l2, rfl⟩)
          exact hI.1 _ h5.1 h5.2 args
        split at h
        · split at h
          · next n dp q sp q0 r =>
            split at h
            · next t0 f0 t1 f1 hq0 hq =>
              have hz9 := xbif2 h; clear h; obtain ⟨c1, h⟩ := hz9
              obtain ⟨c2, c1⟩ := xand c1
              obtain ⟨c3, c1⟩ := xand c1
              obtain ⟨c4, c1⟩ := xand c1
              obtain ⟨c5, c1⟩ := xand c1
              obtain ⟨c6, c1⟩ := xand c1
              obtain ⟨c7, c1⟩ := xand c1
              obtain ⟨c8, c1⟩ := xand c1
              obtain ⟨c9, c1⟩ := xand c1
              obtain ⟨c10, c1⟩ := xand c1
              obtain ⟨c11, c12⟩ := xand c1
              obtain rfl := xbe c2
              cases h
              have hw := xble c12
              exact xacpy (own := xcn (xK k)) hx hb (hml'.trans hl.1.symm) hown hlk hnat hsta hini hK hH (xhk hq0) (xhk hq) (xble c3) c4 (xblt' c5) (xdb c6) (xdb c7) (xdb c8) (xble c9) (xble c10) (xble c11) (by show ((xst g.1 g.2.1 r).map fun v => v.category).sum + 30 ≤ xLo k; rw [xcat_eq, xcat_rv]; omega) hd (fun H1 locs1 hH1 => kw lsA H1 locs1 hl hH1)
            · cases h
          · cases h
        · split at h
          · next x r =>
            have hz9 := xbif2 h; clear h; obtain ⟨c1, h⟩ := hz9
            obtain ⟨c2, c3⟩ := xand c1
            cases h
            have hw := xble c3
            exact vn_d2l (own := xcn (xK k)) hx hb (hml'.trans hl.1.symm) hown hlk hnat hsta hini (xble c2) (by show ((xst g.1 g.2.1 r).map fun v => v.category).sum + 15 ≤ xLo k; rw [xcat_eq, xcat_rv]; omega) hd (kw lsA H locs hl hH)
          · cases h
        · next hn0 hn1 =>
          obtain rfl : a = 2 := by { have h0 : ¬ a = 0 := fun q => hn0 q; have h1 : ¬ a = 1 := fun q => hn1 q; omega }
          split at h
          · next x r =>
            have hz9 := xbif2 h; clear h; obtain ⟨c1, h⟩ := hz9
            obtain ⟨c2, c3⟩ := xand c1
            cases h
            have hw := xble c3
            exact vn_f2i (own := xcn (xK k)) hx hb (hml'.trans hl.1.symm) hown hlk hnat hsta hini (xble c2) (by show ((xst g.1 g.2.1 r).map fun v => v.category).sum + 15 ≤ xLo k; rw [xcat_eq, xcat_rv]; omega) hd (kw lsA H locs hl hH)
          · cases h
      · cases h
    · cases h
    · cases h
    · cases h
    · split at h
      · next pc' ls' st' hop =>
        cases h
        exact xop_ok hx hb hd hlen hoff hop hl (fun lsB hB => kw lsB H locs hB hH)
      · cases h
end XMO
end
noncomputable section
/-! The end of a frame, and the contracts of all methods. -/
def xrt (i : Instr) (r : Option FieldType) : Bool := match i, r with
  | .ireturn, some .int => true
  | .ireturn, some .boolean => true
  | .lreturn, some .long => true
  | .return_, none => true
  | _, _ => false
def xfin2 (k : Nat) (z : XC × Option Nat) : Option (XO × XW) := bif Nat.ble z.1.2.2.2.1 (xMc k) && (Nat.ble z.1.2.2.2.2.1 (xMs k) && (match z.2 with | none => (match xcode k z.1.1 with | some e => xrt e.1 (xRet k) | none => false) | some _ => true)) then xfin k z else none
def xone (xs : List Int32) (rec : Nat → List Value → XW → Option (XO × XW)) (n k : Nat) (av : List Value) (σ : XW) : Option (XO × XW) := bif Nat.ble (xcat av) (xNl k) then (match xit (xstep rec xs k) n (0, lv_args 0 av, [], 0, 0, σ) with | some (.inr z) => xfin2 k z | _ => none) else none
def xrun2 (xs : List Int32) : Nat → Nat → List Value → XW → Option (XO × XW)
  | 0, _, _, _ => none
  | d + 1, k, av, σ => xone xs (xrun2 xs d) 20 k av σ
theorem xno {b : Bool} {x : XC} {y : XC × Option Nat} (h : (bif b then (some (.inl x) : XS) else none) = some (.inr y)) : False := by
  cases b with
  | true => cases h
  | false => cases h
def xnse : ByteArray := ⟨#[0x2a, 0x2b, 0xb7, 0x00, 0x0d, 0xb1]⟩
set_option maxRecDepth 100000 in
theorem xat_n3_m : ∀ w ∈ ((xow "RoverLocator" (xic 3) (xexc 3) 13 xnse "java/lang/RuntimeException" ["java/lang/Exception"]).filter vx_no), w ∈ lw_tbl := xMe_c 74 rfl (xMe_c 554 rfl (xMe_c 563 rfl (xMe_c 568 rfl (xMe_c 571 rfl (xMe_c 573 rfl (xMe_c 555 rfl (xMe_c 556 rfl (xMe_c 92 rfl (xMe_c 93 rfl (xMe_c 557 rfl (xMe_c 562 rfl (xMe_c 569 rfl (xMe_c 589 rfl (xMe_c 544 rfl (xMe_c 590 rfl (xMe_c 546 rfl (xMe_c 591 rfl (xMe_c 548 rfl (xMe_c 558 rfl (xMe_c 560 rfl (xMe_c 550 rfl (xMe_c 585 rfl (xMe_c 586 rfl (xMe_c 588 rfl (xMe_c 550 rfl (xMe_c 898 rfl (xMe_c 899 rfl (xMe_c 900 rfl (xMe_c 579 rfl (xMe_c 536 rfl (xMe_c 579 rfl (xMe_c 580 rfl (xMe_c 581 rfl (xMe_c 582 rfl (xMe_c 538 rfl (xMe_c 582 rfl (xMe_c 583 rfl (xMe_c 584 rfl (xMe_c 585 rfl (xMe_c 540 rfl (xMe_c 897 rfl (xMe_c 888 rfl (xMe_c 889 rfl (xMe_c 890 rfl (xMe_c 567 rfl (xMe_c 891 rfl (xMe_c 892 rfl (xMe_c 893 rfl (xMe_c 894 rfl (xMe_c 587 rfl (xMe_c 552 rfl (xMe_c 895 rfl (xMe_n)))))))))))))))))))))))))))))))))))))))))))))))))))))
set_option maxRecDepth 100000 in
theorem xat_n3_g : ((xow "RoverLocator" (xic 3) (xexc 3) 13 xnse "java/lang/RuntimeException" ["java/lang/Exception"]).filter vx_no).all (fun w => xgw w && vx_ot w) = true := by decide +kernel
theorem xat_n3 : ((xow "RoverLocator" (xic 3) (xexc 3) 13 xnse "java/lang/RuntimeException" ["java/lang/Exception"]).filter vx_no).all (fun w => decide (w ∈ lw_tbl) && (xgw w && vx_ot w)) = true := List.all_eq_true.mpr (fun w hw => by rw [Bool.and_eq_true]; exact ⟨decide_eq_true (xat_n3_m w hw), List.all_eq_true.mp xat_n3_g w hw⟩)
theorem xthr_w3 : ∀ q ∈ xthr, q.1 = 3 → q.2.2.2.2 = true := by decide +kernel
theorem xthr_w {t ik is ic : Nat} {w : Bool} (h : xnth xthr t = some (3, ik, is, ic, w)) : w = true := by
  rw [xnth_eq] at h
  exact xthr_w3 _ (List.mem_of_getElem? h) rfl
section XDN
variable {p : Program} {l : Launch} {e : Env} {s : State} {m : MethodId} {args : Array Value} {below : List Frame} {meth : Method} {c : Code} {Q : State → Prop}
variable {D : va_G} {g : XG} {xs : List Int32} {k : Nat}
theorem x_iter {rec : Nat → List Value → XW → Option (XO × XW)} (F : xFx p l s m meth c g D xs k) (hrec : xRec l g D xs rec) : ∀ (n : Nat) (z0 : XC), (∀ z1, xit (xstep rec xs k) n z0 = some (.inl z1) → xWc p l e s m args below meth c Q g D k z1 → xWc p l e s m args below meth c Q g D k z0) ∧ (∀ y, xit (xstep rec xs k) n z0 = some (.inr y) → ∃ z', xstep rec xs k z' = some (.inr y) ∧ (xWc p l e s m args below meth c Q g D k z' → xWc p l e s m args below meth c Q g D k z0))
  | 0, z0 => ⟨fun z1 h => x_more F hrec h, fun y h => ⟨z0, h, fun w => w⟩⟩
  | n + 1, z0 => by
    obtain ⟨i1, i2⟩ := x_iter F hrec n z0
    constructor
    · intro z1 h hw
      unfold xit at h
      split at h
      · next c' hc => exact i1 c' hc ((x_iter F hrec n c').1 z1 h hw)
      · next hne => exact i1 z1 h hw
    · intro y h
      unfold xit at h
      split at h
      · next c' hc =>
        obtain ⟨z', h1, h2⟩ := (x_iter F hrec n c').2 y h
        exact ⟨z', h1, fun w => i1 c' hc (h2 w)⟩
      · next hne => exact i2 y h
theorem xfin2_ok {z : XC × Option Nat} {r : XO × XW} (h : xfin2 k z = some r) : z.1.2.2.2.1 ≤ xMc k ∧ z.1.2.2.2.2.1 ≤ xMs k ∧ xfin k z = some r := by
  unfold xfin2 at h
  obtain ⟨h1, h2⟩ := xbif2 h
  obtain ⟨h3, h4⟩ := xand h1
  obtain ⟨h4, h5⟩ := xand h4
  exact ⟨xble h3, xble h4, h2⟩
theorem xfin2_rt {z : XC} {e : XEn} {r : XO × XW} (h : xfin2 k (z, none) = some r) (hc : xcode k z.1 = some e) : xrt e.1 (xRet k) = true := by
  unfold xfin2 at h
  obtain ⟨h1, h2⟩ := xbif2 h
  obtain ⟨h3, h4⟩ := xand h1
  obtain ⟨h4, h5⟩ := xand h4
  dsimp only at h5
  rw [hc] at h5
  exact h5
theorem xhnd_none {pc E : Nat} : ∀ {hs : List (Nat × Nat × Nat × Nat × Nat)}, xhnd hs pc E = none → ∀ y ∈ hs, ¬ (y.1 ≤ pc ∧ pc < y.2.1) ∨ y.2.2.2.2 ≠ E := by
  intro hs
  induction hs with
  | nil => intro _ y hy; cases hy
  | cons q r ih =>
    intro hq y hy
    unfold xhnd at hq
    cases hb : (Nat.ble q.1 pc && (Nat.blt pc q.2.1 && Nat.beq q.2.2.2.2 E)) with
    | true => rw [hb] at hq; cases hq
    | false =>
      rw [hb] at hq
      rcases List.mem_cons.mp hy with hy | hy
      · subst hy
        rw [Bool.and_eq_false_iff, Bool.and_eq_false_iff] at hb
        rcases hb with hb | hb | hb
        · exact Or.inl (fun z => by rw [Nat.ble_eq_true_of_le z.1] at hb; cases hb)
        · exact Or.inl (fun z => by
            have : Nat.blt pc y.2.1 = true := Nat.ble_eq_true_of_le z.2
            rw [this] at hb; cases hb)
        · exact Or.inr (fun z => by rw [z, Nat.beq_refl] at hb; cases hb)
      · exact ih hq y hy
/-- back from a call that threw, and nobody here takes it -/
theorem x_backX {lsA : Array Slot} {ls : XL} {σ' σ1 : XW} {o o1 : XO} {a pc cu su : Nat} {rest st0 : List Value} {av : Array Value} {y : XC × Option Nat} {H : Heap} {locs : List Loc} (hk : k < 257) (F : xFx p l s m meth c g D xs k)
    (hr : vx_Run p l e (xrm k) s m args below meth c H locs cu su (xMc a) (xMs a) (F0 m pc lsA st0) (xst g.1 g.2.1 rest) (xQo g D o σ' av) (xXo g D o σ') (xA g)) (hS : va_S (xA g) s.heap H locs) (h : xback k a pc ls rest cu su (some (o, σ')) = some (.inr y)) (hf : xfin2 k y = some (o1, σ1)) :
    W p l e (xrm k) s m args below meth c H locs cu su (vx_MQ below (xQo g D o1 σ1) (xXo g D o1 σ1) args s (xMc k) (xMs k) (xA g)) (F0 m pc lsA st0) := by
  obtain ⟨hx, hb, hml', hown, -, hlk, htab, hI, -, -⟩ := F
  cases o with
  | inl r => cases r with
    | none => cases h
    | some v => cases h
  | inr E =>
    unfold xback at h
    dsimp only at h
    split at h
    · split at h
      · exact (xno h).elim
      · exact (xno h).elim
      · cases h
    · next hnd =>
      cases h
      obtain ⟨g1, g2, g3⟩ := xfin2_ok hf
      dsimp only at g1 g2
      cases g3
      refine xgo hr hS (fun E' hE hE4 H1 locs1 q ce hH1 hce hcv hcl => ?_) (fun r hr' H1 locs1 hH1 => ?_)
      · cases hE
        refine vx_outP (own := xcn (xK k)) hown hlk (fun z hz => ?_) hce hcv hcl (fun t ht hA => ⟨rfl, hE4, by rw [ht]; exact hH1.1, fun h => Bool.noConfusion h, hH1.2.1.F ht⟩) hH1.2.1.2.2 g1 g2
        rw [htab] at hz
        obtain ⟨y4, hy4, rfl⟩ := List.mem_map.mp hz
        obtain ⟨y, hy, rfl⟩ := List.mem_map.mp hy4
        exact xpass hE4 hI args hk hy (xhnd_none hnd y hy)
      · cases hr'
theorem xatS {E : Nat} (hE : E < 3) (hI : xI g D xs s) (args : Array Value) : (∀ w ∈ vx_atS "RoverLocator" (xic E) (xexc E) xnames, w.before args s = true) ∧ (∀ w ∈ Cond.classLink "RoverLocator" (xik E) (xexc E) :: Cond.initialized (xexc E) :: vx_atS "RoverLocator" (xic E) (xexc E) xnames, vx_ot w = true) ∧ (Cond.classLink "RoverLocator" (xik E) (xexc E)).before args s = true ∧ (Cond.initialized (xexc E)).before args s = true ∧ Bundle.fit (xexc E) = true := by
  have key : (vx_atS "RoverLocator" (xic E) (xexc E) xnames).all (fun w => decide (w ∈ lw_tbl) && (xgw w && vx_ot w)) = true ∧ ((Cond.classLink "RoverLocator" (xik E) (xexc E) ∈ lw_tbl ∧ xgw (Cond.classLink "RoverLocator" (xik E) (xexc E)) = true ∧ vx_ot (Cond.classLink "RoverLocator" (xik E) (xexc E)) = true) ∧ (Cond.initialized (xexc E) ∈ lw_tbl ∧ xgw (Cond.initialized (xexc E)) = true ∧ vx_ot (Cond.initialized (xexc E)) = true) ∧ Bundle.fit (xexc E) = true) := by
    have : E = 0 ∨ E = 1 ∨ E = 2 := by omega
    rcases this with rfl | rfl | rfl
    · exact ⟨xat_0, xat_h0⟩
    · exact ⟨xat_1, xat_h1⟩
    · exact ⟨xat_2, xat_h2⟩
  obtain ⟨k1, ⟨c1, c2, c3⟩, ⟨i1, i2, i3⟩, k4⟩ := key
  have k2 : ∀ w ∈ vx_atS "RoverLocator" (xic E) (xexc E) xnames, w ∈ lw_tbl ∧ xgw w = true ∧ vx_ot w = true := fun w hw => by
    obtain ⟨h1, h2⟩ := xand (List.all_eq_true.mp k1 w hw)
    obtain ⟨h3, h4⟩ := xand h2
    exact ⟨xdb h1, h3, h4⟩
  refine ⟨fun w hw => hI.1 _ (k2 w hw).1 (k2 w hw).2.1 args, fun w hw => ?_, hI.1 _ c1 c2 args, hI.1 _ i1 i2 args, k4⟩
  rcases List.mem_cons.mp hw with rfl | hw
  · exact c3
  · rcases List.mem_cons.mp hw with rfl | hw
    · exact i3
    · exact (k2 w hw).2.2
theorem xatS3 (hI : xI g D xs s) (args : Array Value) : (∀ w ∈ (xow "RoverLocator" (xic 3) (xexc 3) 13 xnse "java/lang/RuntimeException" ["java/lang/Exception"]).filter vx_no, w.before args s = true) ∧ (∀ w ∈ Cond.classLink "RoverLocator" (xik 3) (xexc 3) :: Cond.initialized (xexc 3) :: (xow "RoverLocator" (xic 3) (xexc 3) 13 xnse "java/lang/RuntimeException" ["java/lang/Exception"]).filter vx_no, vx_ot w = true) ∧ (Cond.classLink "RoverLocator" (xik 3) (xexc 3)).before args s = true ∧ (Cond.initialized (xexc 3)).before args s = true ∧ Bundle.fit (xexc 3) = true := by
  obtain ⟨⟨c1, c2, c3⟩, ⟨i1, i2, i3⟩, k4⟩ := xat_h3
  have k2 : ∀ w ∈ (xow "RoverLocator" (xic 3) (xexc 3) 13 xnse "java/lang/RuntimeException" ["java/lang/Exception"]).filter vx_no, w ∈ lw_tbl ∧ xgw w = true ∧ vx_ot w = true := fun w hw => by
    obtain ⟨h1, h2⟩ := xand (List.all_eq_true.mp xat_n3 w hw)
    obtain ⟨h3, h4⟩ := xand h2
    exact ⟨xdb h1, h3, h4⟩
  refine ⟨fun w hw => hI.1 _ (k2 w hw).1 (k2 w hw).2.1 args, fun w hw => ?_, hI.1 _ c1 c2 args, hI.1 _ i1 i2 args, k4⟩
  rcases List.mem_cons.mp hw with rfl | hw
  · exact c3
  · rcases List.mem_cons.mp hw with rfl | hw
    · exact i3
    · exact (k2 w hw).2.2
set_option maxHeartbeats 4000000 in
theorem x_throw {lsA : Array Slot} {ls : XL} {st : List Value} {σ σ1 : XW} {o1 : XO} {pc cu su ix len a t : Nat} {H : Heap} {locs : List Loc} (F : xFx p l s m meth c g D xs k) (hchk : xthc k pc (.new ix, len, a, t + 1) = true) (hc9 : (Nat.ble 6 (xFr k) && (Nat.ble (xcat st + 82) (xLo k) && (Nat.ble (cu + 1) (xMc k) && Nat.ble (su + 6) (xMs k)))) = true)
    (hl : lv_has lsA (xNl k) (xls g.1 g.2.1 ls)) (hH : xH g D xcl σ s H locs) (hd : decode (xB k) pc = .ok (.new ix, 3)) (hf : xfin2 k ((pc, ls, st, cu, su, σ), some a) = some (o1, σ1)) :
    W p l e (xrm k) s m args below meth c H locs cu su (vx_MQ below (xQo g D o1 σ1) (xXo g D o1 σ1) args s (xMc k) (xMs k) (xA g)) (F0 m pc lsA (xst g.1 g.2.1 st)) := by
  obtain ⟨hx, hb, hml', hown, hnm, hlk, htab, hI, hst, hret⟩ := id F
  obtain ⟨-, -, g3⟩ := xfin2_ok hf
  cases g3
  obtain ⟨r1, hc8⟩ := xand hc9
  obtain ⟨r2, hc7⟩ := xand hc8
  obtain ⟨r3, r4⟩ := xand hc7
  have r1 := xble r1
  have r2 := xble r2
  have r3 := xble r3
  have r4 := xble r4
  unfold xthc at hchk
  dsimp only at hchk
  split at hchk
  · next E ik is ic wide hth =>
    simp only [Bool.and_eq_true, decide_eq_true_eq] at hchk
    obtain ⟨⟨⟨⟨⟨⟨⟨⟨⟨t1, t2⟩, t3⟩, t4⟩, t5⟩, t6⟩, t7⟩, t8⟩, t9⟩, t10⟩ := hchk
    subst t1 t3 t4 t5
    rw [t6] at hown
    have hown : s.vm.findClass "RoverLocator" = some m.cls := hown
    obtain ⟨q, hq, hqi⟩ := List.any_eq_true.mp t8
    have hqi := xdb hqi
    obtain ⟨sa, hsa⟩ := hI.2.2.1 q hq
    rw [hqi] at hsa
    have hout : ∀ n : Nat, ∀ x ∈ c.exceptionTable.toList, covers x n = false := fun n x hx => by
      rw [htab, t7] at hx
      cases hx
    have hw1 : ((xst g.1 g.2.1 st).map fun v => v.category).sum + (13 * (2 + 1) + 43) ≤ xLo k := by rw [xcat_eq, xcat_rv]; omega
    have hxx : ∀ t : State, s.vm.Alike t.vm → H.size ≤ t.heap.size → (∀ q : Nat, q < H.size → t.heap[q]? = H[q]?) → xXo g D (.inr E) (false, σ.2) (xexc E) s t := fun t hA hz hk9 =>
      ⟨rfl, t2, hH.1.kept hk9, fun h => Bool.noConfusion h, Nat.le_trans hH.2.1.1 hz, fun q h1 h2 => (hk9 q (Nat.lt_of_lt_of_le h1 hH.2.1.1)).trans (hH.2.1.2.1 q h1 h2)⟩
    by_cases hE3 : E < 3
    · obtain ⟨w1, w2, w3, w4, w5⟩ := xatS hE3 hI args
      cases wide with
      | true =>
        obtain ⟨⟨d4, d7⟩, d10⟩ := (by simpa only [cond_true, Bool.and_eq_true, decide_eq_true_eq] using t10 : (_ ∧ _) ∧ _)
        exact vx_throwSW hx hb hst hown w5 xat_n w3 w4 hsa w1 w2 hI.2.2.2.1 hI.2.2.2.2.1 hH.2.1 (hl.1.trans hml'.symm) hd t9 d4 d7 d10 (hout _) (by show 2 + 3 < xFr k; omega) hw1 (by show cu + 1 ≤ xMc k; omega) (by show su + 6 ≤ xMs k; omega) hlk hxx hH.2.1.2.2 r3 r4
      | false =>
        obtain ⟨⟨d4, d6⟩, d9⟩ := (by simpa only [cond_false, Bool.and_eq_true, decide_eq_true_eq] using t10 : (_ ∧ _) ∧ _)
        exact vx_throwS hx hb hst hown w5 xat_n w3 w4 hsa w1 w2 hI.2.2.2.1 hI.2.2.2.2.1 hH.2.1 (hl.1.trans hml'.symm) hd t9 d4 d6 d9 (hout _) (by show 2 + 3 < xFr k; omega) hw1 (by show cu + 1 ≤ xMc k; omega) (by show su + 6 ≤ xMs k; omega) hlk hxx hH.2.1.2.2 r3 r4
    · obtain rfl : E = 3 := by omega
      obtain ⟨w1, w2, w3, w4, w5⟩ := xatS3 hI args
      cases wide with
      | true =>
        obtain ⟨⟨d4, d7⟩, d10⟩ := (by simpa only [cond_true, Bool.and_eq_true, decide_eq_true_eq] using t10 : (_ ∧ _) ∧ _)
        exact xthrowX (ix := 13) (rx := xnse) hx hb hst hown (by decide +kernel) (by decide +kernel) (by decide +kernel) (by decide +kernel) w5 (xat_n _ List.mem_cons_self) (fun n hn => xat_n n (List.mem_cons_of_mem _ hn)) w3 w4 hsa w1 w2 hI.2.2.2.1 hI.2.2.2.2.1 hH.2.1 (hl.1.trans hml'.symm) hd t9 d4 d7 d10 (hout _) (by show 1 + 4 < xFr k; omega) hw1 (by show cu + 1 ≤ xMc k; omega) (by show su + 6 ≤ xMs k; omega) hlk hxx hH.2.1.2.2 r3 r4
      | false => exact absurd (xthr_w hth) (by decide)
  · cases hchk
set_option maxHeartbeats 4000000 in
set_option maxRecDepth 100000 in
theorem x_done {rec : Nat → List Value → XW → Option (XO × XW)} {z0 : XC} {y : XC × Option Nat} {o1 : XO} {σ1 : XW} (F : xFx p l s m meth c g D xs k) (hrec : xRec l g D xs rec) (h : xstep rec xs k z0 = some (.inr y)) (hf : xfin2 k y = some (o1, σ1)) :
    xWc p l e s m args below meth c (vx_MQ below (xQo g D o1 σ1) (xXo g D o1 σ1) args s (xMc k) (xMs k) (xA g)) g D k z0 := by
  intro lsA H locs hl hH
  obtain ⟨hx, hb, hml', hown, hnm, hlk, htab, hI, hst, hret⟩ := id F
  obtain ⟨pc, ls, st, cu, su, σ⟩ := z0
  dsimp only at hl hH ⊢
  unfold xstep at h
  dsimp only at h
  split at h
  · cases h
  · next i len a b hcode =>
    have hk : k < 257 := xcode_k hcode
    obtain ⟨hd, hlen, hoff, hlnk⟩ := xent_dec hcode
    have hlen2 := (xent_at hcode).2.1
    dsimp only at hd hlen hoff hlen2
    split at h
    · repeat' split at h
      all_goals first | (cases h; done) | exact (xno h).elim | (have hz9 := xbif2 h; clear h; obtain ⟨h8, h⟩ := hz9; repeat' split at h) 
      all_goals first | (cases h; done) | exact (xno h).elim | (have hz9 := xbif2 h; clear h; obtain ⟨h8, h⟩ := hz9; repeat' split at h)
      all_goals first | (cases h; done) | exact (xno h).elim
    · repeat' split at h
      all_goals first | (cases h; done) | exact (xno h).elim | (have hz9 := xbif2 h; clear h; obtain ⟨h8, h⟩ := hz9; repeat' split at h) 
      all_goals first | (cases h; done) | exact (xno h).elim | (have hz9 := xbif2 h; clear h; obtain ⟨h8, h⟩ := hz9; repeat' split at h)
      all_goals first | (cases h; done) | exact (xno h).elim
    · repeat' split at h
      all_goals first | (cases h; done) | exact (xno h).elim | (have hz9 := xbif2 h; clear h; obtain ⟨h8, h⟩ := hz9; repeat' split at h) 
      all_goals first | (cases h; done) | exact (xno h).elim | (have hz9 := xbif2 h; clear h; obtain ⟨h8, h⟩ := hz9; repeat' split at h)
      all_goals first | (cases h; done) | exact (xno h).elim
    · repeat' split at h
      all_goals first | (cases h; done) | exact (xno h).elim | (have hz9 := xbif2 h; clear h; obtain ⟨h8, h⟩ := hz9; repeat' split at h) 
      all_goals first | (cases h; done) | exact (xno h).elim | (have hz9 := xbif2 h; clear h; obtain ⟨h8, h⟩ := hz9; repeat' split at h)
      all_goals first | (cases h; done) | exact (xno h).elim
    · repeat' split at h
      all_goals first | (cases h; done) | exact (xno h).elim | (have hz9 := xbif2 h; clear h; obtain ⟨h8, h⟩ := hz9; repeat' split at h) 
      all_goals first | (cases h; done) | exact (xno h).elim | (have hz9 := xbif2 h; clear h; obtain ⟨h8, h⟩ := hz9; repeat' split at h)
      all_goals first | (cases h; done) | exact (xno h).elim
    · repeat' split at h
      all_goals first | (cases h; done) | exact (xno h).elim | (have hz9 := xbif2 h; clear h; obtain ⟨h8, h⟩ := hz9; repeat' split at h) 
      all_goals first | (cases h; done) | exact (xno h).elim | (have hz9 := xbif2 h; clear h; obtain ⟨h8, h⟩ := hz9; repeat' split at h)
      all_goals first | (cases h; done) | exact (xno h).elim
    · repeat' split at h
      all_goals first | (cases h; done) | exact (xno h).elim | (have hz9 := xbif2 h; clear h; obtain ⟨h8, h⟩ := hz9; repeat' split at h) 
      all_goals first | (cases h; done) | exact (xno h).elim | (have hz9 := xbif2 h; clear h; obtain ⟨h8, h⟩ := hz9; repeat' split at h)
      all_goals first | (cases h; done) | exact (xno h).elim
    · repeat' split at h
      all_goals first | (cases h; done) | exact (xno h).elim | (have hz9 := xbif2 h; clear h; obtain ⟨h8, h⟩ := hz9; repeat' split at h) 
      all_goals first | (cases h; done) | exact (xno h).elim | (have hz9 := xbif2 h; clear h; obtain ⟨h8, h⟩ := hz9; repeat' split at h)
      all_goals first | (cases h; done) | exact (xno h).elim
    · repeat' split at h
      all_goals first | (cases h; done) | exact (xno h).elim | (have hz9 := xbif2 h; clear h; obtain ⟨h8, h⟩ := hz9; repeat' split at h) 
      all_goals first | (cases h; done) | exact (xno h).elim | (have hz9 := xbif2 h; clear h; obtain ⟨h8, h⟩ := hz9; repeat' split at h)
      all_goals first | (cases h; done) | exact (xno h).elim
    · repeat' split at h
      all_goals first | (cases h; done) | exact (xno h).elim | (have hz9 := xbif2 h; clear h; obtain ⟨h8, h⟩ := hz9; repeat' split at h) 
      all_goals first | (cases h; done) | exact (xno h).elim | (have hz9 := xbif2 h; clear h; obtain ⟨h8, h⟩ := hz9; repeat' split at h)
      all_goals first | (cases h; done) | exact (xno h).elim
    · repeat' split at h
      all_goals first | (cases h; done) | exact (xno h).elim | (have hz9 := xbif2 h; clear h; obtain ⟨h8, h⟩ := hz9; repeat' split at h) 
      all_goals first | (cases h; done) | exact (xno h).elim | (have hz9 := xbif2 h; clear h; obtain ⟨h8, h⟩ := hz9; repeat' split at h)
      all_goals first | (cases h; done) | exact (xno h).elim
    · next ix =>
      obtain rfl : len = 3 := xbe hlen2
      split at h
      · exact (xno h).elim
      · have hz9 := xbif2 h; clear h; obtain ⟨hc9, h⟩ := hz9
        cases h
        exact x_throw F (xent_at hcode).2.2 hc9 hl hH hd hf
    · repeat' split at h
      all_goals first | (cases h; done) | exact (xno h).elim | (have hz9 := xbif2 h; clear h; obtain ⟨h8, h⟩ := hz9; repeat' split at h) 
      all_goals first | (cases h; done) | exact (xno h).elim | (have hz9 := xbif2 h; clear h; obtain ⟨h8, h⟩ := hz9; repeat' split at h)
      all_goals first | (cases h; done) | exact (xno h).elim
    · repeat' split at h
      all_goals first | (cases h; done) | exact (xno h).elim | (have hz9 := xbif2 h; clear h; obtain ⟨h8, h⟩ := hz9; repeat' split at h) 
      all_goals first | (cases h; done) | exact (xno h).elim | (have hz9 := xbif2 h; clear h; obtain ⟨h8, h⟩ := hz9; repeat' split at h)
      all_goals first | (cases h; done) | exact (xno h).elim
    · repeat' split at h
      all_goals first | (cases h; done) | exact (xno h).elim | (have hz9 := xbif2 h; clear h; obtain ⟨h8, h⟩ := hz9; repeat' split at h) 
      all_goals first | (cases h; done) | exact (xno h).elim | (have hz9 := xbif2 h; clear h; obtain ⟨h8, h⟩ := hz9; repeat' split at h)
      all_goals first | (cases h; done) | exact (xno h).elim
    · repeat' split at h
      all_goals first | (cases h; done) | exact (xno h).elim | (have hz9 := xbif2 h; clear h; obtain ⟨h8, h⟩ := hz9; repeat' split at h) 
      all_goals first | (cases h; done) | exact (xno h).elim | (have hz9 := xbif2 h; clear h; obtain ⟨h8, h⟩ := hz9; repeat' split at h)
      all_goals first | (cases h; done) | exact (xno h).elim
    · repeat' split at h
      all_goals first | (cases h; done) | exact (xno h).elim | (have hz9 := xbif2 h; clear h; obtain ⟨h8, h⟩ := hz9; repeat' split at h) 
      all_goals first | (cases h; done) | exact (xno h).elim | (have hz9 := xbif2 h; clear h; obtain ⟨h8, h⟩ := hz9; repeat' split at h)
      all_goals first | (cases h; done) | exact (xno h).elim
    · next ix =>
      obtain rfl : len = 3 := xbe hlen2
      split at h
      · next as q r hs =>
        split at h
        · next t fs hq =>
          have hz9 := xbif2 h; clear h; obtain ⟨hc9, h⟩ := hz9
          obtain ⟨ht, hroom⟩ := xand hc9
          obtain ⟨e1, e2, -⟩ := xsplit_st g.1 g.2.1 hs
          obtain ⟨l1, l2⟩ := xand (show (decide ((xK k, ix, a) ∈ xml) && decide (a ∈ xvm)) = true from hlnk)
          cases hr : rec a (.ref q :: as) σ with
          | none => rw [hr] at h; cases h
          | some r9 =>
            obtain ⟨o, σ'⟩ := r9
            rw [hr] at h
            have hM := hrec a (.ref q :: as) σ o σ' (xmb.1 a (xdb l2)).1 hr
            rw [e1]
            exact x_backX hk F (x_runV F hM (xdb l2) (xdb l1) hH (xhk hq) (xbe ht) e2 hroom hl.1 hd) hH.2.1 h hf
        · cases h
      · cases h
    · next ix =>
      obtain rfl : len = 3 := xbe hlen2
      split at h
      · split at h
        · exact (xno h).elim
        · cases h
      · split at h
        · next as q r hs =>
          have hz9 := xbif2 h; clear h; obtain ⟨hroom, h⟩ := hz9
          obtain ⟨e1, e2, -⟩ := xsplit_st g.1 g.2.1 hs
          obtain ⟨l1, l2⟩ := xand (show (decide ((xK k, ix, a) ∈ xml) && decide (a ∈ xim)) = true from hlnk)
          cases hr : rec a (.ref q :: as) σ with
          | none => rw [hr] at h; cases h
          | some r9 =>
            obtain ⟨o, σ'⟩ := r9
            rw [hr] at h
            have hM := hrec a (.ref q :: as) σ o σ' (xmb.2.2 a (xdb l2)).1 hr
            rw [e1]
            exact x_backX hk F (x_runI F hM (xdb l2) (xdb l1) hH e2 hroom hl.1 hd) hH.2.1 h hf
        · cases h
      · split at h
        · next as q r hs =>
          have hz9 := xbif2 h; clear h; obtain ⟨hroom, h⟩ := hz9
          obtain ⟨e1, e2, -⟩ := xsplit_st g.1 g.2.1 hs
          obtain ⟨l1, l2⟩ := xand (show (decide ((xK k, ix, a) ∈ xmn) && decide (a ∈ xim)) = true from hlnk)
          cases hr : rec a (.ref q :: as) σ with
          | none => rw [hr] at h; cases h
          | some r9 =>
            obtain ⟨o, σ'⟩ := r9
            rw [hr] at h
            have hM := hrec a (.ref q :: as) σ o σ' (xmb.2.2 a (xdb l2)).1 hr
            rw [e1]
            exact x_backX hk F (x_runIN F hM (xdb l2) (xdb l1) hH e2 hroom hl.1 hd) hH.2.1 h hf
        · cases h
      · cases h
    · next ix =>
      obtain rfl : len = 3 := xbe hlen2
      split at h
      · split at h
        · next as r hs =>
          have hz9 := xbif2 h; clear h; obtain ⟨hroom, h⟩ := hz9
          obtain ⟨e1, e2, -⟩ := xsplit_st g.1 g.2.1 hs
          obtain ⟨l1, l2⟩ := xand (show (decide ((xK k, ix, a) ∈ xml) && decide (a ∈ xsm)) = true from hlnk)
          cases hr : rec a as σ with
          | none => rw [hr] at h; cases h
          | some r9 =>
            obtain ⟨o, σ'⟩ := r9
            rw [hr] at h
            have hM := hrec a as σ o σ' (xmb.2.1 a (xdb l2)) hr
            rw [e1]
            exact x_backX hk F (x_runS F hM (xdb l2) (xdb l1) hH e2 hroom hl.1 hd) hH.2.1 h hf
        · cases h
      · split at h
        · split at h
          · split at h
            · exact (xno h).elim
            · cases h
          · cases h
        · split at h
          · exact (xno h).elim
          · cases h
        · split at h
          · exact (xno h).elim
          · cases h
      · cases h
    · cases h
      obtain rfl : len = 1 := xbe hlen2
      have hrt := xfin2_rt hf hcode
      obtain ⟨g1, g2, g3⟩ := xfin2_ok hf
      dsimp only at g1 g2 hrt
      refine W.widen (R := xrm k) g1 g2 ?_
      unfold xfin at g3
      dsimp only at g3
      split at g3
      · next h1 => (rw [h1] at hrt; cases hrt)
      · next v h1 => (cases g3; exact vx_ret (W.iret hx hb (hret.trans h1) (fun t ht hW => ⟨rfl, by rw [ht]; exact hH.1, fun h => by rw [ht]; exact hH.2.2 h, hH.2.1.F ht⟩) hH.2.1.2.2 hd hlk))
      · next v h1 =>
        obtain ⟨hz, g3⟩ := xbif2 g3
        cases g3
        refine vx_ret (W.zret hx hb (hret.trans h1) ?_ (fun t ht hW => ⟨rfl, by rw [ht]; exact hH.1, fun h => by rw [ht]; exact hH.2.2 h, hH.2.1.F ht⟩) hH.2.1.2.2 hd hlk)
        rw [Bool.or_eq_true] at hz
        rcases hz with hz | hz
        · rw [xdb hz]; rfl
        · rw [xdb hz]; rfl
      · next v h1 => (rw [h1] at hrt; cases hrt)
      · cases g3
    · cases h
      obtain rfl : len = 1 := xbe hlen2
      have hrt := xfin2_rt hf hcode
      obtain ⟨g1, g2, g3⟩ := xfin2_ok hf
      dsimp only at g1 g2 hrt
      refine W.widen (R := xrm k) g1 g2 ?_
      unfold xfin at g3
      dsimp only at g3
      split at g3
      · next h1 => (rw [h1] at hrt; cases hrt)
      · next v h1 => (rw [h1] at hrt; cases hrt)
      · next v h1 => (rw [h1] at hrt; cases hrt)
      · next v h1 => (cases g3; exact vx_ret (W.lret hx hb (hret.trans h1) (fun t ht hW => ⟨rfl, by rw [ht]; exact hH.1, fun h => by rw [ht]; exact hH.2.2 h, hH.2.1.F ht⟩) hH.2.1.2.2 hd hlk))
      · cases g3
    · cases h
      obtain rfl : len = 1 := xbe hlen2
      have hrt := xfin2_rt hf hcode
      obtain ⟨g1, g2, g3⟩ := xfin2_ok hf
      dsimp only at g1 g2 hrt
      refine W.widen (R := xrm k) g1 g2 ?_
      unfold xfin at g3
      dsimp only at g3
      split at g3
      · next h1 => (cases g3; exact vx_ret (W.vret hx hb (hret.trans h1) (fun t ht hW => ⟨rfl, by rw [ht]; exact hH.1, fun h => by rw [ht]; exact hH.2.2 h, hH.2.1.F ht⟩) hH.2.1.2.2 hd hlk))
      · next v h1 => (rw [h1] at hrt; cases hrt)
      · next v h1 => (rw [h1] at hrt; cases hrt)
      · next v h1 => (rw [h1] at hrt; cases hrt)
      · cases g3
    · split at h
      · cases h
      · cases h
end XDN
set_option maxHeartbeats 1000000 in
theorem x_one (l : Launch) (g : XG) (D : va_G) (xs : List Int32) (hl : l.stackTraces = false) {rec : Nat → List Value → XW → Option (XO × XW)} (ih : xRec l g D xs rec) (n : Nat) : xRec l g D xs (xone xs rec n) := by
    intro a av σ o σ' ha h
    unfold xone at h
    have hz9 := xbif2 h; clear h; obtain ⟨hcat, h⟩ := hz9
    split at h
    · next z hit =>
      have hw : (xcw a = Cond.code (xY a) (xB a) (xNl a) (xRet a) ∧ (xHh a).map (fun h => (h.1, h.2.1, h.2.2.1, h.2.2.2.1)) = []) ∨ xcw a = Cond.codeWith (xY a) (xB a) (xNl a) (xRet a) ((xHh a).map (fun h => (h.1, h.2.1, h.2.2.1, h.2.2.2.1))) := by
        by_cases hh : xHh a = []
        · exact Or.inl ⟨xcw_0 hh, by rw [hh]; rfl⟩
        · exact Or.inr (xcw_1 hh)
      refine xofW (xm_f3 a ha) hw ?_
      intro p e s m args below meth c s₁ B hml htab hP
      obtain ⟨rfl, hI, hR, hsz⟩ := hP
      have hown : s.vm.findClass (xcn (xK a)) = some m.cls := by rw [← xcls (by omega)]; exact findClass_of_methodNamed B.named
      have F : xFx p l s m meth c g D xs a := ⟨B.exec, B.bytes, hml, hown, (name_of_methodNamed B.named B.method).1, B.notSynchronized, htab, hI, hl, B.returns⟩
      obtain ⟨z', h1, h2⟩ := (x_iter (Q := vx_MQ below (xQo g D o σ') (xXo g D o σ') _ s (xMc a) (xMs a) (xA g)) (args := ((av.map (xrv g.1 g.2.1)).toArray)) (e := e) (below := below) F ih n _).2 z hit
      have h3 := h2 (x_done F ih h1 h)
      have hlen : (lg_sl (xst g.1 g.2.1 av)).length ≤ xNl a := by rw [xsl_len, xcat_rv]; exact xble hcat
      have h4 := lv_entry (xst g.1 g.2.1 av) hlen
      rw [← xarg_eq] at h4
      have h5 := h3 _ s.heap [] h4 ⟨hR, va_S.rf, hsz⟩
      rw [show entryFrame m (av.map (xrv g.1 g.2.1)).toArray (xNl a) = F0 m 0 ((lg_sl (xst g.1 g.2.1 av) ++ List.replicate (xNl a - (lg_sl (xst g.1 g.2.1 av)).length) Slot.unset).toArray) [] from lg_entry_eq m _ _]
      exact h5
    · cases h
/-- every run of a method of the machine of numbers is a contract of the JVM's -/
theorem x_sound (l : Launch) (g : XG) (D : va_G) (xs : List Int32) (hl : l.stackTraces = false) : ∀ d, xRec l g D xs (xrun2 xs d)
  | 0 => fun a av σ o σ' ha h => by cases h
  | d + 1 => x_one l g D xs hl (x_sound l g D xs hl d) 20
end
noncomputable section
/-! From the law's entry to the machine of numbers. -/
theorem xa_of {s : State} {args : Array Value} {t : FieldType} (ht : ∀ C, t ≠ .object C) (h : (Cond.arrayClass t).before args s = true) : ∃ cA, ArrOfT s cA t ∧ va_RA s cA t := by
  obtain ⟨cA, kA, comp, h1, h2, h3⟩ := Cond.arrayClass_spec h
  refine ⟨cA, fun n z => ⟨(fun k h => by cases h), kA, h2, comp, h3⟩, ?_⟩
  cases t with
  | object C => exact absurd rfl (ht C)
  | _ => exact h1
theorem xq_of {s : State} {args : Array Value} {C : String} (h : (Cond.arrayOver (.object C)).before args s = true) : ∃ cA, ArrOfT s cA (.object C) ∧ va_RA s cA (.object C) := by
  obtain ⟨comp, c, k, h1, h2, h3, h4, h5⟩ := Cond.arrayOver_spec h
  exact ⟨c, fun n z => ⟨(fun k h => by cases h), k, h3, comp, h4⟩, k, comp, h3, h4, h1, h5⟩
def xat1 {α : Type} [DecidableEq α] (M L : List α) (hs : List Nat) : Bool := Nat.beq L.length hs.length && (L.zip hs).all (fun q => decide (M[q.2]? = some q.1))
theorem xat1_ok {α : Type} [DecidableEq α] {M L : List α} {hs : List Nat} (h : xat1 M L hs = true) : ∀ w ∈ L, w ∈ M := by
  unfold xat1 at h
  rw [Bool.and_eq_true] at h
  have hl := Nat.eq_of_beq_eq_true h.1
  intro w hw
  obtain ⟨i, hi, rfl⟩ := List.mem_iff_getElem.mp hw
  have h1 := List.all_eq_true.mp h.2 (L[i], hs[i]'(by omega)) (List.mem_iff_getElem.mpr ⟨i, by simp; omega, by simp⟩)
  exact List.mem_of_getElem? (of_decide_eq_true h1)
set_option maxRecDepth 100000 in
theorem xst_w : ∀ w ∈ xstrs.map (fun q => Cond.stringRef "RoverLocator" q.1 q.2), w ∈ lw_tbl := xat1_ok (hs := [574, 613, 641, 688, 717, 729, 704, 766, 786, 832, 878, 896, 956, 1032, 1097, 1105, 1117, 680, 709, 1024, 914, 777, 728, 740]) (by decide +kernel)
set_option maxRecDepth 100000 in
theorem xst_n : ∀ w ∈ xstrs.map (fun q => Cond.exactly (.string "RoverLocator" q.1) "java/lang/String"), w ∈ flatC (Jvm.Cond.and given_1 narrow_1) := xat1_ok (hs := [66, 103, 131, 186, 277, 357, 219, 451, 533, 587, 628, 670, 774, 860, 925, 972, 1029, 158, 249, 822, 711, 491, 315, 411]) (by decide +kernel)
def xprs : List (Nat × Nat) := [(0, 1), (0, 2), (0, 3), (1, 0), (1, 2), (1, 3), (2, 0), (2, 1), (2, 3), (3, 0), (3, 1), (3, 2)]
theorem xprs_in (e : Nat) (he : e < 4) (e' : Nat) (he' : e' < 4) (hne : e ≠ e') : (e, e') ∈ xprs := by
  have h : ∀ a : Fin 4, ∀ b : Fin 4, a ≠ b → (a.1, b.1) ∈ xprs := by decide +kernel
  exact h ⟨e, he⟩ ⟨e', he'⟩ (fun q => hne (congrArg Fin.val q))
set_option maxRecDepth 100000 in
theorem xpr_n : ∀ w ∈ xprs.map (fun q => Cond.not (.castable (xexc q.1) (xexc q.2))), w ∈ flatC (Jvm.Cond.and given_1 narrow_1) := xat1_ok (hs := [33, 48, 63, 18, 49, 64, 19, 34, 65, 20, 35, 50]) (by decide +kernel)
set_option maxRecDepth 100000 in
theorem xsq_n : ∀ w ∈ [Cond.isRef (.static Bundle.tN "UNASSIGNED_STACK" Bundle.steD), Cond.isRef (.static Bundle.tN "SUPPRESSED_SENTINEL" Bundle.listD)], w ∈ flatC (Jvm.Cond.and given_1 narrow_1) := xat1_ok (hs := [4, 5]) (by decide +kernel)
set_option maxRecDepth 100000 in
theorem xtq_w : ∀ w ∈ [Cond.laysStatic Bundle.tN "UNASSIGNED_STACK" Bundle.steD, Cond.laysStatic Bundle.tN "SUPPRESSED_SENTINEL" Bundle.listD, Cond.initialized Bundle.tN, Cond.arrayOver (.object "RoverLocator$State")], w ∈ lw_tbl := xat1_ok (hs := [559, 561, 74, 245]) (by decide +kernel)
set_option maxHeartbeats 1000000 in
theorem x_start {s : State} {b L : Nat} {xs : Nat → Int32} {args : Array Value} (hts : ∀ w ∈ lw_tbl, w.before args s = true) (hX : va_X b L xs s s.heap) (hbl : b < s.heap.size) (hgv : (Jvm.Cond.and given_1 narrow_1).before args s = true) :
    ∃ (g : XG) (D : va_G), g.1 = s.heap.size ∧ g.2.1 = b ∧ xI g D ((List.range L).map xs) s := by
  have hn := flat_of_before _ hgv
  have hG : xGW s := fun w hw hg a => xgw_ok hg (State.WarmedH.refl s) (hts w hw)
  obtain ⟨tI, a1, a2⟩ := xa_of (t := .int) (fun C h => by cases h) (hG _ (xar_w _ List.mem_cons_self).1 (xar_w _ List.mem_cons_self).2 args)
  obtain ⟨tJ, b1, b2⟩ := xa_of (t := .long) (fun C h => by cases h) (hG _ (xar_w _ (List.mem_cons_of_mem _ List.mem_cons_self)).1 (xar_w _ (List.mem_cons_of_mem _ List.mem_cons_self)).2 args)
  obtain ⟨tC, c1, c2⟩ := xa_of (t := .char) (fun C h => by cases h) (hG _ (xar_w _ (List.mem_cons_of_mem _ (List.mem_cons_of_mem _ List.mem_cons_self))).1 (xar_w _ (List.mem_cons_of_mem _ (List.mem_cons_of_mem _ List.mem_cons_self))).2 args)
  have hov := hts _ (xtq_w _ (List.mem_cons_of_mem _ (List.mem_cons_of_mem _ (List.mem_cons_of_mem _ List.mem_cons_self))))
  obtain ⟨tQ, d1, d2⟩ := xq_of hov
  have hk : ∀ a : Nat, ∃ q : ClassId × (Nat → Nat), a < 12 → u_Kn s (xcT a).1 (xcT a).2.1 (xcT a).2.2 q.1 q.2 := by
    have h0 : ∀ a, a < 12 → ∃ q : ClassId × (Nat → Nat), u_Kn s (xcT a).1 (xcT a).2.1 (xcT a).2.2 q.1 q.2 := by
      intro a ha
      obtain ⟨w3, w4⟩ := xci_w (Cond.instantiable (xcT a).1 (xcT a).2.2) (List.mem_map.mpr ⟨a, List.mem_range.mpr ha, rfl⟩)
      obtain ⟨cC, iS, h⟩ := u_known (C := (xcT a).1) (T := (xcT a).2.1) (N := (xcT a).2.2) hts (fun w hw => (xcl_in a ha w hw).1) (hts _ w3)
      exact ⟨(cC, iS), h⟩
    intro a
    by_cases ha : a < 12
    · obtain ⟨q, h⟩ := h0 a ha
      exact ⟨q, fun _ => h⟩
    · obtain ⟨q, -⟩ := h0 0 (by decide)
      exact ⟨q, fun h => absurd h ha⟩
  refine ⟨(s.heap.size, b, tI, tJ, tC, tQ), (fun a => (Classical.choose (hk a)).1, fun a => (Classical.choose (hk a)).2), rfl, rfl, hG, ⟨fun c q hq => ?_, fun k q hq => ?_⟩, fun q hq => ?_, ?_, ?_, fun e e' he he' hne => ?_, ?_, hbl, Nat.le_refl _, va_AO.of hov⟩
  · have hc : c < 12 := (List.getElem?_eq_some_iff.mp hq).1
    have h1 := xcl_at c hc
    rw [h1] at hq
    cases hq
    exact Classical.choose_spec (hk c) hc
  · match k, hq with
    | 0, hq => cases hq; exact ⟨a1, a2⟩
    | 1, hq => cases hq; exact ⟨b1, b2⟩
    | 2, hq => cases hq; exact ⟨c1, c2⟩
    | 3, hq => cases hq; exact ⟨d1, d2⟩
    | k + 4, hq => cases hq
  · obtain ⟨sa, ce, cc, kk, he, -⟩ := Cond.exactly_spec (hn _ (xst_n _ (List.mem_map.mpr ⟨q, hq, rfl⟩)))
    exact ⟨sa, vk_R.of (hts _ (xst_w _ (List.mem_map.mpr ⟨q, hq, rfl⟩))) he⟩
  · exact vx_Zqof (hts _ (xtq_w _ List.mem_cons_self)) (hts _ (xtq_w _ (List.mem_cons_of_mem _ (List.mem_cons_of_mem _ List.mem_cons_self)))) (hn _ (xsq_n _ List.mem_cons_self)) (fun a ha => Nat.not_le.mpr ha)
  · exact vx_Zqof (hts _ (xtq_w _ (List.mem_cons_of_mem _ List.mem_cons_self))) (hts _ (xtq_w _ (List.mem_cons_of_mem _ (List.mem_cons_of_mem _ List.mem_cons_self)))) (hn _ (xsq_n _ (List.mem_cons_of_mem _ List.mem_cons_self))) (fun a ha => Nat.not_le.mpr ha)
  · exact va_Nc.of (hn _ (xpr_n _ (List.mem_map.mpr ⟨(e, e'), xprs_in e he e' he' hne, rfl⟩)))
  · obtain ⟨scr, h1, h2, h3, h4, h5⟩ := hX
    refine ⟨scr, h1, h2, h3, by simpa using h4, fun j hj => ?_⟩
    have hj : j < L := by simpa using hj
    rw [h5 j hj]
    simp [hj]
/-- the law's answer, as the machine of numbers finds it -/
def xlaw (xs : List Int32) (d n : Nat) : Bool := match xit (xstep (xrun2 xs d) xs 256) n (0, [(0, .retAddr 0)], [], 0, 0, (true, [])) with
  | some (.inr ((pc, _, [.int v], cu, su, _), none)) => (match xcode 256 pc with | some (.ireturn, _) => decide (v = 1) && (Nat.ble cu 601024 && Nat.ble su 7293034) | _ => false)
  | _ => false
theorem xback_no {k a pc cu su : Nat} {ls : XL} {rest : List Value} {r : Option (XO × XW)} {z : XC} (h : xback k a pc ls rest cu su r = some (.inr (z, none))) : False := by
  unfold xback at h
  repeat' first | (cases h; done) | (exact (xno h).elim) | split at h
set_option maxHeartbeats 4000000 in
theorem xinr {rec : Nat → List Value → XW → Option (XO × XW)} {xs : List Int32} {k : Nat} {z' z : XC} (h : xstep rec xs k z' = some (.inr (z, none))) : z' = z := by
  obtain ⟨pc, ls, st, cu, su, σ⟩ := z'
  unfold xstep at h
  dsimp only at h
  split at h
  · cases h
  · split at h <;> (repeat' first | (cases h; done) | (cases h; rfl) | (exact (xno h).elim) | (obtain ⟨hz8, hz9⟩ := xbif2 h; clear h; rename _ => h) | (exact (xback_no h).elim) | split at h)
end
