def xI (g : XG) (D : va_G) (xs : List Int32) (U : State) : Prop :=
  xGW U ∧ va_K D xcl (xty g) U ∧ (∀ q ∈ xstrs, ∃ sa, vk_R "RoverLocator" q.1 q.2 sa U) ∧ vx_Zq Bundle.tN "UNASSIGNED_STACK" Bundle.steD (xA g) U U.heap ∧ vx_Zq Bundle.tN "SUPPRESSED_SENTINEL" Bundle.listD (xA g) U U.heap ∧
  (∀ e e', e < 4 → e' < 4 → e ≠ e' → va_Nc (xexc e) (xexc e') U) ∧ va_X g.2.1 xs.length (fun j => xs.getD j 0) U U.heap ∧ g.2.1 < g.1 ∧ g.1 ≤ U.heap.size ∧ va_AO "RoverLocator$State" U
theorem xI.move {g : XG} {D : va_G} {xs : List Int32} {s U : State} (h : xI g D xs s) (hW : s.WarmedH U.vm) (hz : s.heap.size ≤ U.heap.size) (hk : ∀ q, q < s.heap.size → ¬ xA g q → U.heap[q]? = s.heap[q]?) : xI g D xs U := by
  obtain ⟨h1, h2, h3, h4, h5, h6, h7, h8, h9, h10⟩ := h
  refine ⟨h1.move hW, va_K.moved hW.alike h2, fun q hq => ?_, (h4.moved hW.alike).kept hk, (h5.moved hW.alike).kept hk, fun e e' he he' hne => (h6 e e' he he' hne).moved hW.alike, (h7.moved hW.alike).kept (hk _ (by omega) (by show ¬ g.1 ≤ g.2.1; omega)), h8, Nat.le_trans h9 hz, h10.moved hW.alike⟩
  obtain ⟨sa, hsa⟩ := h3 q hq
  exact ⟨sa, vk_R.warm hW hsa⟩
def xPc (g : XG) (D : va_G) (xs : List Int32) (av : List Value) (σ : XW) : Array Value → State → Prop := fun v U => v = (av.map (xrv g.1 g.2.1)).toArray ∧ xI g D xs U ∧ xR g D xcl σ.2 U.heap ∧ (σ.1 = true → U.heap.size = g.1 + σ.2.length)
def xQr (g : XG) (D : va_G) (r : Option Value) (σ : XW) : Array Value → State → Outcome → State → Prop := fun _ st o t => o = .returned (r.map (xrv g.1 g.2.1)) ∧ xR g D xcl σ.2 t.heap ∧ (σ.1 = true → t.heap.size = g.1 + σ.2.length) ∧ va_F (xA g) st t
def xQx (g : XG) (D : va_G) (E : Nat) (σ : XW) : String → State → State → Prop := fun E' st t => E' = xexc E ∧ E < 4 ∧ xR g D xcl σ.2 t.heap ∧ (σ.1 = true → t.heap.size = g.1 + σ.2.length) ∧ va_F (xA g) st t
def xQo (g : XG) (D : va_G) (o : XO) (σ : XW) : Array Value → State → Outcome → State → Prop := match o with
  | .inl r => xQr g D r σ
  | .inr _ => fun _ _ _ _ => False
def xXo (g : XG) (D : va_G) (o : XO) (σ : XW) : String → State → State → Prop := match o with
  | .inl _ => fun _ _ _ => False
  | .inr E => xQx g D E σ
def xrm (k : Nat) : Room := { frames := xFr k, cells := xMc k, slots := xMs k, locals := xLo k }
def xMet (l : Launch) (g : XG) (D : va_G) (xs : List Int32) (k : Nat) (av : List Value) (σ : XW) (o : XO) (σ' : XW) : Prop :=
  vx_Met l (xY k) [xcw k] (xrm k) (xPc g D xs av σ) (xQo g D o σ') (xXo g D o σ') (xMc k) (xMs k) (xA g)
theorem xPc_blind (g : XG) (D : va_G) (xs : List Int32) (av : List Value) (σ : XW) : FrameBlind (xPc g D xs av σ) := fun a U fr mk h =>
  ⟨h.1, h.2.1.move (U := U.calling fr mk a) (State.WarmedH.refl U) (Nat.le_refl _) (fun _ _ _ => rfl), h.2.2.1, h.2.2.2⟩
theorem xcat_eq (st : List Value) : (st.map fun v => v.category).sum = xcat st := by
  induction st with
  | nil => rfl
  | cons v r ih => rw [List.map_cons, List.sum_cons, ih]; rfl
theorem xcat_rv (b0 b : Nat) (st : List Value) : xcat (xst b0 b st) = xcat st := by
  induction st with
  | nil => rfl
  | cons v r ih =>
    show (xrv b0 b v).category + xcat (xst b0 b r) = _
    rw [ih, xrv_cat]
    rfl
theorem xnth_eq {α : Type} : ∀ (l : List α) (n : Nat), xnth l n = l[n]?
  | [], n => by simp [xnth]
  | a :: l, 0 => by simp [xnth]
  | a :: l, n + 1 => by simp [xnth, xnth_eq l n]
theorem xarg_eq (b0 b : Nat) : ∀ (n : Nat) (av : List Value), xls b0 b (lv_args n av) = lv_args n (xst b0 b av)
  | _, [] => rfl
  | n, v :: r => by
    show (n, xrv b0 b v) :: xls b0 b (lv_args _ r) = (n, xrv b0 b v) :: lv_args _ (xst b0 b r)
    rw [xarg_eq, xrv_cat]
theorem xsl_len (vs : List Value) : (lg_sl vs).length = xcat vs := by
  induction vs with
  | nil => rfl
  | cons v r ih =>
    show (lg_sl (v :: r)).length = v.category + xcat r
    rw [← ih]
    unfold lg_sl
    rw [List.flatMap_cons, List.length_append]
    rcases lv_cat v with h | h
    · rw [if_neg (by omega), h]; rfl
    · rw [if_pos h, h]; rfl
section XGO
variable {p : Program} {l : Launch} {e : Env} {R : Room} {s : State} {m : MethodId} {args : Array Value} {below : List Frame} {meth : Method} {c : Code} {H : Heap} {locs : List Loc} {cells slots : Nat} {Q : State → Prop}
variable {pc : Nat} {ls : Array Slot} {rest st0 : List Value} {D : va_G} {g : XG} {σ' : XW} {mc ms : Nat} {a : Array Value} {o : XO}
theorem xgo (hr : vx_Run p l e R s m args below meth c H locs cells slots mc ms (F0 m pc ls st0) rest (xQo g D o σ' a) (xXo g D o σ') (xA g)) (hS : va_S (xA g) s.heap H locs)
    (kx : ∀ E, o = .inr E → E < 4 → ∀ (H1 : Heap) (locs1 : List Loc) (q : Addr) (ce : Cell), xH g D xcl σ' s H1 locs1 → H1[q]? = some ce → ce.vm = .none → s.vm.findClass (xexc E) = some ce.cls → vx_W p l e R s m args below meth c H1 locs1 (cells + mc) (slots + ms) Q (F0 m pc ls rest) q)
    (kk : ∀ r, o = .inl r → ∀ (H1 : Heap) (locs1 : List Loc), xH g D xcl σ' s H1 locs1 → W p l e R s m args below meth c H1 locs1 (cells + mc) (slots + ms) Q (F0 m (pc + 3) ls ((r.map (xrv g.1 g.2.1)).toList ++ rest))) : W p l e R s m args below meth c H locs cells slots Q (F0 m pc ls st0) := by
  intro T hT X
  rcases hr T hT X with ⟨v, st₀, t, T', L, h0, X', hL, e1, e2, hq, st⟩ | ⟨q, st₀, t, T', L, E', ce, h0, X', hL, e1, e2, hq, hce, hcv, hcl, st⟩
  · cases o with
    | inr E => exact hq.elim
    | inl r =>
      obtain ⟨hv, hR, hsz, hF⟩ := hq
      cases hv
      obtain ⟨k1, k2, k3⟩ := vx_keep h0 e1 hS (fun _ _ h => h) (fun _ h => h) hL hF
      obtain ⟨t2, a1, b1⟩ := kk r rfl T'.heap (locs ++ L) ⟨by rw [e1]; exact hR, k3, fun h => by rw [e1]; exact hsz h⟩ T' rfl X'
      exact ⟨t2, st t2 a1, b1⟩
  · cases o with
    | inl r => exact hq.elim
    | inr E =>
      obtain ⟨hv, hE4, hR, hsz, hF⟩ := hq
      subst hv
      obtain ⟨k1, k2, k3⟩ := vx_keep h0 e1 hS (fun _ _ h => h) (fun _ h => h) hL hF
      obtain ⟨t2, a1, b1⟩ := kx E rfl hE4 T'.heap (locs ++ L) q ce ⟨by rw [e1]; exact hR, k3, fun h => by rw [e1]; exact hsz h⟩ (by rw [e1]; exact hce) hcv hcl T' rfl X'
      exact ⟨t2, st.trans a1, b1⟩
/-- what a callee is given -/
theorem xgive {xs : List Int32} {σ : XW} (hI : xI g D xs s) (hH : xH g D xcl σ s H locs) {av : List Value} {a : Array Value} (ha : a = (xst g.1 g.2.1 av).toArray) (U : State) (hU : U.heap = H) (hW : s.WarmedH U.vm) : xPc g D xs av σ a U :=
  ⟨ha, hI.move hW (by rw [hU]; exact hH.2.1.1) (fun q h1 h2 => by rw [hU]; exact hH.2.1.2.1 q h1 h2), by rw [hU]; exact hH.1, fun h => by rw [hU]; exact hH.2.2 h⟩
end XGO
/-- a body that returns or throws, by what the class's natives say of the method alone -/
theorem xofW {l : Launch} {y : MethodName} {w : Cond} {rm : Room} {Pc : Array Value → State → Prop} {Qc : Array Value → State → Outcome → State → Prop} {XC : String → State → State → Prop} {mc ms : Nat} {free : Addr → Prop} {cc : ByteArray} {maxL : Nat} {ret : Option FieldType} {hh : List (Nat × Nat × Nat × Nat)}
    (hy : plainFor y = true) (hw : (w = Cond.code y cc maxL ret ∧ hh = []) ∨ w = Cond.codeWith y cc maxL ret hh)
    (body : ∀ p e s m args below meth c s₁, BodyLoose p l y (headSpec [w] rm) cc maxL ret e s m args below meth c s₁ → c.maxLocals = maxL → c.exceptionTable.toList = tableOf hh → Pc args s →
      W p l e (headSpec [w] rm).room s m args below meth c s.heap [] 0 0 (vx_MQ below Qc XC args s mc ms free) (entryFrame m args maxL)) : vx_Met l y [w] rm Pc Qc XC mc ms free := by
  refine MetFree.of_bodySF (code := cc) (maxLocals := maxL) (ret := ret) hy ?_ ?_
  · intro args s m h hn
    rcases hw with ⟨hw, -⟩ | hw
    · obtain ⟨meth, c, h1, h2, h3, h4, h5, h6, -, -⟩ := Cond.code_spec hn (atoms_spec (ws := [w]) h _ (by rw [hw]; exact List.mem_cons_self))
      exact ⟨meth, c, h1, h2, h3, h4, h5, h6⟩
    · obtain ⟨m9, meth, c, hn9, h1, h2, h3, h4, -, h5, h6, -⟩ := Cond.codeWith_spec (atoms_spec (ws := [w]) h _ (by rw [hw]; exact List.mem_cons_self))
      cases hn.symm.trans hn9
      exact ⟨meth, c, h1, h2, h3, h4, h5, h6⟩
  · intro p e s m args below meth c s₁ B hml hP _
    have hh0 : s₁.heap = s.heap := by rw [B.state]; rfl
    have ht : c.exceptionTable.toList = tableOf hh := by
      rcases hw with ⟨hw, hh0⟩ | hw
      · subst hh0
        obtain ⟨meth9, c9, h1, h2, -, -, -, -, h7, -⟩ := Cond.code_spec B.named (atoms_spec (ws := [w]) B.pre _ (by rw [hw]; exact List.mem_cons_self))
        cases Option.some.inj (h1.symm.trans B.method)
        cases Option.some.inj (h2.symm.trans (Stand.of_body B).code)
        rw [Array.isEmpty_iff.mp h7]
        rfl
      · exact vx_table (x := y) B (atoms_spec (ws := [w]) B.pre (Cond.codeWith y cc maxL ret hh) (by rw [hw]; exact List.mem_cons_self))
    obtain ⟨t, a1, o, b1, b2, b3⟩ := body p e s m args below meth c s₁ B hml ht hP s₁ hh0 (Stand.of_body B)
    exact ⟨t, o, a1, b1, b2, b3⟩
