/-! THE CLAIM OUT OF ONE WALK OF THE LAW'S BODY. Your part is whole_start (and what it stands on); all else here is the same for every law, but numbers. -/
def R_law : String := "RoverLocatorLaw"
def lw_P (b : Addr) (xs : List Int32) (args : Array Value) (s : State) : Prop := args = #[.ref b] ∧ s.IntsAt b xs ∧ xs.length ≤ 2048 ∧ (Jvm.Cond.and given_1 narrow_1).before args s = true
/-- what a walk over the start with the record d0 says of its end, said of the start itself -/
theorem lw_closed {s t : State} {o : Outcome} {d0 : Drawn} {L : List Loc} {k n : Nat} (hd0 : s.drawn.sameBut d0 lw_cs) (hv : ∃ v, o = .returned v) (hW : (s.setDrawn d0).WarmedH t.vm) (hs : (s.setDrawn d0).sameButNew ({ t with vm := s.vm } : State) L k n) : State.butDraws s t lw_cs (fun t1 => Framed s o t1 L k n) := by
  have h2 : t.drawn = d0 := congrArg State.drawn hs.1
  refine ⟨⟨hv, hW, State.sameButNew.setDrawn hs s.drawn⟩, ?_, by decide⟩
  rw [h2]
  exact hd0
def lw_Q (_ : Array Value) (s : State) (o : Outcome) (t : State) : Prop := o = .returned (some (.int 1)) ∧ State.butDraws s t lw_cs (fun t1 => Framed s o t1 [] 601024 7293034)
def lw_Z (below : List Frame) (a : Array Value) (s : State) : State → Prop := fun t => ∃ o, t.status = .running ∧ Ended t below o ∧ lw_Q a s o t
/-- the law's own end, with 1 on the stack, nothing written that was there before, its room as the claim has it; d0: the record of draws at this point (at the entry s.drawn: begin with 'refine W.base ?_' and 'have hd0 := Drawn.sameBut.refl s.drawn lw_cs') -/
theorem lw_ret {p : Program} {l : Launch} {e : Env} {s : State} {m : MethodId} {below : List Frame} {meth : Method} {c : Code} {b : Nat} {d0 : Drawn} (hd0 : s.drawn.sameBut d0 lw_cs) (hx : p.tables.exec = Jvm.exec) (hb : c.code = code) (hr : meth.sig.returnType = ret) (hlocks : meth.locks = false) {pc : Nat} {H : Heap} {ls : Array Slot} (hdg : decode code pc = .ok (.ireturn, 1)) : W p l e room_1 (s.setDrawn d0) m #[Value.ref b] below meth c H [] 601024 7293034 (lw_Z below #[Value.ref b] s) (F0 m pc ls [.int 1]) := by
  intro T hT X
  obtain ⟨fs, hret, hrun, hended, hW, hframe⟩ := X.leave (v := some (.int 1)) (hlocks := hlocks) (fun h => by rw [hr] at h; cases h)
  have hmeth' : T.vm.method? m = some meth := X.method'
  refine ⟨T.setFrames fs, ?_, .returned (some (.int 1)), hrun, hended, rfl, lw_closed hd0 ⟨_, rfl⟩ hW hframe⟩
  jvm_step X.here [X.here.top, hx, hb, hdg, hmeth', hr, ret, narrow_b1]
  (try refine ⟨rfl, ?_⟩); (try refine ⟨rfl, ?_⟩)
  first | (intro acts; rw [hret _ acts rfl rfl rfl]) | rw [hret _ _ rfl rfl rfl]
  exact Steps.refl _
/-- what holds at the law's entry: the machine, the code, the tables' words (any of lw_tbl by 'hts w (by decide +kernel)'), the script of L ints xs at the cell b, what the Statement gives of the start (any of its parts by flat_of_before) -/
def lw_At (p : Program) (s : State) (m : MethodId) (meth : Method) (c : Code) (b L : Nat) (xs : Nat → Int32) : Prop :=
  p.tables.exec = Jvm.exec ∧ c.code = code ∧ meth.sig.returnType = ret ∧ c.maxLocals = 8 ∧ s.vm.findClass R_law = some m.cls ∧ (∀ w ∈ lw_tbl, w.before #[Value.ref b] s = true) ∧ va_X b L xs s s.heap ∧ b < s.heap.size ∧ meth.locks = false ∧ (Jvm.Cond.and given_1 narrow_1).before #[Value.ref b] s = true
set_option maxHeartbeats 1000000 in
theorem whole_startX {p : Program} {e : Env} {s : State} {m : MethodId} {below : List Frame} {meth : Method} {c : Code} (l : Launch) (hflags : l.flags = flags0) {b L : Nat} {xs : Nat → Int32} (hlaw : ∃ d n, xlaw ((List.range L).map xs) d n = true) (C0 : lw_At p s m meth c b L xs) (hnm : meth.name = (xY 256).name) (htab : c.exceptionTable.toList = []) : W p l e room_1 s m #[Value.ref b] below meth c s.heap [] 0 0 (lw_Z below #[Value.ref b] s) (entryFrame m ([Value.ref b] : List Value).toArray 8) := by
  obtain ⟨hx, hb, hr, hml, hown, hts, hX, hbl, hlocks, hgv⟩ := id C0
  obtain ⟨g, D, e1, e2, hI⟩ := x_start hts hX hbl hgv
  have hl0 : l.stackTraces = false := by unfold Launch.stackTraces; rw [hflags]; decide +kernel
  have hd0 := Drawn.sameBut.refl s.drawn lw_cs
  obtain ⟨d, n, hlaw⟩ := hlaw
  generalize (List.range L).map xs = XS at hI hlaw
  unfold xlaw at hlaw
  split at hlaw
  · next pc ls v cu su σ hit =>
    split at hlaw
    · next ent hent =>
      obtain ⟨hv, h9⟩ := xand hlaw
      obtain ⟨hcu, hsu⟩ := xand h9
      have hv := xdb hv
      have hcu := xble hcu
      have hsu := xble hsu
      subst hv
      have F : xFx p l s m meth c g D XS 256 := ⟨hx, by rw [hb]; rfl, hml.trans (by decide +kernel), by rw [show xcn (xK 256) = R_law from by decide +kernel]; exact hown, hnm, hlocks, by rw [htab]; rfl, hI, hl0, hr.trans (by decide +kernel)⟩
      obtain ⟨z', h1, h2⟩ := (x_iter (Q := lw_Z below #[Value.ref b] s) (args := #[Value.ref b]) (e := e) (below := below) F (x_sound l g D XS hl0 d) n _).2 _ hit
      have hz := xinr h1
      subst hz
      have hfin : xWc p l e s m #[Value.ref b] below meth c (lw_Z below #[Value.ref b] s) g D 256 (pc, ls, [.int 1], cu, su, σ) := by
        intro lsA H locs hl hH
        have hdec := (xent_dec hent).1
        have hlen := (xent_at hent).2.1
        have e1' : ent.1 = 1 := xbe hlen
        rw [show ((Instr.ireturn, ent) : XEn).2.1 = 1 from e1'] at hdec
        refine va_forget (fun q hq => by rw [← e1]; exact hH.2.1.2.2 q hq) ?_
        refine W.widen (k := 601024) (n := 7293034) hcu hsu ?_
        exact lw_ret hd0 hx hb hr hlocks hdec
      have h3 := h2 hfin
      have h4 := lv_entry (xst g.1 g.2.1 [.retAddr 0]) (n := 8) (Nat.le_of_ble_eq_true rfl)
      rw [← xarg_eq] at h4
      have h5 := h3 _ s.heap [] h4 ⟨(fun k x h => by cases h), va_S.rf, fun _ => e1.symm⟩
      rw [show entryFrame m ([Value.ref b] : List Value).toArray 8 = F0 m 0 ((lg_sl (xst g.1 g.2.1 [.retAddr 0]) ++ List.replicate (8 - (lg_sl (xst g.1 g.2.1 [.retAddr 0])).length) Slot.unset).toArray) [] from by rw [lg_entry_eq, ← e2]; rfl]
      exact h5
    · cases hlaw
  · cases hlaw
