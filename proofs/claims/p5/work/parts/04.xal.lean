/-! Making cells, copying rows, the script. -/
theorem xarr_congr (cA : ClassId) {N : Nat} {f f' : Nat → Value} (h : ∀ j, j < N → f j = f' j) : arrV cA N f = arrV cA N f' := by
  unfold arrV
  congr 1
  apply congrArg
  funext j
  exact h j.1 j.2
def xcpy (f g : List Value) (sp dp n : Nat) : List Value := g.take dp ++ ((f.drop sp).take n ++ g.drop (dp + n))
theorem xcpy_len {f g : List Value} {sp dp n : Nat} (h1 : sp + n ≤ f.length) (h2 : dp + n ≤ g.length) : (xcpy f g sp dp n).length = g.length := by
  unfold xcpy
  simp only [List.length_append, List.length_take, List.length_drop]
  omega
theorem xcpy_at {f g : List Value} {sp dp n : Nat} (h1 : sp + n ≤ f.length) (h2 : dp + n ≤ g.length) (q : Nat) : (xcpy f g sp dp n)[q]? = if dp ≤ q ∧ q < dp + n then f[sp + (q - dp)]? else g[q]? := by
  unfold xcpy
  by_cases ha : q < dp
  · rw [if_neg (by omega), List.getElem?_append_left (by simp only [List.length_take]; omega), List.getElem?_take_of_lt ha]
  · rw [List.getElem?_append_right (by simp only [List.length_take]; omega)]
    have e1 : (g.take dp).length = dp := by simp only [List.length_take]; omega
    rw [e1]
    by_cases hb : q < dp + n
    · rw [if_pos (by omega), List.getElem?_append_left (by simp only [List.length_take, List.length_drop]; omega), List.getElem?_take_of_lt (by omega), List.getElem?_drop]
    · rw [if_neg (by omega), List.getElem?_append_right (by simp only [List.length_take, List.length_drop]; omega)]
      have e2 : ((f.drop sp).take n).length = n := by simp only [List.length_take, List.length_drop]; omega
      rw [e2, List.getElem?_drop]
      congr 1
      omega
theorem xF_cpy {g : XG} {f h : List Value} {sp dp n : Nat} (h1 : sp + n ≤ f.length) (h2 : dp + n ≤ h.length) : va_cpy (xF g f) (xF g h) sp dp n = xF g (xcpy f h sp dp n) := by
  funext q
  unfold va_cpy xF
  rw [List.getD_eq_getElem?_getD (l := xcpy f h sp dp n), xcpy_at h1 h2]
  split
  · rw [List.getD_eq_getElem?_getD]
  · rw [List.getD_eq_getElem?_getD]
/-- all that is copied fits the row's type -/
def xfa (t : Nat) (l : List Value) : Bool := l.all (fun v => match v with
  | .int _ => Nat.beq t 100
  | .long _ => Nat.beq t 101
  | _ => false)
theorem xfa_ok {g : XG} {t : Nat} {l : List Value} (h : xfa t l = true) {i : Nat} (hi : i < l.length) : fits (xat t) (xF g l i) = true ∧ refKind (xat t) = false := by
  have h1 := List.all_eq_true.mp h (l[i]) (List.getElem_mem hi)
  rw [xF_at (List.getElem?_eq_getElem hi)]
  generalize l[i] = v at h1 ⊢
  cases v with
  | int x =>
    have e := Nat.eq_of_beq_eq_true h1
    subst e
    exact ⟨rfl, rfl⟩
  | long x =>
    have e := Nat.eq_of_beq_eq_true h1
    subst e
    exact ⟨rfl, rfl⟩
  | _ => cases h1
theorem xnn {z : Int32} (hz : ¬ z < 0) : z.toInt = (z.toNatClampNeg : Int) := by
  have hz0 : (0 : Int) ≤ z.toInt := by
    have := Int32.not_lt.mp hz
    simpa using Int32.le_iff_toInt_le.mp this
  show z.toInt = ((z.toInt.toNat : Nat) : Int)
  omega
section XAL
variable {p : Program} {l : Launch} {e : Env} {R : Room} {s : State} {m : MethodId} {args : Array Value} {below : List Frame} {meth : Method} {c : Code} {H : Heap} {locs : List Loc} {cells slots : Nat} {Q : State → Prop}
variable {cc : ByteArray} {pc : Nat} {ls : Array Slot} {rest : List Value} {D : va_G} {cl : List vw_C} {g : XG} {σ : XW} {k : Nat}
theorem xpush {x : XE} {H1 : Heap} (hH : xH g D cl σ s H locs) (hf : σ.1 = true) (he : xAt g D cl H.size x H1) (z : H1.size = H.size + 1) (oq : ∀ q, q < H.size → H1[q]? = H[q]?) : xH g D cl (true, σ.2 ++ [x]) s H1 locs := by
  have e0 := hH.2.2 hf
  refine ⟨hH.1.push (by rw [← e0]; exact he) oq, ⟨Nat.le_trans hH.2.1.1 (by omega), fun q h1 h2 => (oq q (Nat.lt_of_lt_of_le h1 hH.2.1.1)).trans (hH.2.1.2.1 q h1 h2), hH.2.1.2.2⟩, fun _ => ?_⟩
  rw [z, e0, List.length_append]
  rfl
theorem xnew (hexec : p.tables.exec = Jvm.exec) (hb : c.code = cc) {own C : String} {T : u_T} {N ci index : Nat} {Ts : List Cond} (hts : ∀ w ∈ Ts, w.before args s = true) (hin : ∀ w ∈ u_ws C T N, w ∈ Ts) (ty : Nat → FieldType) (hty : ∀ k, k < N → parseFieldDescriptor (T k).2.2.1 = some (ty k)) (hown : s.vm.findClass own = some m.cls) (hcl : (Cond.classLink own index C).before args s = true) (hinst : (Cond.instantiable C N).before args s = true) (hini : (Cond.initialized C).before args s = true)
    (hK : va_K D cl (xty g) s) (hH : xH g D cl σ s H locs) (hf : σ.1 = true) (hci : ci < 100) (hc : cl[ci]? = some (C, T, N)) {fs : List Value} (hfs : ∀ j, j < N → defaultValue (ty j) = xF g fs j) (hcells : cells + 1 ≤ R.cells) (hslots : slots + N ≤ R.slots) (hdg : decode cc pc = .ok (.new index, 3))
    (kk : ∀ H1 : Heap, xH g D cl (true, σ.2 ++ [(ci, fs)]) s H1 locs → W p l e R s m args below meth c H1 locs (cells + 1) (slots + N) Q (F0 m (pc + 3) ls (.ref (g.1 + σ.2.length) :: rest))) : W p l e R s m args below meth c H locs cells slots Q (F0 m pc ls rest) := by
  have hKn := hK.1 ci _ hc
  refine W.newcK hexec hb hown hcl hinst hini rfl hdg hcells hslots hKn.2.1 rfl fun H1 kC hkC e1 z1 o1 => ?_
  have e0 := hH.2.2 hf
  have h9 := kk H1 (xpush hH hf (x := (ci, fs)) (by
    unfold xAt
    rw [if_pos (by exact hci)]
    exact ⟨_, hc, (u_born ty hts hin hKn hkC e1 hty).to hfs⟩) z1 o1)
  rw [← e0] at h9
  exact h9
theorem xnewa (hexec : p.tables.exec = Jvm.exec) (hb : c.code = cc) {atype : ArrayType} {t : Nat} (hty : newarray.typeOf atype = xat t) (hRA : ∀ cA, va_RA s cA (xat t) → s.vm.findClass ("[" ++ (xat t).toString) = some cA) (ht : 100 ≤ t) (harr : (Cond.arrayClass (newarray.typeOf atype)).before args s = true)
    (hK : va_K D cl (xty g) s) (hH : xH g D cl σ s H locs) (hf : σ.1 = true) {n : Int32} {N : Nat} (hn : ¬ n < 0) (hN : n.toNatClampNeg = N) (hsm : N * 8 ≤ 536870912) (hcb : componentBytes (newarray.typeOf atype) ≤ 8) {v : Value} (hv : xrv g.1 g.2.1 v = defaultValue (xat t)) (hcells : cells + 1 ≤ R.cells) (hslots : slots + N ≤ R.slots) (hdg : decode cc pc = .ok (.newarray atype, 2))
    (kk : ∀ H1 : Heap, xH g D cl (true, σ.2 ++ [(t, List.replicate N v)]) s H1 locs → W p l e R s m args below meth c H1 locs (cells + 1) (slots + N) Q (F0 m (pc + 2) ls (.ref (g.1 + σ.2.length) :: rest))) : W p l e R s m args below meth c H locs cells slots Q (F0 m pc ls (.int n :: rest)) := by
  refine va_newaK hexec hb harr rfl hdg rfl hn hN (Nat.le_trans (Nat.mul_le_mul_left N hcb) hsm) hcells hslots rfl fun H1 cA e1 z1 o1 hAr hNm => ?_
  have e0 := hH.2.2 hf
  have ec : cA = xtc g t := Option.some.inj (hNm.symm.trans (by rw [hty]; exact hRA _ (xK_at hK t).2))
  subst ec
  have h9 := kk H1 (xpush hH hf (x := (t, List.replicate N v)) (by
    unfold xAt
    rw [if_neg (by exact Nat.not_lt.mpr ht)]
    show H1[H.size]? = some (arrV (xtc g t) (List.replicate N v).length (xF g (List.replicate N v)))
    rw [e1, List.length_replicate]
    refine congrArg some (xarr_congr _ (fun j hj => ?_))
    rw [xF_at (v := v) (by rw [List.getElem?_replicate, if_pos hj]), hv, hty]) z1 o1)
  rw [← e0] at h9
  exact h9
theorem xanew (hexec : p.tables.exec = Jvm.exec) (hb : c.code = cc) {own : String} {index : Nat} (hown : s.vm.findClass own = some m.cls) (hclink : (Cond.classLink own index "RoverLocator$State").before args s = true) (hover : (Cond.arrayOver (.object "RoverLocator$State")).before args s = true)
    (hK : va_K D cl (xty g) s) (hH : xH g D cl σ s H locs) (hf : σ.1 = true) {n : Int32} {N : Nat} (hn : ¬ n < 0) (hN : n.toNatClampNeg = N) (hsm : N * 4 ≤ 536870912) (hcells : cells + 1 ≤ R.cells) (hslots : slots + N ≤ R.slots) (hdg : decode cc pc = .ok (.anewarray index, 3))
    (kk : ∀ H1 : Heap, xH g D cl (true, σ.2 ++ [(103, List.replicate N .null)]) s H1 locs → W p l e R s m args below meth c H1 locs (cells + 1) (slots + N) Q (F0 m (pc + 3) ls (.ref (g.1 + σ.2.length) :: rest))) : W p l e R s m args below meth c H locs cells slots Q (F0 m pc ls (.int n :: rest)) := by
  subst hN
  refine W.anew hexec hb hown hclink hover rfl hdg rfl hn hsm hcells hslots fun cA kA comp f1 f2 f3 f4 => ?_
  have e0 := hH.2.2 hf
  obtain ⟨kA', comp', k1, k2, k3, k4⟩ := (xK_at hK 103).2
  have ec : cA = xtc g 103 := Option.some.inj (f1.symm.trans k4)
  subst ec
  generalize hH1 : H.push ({ cls := xtc g 103, slots := Array.replicate n.toNatClampNeg .null, vm := .none } : Cell) = H1
  have z1 : H1.size = H.size + 1 := by rw [← hH1, Array.size_push]
  have e1 : H1[H.size]? = some (arrV (xtc g 103) n.toNatClampNeg (fun _ => .null)) := by rw [← hH1, Array.getElem?_push_size, ← arrV_new]
  have o1 : ∀ q : Nat, q < H.size → H1[q]? = H[q]? := fun q hq => by rw [← hH1, Array.getElem?_push, if_neg (Nat.ne_of_lt hq)]
  have h9 := kk H1 (xpush hH hf (x := (103, List.replicate n.toNatClampNeg .null)) (by
    unfold xAt
    rw [if_neg (show ¬ (103 : Nat) < 100 by decide)]
    show H1[H.size]? = some (arrV (xtc g 103) (List.replicate n.toNatClampNeg Value.null).length (xF g (List.replicate n.toNatClampNeg Value.null)))
    rw [e1, List.length_replicate]
    refine congrArg some (xarr_congr _ (fun j hj => ?_))
    rw [xF_at (v := .null) (by rw [List.getElem?_replicate, if_pos hj])]
    rfl) z1 o1)
  rw [← e0] at h9
  exact h9
set_option maxHeartbeats 1000000 in
theorem xacpy (hexec : p.tables.exec = Jvm.exec) (hb : c.code = cc) (hml : c.maxLocals = ls.size) {own : String} {index : Nat} (hown : s.vm.findClass own = some m.cls) (hlink : (Cond.methodLink own index arraycopyName).before args s = true) (hnat : (Cond.native arraycopyName).before args s = true) (hstat : (Cond.static arraycopyName).before args s = true) (hini : (Cond.initialized "java/lang/System").before args s = true)
    (hK : va_K D cl (xty g) s) (hH : xH g D cl σ s H locs) {k0 t : Nat} {f0 f1 : List Value} (he0 : σ.2[k0]? = some (t, f0)) (he1 : σ.2[k]? = some (t, f1)) (ht : 100 ≤ t) (hfa : xfa t f0 = true) (hne : 0 < f0.length)
    {sp dp n : Int32} (h1 : ¬ sp < 0) (h2 : ¬ dp < 0) (h3 : ¬ n < 0) (h4 : sp.toNatClampNeg + n.toNatClampNeg ≤ f0.length) (h5 : dp.toNatClampNeg + n.toNatClampNeg ≤ f1.length)
    (hframes : 1 ≤ R.frames) (hlocals : (rest.map fun v => v.category).sum + 30 ≤ R.locals) (hdg : decode cc pc = .ok (.invokestatic index, 3))
    (kk : ∀ (H1 : Heap) (locs1 : List Loc), xH g D cl (σ.1, σ.2.set k (t, xcpy f0 f1 sp.toNatClampNeg dp.toNatClampNeg n.toNatClampNeg)) s H1 locs1 → W p l e R s m args below meth c H1 locs1 cells slots Q (F0 m (pc + 3) ls rest)) : W p l e R s m args below meth c H locs cells slots Q (F0 m pc ls (.int n :: .int dp :: .ref (g.1 + k) :: .int sp :: .ref (g.1 + k0) :: rest)) := by
  intro T hT X
  have hc0 := hH.1.arr he0 ht
  have hc1 := hH.1.arr he1 ht
  obtain ⟨-, c0, hk0, cm0, hkk0⟩ := (xK_at hK t).1 f0.length (xF g f0)
  obtain ⟨-, c1, hk1, cm1, hkk1⟩ := (xK_at hK t).1 f1.length (xF g f1)
  have hprim := (xfa_ok (g := g) hfa hne).2
  have hw : nativeFrameWords "java/lang/System" "arraycopy" 5 ≤ 19 := by decide
  obtain ⟨vm', X', step⟩ := X.arraycopy hexec hown hlink hnat hstat hini (src := g.1 + k0) (dst := g.1 + k) (cs := arrV (xtc g t) f0.length (xF g f0)) (cd := arrV (xtc g t) f1.length (xF g f1)) (srcPos := sp) (destPos := dp) (n := n) (by rw [hT]; exact hc0) (by rw [hT]; exact hc1)
    (fun _ h => by cases h) (fun _ h => by cases h) (fun h => by cases h) (fun h => by cases h) hk0 hk1 hkk0 hkk1 (by simp [hprim]) h1 h2 h3
    (by rw [xnn h1, xnn h3, arrV_size]; omega)
    (by rw [xnn h2, xnn h3, arrV_size]; omega)
    (fun vm₁ _ i hi => by
      have hi' : sp.toNatClampNeg + i < f0.length := by omega
      have e : (arrV (xtc g t) f0.length (xF g f0)).slots.getD (sp.toNatClampNeg + i) .null = xF g f0 (sp.toNatClampNeg + i) := by
        rw [Array.getD_eq_getD_getElem?, arrV_read _ _ hi']
        rfl
      have hfit := (xfa_ok (g := g) hfa hi').1
      refine ⟨?_, ?_⟩
      · rw [e]
        exact hfit
      · rw [e]
        have h6 := List.all_eq_true.mp hfa (f0[sp.toNatClampNeg + i]) (List.getElem_mem hi')
        rw [xF_at (List.getElem?_eq_getElem hi')]
        generalize f0[sp.toNatClampNeg + i] = v at h6 ⊢
        cases v with
        | int x => exact trivial
        | long x => exact trivial
        | _ => cases h6)
    (g := F0 m pc ls (.int n :: .int dp :: .ref (g.1 + k) :: .int sp :: .ref (g.1 + k0) :: rest)) rfl (by rw [hml]) (rest := rest) rfl (by rw [hb]; exact hdg) hframes (by show 2 * 0 + _ + _ ≤ _; omega)
  have e1 : copied (arrV (xtc g t) f0.length (xF g f0)) (arrV (xtc g t) f1.length (xF g f1)) sp dp n = arrV (xtc g t) f1.length (va_cpy (xF g f0) (xF g f1) sp.toNatClampNeg dp.toNatClampNeg n.toNatClampNeg) := va_copied (fun z => z) (xtc g t) (xtc g t) (xF g f0) (xF g f1) h4
  rw [e1] at X' step
  have hl : g.1 + k < H.size := (Array.getElem?_eq_some_iff.mp hc1).1
  have hheap : ((T.setVm vm').setCell (g.1 + k) (arrV (xtc g t) f1.length (va_cpy (xF g f0) (xF g f1) sp.toNatClampNeg dp.toNatClampNeg n.toNatClampNeg))).heap = H.setIfInBounds (g.1 + k) (arrV (xtc g t) f1.length (va_cpy (xF g f0) (xF g f1) sp.toNatClampNeg dp.toNatClampNeg n.toNatClampNeg)) := by rw [← hT]; rfl
  have oq : ∀ q : Nat, q ≠ g.1 + k → (H.setIfInBounds (g.1 + k) (arrV (xtc g t) f1.length (va_cpy (xF g f0) (xF g f1) sp.toNatClampNeg dp.toNatClampNeg n.toNatClampNeg)))[q]? = H[q]? := fun q hq => by simp [Array.getElem?_setIfInBounds, Ne.symm hq]
  obtain ⟨t9, a1, b1⟩ := kk _ _ ⟨hH.1.set (by
      unfold xAt
      rw [if_neg (by exact Nat.not_lt.mpr ht)]
      show (H.setIfInBounds (g.1 + k) _)[g.1 + k]? = some (arrV (xtc g t) (xcpy f0 f1 sp.toNatClampNeg dp.toNatClampNeg n.toNatClampNeg).length (xF g (xcpy f0 f1 sp.toNatClampNeg dp.toNatClampNeg n.toNatClampNeg)))
      rw [xcpy_len h4 h5, ← xF_cpy h4 h5]
      simp [Array.getElem?_setIfInBounds, hl]) oq, ⟨by simp; exact hH.2.1.1, fun q g1 g2 => by
      rw [oq q (fun e => g2 (by rw [e]; exact Nat.le_add_right _ _))]
      exact hH.2.1.2.1 q g1 g2, fun q hq => by
      rcases List.mem_append.mp hq with h | h
      · exact hH.2.1.2.2 q h
      · obtain ⟨z, -, hz⟩ := List.mem_map.mp h
        rw [← hz]
        exact Nat.le_add_right _ _⟩, fun h => by simp; exact hH.2.2 h⟩ _ hheap X'
  exact ⟨t9, step t9 a1, b1⟩
end XAL
