/-! The world of the machine of numbers, and the steps that read and write it. -/
/-- b0: where the cells begin; b: the script; the classes of the arrays of ints, longs, chars, and of the class's own objects -/
abbrev XG : Type := Nat × Nat × ClassId × ClassId × ClassId × ClassId
def xF (g : XG) (l : List Value) : Nat → Value := fun j => xrv g.1 g.2.1 (l.getD j .null)
def xtc (g : XG) (t : Nat) : ClassId := if t = 100 then g.2.2.1 else if t = 101 then g.2.2.2.1 else if t = 102 then g.2.2.2.2.1 else g.2.2.2.2.2
def xty (g : XG) : List (ClassId × FieldType) := [(g.2.2.1, .int), (g.2.2.2.1, .long), (g.2.2.2.2.1, .char), (g.2.2.2.2.2, .object "RoverLocator$State")]
def xAt (g : XG) (D : va_G) (cl : List vw_C) (a : Nat) (x : XE) (H : Heap) : Prop :=
  if x.1 < 100 then ∃ r : vw_C, cl[x.1]? = some r ∧ t_OB a (D.1 x.1) r.2.2 (D.2 x.1) H (xF g x.2) else H[a]? = some (arrV (xtc g x.1) x.2.length (xF g x.2))
def xR (g : XG) (D : va_G) (cl : List vw_C) (cs : List XE) (H : Heap) : Prop := ∀ (k : Nat) (x : XE), cs[k]? = some x → xAt g D cl (g.1 + k) x H
abbrev xA (g : XG) : Nat → Prop := fun q => g.1 ≤ q
def xH (g : XG) (D : va_G) (cl : List vw_C) (σ : XW) (s : State) (H : Heap) (locs : List Loc) : Prop := xR g D cl σ.2 H ∧ va_S (xA g) s.heap H locs ∧ (σ.1 = true → H.size = g.1 + σ.2.length)
theorem xF_at {g : XG} {l : List Value} {j : Nat} {v : Value} (h : l[j]? = some v) : xF g l j = xrv g.1 g.2.1 v := by
  unfold xF
  rw [List.getD_eq_getElem?_getD, h]
  rfl
theorem xF_set {g : XG} {l : List Value} {j : Nat} {v : Value} (h : j < l.length) : xF g (l.set j v) = updV (xF g l) j (xrv g.1 g.2.1 v) := by
  funext q
  unfold xF updV
  by_cases hq : q = j
  · subst hq
    rw [if_pos rfl, List.getD_eq_getElem?_getD, List.getElem?_set_self h]
    rfl
  · rw [if_neg hq, List.getD_eq_getElem?_getD, List.getElem?_set_ne (Ne.symm hq), ← List.getD_eq_getElem?_getD]
theorem xAt.kept {g : XG} {D : va_G} {cl : List vw_C} {a : Nat} {x : XE} {H H1 : Heap} (h : xAt g D cl a x H) (hq : H1[a]? = H[a]?) : xAt g D cl a x H1 := by
  unfold xAt at h ⊢
  split at h
  · next h1 =>
    rw [if_pos h1]
    obtain ⟨r, h2, h3⟩ := h
    exact ⟨r, h2, h3.kept hq⟩
  · next h1 =>
    rw [if_neg h1]
    exact hq.trans h
theorem xAt.lt {g : XG} {D : va_G} {cl : List vw_C} {a : Nat} {x : XE} {H : Heap} (h : xAt g D cl a x H) : a < H.size := by
  unfold xAt at h
  split at h
  · obtain ⟨r, h2, cell, h3, -⟩ := h
    exact (Array.getElem?_eq_some_iff.mp h3).1
  · exact (Array.getElem?_eq_some_iff.mp h).1
theorem xR.set {g : XG} {D : va_G} {cl : List vw_C} {cs : List XE} {H H1 : Heap} {k : Nat} {x : XE} (h : xR g D cl cs H) (he : xAt g D cl (g.1 + k) x H1) (oq : ∀ q : Nat, q ≠ g.1 + k → H1[q]? = H[q]?) : xR g D cl (cs.set k x) H1 := by
  intro j y hj
  by_cases hjk : j = k
  · subst hjk
    have hl : j < cs.length := by
      have := (List.getElem?_eq_some_iff.mp hj).1
      simpa using this
    rw [List.getElem?_set_self hl] at hj
    cases hj
    exact he
  · rw [List.getElem?_set_ne (Ne.symm hjk)] at hj
    exact (h j y hj).kept (oq _ (by omega))
theorem xR.push {g : XG} {D : va_G} {cl : List vw_C} {cs : List XE} {H H1 : Heap} {x : XE} (h : xR g D cl cs H) (he : xAt g D cl (g.1 + cs.length) x H1) (oq : ∀ q : Nat, q < H.size → H1[q]? = H[q]?) : xR g D cl (cs ++ [x]) H1 := by
  intro j y hj
  by_cases hjk : j < cs.length
  · rw [List.getElem?_append_left hjk] at hj
    have h1 := h j y hj
    exact h1.kept (oq _ h1.lt)
  · rw [List.getElem?_append_right (by omega)] at hj
    have hz : j - cs.length < 1 := (List.getElem?_eq_some_iff.mp hj).1
    have e : j = cs.length := by omega
    subst e
    rw [Nat.sub_self] at hj
    cases hj
    exact he
theorem xR.kept {g : XG} {D : va_G} {cl : List vw_C} {cs : List XE} {H H1 : Heap} (h : xR g D cl cs H) (oq : ∀ q : Nat, q < H.size → H1[q]? = H[q]?) : xR g D cl cs H1 := fun j y hj => (h j y hj).kept (oq _ (h j y hj).lt)
/-- the type of an array by its number -/
def xat (t : Nat) : FieldType := if t = 100 then .int else if t = 101 then .long else if t = 102 then .char else .object "RoverLocator$State"
theorem xK_at {g : XG} {D : va_G} {cl : List vw_C} {s : State} (hK : va_K D cl (xty g) s) (t : Nat) : ArrOfT s (xtc g t) (xat t) ∧ va_RA s (xtc g t) (xat t) := by
  unfold xtc xat
  by_cases h0 : t = 100
  · rw [if_pos h0, if_pos h0]; exact hK.2 0 _ rfl
  · rw [if_neg h0, if_neg h0]
    by_cases h1 : t = 101
    · rw [if_pos h1, if_pos h1]; exact hK.2 1 _ rfl
    · rw [if_neg h1, if_neg h1]
      by_cases h2 : t = 102
      · rw [if_pos h2, if_pos h2]; exact hK.2 2 _ rfl
      · rw [if_neg h2, if_neg h2]; exact hK.2 3 _ rfl
theorem xR.arr {g : XG} {D : va_G} {cl : List vw_C} {cs : List XE} {H : Heap} {k t : Nat} {l : List Value} (h : xR g D cl cs H) (he : cs[k]? = some (t, l)) (ht : 100 ≤ t) : H[g.1 + k]? = some (arrV (xtc g t) l.length (xF g l)) := by
  have h1 := h k _ he
  unfold xAt at h1
  rw [if_neg (by exact Nat.not_lt.mpr ht)] at h1
  exact h1
theorem xR.obj {g : XG} {D : va_G} {cl : List vw_C} {cs : List XE} {H : Heap} {k ci : Nat} {l : List Value} {r : vw_C} (h : xR g D cl cs H) (he : cs[k]? = some (ci, l)) (hc : ci < 100) (hr : cl[ci]? = some r) : t_OB (g.1 + k) (D.1 ci) r.2.2 (D.2 ci) H (xF g l) := by
  have h1 := h k _ he
  unfold xAt at h1
  rw [if_pos (by exact hc)] at h1
  obtain ⟨r', h2, h3⟩ := h1
  cases hr.symm.trans h2
  exact h3
/-- an index within a row of n -/
def xin (i : Int32) (n : Nat) : Bool := decide (¬ i < 0) && Nat.blt i.toNatClampNeg n
theorem xin_ok {i : Int32} {n : Nat} (h : xin i n = true) : ¬ (i < 0 ∨ n ≤ i.toNatClampNeg) ∧ i.toNatClampNeg < n := by
  unfold xin at h
  rw [Bool.and_eq_true] at h
  have h1 : ¬ i < 0 := of_decide_eq_true h.1
  have h2 : i.toNatClampNeg < n := by
    have := h.2
    unfold Nat.blt at this
    exact Nat.le_of_ble_eq_true this
  exact ⟨fun q => q.elim h1 (fun q => by omega), h2⟩
section XHP
variable {p : Program} {l : Launch} {e : Env} {R : Room} {s : State} {m : MethodId} {args : Array Value} {below : List Frame} {meth : Method} {c : Code} {H : Heap} {locs : List Loc} {cells slots : Nat} {Q : State → Prop}
variable {cc : ByteArray} {pc : Nat} {ls : Array Slot} {rest : List Value} {D : va_G} {cl : List vw_C} {g : XG} {σ : XW} {k : Nat}
theorem xgetf (hexec : p.tables.exec = Jvm.exec) (hb : c.code = cc) {own C : String} {T : u_T} {N ci index kf : Nat} {Ts : List Cond} (hts : ∀ w ∈ Ts, w.before args s = true) (hin : ∀ w ∈ u_ws C T N, w ∈ Ts) (hown : s.vm.findClass own = some m.cls) (hK : va_K D cl (xty g) s) (hH : xH g D cl σ s H locs) {fs : List Value} (he : σ.2[k]? = some (ci, fs)) (hci : ci < 100) (hc : cl[ci]? = some (C, T, N)) (hk : kf < N)
    (hlink : (Cond.fieldLink own index (T kf).1 (T kf).2.1 (T kf).2.2.1).before args s = true ∨ ∃ host, (Cond.fieldLinkNest own index (T kf).1 (T kf).2.1 (T kf).2.2.1 host).before args s = true) {v : Value} (hv : fs[kf]? = some v) (hdg : decode cc pc = .ok (.getfield index, 3))
    (kk : W p l e R s m args below meth c H locs cells slots Q (F0 m (pc + 3) ls (xrv g.1 g.2.1 v :: rest))) : W p l e R s m args below meth c H locs cells slots Q (F0 m pc ls (.ref (g.1 + k) :: rest)) := by
  obtain ⟨cell, q1, q2, q3, q4⟩ := hH.1.obj he hci hc
  obtain ⟨hS, hfc, kC, hkC, hkind⟩ := hK.1 ci _ hc
  obtain ⟨cf, kf', fi, f, hi, hsl⟩ := hS kf hk
  have hsv : cell.slots[f.slot]? = some (xrv g.1 g.2.1 v) := by rw [hsl, q4 kf hk, xF_at hv]
  have hst := (u_facts hfc hkC (u_lays hts hin hk) hi).1
  rcases hlink with hlink | ⟨host, hlink⟩
  · exact W.getf hexec hb hown hlink hi hst q1 (by rw [q3]; exact fun h => by cases h) hsv rfl rfl hdg kk
  · exact va_Wgetf hexec hb hown hlink hi hst q1 (by rw [q3]; exact fun h => by cases h) hsv rfl rfl hdg kk
/-- a field is written: what its value must be, by the field's type -/
def xfit (t : FieldType) (v : Value) : Bool := match t, v with
  | .int, .int _ => true
  | .boolean, .int x => decide (x = 0) || decide (x = 1)
  | .object _, .ref _ => true
  | .array _, .ref _ => true
  | _, _ => false
theorem xfit_ok {t : FieldType} {v : Value} (b0 b : Nat) (h : xfit t v = true) : narrow t (xrv b0 b v) = xrv b0 b v ∧ fits t (xrv b0 b v) = true := by
  unfold xfit at h
  split at h
  · exact ⟨rfl, rfl⟩
  · next x =>
    rw [Bool.or_eq_true] at h
    rcases h with h | h
    · have e : x = 0 := of_decide_eq_true h
      subst e
      exact ⟨rfl, rfl⟩
    · have e : x = 1 := of_decide_eq_true h
      subst e
      exact ⟨rfl, rfl⟩
  · exact ⟨rfl, rfl⟩
  · exact ⟨rfl, rfl⟩
  · cases h
theorem xput_fin {σ' : List XE} {H1 : Heap} {locs : List Loc} {f : Nat} (hH : xH g D cl σ s H locs) (h1 : xR g D cl σ' H1) (e2 : H1.size = H.size) (e3 : ∀ q, q ≠ g.1 + k → H1[q]? = H[q]?) (hl : σ'.length = σ.2.length) : xH g D cl (σ.1, σ') s H1 (locs ++ [⟨g.1 + k, f⟩]) :=
  ⟨h1, hH.2.1.put e2 e3 (Nat.le_add_right _ _), fun h => by rw [e2, hH.2.2 h, hl]⟩
theorem xputf (hexec : p.tables.exec = Jvm.exec) (hb : c.code = cc) {own C : String} {T : u_T} {N ci index kf : Nat} {Ts : List Cond} (hts : ∀ w ∈ Ts, w.before args s = true) (hin : ∀ w ∈ u_ws C T N, w ∈ Ts) (ty : Nat → FieldType) (hty : ∀ k, k < N → parseFieldDescriptor (T k).2.2.1 = some (ty k)) (hnm : ∀ a, a < N → ∀ b, b < N → a ≠ b → (T a).2.1 ≠ (T b).2.1) (hown : s.vm.findClass own = some m.cls) (hK : va_K D cl (xty g) s) (hH : xH g D cl σ s H locs) {fs : List Value} (he : σ.2[k]? = some (ci, fs)) (hci : ci < 100) (hc : cl[ci]? = some (C, T, N)) (hk : kf < N)
    (hlink : (Cond.fieldLink own index (T kf).1 (T kf).2.1 (T kf).2.2.1).before args s = true ∨ ∃ host, (Cond.fieldLinkNest own index (T kf).1 (T kf).2.1 (T kf).2.2.1 host).before args s = true)
    (hfin : (T kf).2.2.2 = false ∨ ((T kf).2.2.2 = true ∧ meth.name = "<init>" ∧ (T kf).1 = own ∧ (Cond.fieldLink own index (T kf).1 (T kf).2.1 (T kf).2.2.1).before args s = true)) {v : Value} (hf : xfit (ty kf) v = true) (hl : kf < fs.length) (hdg : decode cc pc = .ok (.putfield index, 3))
    (kk : ∀ (H1 : Heap) (locs1 : List Loc), xH g D cl (σ.1, σ.2.set k (ci, fs.set kf v)) s H1 locs1 → W p l e R s m args below meth c H1 locs1 cells slots Q (F0 m (pc + 3) ls rest)) : W p l e R s m args below meth c H locs cells slots Q (F0 m pc ls (xrv g.1 g.2.1 v :: .ref (g.1 + k) :: rest)) := by
  have hap := va_apart (own := own) hts hin ty hty hnm hK hc
  obtain ⟨cell, q1, q2, q3, q4⟩ := hH.1.obj he hci hc
  obtain ⟨hS, hfc, kC, hkC, hkind⟩ := hK.1 ci _ hc
  obtain ⟨cf, kf', fi, f, hi, hsl⟩ := hS kf hk
  have hst := (u_facts hfc hkC (u_lays hts hin hk) hi).1
  obtain ⟨hn, hft⟩ := xfit_ok g.1 g.2.1 hf
  have hlt : f.slot < cell.slots.size := by rw [hsl]; exact k2_hasslot (q4 kf hk)
  have fin : ∀ H' : Heap, H'[g.1 + k]? = some (cell.setSlot f.slot (xrv g.1 g.2.1 v)) → H'.size = H.size → (∀ q, q ≠ g.1 + k → H'[q]? = H[q]?) → W p l e R s m args below meth c H' (locs ++ [⟨g.1 + k, f.slot⟩]) cells slots Q (F0 m (pc + 3) ls rest) := by
    intro H' e1 e2 e3
    refine kk H' _ (xput_fin hH ?_ e2 e3 (by simp))
    refine hH.1.set ?_ e3
    unfold xAt
    rw [if_pos (by exact hci)]
    refine ⟨_, hc, t_OB.to (V := updV (xF g fs) kf (xrv g.1 g.2.1 v)) ⟨_, e1, q2, q3, ?_⟩ (fun j _ => by rw [xF_set hl])⟩
    rw [hsl]
    exact t_set q4 hap hk _
  rcases hfin with hfin | ⟨hfin, hin2, hdecl, hlk⟩
  · have hlay := hts _ (hin _ (u_in_lay hk))
    unfold u_lay at hlay
    rw [if_neg (by rw [hfin]; decide)] at hlay
    have h6 := u_store hfc hkC hkind hlay hi (hty kf hk) hn hft
    rcases hlink with hlink | ⟨host, hlink⟩
    · exact W.putK hexec hb (f := f) ⟨hown, hlink, ⟨_, _, _, hi⟩, hst⟩ (by rw [q2]; exact h6) q1 q3 hlt rfl rfl hdg fin
    · exact va_WputK hexec hb (f := f) hown hlink hi hst (by rw [q2]; exact h6) q1 q3 hlt rfl rfl hdg fin
  · have hlay := hts _ (hin _ (u_in_lay hk))
    unfold u_lay at hlay
    rw [if_pos hfin] at hlay
    have hcf : m.cls = cf := by
      obtain ⟨_, _, c', _, _, _, -, -, hf', -, -, -, hown2, -⟩ := Cond.laysFinal_spec hlay
      have e1 : c' = cf := by have := hi.symm.trans hf'; simp at this; exact this.1.symm
      rw [hdecl] at hown2
      rw [← e1]; exact Option.some.inj (hown.symm.trans hown2)
    have h6 := u_fits hfc hkC hkind (Or.inr hlay) hi (hty kf hk) hn hft
    exact W.putFinK hexec hb hown hlk hi hst hcf hin2 (by rw [q2]; exact h6) q1 q3 hlt rfl rfl hdg fin
theorem xiald (hexec : p.tables.exec = Jvm.exec) (hb : c.code = cc) (hK : va_K D cl (xty g) s) (hH : xH g D cl σ s H locs) {fs : List Value} (he : σ.2[k]? = some (100, fs)) {i : Int32} (hin : xin i fs.length = true) {x : Int32} (hv : fs[i.toNatClampNeg]? = some (.int x)) (hdg : decode cc pc = .ok (.iaload, 1))
    (kk : W p l e R s m args below meth c H locs cells slots Q (F0 m (pc + 1) ls (.int x :: rest))) : W p l e R s m args below meth c H locs cells slots Q (F0 m pc ls (.int i :: .ref (g.1 + k) :: rest)) :=
  W.iald (v := .int x) hexec hb (hH.1.arr he (Nat.le_refl _)) ((xK_at hK 100).1 _ _) (fun q => by cases q) (by rw [arrV_size]; exact (xin_ok hin).1) (by rw [arrV_read _ _ (xin_ok hin).2, xF_at hv]; rfl) rfl rfl hdg kk
theorem xlald (hexec : p.tables.exec = Jvm.exec) (hb : c.code = cc) (hK : va_K D cl (xty g) s) (hH : xH g D cl σ s H locs) {fs : List Value} (he : σ.2[k]? = some (101, fs)) {i : Int32} (hin : xin i fs.length = true) {x : Int64} (hv : fs[i.toNatClampNeg]? = some (.long x)) (hdg : decode cc pc = .ok (.laload, 1))
    (kk : W p l e R s m args below meth c H locs cells slots Q (F0 m (pc + 1) ls (.long x :: rest))) : W p l e R s m args below meth c H locs cells slots Q (F0 m pc ls (.int i :: .ref (g.1 + k) :: rest)) :=
  W.lald (v := .long x) hexec hb (hH.1.arr he (by decide)) ((xK_at hK 101).1 _ _) (fun q => by cases q) (by rw [arrV_size]; exact (xin_ok hin).1) (by rw [arrV_read _ _ (xin_ok hin).2, xF_at hv]; rfl) rfl rfl hdg kk
theorem xcald (hexec : p.tables.exec = Jvm.exec) (hb : c.code = cc) (hK : va_K D cl (xty g) s) (hH : xH g D cl σ s H locs) {fs : List Value} (he : σ.2[k]? = some (102, fs)) {i : Int32} (hin : xin i fs.length = true) {x : Int32} (hv : fs[i.toNatClampNeg]? = some (.int x)) (hdg : decode cc pc = .ok (.caload, 1))
    (kk : W p l e R s m args below meth c H locs cells slots Q (F0 m (pc + 1) ls (.int x :: rest))) : W p l e R s m args below meth c H locs cells slots Q (F0 m pc ls (.int i :: .ref (g.1 + k) :: rest)) :=
  W.cald (v := .int x) hexec hb (hH.1.arr he (by decide)) ((xK_at hK 102).1 _ _) (fun q => by cases q) (by rw [arrV_size]; exact (xin_ok hin).1) (by rw [arrV_read _ _ (xin_ok hin).2, xF_at hv]; rfl) rfl rfl hdg kk
theorem xaald (hexec : p.tables.exec = Jvm.exec) (hb : c.code = cc) (hK : va_K D cl (xty g) s) (hH : xH g D cl σ s H locs) {fs : List Value} (he : σ.2[k]? = some (103, fs)) {i : Int32} (hin : xin i fs.length = true) {x : Nat} (hv : fs[i.toNatClampNeg]? = some (.ref x)) (hdg : decode cc pc = .ok (.aaload, 1))
    (kk : W p l e R s m args below meth c H locs cells slots Q (F0 m (pc + 1) ls (.ref (g.1 + x) :: rest))) : W p l e R s m args below meth c H locs cells slots Q (F0 m pc ls (.int i :: .ref (g.1 + k) :: rest)) :=
  W.aald (v := .ref (g.1 + x)) (ty := .object "RoverLocator$State") hexec hb (hH.1.arr he (by decide)) ((xK_at hK 103).1 _ _) rfl (fun q => by cases q) (by rw [arrV_size]; exact (xin_ok hin).1) (by rw [arrV_read _ _ (xin_ok hin).2, xF_at hv]; rfl) rfl rfl hdg kk
theorem xstore {t : Nat} {fs : List Value} {v : Value} {j : Nat} {H1 : Heap} (hH : xH g D cl σ s H locs) (ht : 100 ≤ t) (hj : j < fs.length) (e : H1[g.1 + k]? = some ((arrV (xtc g t) fs.length (xF g fs)).setSlot j (xrv g.1 g.2.1 v))) (z : H1.size = H.size) (oq : ∀ q, q ≠ g.1 + k → H1[q]? = H[q]?) : xH g D cl (σ.1, σ.2.set k (t, fs.set j v)) s H1 (locs ++ [⟨g.1 + k, j⟩]) := by
  refine xput_fin hH (hH.1.set ?_ oq) z oq (by simp)
  unfold xAt
  rw [if_neg (by exact Nat.not_lt.mpr ht)]
  show H1[g.1 + k]? = some (arrV (xtc g t) (fs.set j v).length (xF g (fs.set j v)))
  rw [e, arrV_store, xF_set hj, List.length_set]
theorem xiast (hexec : p.tables.exec = Jvm.exec) (hb : c.code = cc) (hK : va_K D cl (xty g) s) (hH : xH g D cl σ s H locs) {fs : List Value} (he : σ.2[k]? = some (100, fs)) {i x : Int32} (hin : xin i fs.length = true) (hdg : decode cc pc = .ok (.iastore, 1))
    (kk : ∀ (H1 : Heap) (locs1 : List Loc), xH g D cl (σ.1, σ.2.set k (100, fs.set i.toNatClampNeg (.int x))) s H1 locs1 → W p l e R s m args below meth c H1 locs1 cells slots Q (F0 m (pc + 1) ls rest)) : W p l e R s m args below meth c H locs cells slots Q (F0 m pc ls (.int x :: .int i :: .ref (g.1 + k) :: rest)) :=
  W.iast hexec hb (hH.1.arr he (Nat.le_refl _)) ((xK_at hK 100).1 _ _) (fun q => by cases q) (by rw [arrV_size]; exact (xin_ok hin).1) rfl rfl hdg fun H1 e1 z oq => kk H1 _ (xstore hH (Nat.le_refl _) (xin_ok hin).2 e1 z oq)
theorem xlast (hexec : p.tables.exec = Jvm.exec) (hb : c.code = cc) (hK : va_K D cl (xty g) s) (hH : xH g D cl σ s H locs) {fs : List Value} (he : σ.2[k]? = some (101, fs)) {i : Int32} {x : Int64} (hin : xin i fs.length = true) (hdg : decode cc pc = .ok (.lastore, 1))
    (kk : ∀ (H1 : Heap) (locs1 : List Loc), xH g D cl (σ.1, σ.2.set k (101, fs.set i.toNatClampNeg (.long x))) s H1 locs1 → W p l e R s m args below meth c H1 locs1 cells slots Q (F0 m (pc + 1) ls rest)) : W p l e R s m args below meth c H locs cells slots Q (F0 m pc ls (.long x :: .int i :: .ref (g.1 + k) :: rest)) :=
  W.last hexec hb (hH.1.arr he (by decide)) ((xK_at hK 101).1 _ _) (fun q => by cases q) (by rw [arrV_size]; exact (xin_ok hin).1) rfl rfl hdg fun H1 e1 z oq => kk H1 _ (xstore hH (by decide) (xin_ok hin).2 e1 z oq)
theorem xcast (hexec : p.tables.exec = Jvm.exec) (hb : c.code = cc) (hK : va_K D cl (xty g) s) (hH : xH g D cl σ s H locs) {fs : List Value} (he : σ.2[k]? = some (102, fs)) {i x : Int32} (hin : xin i fs.length = true) (hx : narrow .char (.int x) = .int x) (hdg : decode cc pc = .ok (.castore, 1))
    (kk : ∀ (H1 : Heap) (locs1 : List Loc), xH g D cl (σ.1, σ.2.set k (102, fs.set i.toNatClampNeg (.int x))) s H1 locs1 → W p l e R s m args below meth c H1 locs1 cells slots Q (F0 m (pc + 1) ls rest)) : W p l e R s m args below meth c H locs cells slots Q (F0 m pc ls (.int x :: .int i :: .ref (g.1 + k) :: rest)) :=
  W.cast hexec hb (hH.1.arr he (by decide)) ((xK_at hK 102).1 _ _) (fun q => by cases q) (by rw [arrV_size]; exact (xin_ok hin).1) rfl rfl hdg fun H1 e1 z oq => kk H1 _ (xstore hH (by decide) (xin_ok hin).2 (by rw [hx] at e1; exact e1) z oq)
theorem xaast (hexec : p.tables.exec = Jvm.exec) (hb : c.code = cc) (hK : va_K D cl (xty g) s) (hH : xH g D cl σ s H locs) {fs vs : List Value} (he : σ.2[k]? = some (103, fs)) {i : Int32} {v ci : Nat} {T : u_T} {N : Nat} (hv : σ.2[v]? = some (ci, vs)) (hci : ci < 100) (hc : cl[ci]? = some ("RoverLocator$State", T, N)) (hin : xin i fs.length = true) (hdg : decode cc pc = .ok (.aastore, 1))
    (kk : ∀ (H1 : Heap) (locs1 : List Loc), xH g D cl (σ.1, σ.2.set k (103, fs.set i.toNatClampNeg (.ref v))) s H1 locs1 → W p l e R s m args below meth c H1 locs1 cells slots Q (F0 m (pc + 1) ls rest)) : W p l e R s m args below meth c H locs cells slots Q (F0 m pc ls (.ref (g.1 + v) :: .int i :: .ref (g.1 + k) :: rest)) := by
  obtain ⟨cellV, g1, g2, g3, -⟩ := hH.1.obj hv hci hc
  have hcls := (hK.1 ci _ hc).2
  obtain ⟨kA, comp, k1, k2, k3, -⟩ := (xK_at hK 103).2
  have hcomp : comp = D.1 ci := Option.some.inj (k3.symm.trans hcls.1)
  subst hcomp
  obtain ⟨kC, hkC, -⟩ := hcls.2
  exact W.aast hexec hb (hH.1.arr he (by decide)) (fun q h => by cases h) (fun h => by cases h) k1 k2 rfl hkC ⟨fun q => (xin_ok hin).1 (Or.inl q), by rw [arrV_size]; exact (xin_ok hin).2⟩ g1 (fun q h => by rw [g3] at h; cases h) (by rw [g2]; exact hkC) (by rw [g2]; exact va_assign hcls) rfl rfl hdg fun H1 e1 z oq => kk H1 _ (xstore hH (by decide) (xin_ok hin).2 e1 z oq)
theorem xalen (hexec : p.tables.exec = Jvm.exec) (hb : c.code = cc) (hK : va_K D cl (xty g) s) (hH : xH g D cl σ s H locs) {fs : List Value} {t : Nat} (he : σ.2[k]? = some (t, fs)) (ht : 100 ≤ t) (hdg : decode cc pc = .ok (.arraylength, 1))
    (kk : W p l e R s m args below meth c H locs cells slots Q (F0 m (pc + 1) ls (.int (Int32.ofNat fs.length) :: rest))) : W p l e R s m args below meth c H locs cells slots Q (F0 m pc ls (.ref (g.1 + k) :: rest)) :=
  W.alen (n := Int32.ofNat fs.length) hexec hb (hH.1.arr he ht) ((xK_at hK t).1 _ _) (by rw [arrV_size] <;> rfl) rfl rfl hdg kk
end XHP
