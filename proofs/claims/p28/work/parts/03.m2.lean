noncomputable section
/-! The world of the machine of numbers, and the steps that read and write it. -/
/-- b0: where the cells begin; b: the script; the classes of the arrays of ints, longs, chars, and of the class's own objects -/
abbrev XG : Type := Nat × Nat × ClassId × ClassId × ClassId × ClassId
def xF (g : XG) (l : List Value) : Nat → Value := fun j => xrv g.1 g.2.1 (l.getD j .null)
def xtc (g : XG) (t : Nat) : ClassId := if t = 100 then g.2.2.1 else if t = 101 then g.2.2.2.1 else if t = 102 then g.2.2.2.2.1 else g.2.2.2.2.2
def xty (g : XG) : List (ClassId × FieldType) := [(g.2.2.1, .int), (g.2.2.2.1, .long), (g.2.2.2.2.1, .char), (g.2.2.2.2.2, .object "RoverLocator$State")]
def xAt (g : XG) (D : va_G) (cl : List vw_C) (a : Nat) (x : XE) (H : Heap) : Prop :=
  if x.1 < 100 then ∃ r : vw_C, cl[x.1]? = some r ∧ t_OB a (D.1 x.1) r.2.2 (D.2 x.1) H (xF g x.2) else H[a]? = some (arrV (xtc g x.1) x.2.length (xF g x.2))
def xR (g : XG) (D : va_G) (cl : List vw_C) (cs : List XE) (H : Heap) : Prop := ∀ (k : Nat) (x : XE), cs[k]? = some x → xAt g D cl (g.1 + k) x H
abbrev xA (g : XG) : Nat → Prop := fun q => g.1 ≤ q
def xH (g : XG) (D : va_G) (cl : List vw_C) (σ : XW) (s : State) (H : Heap) (locs : List Loc) : Prop := xR g D cl σ.2 H ∧ va_S (xA g) s.heap H locs ∧ (σ.1 = true → H.size = g.1 + σ.2.length)
theorem xF_at {g : XG} {l : List Value} {j : Nat} {v : Value} (h : l[j]? = some v) : xF g l j = xrv g.1 g.2.1 v := by
  unfold xF
  rw [List.getD_eq_getElem?_getD, h]
  rfl
theorem xF_set {g : XG} {l : List Value} {j : Nat} {v : Value} (h : j < l.length) : xF g (l.set j v) = updV (xF g l) j (xrv g.1 g.2.1 v) := by
  funext q
  unfold xF updV
  by_cases hq : q = j
  · subst hq
    rw [if_pos rfl, List.getD_eq_getElem?_getD, List.getElem?_set_self h]
    rfl
  · rw [if_neg hq, List.getD_eq_getElem?_getD, List.getElem?_set_ne (Ne.symm hq), ← List.getD_eq_getElem?_getD]
theorem xAt.kept {g : XG} {D : va_G} {cl : List vw_C} {a : Nat} {x : XE} {H H1 : Heap} (h : xAt g D cl a x H) (hq : H1[a]? = H[a]?) : xAt g D cl a x H1 := by
  unfold xAt at h ⊢
  split at h
  · next h1 =>
    rw [if_pos h1]
    obtain ⟨r, h2, h3⟩ := h
    exact ⟨r, h2, h3.kept hq⟩
  · next h1 =>
    rw [if_neg h1]
    exact hq.trans h
theorem xAt.lt {g : XG} {D : va_G} {cl : List vw_C} {a : Nat} {x : XE} {H : Heap} (h : xAt g D cl a x H) : a < H.size := by
  unfold xAt at h
  split at h
  · obtain ⟨r, h2, cell, h3, -⟩ := h
    exact (Array.getElem?_eq_some_iff.mp h3).1
  · exact (Array.getElem?_eq_some_iff.mp h).1
theorem xR.set {g : XG} {D : va_G} {cl : List vw_C} {cs : List XE} {H H1 : Heap} {k : Nat} {x : XE} (h : xR g D cl cs H) (he : xAt g D cl (g.1 + k) x H1) (oq : ∀ q : Nat, q ≠ g.1 + k → H1[q]? = H[q]?) : xR g D cl (cs.set k x) H1 := by
  intro j y hj
  by_cases hjk : j = k
  · subst hjk
    have hl : j < cs.length := by
      have := (List.getElem?_eq_some_iff.mp hj).1
      simpa using this
    rw [List.getElem?_set_self hl] at hj
    cases hj
    exact he
  · rw [List.getElem?_set_ne (Ne.symm hjk)] at hj
    exact (h j y hj).kept (oq _ (by omega))
theorem xR.push {g : XG} {D : va_G} {cl : List vw_C} {cs : List XE} {H H1 : Heap} {x : XE} (h : xR g D cl cs H) (he : xAt g D cl (g.1 + cs.length) x H1) (oq : ∀ q : Nat, q < H.size → H1[q]? = H[q]?) : xR g D cl (cs ++ [x]) H1 := by
  intro j y hj
  by_cases hjk : j < cs.length
  · rw [List.getElem?_append_left hjk] at hj
    have h1 := h j y hj
    exact h1.kept (oq _ h1.lt)
  · rw [List.getElem?_append_right (by omega)] at hj
    have hz : j - cs.length < 1 := (List.getElem?_eq_some_iff.mp hj).1
    have e : j = cs.length := by omega
    subst e
    rw [Nat.sub_self] at hj
    cases hj
    exact he
theorem xR.kept {g : XG} {D : va_G} {cl : List vw_C} {cs : List XE} {H H1 : Heap} (h : xR g D cl cs H) (oq : ∀ q : Nat, q < H.size → H1[q]? = H[q]?) : xR g D cl cs H1 := fun j y hj => (h j y hj).kept (oq _ (h j y hj).lt)
/-- the type of an array by its number -/
def xat (t : Nat) : FieldType := if t = 100 then .int else if t = 101 then .long else if t = 102 then .char else .object "RoverLocator$State"
theorem xK_at {g : XG} {D : va_G} {cl : List vw_C} {s : State} (hK : va_K D cl (xty g) s) (t : Nat) : ArrOfT s (xtc g t) (xat t) ∧ va_RA s (xtc g t) (xat t) := by
  unfold xtc xat
  by_cases h0 : t = 100
  · rw [if_pos h0, if_pos h0]; exact hK.2 0 _ rfl
  · rw [if_neg h0, if_neg h0]
    by_cases h1 : t = 101
    · rw [if_pos h1, if_pos h1]; exact hK.2 1 _ rfl
    · rw [if_neg h1, if_neg h1]
      by_cases h2 : t = 102
      · rw [if_pos h2, if_pos h2]; exact hK.2 2 _ rfl
      · rw [if_neg h2, if_neg h2]; exact hK.2 3 _ rfl
theorem xR.arr {g : XG} {D : va_G} {cl : List vw_C} {cs : List XE} {H : Heap} {k t : Nat} {l : List Value} (h : xR g D cl cs H) (he : cs[k]? = some (t, l)) (ht : 100 ≤ t) : H[g.1 + k]? = some (arrV (xtc g t) l.length (xF g l)) := by
  have h1 := h k _ he
  unfold xAt at h1
  rw [if_neg (by exact Nat.not_lt.mpr ht)] at h1
  exact h1
theorem xR.obj {g : XG} {D : va_G} {cl : List vw_C} {cs : List XE} {H : Heap} {k ci : Nat} {l : List Value} {r : vw_C} (h : xR g D cl cs H) (he : cs[k]? = some (ci, l)) (hc : ci < 100) (hr : cl[ci]? = some r) : t_OB (g.1 + k) (D.1 ci) r.2.2 (D.2 ci) H (xF g l) := by
  have h1 := h k _ he
  unfold xAt at h1
  rw [if_pos (by exact hc)] at h1
  obtain ⟨r', h2, h3⟩ := h1
  cases hr.symm.trans h2
  exact h3
/-- an index within a row of n -/
def xin (i : Int32) (n : Nat) : Bool := decide (¬ i < 0) && Nat.blt i.toNatClampNeg n
theorem xin_ok {i : Int32} {n : Nat} (h : xin i n = true) : ¬ (i < 0 ∨ n ≤ i.toNatClampNeg) ∧ i.toNatClampNeg < n := by
  unfold xin at h
  rw [Bool.and_eq_true] at h
  have h1 : ¬ i < 0 := of_decide_eq_true h.1
  have h2 : i.toNatClampNeg < n := by
    have := h.2
    unfold Nat.blt at this
    exact Nat.le_of_ble_eq_true this
  exact ⟨fun q => q.elim h1 (fun q => by omega), h2⟩
section XHP
variable {p : Program} {l : Launch} {e : Env} {R : Room} {s : State} {m : MethodId} {args : Array Value} {below : List Frame} {meth : Method} {c : Code} {H : Heap} {locs : List Loc} {cells slots : Nat} {Q : State → Prop}
variable {cc : ByteArray} {pc : Nat} {ls : Array Slot} {rest : List Value} {D : va_G} {cl : List vw_C} {g : XG} {σ : XW} {k : Nat}
theorem xgetf (hexec : p.tables.exec = Jvm.exec) (hb : c.code = cc) {own C : String} {T : u_T} {N ci index kf : Nat} {Ts : List Cond} (hts : ∀ w ∈ Ts, w.before args s = true) (hin : ∀ w ∈ u_ws C T N, w ∈ Ts) (hown : s.vm.findClass own = some m.cls) (hK : va_K D cl (xty g) s) (hH : xH g D cl σ s H locs) {fs : List Value} (he : σ.2[k]? = some (ci, fs)) (hci : ci < 100) (hc : cl[ci]? = some (C, T, N)) (hk : kf < N)
    (hlink : (Cond.fieldLink own index (T kf).1 (T kf).2.1 (T kf).2.2.1).before args s = true ∨ ∃ host, (Cond.fieldLinkNest own index (T kf).1 (T kf).2.1 (T kf).2.2.1 host).before args s = true) {v : Value} (hv : fs[kf]? = some v) (hdg : decode cc pc = .ok (.getfield index, 3))
    (kk : W p l e R s m args below meth c H locs cells slots Q (F0 m (pc + 3) ls (xrv g.1 g.2.1 v :: rest))) : W p l e R s m args below meth c H locs cells slots Q (F0 m pc ls (.ref (g.1 + k) :: rest)) := by
  obtain ⟨cell, q1, q2, q3, q4⟩ := hH.1.obj he hci hc
  obtain ⟨hS, hfc, kC, hkC, hkind⟩ := hK.1 ci _ hc
  obtain ⟨cf, kf', fi, f, hi, hsl⟩ := hS kf hk
  have hsv : cell.slots[f.slot]? = some (xrv g.1 g.2.1 v) := by rw [hsl, q4 kf hk, xF_at hv]
  have hst := (u_facts hfc hkC (u_lays hts hin hk) hi).1
  rcases hlink with hlink | ⟨host, hlink⟩
  · exact W.getf hexec hb hown hlink hi hst q1 (by rw [q3]; exact fun h => by cases h) hsv rfl rfl hdg kk
  · exact va_Wgetf hexec hb hown hlink hi hst q1 (by rw [q3]; exact fun h => by cases h) hsv rfl rfl hdg kk
/-- a field is written: what its value must be, by the field's type -/
def xfit (t : FieldType) (v : Value) : Bool := match t, v with
  | .int, .int _ => true
  | .boolean, .int x => decide (x = 0) || decide (x = 1)
  | .object _, .ref _ => true
  | .array _, .ref _ => true
  | _, _ => false
theorem xfit_ok {t : FieldType} {v : Value} (b0 b : Nat) (h : xfit t v = true) : narrow t (xrv b0 b v) = xrv b0 b v ∧ fits t (xrv b0 b v) = true := by
  unfold xfit at h
  split at h
  · exact ⟨rfl, rfl⟩
  · next x =>
    rw [Bool.or_eq_true] at h
    rcases h with h | h
    · have e : x = 0 := of_decide_eq_true h
      subst e
      exact ⟨rfl, rfl⟩
    · have e : x = 1 := of_decide_eq_true h
      subst e
      exact ⟨rfl, rfl⟩
  · exact ⟨rfl, rfl⟩
  · exact ⟨rfl, rfl⟩
  · cases h
theorem xput_fin {σ' : List XE} {H1 : Heap} {locs : List Loc} {f : Nat} (hH : xH g D cl σ s H locs) (h1 : xR g D cl σ' H1) (e2 : H1.size = H.size) (e3 : ∀ q, q ≠ g.1 + k → H1[q]? = H[q]?) (hl : σ'.length = σ.2.length) : xH g D cl (σ.1, σ') s H1 (locs ++ [⟨g.1 + k, f⟩]) :=
  ⟨h1, hH.2.1.put e2 e3 (Nat.le_add_right _ _), fun h => by rw [e2, hH.2.2 h, hl]⟩
theorem xputf (hexec : p.tables.exec = Jvm.exec) (hb : c.code = cc) {own C : String} {T : u_T} {N ci index kf : Nat} {Ts : List Cond} (hts : ∀ w ∈ Ts, w.before args s = true) (hin : ∀ w ∈ u_ws C T N, w ∈ Ts) (ty : Nat → FieldType) (hty : ∀ k, k < N → parseFieldDescriptor (T k).2.2.1 = some (ty k)) (hnm : ∀ a, a < N → ∀ b, b < N → a ≠ b → (T a).2.1 ≠ (T b).2.1) (hown : s.vm.findClass own = some m.cls) (hK : va_K D cl (xty g) s) (hH : xH g D cl σ s H locs) {fs : List Value} (he : σ.2[k]? = some (ci, fs)) (hci : ci < 100) (hc : cl[ci]? = some (C, T, N)) (hk : kf < N)
    (hlink : (Cond.fieldLink own index (T kf).1 (T kf).2.1 (T kf).2.2.1).before args s = true ∨ ∃ host, (Cond.fieldLinkNest own index (T kf).1 (T kf).2.1 (T kf).2.2.1 host).before args s = true)
    (hfin : (T kf).2.2.2 = false ∨ ((T kf).2.2.2 = true ∧ meth.name = "<init>" ∧ (T kf).1 = own ∧ (Cond.fieldLink own index (T kf).1 (T kf).2.1 (T kf).2.2.1).before args s = true)) {v : Value} (hf : xfit (ty kf) v = true) (hl : kf < fs.length) (hdg : decode cc pc = .ok (.putfield index, 3))
    (kk : ∀ (H1 : Heap) (locs1 : List Loc), xH g D cl (σ.1, σ.2.set k (ci, fs.set kf v)) s H1 locs1 → W p l e R s m args below meth c H1 locs1 cells slots Q (F0 m (pc + 3) ls rest)) : W p l e R s m args below meth c H locs cells slots Q (F0 m pc ls (xrv g.1 g.2.1 v :: .ref (g.1 + k) :: rest)) := by
  have hap := va_apart (own := own) hts hin ty hty hnm hK hc
  obtain ⟨cell, q1, q2, q3, q4⟩ := hH.1.obj he hci hc
  obtain ⟨hS, hfc, kC, hkC, hkind⟩ := hK.1 ci _ hc
  obtain ⟨cf, kf', fi, f, hi, hsl⟩ := hS kf hk
  have hst := (u_facts hfc hkC (u_lays hts hin hk) hi).1
  obtain ⟨hn, hft⟩ := xfit_ok g.1 g.2.1 hf
  have hlt : f.slot < cell.slots.size := by rw [hsl]; exact k2_hasslot (q4 kf hk)
  have fin : ∀ H' : Heap, H'[g.1 + k]? = some (cell.setSlot f.slot (xrv g.1 g.2.1 v)) → H'.size = H.size → (∀ q, q ≠ g.1 + k → H'[q]? = H[q]?) → W p l e R s m args below meth c H' (locs ++ [⟨g.1 + k, f.slot⟩]) cells slots Q (F0 m (pc + 3) ls rest) := by
    intro H' e1 e2 e3
    refine kk H' _ (xput_fin hH ?_ e2 e3 (by simp))
    refine hH.1.set ?_ e3
    unfold xAt
    rw [if_pos (by exact hci)]
    refine ⟨_, hc, t_OB.to (V := updV (xF g fs) kf (xrv g.1 g.2.1 v)) ⟨_, e1, q2, q3, ?_⟩ (fun j _ => by rw [xF_set hl])⟩
    rw [hsl]
    exact t_set q4 hap hk _
  rcases hfin with hfin | ⟨hfin, hin2, hdecl, hlk⟩
  · have hlay := hts _ (hin _ (u_in_lay hk))
    unfold u_lay at hlay
    rw [if_neg (by rw [hfin]; decide)] at hlay
    have h6 := u_store hfc hkC hkind hlay hi (hty kf hk) hn hft
    rcases hlink with hlink | ⟨host, hlink⟩
    · exact W.putK hexec hb (f := f) ⟨hown, hlink, ⟨_, _, _, hi⟩, hst⟩ (by rw [q2]; exact h6) q1 q3 hlt rfl rfl hdg fin
    · exact va_WputK hexec hb (f := f) hown hlink hi hst (by rw [q2]; exact h6) q1 q3 hlt rfl rfl hdg fin
  · have hlay := hts _ (hin _ (u_in_lay hk))
    unfold u_lay at hlay
    rw [if_pos hfin] at hlay
    have hcf : m.cls = cf := by
      obtain ⟨_, _, c', _, _, _, -, -, hf', -, -, -, hown2, -⟩ := Cond.laysFinal_spec hlay
      have e1 : c' = cf := by have := hi.symm.trans hf'; simp at this; exact this.1.symm
      rw [hdecl] at hown2
      rw [← e1]; exact Option.some.inj (hown.symm.trans hown2)
    have h6 := u_fits hfc hkC hkind (Or.inr hlay) hi (hty kf hk) hn hft
    exact W.putFinK hexec hb hown hlk hi hst hcf hin2 (by rw [q2]; exact h6) q1 q3 hlt rfl rfl hdg fin
theorem xiald (hexec : p.tables.exec = Jvm.exec) (hb : c.code = cc) (hK : va_K D cl (xty g) s) (hH : xH g D cl σ s H locs) {fs : List Value} (he : σ.2[k]? = some (100, fs)) {i : Int32} (hin : xin i fs.length = true) {x : Int32} (hv : fs[i.toNatClampNeg]? = some (.int x)) (hdg : decode cc pc = .ok (.iaload, 1))
    (kk : W p l e R s m args below meth c H locs cells slots Q (F0 m (pc + 1) ls (.int x :: rest))) : W p l e R s m args below meth c H locs cells slots Q (F0 m pc ls (.int i :: .ref (g.1 + k) :: rest)) :=
  W.iald (v := .int x) hexec hb (hH.1.arr he (Nat.le_refl _)) ((xK_at hK 100).1 _ _) (fun q => by cases q) (by rw [arrV_size]; exact (xin_ok hin).1) (by rw [arrV_read _ _ (xin_ok hin).2, xF_at hv]; rfl) rfl rfl hdg kk
theorem xlald (hexec : p.tables.exec = Jvm.exec) (hb : c.code = cc) (hK : va_K D cl (xty g) s) (hH : xH g D cl σ s H locs) {fs : List Value} (he : σ.2[k]? = some (101, fs)) {i : Int32} (hin : xin i fs.length = true) {x : Int64} (hv : fs[i.toNatClampNeg]? = some (.long x)) (hdg : decode cc pc = .ok (.laload, 1))
    (kk : W p l e R s m args below meth c H locs cells slots Q (F0 m (pc + 1) ls (.long x :: rest))) : W p l e R s m args below meth c H locs cells slots Q (F0 m pc ls (.int i :: .ref (g.1 + k) :: rest)) :=
  W.lald (v := .long x) hexec hb (hH.1.arr he (by decide)) ((xK_at hK 101).1 _ _) (fun q => by cases q) (by rw [arrV_size]; exact (xin_ok hin).1) (by rw [arrV_read _ _ (xin_ok hin).2, xF_at hv]; rfl) rfl rfl hdg kk
theorem xcald (hexec : p.tables.exec = Jvm.exec) (hb : c.code = cc) (hK : va_K D cl (xty g) s) (hH : xH g D cl σ s H locs) {fs : List Value} (he : σ.2[k]? = some (102, fs)) {i : Int32} (hin : xin i fs.length = true) {x : Int32} (hv : fs[i.toNatClampNeg]? = some (.int x)) (hdg : decode cc pc = .ok (.caload, 1))
    (kk : W p l e R s m args below meth c H locs cells slots Q (F0 m (pc + 1) ls (.int x :: rest))) : W p l e R s m args below meth c H locs cells slots Q (F0 m pc ls (.int i :: .ref (g.1 + k) :: rest)) :=
  W.cald (v := .int x) hexec hb (hH.1.arr he (by decide)) ((xK_at hK 102).1 _ _) (fun q => by cases q) (by rw [arrV_size]; exact (xin_ok hin).1) (by rw [arrV_read _ _ (xin_ok hin).2, xF_at hv]; rfl) rfl rfl hdg kk
theorem xaald (hexec : p.tables.exec = Jvm.exec) (hb : c.code = cc) (hK : va_K D cl (xty g) s) (hH : xH g D cl σ s H locs) {fs : List Value} (he : σ.2[k]? = some (103, fs)) {i : Int32} (hin : xin i fs.length = true) {x : Nat} (hv : fs[i.toNatClampNeg]? = some (.ref x)) (hdg : decode cc pc = .ok (.aaload, 1))
    (kk : W p l e R s m args below meth c H locs cells slots Q (F0 m (pc + 1) ls (.ref (g.1 + x) :: rest))) : W p l e R s m args below meth c H locs cells slots Q (F0 m pc ls (.int i :: .ref (g.1 + k) :: rest)) :=
  W.aald (v := .ref (g.1 + x)) (ty := .object "RoverLocator$State") hexec hb (hH.1.arr he (by decide)) ((xK_at hK 103).1 _ _) rfl (fun q => by cases q) (by rw [arrV_size]; exact (xin_ok hin).1) (by rw [arrV_read _ _ (xin_ok hin).2, xF_at hv]; rfl) rfl rfl hdg kk
theorem xstore {t : Nat} {fs : List Value} {v : Value} {j : Nat} {H1 : Heap} (hH : xH g D cl σ s H locs) (ht : 100 ≤ t) (hj : j < fs.length) (e : H1[g.1 + k]? = some ((arrV (xtc g t) fs.length (xF g fs)).setSlot j (xrv g.1 g.2.1 v))) (z : H1.size = H.size) (oq : ∀ q, q ≠ g.1 + k → H1[q]? = H[q]?) : xH g D cl (σ.1, σ.2.set k (t, fs.set j v)) s H1 (locs ++ [⟨g.1 + k, j⟩]) := by
  refine xput_fin hH (hH.1.set ?_ oq) z oq (by simp)
  unfold xAt
  rw [if_neg (by exact Nat.not_lt.mpr ht)]
  show H1[g.1 + k]? = some (arrV (xtc g t) (fs.set j v).length (xF g (fs.set j v)))
  rw [e, arrV_store, xF_set hj, List.length_set]
theorem xiast (hexec : p.tables.exec = Jvm.exec) (hb : c.code = cc) (hK : va_K D cl (xty g) s) (hH : xH g D cl σ s H locs) {fs : List Value} (he : σ.2[k]? = some (100, fs)) {i x : Int32} (hin : xin i fs.length = true) (hdg : decode cc pc = .ok (.iastore, 1))
    (kk : ∀ (H1 : Heap) (locs1 : List Loc), xH g D cl (σ.1, σ.2.set k (100, fs.set i.toNatClampNeg (.int x))) s H1 locs1 → W p l e R s m args below meth c H1 locs1 cells slots Q (F0 m (pc + 1) ls rest)) : W p l e R s m args below meth c H locs cells slots Q (F0 m pc ls (.int x :: .int i :: .ref (g.1 + k) :: rest)) :=
  W.iast hexec hb (hH.1.arr he (Nat.le_refl _)) ((xK_at hK 100).1 _ _) (fun q => by cases q) (by rw [arrV_size]; exact (xin_ok hin).1) rfl rfl hdg fun H1 e1 z oq => kk H1 _ (xstore hH (Nat.le_refl _) (xin_ok hin).2 e1 z oq)
theorem xlast (hexec : p.tables.exec = Jvm.exec) (hb : c.code = cc) (hK : va_K D cl (xty g) s) (hH : xH g D cl σ s H locs) {fs : List Value} (he : σ.2[k]? = some (101, fs)) {i : Int32} {x : Int64} (hin : xin i fs.length = true) (hdg : decode cc pc = .ok (.lastore, 1))
    (kk : ∀ (H1 : Heap) (locs1 : List Loc), xH g D cl (σ.1, σ.2.set k (101, fs.set i.toNatClampNeg (.long x))) s H1 locs1 → W p l e R s m args below meth c H1 locs1 cells slots Q (F0 m (pc + 1) ls rest)) : W p l e R s m args below meth c H locs cells slots Q (F0 m pc ls (.long x :: .int i :: .ref (g.1 + k) :: rest)) :=
  W.last hexec hb (hH.1.arr he (by decide)) ((xK_at hK 101).1 _ _) (fun q => by cases q) (by rw [arrV_size]; exact (xin_ok hin).1) rfl rfl hdg fun H1 e1 z oq => kk H1 _ (xstore hH (by decide) (xin_ok hin).2 e1 z oq)
theorem xcast (hexec : p.tables.exec = Jvm.exec) (hb : c.code = cc) (hK : va_K D cl (xty g) s) (hH : xH g D cl σ s H locs) {fs : List Value} (he : σ.2[k]? = some (102, fs)) {i x : Int32} (hin : xin i fs.length = true) (hx : narrow .char (.int x) = .int x) (hdg : decode cc pc = .ok (.castore, 1))
    (kk : ∀ (H1 : Heap) (locs1 : List Loc), xH g D cl (σ.1, σ.2.set k (102, fs.set i.toNatClampNeg (.int x))) s H1 locs1 → W p l e R s m args below meth c H1 locs1 cells slots Q (F0 m (pc + 1) ls rest)) : W p l e R s m args below meth c H locs cells slots Q (F0 m pc ls (.int x :: .int i :: .ref (g.1 + k) :: rest)) :=
  W.cast hexec hb (hH.1.arr he (by decide)) ((xK_at hK 102).1 _ _) (fun q => by cases q) (by rw [arrV_size]; exact (xin_ok hin).1) rfl rfl hdg fun H1 e1 z oq => kk H1 _ (xstore hH (by decide) (xin_ok hin).2 (by rw [hx] at e1; exact e1) z oq)
theorem xaast (hexec : p.tables.exec = Jvm.exec) (hb : c.code = cc) (hK : va_K D cl (xty g) s) (hH : xH g D cl σ s H locs) {fs vs : List Value} (he : σ.2[k]? = some (103, fs)) {i : Int32} {v ci : Nat} {T : u_T} {N : Nat} (hv : σ.2[v]? = some (ci, vs)) (hci : ci < 100) (hc : cl[ci]? = some ("RoverLocator$State", T, N)) (hin : xin i fs.length = true) (hdg : decode cc pc = .ok (.aastore, 1))
    (kk : ∀ (H1 : Heap) (locs1 : List Loc), xH g D cl (σ.1, σ.2.set k (103, fs.set i.toNatClampNeg (.ref v))) s H1 locs1 → W p l e R s m args below meth c H1 locs1 cells slots Q (F0 m (pc + 1) ls rest)) : W p l e R s m args below meth c H locs cells slots Q (F0 m pc ls (.ref (g.1 + v) :: .int i :: .ref (g.1 + k) :: rest)) := by
  obtain ⟨cellV, g1, g2, g3, -⟩ := hH.1.obj hv hci hc
  have hcls := (hK.1 ci _ hc).2
  obtain ⟨kA, comp, k1, k2, k3, -⟩ := (xK_at hK 103).2
  have hcomp : comp = D.1 ci := Option.some.inj (k3.symm.trans hcls.1)
  subst hcomp
  obtain ⟨kC, hkC, -⟩ := hcls.2
  exact W.aast hexec hb (hH.1.arr he (by decide)) (fun q h => by cases h) (fun h => by cases h) k1 k2 rfl hkC ⟨fun q => (xin_ok hin).1 (Or.inl q), by rw [arrV_size]; exact (xin_ok hin).2⟩ g1 (fun q h => by rw [g3] at h; cases h) (by rw [g2]; exact hkC) (by rw [g2]; exact va_assign hcls) rfl rfl hdg fun H1 e1 z oq => kk H1 _ (xstore hH (by decide) (xin_ok hin).2 e1 z oq)
theorem xalen (hexec : p.tables.exec = Jvm.exec) (hb : c.code = cc) (hK : va_K D cl (xty g) s) (hH : xH g D cl σ s H locs) {fs : List Value} {t : Nat} (he : σ.2[k]? = some (t, fs)) (ht : 100 ≤ t) (hdg : decode cc pc = .ok (.arraylength, 1))
    (kk : W p l e R s m args below meth c H locs cells slots Q (F0 m (pc + 1) ls (.int (Int32.ofNat fs.length) :: rest))) : W p l e R s m args below meth c H locs cells slots Q (F0 m pc ls (.ref (g.1 + k) :: rest)) :=
  W.alen (n := Int32.ofNat fs.length) hexec hb (hH.1.arr he ht) ((xK_at hK t).1 _ _) (by rw [arrV_size] <;> rfl) rfl rfl hdg kk
end XHP
end
noncomputable section
/-! Making cells, copying rows, the script. -/
theorem xarr_congr (cA : ClassId) {N : Nat} {f f' : Nat → Value} (h : ∀ j, j < N → f j = f' j) : arrV cA N f = arrV cA N f' := by
  unfold arrV
  congr 1
  apply congrArg
  funext j
  exact h j.1 j.2
def xcpy (f g : List Value) (sp dp n : Nat) : List Value := g.take dp ++ ((f.drop sp).take n ++ g.drop (dp + n))
theorem xcpy_len {f g : List Value} {sp dp n : Nat} (h1 : sp + n ≤ f.length) (h2 : dp + n ≤ g.length) : (xcpy f g sp dp n).length = g.length := by
  unfold xcpy
  simp only [List.length_append, List.length_take, List.length_drop]
  omega
theorem xcpy_at {f g : List Value} {sp dp n : Nat} (h1 : sp + n ≤ f.length) (h2 : dp + n ≤ g.length) (q : Nat) : (xcpy f g sp dp n)[q]? = if dp ≤ q ∧ q < dp + n then f[sp + (q - dp)]? else g[q]? := by
  unfold xcpy
  by_cases ha : q < dp
  · rw [if_neg (by omega), List.getElem?_append_left (by simp only [List.length_take]; omega), List.getElem?_take_of_lt ha]
  · rw [List.getElem?_append_right (by simp only [List.length_take]; omega)]
    have e1 : (g.take dp).length = dp := by simp only [List.length_take]; omega
    rw [e1]
    by_cases hb : q < dp + n
    · rw [if_pos (by omega), List.getElem?_append_left (by simp only [List.length_take, List.length_drop]; omega), List.getElem?_take_of_lt (by omega), List.getElem?_drop]
    · rw [if_neg (by omega), List.getElem?_append_right (by simp only [List.length_take, List.length_drop]; omega)]
      have e2 : ((f.drop sp).take n).length = n := by simp only [List.length_take, List.length_drop]; omega
      rw [e2, List.getElem?_drop]
      congr 1
      omega
theorem xF_cpy {g : XG} {f h : List Value} {sp dp n : Nat} (h1 : sp + n ≤ f.length) (h2 : dp + n ≤ h.length) : va_cpy (xF g f) (xF g h) sp dp n = xF g (xcpy f h sp dp n) := by
  funext q
  unfold va_cpy xF
  rw [List.getD_eq_getElem?_getD (l := xcpy f h sp dp n), xcpy_at h1 h2]
  split
  · rw [List.getD_eq_getElem?_getD]
  · rw [List.getD_eq_getElem?_getD]
/-- all that is copied fits the row's type -/
def xfa (t : Nat) (l : List Value) : Bool := l.all (fun v => match v with
  | .int _ => Nat.beq t 100
  | .long _ => Nat.beq t 101
  | _ => false)
theorem xfa_ok {g : XG} {t : Nat} {l : List Value} (h : xfa t l = true) {i : Nat} (hi : i < l.length) : fits (xat t) (xF g l i) = true ∧ refKind (xat t) = false := by
  have h1 := List.all_eq_true.mp h (l[i]) (List.getElem_mem hi)
  rw [xF_at (List.getElem?_eq_getElem hi)]
  generalize l[i] = v at h1 ⊢
  cases v with
  | int x =>
    have e := Nat.eq_of_beq_eq_true h1
    subst e
    exact ⟨rfl, rfl⟩
  | long x =>
    have e := Nat.eq_of_beq_eq_true h1
    subst e
    exact ⟨rfl, rfl⟩
  | _ => cases h1
theorem xnn {z : Int32} (hz : ¬ z < 0) : z.toInt = (z.toNatClampNeg : Int) := by
  have hz0 : (0 : Int) ≤ z.toInt := by
    have := Int32.not_lt.mp hz
    simpa using Int32.le_iff_toInt_le.mp this
  show z.toInt = ((z.toInt.toNat : Nat) : Int)
  omega
section XAL
variable {p : Program} {l : Launch} {e : Env} {R : Room} {s : State} {m : MethodId} {args : Array Value} {below : List Frame} {meth : Method} {c : Code} {H : Heap} {locs : List Loc} {cells slots : Nat} {Q : State → Prop}
variable {cc : ByteArray} {pc : Nat} {ls : Array Slot} {rest : List Value} {D : va_G} {cl : List vw_C} {g : XG} {σ : XW} {k : Nat}
theorem xpush {x : XE} {H1 : Heap} (hH : xH g D cl σ s H locs) (hf : σ.1 = true) (he : xAt g D cl H.size x H1) (z : H1.size = H.size + 1) (oq : ∀ q, q < H.size → H1[q]? = H[q]?) : xH g D cl (true, σ.2 ++ [x]) s H1 locs := by
  have e0 := hH.2.2 hf
  refine ⟨hH.1.push (by rw [← e0]; exact he) oq, ⟨Nat.le_trans hH.2.1.1 (by omega), fun q h1 h2 => (oq q (Nat.lt_of_lt_of_le h1 hH.2.1.1)).trans (hH.2.1.2.1 q h1 h2), hH.2.1.2.2⟩, fun _ => ?_⟩
  rw [z, e0, List.length_append]
  rfl
theorem xnew (hexec : p.tables.exec = Jvm.exec) (hb : c.code = cc) {own C : String} {T : u_T} {N ci index : Nat} {Ts : List Cond} (hts : ∀ w ∈ Ts, w.before args s = true) (hin : ∀ w ∈ u_ws C T N, w ∈ Ts) (ty : Nat → FieldType) (hty : ∀ k, k < N → parseFieldDescriptor (T k).2.2.1 = some (ty k)) (hown : s.vm.findClass own = some m.cls) (hcl : (Cond.classLink own index C).before args s = true) (hinst : (Cond.instantiable C N).before args s = true) (hini : (Cond.initialized C).before args s = true)
    (hK : va_K D cl (xty g) s) (hH : xH g D cl σ s H locs) (hf : σ.1 = true) (hci : ci < 100) (hc : cl[ci]? = some (C, T, N)) {fs : List Value} (hfs : ∀ j, j < N → defaultValue (ty j) = xF g fs j) (hcells : cells + 1 ≤ R.cells) (hslots : slots + N ≤ R.slots) (hdg : decode cc pc = .ok (.new index, 3))
    (kk : ∀ H1 : Heap, xH g D cl (true, σ.2 ++ [(ci, fs)]) s H1 locs → W p l e R s m args below meth c H1 locs (cells + 1) (slots + N) Q (F0 m (pc + 3) ls (.ref (g.1 + σ.2.length) :: rest))) : W p l e R s m args below meth c H locs cells slots Q (F0 m pc ls rest) := by
  have hKn := hK.1 ci _ hc
  refine W.newcK hexec hb hown hcl hinst hini rfl hdg hcells hslots hKn.2.1 rfl fun H1 kC hkC e1 z1 o1 => ?_
  have e0 := hH.2.2 hf
  have h9 := kk H1 (xpush hH hf (x := (ci, fs)) (by
    unfold xAt
    rw [if_pos (by exact hci)]
    exact ⟨_, hc, (u_born ty hts hin hKn hkC e1 hty).to hfs⟩) z1 o1)
  rw [← e0] at h9
  exact h9
theorem xnewa (hexec : p.tables.exec = Jvm.exec) (hb : c.code = cc) {atype : ArrayType} {t : Nat} (hty : newarray.typeOf atype = xat t) (hRA : ∀ cA, va_RA s cA (xat t) → s.vm.findClass ("[" ++ (xat t).toString) = some cA) (ht : 100 ≤ t) (harr : (Cond.arrayClass (newarray.typeOf atype)).before args s = true)
    (hK : va_K D cl (xty g) s) (hH : xH g D cl σ s H locs) (hf : σ.1 = true) {n : Int32} {N : Nat} (hn : ¬ n < 0) (hN : n.toNatClampNeg = N) (hsm : N * 8 ≤ 536870912) (hcb : componentBytes (newarray.typeOf atype) ≤ 8) {v : Value} (hv : xrv g.1 g.2.1 v = defaultValue (xat t)) (hcells : cells + 1 ≤ R.cells) (hslots : slots + N ≤ R.slots) (hdg : decode cc pc = .ok (.newarray atype, 2))
    (kk : ∀ H1 : Heap, xH g D cl (true, σ.2 ++ [(t, List.replicate N v)]) s H1 locs → W p l e R s m args below meth c H1 locs (cells + 1) (slots + N) Q (F0 m (pc + 2) ls (.ref (g.1 + σ.2.length) :: rest))) : W p l e R s m args below meth c H locs cells slots Q (F0 m pc ls (.int n :: rest)) := by
  refine va_newaK hexec hb harr rfl hdg rfl hn hN (Nat.le_trans (Nat.mul_le_mul_left N hcb) hsm) hcells hslots rfl fun H1 cA e1 z1 o1 hAr hNm => ?_
  have e0 := hH.2.2 hf
  have ec : cA = xtc g t := Option.some.inj (hNm.symm.trans (by rw [hty]; exact hRA _ (xK_at hK t).2))
  subst ec
  have h9 := kk H1 (xpush hH hf (x := (t, List.replicate N v)) (by
    unfold xAt
    rw [if_neg (by exact Nat.not_lt.mpr ht)]
    show H1[H.size]? = some (arrV (xtc g t) (List.replicate N v).length (xF g (List.replicate N v)))
    rw [e1, List.length_replicate]
    refine congrArg some (xarr_congr _ (fun j hj => ?_))
    rw [xF_at (v := v) (by rw [List.getElem?_replicate, if_pos hj]), hv, hty]) z1 o1)
  rw [← e0] at h9
  exact h9
theorem xanew (hexec : p.tables.exec = Jvm.exec) (hb : c.code = cc) {own : String} {index : Nat} (hown : s.vm.findClass own = some m.cls) (hclink : (Cond.classLink own index "RoverLocator$State").before args s = true) (hover : (Cond.arrayOver (.object "RoverLocator$State")).before args s = true)
    (hK : va_K D cl (xty g) s) (hH : xH g D cl σ s H locs) (hf : σ.1 = true) {n : Int32} {N : Nat} (hn : ¬ n < 0) (hN : n.toNatClampNeg = N) (hsm : N * 4 ≤ 536870912) (hcells : cells + 1 ≤ R.cells) (hslots : slots + N ≤ R.slots) (hdg : decode cc pc = .ok (.anewarray index, 3))
    (kk : ∀ H1 : Heap, xH g D cl (true, σ.2 ++ [(103, List.replicate N .null)]) s H1 locs → W p l e R s m args below meth c H1 locs (cells + 1) (slots + N) Q (F0 m (pc + 3) ls (.ref (g.1 + σ.2.length) :: rest))) : W p l e R s m args below meth c H locs cells slots Q (F0 m pc ls (.int n :: rest)) := by
  subst hN
  refine W.anew hexec hb hown hclink hover rfl hdg rfl hn hsm hcells hslots fun cA kA comp f1 f2 f3 f4 => ?_
  have e0 := hH.2.2 hf
  obtain ⟨kA', comp', k1, k2, k3, k4⟩ := (xK_at hK 103).2
  have ec : cA = xtc g 103 := Option.some.inj (f1.symm.trans k4)
  subst ec
  generalize hH1 : H.push ({ cls := xtc g 103, slots := Array.replicate n.toNatClampNeg .null, vm := .none } : Cell) = H1
  have z1 : H1.size = H.size + 1 := by rw [← hH1, Array.size_push]
  have e1 : H1[H.size]? = some (arrV (xtc g 103) n.toNatClampNeg (fun _ => .null)) := by rw [← hH1, Array.getElem?_push_size, ← arrV_new]
  have o1 : ∀ q : Nat, q < H.size → H1[q]? = H[q]? := fun q hq => by rw [← hH1, Array.getElem?_push, if_neg (Nat.ne_of_lt hq)]
  have h9 := kk H1 (xpush hH hf (x := (103, List.replicate n.toNatClampNeg .null)) (by
    unfold xAt
    rw [if_neg (show ¬ (103 : Nat) < 100 by decide)]
    show H1[H.size]? = some (arrV (xtc g 103) (List.replicate n.toNatClampNeg Value.null).length (xF g (List.replicate n.toNatClampNeg Value.null)))
    rw [e1, List.length_replicate]
    refine congrArg some (xarr_congr _ (fun j hj => ?_))
    rw [xF_at (v := .null) (by rw [List.getElem?_replicate, if_pos hj])]
    rfl) z1 o1)
  rw [← e0] at h9
  exact h9
set_option maxHeartbeats 1000000 in
theorem xacpy (hexec : p.tables.exec = Jvm.exec) (hb : c.code = cc) (hml : c.maxLocals = ls.size) {own : String} {index : Nat} (hown : s.vm.findClass own = some m.cls) (hlink : (Cond.methodLink own index arraycopyName).before args s = true) (hnat : (Cond.native arraycopyName).before args s = true) (hstat : (Cond.static arraycopyName).before args s = true) (hini : (Cond.initialized "java/lang/System").before args s = true)
    (hK : va_K D cl (xty g) s) (hH : xH g D cl σ s H locs) {k0 t : Nat} {f0 f1 : List Value} (he0 : σ.2[k0]? = some (t, f0)) (he1 : σ.2[k]? = some (t, f1)) (ht : 100 ≤ t) (hfa : xfa t f0 = true) (hne : 0 < f0.length)
    {sp dp n : Int32} (h1 : ¬ sp < 0) (h2 : ¬ dp < 0) (h3 : ¬ n < 0) (h4 : sp.toNatClampNeg + n.toNatClampNeg ≤ f0.length) (h5 : dp.toNatClampNeg + n.toNatClampNeg ≤ f1.length)
    (hframes : 1 ≤ R.frames) (hlocals : (rest.map fun v => v.category).sum + 30 ≤ R.locals) (hdg : decode cc pc = .ok (.invokestatic index, 3))
    (kk : ∀ (H1 : Heap) (locs1 : List Loc), xH g D cl (σ.1, σ.2.set k (t, xcpy f0 f1 sp.toNatClampNeg dp.toNatClampNeg n.toNatClampNeg)) s H1 locs1 → W p l e R s m args below meth c H1 locs1 cells slots Q (F0 m (pc + 3) ls rest)) : W p l e R s m args below meth c H locs cells slots Q (F0 m pc ls (.int n :: .int dp :: .ref (g.1 + k) :: .int sp :: .ref (g.1 + k0) :: rest)) := by
  intro T hT X
  have hc0 := hH.1.arr he0 ht
  have hc1 := hH.1.arr he1 ht
  obtain ⟨-, c0, hk0, cm0, hkk0⟩ := (xK_at hK t).1 f0.length (xF g f0)
  obtain ⟨-, c1, hk1, cm1, hkk1⟩ := (xK_at hK t).1 f1.length (xF g f1)
  have hprim := (xfa_ok (g := g) hfa hne).2
  have hw : nativeFrameWords "java/lang/System" "arraycopy" 5 ≤ 19 := by decide
  obtain ⟨vm', X', step⟩ := X.arraycopy hexec hown hlink hnat hstat hini (src := g.1 + k0) (dst := g.1 + k) (cs := arrV (xtc g t) f0.length (xF g f0)) (cd := arrV (xtc g t) f1.length (xF g f1)) (srcPos := sp) (destPos := dp) (n := n) (by rw [hT]; exact hc0) (by rw [hT]; exact hc1)
    (fun _ h => by cases h) (fun _ h => by cases h) (fun h => by cases h) (fun h => by cases h) hk0 hk1 hkk0 hkk1 (by simp [hprim]) h1 h2 h3
    (by rw [xnn h1, xnn h3, arrV_size]; omega)
    (by rw [xnn h2, xnn h3, arrV_size]; omega)
    (fun vm₁ _ i hi => by
      have hi' : sp.toNatClampNeg + i < f0.length := by omega
      have e : (arrV (xtc g t) f0.length (xF g f0)).slots.getD (sp.toNatClampNeg + i) .null = xF g f0 (sp.toNatClampNeg + i) := by
        rw [Array.getD_eq_getD_getElem?, arrV_read _ _ hi']
        rfl
      have hfit := (xfa_ok (g := g) hfa hi').1
      refine ⟨?_, ?_⟩
      · rw [e]
        exact hfit
      · rw [e]
        have h6 := List.all_eq_true.mp hfa (f0[sp.toNatClampNeg + i]) (List.getElem_mem hi')
        rw [xF_at (List.getElem?_eq_getElem hi')]
        generalize f0[sp.toNatClampNeg + i] = v at h6 ⊢
        cases v with
        | int x => exact trivial
        | long x => exact trivial
        | _ => cases h6)
    (g := F0 m pc ls (.int n :: .int dp :: .ref (g.1 + k) :: .int sp :: .ref (g.1 + k0) :: rest)) rfl (by rw [hml]) (rest := rest) rfl (by rw [hb]; exact hdg) hframes (by show 2 * 0 + _ + _ ≤ _; omega)
  have e1 : copied (arrV (xtc g t) f0.length (xF g f0)) (arrV (xtc g t) f1.length (xF g f1)) sp dp n = arrV (xtc g t) f1.length (va_cpy (xF g f0) (xF g f1) sp.toNatClampNeg dp.toNatClampNeg n.toNatClampNeg) := va_copied (fun z => z) (xtc g t) (xtc g t) (xF g f0) (xF g f1) h4
  rw [e1] at X' step
  have hl : g.1 + k < H.size := (Array.getElem?_eq_some_iff.mp hc1).1
  have hheap : ((T.setVm vm').setCell (g.1 + k) (arrV (xtc g t) f1.length (va_cpy (xF g f0) (xF g f1) sp.toNatClampNeg dp.toNatClampNeg n.toNatClampNeg))).heap = H.setIfInBounds (g.1 + k) (arrV (xtc g t) f1.length (va_cpy (xF g f0) (xF g f1) sp.toNatClampNeg dp.toNatClampNeg n.toNatClampNeg)) := by rw [← hT]; rfl
  have oq : ∀ q : Nat, q ≠ g.1 + k → (H.setIfInBounds (g.1 + k) (arrV (xtc g t) f1.length (va_cpy (xF g f0) (xF g f1) sp.toNatClampNeg dp.toNatClampNeg n.toNatClampNeg)))[q]? = H[q]? := fun q hq => by simp [Array.getElem?_setIfInBounds, Ne.symm hq]
  obtain ⟨t9, a1, b1⟩ := kk _ _ ⟨hH.1.set (by
      unfold xAt
      rw [if_neg (by exact Nat.not_lt.mpr ht)]
      show (H.setIfInBounds (g.1 + k) _)[g.1 + k]? = some (arrV (xtc g t) (xcpy f0 f1 sp.toNatClampNeg dp.toNatClampNeg n.toNatClampNeg).length (xF g (xcpy f0 f1 sp.toNatClampNeg dp.toNatClampNeg n.toNatClampNeg)))
      rw [xcpy_len h4 h5, ← xF_cpy h4 h5]
      simp [Array.getElem?_setIfInBounds, hl]) oq, ⟨by simp; exact hH.2.1.1, fun q g1 g2 => by
      rw [oq q (fun e => g2 (by rw [e]; exact Nat.le_add_right _ _))]
      exact hH.2.1.2.1 q g1 g2, fun q hq => by
      rcases List.mem_append.mp hq with h | h
      · exact hH.2.1.2.2 q h
      · obtain ⟨z, -, hz⟩ := List.mem_map.mp h
        rw [← hz]
        exact Nat.le_add_right _ _⟩, fun h => by simp; exact hH.2.2 h⟩ _ hheap X'
  exact ⟨t9, step t9 a1, b1⟩
end XAL
end
