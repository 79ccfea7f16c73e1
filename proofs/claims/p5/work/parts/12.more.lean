theorem xm012 : ∀ a, a < 3 → a ∈ [0, 1, 2] := by decide
/-! A step that goes on within the frame. -/
section XMO
variable {p : Program} {l : Launch} {e : Env} {s : State} {m : MethodId} {args : Array Value} {below : List Frame} {meth : Method} {c : Code} {Q : State → Prop}
variable {D : va_G} {g : XG} {xs : List Int32} {k : Nat}
theorem xldcwf {cc : ByteArray} {pc : Nat} {ls : Array Slot} {rest : List Value} {R : Room} {H : Heap} {locs : List Loc} {cells slots : Nat} (hexec : p.tables.exec = Jvm.exec) (hb : c.code = cc) {own : String} {index : Nat} {v : UInt32} (hown : s.vm.findClass own = some m.cls) (hconst : (Jvm.Cond.constantFloat own index v).before args s = true) (hdg : decode cc pc = .ok (.ldc_w index, 3)) (k : W p l e R s m args below meth c H locs cells slots Q (F0 m (pc + 3) ls (.float v :: rest))) : W p l e R s m args below meth c H locs cells slots Q (F0 m pc ls rest) := by
  intro T hT X
  obtain ⟨t, a, b⟩ := k T hT X
  refine ⟨t, ?_, b⟩
  obtain ⟨kc, cf, hk, hcf, hcp⟩ := Cond.constantFloat_spec hown hconst
  obtain ⟨k', hk', he⟩ := X.warmed.alike.2.2 _ _ hk
  have hdg' : decode c.code pc = .ok (.ldc_w index, 3) := by rw [hb]; exact hdg
  jvm_step X.here [X.here.top, hexec, hdg', ldc_w.wp_float (s := T) (f := F0 m pc ls rest) X.here.top hk' (by rw [he]; exact hcf) hcp]
  exact a
theorem xhk {σ : XW} {q : Nat} {t : Nat} {fs : List Value} (h : xnth σ.2 q = some (t, fs)) : σ.2[q]? = some (t, fs) := by rw [← xnth_eq]; exact h
theorem xand {a b : Bool} (h : (a && b) = true) : a = true ∧ b = true := by rw [Bool.and_eq_true] at h; exact h
theorem xbif {α : Type} {b : Bool} {x : α} {y : Option α} (h : (bif b then some x else none) = y) {z : α} (hy : y = some z) : b = true ∧ x = z := by
  subst hy
  cases b with
  | true => exact ⟨rfl, Option.some.inj h⟩
  | false => cases h
theorem xbif2 {α : Type} {b : Bool} {x : Option α} {z : α} (h : (bif b then x else none) = some z) : b = true ∧ x = some z := by
  cases b with
  | true => exact ⟨rfl, h⟩
  | false => cases h
theorem xble {a b : Nat} (h : Nat.ble a b = true) : a ≤ b := Nat.le_of_ble_eq_true h
theorem xblt' {a b : Nat} (h : Nat.blt a b = true) : a < b := Nat.le_of_ble_eq_true h
theorem xbe {a b : Nat} (h : Nat.beq a b = true) : a = b := Nat.eq_of_beq_eq_true h
theorem xdb {p : Prop} [Decidable p] (h : decide p = true) : p := of_decide_eq_true h

set_option maxHeartbeats 4000000 in
set_option maxRecDepth 100000 in
theorem x_more {rec : Nat → List Value → XW → Option (XO × XW)} {z0 z1 : XC} (F : xFx p l s m meth c g D xs k) (hrec : xRec l g D xs rec) (h : xstep rec xs k z0 = some (.inl z1)) (kw : xWc p l e s m args below meth c Q g D k z1) : xWc p l e s m args below meth c Q g D k z0 := by
  intro lsA H locs hl hH
  obtain ⟨hx, hb, hml', hown, hnm, -, -, hI, hst, -⟩ := id F
  have hK := hI.2.1
  obtain ⟨pc, ls, st, cu, su, σ⟩ := z0
  dsimp only at hl hH ⊢
  unfold xstep at h
  dsimp only at h
  split at h
  · cases h
  · next i len a b hcode =>
    have hk : k < 257 := xcode_k hcode
    obtain ⟨hd, hlen, hoff, hlnk⟩ := xent_dec hcode
    have hlen2 := (xent_at hcode).2.1
    dsimp only at hd hlen hoff hlen2
    split at h
    · next ix =>
      obtain rfl : len = 3 := xbe hlen2
      split at h
      · next q r =>
        split at h
        · next t fs hq =>
          have hz9 := xbif2 h; clear h; obtain ⟨ht, h⟩ := hz9
          obtain rfl := xbe ht
          split at h
          · next v hv =>
            cases h
            rw [xnth_eq] at hv
            have hL : ∃ n, (xK k, ix, t, b, n) ∈ xfl := by
              have h9 : (decide ((xK k, ix, t, b, true) ∈ xfl) || decide ((xK k, ix, t, b, false) ∈ xfl)) = true := hlnk
              rw [Bool.or_eq_true] at h9
              exact h9.elim (fun q => ⟨true, xdb q⟩) (fun q => ⟨false, xdb q⟩)
            obtain ⟨n, hn⟩ := hL
            obtain ⟨f1, f2, f3⟩ := xfl_at hn hI args
            refine xgetf (own := xcn (xK k)) hx hb (xts hI args) (xin_cl f1) hown hK hH (xhk hq) (by omega) (xcl_at _ f1) f2 ?_ hv hd (kw lsA H locs hl hH)
            cases n with
            | true => exact Or.inr ⟨_, by rw [if_pos rfl] at f3; exact f3⟩
            | false => exact Or.inl (by rw [if_neg (by decide)] at f3; exact f3)
          · cases h
        · cases h
      · cases h
    · next ix =>
      obtain rfl : len = 3 := xbe hlen2
      split at h
      · next v q r =>
        split at h
        · next t fs hq =>
          have hz9 := xbif2 h; clear h; obtain ⟨hc9, h⟩ := hz9
          obtain ⟨ht, hc8⟩ := xand hc9
          obtain ⟨hfit, hlt⟩ := xand hc8
          obtain rfl := xbe ht
          cases h
          have h9 : ((decide ((xK k, ix, t, b, false) ∈ xfl) && (decide (((xcT t).2.1 b).2.2.2 = false) || (decide ((xY k).name = "<init>") && decide (((xcT t).2.1 b).1 = xcn (xK k))))) || (decide ((xK k, ix, t, b, true) ∈ xfl) && decide (((xcT t).2.1 b).2.2.2 = false))) = true := hlnk
          rw [Bool.or_eq_true] at h9
          rcases h9 with h9 | h9
          · obtain ⟨hn, hf⟩ := xand h9
            obtain ⟨f1, f2, f3⟩ := xfl_at (xdb hn) hI args
            rw [if_neg (by decide)] at f3
            refine xputf (own := xcn (xK k)) hx hb (xts hI args) (xin_cl f1) (xfty t) (xcl_ty t f1) (xcl_nm t f1) hown hK hH (xhk hq) (by omega) (xcl_at _ f1) f2 (Or.inl f3) ?_ hfit (xblt' hlt) hd (fun H1 locs1 hH1 => kw lsA H1 locs1 hl hH1)
            rw [Bool.or_eq_true] at hf
            rcases hf with hf | hf
            · exact Or.inl (xdb hf)
            · obtain ⟨hf1, hf2⟩ := xand hf
              cases hfin : ((xcT t).2.1 b).2.2.2 with
              | false => exact Or.inl rfl
              | true => exact Or.inr ⟨rfl, hnm.trans (xdb hf1), xdb hf2, f3⟩
          · obtain ⟨hn, hf⟩ := xand h9
            obtain ⟨f1, f2, f3⟩ := xfl_at (xdb hn) hI args
            rw [if_pos rfl] at f3
            exact xputf (own := xcn (xK k)) hx hb (xts hI args) (xin_cl f1) (xfty t) (xcl_ty t f1) (xcl_nm t f1) hown hK hH (xhk hq) (by omega) (xcl_at _ f1) f2 (Or.inr ⟨_, f3⟩) (Or.inl (xdb hf)) hfit (xblt' hlt) hd (fun H1 locs1 hH1 => kw lsA H1 locs1 hl hH1)
        · cases h
      · cases h
    · obtain rfl : len = 1 := xbe hlen2
      split at h
      · next j q r =>
        split at h
        · next t fs hq =>
          have hz9 := xbif2 h; clear h; obtain ⟨hc9, h⟩ := hz9
          obtain ⟨ht, hin⟩ := xand hc9
          obtain rfl := xbe ht
          split at h
          · next x hv =>
            cases h
            rw [xnth_eq] at hv
            exact xiald hx hb hK hH (xhk hq) hin hv hd (kw lsA H locs hl hH)
          · cases h
        · cases h
      · next j w r =>
        have hz9 := xbif2 h; clear h; obtain ⟨hin, h⟩ := hz9
        split at h
        · next x hv =>
          cases h
          rw [xnth_eq] at hv
          have hx9 : xs.getD j.toNatClampNeg 0 = x := by rw [List.getD_eq_getElem?_getD, hv]; rfl
          have h8 := va_sld (ls := lsA) (rest := xst g.1 g.2.1 r) (locs := locs) (cells := cu) (slots := su) (Q := Q) (p := p) (l := l) (e := e) (R := xrm k) (m := m) (args := args) (below := below) (meth := meth) hx hb hI.2.2.2.2.2.2.1 (by have := hI.2.2.2.2.2.2.2.1; have := hI.2.2.2.2.2.2.2.2.1; omega) (by show ¬ g.1 ≤ g.2.1; have := hI.2.2.2.2.2.2.2.1; omega) hH.2.1 (xin_ok hin).1 hd
          rw [hx9] at h8
          exact h8 (kw lsA H locs hl hH)
        · cases h
      · cases h
    · obtain rfl : len = 1 := xbe hlen2
      split at h
      · next j q r =>
        split at h
        · next t fs hq =>
          have hz9 := xbif2 h; clear h; obtain ⟨hc9, h⟩ := hz9
          obtain ⟨ht, hin⟩ := xand hc9
          obtain rfl := xbe ht
          split at h
          · next x hv =>
            cases h
            rw [xnth_eq] at hv
            exact xlald hx hb hK hH (xhk hq) hin hv hd (kw lsA H locs hl hH)
          · cases h
        · cases h
      · cases h
    · obtain rfl : len = 1 := xbe hlen2
      split at h
      · next j q r =>
        split at h
        · next t fs hq =>
          have hz9 := xbif2 h; clear h; obtain ⟨hc9, h⟩ := hz9
          obtain ⟨ht, hin⟩ := xand hc9
          obtain rfl := xbe ht
          split at h
          · next x hv =>
            cases h
            rw [xnth_eq] at hv
            exact xcald hx hb hK hH (xhk hq) hin hv hd (kw lsA H locs hl hH)
          · cases h
        · cases h
      · cases h
    · obtain rfl : len = 1 := xbe hlen2
      split at h
      · next j q r =>
        split at h
        · next t fs hq =>
          have hz9 := xbif2 h; clear h; obtain ⟨hc9, h⟩ := hz9
          obtain ⟨ht, hin⟩ := xand hc9
          obtain rfl := xbe ht
          split at h
          · next x hv =>
            cases h
            rw [xnth_eq] at hv
            exact xaald hx hb hK hH (xhk hq) hin hv hd (kw lsA H locs hl hH)
          · cases h
        · cases h
      · cases h
    · obtain rfl : len = 1 := xbe hlen2
      split at h
      · next x j q r =>
        split at h
        · next t fs hq =>
          have hz9 := xbif2 h; clear h; obtain ⟨hc9, h⟩ := hz9
          obtain ⟨ht, hin⟩ := xand hc9
          obtain rfl := xbe ht
          cases h
          exact xiast hx hb hK hH (xhk hq) hin hd (fun H1 locs1 hH1 => kw lsA H1 locs1 hl hH1)
        · cases h
      · cases h
    · obtain rfl : len = 1 := xbe hlen2
      split at h
      · next x j q r =>
        split at h
        · next t fs hq =>
          have hz9 := xbif2 h; clear h; obtain ⟨hc9, h⟩ := hz9
          obtain ⟨ht, hin⟩ := xand hc9
          obtain rfl := xbe ht
          cases h
          exact xlast hx hb hK hH (xhk hq) hin hd (fun H1 locs1 hH1 => kw lsA H1 locs1 hl hH1)
        · cases h
      · cases h
    · obtain rfl : len = 1 := xbe hlen2
      split at h
      · next x j q r =>
        split at h
        · next t fs hq =>
          have hz9 := xbif2 h; clear h; obtain ⟨hc9, h⟩ := hz9
          obtain ⟨ht, hin⟩ := xand hc9
          obtain rfl := xbe ht
          obtain ⟨hin, hnar⟩ := xand hin
          cases h
          exact xcast hx hb hK hH (xhk hq) hin (xdb hnar) hd (fun H1 locs1 hH1 => kw lsA H1 locs1 hl hH1)
        · cases h
      · cases h
    · obtain rfl : len = 1 := xbe hlen2
      split at h
      · next x j q r =>
        split at h
        · next t fs hq =>
          have hz9 := xbif2 h; clear h; obtain ⟨hc9, h⟩ := hz9
          obtain ⟨ht, hin⟩ := xand hc9
          obtain rfl := xbe ht
          split at h
          · next t2 vs hq2 =>
            have hz9 := xbif2 h; clear h; obtain ⟨ht2, h⟩ := hz9
            obtain rfl := xbe ht2
            cases h
            exact xaast (ci := 6) hx hb hK hH (xhk hq) (xhk hq2) (by decide) rfl hin hd (fun H1 locs1 hH1 => kw lsA H1 locs1 hl hH1)
          · cases h
        · cases h
      · cases h
    · obtain rfl : len = 1 := xbe hlen2
      split at h
      · next q r =>
        split at h
        · next t fs hq =>
          have hz9 := xbif2 h; clear h; obtain ⟨ht, h⟩ := hz9
          cases h
          exact xalen hx hb hK hH (xhk hq) (xble ht) hd (kw lsA H locs hl hH)
        · cases h
      · next w r =>
        cases h
        exact va_slen hx hb hI.2.2.2.2.2.2.1 (by have := hI.2.2.2.2.2.2.2.1; have := hI.2.2.2.2.2.2.2.2.1; omega) (by show ¬ g.1 ≤ g.2.1; have := hI.2.2.2.2.2.2.2.1; omega) hH.2.1 hd (kw lsA H locs hl hH)
      · cases h
    · next ix =>
      obtain rfl : len = 3 := xbe hlen2
      split at h
      · have hz9 := xbif2 h; clear h; obtain ⟨hc9, h⟩ := hz9
        obtain ⟨hf, hc8⟩ := xand hc9
        obtain ⟨hc7, hc6⟩ := xand hc8
        cases h
        have hn : (xK k, ix, a) ∈ xnl := xdb hlnk
        have ha : a < 12 := xnl_b _ hn
        obtain ⟨d1, d2⟩ := xcl_df a ha
        obtain ⟨w1, w2⟩ := xnl_w _ hn
        obtain ⟨w3, w4⟩ := xci_w (Cond.instantiable (xcT a).1 (xcT a).2.2) (List.mem_map.mpr ⟨a, List.mem_range.mpr ha, rfl⟩)
        have hini : (Cond.initialized (xcT a).1).before args s = true := by
          obtain ⟨h1, h2⟩ := xini_w a (xini_12 a ha)
          rw [← xcn_T a ha]
          exact hI.1 _ h1 h2 args
        rw [d1] at hc6
        have h8 := xnew (own := xcn (xK k)) (ci := a) (fs := xdef a) (rest := xst g.1 g.2.1 st) (ls := lsA) (Q := Q) (locs := locs) (cells := cu) (slots := su) (p := p) (l := l) (e := e) (R := xrm k) (args := args) (below := below) (meth := meth) hx hb (xts hI args) (xin_cl ha) (xfty a) (xcl_ty a ha) hown (hI.1 _ w1 w2 args) (hI.1 _ w3 w4 args) hini hK hH hf (by omega) (xcl_at a ha) (fun j hj => by rw [xF_at (d2 j hj)]; generalize xfty a j = tt; cases tt <;> rfl) (xble hc7) (xble hc6) hd
        refine h8 (fun H1 hH1 => ?_)
        have h7 := kw lsA H1 locs hl hH1
        dsimp only at h7
        rw [d1] at h7
        exact h7
      · have hz9 := xbif2 h; clear h; obtain ⟨hc9, h⟩ := hz9
        cases h
    · next t =>
      obtain rfl : len = 2 := xbe hlen2
      split at h
      · next n r =>
        have hz9 := xbif2 h; clear h; obtain ⟨hc9, h⟩ := hz9
        obtain ⟨hf, hc8⟩ := xand hc9
        obtain ⟨hn0, hc7⟩ := xand hc8
        obtain ⟨hn1, hc6⟩ := xand hc7
        obtain ⟨hc5, hc4⟩ := xand hc6
        cases h
        obtain ⟨l1, l23⟩ := xand (show (decide (newarray.typeOf t = xat a) && (decide (100 ≤ a) && decide (a < 103))) = true from hlnk)
        obtain ⟨l2, l3⟩ := xand l23
        have l1 := xdb l1
        have l2 := xdb l2
        have l3 := xdb l3
        have hb9 := xble hn1
        have ha3 : a = 100 ∨ a = 101 ∨ a = 102 := by omega
        refine xnewa (t := a) hx hb l1 (fun cA hA => ?_) l2 ?_ hK hH hf (xdb hn0) rfl (by omega) (by rw [l1]; rcases ha3 with rfl | rfl | rfl <;> decide) (by rcases ha3 with rfl | rfl | rfl <;> rfl) (xble hc5) (xble hc4) hd (fun H1 hH1 => kw lsA H1 locs hl hH1)
        · rcases ha3 with rfl | rfl | rfl <;> exact hA
        · rw [l1]
          rcases ha3 with rfl | rfl | rfl
          · exact hI.1 _ (xar_w _ List.mem_cons_self).1 (xar_w _ List.mem_cons_self).2 args
          · exact hI.1 _ (xar_w _ (List.mem_cons_of_mem _ List.mem_cons_self)).1 (xar_w _ (List.mem_cons_of_mem _ List.mem_cons_self)).2 args
          · exact hI.1 _ (xar_w _ (List.mem_cons_of_mem _ (List.mem_cons_of_mem _ List.mem_cons_self))).1 (xar_w _ (List.mem_cons_of_mem _ (List.mem_cons_of_mem _ List.mem_cons_self))).2 args
      · cases h
    · next ix =>
      obtain rfl : len = 3 := xbe hlen2
      split at h
      · next n r =>
        have hz9 := xbif2 h; clear h; obtain ⟨hc9, h⟩ := hz9
        obtain ⟨hf, hc8⟩ := xand hc9
        obtain ⟨hn0, hc7⟩ := xand hc8
        obtain ⟨hn1, hc6⟩ := xand hc7
        obtain ⟨hc5, hc4⟩ := xand hc6
        cases h
        have hn : (xK k, ix) ∈ xan := xdb hlnk
        obtain ⟨w1, w2⟩ := xan_w _ hn
        have hb9 := xble hn1
        exact xanew (own := xcn (xK k)) hx hb hown (hI.1 _ w1 w2 args) (va_AO.use hI.2.2.2.2.2.2.2.2.2) hK hH hf (xdb hn0) rfl (by omega) (xble hc5) (xble hc4) hd (fun H1 hH1 => kw lsA H1 locs hl hH1)
      · cases h
    · next ix =>
      obtain rfl : len = 2 := xbe hlen2
      split at h
      · next v hv =>
        cases h
        have h9 := hlnk
        unfold xlnk at h9
        dsimp only at h9
        rw [hv] at h9
        rw [Bool.or_eq_true] at h9
        rcases h9 with h9 | h9
        · obtain ⟨hn, hty⟩ := xand h9
          obtain ⟨w1, w2⟩ := xkl_w _ (xdb hn)
          have h8 := hI.1 _ w1 w2 args
          unfold xklW at h8
          dsimp only at h8
          rw [hv] at h8
          cases v with
          | int x => exact lv_ldc hx hb hown h8 hd (kw lsA H locs hl hH)
          | float x => exact lv_ldcf hx hb hown h8 hd (kw lsA H locs hl hH)
          | _ => cases hty
        · (rw [xdb h9] at hv; cases hv)
      · cases h
    · next ix =>
      obtain rfl : len = 3 := xbe hlen2
      split at h
      · next v hv =>
        cases h
        have h9 := hlnk
        unfold xlnk at h9
        dsimp only at h9
        rw [hv] at h9
        rw [Bool.or_eq_true] at h9
        rcases h9 with h9 | h9
        · obtain ⟨hn, hty⟩ := xand h9
          obtain ⟨w1, w2⟩ := xkl_w _ (xdb hn)
          have h8 := hI.1 _ w1 w2 args
          unfold xklW at h8
          dsimp only at h8
          rw [hv] at h8
          cases v with
          | int x => exact lv_ldcw hx hb hown h8 hd (kw lsA H locs hl hH)
          | float x => exact xldcwf hx hb hown h8 hd (kw lsA H locs hl hH)
          | _ => cases hty
        · (rw [xdb h9] at hv; cases hv)
      · cases h
    · next ix =>
      obtain rfl : len = 3 := xbe hlen2
      split at h
      · next v hv =>
        cases h
        have h9 := hlnk
        unfold xlnk at h9
        dsimp only at h9
        rw [hv] at h9
        obtain ⟨hn, hty⟩ := xand h9
        obtain ⟨w1, w2⟩ := xkl_w _ (xdb hn)
        have h8 := hI.1 _ w1 w2 args
        unfold xklW at h8
        dsimp only at h8
        rw [hv] at h8
        cases v with
        | long x => exact lv_ldc2 hx hb hown h8 hd (kw lsA H locs hl hH)
        | double x => exact lv_ldc2d hx hb hown h8 hd (kw lsA H locs hl hH)
        | _ => cases hty
      · cases h
    · next ix =>
      obtain rfl : len = 3 := xbe hlen2
      split at h
      · next as q r hs =>
        split at h
        · next t fs hq =>
          have hz9 := xbif2 h; clear h; obtain ⟨hc9, h⟩ := hz9
          obtain ⟨ht, hroom⟩ := xand hc9
          obtain ⟨e1, e2, -⟩ := xsplit_st g.1 g.2.1 hs
          obtain ⟨l1, l2⟩ := xand (show (decide ((xK k, ix, a) ∈ xml) && decide (a ∈ xvm)) = true from hlnk)
          cases hr : rec a (.ref q :: as) σ with
          | none => rw [hr] at h; cases h
          | some r9 =>
            obtain ⟨o, σ'⟩ := r9
            rw [hr] at h
            have hM := hrec a (.ref q :: as) σ o σ' (xmb.1 a (xdb l2)).1 hr
            rw [e1]
            exact x_back hk F hl (x_runV F hM (xdb l2) (xdb l1) hH (xhk hq) (xbe ht) e2 hroom hl.1 hd) hH.2.1 h kw
        · cases h
      · cases h
    · next ix =>
      obtain rfl : len = 3 := xbe hlen2
      split at h
      · split at h
        · next q r =>
          have hz9 := xbif2 h; clear h; obtain ⟨hc9, h⟩ := hz9
          obtain ⟨hc8, hc7⟩ := xand hc9
          cases h
          have hn : (xK k, ix) ∈ xmo := xdb hlnk
          obtain ⟨w1, w2⟩ := xmo_w _ hn
          have hw := xble hc7
          exact W.objInit hx hb hown (hI.1 _ w1 w2 args) (hI.1 _ (xoi_w _ List.mem_cons_self).1 (xoi_w _ List.mem_cons_self).2 args) (hI.1 _ (xoi_w _ (List.mem_cons_of_mem _ List.mem_cons_self)).1 (xoi_w _ (List.mem_cons_of_mem _ List.mem_cons_self)).2 args) rfl (by rw [hml']; exact hl.1) rfl hd (xble hc8) (by show 2 * 0 + ((xst g.1 g.2.1 r).map fun v => v.category).sum + 12 ≤ xLo k; rw [xcat_eq, xcat_rv]; omega) (kw lsA H locs hl hH)
        · cases h
      · split at h
        · next as q r hs =>
          have hz9 := xbif2 h; clear h; obtain ⟨hroom, h⟩ := hz9
          obtain ⟨e1, e2, -⟩ := xsplit_st g.1 g.2.1 hs
          obtain ⟨l1, l2⟩ := xand (show (decide ((xK k, ix, a) ∈ xml) && decide (a ∈ xim)) = true from hlnk)
          cases hr : rec a (.ref q :: as) σ with
          | none => rw [hr] at h; cases h
          | some r9 =>
            obtain ⟨o, σ'⟩ := r9
            rw [hr] at h
            have hM := hrec a (.ref q :: as) σ o σ' (xmb.2.2 a (xdb l2)).1 hr
            rw [e1]
            exact x_back hk F hl (x_runI F hM (xdb l2) (xdb l1) hH e2 hroom hl.1 hd) hH.2.1 h kw
        · cases h
      · split at h
        · next as q r hs =>
          have hz9 := xbif2 h; clear h; obtain ⟨hroom, h⟩ := hz9
          obtain ⟨e1, e2, -⟩ := xsplit_st g.1 g.2.1 hs
          obtain ⟨l1, l2⟩ := xand (show (decide ((xK k, ix, a) ∈ xmn) && decide (a ∈ xim)) = true from hlnk)
          cases hr : rec a (.ref q :: as) σ with
          | none => rw [hr] at h; cases h
          | some r9 =>
            obtain ⟨o, σ'⟩ := r9
            rw [hr] at h
            have hM := hrec a (.ref q :: as) σ o σ' (xmb.2.2 a (xdb l2)).1 hr
            rw [e1]
            exact x_back hk F hl (x_runIN F hM (xdb l2) (xdb l1) hH e2 hroom hl.1 hd) hH.2.1 h kw
        · cases h
      · cases h
    · next ix =>
      obtain rfl : len = 3 := xbe hlen2
      split at h
      · split at h
        · next as r hs =>
          have hz9 := xbif2 h; clear h; obtain ⟨hroom, h⟩ := hz9
          obtain ⟨e1, e2, -⟩ := xsplit_st g.1 g.2.1 hs
          obtain ⟨l1, l2⟩ := xand (show (decide ((xK k, ix, a) ∈ xml) && decide (a ∈ xsm)) = true from hlnk)
          cases hr : rec a as σ with
          | none => rw [hr] at h; cases h
          | some r9 =>
            obtain ⟨o, σ'⟩ := r9
            rw [hr] at h
            have hM := hrec a as σ o σ' (xmb.2.1 a (xdb l2)) hr
            rw [e1]
            exact x_back hk F hl (x_runS F hM (xdb l2) (xdb l1) hH e2 hroom hl.1 hd) hH.2.1 h kw
        · cases h
      · obtain ⟨l1, l2⟩ := xand (show (decide ((xK k, ix, a) ∈ xnat) && decide (a < 3)) = true from hlnk)
        have l2 := xdb l2
        obtain ⟨w1, w2⟩ := xnat_w _ (xdb l1)
        have hlk := hI.1 _ w1 w2 args
        have hnat : (Cond.native (xny a)).before args s = true := by
          have h5 := xnn_n (Cond.native (xny a)) (List.mem_map.mpr ⟨a, xm012 a l2, rfl⟩)
          exact hI.1 _ h5.1 h5.2 args
        have hsta : (Cond.static (xny a)).before args s = true := by
          have h5 := xnn_s (Cond.static (xny a)) (List.mem_map.mpr ⟨a, xm012 a l2, rfl⟩)
          exact hI.1 _ h5.1 h5.2 args
        have hini : (Cond.initialized (xny a).cls).before args s = true := by
          have h5 := xnn_i (Cond.initialized (xny a).cls) (List.mem_map.mpr ⟨a, xm012 a l2, rfl⟩)
          exact hI.1 _ h5.1 h5.2 args
        split at h
        · split at h
          · next n dp q sp q0 r =>
            split at h
            · next t0 f0 t1 f1 hq0 hq =>
              have hz9 := xbif2 h; clear h; obtain ⟨c1, h⟩ := hz9
              obtain ⟨c2, c1⟩ := xand c1
              obtain ⟨c3, c1⟩ := xand c1
              obtain ⟨c4, c1⟩ := xand c1
              obtain ⟨c5, c1⟩ := xand c1
              obtain ⟨c6, c1⟩ := xand c1
              obtain ⟨c7, c1⟩ := xand c1
              obtain ⟨c8, c1⟩ := xand c1
              obtain ⟨c9, c1⟩ := xand c1
              obtain ⟨c10, c1⟩ := xand c1
              obtain ⟨c11, c12⟩ := xand c1
              obtain rfl := xbe c2
              cases h
              have hw := xble c12
              exact xacpy (own := xcn (xK k)) hx hb (hml'.trans hl.1.symm) hown hlk hnat hsta hini hK hH (xhk hq0) (xhk hq) (xble c3) c4 (xblt' c5) (xdb c6) (xdb c7) (xdb c8) (xble c9) (xble c10) (xble c11) (by show ((xst g.1 g.2.1 r).map fun v => v.category).sum + 30 ≤ xLo k; rw [xcat_eq, xcat_rv]; omega) hd (fun H1 locs1 hH1 => kw lsA H1 locs1 hl hH1)
            · cases h
          · cases h
        · split at h
          · next x r =>
            have hz9 := xbif2 h; clear h; obtain ⟨c1, h⟩ := hz9
            obtain ⟨c2, c3⟩ := xand c1
            cases h
            have hw := xble c3
            exact vn_d2l (own := xcn (xK k)) hx hb (hml'.trans hl.1.symm) hown hlk hnat hsta hini (xble c2) (by show ((xst g.1 g.2.1 r).map fun v => v.category).sum + 15 ≤ xLo k; rw [xcat_eq, xcat_rv]; omega) hd (kw lsA H locs hl hH)
          · cases h
        · next hn0 hn1 =>
          obtain rfl : a = 2 := by { have h0 : ¬ a = 0 := fun q => hn0 q; have h1 : ¬ a = 1 := fun q => hn1 q; omega }
          split at h
          · next x r =>
            have hz9 := xbif2 h; clear h; obtain ⟨c1, h⟩ := hz9
            obtain ⟨c2, c3⟩ := xand c1
            cases h
            have hw := xble c3
            exact vn_f2i (own := xcn (xK k)) hx hb (hml'.trans hl.1.symm) hown hlk hnat hsta hini (xble c2) (by show ((xst g.1 g.2.1 r).map fun v => v.category).sum + 15 ≤ xLo k; rw [xcat_eq, xcat_rv]; omega) hd (kw lsA H locs hl hH)
          · cases h
      · cases h
    · cases h
    · cases h
    · cases h
    · split at h
      · next pc' ls' st' hop =>
        cases h
        exact xop_ok hx hb hd hlen hoff hop hl (fun lsB hB => kw lsB H locs hB hH)
      · cases h
end XMO
