/-! From the law's entry to the machine of numbers. -/
theorem xa_of {s : State} {args : Array Value} {t : FieldType} (ht : ∀ C, t ≠ .object C) (h : (Cond.arrayClass t).before args s = true) : ∃ cA, ArrOfT s cA t ∧ va_RA s cA t := by
  obtain ⟨cA, kA, comp, h1, h2, h3⟩ := Cond.arrayClass_spec h
  refine ⟨cA, fun n z => ⟨(fun k h => by cases h), kA, h2, comp, h3⟩, ?_⟩
  cases t with
  | object C => exact absurd rfl (ht C)
  | _ => exact h1
theorem xq_of {s : State} {args : Array Value} {C : String} (h : (Cond.arrayOver (.object C)).before args s = true) : ∃ cA, ArrOfT s cA (.object C) ∧ va_RA s cA (.object C) := by
  obtain ⟨comp, c, k, h1, h2, h3, h4, h5⟩ := Cond.arrayOver_spec h
  exact ⟨c, fun n z => ⟨(fun k h => by cases h), k, h3, comp, h4⟩, k, comp, h3, h4, h1, h5⟩
def xat1 {α : Type} [DecidableEq α] (M L : List α) (hs : List Nat) : Bool := Nat.beq L.length hs.length && (L.zip hs).all (fun q => decide (M[q.2]? = some q.1))
theorem xat1_ok {α : Type} [DecidableEq α] {M L : List α} {hs : List Nat} (h : xat1 M L hs = true) : ∀ w ∈ L, w ∈ M := by
  unfold xat1 at h
  rw [Bool.and_eq_true] at h
  have hl := Nat.eq_of_beq_eq_true h.1
  intro w hw
  obtain ⟨i, hi, rfl⟩ := List.mem_iff_getElem.mp hw
  have h1 := List.all_eq_true.mp h.2 (L[i], hs[i]'(by omega)) (List.mem_iff_getElem.mpr ⟨i, by simp; omega, by simp⟩)
  exact List.mem_of_getElem? (of_decide_eq_true h1)
set_option maxRecDepth 100000 in
theorem xst_w : ∀ w ∈ xstrs.map (fun q => Cond.stringRef "RoverLocator" q.1 q.2), w ∈ lw_tbl := xat1_ok (hs := [574, 613, 641, 688, 717, 729, 704, 766, 786, 832, 878, 896, 956, 1032, 1097, 1105, 1117, 680, 709, 1024, 914, 777, 728, 740]) (by decide +kernel)
set_option maxRecDepth 100000 in
theorem xst_n : ∀ w ∈ xstrs.map (fun q => Cond.exactly (.string "RoverLocator" q.1) "java/lang/String"), w ∈ flatC (Jvm.Cond.and given_1 narrow_1) := xat1_ok (hs := [66, 103, 131, 186, 277, 357, 219, 451, 533, 587, 628, 670, 774, 860, 925, 972, 1029, 158, 249, 822, 711, 491, 315, 411]) (by decide +kernel)
def xprs : List (Nat × Nat) := [(0, 1), (0, 2), (0, 3), (1, 0), (1, 2), (1, 3), (2, 0), (2, 1), (2, 3), (3, 0), (3, 1), (3, 2)]
theorem xprs_in (e : Nat) (he : e < 4) (e' : Nat) (he' : e' < 4) (hne : e ≠ e') : (e, e') ∈ xprs := by
  have h : ∀ a : Fin 4, ∀ b : Fin 4, a ≠ b → (a.1, b.1) ∈ xprs := by decide +kernel
  exact h ⟨e, he⟩ ⟨e', he'⟩ (fun q => hne (congrArg Fin.val q))
set_option maxRecDepth 100000 in
theorem xpr_n : ∀ w ∈ xprs.map (fun q => Cond.not (.castable (xexc q.1) (xexc q.2))), w ∈ flatC (Jvm.Cond.and given_1 narrow_1) := xat1_ok (hs := [33, 48, 63, 18, 49, 64, 19, 34, 65, 20, 35, 50]) (by decide +kernel)
set_option maxRecDepth 100000 in
theorem xsq_n : ∀ w ∈ [Cond.isRef (.static Bundle.tN "UNASSIGNED_STACK" Bundle.steD), Cond.isRef (.static Bundle.tN "SUPPRESSED_SENTINEL" Bundle.listD)], w ∈ flatC (Jvm.Cond.and given_1 narrow_1) := xat1_ok (hs := [4, 5]) (by decide +kernel)
set_option maxRecDepth 100000 in
theorem xtq_w : ∀ w ∈ [Cond.laysStatic Bundle.tN "UNASSIGNED_STACK" Bundle.steD, Cond.laysStatic Bundle.tN "SUPPRESSED_SENTINEL" Bundle.listD, Cond.initialized Bundle.tN, Cond.arrayOver (.object "RoverLocator$State")], w ∈ lw_tbl := xat1_ok (hs := [559, 561, 74, 245]) (by decide +kernel)
set_option maxHeartbeats 1000000 in
theorem x_start {s : State} {b L : Nat} {xs : Nat → Int32} {args : Array Value} (hts : ∀ w ∈ lw_tbl, w.before args s = true) (hX : va_X b L xs s s.heap) (hbl : b < s.heap.size) (hgv : (Jvm.Cond.and given_1 narrow_1).before args s = true) :
    ∃ (g : XG) (D : va_G), g.1 = s.heap.size ∧ g.2.1 = b ∧ xI g D ((List.range L).map xs) s := by
  have hn := flat_of_before _ hgv
  have hG : xGW s := fun w hw hg a => xgw_ok hg (State.WarmedH.refl s) (hts w hw)
  obtain ⟨tI, a1, a2⟩ := xa_of (t := .int) (fun C h => by cases h) (hG _ (xar_w _ List.mem_cons_self).1 (xar_w _ List.mem_cons_self).2 args)
  obtain ⟨tJ, b1, b2⟩ := xa_of (t := .long) (fun C h => by cases h) (hG _ (xar_w _ (List.mem_cons_of_mem _ List.mem_cons_self)).1 (xar_w _ (List.mem_cons_of_mem _ List.mem_cons_self)).2 args)
  obtain ⟨tC, c1, c2⟩ := xa_of (t := .char) (fun C h => by cases h) (hG _ (xar_w _ (List.mem_cons_of_mem _ (List.mem_cons_of_mem _ List.mem_cons_self))).1 (xar_w _ (List.mem_cons_of_mem _ (List.mem_cons_of_mem _ List.mem_cons_self))).2 args)
  have hov := hts _ (xtq_w _ (List.mem_cons_of_mem _ (List.mem_cons_of_mem _ (List.mem_cons_of_mem _ List.mem_cons_self))))
  obtain ⟨tQ, d1, d2⟩ := xq_of hov
  have hk : ∀ a : Nat, ∃ q : ClassId × (Nat → Nat), a < 12 → u_Kn s (xcT a).1 (xcT a).2.1 (xcT a).2.2 q.1 q.2 := by
    have h0 : ∀ a, a < 12 → ∃ q : ClassId × (Nat → Nat), u_Kn s (xcT a).1 (xcT a).2.1 (xcT a).2.2 q.1 q.2 := by
      intro a ha
      obtain ⟨w3, w4⟩ := xci_w (Cond.instantiable (xcT a).1 (xcT a).2.2) (List.mem_map.mpr ⟨a, List.mem_range.mpr ha, rfl⟩)
      obtain ⟨cC, iS, h⟩ := u_known (C := (xcT a).1) (T := (xcT a).2.1) (N := (xcT a).2.2) hts (fun w hw => (xcl_in a ha w hw).1) (hts _ w3)
      exact ⟨(cC, iS), h⟩
    intro a
    by_cases ha : a < 12
    · obtain ⟨q, h⟩ := h0 a ha
      exact ⟨q, fun _ => h⟩
    · obtain ⟨q, -⟩ := h0 0 (by decide)
      exact ⟨q, fun h => absurd h ha⟩
  refine ⟨(s.heap.size, b, tI, tJ, tC, tQ), (fun a => (Classical.choose (hk a)).1, fun a => (Classical.choose (hk a)).2), rfl, rfl, hG, ⟨fun c q hq => ?_, fun k q hq => ?_⟩, fun q hq => ?_, ?_, ?_, fun e e' he he' hne => ?_, ?_, hbl, Nat.le_refl _, va_AO.of hov⟩
  · have hc : c < 12 := (List.getElem?_eq_some_iff.mp hq).1
    have h1 := xcl_at c hc
    rw [h1] at hq
    cases hq
    exact Classical.choose_spec (hk c) hc
  · match k, hq with
    | 0, hq => cases hq; exact ⟨a1, a2⟩
    | 1, hq => cases hq; exact ⟨b1, b2⟩
    | 2, hq => cases hq; exact ⟨c1, c2⟩
    | 3, hq => cases hq; exact ⟨d1, d2⟩
    | k + 4, hq => cases hq
  · obtain ⟨sa, ce, cc, kk, he, -⟩ := Cond.exactly_spec (hn _ (xst_n _ (List.mem_map.mpr ⟨q, hq, rfl⟩)))
    exact ⟨sa, vk_R.of (hts _ (xst_w _ (List.mem_map.mpr ⟨q, hq, rfl⟩))) he⟩
  · exact vx_Zqof (hts _ (xtq_w _ List.mem_cons_self)) (hts _ (xtq_w _ (List.mem_cons_of_mem _ (List.mem_cons_of_mem _ List.mem_cons_self)))) (hn _ (xsq_n _ List.mem_cons_self)) (fun a ha => Nat.not_le.mpr ha)
  · exact vx_Zqof (hts _ (xtq_w _ (List.mem_cons_of_mem _ List.mem_cons_self))) (hts _ (xtq_w _ (List.mem_cons_of_mem _ (List.mem_cons_of_mem _ List.mem_cons_self)))) (hn _ (xsq_n _ (List.mem_cons_of_mem _ List.mem_cons_self))) (fun a ha => Nat.not_le.mpr ha)
  · exact va_Nc.of (hn _ (xpr_n _ (List.mem_map.mpr ⟨(e, e'), xprs_in e he e' he' hne, rfl⟩)))
  · obtain ⟨scr, h1, h2, h3, h4, h5⟩ := hX
    refine ⟨scr, h1, h2, h3, by simpa using h4, fun j hj => ?_⟩
    have hj : j < L := by simpa using hj
    rw [h5 j hj]
    simp [hj]
/-- the law's answer, as the machine of numbers finds it -/
def xlaw (xs : List Int32) (d n : Nat) : Bool := match xit (xstep (xrun2 xs d) xs 256) n (0, [(0, .retAddr 0)], [], 0, 0, (true, [])) with
  | some (.inr ((pc, _, [.int v], cu, su, _), none)) => (match xcode 256 pc with | some (.ireturn, _) => decide (v = 1) && (Nat.ble cu 601024 && Nat.ble su 7293034) | _ => false)
  | _ => false
theorem xback_no {k a pc cu su : Nat} {ls : XL} {rest : List Value} {r : Option (XO × XW)} {z : XC} (h : xback k a pc ls rest cu su r = some (.inr (z, none))) : False := by
  unfold xback at h
  repeat' first | (cases h; done) | (exact (xno h).elim) | split at h
set_option maxHeartbeats 4000000 in
theorem xinr {rec : Nat → List Value → XW → Option (XO × XW)} {xs : List Int32} {k : Nat} {z' z : XC} (h : xstep rec xs k z' = some (.inr (z, none))) : z' = z := by
  obtain ⟨pc, ls, st, cu, su, σ⟩ := z'
  unfold xstep at h
  dsimp only at h
  split at h
  · cases h
  · split at h <;> (repeat' first | (cases h; done) | (cases h; rfl) | (exact (xno h).elim) | (obtain ⟨hz8, hz9⟩ := xbif2 h; clear h; rename _ => h) | (exact (xback_no h).elim) | split at h)

