section
/-! The end of a frame, and the contracts of all methods. -/
def xrt (i : Instr) (r : Option FieldType) : Bool := match i, r with
  | .ireturn, some .int => true
  | .ireturn, some .boolean => true
  | .lreturn, some .long => true
  | .return_, none => true
  | _, _ => false
def xfin2 (k : Nat) (z : XC × Option Nat) : Option (XO × XW) := bif Nat.ble z.1.2.2.2.1 (xMc k) && (Nat.ble z.1.2.2.2.2.1 (xMs k) && (match z.2 with | none => (match xcode k z.1.1 with | some e => xrt e.1 (xRet k) | none => false) | some _ => true)) then xfin k z else none
def xone (xs : List Int32) (rec : Nat → List Value → XW → Option (XO × XW)) (n k : Nat) (av : List Value) (σ : XW) : Option (XO × XW) := bif Nat.ble (xcat av) (xNl k) then (match xit (xstep rec xs k) n (0, lv_args 0 av, [], 0, 0, σ) with | some (.inr z) => xfin2 k z | _ => none) else none
def xrun2 (xs : List Int32) : Nat → Nat → List Value → XW → Option (XO × XW)
  | 0, _, _, _ => none
  | d + 1, k, av, σ => xone xs (xrun2 xs d) 20 k av σ
theorem xno {b : Bool} {x : XC} {y : XC × Option Nat} (h : (bif b then (some (.inl x) : XS) else none) = some (.inr y)) : False := by
  cases b with
  | true => cases h
  | false => cases h
def xnse : ByteArray := ⟨#[0x2a, 0x2b, 0xb7, 0x00, 0x0d, 0xb1]⟩
set_option maxRecDepth 100000 in
theorem xat_n3 : ((xow "RoverLocator" (xic 3) (xexc 3) 13 xnse "java/lang/RuntimeException" ["java/lang/Exception"]).filter vx_no).all (fun w => decide (w ∈ lw_tbl) && (xgw w && vx_ot w)) = true := by decide +kernel
theorem xthr_w3 : ∀ q ∈ xthr, q.1 = 3 → q.2.2.2.2 = true := by decide +kernel
theorem xthr_w {t ik is ic : Nat} {w : Bool} (h : xnth xthr t = some (3, ik, is, ic, w)) : w = true := by
  rw [xnth_eq] at h
  exact xthr_w3 _ (List.mem_of_getElem? h) rfl
section XDN
variable {p : Program} {l : Launch} {e : Env} {s : State} {m : MethodId} {args : Array Value} {below : List Frame} {meth : Method} {c : Code} {Q : State → Prop}
variable {D : va_G} {g : XG} {xs : List Int32} {k : Nat}
theorem x_iter {rec : Nat → List Value → XW → Option (XO × XW)} (F : xFx p l s m meth c g D xs k) (hrec : xRec l g D xs rec) : ∀ (n : Nat) (z0 : XC), (∀ z1, xit (xstep rec xs k) n z0 = some (.inl z1) → xWc p l e s m args below meth c Q g D k z1 → xWc p l e s m args below meth c Q g D k z0) ∧ (∀ y, xit (xstep rec xs k) n z0 = some (.inr y) → ∃ z', xstep rec xs k z' = some (.inr y) ∧ (xWc p l e s m args below meth c Q g D k z' → xWc p l e s m args below meth c Q g D k z0))
  | 0, z0 => ⟨fun z1 h => x_more F hrec h, fun y h => ⟨z0, h, fun w => w⟩⟩
  | n + 1, z0 => by
    obtain ⟨i1, i2⟩ := x_iter F hrec n z0
    constructor
    · intro z1 h hw
      unfold xit at h
      split at h
      · next c' hc => exact i1 c' hc ((x_iter F hrec n c').1 z1 h hw)
      · next hne => exact i1 z1 h hw
    · intro y h
      unfold xit at h
      split at h
      · next c' hc =>
        obtain ⟨z', h1, h2⟩ := (x_iter F hrec n c').2 y h
        exact ⟨z', h1, fun w => i1 c' hc (h2 w)⟩
      · next hne => exact i2 y h
theorem xfin2_ok {z : XC × Option Nat} {r : XO × XW} (h : xfin2 k z = some r) : z.1.2.2.2.1 ≤ xMc k ∧ z.1.2.2.2.2.1 ≤ xMs k ∧ xfin k z = some r := by
  unfold xfin2 at h
  obtain ⟨h1, h2⟩ := xbif2 h
  obtain ⟨h3, h4⟩ := xand h1
  obtain ⟨h4, h5⟩ := xand h4
  exact ⟨xble h3, xble h4, h2⟩
theorem xfin2_rt {z : XC} {e : XEn} {r : XO × XW} (h : xfin2 k (z, none) = some r) (hc : xcode k z.1 = some e) : xrt e.1 (xRet k) = true := by
  unfold xfin2 at h
  obtain ⟨h1, h2⟩ := xbif2 h
  obtain ⟨h3, h4⟩ := xand h1
  obtain ⟨h4, h5⟩ := xand h4
  dsimp only at h5
  rw [hc] at h5
  exact h5
theorem xhnd_none {pc E : Nat} : ∀ {hs : List (Nat × Nat × Nat × Nat × Nat)}, xhnd hs pc E = none → ∀ y ∈ hs, ¬ (y.1 ≤ pc ∧ pc < y.2.1) ∨ y.2.2.2.2 ≠ E := by
  intro hs
  induction hs with
  | nil => intro _ y hy; cases hy
  | cons q r ih =>
    intro hq y hy
    unfold xhnd at hq
    cases hb : (Nat.ble q.1 pc && (Nat.blt pc q.2.1 && Nat.beq q.2.2.2.2 E)) with
    | true => rw [hb] at hq; cases hq
    | false =>
      rw [hb] at hq
      rcases List.mem_cons.mp hy with hy | hy
      · subst hy
        rw [Bool.and_eq_false_iff, Bool.and_eq_false_iff] at hb
        rcases hb with hb | hb | hb
        · exact Or.inl (fun z => by rw [Nat.ble_eq_true_of_le z.1] at hb; cases hb)
        · exact Or.inl (fun z => by
            have : Nat.blt pc y.2.1 = true := Nat.ble_eq_true_of_le z.2
            rw [this] at hb; cases hb)
        · exact Or.inr (fun z => by rw [z, Nat.beq_refl] at hb; cases hb)
      · exact ih hq y hy
/-- back from a call that threw, and nobody here takes it -/
theorem x_backX {lsA : Array Slot} {ls : XL} {σ' σ1 : XW} {o o1 : XO} {a pc cu su : Nat} {rest st0 : List Value} {av : Array Value} {y : XC × Option Nat} {H : Heap} {locs : List Loc} (hk : k < 257) (F : xFx p l s m meth c g D xs k)
    (hr : vx_Run p l e (xrm k) s m args below meth c H locs cu su (xMc a) (xMs a) (F0 m pc lsA st0) (xst g.1 g.2.1 rest) (xQo g D o σ' av) (xXo g D o σ') (xA g)) (hS : va_S (xA g) s.heap H locs) (h : xback k a pc ls rest cu su (some (o, σ')) = some (.inr y)) (hf : xfin2 k y = some (o1, σ1)) :
    W p l e (xrm k) s m args below meth c H locs cu su (vx_MQ below (xQo g D o1 σ1) (xXo g D o1 σ1) args s (xMc k) (xMs k) (xA g)) (F0 m pc lsA st0) := by
  obtain ⟨hx, hb, hml', hown, -, hlk, htab, hI, -, -⟩ := F
  cases o with
  | inl r => cases r with
    | none => cases h
    | some v => cases h
  | inr E =>
    unfold xback at h
    dsimp only at h
    split at h
    · split at h
      · exact (xno h).elim
      · exact (xno h).elim
      · cases h
    · next hnd =>
      cases h
      obtain ⟨g1, g2, g3⟩ := xfin2_ok hf
      dsimp only at g1 g2
      cases g3
      refine xgo hr hS (fun E' hE hE4 H1 locs1 q ce hH1 hce hcv hcl => ?_) (fun r hr' H1 locs1 hH1 => ?_)
      · cases hE
        refine vx_outP (own := xcn (xK k)) hown hlk (fun z hz => ?_) hce hcv hcl (fun t ht hA => ⟨rfl, hE4, by rw [ht]; exact hH1.1, fun h => Bool.noConfusion h, hH1.2.1.F ht⟩) hH1.2.1.2.2 g1 g2
        rw [htab] at hz
        obtain ⟨y4, hy4, rfl⟩ := List.mem_map.mp hz
        obtain ⟨y, hy, rfl⟩ := List.mem_map.mp hy4
        exact xpass hE4 hI args hk hy (xhnd_none hnd y hy)
      · cases hr'
theorem xatS {E : Nat} (hE : E < 3) (hI : xI g D xs s) (args : Array Value) : (∀ w ∈ vx_atS "RoverLocator" (xic E) (xexc E) xnames, w.before args s = true) ∧ (∀ w ∈ Cond.classLink "RoverLocator" (xik E) (xexc E) :: Cond.initialized (xexc E) :: vx_atS "RoverLocator" (xic E) (xexc E) xnames, vx_ot w = true) ∧ (Cond.classLink "RoverLocator" (xik E) (xexc E)).before args s = true ∧ (Cond.initialized (xexc E)).before args s = true ∧ Bundle.fit (xexc E) = true := by
  have key : (vx_atS "RoverLocator" (xic E) (xexc E) xnames).all (fun w => decide (w ∈ lw_tbl) && (xgw w && vx_ot w)) = true ∧ ((Cond.classLink "RoverLocator" (xik E) (xexc E) ∈ lw_tbl ∧ xgw (Cond.classLink "RoverLocator" (xik E) (xexc E)) = true ∧ vx_ot (Cond.classLink "RoverLocator" (xik E) (xexc E)) = true) ∧ (Cond.initialized (xexc E) ∈ lw_tbl ∧ xgw (Cond.initialized (xexc E)) = true ∧ vx_ot (Cond.initialized (xexc E)) = true) ∧ Bundle.fit (xexc E) = true) := by
    have : E = 0 ∨ E = 1 ∨ E = 2 := by omega
    rcases this with rfl | rfl | rfl
    · exact ⟨xat_0, xat_h0⟩
    · exact ⟨xat_1, xat_h1⟩
    · exact ⟨xat_2, xat_h2⟩
  obtain ⟨k1, ⟨c1, c2, c3⟩, ⟨i1, i2, i3⟩, k4⟩ := key
  have k2 : ∀ w ∈ vx_atS "RoverLocator" (xic E) (xexc E) xnames, w ∈ lw_tbl ∧ xgw w = true ∧ vx_ot w = true := fun w hw => by
    obtain ⟨h1, h2⟩ := xand (List.all_eq_true.mp k1 w hw)
    obtain ⟨h3, h4⟩ := xand h2
    exact ⟨xdb h1, h3, h4⟩
  refine ⟨fun w hw => hI.1 _ (k2 w hw).1 (k2 w hw).2.1 args, fun w hw => ?_, hI.1 _ c1 c2 args, hI.1 _ i1 i2 args, k4⟩
  rcases List.mem_cons.mp hw with rfl | hw
  · exact c3
  · rcases List.mem_cons.mp hw with rfl | hw
    · exact i3
    · exact (k2 w hw).2.2
theorem xatS3 (hI : xI g D xs s) (args : Array Value) : (∀ w ∈ (xow "RoverLocator" (xic 3) (xexc 3) 13 xnse "java/lang/RuntimeException" ["java/lang/Exception"]).filter vx_no, w.before args s = true) ∧ (∀ w ∈ Cond.classLink "RoverLocator" (xik 3) (xexc 3) :: Cond.initialized (xexc 3) :: (xow "RoverLocator" (xic 3) (xexc 3) 13 xnse "java/lang/RuntimeException" ["java/lang/Exception"]).filter vx_no, vx_ot w = true) ∧ (Cond.classLink "RoverLocator" (xik 3) (xexc 3)).before args s = true ∧ (Cond.initialized (xexc 3)).before args s = true ∧ Bundle.fit (xexc 3) = true := by
  obtain ⟨⟨c1, c2, c3⟩, ⟨i1, i2, i3⟩, k4⟩ := xat_h3
  have k2 : ∀ w ∈ (xow "RoverLocator" (xic 3) (xexc 3) 13 xnse "java/lang/RuntimeException" ["java/lang/Exception"]).filter vx_no, w ∈ lw_tbl ∧ xgw w = true ∧ vx_ot w = true := fun w hw => by
    obtain ⟨h1, h2⟩ := xand (List.all_eq_true.mp xat_n3 w hw)
    obtain ⟨h3, h4⟩ := xand h2
    exact ⟨xdb h1, h3, h4⟩
  refine ⟨fun w hw => hI.1 _ (k2 w hw).1 (k2 w hw).2.1 args, fun w hw => ?_, hI.1 _ c1 c2 args, hI.1 _ i1 i2 args, k4⟩
  rcases List.mem_cons.mp hw with rfl | hw
  · exact c3
  · rcases List.mem_cons.mp hw with rfl | hw
    · exact i3
    · exact (k2 w hw).2.2
set_option maxHeartbeats 4000000 in
theorem x_throw {lsA : Array Slot} {ls : XL} {st : List Value} {σ σ1 : XW} {o1 : XO} {pc cu su ix len a t : Nat} {H : Heap} {locs : List Loc} (F : xFx p l s m meth c g D xs k) (hchk : xthc k pc (.new ix, len, a, t + 1) = true) (hc9 : (Nat.ble 6 (xFr k) && (Nat.ble (xcat st + 82) (xLo k) && (Nat.ble (cu + 1) (xMc k) && Nat.ble (su + 6) (xMs k)))) = true)
    (hl : lv_has lsA (xNl k) (xls g.1 g.2.1 ls)) (hH : xH g D xcl σ s H locs) (hd : decode (xB k) pc = .ok (.new ix, 3)) (hf : xfin2 k ((pc, ls, st, cu, su, σ), some a) = some (o1, σ1)) :
    W p l e (xrm k) s m args below meth c H locs cu su (vx_MQ below (xQo g D o1 σ1) (xXo g D o1 σ1) args s (xMc k) (xMs k) (xA g)) (F0 m pc lsA (xst g.1 g.2.1 st)) := by
  obtain ⟨hx, hb, hml', hown, hnm, hlk, htab, hI, hst, hret⟩ := id F
  obtain ⟨-, -, g3⟩ := xfin2_ok hf
  cases g3
  obtain ⟨r1, hc8⟩ := xand hc9
  obtain ⟨r2, hc7⟩ := xand hc8
  obtain ⟨r3, r4⟩ := xand hc7
  have r1 := xble r1
  have r2 := xble r2
  have r3 := xble r3
  have r4 := xble r4
  unfold xthc at hchk
  dsimp only at hchk
  split at hchk
  · next E ik is ic wide hth =>
    simp only [Bool.and_eq_true, decide_eq_true_eq] at hchk
    obtain ⟨⟨⟨⟨⟨⟨⟨⟨⟨t1, t2⟩, t3⟩, t4⟩, t5⟩, t6⟩, t7⟩, t8⟩, t9⟩, t10⟩ := hchk
    subst t1 t3 t4 t5
    rw [t6] at hown
    have hown : s.vm.findClass "RoverLocator" = some m.cls := hown
    obtain ⟨q, hq, hqi⟩ := List.any_eq_true.mp t8
    have hqi := xdb hqi
    obtain ⟨sa, hsa⟩ := hI.2.2.1 q hq
    rw [hqi] at hsa
    have hout : ∀ n : Nat, ∀ x ∈ c.exceptionTable.toList, covers x n = false := fun n x hx => by
      rw [htab, t7] at hx
      cases hx
    have hw1 : ((xst g.1 g.2.1 st).map fun v => v.category).sum + (13 * (2 + 1) + 43) ≤ xLo k := by rw [xcat_eq, xcat_rv]; omega
    have hxx : ∀ t : State, s.vm.Alike t.vm → H.size ≤ t.heap.size → (∀ q : Nat, q < H.size → t.heap[q]? = H[q]?) → xXo g D (.inr E) (false, σ.2) (xexc E) s t := fun t hA hz hk9 =>
      ⟨rfl, t2, hH.1.kept hk9, fun h => Bool.noConfusion h, Nat.le_trans hH.2.1.1 hz, fun q h1 h2 => (hk9 q (Nat.lt_of_lt_of_le h1 hH.2.1.1)).trans (hH.2.1.2.1 q h1 h2)⟩
    by_cases hE3 : E < 3
    · obtain ⟨w1, w2, w3, w4, w5⟩ := xatS hE3 hI args
      cases wide with
      | true =>
        obtain ⟨⟨d4, d7⟩, d10⟩ := (by simpa only [cond_true, Bool.and_eq_true, decide_eq_true_eq] using t10 : (_ ∧ _) ∧ _)
        exact vx_throwSW hx hb hst hown w5 xat_n w3 w4 hsa w1 w2 hI.2.2.2.1 hI.2.2.2.2.1 hH.2.1 (hl.1.trans hml'.symm) hd t9 d4 d7 d10 (hout _) (by show 2 + 3 < xFr k; omega) hw1 (by show cu + 1 ≤ xMc k; omega) (by show su + 6 ≤ xMs k; omega) hlk hxx hH.2.1.2.2 r3 r4
      | false =>
        obtain ⟨⟨d4, d6⟩, d9⟩ := (by simpa only [cond_false, Bool.and_eq_true, decide_eq_true_eq] using t10 : (_ ∧ _) ∧ _)
        exact vx_throwS hx hb hst hown w5 xat_n w3 w4 hsa w1 w2 hI.2.2.2.1 hI.2.2.2.2.1 hH.2.1 (hl.1.trans hml'.symm) hd t9 d4 d6 d9 (hout _) (by show 2 + 3 < xFr k; omega) hw1 (by show cu + 1 ≤ xMc k; omega) (by show su + 6 ≤ xMs k; omega) hlk hxx hH.2.1.2.2 r3 r4
    · obtain rfl : E = 3 := by omega
      obtain ⟨w1, w2, w3, w4, w5⟩ := xatS3 hI args
      cases wide with
      | true =>
        obtain ⟨⟨d4, d7⟩, d10⟩ := (by simpa only [cond_true, Bool.and_eq_true, decide_eq_true_eq] using t10 : (_ ∧ _) ∧ _)
        exact xthrowX (ix := 13) (rx := xnse) hx hb hst hown (by decide +kernel) (by decide +kernel) (by decide +kernel) (by decide +kernel) w5 (xat_n _ List.mem_cons_self) (fun n hn => xat_n n (List.mem_cons_of_mem _ hn)) w3 w4 hsa w1 w2 hI.2.2.2.1 hI.2.2.2.2.1 hH.2.1 (hl.1.trans hml'.symm) hd t9 d4 d7 d10 (hout _) (by show 1 + 4 < xFr k; omega) hw1 (by show cu + 1 ≤ xMc k; omega) (by show su + 6 ≤ xMs k; omega) hlk hxx hH.2.1.2.2 r3 r4
      | false => exact absurd (xthr_w hth) (by decide)
  · cases hchk
set_option maxHeartbeats 4000000 in
set_option maxRecDepth 100000 in
theorem x_done {rec : Nat → List Value → XW → Option (XO × XW)} {z0 : XC} {y : XC × Option Nat} {o1 : XO} {σ1 : XW} (F : xFx p l s m meth c g D xs k) (hrec : xRec l g D xs rec) (h : xstep rec xs k z0 = some (.inr y)) (hf : xfin2 k y = some (o1, σ1)) :
    xWc p l e s m args below meth c (vx_MQ below (xQo g D o1 σ1) (xXo g D o1 σ1) args s (xMc k) (xMs k) (xA g)) g D k z0 := by
  intro lsA H locs hl hH
  obtain ⟨hx, hb, hml', hown, hnm, hlk, htab, hI, hst, hret⟩ := id F
  obtain ⟨pc, ls, st, cu, su, σ⟩ := z0
  dsimp only at hl hH ⊢
  unfold xstep at h
  dsimp only at h
  split at h
  · cases h
  · next i len a b hcode =>
    have hk : k < 257 := xcode_k hcode
    obtain ⟨hd, hlen, hoff, hlnk⟩ := xent_dec hcode
    have hlen2 := (xent_at hcode).2.1
    dsimp only at hd hlen hoff hlen2
    split at h
    · repeat' split at h
      all_goals first | (cases h; done) | exact (xno h).elim | (have hz9 := xbif2 h; clear h; obtain ⟨h8, h⟩ := hz9; repeat' split at h) 
      all_goals first | (cases h; done) | exact (xno h).elim | (have hz9 := xbif2 h; clear h; obtain ⟨h8, h⟩ := hz9; repeat' split at h)
      all_goals first | (cases h; done) | exact (xno h).elim
    · repeat' split at h
      all_goals first | (cases h; done) | exact (xno h).elim | (have hz9 := xbif2 h; clear h; obtain ⟨h8, h⟩ := hz9; repeat' split at h) 
      all_goals first | (cases h; done) | exact (xno h).elim | (have hz9 := xbif2 h; clear h; obtain ⟨h8, h⟩ := hz9; repeat' split at h)
      all_goals first | (cases h; done) | exact (xno h).elim
    · repeat' split at h
      all_goals first | (cases h; done) | exact (xno h).elim | (have hz9 := xbif2 h; clear h; obtain ⟨h8, h⟩ := hz9; repeat' split at h) 
      all_goals first | (cases h; done) | exact (xno h).elim | (have hz9 := xbif2 h; clear h; obtain ⟨h8, h⟩ := hz9; repeat' split at h)
      all_goals first | (cases h; done) | exact (xno h).elim
    · repeat' split at h
      all_goals first | (cases h; done) | exact (xno h).elim | (have hz9 := xbif2 h; clear h; obtain ⟨h8, h⟩ := hz9; repeat' split at h) 
      all_goals first | (cases h; done) | exact (xno h).elim | (have hz9 := xbif2 h; clear h; obtain ⟨h8, h⟩ := hz9; repeat' split at h)
      all_goals first | (cases h; done) | exact (xno h).elim
    · repeat' split at h
      all_goals first | (cases h; done) | exact (xno h).elim | (have hz9 := xbif2 h; clear h; obtain ⟨h8, h⟩ := hz9; repeat' split at h) 
      all_goals first | (cases h; done) | exact (xno h).elim | (have hz9 := xbif2 h; clear h; obtain ⟨h8, h⟩ := hz9; repeat' split at h)
      all_goals first | (cases h; done) | exact (xno h).elim
    · repeat' split at h
      all_goals first | (cases h; done) | exact (xno h).elim | (have hz9 := xbif2 h; clear h; obtain ⟨h8, h⟩ := hz9; repeat' split at h) 
      all_goals first | (cases h; done) | exact (xno h).elim | (have hz9 := xbif2 h; clear h; obtain ⟨h8, h⟩ := hz9; repeat' split at h)
      all_goals first | (cases h; done) | exact (xno h).elim
    · repeat' split at h
      all_goals first | (cases h; done) | exact (xno h).elim | (have hz9 := xbif2 h; clear h; obtain ⟨h8, h⟩ := hz9; repeat' split at h) 
      all_goals first | (cases h; done) | exact (xno h).elim | (have hz9 := xbif2 h; clear h; obtain ⟨h8, h⟩ := hz9; repeat' split at h)
      all_goals first | (cases h; done) | exact (xno h).elim
    · repeat' split at h
      all_goals first | (cases h; done) | exact (xno h).elim | (have hz9 := xbif2 h; clear h; obtain ⟨h8, h⟩ := hz9; repeat' split at h) 
      all_goals first | (cases h; done) | exact (xno h).elim | (have hz9 := xbif2 h; clear h; obtain ⟨h8, h⟩ := hz9; repeat' split at h)
      all_goals first | (cases h; done) | exact (xno h).elim
    · repeat' split at h
      all_goals first | (cases h; done) | exact (xno h).elim | (have hz9 := xbif2 h; clear h; obtain ⟨h8, h⟩ := hz9; repeat' split at h) 
      all_goals first | (cases h; done) | exact (xno h).elim | (have hz9 := xbif2 h; clear h; obtain ⟨h8, h⟩ := hz9; repeat' split at h)
      all_goals first | (cases h; done) | exact (xno h).elim
    · repeat' split at h
      all_goals first | (cases h; done) | exact (xno h).elim | (have hz9 := xbif2 h; clear h; obtain ⟨h8, h⟩ := hz9; repeat' split at h) 
      all_goals first | (cases h; done) | exact (xno h).elim | (have hz9 := xbif2 h; clear h; obtain ⟨h8, h⟩ := hz9; repeat' split at h)
      all_goals first | (cases h; done) | exact (xno h).elim
    · repeat' split at h
      all_goals first | (cases h; done) | exact (xno h).elim | (have hz9 := xbif2 h; clear h; obtain ⟨h8, h⟩ := hz9; repeat' split at h) 
      all_goals first | (cases h; done) | exact (xno h).elim | (have hz9 := xbif2 h; clear h; obtain ⟨h8, h⟩ := hz9; repeat' split at h)
      all_goals first | (cases h; done) | exact (xno h).elim
    · next ix =>
      obtain rfl : len = 3 := xbe hlen2
      split at h
      · exact (xno h).elim
      · have hz9 := xbif2 h; clear h; obtain ⟨hc9, h⟩ := hz9
        cases h
        exact x_throw F (xent_at hcode).2.2 hc9 hl hH hd hf
    · repeat' split at h
      all_goals first | (cases h; done) | exact (xno h).elim | (have hz9 := xbif2 h; clear h; obtain ⟨h8, h⟩ := hz9; repeat' split at h) 
      all_goals first | (cases h; done) | exact (xno h).elim | (have hz9 := xbif2 h; clear h; obtain ⟨h8, h⟩ := hz9; repeat' split at h)
      all_goals first | (cases h; done) | exact (xno h).elim
    · repeat' split at h
      all_goals first | (cases h; done) | exact (xno h).elim | (have hz9 := xbif2 h; clear h; obtain ⟨h8, h⟩ := hz9; repeat' split at h) 
      all_goals first | (cases h; done) | exact (xno h).elim | (have hz9 := xbif2 h; clear h; obtain ⟨h8, h⟩ := hz9; repeat' split at h)
      all_goals first | (cases h; done) | exact (xno h).elim
    · repeat' split at h
      all_goals first | (cases h; done) | exact (xno h).elim | (have hz9 := xbif2 h; clear h; obtain ⟨h8, h⟩ := hz9; repeat' split at h) 
      all_goals first | (cases h; done) | exact (xno h).elim | (have hz9 := xbif2 h; clear h; obtain ⟨h8, h⟩ := hz9; repeat' split at h)
      all_goals first | (cases h; done) | exact (xno h).elim
    · repeat' split at h
      all_goals first | (cases h; done) | exact (xno h).elim | (have hz9 := xbif2 h; clear h; obtain ⟨h8, h⟩ := hz9; repeat' split at h) 
      all_goals first | (cases h; done) | exact (xno h).elim | (have hz9 := xbif2 h; clear h; obtain ⟨h8, h⟩ := hz9; repeat' split at h)
      all_goals first | (cases h; done) | exact (xno h).elim
    · repeat' split at h
      all_goals first | (cases h; done) | exact (xno h).elim | (have hz9 := xbif2 h; clear h; obtain ⟨h8, h⟩ := hz9; repeat' split at h) 
      all_goals first | (cases h; done) | exact (xno h).elim | (have hz9 := xbif2 h; clear h; obtain ⟨h8, h⟩ := hz9; repeat' split at h)
      all_goals first | (cases h; done) | exact (xno h).elim
    · next ix =>
      obtain rfl : len = 3 := xbe hlen2
      split at h
      · next as q r hs =>
        split at h
        · next t fs hq =>
          have hz9 := xbif2 h; clear h; obtain ⟨hc9, h⟩ := hz9
          obtain ⟨ht, hroom⟩ := xand hc9
          obtain ⟨e1, e2, -⟩ := xsplit_st g.1 g.2.1 hs
          obtain ⟨l1, l2⟩ := xand (show (decide ((xK k, ix, a) ∈ xml) && decide (a ∈ xvm)) = true from hlnk)
          cases hr : rec a (.ref q :: as) σ with
          | none => rw [hr] at h; cases h
          | some r9 =>
            obtain ⟨o, σ'⟩ := r9
            rw [hr] at h
            have hM := hrec a (.ref q :: as) σ o σ' (xmb.1 a (xdb l2)).1 hr
            rw [e1]
            exact x_backX hk F (x_runV F hM (xdb l2) (xdb l1) hH (xhk hq) (xbe ht) e2 hroom hl.1 hd) hH.2.1 h hf
        · cases h
      · cases h
    · next ix =>
      obtain rfl : len = 3 := xbe hlen2
      split at h
      · split at h
        · exact (xno h).elim
        · cases h
      · split at h
        · next as q r hs =>
          have hz9 := xbif2 h; clear h; obtain ⟨hroom, h⟩ := hz9
          obtain ⟨e1, e2, -⟩ := xsplit_st g.1 g.2.1 hs
          obtain ⟨l1, l2⟩ := xand (show (decide ((xK k, ix, a) ∈ xml) && decide (a ∈ xim)) = true from hlnk)
          cases hr : rec a (.ref q :: as) σ with
          | none => rw [hr] at h; cases h
          | some r9 =>
            obtain ⟨o, σ'⟩ := r9
            rw [hr] at h
            have hM := hrec a (.ref q :: as) σ o σ' (xmb.2.2 a (xdb l2)).1 hr
            rw [e1]
            exact x_backX hk F (x_runI F hM (xdb l2) (xdb l1) hH e2 hroom hl.1 hd) hH.2.1 h hf
        · cases h
      · split at h
        · next as q r hs =>
          have hz9 := xbif2 h; clear h; obtain ⟨hroom, h⟩ := hz9
          obtain ⟨e1, e2, -⟩ := xsplit_st g.1 g.2.1 hs
          obtain ⟨l1, l2⟩ := xand (show (decide ((xK k, ix, a) ∈ xmn) && decide (a ∈ xim)) = true from hlnk)
          cases hr : rec a (.ref q :: as) σ with
          | none => rw [hr] at h; cases h
          | some r9 =>
            obtain ⟨o, σ'⟩ := r9
            rw [hr] at h
            have hM := hrec a (.ref q :: as) σ o σ' (xmb.2.2 a (xdb l2)).1 hr
            rw [e1]
            exact x_backX hk F (x_runIN F hM (xdb l2) (xdb l1) hH e2 hroom hl.1 hd) hH.2.1 h hf
        · cases h
      · cases h
    · next ix =>
      obtain rfl : len = 3 := xbe hlen2
      split at h
      · split at h
        · next as r hs =>
          have hz9 := xbif2 h; clear h; obtain ⟨hroom, h⟩ := hz9
          obtain ⟨e1, e2, -⟩ := xsplit_st g.1 g.2.1 hs
          obtain ⟨l1, l2⟩ := xand (show (decide ((xK k, ix, a) ∈ xml) && decide (a ∈ xsm)) = true from hlnk)
          cases hr : rec a as σ with
          | none => rw [hr] at h; cases h
          | some r9 =>
            obtain ⟨o, σ'⟩ := r9
            rw [hr] at h
            have hM := hrec a as σ o σ' (xmb.2.1 a (xdb l2)) hr
            rw [e1]
            exact x_backX hk F (x_runS F hM (xdb l2) (xdb l1) hH e2 hroom hl.1 hd) hH.2.1 h hf
        · cases h
      · split at h
        · split at h
          · split at h
            · exact (xno h).elim
            · cases h
          · cases h
        · split at h
          · exact (xno h).elim
          · cases h
        · split at h
          · exact (xno h).elim
          · cases h
      · cases h
    · cases h
      obtain rfl : len = 1 := xbe hlen2
      have hrt := xfin2_rt hf hcode
      obtain ⟨g1, g2, g3⟩ := xfin2_ok hf
      dsimp only at g1 g2 hrt
      refine W.widen (R := xrm k) g1 g2 ?_
      unfold xfin at g3
      dsimp only at g3
      split at g3
      · next h1 => (rw [h1] at hrt; cases hrt)
      · next v h1 => (cases g3; exact vx_ret (W.iret hx hb (hret.trans h1) (fun t ht hW => ⟨rfl, by rw [ht]; exact hH.1, fun h => by rw [ht]; exact hH.2.2 h, hH.2.1.F ht⟩) hH.2.1.2.2 hd hlk))
      · next v h1 =>
        obtain ⟨hz, g3⟩ := xbif2 g3
        cases g3
        refine vx_ret (W.zret hx hb (hret.trans h1) ?_ (fun t ht hW => ⟨rfl, by rw [ht]; exact hH.1, fun h => by rw [ht]; exact hH.2.2 h, hH.2.1.F ht⟩) hH.2.1.2.2 hd hlk)
        rw [Bool.or_eq_true] at hz
        rcases hz with hz | hz
        · rw [xdb hz]; rfl
        · rw [xdb hz]; rfl
      · next v h1 => (rw [h1] at hrt; cases hrt)
      · cases g3
    · cases h
      obtain rfl : len = 1 := xbe hlen2
      have hrt := xfin2_rt hf hcode
      obtain ⟨g1, g2, g3⟩ := xfin2_ok hf
      dsimp only at g1 g2 hrt
      refine W.widen (R := xrm k) g1 g2 ?_
      unfold xfin at g3
      dsimp only at g3
      split at g3
      · next h1 => (rw [h1] at hrt; cases hrt)
      · next v h1 => (rw [h1] at hrt; cases hrt)
      · next v h1 => (rw [h1] at hrt; cases hrt)
      · next v h1 => (cases g3; exact vx_ret (W.lret hx hb (hret.trans h1) (fun t ht hW => ⟨rfl, by rw [ht]; exact hH.1, fun h => by rw [ht]; exact hH.2.2 h, hH.2.1.F ht⟩) hH.2.1.2.2 hd hlk))
      · cases g3
    · cases h
      obtain rfl : len = 1 := xbe hlen2
      have hrt := xfin2_rt hf hcode
      obtain ⟨g1, g2, g3⟩ := xfin2_ok hf
      dsimp only at g1 g2 hrt
      refine W.widen (R := xrm k) g1 g2 ?_
      unfold xfin at g3
      dsimp only at g3
      split at g3
      · next h1 => (cases g3; exact vx_ret (W.vret hx hb (hret.trans h1) (fun t ht hW => ⟨rfl, by rw [ht]; exact hH.1, fun h => by rw [ht]; exact hH.2.2 h, hH.2.1.F ht⟩) hH.2.1.2.2 hd hlk))
      · next v h1 => (rw [h1] at hrt; cases hrt)
      · next v h1 => (rw [h1] at hrt; cases hrt)
      · next v h1 => (rw [h1] at hrt; cases hrt)
      · cases g3
    · split at h
      · cases h
      · cases h
end XDN
set_option maxHeartbeats 1000000 in
theorem x_one (l : Launch) (g : XG) (D : va_G) (xs : List Int32) (hl : l.stackTraces = false) {rec : Nat → List Value → XW → Option (XO × XW)} (ih : xRec l g D xs rec) (n : Nat) : xRec l g D xs (xone xs rec n) := by
    intro a av σ o σ' ha h
    unfold xone at h
    have hz9 := xbif2 h; clear h; obtain ⟨hcat, h⟩ := hz9
    split at h
    · next z hit =>
      have hw : (xcw a = Cond.code (xY a) (xB a) (xNl a) (xRet a) ∧ (xHh a).map (fun h => (h.1, h.2.1, h.2.2.1, h.2.2.2.1)) = []) ∨ xcw a = Cond.codeWith (xY a) (xB a) (xNl a) (xRet a) ((xHh a).map (fun h => (h.1, h.2.1, h.2.2.1, h.2.2.2.1))) := by
        by_cases hh : xHh a = []
        · exact Or.inl ⟨xcw_0 hh, by rw [hh]; rfl⟩
        · exact Or.inr (xcw_1 hh)
      refine xofW (xm_f3 a ha) hw ?_
      intro p e s m args below meth c s₁ B hml htab hP
      obtain ⟨rfl, hI, hR, hsz⟩ := hP
      have hown : s.vm.findClass (xcn (xK a)) = some m.cls := by rw [← xcls (by omega)]; exact findClass_of_methodNamed B.named
      have F : xFx p l s m meth c g D xs a := ⟨B.exec, B.bytes, hml, hown, (name_of_methodNamed B.named B.method).1, B.notSynchronized, htab, hI, hl, B.returns⟩
      obtain ⟨z', h1, h2⟩ := (x_iter (Q := vx_MQ below (xQo g D o σ') (xXo g D o σ') _ s (xMc a) (xMs a) (xA g)) (args := ((av.map (xrv g.1 g.2.1)).toArray)) (e := e) (below := below) F ih n _).2 z hit
      have h3 := h2 (x_done F ih h1 h)
      have hlen : (lg_sl (xst g.1 g.2.1 av)).length ≤ xNl a := by rw [xsl_len, xcat_rv]; exact xble hcat
      have h4 := lv_entry (xst g.1 g.2.1 av) hlen
      rw [← xarg_eq] at h4
      have h5 := h3 _ s.heap [] h4 ⟨hR, va_S.rf, hsz⟩
      rw [show entryFrame m (av.map (xrv g.1 g.2.1)).toArray (xNl a) = F0 m 0 ((lg_sl (xst g.1 g.2.1 av) ++ List.replicate (xNl a - (lg_sl (xst g.1 g.2.1 av)).length) Slot.unset).toArray) [] from lg_entry_eq m _ _]
      exact h5
    · cases h
/-- every run of a method of the machine of numbers is a contract of the JVM's -/
theorem x_sound (l : Launch) (g : XG) (D : va_G) (xs : List Int32) (hl : l.stackTraces = false) : ∀ d, xRec l g D xs (xrun2 xs d)
  | 0 => fun a av σ o σ' ha h => by cases h
  | d + 1 => x_one l g D xs hl (x_sound l g D xs hl d) 20
end
section
/-! From the law's entry to the machine of numbers. -/
theorem xa_of {s : State} {args : Array Value} {t : FieldType} (ht : ∀ C, t ≠ .object C) (h : (Cond.arrayClass t).before args s = true) : ∃ cA, ArrOfT s cA t ∧ va_RA s cA t := by
  obtain ⟨cA, kA, comp, h1, h2, h3⟩ := Cond.arrayClass_spec h
  refine ⟨cA, fun n z => ⟨(fun k h => by cases h), kA, h2, comp, h3⟩, ?_⟩
  cases t with
  | object C => exact absurd rfl (ht C)
  | _ => exact h1
theorem xq_of {s : State} {args : Array Value} {C : String} (h : (Cond.arrayOver (.object C)).before args s = true) : ∃ cA, ArrOfT s cA (.object C) ∧ va_RA s cA (.object C) := by
  obtain ⟨comp, c, k, h1, h2, h3, h4, h5⟩ := Cond.arrayOver_spec h
  exact ⟨c, fun n z => ⟨(fun k h => by cases h), k, h3, comp, h4⟩, k, comp, h3, h4, h1, h5⟩
def xat1 {α : Type} [DecidableEq α] (M L : List α) (hs : List Nat) : Bool := Nat.beq L.length hs.length && (L.zip hs).all (fun q => decide (M[q.2]? = some q.1))
theorem xat1_ok {α : Type} [DecidableEq α] {M L : List α} {hs : List Nat} (h : xat1 M L hs = true) : ∀ w ∈ L, w ∈ M := by
  unfold xat1 at h
  rw [Bool.and_eq_true] at h
  have hl := Nat.eq_of_beq_eq_true h.1
  intro w hw
  obtain ⟨i, hi, rfl⟩ := List.mem_iff_getElem.mp hw
  have h1 := List.all_eq_true.mp h.2 (L[i], hs[i]'(by omega)) (List.mem_iff_getElem.mpr ⟨i, by simp; omega, by simp⟩)
  exact List.mem_of_getElem? (of_decide_eq_true h1)
set_option maxRecDepth 100000 in
theorem xst_w : ∀ w ∈ xstrs.map (fun q => Cond.stringRef "RoverLocator" q.1 q.2), w ∈ lw_tbl := xat1_ok (hs := [574, 613, 641, 688, 717, 729, 704, 766, 786, 832, 878, 896, 956, 1032, 1097, 1105, 1117, 680, 709, 1024, 914, 777, 728, 740]) (by decide +kernel)
set_option maxRecDepth 100000 in
theorem xst_n : ∀ w ∈ xstrs.map (fun q => Cond.exactly (.string "RoverLocator" q.1) "java/lang/String"), w ∈ flatC (Jvm.Cond.and given_1 narrow_1) := xat1_ok (hs := [66, 103, 131, 186, 277, 357, 219, 451, 533, 587, 628, 670, 774, 860, 925, 972, 1029, 158, 249, 822, 711, 491, 315, 411]) (by decide +kernel)
def xprs : List (Nat × Nat) := [(0, 1), (0, 2), (0, 3), (1, 0), (1, 2), (1, 3), (2, 0), (2, 1), (2, 3), (3, 0), (3, 1), (3, 2)]
theorem xprs_in (e : Nat) (he : e < 4) (e' : Nat) (he' : e' < 4) (hne : e ≠ e') : (e, e') ∈ xprs := by
  have h : ∀ a : Fin 4, ∀ b : Fin 4, a ≠ b → (a.1, b.1) ∈ xprs := by decide +kernel
  exact h ⟨e, he⟩ ⟨e', he'⟩ (fun q => hne (congrArg Fin.val q))
set_option maxRecDepth 100000 in
theorem xpr_n : ∀ w ∈ xprs.map (fun q => Cond.not (.castable (xexc q.1) (xexc q.2))), w ∈ flatC (Jvm.Cond.and given_1 narrow_1) := xat1_ok (hs := [33, 48, 63, 18, 49, 64, 19, 34, 65, 20, 35, 50]) (by decide +kernel)
set_option maxRecDepth 100000 in
theorem xsq_n : ∀ w ∈ [Cond.isRef (.static Bundle.tN "UNASSIGNED_STACK" Bundle.steD), Cond.isRef (.static Bundle.tN "SUPPRESSED_SENTINEL" Bundle.listD)], w ∈ flatC (Jvm.Cond.and given_1 narrow_1) := xat1_ok (hs := [4, 5]) (by decide +kernel)
set_option maxRecDepth 100000 in
theorem xtq_w : ∀ w ∈ [Cond.laysStatic Bundle.tN "UNASSIGNED_STACK" Bundle.steD, Cond.laysStatic Bundle.tN "SUPPRESSED_SENTINEL" Bundle.listD, Cond.initialized Bundle.tN, Cond.arrayOver (.object "RoverLocator$State")], w ∈ lw_tbl := xat1_ok (hs := [559, 561, 74, 245]) (by decide +kernel)
set_option maxHeartbeats 1000000 in
theorem x_start {s : State} {b L : Nat} {xs : Nat → Int32} {args : Array Value} (hts : ∀ w ∈ lw_tbl, w.before args s = true) (hX : va_X b L xs s s.heap) (hbl : b < s.heap.size) (hgv : (Jvm.Cond.and given_1 narrow_1).before args s = true) :
    ∃ (g : XG) (D : va_G), g.1 = s.heap.size ∧ g.2.1 = b ∧ xI g D ((List.range L).map xs) s := by
  have hn := flat_of_before _ hgv
  have hG : xGW s := fun w hw hg a => xgw_ok hg (State.WarmedH.refl s) (hts w hw)
  obtain ⟨tI, a1, a2⟩ := xa_of (t := .int) (fun C h => by cases h) (hG _ (xar_w _ List.mem_cons_self).1 (xar_w _ List.mem_cons_self).2 args)
  obtain ⟨tJ, b1, b2⟩ := xa_of (t := .long) (fun C h => by cases h) (hG _ (xar_w _ (List.mem_cons_of_mem _ List.mem_cons_self)).1 (xar_w _ (List.mem_cons_of_mem _ List.mem_cons_self)).2 args)
  obtain ⟨tC, c1, c2⟩ := xa_of (t := .char) (fun C h => by cases h) (hG _ (xar_w _ (List.mem_cons_of_mem _ (List.mem_cons_of_mem _ List.mem_cons_self))).1 (xar_w _ (List.mem_cons_of_mem _ (List.mem_cons_of_mem _ List.mem_cons_self))).2 args)
  have hov := hts _ (xtq_w _ (List.mem_cons_of_mem _ (List.mem_cons_of_mem _ (List.mem_cons_of_mem _ List.mem_cons_self))))
  obtain ⟨tQ, d1, d2⟩ := xq_of hov
  have hk : ∀ a : Nat, ∃ q : ClassId × (Nat → Nat), a < 12 → u_Kn s (xcT a).1 (xcT a).2.1 (xcT a).2.2 q.1 q.2 := by
    have h0 : ∀ a, a < 12 → ∃ q : ClassId × (Nat → Nat), u_Kn s (xcT a).1 (xcT a).2.1 (xcT a).2.2 q.1 q.2 := by
      intro a ha
      obtain ⟨w3, w4⟩ := xci_w (Cond.instantiable (xcT a).1 (xcT a).2.2) (List.mem_map.mpr ⟨a, List.mem_range.mpr ha, rfl⟩)
      obtain ⟨cC, iS, h⟩ := u_known (C := (xcT a).1) (T := (xcT a).2.1) (N := (xcT a).2.2) hts (fun w hw => (xcl_in a ha w hw).1) (hts _ w3)
      exact ⟨(cC, iS), h⟩
    intro a
    by_cases ha : a < 12
    · obtain ⟨q, h⟩ := h0 a ha
      exact ⟨q, fun _ => h⟩
    · obtain ⟨q, -⟩ := h0 0 (by decide)
      exact ⟨q, fun h => absurd h ha⟩
  refine ⟨(s.heap.size, b, tI, tJ, tC, tQ), (fun a => (Classical.choose (hk a)).1, fun a => (Classical.choose (hk a)).2), rfl, rfl, hG, ⟨fun c q hq => ?_, fun k q hq => ?_⟩, fun q hq => ?_, ?_, ?_, fun e e' he he' hne => ?_, ?_, hbl, Nat.le_refl _, va_AO.of hov⟩
  · have hc : c < 12 := (List.getElem?_eq_some_iff.mp hq).1
    have h1 := xcl_at c hc
    rw [h1] at hq
    cases hq
    exact Classical.choose_spec (hk c) hc
  · match k, hq with
    | 0, hq => cases hq; exact ⟨a1, a2⟩
    | 1, hq => cases hq; exact ⟨b1, b2⟩
    | 2, hq => cases hq; exact ⟨c1, c2⟩
    | 3, hq => cases hq; exact ⟨d1, d2⟩
    | k + 4, hq => cases hq
  · obtain ⟨sa, ce, cc, kk, he, -⟩ := Cond.exactly_spec (hn _ (xst_n _ (List.mem_map.mpr ⟨q, hq, rfl⟩)))
    exact ⟨sa, vk_R.of (hts _ (xst_w _ (List.mem_map.mpr ⟨q, hq, rfl⟩))) he⟩
  · exact vx_Zqof (hts _ (xtq_w _ List.mem_cons_self)) (hts _ (xtq_w _ (List.mem_cons_of_mem _ (List.mem_cons_of_mem _ List.mem_cons_self)))) (hn _ (xsq_n _ List.mem_cons_self)) (fun a ha => Nat.not_le.mpr ha)
  · exact vx_Zqof (hts _ (xtq_w _ (List.mem_cons_of_mem _ List.mem_cons_self))) (hts _ (xtq_w _ (List.mem_cons_of_mem _ (List.mem_cons_of_mem _ List.mem_cons_self)))) (hn _ (xsq_n _ (List.mem_cons_of_mem _ List.mem_cons_self))) (fun a ha => Nat.not_le.mpr ha)
  · exact va_Nc.of (hn _ (xpr_n _ (List.mem_map.mpr ⟨(e, e'), xprs_in e he e' he' hne, rfl⟩)))
  · obtain ⟨scr, h1, h2, h3, h4, h5⟩ := hX
    refine ⟨scr, h1, h2, h3, by simpa using h4, fun j hj => ?_⟩
    have hj : j < L := by simpa using hj
    rw [h5 j hj]
    simp [hj]
/-- the law's answer, as the machine of numbers finds it -/
def xlaw (xs : List Int32) (d n : Nat) : Bool := match xit (xstep (xrun2 xs d) xs 256) n (0, [(0, .retAddr 0)], [], 0, 0, (true, [])) with
  | some (.inr ((pc, _, [.int v], cu, su, _), none)) => (match xcode 256 pc with | some (.ireturn, _) => decide (v = 1) && (Nat.ble cu 601024 && Nat.ble su 7293034) | _ => false)
  | _ => false
theorem xback_no {k a pc cu su : Nat} {ls : XL} {rest : List Value} {r : Option (XO × XW)} {z : XC} (h : xback k a pc ls rest cu su r = some (.inr (z, none))) : False := by
  unfold xback at h
  repeat' first | (cases h; done) | (exact (xno h).elim) | split at h
set_option maxHeartbeats 4000000 in
theorem xinr {rec : Nat → List Value → XW → Option (XO × XW)} {xs : List Int32} {k : Nat} {z' z : XC} (h : xstep rec xs k z' = some (.inr (z, none))) : z' = z := by
  obtain ⟨pc, ls, st, cu, su, σ⟩ := z'
  unfold xstep at h
  dsimp only at h
  split at h
  · cases h
  · split at h <;> (repeat' first | (cases h; done) | (cases h; rfl) | (exact (xno h).elim) | (obtain ⟨hz8, hz9⟩ := xbif2 h; clear h; rename _ => h) | (exact (xback_no h).elim) | split at h)
end
section
/-! THE CLAIM OUT OF ONE WALK OF THE LAW'S BODY. Your part is whole_start (and what it stands on); all else here is the same for every law, but numbers. -/
def R_law : String := "RoverLocatorLaw"
def lw_P (b : Addr) (xs : List Int32) (args : Array Value) (s : State) : Prop := args = #[.ref b] ∧ s.IntsAt b xs ∧ xs.length ≤ 2048 ∧ (Jvm.Cond.and given_1 narrow_1).before args s = true
/-- what a walk over the start with the record d0 says of its end, said of the start itself -/
theorem lw_closed {s t : State} {o : Outcome} {d0 : Drawn} {L : List Loc} {k n : Nat} (hd0 : s.drawn.sameBut d0 lw_cs) (hv : ∃ v, o = .returned v) (hW : (s.setDrawn d0).WarmedH t.vm) (hs : (s.setDrawn d0).sameButNew ({ t with vm := s.vm } : State) L k n) : State.butDraws s t lw_cs (fun t1 => Framed s o t1 L k n) := by
  have h2 : t.drawn = d0 := congrArg State.drawn hs.1
  refine ⟨⟨hv, hW, State.sameButNew.setDrawn hs s.drawn⟩, ?_, by decide⟩
  rw [h2]
  exact hd0
def lw_Q (_ : Array Value) (s : State) (o : Outcome) (t : State) : Prop := o = .returned (some (.int 1)) ∧ State.butDraws s t lw_cs (fun t1 => Framed s o t1 [] 601024 7293034)
def lw_Z (below : List Frame) (a : Array Value) (s : State) : State → Prop := fun t => ∃ o, t.status = .running ∧ Ended t below o ∧ lw_Q a s o t
/-- the law's own end, with 1 on the stack, nothing written that was there before, its room as the claim has it; d0: the record of draws at this point (at the entry s.drawn: begin with 'refine W.base ?_' and 'have hd0 := Drawn.sameBut.refl s.drawn lw_cs') -/
theorem lw_ret {p : Program} {l : Launch} {e : Env} {s : State} {m : MethodId} {below : List Frame} {meth : Method} {c : Code} {b : Nat} {d0 : Drawn} (hd0 : s.drawn.sameBut d0 lw_cs) (hx : p.tables.exec = Jvm.exec) (hb : c.code = code) (hr : meth.sig.returnType = ret) (hlocks : meth.locks = false) {pc : Nat} {H : Heap} {ls : Array Slot} (hdg : decode code pc = .ok (.ireturn, 1)) : W p l e room_1 (s.setDrawn d0) m #[Value.ref b] below meth c H [] 601024 7293034 (lw_Z below #[Value.ref b] s) (F0 m pc ls [.int 1]) := by
  intro T hT X
  obtain ⟨fs, hret, hrun, hended, hW, hframe⟩ := X.leave (v := some (.int 1)) (hlocks := hlocks) (fun h => by rw [hr] at h; cases h)
  have hmeth' : T.vm.method? m = some meth := X.method'
  refine ⟨T.setFrames fs, ?_, .returned (some (.int 1)), hrun, hended, rfl, lw_closed hd0 ⟨_, rfl⟩ hW hframe⟩
  jvm_step X.here [X.here.top, hx, hb, hdg, hmeth', hr, ret, narrow_b1]
  (try refine ⟨rfl, ?_⟩); (try refine ⟨rfl, ?_⟩)
  first | (intro acts; rw [hret _ acts rfl rfl rfl]) | rw [hret _ _ rfl rfl rfl]
  exact Steps.refl _
/-- what holds at the law's entry: the machine, the code, the tables' words (any of lw_tbl by 'hts w (by decide +kernel)'), the script of L ints xs at the cell b, what the Statement gives of the start (any of its parts by flat_of_before) -/
def lw_At (p : Program) (s : State) (m : MethodId) (meth : Method) (c : Code) (b L : Nat) (xs : Nat → Int32) : Prop :=
  p.tables.exec = Jvm.exec ∧ c.code = code ∧ meth.sig.returnType = ret ∧ c.maxLocals = 8 ∧ s.vm.findClass R_law = some m.cls ∧ (∀ w ∈ lw_tbl, w.before #[Value.ref b] s = true) ∧ va_X b L xs s s.heap ∧ b < s.heap.size ∧ meth.locks = false ∧ (Jvm.Cond.and given_1 narrow_1).before #[Value.ref b] s = true
set_option maxHeartbeats 1000000 in
theorem whole_startX {p : Program} {e : Env} {s : State} {m : MethodId} {below : List Frame} {meth : Method} {c : Code} (l : Launch) (hflags : l.flags = flags0) {b L : Nat} {xs : Nat → Int32} (hlaw : ∃ d n, xlaw ((List.range L).map xs) d n = true) (C0 : lw_At p s m meth c b L xs) (hnm : meth.name = (xY 256).name) (htab : c.exceptionTable.toList = []) : W p l e room_1 s m #[Value.ref b] below meth c s.heap [] 0 0 (lw_Z below #[Value.ref b] s) (entryFrame m ([Value.ref b] : List Value).toArray 8) := by
  obtain ⟨hx, hb, hr, hml, hown, hts, hX, hbl, hlocks, hgv⟩ := id C0
  obtain ⟨g, D, e1, e2, hI⟩ := x_start hts hX hbl hgv
  have hl0 : l.stackTraces = false := by unfold Launch.stackTraces; rw [hflags]; decide +kernel
  have hd0 := Drawn.sameBut.refl s.drawn lw_cs
  obtain ⟨d, n, hlaw⟩ := hlaw
  generalize (List.range L).map xs = XS at hI hlaw
  unfold xlaw at hlaw
  split at hlaw
  · next pc ls v cu su σ hit =>
    split at hlaw
    · next ent hent =>
      obtain ⟨hv, h9⟩ := xand hlaw
      obtain ⟨hcu, hsu⟩ := xand h9
      have hv := xdb hv
      have hcu := xble hcu
      have hsu := xble hsu
      subst hv
      have F : xFx p l s m meth c g D XS 256 := ⟨hx, by rw [hb]; rfl, hml.trans (by decide +kernel), by rw [show xcn (xK 256) = R_law from by decide +kernel]; exact hown, hnm, hlocks, by rw [htab]; rfl, hI, hl0, hr.trans (by decide +kernel)⟩
      obtain ⟨z', h1, h2⟩ := (x_iter (Q := lw_Z below #[Value.ref b] s) (args := #[Value.ref b]) (e := e) (below := below) F (x_sound l g D XS hl0 d) n _).2 _ hit
      have hz := xinr h1
      subst hz
      have hfin : xWc p l e s m #[Value.ref b] below meth c (lw_Z below #[Value.ref b] s) g D 256 (pc, ls, [.int 1], cu, su, σ) := by
        intro lsA H locs hl hH
        have hdec := (xent_dec hent).1
        have hlen := (xent_at hent).2.1
        have e1' : ent.1 = 1 := xbe hlen
        rw [show ((Instr.ireturn, ent) : XEn).2.1 = 1 from e1'] at hdec
        refine va_forget (fun q hq => by rw [← e1]; exact hH.2.1.2.2 q hq) ?_
        refine W.widen (k := 601024) (n := 7293034) hcu hsu ?_
        exact lw_ret hd0 hx hb hr hlocks hdec
      have h3 := h2 hfin
      have h4 := lv_entry (xst g.1 g.2.1 [.retAddr 0]) (n := 8) (Nat.le_of_ble_eq_true rfl)
      rw [← xarg_eq] at h4
      have h5 := h3 _ s.heap [] h4 ⟨(fun k x h => by cases h), va_S.rf, fun _ => e1.symm⟩
      rw [show entryFrame m ([Value.ref b] : List Value).toArray 8 = F0 m 0 ((lg_sl (xst g.1 g.2.1 [.retAddr 0]) ++ List.replicate (8 - (lg_sl (xst g.1 g.2.1 [.retAddr 0])).length) Slot.unset).toArray) [] from by rw [lg_entry_eq, ← e2]; rfl]
      exact h5
    · cases hlaw
  · cases hlaw
end
