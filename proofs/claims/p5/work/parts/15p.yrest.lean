/-! The rest of the fast machine's instructions: switches, the script, characters, rows of references, copies, other values. -/
theorem y_nth_e {α : Type} (d : α) : ∀ (l : List α) (n : Nat), y_nth d l n = l.getD n d
  | [], n => rfl
  | a :: l, 0 => rfl
  | a :: l, n + 1 => by
    rw [y_nth_s, y_nth_e d l n]
    rfl
theorem y_lk_e (l : yS) (j : Nat) : y_lk l j = l[j]? := by
  have h : @List.rec yV (fun _ => List (Option yV)) [] (fun a _ ih => some a :: ih) l = l.map some := by
    induction l with
    | nil => rfl
    | cons a r ih =>
      show some a :: _ = some a :: _
      rw [ih]
  unfold y_lk
  rw [h, y_nth_e, List.getD_eq_getElem?_getD, List.getElem?_map]
  cases l[j]? with
  | none => rfl
  | some x => rfl
theorem y_fs_e (l : List (Nat × Nat × Nat × Bool)) (a : Nat) : ∀ (n j : Nat), y_fs l a n = some j → j < n ∧ y_o3 l 0 a (y_cn j) = some true
  | 0, j, h => by cases h
  | n + 1, j, h => by
    have h : @Option.rec _ (fun _ => Option Nat) (y_fs l a n) (fun b => y_if b (some n) (y_fs l a n)) (y_o3 l (nat_lit 0) a (y_cn n)) = some j := h
    cases hq : y_o3 l (nat_lit 0) a (y_cn n) with
    | none =>
      rw [hq] at h
      have := y_fs_e l a n j h
      exact ⟨by omega, this.2⟩
    | some b =>
      rw [hq] at h
      cases b with
      | true =>
        have h : some n = some j := h
        cases h
        exact ⟨by omega, hq⟩
      | false =>
        have := y_fs_e l a n j h
        exact ⟨by omega, this.2⟩
theorem y_tsw_e (pc a nl : Nat) (ls : XL) (r : List Value) (d hi : Int) (offs : Array Int) (ts : List Nat) (dd x : Nat) (hx : x < 4294967296) (hts : ts = offs.toList.map (fun o => ((pc : Int) + o).toNat)) (hoff : offs.toList.all (fun o => decide (0 ≤ (pc : Int) + o)) = true) (hd : 0 ≤ (pc : Int) + d ∧ ((pc : Int) + d).toNat = dd) (hn : (offs.size : Int) = hi + 1) (hs : offs.size ≤ 4096) : xop (.tableswitch d 0 hi offs) pc a nl ls (.int (Int32.ofNat x) :: r) = some (y_nth dd ts x, ls, r) := by
  have hti := y_ti32 x
  generalize Int32.ofNat x = w at hti
  show (if w.toInt < 0 ∨ hi < w.toInt then (if 0 ≤ (pc : Int) + d then some (((pc : Int) + d).toNat, ls, r) else none) else (match offs[(w.toInt - 0).toNat]? with | some o => (if 0 ≤ (pc : Int) + o then some (((pc : Int) + o).toNat, ls, r) else none) | none => none)) = _
  rw [y_nth_e, List.getD_eq_getElem?_getD]
  by_cases hin : w.toInt < 0 ∨ hi < w.toInt
  · rw [if_pos hin, if_pos hd.1, hd.2]
    have hge : offs.toList.length ≤ x := by rw [Array.length_toList]; omega
    have : ts[x]? = none := by rw [hts, List.getElem?_map, List.getElem?_eq_none hge]; rfl
    rw [this]
    rfl
  · rw [if_neg hin]
    have hw : (w.toInt - 0).toNat = x := by omega
    have hlt : x < offs.size := by omega
    rw [hw, Array.getElem?_eq_getElem hlt]
    dsimp only
    have hm : offs[x] ∈ offs.toList := by rw [← Array.getElem_toList]; exact List.getElem_mem _
    have hp := of_decide_eq_true (List.all_eq_true.mp hoff _ hm)
    rw [if_pos hp]
    have : ts[x]? = some (((pc : Int) + offs[x]).toNat) := by
      rw [hts, List.getElem?_map, List.getElem?_eq_getElem (by rw [Array.length_toList]; exact hlt), Array.getElem_toList]
      rfl
    rw [this]
    rfl
theorem y_all_e {ok : yV → Bool} : ∀ (d : Nat) (t : yT), y_all ok d t = true → ∀ i, i < 2 ^ d → ok (y_get d y_z t i) = true
  | 0, .leaf x, h, i, _ => h
  | 0, .branch _ _ _, h, i, _ => by cases h
  | d + 1, .leaf x, h, i, _ => by cases h
  | d + 1, .branch p x y, h, i, hi => by
    have hh : y_hf i < 2 ^ d := by show i / 2 < 2 ^ d; rw [Nat.pow_succ] at hi; omega
    have h : y_if (y_all ok d x) (y_all ok d y) false = true := h
    cases hx : y_all ok d x with
    | false => rw [hx] at h; cases h
    | true =>
      rw [hx, y_ift] at h
      show ok (@Bool.rec (fun _ => yV) (y_get d y_z y (y_hf i)) (y_get d y_z x (y_hf i)) (y_ev i)) = true
      cases y_ev i with
      | true => exact y_all_e d x hx _ hh
      | false => exact y_all_e d y h _ hh
theorem y_cp_e {d0 d1 : Nat} {s0 : yT} {P : yR → Prop} (h0 : P none) : ∀ (n i j : Nat) (t : yT) (k : yT → yR), j + n ≤ 2 ^ d1 → (∀ t', (∀ q, q < 2 ^ d1 → y_get d1 y_z t' q = if j ≤ q ∧ q < j + n then y_get d0 y_z s0 (i + (q - j)) else y_get d1 y_z t q) → P (k t')) → P (y_cp d0 s0 d1 n i j t k)
  | 0, i, j, t, k, _, hk => hk t (fun q _ => by rw [if_neg (by omega)])
  | n + 1, i, j, t, k, hj, hk => by
    show P (y_set d1 t j (y_get d0 y_z s0 i) (fun t => y_cp d0 s0 d1 n (Nat.succ i) (Nat.succ j) t k) none)
    refine y_set_e y_z d1 t j _ _ _ (by omega) h0 (fun t1 ht1 => ?_)
    refine y_cp_e h0 n (i + 1) (j + 1) t1 k (by omega) (fun t' ht' => hk t' (fun q hq => ?_))
    rw [ht' q hq, ht1 q hq]
    by_cases h1 : q = j
    · subst h1
      rw [if_neg (by omega), if_pos rfl, if_pos (by omega), Nat.sub_self]
      rfl
    · rw [if_neg h1]
      by_cases h2 : j + 1 ≤ q ∧ q < j + 1 + n
      · rw [if_pos h2, if_pos (by omega)]
        congr 1
        omega
      · rw [if_neg h2, if_neg (by omega)]
theorem y_nn32 {i : Nat} (h : i ≤ 4096) : ¬ Int32.ofNat i < 0 := by
  intro hn
  rw [Int32.lt_iff_toInt_lt, Int32.toInt_ofNat_of_lt (by omega)] at hn
  have h0 : (0 : Int32).toInt = 0 := by decide
  rw [h0] at hn
  omega
theorem y_tn32 {i : Nat} (h : i ≤ 4096) : (Int32.ofNat i).toNatClampNeg = i := Int32.toNatClampNeg_ofNat_of_lt (by omega)
theorem y_sc_e {P : yR → Prop} {v : yV} {k : yR} (h0 : P none) (h : ∀ q, v = y_v (.retAddr q) → P k) : P (y_sc v k) := by
  refine y_bd_e (P := P) (fun _ _ => h0) (fun _ _ => h0) (fun _ _ => h0) (fun _ _ => h0) (fun _ _ => h0) (fun x e => y_if_e (P := P) (fun hb => ?_) (fun _ => h0))
  cases x with
  | retAddr q => exact h q e
  | _ => cases hb
section YST
variable {G : yG} {xrec : Nat → List Value → XW → Option (XO × XW)} {xs : List Int32} {E : yE} {rec : yCl} {k N pc pc' len a b : Nat} {i : Instr} {n : yKK}
theorem y_oor_e {x nn : Nat} (hE : yOk G xs E) (h : y_oor E.2.2 x nn = true) (hn : nn ≤ 4096) : (G.1 x).toInt < 0 ∨ (nn : Int) ≤ (G.1 x).toInt := by
  have h : @Option.rec _ (fun _ => Bool) false (fun b => y_if b true (@Option.rec _ (fun _ => Bool) false (fun b => b) (y_o3 E.2.2 (nat_lit 3) (y_cs x) (y_cn nn)))) (y_o3 E.2.2 (nat_lit 2) (y_cs x) (nat_lit 0)) = true := h
  cases h1 : y_o3 E.2.2 (nat_lit 2) (y_cs x) (nat_lit 0) with
  | none => rw [h1] at h; cases h
  | some b =>
    rw [h1] at h
    have h : y_if b true (@Option.rec _ (fun _ => Bool) false (fun b => b) (y_o3 E.2.2 (nat_lit 3) (y_cs x) (y_cn nn))) = true := h
    cases b with
    | true =>
      have h2 := hE.2.1 _ _ _ _ h1
      rw [y_vi_s, show y_vi G 0 = 0 from rfl] at h2
      have h2 : G.1 x < 0 := of_decide_eq_true h2
      rw [Int32.lt_iff_toInt_lt, show (0 : Int32).toInt = 0 from by decide] at h2
      exact Or.inl h2
    | false =>
      rw [y_iff] at h
      cases h3 : y_o3 E.2.2 (nat_lit 3) (y_cs x) (y_cn nn) with
      | none => rw [h3] at h; cases h
      | some b =>
        rw [h3] at h
        have h : b = true := h
        subst h
        have h2 := hE.2.1 _ _ _ _ h3
        rw [y_vi_s, y_vi_n] at h2
        have h2 : Int32.ofNat nn ≤ G.1 x := of_decide_eq_true h2
        rw [Int32.le_iff_toInt_le, Int32.toInt_ofNat_of_lt (by omega)] at h2
        exact Or.inr h2
theorem g_tsw {ts : List Nat} {dd : Nat} {d hi : Int} {offs : Array Int} (hE : yOk G xs E) (hc : xcode k pc = some (.tableswitch d 0 hi offs, len, a, b)) (hts : ts = offs.toList.map (fun o => ((pc : Int) + o).toNat)) (hoff : offs.toList.all (fun o => decide (0 ≤ (pc : Int) + o)) = true) (hd : 0 ≤ (pc : Int) + d ∧ ((pc : Int) + d).toNat = dd) (hn : (offs.size : Int) = hi + 1) (hs : offs.size ≤ 4096) : yGd G xrec xs E rec k 1 pc (yTsw ts dd n) := by
  intro ls st h m
  refine y_pop_e yTo_no (fun v r hst => ?_)
  subst hst
  refine y_bd_e (fun x e => ?_) (fun _ _ => yTo_no) (fun _ _ => yTo_no) (fun x e => ?_) (fun _ _ => yTo_no) (fun _ _ => yTo_no)
  · subst e
    cases hx : Nat.blt x (nat_lit 4294967296) with
    | false => exact yTo_no
    | true =>
      have hx : x < 4294967296 := Nat.le_of_ble_eq_true hx
      rw [y_ift]
      exact yTo_op (N := 0) (ls' := ls) (st' := r) hc rfl (y_tsw_e pc a _ _ _ d hi offs ts dd x hx hts hoff hd hn hs) ⟨0, Nat.le_refl 0, rfl⟩
  · subst e
    cases hoo : y_oor E.2.2 x (List.length ts) with
    | true =>
      rw [y_ift]
      have hl : ts.length = offs.size := by rw [hts, List.length_map, Array.length_toList]
      have hx := y_oor_e hE hoo (by omega)
      rw [hl] at hx
      refine yTo_op (N := 0) (ls' := ls) (st' := r) (pc' := dd) hc rfl ?_ ⟨0, Nat.le_refl 0, rfl⟩
      show (if (G.1 x).toInt < 0 ∨ hi < (G.1 x).toInt then (if 0 ≤ (pc : Int) + d then some (((pc : Int) + d).toNat, y_dl G ls, y_ds G r) else none) else _) = some (dd, y_dl G ls, y_ds G r)
      rw [if_pos (by omega), if_pos hd.1, hd.2]
    | false =>
    rw [y_iff]
    refine y_on_e yTo_no (fun j hj => ?_)
    obtain ⟨hj1, hj2⟩ := y_fs_e _ _ _ _ hj
    have hj1 : j < 64 := hj1
    have h1 := hE.2.1 _ _ _ _ hj2
    rw [y_vi_s, y_vi_n] at h1
    have h1 : G.1 x = Int32.ofNat j := of_decide_eq_true h1
    refine yTo_op (N := 0) (ls' := ls) (st' := r) (pc' := y_nth dd ts j) hc rfl ?_ ⟨0, Nat.le_refl 0, rfl⟩
    show xop _ pc a (xNl k) (y_dl G ls) (.int (G.1 x) :: y_ds G r) = _
    rw [h1]
    exact y_tsw_e pc a _ _ _ d hi offs ts dd j (by omega) hts hoff hd hn hs
theorem g_slen (hE : yOk G xs E) (hc : xcode k pc = some (.arraylength, len, a, b)) (hn : yGd G xrec xs E rec k N (pc + 1) n) : yGd G xrec xs E rec k (N + 1) pc (ySlen n) := by
  intro ls st h m
  refine y_pop_e yTo_no (fun v r hst => ?_)
  subst hst
  refine y_sc_e (P := yTo G (xstep xrec xs k) k (N + 1) (y_dx G pc ls (v :: r) h m)) yTo_no (fun q e => y_on_e yTo_no (fun x hx => ?_))
  subst e
  have h1 := hE.2.2.1 x hx
  refine yTo_step ?_ (hn ls (x :: r) h m)
  show xstep xrec xs k (pc, y_dl G ls, Value.retAddr q :: y_ds G r, m.1, m.2.1, y_dw G h m) = some (.inl (pc + 1, y_dl G ls, y_dec G x :: y_ds G r, m.1, m.2.1, y_dw G h m))
  rw [h1]
  unfold xstep; dsimp only; rw [hc]
theorem g_sld (hE : yOk G xs E) (hc : xcode k pc = some (.iaload, len, a, b)) (hn : yGd G xrec xs E rec k N (pc + 1) n) : yGd G xrec xs E rec k (N + 1) pc (ySld n) := by
  intro ls st h m
  refine y_pop_e yTo_no (fun v r hst => y_pop_e yTo_no (fun u r2 hst2 => ?_))
  subst hst2; subst hst
  refine y_isI_e yTo_no (fun j e1 => ?_)
  subst e1
  refine y_sc_e (P := yTo G (xstep xrec xs k) k (N + 1) (y_dx G pc ls (y_i j :: u :: r2) h m)) yTo_no (fun q e => y_on_e yTo_no (fun x hx => ?_))
  subst e
  obtain ⟨w, hw, h1⟩ := hE.2.2.2.1 j x hx
  have hlt : j < xs.length := (List.getElem?_eq_some_iff.mp hw).1
  have hl : xs.length ≤ 4096 := hE.2.2.2.2.2
  refine yTo_step ?_ (hn ls (x :: r2) h m)
  show xstep xrec xs k (pc, y_dl G ls, Value.int (Int32.ofNat j) :: Value.retAddr q :: y_ds G r2, m.1, m.2.1, y_dw G h m) = some (.inl (pc + 1, y_dl G ls, y_dec G x :: y_ds G r2, m.1, m.2.1, y_dw G h m))
  rw [h1]
  unfold xstep; dsimp only; rw [hc]; dsimp only
  rw [y_xin hlt hl, cond_true, y_tnc hlt hl, xnth_eq, hw]
theorem xs_cast {q cu su : Nat} {ls : XL} {r fs : List Value} {σ : XW} {j v : Int32} {rec0 : Nat → List Value → XW → Option (XO × XW)} (hc : xcode k pc = some (.castore, len, a, b)) (h1 : xnth σ.2 q = some (102, fs)) (hj : xin j fs.length = true) (hv : decide (narrow .char (.int v) = .int v) = true) : xstep rec0 xs k (pc, ls, .int v :: .int j :: .ref q :: r, cu, su, σ) = some (.inl (pc + 1, ls, r, cu, su, (σ.1, σ.2.set q (102, fs.set j.toNatClampNeg (.int v))))) := by
  unfold xstep; dsimp only; rw [hc]; dsimp only; rw [h1]; dsimp only
  rw [Nat.beq_refl, hj, hv, Bool.and_self, Bool.and_self, cond_true]
theorem y_char {x : Nat} (h : x < 65536) : decide (narrow .char (.int (Int32.ofNat x)) = .int (Int32.ofNat x)) = true := by
  apply decide_eq_true
  have h1 := pk_nc (Int32.ofNat x)
  rw [y_i2c_e, Nat.mod_eq_of_lt h] at h1
  exact h1
theorem g_cast (hE : yOk G xs E) (hc : xcode k pc = some (.castore, len, a, b)) (hn : yGd G xrec xs E rec k N (pc + 1) n) : yGd G xrec xs E rec k (N + 1) pc (yCast n) := by
  intro ls st h m
  refine y_pop_e yTo_no (fun x r0 hs0 => y_pop_e yTo_no (fun v r hs1 => y_pop_e yTo_no (fun u r2 hs2 => ?_)))
  subst hs2; subst hs1; subst hs0
  refine y_isI_e yTo_no (fun j e1 => y_isR_e yTo_no (fun q e2 => ?_))
  subst e1; subst e2
  refine y_at_e (P := yTo G (xstep xrec xs k) k (N + 1) (y_dx G pc ls (x :: y_i j :: y_r q :: r2) h m)) yTo_no (fun t l s hq hm hg => ?_)
  refine y_bq_e (P := yTo G (xstep xrec xs k) k (N + 1) (y_dx G pc ls (x :: y_i j :: y_r q :: r2) h m)) yTo_no (fun ht => ?_)
  refine y_ix_e (P := yTo G (xstep xrec xs k) k (N + 1) (y_dx G pc ls (x :: y_i j :: y_r q :: r2) h m)) yTo_no (fun hb hl => ?_)
  subst ht
  generalize hok : (y_bd x (fun a => Nat.blt a (nat_lit 65536)) (fun _ => false) (fun _ => false) (fun k => @Option.rec _ (fun _ => Bool) false (fun b => b) (y_o3 E.2.2 (nat_lit 20) (y_cs k) (nat_lit 0))) (fun _ => false) (fun _ => false)) = ok
  cases ok with
  | false => exact yTo_no
  | true =>
    have hx : ∃ w : Int32, y_dec G x = .int w ∧ decide (narrow .char (.int w) = .int w) = true := by
      rcases x with x | x | x | x | x | x
      · exact ⟨_, rfl, y_char (Nat.le_of_ble_eq_true hok)⟩
      · cases hok
      · cases hok
      · have hok : @Option.rec _ (fun _ => Bool) false (fun b => b) (y_o3 E.2.2 (nat_lit 20) (y_cs x) (nat_lit 0)) = true := hok
        cases hq : y_o3 E.2.2 (nat_lit 20) (y_cs x) (nat_lit 0) with
        | none => rw [hq] at hok; cases hok
        | some bb =>
          rw [hq] at hok
          have hok : bb = true := hok
          subst hok
          have h1 := hE.2.1 _ _ _ _ hq
          rw [y_vi_s] at h1
          exact ⟨_, rfl, h1⟩
      · cases hok
      · cases hok
    obtain ⟨w, hw, hw2⟩ := hx
    rw [y_ift]
    refine y_set_e y_z _ s j x _ _ (y_dp_lt hb hl) yTo_no (fun s' hs' => ?_)
    refine y_set_e y_no _ h q (nat_lit 102, l, s') _ _ (Nat.lt_of_lt_of_le hq hm) yTo_no (fun h' hh' => ?_)
    refine yTo_step ?_ (hn ls r2 h' m)
    have h1 : xnth (y_dw G h m).2 q = some (102, y_sl G l s) := by
      show xnth (y_dh G m.2.2.2 h) q = _
      rw [y_dh_at hq, hg]
      rfl
    have h2 : y_dw G h' m = ((y_dw G h m).1, (y_dw G h m).2.set q (102, (y_sl G l s).set (Int32.ofNat j).toNatClampNeg (.int w))) := by
      show (m.2.2.1, y_dh G m.2.2.2 h') = (m.2.2.1, (y_dh G m.2.2.2 h).set q (102, (y_sl G l s).set (Int32.ofNat j).toNatClampNeg (.int w)))
      rw [y_dh_set hm hh', y_tnc hb hl, ← hw, ← y_sl_set hl hs']
      rfl
    show xstep xrec xs k (pc, y_dl G ls, y_dec G x :: Value.int (Int32.ofNat j) :: Value.ref q :: y_ds G r2, m.1, m.2.1, y_dw G h m) = some (.inl (pc + 1, y_dl G ls, y_ds G r2, m.1, m.2.1, y_dw G h' m))
    rw [h2, hw]
    exact xs_cast hc h1 (by rw [y_sl_len]; exact y_xin hb hl) hw2
theorem xs_aast {q p cu su : Nat} {ls : XL} {r fs gs : List Value} {σ : XW} {j : Int32} {rec0 : Nat → List Value → XW → Option (XO × XW)} (hc : xcode k pc = some (.aastore, len, a, b)) (h1 : xnth σ.2 q = some (103, fs)) (hj : xin j fs.length = true) (h6 : xnth σ.2 p = some (6, gs)) : xstep rec0 xs k (pc, ls, .ref p :: .int j :: .ref q :: r, cu, su, σ) = some (.inl (pc + 1, ls, r, cu, su, (σ.1, σ.2.set q (103, fs.set j.toNatClampNeg (.ref p))))) := by
  unfold xstep; dsimp only; rw [hc]; dsimp only; rw [h1]; dsimp only
  rw [Nat.beq_refl, hj, Bool.and_self, cond_true, h6]
  dsimp only
  rw [Nat.beq_refl, cond_true]
theorem g_aast (hc : xcode k pc = some (.aastore, len, a, b)) (hn : yGd G xrec xs E rec k N (pc + 1) n) : yGd G xrec xs E rec k (N + 1) pc (yAast n) := by
  intro ls st h m
  refine y_pop_e yTo_no (fun x r0 hs0 => y_pop_e yTo_no (fun v r hs1 => y_pop_e yTo_no (fun u r2 hs2 => ?_)))
  subst hs2; subst hs1; subst hs0
  refine y_isI_e yTo_no (fun j e1 => y_isR_e yTo_no (fun q e2 => y_isR_e yTo_no (fun p e3 => ?_)))
  subst e1; subst e2; subst e3
  refine y_at_e (P := yTo G (xstep xrec xs k) k (N + 1) (y_dx G pc ls (y_r p :: y_i j :: y_r q :: r2) h m)) yTo_no (fun t6 l6 s6 hp6 hm6 hg6 => ?_)
  refine y_bq_e (P := yTo G (xstep xrec xs k) k (N + 1) (y_dx G pc ls (y_r p :: y_i j :: y_r q :: r2) h m)) yTo_no (fun ht6 => ?_)
  refine y_at_e (P := yTo G (xstep xrec xs k) k (N + 1) (y_dx G pc ls (y_r p :: y_i j :: y_r q :: r2) h m)) yTo_no (fun t l s hq hm hg => ?_)
  refine y_bq_e (P := yTo G (xstep xrec xs k) k (N + 1) (y_dx G pc ls (y_r p :: y_i j :: y_r q :: r2) h m)) yTo_no (fun ht => ?_)
  refine y_ix_e (P := yTo G (xstep xrec xs k) k (N + 1) (y_dx G pc ls (y_r p :: y_i j :: y_r q :: r2) h m)) yTo_no (fun hb hl => ?_)
  subst ht; subst ht6
  refine y_set_e y_z _ s j (y_r p) _ _ (y_dp_lt hb hl) yTo_no (fun s' hs' => ?_)
  refine y_set_e y_no _ h q (nat_lit 103, l, s') _ _ (Nat.lt_of_lt_of_le hq hm) yTo_no (fun h' hh' => ?_)
  refine yTo_step ?_ (hn ls r2 h' m)
  have h1 : xnth (y_dw G h m).2 q = some (103, y_sl G l s) := by
    show xnth (y_dh G m.2.2.2 h) q = _
    rw [y_dh_at hq, hg]
    rfl
  have h6 : xnth (y_dw G h m).2 p = some (6, y_sl G l6 s6) := by
    show xnth (y_dh G m.2.2.2 h) p = _
    rw [y_dh_at hp6, hg6]
    rfl
  have h2 : y_dw G h' m = ((y_dw G h m).1, (y_dw G h m).2.set q (103, (y_sl G l s).set (Int32.ofNat j).toNatClampNeg (.ref p))) := by
    show (m.2.2.1, y_dh G m.2.2.2 h') = (m.2.2.1, (y_dh G m.2.2.2 h).set q (103, (y_sl G l s).set (Int32.ofNat j).toNatClampNeg (y_dec G (y_r p))))
    rw [y_dh_set hm hh', y_tnc hb hl, ← y_sl_set hl hs']
    rfl
  show xstep xrec xs k (pc, y_dl G ls, Value.ref p :: Value.int (Int32.ofNat j) :: Value.ref q :: y_ds G r2, m.1, m.2.1, y_dw G h m) = some (.inl (pc + 1, y_dl G ls, y_ds G r2, m.1, m.2.1, y_dw G h' m))
  rw [h2]
  exact xs_aast hc h1 (by rw [y_sl_len]; exact y_xin hb hl) h6
end YST
