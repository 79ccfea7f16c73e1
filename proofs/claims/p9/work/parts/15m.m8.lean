section
/-! The other ends, throws, lengths. -/
section YST
variable {G : yG} {xrec : Nat → List Value → XW → Option (XO × XW)} {xs : List Int32} {E : yE} {rec : yCl} {k N pc pc' len a b : Nat} {i : Instr} {n : yKK}
theorem g_retl {MC MS : Nat} (hc : xcode k pc = some (.lreturn, len, a, b)) (hr : xRet k = some .long) (e4 : MC = xMc k) (e5 : MS = xMs k) : yGd G xrec xs E rec k 0 pc (yRet1 MC MS y_kJ n) := by
  intro ls st h m
  subst e4; subst e5
  refine y_pop_e (P := yTo G (xstep xrec xs k) k 0 (y_dx G pc ls st h m)) yTo_no (fun v r hs0 => ?_)
  subst hs0
  refine y_nil_e (P := yTo G (xstep xrec xs k) k 0 (y_dx G pc ls (v :: r) h m)) yTo_no (fun hs => ?_)
  subst hs
  cases hk : y_kJ v with
  | false => exact yTo_no
  | true =>
    rw [y_ift, y_m4_e]
    refine y_rm_e (P := yTo G (xstep xrec xs k) k 0 (y_dx G pc ls [v] h m)) yTo_no (fun g1 g2 => ?_)
    obtain ⟨x, hx⟩ := y_kJ_e (G := G) hk
    refine ⟨0, y_dx G pc ls [v] h m, (y_dx G pc ls [v] h m, none), Nat.le_refl 0, rfl, ?_, ?_⟩
    · unfold xstep y_dx
      dsimp only
      rw [hc]
    · refine xs_fin (c := y_dx G pc ls [v] h m) hc (by rw [hr]; rfl) g1 g2 ?_
      unfold xfin y_dx y_ds
      dsimp only [List.map]
      rw [hr, hx]
      show some (Sum.inl (some (Value.long x)), y_dw G h m) = some (Sum.inl (some (y_dec G v)), y_dw G h m)
      rw [hx]
theorem y_kZ_e {G : yG} {v : yV} (h : y_kZ v = true) : ∃ x : Int32, y_dec G v = .int x ∧ (decide (x = 0) || decide (x = 1)) = true := by
  rcases v with n | n | n | n | n | x
  · have hn : n ≤ 1 := Nat.le_of_ble_eq_true h
    have h2 : n = 0 ∨ n = 1 := by omega
    rcases h2 with rfl | rfl
    · exact ⟨_, rfl, by decide⟩
    · exact ⟨_, rfl, by decide⟩
  all_goals cases h
theorem g_retz {MC MS : Nat} (hc : xcode k pc = some (.ireturn, len, a, b)) (hr : xRet k = some .boolean) (e4 : MC = xMc k) (e5 : MS = xMs k) : yGd G xrec xs E rec k 0 pc (yRet1 MC MS y_kZ n) := by
  intro ls st h m
  subst e4; subst e5
  refine y_pop_e (P := yTo G (xstep xrec xs k) k 0 (y_dx G pc ls st h m)) yTo_no (fun v r hs0 => ?_)
  subst hs0
  refine y_nil_e (P := yTo G (xstep xrec xs k) k 0 (y_dx G pc ls (v :: r) h m)) yTo_no (fun hs => ?_)
  subst hs
  cases hk : y_kZ v with
  | false => exact yTo_no
  | true =>
    rw [y_ift, y_m4_e]
    refine y_rm_e (P := yTo G (xstep xrec xs k) k 0 (y_dx G pc ls [v] h m)) yTo_no (fun g1 g2 => ?_)
    obtain ⟨x, hx, hz⟩ := y_kZ_e (G := G) hk
    refine ⟨0, y_dx G pc ls [v] h m, (y_dx G pc ls [v] h m, none), Nat.le_refl 0, rfl, ?_, ?_⟩
    · unfold xstep y_dx
      dsimp only
      rw [hc]
    · refine xs_fin (c := y_dx G pc ls [v] h m) hc (by rw [hr]; rfl) g1 g2 ?_
      unfold xfin y_dx y_ds
      dsimp only [List.map]
      rw [hr, hx]
      show (bif decide (x = 0) || decide (x = 1) then some (Sum.inl (some (Value.int x)), y_dw G h m) else none) = some (Sum.inl (some (y_dec G v)), y_dw G h m)
      rw [hz, cond_true, hx]
theorem g_obj {ix : Nat} (hc : xcode k pc = some (.invokespecial ix, len, a, 2)) (hst : (Nat.ble 1 (xFr k) && Nat.ble 20 (xLo k)) = true) (hn : yGd G xrec xs E rec k N (pc + 3) n) : yGd G xrec xs E rec k (N + 1) pc (yObj n) := by
  intro ls st h m
  refine y_pop_e (P := yTo G (xstep xrec xs k) k (N + 1) (y_dx G pc ls st h m)) yTo_no (fun v r hs => ?_)
  subst hs
  cases hl : y_lw r with
  | false => exact yTo_no
  | true =>
    rw [y_ift]
    refine y_isR_e (P := yTo G (xstep xrec xs k) k (N + 1) (y_dx G pc ls (v :: r) h m)) yTo_no (fun q e => ?_)
    subst e
    refine yTo_step ?_ (hn ls r h m)
    obtain ⟨s1, s2⟩ := xand hst
    have h3 : Nat.ble (xcat (y_ds G r) + 12) (xLo k) = true := Nat.ble_eq_true_of_le (by have := y_lw_e (G := G) hl; have := xble s2; omega)
    show xstep xrec xs k (pc, y_dl G ls, Value.ref q :: y_ds G r, m.1, m.2.1, y_dw G h m) = some (.inl (pc + 3, y_dl G ls, y_ds G r, m.1, m.2.1, y_dw G h m))
    unfold xstep; dsimp only; rw [hc]; dsimp only; rw [s1, h3, Bool.and_self, cond_true]; (try rfl)
theorem g_alen (hc : xcode k pc = some (.arraylength, len, a, b)) (hn : yGd G xrec xs E rec k N (pc + 1) n) : yGd G xrec xs E rec k (N + 1) pc (yAlen n) := by
  intro ls st h m
  refine y_pop_e (P := yTo G (xstep xrec xs k) k (N + 1) (y_dx G pc ls st h m)) yTo_no (fun v r hs => ?_)
  subst hs
  refine y_isR_e (P := yTo G (xstep xrec xs k) k (N + 1) (y_dx G pc ls (v :: r) h m)) yTo_no (fun q e => ?_)
  subst e
  refine y_at_e (P := yTo G (xstep xrec xs k) k (N + 1) (y_dx G pc ls (y_r q :: r) h m)) yTo_no (fun t l s hq hm hg => ?_)
  cases ht : Nat.ble (nat_lit 100) t with
  | false => exact yTo_no
  | true =>
    rw [y_ift]
    refine yTo_step ?_ (hn ls (y_i l :: r) h m)
    have h1 : xnth (y_dw G h m).2 q = some (t, y_sl G l s) := by
      show xnth (y_dh G m.2.2.2 h) q = _
      rw [y_dh_at hq, hg]
      rfl
    show xstep xrec xs k (pc, y_dl G ls, Value.ref q :: y_ds G r, m.1, m.2.1, y_dw G h m) = some (.inl (pc + 1, y_dl G ls, Value.int (Int32.ofNat l) :: y_ds G r, m.1, m.2.1, y_dw G h m))
    unfold xstep; dsimp only; rw [hc]; dsimp only; rw [h1]; dsimp only
    rw [show Nat.ble 100 t = true from ht, cond_true, y_sl_len]
theorem g_thr {MC MS ix : Nat} (hb : 0 < b) (hc : xcode k pc = some (.new ix, len, a, b)) (hst : (Nat.ble 6 (xFr k) && Nat.ble 90 (xLo k)) = true) (e4 : MC = xMc k) (e5 : MS = xMs k) : yGd G xrec xs E rec k 0 pc (yThr MC MS a n) := by
  intro ls st h m
  subst e4; subst e5
  cases hl : y_lw st with
  | false => show yTo G (xstep xrec xs k) k 0 _ (y_if (y_lw st) _ none); rw [hl]; exact yTo_no
  | true =>
    show yTo G (xstep xrec xs k) k 0 _ (y_if (y_lw st) (y_m4 m (fun cu su _ _ => y_rm (nat_lit 1) (nat_lit 6) (xMc k) (xMs k) cu su (some (.inr (.inr (a, h, m)))))) none)
    rw [hl, y_ift, y_m4_e]
    refine y_rm_e (P := yTo G (xstep xrec xs k) k 0 (y_dx G pc ls st h m)) yTo_no (fun g1 g2 => ?_)
    obtain ⟨s1, s2⟩ := xand hst
    have h3 : Nat.ble (xcat (y_ds G st) + 82) (xLo k) = true := Nat.ble_eq_true_of_le (by have := y_lw_e (G := G) hl; have := xble s2; omega)
    refine ⟨0, y_dx G pc ls st h m, (y_dx G pc ls st h m, some a), Nat.le_refl 0, rfl, ?_, ?_⟩
    · obtain ⟨b', rfl⟩ : ∃ b', b = b' + 1 := ⟨b - 1, by omega⟩
      show xstep xrec xs k (pc, y_dl G ls, y_ds G st, m.1, m.2.1, y_dw G h m) = some (.inr ((pc, y_dl G ls, y_ds G st, m.1, m.2.1, y_dw G h m), some a))
      unfold xstep; dsimp only; rw [hc]; dsimp only
      rw [s1, h3, show Nat.ble (m.1 + 1) (xMc k) = true from Nat.ble_eq_true_of_le g1, show Nat.ble (m.2.1 + 6) (xMs k) = true from Nat.ble_eq_true_of_le g2]
      rfl
    · unfold xfin2 y_dx
      dsimp only
      rw [show Nat.ble m.1 (xMc k) = true from Nat.ble_eq_true_of_le (by omega), show Nat.ble m.2.1 (xMs k) = true from Nat.ble_eq_true_of_le (by omega)]
      rfl
end YST
end
section
/-! Steps counted, and 2 ^ n steps. -/
theorem xpow_split {f : XC → XS} : ∀ (a b : Nat) (c c1 : XC), xpow f (a + b) c c1 → ∃ c', xpow f a c c' ∧ xpow f b c' c1
  | 0, b, c, c1, h => ⟨c, rfl, by rw [Nat.zero_add] at h; exact h⟩
  | a + 1, b, c, c1, h => by
    rw [show a + 1 + b = (a + b) + 1 by omega] at h
    obtain ⟨c2, h1, h2⟩ := h
    obtain ⟨c', h3, h4⟩ := xpow_split a b c2 c1 h2
    exact ⟨c', ⟨c2, h1, h3⟩, h4⟩
theorem xpow_join {f : XC → XS} : ∀ (a b : Nat) (c c' c1 : XC), xpow f a c c' → xpow f b c' c1 → xpow f (a + b) c c1
  | 0, b, c, c', c1, h, h2 => by
    have h : c = c' := h
    subst h
    rw [Nat.zero_add]
    exact h2
  | a + 1, b, c, c', c1, h, h2 => by
    obtain ⟨c2, h1, h3⟩ := h
    rw [show a + 1 + b = (a + b) + 1 by omega]
    exact ⟨c2, h1, xpow_join a b c2 c' c1 h3 h2⟩
theorem xit_inl {f : XC → XS} : ∀ (m : Nat) (c c' : XC), xpow f (2 ^ m) c c' → xit f m c = some (.inl c')
  | 0, c, c', h => by
    obtain ⟨c1, h1, h2⟩ := (show ∃ c1, f c = some (.inl c1) ∧ xpow f 0 c1 c' from h)
    have h2 : c1 = c' := h2
    subst h2
    exact h1
  | m + 1, c, c', h => by
    rw [show 2 ^ (m + 1) = 2 ^ m + 2 ^ m by rw [Nat.pow_succ]; omega] at h
    obtain ⟨c2, h1, h2⟩ := xpow_split _ _ _ _ h
    unfold xit
    rw [xit_inl m c c2 h1]
    exact xit_inl m c2 c' h2
theorem xit_inr {f : XC → XS} {z : XC × Option Nat} : ∀ (m n : Nat) (c c1 : XC), n < 2 ^ m → xpow f n c c1 → f c1 = some (.inr z) → xit f m c = some (.inr z)
  | 0, n, c, c1, hn, h, hz => by
    have h0 : n = 0 := by simp at hn; omega
    subst h0
    have h : c = c1 := h
    subst h
    exact hz
  | m + 1, n, c, c1, hn, h, hz => by
    unfold xit
    by_cases hl : n < 2 ^ m
    · rw [xit_inr m n c c1 hl h hz]
    · obtain ⟨c2, h1, h2⟩ := xpow_split (2 ^ m) (n - 2 ^ m) c c1 (by rw [show 2 ^ m + (n - 2 ^ m) = n by omega]; exact h)
      rw [xit_inl m c c2 h1]
      exact xit_inr m (n - 2 ^ m) c2 c1 (by rw [Nat.pow_succ] at hn; omega) h2 hz
end
section
/-! A frame of the fast machine, block by block. -/
theorem yTo_mono {G : yG} {f : XC → XS} {k N M : Nat} {c : XC} {r : yR} (hNM : N ≤ M) (h : yTo G f k N c r) : yTo G f k M c r := by
  unfold yTo at h ⊢
  split at h
  · trivial
  · obtain ⟨n, hn, h1⟩ := h
    exact ⟨n, by omega, h1⟩
  · obtain ⟨n, c1, z, hn, h1⟩ := h
    exact ⟨n, c1, z, by omega, h1⟩
  · obtain ⟨n, c1, z, hn, h1⟩ := h
    exact ⟨n, c1, z, by omega, h1⟩
theorem yTo_pow {G : yG} {f : XC → XS} {k N j : Nat} {c c' : XC} {r : yR} (hp : xpow f j c c') (h : yTo G f k N c' r) : yTo G f k (j + N) c r := by
  unfold yTo at h ⊢
  split at h
  · trivial
  · obtain ⟨n, hn, h1⟩ := h
    exact ⟨j + n, by omega, xpow_join _ _ _ _ _ hp h1⟩
  · obtain ⟨n, c1, z, hn, h1, h2⟩ := h
    exact ⟨j + n, c1, z, by omega, xpow_join _ _ _ _ _ hp h1, h2⟩
  · obtain ⟨n, c1, z, hn, h1, h2⟩ := h
    exact ⟨j + n, c1, z, by omega, xpow_join _ _ _ _ _ hp h1, h2⟩
theorem y_it_e {G : yG} {xrec : Nat → List Value → XW → Option (XO × XW)} {xs : List Int32} {E : yE} {rec : yCl} {k : Nat} {B : Nat → yKK} (hB : ∀ t, yGd G xrec xs E rec k 63 t (B t)) : ∀ (fuel t : Nat) (ls : yL) (st : yS) (h : yH) (m : yM), yTo G (xstep xrec xs k) k (fuel * 63) (y_dx G t ls st h m) (y_it B E rec fuel t ls st h m)
  | 0, t, ls, st, h, m => ⟨0, Nat.zero_le _, rfl⟩
  | fuel + 1, t, ls, st, h, m => by
    have h1 := hB t ls st h m
    show yTo G (xstep xrec xs k) k ((fuel + 1) * 63) (y_dx G t ls st h m) (y_blk B E rec fuel (y_it B E rec fuel) t ls st h m)
    unfold y_blk
    generalize B t E rec ls st h m = r at h1
    rcases r with _ | (⟨t', ls', st', h', m'⟩ | x)
    · exact yTo_no
    · obtain ⟨n, hn, hp⟩ := h1
      have h2 := yTo_pow hp (y_it_e hB fuel t' ls' st' h' m')
      exact yTo_mono (by omega) h2
    · have h2 : yTo G (xstep xrec xs k) k ((fuel + 1) * 63) (y_dx G t ls st h m) (some (.inr x)) := yTo_mono (by omega) h1
      exact h2
end
section
/-! The rest of the fast machine's instructions: switches, the script, characters, rows of references, copies, other values. -/
theorem y_nth_e {α : Type} (d : α) : ∀ (l : List α) (n : Nat), y_nth d l n = l.getD n d
  | [], n => rfl
  | a :: l, 0 => rfl
  | a :: l, n + 1 => by
    rw [y_nth_s, y_nth_e d l n]
    rfl
theorem y_lk_e (l : yS) (j : Nat) : y_lk l j = l[j]? := by
  have h : @List.rec yV (fun _ => List (Option yV)) [] (fun a _ ih => some a :: ih) l = l.map some := by
    induction l with
    | nil => rfl
    | cons a r ih =>
      show some a :: _ = some a :: _
      rw [ih]
  unfold y_lk
  rw [h, y_nth_e, List.getD_eq_getElem?_getD, List.getElem?_map]
  cases l[j]? with
  | none => rfl
  | some x => rfl
theorem y_fs_e (l : List (Nat × Nat × Nat × Bool)) (a : Nat) : ∀ (n j : Nat), y_fs l a n = some j → j < n ∧ y_o3 l 0 a (y_cn j) = some true
  | 0, j, h => by cases h
  | n + 1, j, h => by
    have h : @Option.rec _ (fun _ => Option Nat) (y_fs l a n) (fun b => y_if b (some n) (y_fs l a n)) (y_o3 l (nat_lit 0) a (y_cn n)) = some j := h
    cases hq : y_o3 l (nat_lit 0) a (y_cn n) with
    | none =>
      rw [hq] at h
      have := y_fs_e l a n j h
      exact ⟨by omega, this.2⟩
    | some b =>
      rw [hq] at h
      cases b with
      | true =>
        have h : some n = some j := h
        cases h
        exact ⟨by omega, hq⟩
      | false =>
        have := y_fs_e l a n j h
        exact ⟨by omega, this.2⟩
theorem y_tsw_e (pc a nl : Nat) (ls : XL) (r : List Value) (d hi : Int) (offs : Array Int) (ts : List Nat) (dd x : Nat) (hx : x < 4294967296) (hts : ts = offs.toList.map (fun o => ((pc : Int) + o).toNat)) (hoff : offs.toList.all (fun o => decide (0 ≤ (pc : Int) + o)) = true) (hd : 0 ≤ (pc : Int) + d ∧ ((pc : Int) + d).toNat = dd) (hn : (offs.size : Int) = hi + 1) (hs : offs.size ≤ 4096) : xop (.tableswitch d 0 hi offs) pc a nl ls (.int (Int32.ofNat x) :: r) = some (y_nth dd ts x, ls, r) := by
  have hti := y_ti32 x
  generalize Int32.ofNat x = w at hti
  show (if w.toInt < 0 ∨ hi < w.toInt then (if 0 ≤ (pc : Int) + d then some (((pc : Int) + d).toNat, ls, r) else none) else (match offs[(w.toInt - 0).toNat]? with | some o => (if 0 ≤ (pc : Int) + o then some (((pc : Int) + o).toNat, ls, r) else none) | none => none)) = _
  rw [y_nth_e, List.getD_eq_getElem?_getD]
  by_cases hin : w.toInt < 0 ∨ hi < w.toInt
  · rw [if_pos hin, if_pos hd.1, hd.2]
    have hge : offs.toList.length ≤ x := by rw [Array.length_toList]; omega
    have : ts[x]? = none := by rw [hts, List.getElem?_map, List.getElem?_eq_none hge]; rfl
    rw [this]
    rfl
  · rw [if_neg hin]
    have hw : (w.toInt - 0).toNat = x := by omega
    have hlt : x < offs.size := by omega
    rw [hw, Array.getElem?_eq_getElem hlt]
    dsimp only
    have hm : offs[x] ∈ offs.toList := by rw [← Array.getElem_toList]; exact List.getElem_mem _
    have hp := of_decide_eq_true (List.all_eq_true.mp hoff _ hm)
    rw [if_pos hp]
    have : ts[x]? = some (((pc : Int) + offs[x]).toNat) := by
      rw [hts, List.getElem?_map, List.getElem?_eq_getElem (by rw [Array.length_toList]; exact hlt), Array.getElem_toList]
      rfl
    rw [this]
    rfl
theorem y_all_e {ok : yV → Bool} : ∀ (d : Nat) (t : yT), y_all ok d t = true → ∀ i, i < 2 ^ d → ok (y_get d y_z t i) = true
  | 0, .leaf x, h, i, _ => h
  | 0, .branch _ _ _, h, i, _ => by cases h
  | d + 1, .leaf x, h, i, _ => by cases h
  | d + 1, .branch p x y, h, i, hi => by
    have hh : y_hf i < 2 ^ d := by show i / 2 < 2 ^ d; rw [Nat.pow_succ] at hi; omega
    have h : y_if (y_all ok d x) (y_all ok d y) false = true := h
    cases hx : y_all ok d x with
    | false => rw [hx] at h; cases h
    | true =>
      rw [hx, y_ift] at h
      show ok (@Bool.rec (fun _ => yV) (y_get d y_z y (y_hf i)) (y_get d y_z x (y_hf i)) (y_ev i)) = true
      cases y_ev i with
      | true => exact y_all_e d x hx _ hh
      | false => exact y_all_e d y h _ hh
theorem y_cp_e {d0 d1 : Nat} {s0 : yT} {P : yR → Prop} (h0 : P none) : ∀ (n i j : Nat) (t : yT) (k : yT → yR), j + n ≤ 2 ^ d1 → (∀ t', (∀ q, q < 2 ^ d1 → y_get d1 y_z t' q = if j ≤ q ∧ q < j + n then y_get d0 y_z s0 (i + (q - j)) else y_get d1 y_z t q) → P (k t')) → P (y_cp d0 s0 d1 n i j t k)
  | 0, i, j, t, k, _, hk => hk t (fun q _ => by rw [if_neg (by omega)])
  | n + 1, i, j, t, k, hj, hk => by
    show P (y_set d1 t j (y_get d0 y_z s0 i) (fun t => y_cp d0 s0 d1 n (Nat.succ i) (Nat.succ j) t k) none)
    refine y_set_e y_z d1 t j _ _ _ (by omega) h0 (fun t1 ht1 => ?_)
    refine y_cp_e h0 n (i + 1) (j + 1) t1 k (by omega) (fun t' ht' => hk t' (fun q hq => ?_))
    rw [ht' q hq, ht1 q hq]
    by_cases h1 : q = j
    · subst h1
      rw [if_neg (by omega), if_pos rfl, if_pos (by omega), Nat.sub_self]
      rfl
    · rw [if_neg h1]
      by_cases h2 : j + 1 ≤ q ∧ q < j + 1 + n
      · rw [if_pos h2, if_pos (by omega)]
        congr 1
        omega
      · rw [if_neg h2, if_neg (by omega)]
theorem y_nn32 {i : Nat} (h : i ≤ 4096) : ¬ Int32.ofNat i < 0 := by
  intro hn
  rw [Int32.lt_iff_toInt_lt, Int32.toInt_ofNat_of_lt (by omega)] at hn
  have h0 : (0 : Int32).toInt = 0 := by decide
  rw [h0] at hn
  omega
theorem y_tn32 {i : Nat} (h : i ≤ 4096) : (Int32.ofNat i).toNatClampNeg = i := Int32.toNatClampNeg_ofNat_of_lt (by omega)
theorem y_sc_e {P : yR → Prop} {v : yV} {k : yR} (h0 : P none) (h : ∀ q, v = y_v (.retAddr q) → P k) : P (y_sc v k) := by
  refine y_bd_e (P := P) (fun _ _ => h0) (fun _ _ => h0) (fun _ _ => h0) (fun _ _ => h0) (fun _ _ => h0) (fun x e => y_if_e (P := P) (fun hb => ?_) (fun _ => h0))
  cases x with
  | retAddr q => exact h q e
  | _ => cases hb
section YST
variable {G : yG} {xrec : Nat → List Value → XW → Option (XO × XW)} {xs : List Int32} {E : yE} {rec : yCl} {k N pc pc' len a b : Nat} {i : Instr} {n : yKK}
theorem y_oor_e {x nn : Nat} (hE : yOk G xs E) (h : y_oor E.2.2 x nn = true) (hn : nn ≤ 4096) : (G.1 x).toInt < 0 ∨ (nn : Int) ≤ (G.1 x).toInt := by
  have h : @Option.rec _ (fun _ => Bool) false (fun b => y_if b true (@Option.rec _ (fun _ => Bool) false (fun b => b) (y_o3 E.2.2 (nat_lit 3) (y_cs x) (y_cn nn)))) (y_o3 E.2.2 (nat_lit 2) (y_cs x) (nat_lit 0)) = true := h
  cases h1 : y_o3 E.2.2 (nat_lit 2) (y_cs x) (nat_lit 0) with
  | none => rw [h1] at h; cases h
  | some b =>
    rw [h1] at h
    have h : y_if b true (@Option.rec _ (fun _ => Bool) false (fun b => b) (y_o3 E.2.2 (nat_lit 3) (y_cs x) (y_cn nn))) = true := h
    cases b with
    | true =>
      have h2 := hE.2.1 _ _ _ _ h1
      rw [y_vi_s, show y_vi G 0 = 0 from rfl] at h2
      have h2 : G.1 x < 0 := of_decide_eq_true h2
      rw [Int32.lt_iff_toInt_lt, show (0 : Int32).toInt = 0 from by decide] at h2
      exact Or.inl h2
    | false =>
      rw [y_iff] at h
      cases h3 : y_o3 E.2.2 (nat_lit 3) (y_cs x) (y_cn nn) with
      | none => rw [h3] at h; cases h
      | some b =>
        rw [h3] at h
        have h : b = true := h
        subst h
        have h2 := hE.2.1 _ _ _ _ h3
        rw [y_vi_s, y_vi_n] at h2
        have h2 : Int32.ofNat nn ≤ G.1 x := of_decide_eq_true h2
        rw [Int32.le_iff_toInt_le, Int32.toInt_ofNat_of_lt (by omega)] at h2
        exact Or.inr h2
theorem g_tsw {ts : List Nat} {dd : Nat} {d hi : Int} {offs : Array Int} (hE : yOk G xs E) (hc : xcode k pc = some (.tableswitch d 0 hi offs, len, a, b)) (hts : ts = offs.toList.map (fun o => ((pc : Int) + o).toNat)) (hoff : offs.toList.all (fun o => decide (0 ≤ (pc : Int) + o)) = true) (hd : 0 ≤ (pc : Int) + d ∧ ((pc : Int) + d).toNat = dd) (hn : (offs.size : Int) = hi + 1) (hs : offs.size ≤ 4096) : yGd G xrec xs E rec k 1 pc (yTsw ts dd n) := by
  intro ls st h m
  refine y_pop_e yTo_no (fun v r hst => ?_)
  subst hst
  refine y_bd_e (fun x e => ?_) (fun _ _ => yTo_no) (fun _ _ => yTo_no) (fun x e => ?_) (fun _ _ => yTo_no) (fun _ _ => yTo_no)
  · subst e
    cases hx : Nat.blt x (nat_lit 4294967296) with
    | false => exact yTo_no
    | true =>
      have hx : x < 4294967296 := Nat.le_of_ble_eq_true hx
      rw [y_ift]
      exact yTo_op (N := 0) (ls' := ls) (st' := r) hc rfl (y_tsw_e pc a _ _ _ d hi offs ts dd x hx hts hoff hd hn hs) ⟨0, Nat.le_refl 0, rfl⟩
  · subst e
    cases hoo : y_oor E.2.2 x (List.length ts) with
    | true =>
      rw [y_ift]
      have hl : ts.length = offs.size := by rw [hts, List.length_map, Array.length_toList]
      have hx := y_oor_e hE hoo (by omega)
      rw [hl] at hx
      refine yTo_op (N := 0) (ls' := ls) (st' := r) (pc' := dd) hc rfl ?_ ⟨0, Nat.le_refl 0, rfl⟩
      show (if (G.1 x).toInt < 0 ∨ hi < (G.1 x).toInt then (if 0 ≤ (pc : Int) + d then some (((pc : Int) + d).toNat, y_dl G ls, y_ds G r) else none) else _) = some (dd, y_dl G ls, y_ds G r)
      rw [if_pos (by omega), if_pos hd.1, hd.2]
    | false =>
    rw [y_iff]
    refine y_on_e yTo_no (fun j hj => ?_)
    obtain ⟨hj1, hj2⟩ := y_fs_e _ _ _ _ hj
    have hj1 : j < 64 := hj1
    have h1 := hE.2.1 _ _ _ _ hj2
    rw [y_vi_s, y_vi_n] at h1
    have h1 : G.1 x = Int32.ofNat j := of_decide_eq_true h1
    refine yTo_op (N := 0) (ls' := ls) (st' := r) (pc' := y_nth dd ts j) hc rfl ?_ ⟨0, Nat.le_refl 0, rfl⟩
    show xop _ pc a (xNl k) (y_dl G ls) (.int (G.1 x) :: y_ds G r) = _
    rw [h1]
    exact y_tsw_e pc a _ _ _ d hi offs ts dd j (by omega) hts hoff hd hn hs
theorem g_slen (hE : yOk G xs E) (hc : xcode k pc = some (.arraylength, len, a, b)) (hn : yGd G xrec xs E rec k N (pc + 1) n) : yGd G xrec xs E rec k (N + 1) pc (ySlen n) := by
  intro ls st h m
  refine y_pop_e yTo_no (fun v r hst => ?_)
  subst hst
  refine y_sc_e (P := yTo G (xstep xrec xs k) k (N + 1) (y_dx G pc ls (v :: r) h m)) yTo_no (fun q e => y_on_e yTo_no (fun x hx => ?_))
  subst e
  have h1 := hE.2.2.1 x hx
  refine yTo_step ?_ (hn ls (x :: r) h m)
  show xstep xrec xs k (pc, y_dl G ls, Value.retAddr q :: y_ds G r, m.1, m.2.1, y_dw G h m) = some (.inl (pc + 1, y_dl G ls, y_dec G x :: y_ds G r, m.1, m.2.1, y_dw G h m))
  rw [h1]
  unfold xstep; dsimp only; rw [hc]
theorem g_sld (hE : yOk G xs E) (hc : xcode k pc = some (.iaload, len, a, b)) (hn : yGd G xrec xs E rec k N (pc + 1) n) : yGd G xrec xs E rec k (N + 1) pc (ySld n) := by
  intro ls st h m
  refine y_pop_e yTo_no (fun v r hst => y_pop_e yTo_no (fun u r2 hst2 => ?_))
  subst hst2; subst hst
  refine y_isI_e yTo_no (fun j e1 => ?_)
  subst e1
  refine y_sc_e (P := yTo G (xstep xrec xs k) k (N + 1) (y_dx G pc ls (y_i j :: u :: r2) h m)) yTo_no (fun q e => y_on_e yTo_no (fun x hx => ?_))
  subst e
  obtain ⟨w, hw, h1⟩ := hE.2.2.2.1 j x hx
  have hlt : j < xs.length := (List.getElem?_eq_some_iff.mp hw).1
  have hl : xs.length ≤ 4096 := hE.2.2.2.2.2
  refine yTo_step ?_ (hn ls (x :: r2) h m)
  show xstep xrec xs k (pc, y_dl G ls, Value.int (Int32.ofNat j) :: Value.retAddr q :: y_ds G r2, m.1, m.2.1, y_dw G h m) = some (.inl (pc + 1, y_dl G ls, y_dec G x :: y_ds G r2, m.1, m.2.1, y_dw G h m))
  rw [h1]
  unfold xstep; dsimp only; rw [hc]; dsimp only
  rw [y_xin hlt hl, cond_true, y_tnc hlt hl, xnth_eq, hw]
theorem xs_cast {q cu su : Nat} {ls : XL} {r fs : List Value} {σ : XW} {j v : Int32} {rec0 : Nat → List Value → XW → Option (XO × XW)} (hc : xcode k pc = some (.castore, len, a, b)) (h1 : xnth σ.2 q = some (102, fs)) (hj : xin j fs.length = true) (hv : decide (narrow .char (.int v) = .int v) = true) : xstep rec0 xs k (pc, ls, .int v :: .int j :: .ref q :: r, cu, su, σ) = some (.inl (pc + 1, ls, r, cu, su, (σ.1, σ.2.set q (102, fs.set j.toNatClampNeg (.int v))))) := by
  unfold xstep; dsimp only; rw [hc]; dsimp only; rw [h1]; dsimp only
  rw [Nat.beq_refl, hj, hv, Bool.and_self, Bool.and_self, cond_true]
theorem y_char {x : Nat} (h : x < 65536) : decide (narrow .char (.int (Int32.ofNat x)) = .int (Int32.ofNat x)) = true := by
  apply decide_eq_true
  have h1 := pk_nc (Int32.ofNat x)
  rw [y_i2c_e, Nat.mod_eq_of_lt h] at h1
  exact h1
theorem g_cast (hE : yOk G xs E) (hc : xcode k pc = some (.castore, len, a, b)) (hn : yGd G xrec xs E rec k N (pc + 1) n) : yGd G xrec xs E rec k (N + 1) pc (yCast n) := by
  intro ls st h m
  refine y_pop_e yTo_no (fun x r0 hs0 => y_pop_e yTo_no (fun v r hs1 => y_pop_e yTo_no (fun u r2 hs2 => ?_)))
  subst hs2; subst hs1; subst hs0
  refine y_isI_e yTo_no (fun j e1 => y_isR_e yTo_no (fun q e2 => ?_))
  subst e1; subst e2
  refine y_at_e (P := yTo G (xstep xrec xs k) k (N + 1) (y_dx G pc ls (x :: y_i j :: y_r q :: r2) h m)) yTo_no (fun t l s hq hm hg => ?_)
  refine y_bq_e (P := yTo G (xstep xrec xs k) k (N + 1) (y_dx G pc ls (x :: y_i j :: y_r q :: r2) h m)) yTo_no (fun ht => ?_)
  refine y_ix_e (P := yTo G (xstep xrec xs k) k (N + 1) (y_dx G pc ls (x :: y_i j :: y_r q :: r2) h m)) yTo_no (fun hb hl => ?_)
  subst ht
  generalize hok : (y_bd x (fun a => Nat.blt a (nat_lit 65536)) (fun _ => false) (fun _ => false) (fun k => @Option.rec _ (fun _ => Bool) false (fun b => b) (y_o3 E.2.2 (nat_lit 20) (y_cs k) (nat_lit 0))) (fun _ => false) (fun _ => false)) = ok
  cases ok with
  | false => exact yTo_no
  | true =>
    have hx : ∃ w : Int32, y_dec G x = .int w ∧ decide (narrow .char (.int w) = .int w) = true := by
      rcases x with x | x | x | x | x | x
      · exact ⟨_, rfl, y_char (Nat.le_of_ble_eq_true hok)⟩
      · cases hok
      · cases hok
      · have hok : @Option.rec _ (fun _ => Bool) false (fun b => b) (y_o3 E.2.2 (nat_lit 20) (y_cs x) (nat_lit 0)) = true := hok
        cases hq : y_o3 E.2.2 (nat_lit 20) (y_cs x) (nat_lit 0) with
        | none => rw [hq] at hok; cases hok
        | some bb =>
          rw [hq] at hok
          have hok : bb = true := hok
          subst hok
          have h1 := hE.2.1 _ _ _ _ hq
          rw [y_vi_s] at h1
          exact ⟨_, rfl, h1⟩
      · cases hok
      · cases hok
    obtain ⟨w, hw, hw2⟩ := hx
    rw [y_ift]
    refine y_set_e y_z _ s j x _ _ (y_dp_lt hb hl) yTo_no (fun s' hs' => ?_)
    refine y_set_e y_no _ h q (nat_lit 102, l, s') _ _ (Nat.lt_of_lt_of_le hq hm) yTo_no (fun h' hh' => ?_)
    refine yTo_step ?_ (hn ls r2 h' m)
    have h1 : xnth (y_dw G h m).2 q = some (102, y_sl G l s) := by
      show xnth (y_dh G m.2.2.2 h) q = _
      rw [y_dh_at hq, hg]
      rfl
    have h2 : y_dw G h' m = ((y_dw G h m).1, (y_dw G h m).2.set q (102, (y_sl G l s).set (Int32.ofNat j).toNatClampNeg (.int w))) := by
      show (m.2.2.1, y_dh G m.2.2.2 h') = (m.2.2.1, (y_dh G m.2.2.2 h).set q (102, (y_sl G l s).set (Int32.ofNat j).toNatClampNeg (.int w)))
      rw [y_dh_set hm hh', y_tnc hb hl, ← hw, ← y_sl_set hl hs']
      rfl
    show xstep xrec xs k (pc, y_dl G ls, y_dec G x :: Value.int (Int32.ofNat j) :: Value.ref q :: y_ds G r2, m.1, m.2.1, y_dw G h m) = some (.inl (pc + 1, y_dl G ls, y_ds G r2, m.1, m.2.1, y_dw G h' m))
    rw [h2, hw]
    exact xs_cast hc h1 (by rw [y_sl_len]; exact y_xin hb hl) hw2
theorem xs_aast {q p cu su : Nat} {ls : XL} {r fs gs : List Value} {σ : XW} {j : Int32} {rec0 : Nat → List Value → XW → Option (XO × XW)} (hc : xcode k pc = some (.aastore, len, a, b)) (h1 : xnth σ.2 q = some (103, fs)) (hj : xin j fs.length = true) (h6 : xnth σ.2 p = some (6, gs)) : xstep rec0 xs k (pc, ls, .ref p :: .int j :: .ref q :: r, cu, su, σ) = some (.inl (pc + 1, ls, r, cu, su, (σ.1, σ.2.set q (103, fs.set j.toNatClampNeg (.ref p))))) := by
  unfold xstep; dsimp only; rw [hc]; dsimp only; rw [h1]; dsimp only
  rw [Nat.beq_refl, hj, Bool.and_self, cond_true, h6]
  dsimp only
  rw [Nat.beq_refl, cond_true]
theorem g_aast (hc : xcode k pc = some (.aastore, len, a, b)) (hn : yGd G xrec xs E rec k N (pc + 1) n) : yGd G xrec xs E rec k (N + 1) pc (yAast n) := by
  intro ls st h m
  refine y_pop_e yTo_no (fun x r0 hs0 => y_pop_e yTo_no (fun v r hs1 => y_pop_e yTo_no (fun u r2 hs2 => ?_)))
  subst hs2; subst hs1; subst hs0
  refine y_isI_e yTo_no (fun j e1 => y_isR_e yTo_no (fun q e2 => y_isR_e yTo_no (fun p e3 => ?_)))
  subst e1; subst e2; subst e3
  refine y_at_e (P := yTo G (xstep xrec xs k) k (N + 1) (y_dx G pc ls (y_r p :: y_i j :: y_r q :: r2) h m)) yTo_no (fun t6 l6 s6 hp6 hm6 hg6 => ?_)
  refine y_bq_e (P := yTo G (xstep xrec xs k) k (N + 1) (y_dx G pc ls (y_r p :: y_i j :: y_r q :: r2) h m)) yTo_no (fun ht6 => ?_)
  refine y_at_e (P := yTo G (xstep xrec xs k) k (N + 1) (y_dx G pc ls (y_r p :: y_i j :: y_r q :: r2) h m)) yTo_no (fun t l s hq hm hg => ?_)
  refine y_bq_e (P := yTo G (xstep xrec xs k) k (N + 1) (y_dx G pc ls (y_r p :: y_i j :: y_r q :: r2) h m)) yTo_no (fun ht => ?_)
  refine y_ix_e (P := yTo G (xstep xrec xs k) k (N + 1) (y_dx G pc ls (y_r p :: y_i j :: y_r q :: r2) h m)) yTo_no (fun hb hl => ?_)
  subst ht; subst ht6
  refine y_set_e y_z _ s j (y_r p) _ _ (y_dp_lt hb hl) yTo_no (fun s' hs' => ?_)
  refine y_set_e y_no _ h q (nat_lit 103, l, s') _ _ (Nat.lt_of_lt_of_le hq hm) yTo_no (fun h' hh' => ?_)
  refine yTo_step ?_ (hn ls r2 h' m)
  have h1 : xnth (y_dw G h m).2 q = some (103, y_sl G l s) := by
    show xnth (y_dh G m.2.2.2 h) q = _
    rw [y_dh_at hq, hg]
    rfl
  have h6 : xnth (y_dw G h m).2 p = some (6, y_sl G l6 s6) := by
    show xnth (y_dh G m.2.2.2 h) p = _
    rw [y_dh_at hp6, hg6]
    rfl
  have h2 : y_dw G h' m = ((y_dw G h m).1, (y_dw G h m).2.set q (103, (y_sl G l s).set (Int32.ofNat j).toNatClampNeg (.ref p))) := by
    show (m.2.2.1, y_dh G m.2.2.2 h') = (m.2.2.1, (y_dh G m.2.2.2 h).set q (103, (y_sl G l s).set (Int32.ofNat j).toNatClampNeg (y_dec G (y_r p))))
    rw [y_dh_set hm hh', y_tnc hb hl, ← y_sl_set hl hs']
    rfl
  show xstep xrec xs k (pc, y_dl G ls, Value.ref p :: Value.int (Int32.ofNat j) :: Value.ref q :: y_ds G r2, m.1, m.2.1, y_dw G h m) = some (.inl (pc + 1, y_dl G ls, y_ds G r2, m.1, m.2.1, y_dw G h' m))
  rw [h2]
  exact xs_aast hc h1 (by rw [y_sl_len]; exact y_xin hb hl) h6
end YST
end
section
/-! Copies and values of other kinds. -/
theorem y_ck_e {G : yG} {t : Nat} {v : yV} (h : y_ck t v = true) : (∃ x, y_dec G v = .int x ∧ t = 100) ∨ (∃ x, y_dec G v = .long x ∧ t = 101) := by
  unfold y_ck at h
  cases h1 : Nat.beq t (nat_lit 100) with
  | true =>
    rw [h1, y_ift] at h
    obtain ⟨x, hx⟩ := y_kI_e (G := G) h
    exact Or.inl ⟨x, hx, Nat.eq_of_beq_eq_true h1⟩
  | false =>
    rw [h1, y_iff] at h
    cases h2 : Nat.beq t (nat_lit 101) with
    | true =>
      rw [h2, y_ift] at h
      obtain ⟨x, hx⟩ := y_kJ_e (G := G) h
      exact Or.inr ⟨x, hx, Nat.eq_of_beq_eq_true h2⟩
    | false => rw [h2] at h; cases h
theorem y_xfa {G : yG} {t l : Nat} {s : yT} (hl : l ≤ 4096) (h : y_all (y_ck t) (y_dp l) s = true) : xfa t (y_sl G l s) = true := by
  unfold xfa
  refine List.all_eq_true.mpr (fun v hv => ?_)
  unfold y_sl at hv
  obtain ⟨i, hi, rfl⟩ := List.mem_map.mp hv
  have hi := List.mem_range.mp hi
  have h1 := y_all_e _ _ h i (y_dp_lt hi hl)
  rcases y_ck_e (G := G) h1 with ⟨x, hx, ht⟩ | ⟨x, hx, ht⟩
  · rw [hx, ht]; rfl
  · rw [hx, ht]; rfl
theorem y_ck_t {G : yG} {t l : Nat} {s : yT} (h0 : 0 < l) (hl : l ≤ 4096) (h : y_all (y_ck t) (y_dp l) s = true) : 100 ≤ t := by
  have h1 := y_all_e _ _ h 0 (y_dp_lt h0 hl)
  rcases y_ck_e (G := G) h1 with ⟨x, hx, ht⟩ | ⟨x, hx, ht⟩ <;> omega
theorem y_sl_cpy {G : yG} {l0 l1 i j c : Nat} {s0 s1 s' : yT} (hl0 : l0 ≤ 4096) (hl1 : l1 ≤ 4096) (hi : i + c ≤ l0) (hj : j + c ≤ l1) (h : ∀ q, q < l1 → y_get (y_dp l1) y_z s' q = if j ≤ q ∧ q < j + c then y_get (y_dp l0) y_z s0 (i + (q - j)) else y_get (y_dp l1) y_z s1 q) : y_sl G l1 s' = xcpy (y_sl G l0 s0) (y_sl G l1 s1) i j c := by
  apply List.ext_getElem?
  intro q
  rw [xcpy_at (by rw [y_sl_len]; exact hi) (by rw [y_sl_len]; exact hj)]
  by_cases hq : q < l1
  · rw [← xnth_eq (y_sl G l1 s'), ← xnth_eq (y_sl G l1 s1), y_sl_at hq, y_sl_at hq, h q hq]
    by_cases hin : j ≤ q ∧ q < j + c
    · rw [if_pos hin, if_pos hin, ← xnth_eq, y_sl_at (by omega)]
    · rw [if_neg hin, if_neg hin]
  · rw [if_neg (by omega), List.getElem?_eq_none (by rw [y_sl_len]; omega), List.getElem?_eq_none (by rw [y_sl_len]; omega)]
theorem y_cq_e {c i j l0 l1 : Nat} (h : y_cq c i j l0 l1 = true) : i = 0 ∧ j = 0 ∧ c = l0 ∧ c = l1 := by
  unfold y_cq at h
  cases h1 : Nat.beq i (nat_lit 0) with
  | false => rw [h1] at h; cases h
  | true =>
    rw [h1, y_ift] at h
    cases h2 : Nat.beq j (nat_lit 0) with
    | false => rw [h2] at h; cases h
    | true =>
      rw [h2, y_ift] at h
      cases h3 : Nat.beq c l0 with
      | false => rw [h3] at h; cases h
      | true =>
        rw [h3, y_ift] at h
        exact ⟨Nat.eq_of_beq_eq_true h1, Nat.eq_of_beq_eq_true h2, Nat.eq_of_beq_eq_true h3, Nat.eq_of_beq_eq_true h⟩
/-- a test that must hold -/
theorem y_tb_e {P : yR → Prop} {c : Bool} {k : yR} (h0 : P none) (hk : c = true → P k) : P (y_if c k none) := by
  cases c with
  | false => exact h0
  | true => exact hk rfl
section YST
variable {G : yG} {xrec : Nat → List Value → XW → Option (XO × XW)} {xs : List Int32} {E : yE} {rec : yCl} {k N pc pc' len a b : Nat} {i : Instr} {n : yKK}
theorem xs_acpy {q q0 t cu su ix : Nat} {ls : XL} {r f0 f1 : List Value} {σ : XW} {nn dp sp : Nat} {rec0 : Nat → List Value → XW → Option (XO × XW)} (hc : xcode k pc = some (.invokestatic ix, len, 0, 1)) (h0 : xnth σ.2 q0 = some (t, f0)) (h1 : xnth σ.2 q = some (t, f1)) (ht : 100 ≤ t) (hf : xfa t f0 = true) (hz : 0 < f0.length) (hs0 : f0.length ≤ 4096) (hs1 : f1.length ≤ 4096) (g1 : sp + nn ≤ f0.length) (g2 : dp + nn ≤ f1.length) (hst : (Nat.ble 1 (xFr k) && Nat.ble 38 (xLo k)) = true) (hr : xcat r ≤ 8) : xstep rec0 xs k (pc, ls, .int (Int32.ofNat nn) :: .int (Int32.ofNat dp) :: .ref q :: .int (Int32.ofNat sp) :: .ref q0 :: r, cu, su, σ) = some (.inl (pc + 3, ls, r, cu, su, (σ.1, σ.2.set q (t, xcpy f0 f1 sp dp nn)))) := by
  obtain ⟨s1, s2⟩ := xand hst
  have h3 : Nat.ble (xcat r + 30) (xLo k) = true := Nat.ble_eq_true_of_le (by have := xble s2; omega)
  have e1 : (Int32.ofNat sp).toNatClampNeg = sp := y_tn32 (by omega)
  have e2 : (Int32.ofNat dp).toNatClampNeg = dp := y_tn32 (by omega)
  have e3 : (Int32.ofNat nn).toNatClampNeg = nn := y_tn32 (by omega)
  have n1 : decide (¬ Int32.ofNat sp < 0) = true := decide_eq_true (y_nn32 (by omega))
  have n2 : decide (¬ Int32.ofNat dp < 0) = true := decide_eq_true (y_nn32 (by omega))
  have n3 : decide (¬ Int32.ofNat nn < 0) = true := decide_eq_true (y_nn32 (by omega))
  unfold xstep; dsimp only; rw [hc]; dsimp only; rw [h0, h1]; dsimp only
  rw [e1, e2, e3, n1, n2, n3, Nat.beq_refl, hf, s1, h3, show Nat.ble 100 t = true from Nat.ble_eq_true_of_le ht, show Nat.blt 0 f0.length = true from Nat.ble_eq_true_of_le hz, show Nat.ble (sp + nn) f0.length = true from Nat.ble_eq_true_of_le g1, show Nat.ble (dp + nn) f1.length = true from Nat.ble_eq_true_of_le g2]
  rfl
theorem g_acpy {ix : Nat} (hc : xcode k pc = some (.invokestatic ix, len, 0, 1)) (hst : (Nat.ble 1 (xFr k) && Nat.ble 38 (xLo k)) = true) (hn : yGd G xrec xs E rec k N (pc + 3) n) : yGd G xrec xs E rec k (N + 1) pc (yAcpy n) := by
  intro ls st h m
  refine y_pop_e yTo_no (fun v r1 hs1 => y_pop_e yTo_no (fun v1 r2 hs2 => y_pop_e yTo_no (fun u1 r3 hs3 => y_pop_e yTo_no (fun v0 r4 hs4 => y_pop_e yTo_no (fun u0 r hs5 => ?_)))))
  subst hs5; subst hs4; subst hs3; subst hs2; subst hs1
  refine y_isI_e yTo_no (fun c e1 => y_isI_e yTo_no (fun j e2 => y_isR_e yTo_no (fun q1 e3 => y_isI_e yTo_no (fun i e4 => y_isR_e yTo_no (fun q0 e5 => ?_)))))
  subst e1; subst e2; subst e3; subst e4; subst e5
  generalize hP : (fun R => yTo G (xstep xrec xs k) k (N + 1) (y_dx G pc ls (y_i c :: y_i j :: y_r q1 :: y_i i :: y_r q0 :: r) h m) R) = P
  have p0 : P none := by rw [← hP]; exact yTo_no
  show (fun R => yTo G (xstep xrec xs k) k (N + 1) (y_dx G pc ls (y_i c :: y_i j :: y_r q1 :: y_i i :: y_r q0 :: r) h m) R) _
  rw [hP]
  refine y_at_e (P := P) p0 (fun t0 l0 s0 hq0 hm0 hg0 => ?_)
  refine y_at_e (P := P) p0 (fun t1 l1 s1 hq1 hm1 hg1 => ?_)
  refine y_bq_e (P := P) p0 (fun ht => ?_)
  refine y_tb_e (P := P) p0 (fun hl0 => y_tb_e (P := P) p0 (fun hl1 => y_tb_e (P := P) p0 (fun hz => y_tb_e (P := P) p0 (fun g1 => y_tb_e (P := P) p0 (fun g2 => y_tb_e (P := P) p0 (fun hlw => y_tb_e (P := P) p0 (fun hall => ?_)))))))
  have hl0 : l0 ≤ 4096 := Nat.le_of_ble_eq_true hl0
  have hl1 : l1 ≤ 4096 := Nat.le_of_ble_eq_true hl1
  have hz : 0 < l0 := Nat.le_of_ble_eq_true hz
  have g1 : i + c ≤ l0 := Nat.le_of_ble_eq_true g1
  have g2 : j + c ≤ l1 := Nat.le_of_ble_eq_true g2
  subst ht
  have h1 : xnth (y_dw G h m).2 q0 = some (t0, y_sl G l0 s0) := by
    show xnth (y_dh G m.2.2.2 h) q0 = _
    rw [y_dh_at hq0, hg0]
    rfl
  have h2 : xnth (y_dw G h m).2 q1 = some (t0, y_sl G l1 s1) := by
    show xnth (y_dh G m.2.2.2 h) q1 = _
    rw [y_dh_at hq1, hg1]
    rfl
  have fin : ∀ (s' : yT) (h' : yH), y_sl G l1 s' = xcpy (y_sl G l0 s0) (y_sl G l1 s1) i j c → (∀ p, p < 2 ^ y_hd → y_get y_hd y_no h' p = if p = q1 then (t0, l1, s') else y_get y_hd y_no h p) → P (n E rec ls r h' m) := by
    intro s' h' hs' hh'
    rw [← hP]
    refine yTo_step ?_ (hn ls r h' m)
    have h3 : y_dw G h' m = ((y_dw G h m).1, (y_dw G h m).2.set q1 (t0, xcpy (y_sl G l0 s0) (y_sl G l1 s1) i j c)) := by
      show (m.2.2.1, y_dh G m.2.2.2 h') = (m.2.2.1, (y_dh G m.2.2.2 h).set q1 (t0, xcpy (y_sl G l0 s0) (y_sl G l1 s1) i j c))
      rw [y_dh_set hm1 hh', ← hs']
      rfl
    show xstep xrec xs k (pc, y_dl G ls, .int (Int32.ofNat c) :: .int (Int32.ofNat j) :: .ref q1 :: .int (Int32.ofNat i) :: .ref q0 :: y_ds G r, m.1, m.2.1, y_dw G h m) = some (.inl (pc + 3, y_dl G ls, y_ds G r, m.1, m.2.1, y_dw G h' m))
    rw [h3]
    exact xs_acpy hc h1 h2 (y_ck_t (G := G) hz hl0 hall) (y_xfa hl0 hall) (by rw [y_sl_len]; exact hz) (by rw [y_sl_len]; exact hl0) (by rw [y_sl_len]; exact hl1) (by rw [y_sl_len]; exact g1) (by rw [y_sl_len]; exact g2) hst (y_lw_e hlw)
  refine y_if_e (P := P) (fun hcq => ?_) (fun _ => ?_)
  · obtain ⟨ei, ej, ec, ed⟩ := y_cq_e hcq
    refine y_set_e y_no _ h q1 (t0, l1, s0) _ _ (Nat.lt_of_lt_of_le hq1 hm1) p0 (fun h' hh' => fin s0 h' ?_ hh')
    refine y_sl_cpy hl0 hl1 g1 g2 (fun q hq => ?_)
    have el : l1 = l0 := by omega
    rw [el, if_pos (by omega)]
    congr 1
    omega
  · refine y_cp_e (P := P) p0 c i j s1 _ ?_ (fun s' hs' => ?_)
    · by_cases hc0 : c = 0
      · subst hc0
        have h6 : ∀ j l : Nat, j ≤ l → l ≤ 4096 → j ≤ 2 ^ y_dp l := fun j l hj hl => by
          rcases Nat.lt_or_ge j l with h | h
          · exact Nat.le_of_lt (y_dp_lt h hl)
          · rcases Nat.eq_zero_or_pos l with h0 | h0
            · have hj0 : j = 0 := by omega
              rw [hj0]
              exact Nat.zero_le _
            · have := y_dp_lt (j := l - 1) (l := l) (by omega) hl
              omega
        exact h6 _ _ (by omega) hl1
      · have h5 : l1 - 1 < 2 ^ y_dp l1 := y_dp_lt (by omega) hl1
        omega
    · exact y_set_e y_no _ h q1 (t0, l1, s') _ _ (Nat.lt_of_lt_of_le hq1 hm1) p0 (fun h' hh' => fin s' h' (y_sl_cpy hl0 hl1 g1 g2 (fun q hq => hs' q (y_dp_lt hq hl1))) hh')
theorem y_u64 (x : UInt64) : Int64.ofNat x.toNat = x.toInt64 := by
  apply Int64.toBitVec_inj.mp
  apply BitVec.eq_of_toNat_eq
  show x.toNat % 2 ^ 64 = x.toNat
  exact Nat.mod_eq_of_lt x.toNat_lt
theorem y_u32 (x : UInt32) : Int32.ofNat x.toNat = x.toInt32 := by
  apply Int32.toBitVec_inj.mp
  apply BitVec.eq_of_toNat_eq
  show x.toNat % 2 ^ 32 = x.toNat
  exact Nat.mod_eq_of_lt x.toNat_lt
theorem y_raw_e {P : yR → Prop} {v : yV} {k : Value → yR} (h0 : P none) (h : ∀ x, y_dec G v = x → P (k x)) : P (y_raw v k) := by
  refine y_bd_e (P := P) (fun n e => ?_) (fun _ _ => h0) (fun n e => ?_) (fun _ _ => h0) (fun _ _ => h0) (fun n e => ?_)
  · subst e; exact h _ rfl
  · subst e; exact h _ rfl
  · subst e; exact h _ rfl
theorem y_enc_e {P : yR → Prop} {w : Value} {k : yV → yR} (h0 : P none) (h : ∀ x, y_dec G x = w → P (k x)) : P (y_enc w k) := by
  cases w with
  | int x =>
    show P (y_fz x.toUInt32.toNat (fun q => k (y_i q)))
    rw [y_fz_e]
    exact h _ (congrArg Value.int ((y_u32 x.toUInt32).trans rfl))
  | long x =>
    show P (y_fz x.toUInt64.toNat (fun q => k (y_j q)))
    rw [y_fz_e]
    exact h _ (congrArg Value.long ((y_u64 x.toUInt64).trans rfl))
  | float x =>
    show P (y_fz x.toNat (fun q => k (y_v (.float (UInt32.ofNat q)))))
    rw [y_fz_e]
    exact h _ (congrArg Value.float UInt32.ofNat_toNat)
  | double x =>
    show P (y_fz x.toNat (fun q => k (y_v (.double (UInt64.ofNat q)))))
    rw [y_fz_e]
    exact h _ (congrArg Value.double UInt64.ofNat_toNat)
  | _ => exact h0
theorem g_F1 (hc : xcode k pc = some (i, len, a, b)) (hp : xpl i = true) (ho : ∀ nl ls r x w, y_F1 i x = some w → xop i pc a nl ls (x :: r) = some (pc', ls, w :: r)) (hn : yGd G xrec xs E rec k N pc' n) : yGd G xrec xs E rec k (N + 1) pc (yF1 i n) := by
  intro ls st h m
  refine y_pop_e yTo_no (fun v r hs => ?_)
  subst hs
  refine y_raw_e (G := G) (P := yTo G (xstep xrec xs k) k (N + 1) (y_dx G pc ls (v :: r) h m)) yTo_no (fun x hx => y_on_e yTo_no (fun w hw => y_enc_e (G := G) (P := yTo G (xstep xrec xs k) k (N + 1) (y_dx G pc ls (v :: r) h m)) yTo_no (fun u hu => ?_)))
  refine yTo_op hc hp (ls' := ls) (st' := u :: r) ?_ (hn ls (u :: r) h m)
  show xop i pc a (xNl k) (y_dl G ls) (y_dec G v :: y_ds G r) = some (pc', y_dl G ls, y_dec G u :: y_ds G r)
  rw [hx, hu]
  exact ho _ _ _ _ _ hw
theorem g_F2 (hc : xcode k pc = some (i, len, a, b)) (hp : xpl i = true) (ho : ∀ nl ls r y x w, y_F2 i y x = some w → xop i pc a nl ls (y :: x :: r) = some (pc', ls, w :: r)) (hn : yGd G xrec xs E rec k N pc' n) : yGd G xrec xs E rec k (N + 1) pc (yF2 i n) := by
  intro ls st h m
  refine y_pop_e yTo_no (fun v r hs => y_pop_e yTo_no (fun v2 r2 hs2 => ?_))
  subst hs2; subst hs
  refine y_raw_e (G := G) (P := yTo G (xstep xrec xs k) k (N + 1) (y_dx G pc ls (v :: v2 :: r2) h m)) yTo_no (fun y hy => y_raw_e (G := G) (P := yTo G (xstep xrec xs k) k (N + 1) (y_dx G pc ls (v :: v2 :: r2) h m)) yTo_no (fun x hx => y_on_e yTo_no (fun w hw => y_enc_e (G := G) (P := yTo G (xstep xrec xs k) k (N + 1) (y_dx G pc ls (v :: v2 :: r2) h m)) yTo_no (fun u hu => ?_))))
  refine yTo_op hc hp (ls' := ls) (st' := u :: r2) ?_ (hn ls (u :: r2) h m)
  show xop i pc a (xNl k) (y_dl G ls) (y_dec G v :: y_dec G v2 :: y_ds G r2) = some (pc', y_dl G ls, y_dec G u :: y_ds G r2)
  rw [hx, hy, hu]
  exact ho _ _ _ _ _ _ hw
theorem g_ldv {j : Nat} {ok : yV → Bool} (hc : xcode k pc = some (i, len, a, b)) (hp : xpl i = true) (ho : ∀ nl ls st v, ok v = true → xgl ls j = some (y_dec G v) → xop i pc a nl ls st = some (pc', ls, y_dec G v :: st)) (hn : yGd G xrec xs E rec k N pc' n) : yGd G xrec xs E rec k (N + 1) pc (yLdv ok j n) := by
  intro ls st h m
  refine y_on_e yTo_no (fun v hv => ?_)
  have h1 := y_lf_e G ls j v hv
  refine y_tb_e (P := yTo G (xstep xrec xs k) k (N + 1) (y_dx G pc ls st h m)) yTo_no (fun hok => ?_)
  exact yTo_op hc hp (ho _ _ _ _ hok h1) (hn ls (v :: st) h m)
theorem y_kD_e {v : yV} (h : y_kD v = true) : ∃ x, y_dec G v = .double x := by
  rcases v with n | n | n | n | n | x
  case inr.inr.inr.inr.inr =>
    cases x with
    | double x => exact ⟨x, rfl⟩
    | _ => cases h
  all_goals cases h
theorem y_kF_e {v : yV} (h : y_kF v = true) : ∃ x, y_dec G v = .float x := by
  rcases v with n | n | n | n | n | x
  case inr.inr.inr.inr.inr =>
    cases x with
    | float x => exact ⟨x, rfl⟩
    | _ => cases h
  all_goals cases h
theorem g_std {j : Nat} (hc : xcode k pc = some (i, len, a, b)) (hp : xpl i = true) (ho : ∀ ls r x, xop i pc a (xNl k) ls (.double x :: r) = some (pc', xs2 ls j (.double x), r)) (hn : yGd G xrec xs E rec k N pc' n) : yGd G xrec xs E rec k (N + 1) pc (yStd j n) := by
  intro ls st h m
  refine y_pop_e yTo_no (fun v r hs => ?_)
  subst hs
  refine y_tb_e (P := yTo G (xstep xrec xs k) k (N + 1) (y_dx G pc ls (v :: r) h m)) yTo_no (fun hok => ?_)
  obtain ⟨x, hx⟩ := y_kD_e (G := G) hok
  rw [y_lr_e]
  refine yTo_op hc hp ?_ (hn (_ :: _) r h m)
  show xop i pc a (xNl k) (y_dl G ls) (y_dec G v :: y_ds G r) = some (pc', (j, y_dec G v) :: y_dl G (ls.filter (y_k2 j)), y_ds G r)
  rw [hx]
  exact (ho _ _ _).trans (by unfold xs2; rw [y_f2_e])
theorem g_stf {j : Nat} (hc : xcode k pc = some (i, len, a, b)) (hp : xpl i = true) (ho : ∀ ls r x, xop i pc a (xNl k) ls (.float x :: r) = some (pc', xs1 ls j (.float x), r)) (hn : yGd G xrec xs E rec k N pc' n) : yGd G xrec xs E rec k (N + 1) pc (yStf j n) := by
  intro ls st h m
  refine y_pop_e yTo_no (fun v r hs => ?_)
  subst hs
  refine y_tb_e (P := yTo G (xstep xrec xs k) k (N + 1) (y_dx G pc ls (v :: r) h m)) yTo_no (fun hok => ?_)
  obtain ⟨x, hx⟩ := y_kF_e (G := G) hok
  rw [y_lr_e]
  refine yTo_op hc hp ?_ (hn (_ :: _) r h m)
  show xop i pc a (xNl k) (y_dl G ls) (y_dec G v :: y_ds G r) = some (pc', (j, y_dec G v) :: y_dl G (ls.filter (y_k1 j)), y_ds G r)
  rw [hx]
  exact (ho _ _ _).trans (by unfold xs1; rw [y_f1_e])
theorem g_bitd {ix : Nat} (hc : xcode k pc = some (.invokestatic ix, len, 1, 1)) (hst : (Nat.ble 1 (xFr k) && Nat.ble 23 (xLo k)) = true) (hn : yGd G xrec xs E rec k N (pc + 3) n) : yGd G xrec xs E rec k (N + 1) pc (yBitD n) := by
  intro ls st h m
  refine y_pop_e yTo_no (fun v r hs => ?_)
  subst hs
  refine y_tb_e (P := yTo G (xstep xrec xs k) k (N + 1) (y_dx G pc ls (v :: r) h m)) yTo_no (fun hlw => y_raw_e (G := G) (P := yTo G (xstep xrec xs k) k (N + 1) (y_dx G pc ls (v :: r) h m)) yTo_no (fun x hx => ?_))
  cases x with
  | double x =>
    show yTo G (xstep xrec xs k) k (N + 1) (y_dx G pc ls (v :: r) h m) (y_fz x.toNat (fun q => n E rec ls (y_j q :: r) h m))
    rw [y_fz_e]
    refine yTo_step ?_ (hn ls (y_j x.toNat :: r) h m)
    obtain ⟨s1, s2⟩ := xand hst
    have h3 : Nat.ble (xcat (y_ds G r) + 15) (xLo k) = true := Nat.ble_eq_true_of_le (by have := y_lw_e (G := G) hlw; have := xble s2; omega)
    show xstep xrec xs k (pc, y_dl G ls, y_dec G v :: y_ds G r, m.1, m.2.1, y_dw G h m) = some (.inl (pc + 3, y_dl G ls, .long (Int64.ofNat x.toNat) :: y_ds G r, m.1, m.2.1, y_dw G h m))
    rw [hx, y_u64]
    unfold xstep; dsimp only; rw [hc]; dsimp only; rw [s1, h3]; rfl
  | _ => exact yTo_no
theorem g_bitf {ix : Nat} (hc : xcode k pc = some (.invokestatic ix, len, 2, 1)) (hst : (Nat.ble 1 (xFr k) && Nat.ble 23 (xLo k)) = true) (hn : yGd G xrec xs E rec k N (pc + 3) n) : yGd G xrec xs E rec k (N + 1) pc (yBitF n) := by
  intro ls st h m
  refine y_pop_e yTo_no (fun v r hs => ?_)
  subst hs
  refine y_tb_e (P := yTo G (xstep xrec xs k) k (N + 1) (y_dx G pc ls (v :: r) h m)) yTo_no (fun hlw => y_raw_e (G := G) (P := yTo G (xstep xrec xs k) k (N + 1) (y_dx G pc ls (v :: r) h m)) yTo_no (fun x hx => ?_))
  cases x with
  | float x =>
    show yTo G (xstep xrec xs k) k (N + 1) (y_dx G pc ls (v :: r) h m) (y_fz x.toNat (fun q => n E rec ls (y_i q :: r) h m))
    rw [y_fz_e]
    refine yTo_step ?_ (hn ls (y_i x.toNat :: r) h m)
    obtain ⟨s1, s2⟩ := xand hst
    have h3 : Nat.ble (xcat (y_ds G r) + 15) (xLo k) = true := Nat.ble_eq_true_of_le (by have := y_lw_e (G := G) hlw; have := xble s2; omega)
    show xstep xrec xs k (pc, y_dl G ls, y_dec G v :: y_ds G r, m.1, m.2.1, y_dw G h m) = some (.inl (pc + 3, y_dl G ls, .int (Int32.ofNat x.toNat) :: y_ds G r, m.1, m.2.1, y_dw G h m))
    rw [hx, y_u32]
    unfold xstep; dsimp only; rw [hc]; dsimp only; rw [s1, h3]; rfl
  | _ => exact yTo_no
end YST
end
section
/-! A method's run of the fast machine is the other's. -/
theorem y_args_e {G : yG} (k : Nat → yL → yR) : ∀ (av : yS) (n : Nat), ∃ ls, y_dl G ls = lv_args n (y_ds G av) ∧ @List.rec _ (fun _ => Nat → (Nat → yL → yR) → yR) (fun n k => k n []) (fun v _ ih n k => y_fz (Nat.add n (y_cat v)) (fun m => ih m (fun t r => k t ((n, v) :: r)))) av n k = k (n + xcat (y_ds G av)) ls := by
  intro av
  induction av generalizing k with
  | nil => exact fun n => ⟨[], rfl, rfl⟩
  | cons v r ih =>
    intro n
    obtain ⟨ls, h1, h2⟩ := ih (fun t r => k t ((n, v) :: r)) (n + y_cat v)
    refine ⟨(n, v) :: ls, ?_, ?_⟩
    · show (n, y_dec G v) :: y_dl G ls = (n, y_dec G v) :: lv_args (if (y_dec G v).category = 2 then n + 2 else n + 1) (y_ds G r)
      rw [h1, ← y_cat_e G v]
      congr 2
      rcases lv_cat (y_dec G v) with h | h
      · rw [h, if_neg (by decide)]
      · rw [h, if_pos rfl]
    · show y_fz (n + y_cat v) (fun m => @List.rec _ (fun _ => Nat → (Nat → yL → yR) → yR) (fun n k => k n []) (fun v _ ih n k => y_fz (Nat.add n (y_cat v)) (fun m => ih m (fun t r => k t ((n, v) :: r)))) r m (fun t r => k t ((n, v) :: r))) = k (n + ((y_dec G v).category + xcat (y_ds G r))) ((n, v) :: ls)
      rw [y_fz_e, h2, y_cat_e, Nat.add_assoc]
/-- all blocks of all methods are right, whatever the calls are, if those are right -/
def yBlk (G : yG) (xs : List Int32) (E : yE) (P : Nat → Nat × (Nat → yKK)) : Prop := ∀ (rec : yCl) (xrec : Nat → List Value → XW → Option (XO × XW)), yRecOk G rec xrec → ∀ a, a < 257 → (P a).1 = xNl a ∧ ∀ t, yGd G xrec xs E rec a 63 t ((P a).2 t)
theorem y_end_e {P : yR → Prop} {k : Option yV → Bool → Nat → yH → yR} {kx : Nat → Bool → Nat → yH → yR} {r : yR} (h0 : P none) (h1 : ∀ v h m, r = some (.inr (.inl (v, h, m))) → P (k v m.2.2.1 m.2.2.2 h)) (h2 : ∀ e h m, r = some (.inr (.inr (e, h, m))) → P (kx e false m.2.2.2 h)) : P (y_end k kx r) := by
  rcases r with _ | (x | (⟨v, h, m⟩ | ⟨e, h, m⟩))
  · exact h0
  · exact h0
  · exact h1 v h m rfl
  · exact h2 e h m rfl
theorem y_run_e {G : yG} {xs : List Int32} {E : yE} {P : Nat → Nat × (Nat → yKK)} (hP : yBlk G xs E P) : ∀ d, yRecOk G (y_run P E d) (xrun2 xs d)
  | 0 => fun a av f cnt h k kx Q h0 _ _ => h0
  | d + 1 => fun a av f cnt h k kx Q h0 h1 h2 => by
    have hR := y_run_e hP d
    show Q (y_if (Nat.blt a (nat_lit 257)) (y_args av (fun t ls => y_if (Nat.ble t (P a).1) (y_end k kx (y_it (P a).2 E (y_run P E d) (nat_lit 16384) (nat_lit 0) ls [] h (nat_lit 0, nat_lit 0, f, cnt))) none)) none)
    refine y_tb_e (P := Q) h0 (fun ha => ?_)
    have ha : a < 257 := Nat.le_of_ble_eq_true ha
    obtain ⟨hnl, hB⟩ := hP _ _ hR a ha
    obtain ⟨ls, e1, e2⟩ := y_args_e (G := G) (fun t ls => y_if (Nat.ble t (P a).1) (y_end k kx (y_it (P a).2 E (y_run P E d) (nat_lit 16384) (nat_lit 0) ls [] h (nat_lit 0, nat_lit 0, f, cnt))) none) av 0
    show Q (@List.rec _ (fun _ => Nat → (Nat → yL → yR) → yR) (fun n k => k n []) (fun v _ ih n k => y_fz (Nat.add n (y_cat v)) (fun m => ih m (fun t r => k t ((n, v) :: r)))) av 0 _)
    rw [e2]
    refine y_tb_e (P := Q) h0 (fun ht => ?_)
    rw [Nat.zero_add, hnl] at ht
    have h3 := y_it_e hB 16384 0 ls [] h (0, 0, f, cnt)
    have hone : ∀ o, (∃ n c1 z, n ≤ 16384 * 63 ∧ xpow (xstep (xrun2 xs d) xs a) n (y_dx G 0 ls [] h (0, 0, f, cnt)) c1 ∧ xstep (xrun2 xs d) xs a c1 = some (.inr z) ∧ xfin2 a z = some o) → xrun2 xs (d + 1) a (y_ds G av) (f, y_dh G cnt h) = some o := by
      intro o ⟨n, c1, z, hn, hp, hz, hf⟩
      show xone xs (xrun2 xs d) 20 a (y_ds G av) (f, y_dh G cnt h) = some o
      unfold xone
      rw [ht, cond_true]
      have hx : xit (xstep (xrun2 xs d) xs a) 20 (0, lv_args 0 (y_ds G av), [], 0, 0, (f, y_dh G cnt h)) = some (.inr z) := by
        rw [← e1]
        refine xit_inr 20 n _ c1 ?_ hp hz
        have : (2 : Nat) ^ 20 = 1048576 := by decide +kernel
        omega
      generalize xit (xstep (xrun2 xs d) xs a) 20 (0, lv_args 0 (y_ds G av), [], 0, 0, (f, y_dh G cnt h)) = R at hx
      subst hx
      exact hf
    refine y_end_e (P := Q) h0 (fun v h' m hr => ?_) (fun e h' m hr => ?_)
    · rw [show y_it (P a).2 E (y_run P E d) (nat_lit 16384) (nat_lit 0) ls [] h (nat_lit 0, nat_lit 0, f, cnt) = y_it (P a).2 E (y_run P E d) 16384 0 ls [] h (0, 0, f, cnt) from rfl] at hr
      rw [hr] at h3
      exact h1 v _ _ _ (hone _ h3)
    · rw [show y_it (P a).2 E (y_run P E d) (nat_lit 16384) (nat_lit 0) ls [] h (nat_lit 0, nat_lit 0, f, cnt) = y_it (P a).2 E (y_run P E d) 16384 0 ls [] h (0, 0, f, cnt) from rfl] at hr
      rw [hr] at h3
      exact h2 e _ _ _ (hone _ h3)
end
section
/-! One lemma an instruction: what the tables hold at a place, and what the fast machine does there. -/
def y_cd (cd : Jvm.ClassFile.Cond) : Nat := match cd with
  | .eq => 0
  | .ne => 1
  | .lt => 2
  | .ge => 3
  | .gt => 4
  | .le => 5
theorem y_if_e2 (pc a nl : Nat) (ls : XL) (r : List Value) (x : Int32) (cd : Jvm.ClassFile.Cond) (o : Int) : xop (.ifCond cd o) pc a nl ls (.int x :: r) = some ((if y_cmp (y_cd cd) x 0 = true then a else pc + 3), ls, r) := by
  cases cd with
  | eq => show (if x = 0 then _ else _) = some ((if decide (x = 0) = true then a else pc + 3), ls, r); by_cases h : x = 0 <;> simp only [h, decide_true, decide_false, if_true, if_false, Bool.false_eq_true]
  | ne => show (if x = 0 then _ else _) = some ((if (!decide (x = 0)) = true then a else pc + 3), ls, r); by_cases h : x = 0 <;> simp only [h, decide_true, decide_false, if_true, if_false, Bool.false_eq_true, Bool.not_true, Bool.not_false]
  | lt => show (if x < 0 then _ else _) = some ((if decide (x < 0) = true then a else pc + 3), ls, r); by_cases h : x < 0 <;> simp only [h, decide_true, decide_false, if_true, if_false, Bool.false_eq_true]
  | ge => show (if 0 ≤ x then _ else _) = some ((if decide (0 ≤ x) = true then a else pc + 3), ls, r); by_cases h : 0 ≤ x <;> simp only [h, decide_true, decide_false, if_true, if_false, Bool.false_eq_true]
  | gt => show (if 0 < x then _ else _) = some ((if decide (0 < x) = true then a else pc + 3), ls, r); by_cases h : 0 < x <;> simp only [h, decide_true, decide_false, if_true, if_false, Bool.false_eq_true]
  | le => show (if x ≤ 0 then _ else _) = some ((if decide (x ≤ 0) = true then a else pc + 3), ls, r); by_cases h : x ≤ 0 <;> simp only [h, decide_true, decide_false, if_true, if_false, Bool.false_eq_true]
theorem y_icmp_e2 (pc a nl : Nat) (ls : XL) (r : List Value) (x y : Int32) (cd : Jvm.ClassFile.Cond) (o : Int) : xop (.if_icmp cd o) pc a nl ls (.int y :: .int x :: r) = some ((if y_cmp (y_cd cd) x y = true then a else pc + 3), ls, r) := by
  cases cd with
  | eq => show (if x = y then _ else _) = some ((if decide (x = y) = true then a else pc + 3), ls, r); by_cases h : x = y <;> simp only [h, decide_true, decide_false, if_true, if_false, Bool.false_eq_true]
  | ne => show (if x = y then _ else _) = some ((if (!decide (x = y)) = true then a else pc + 3), ls, r); by_cases h : x = y <;> simp only [h, decide_true, decide_false, if_true, if_false, Bool.false_eq_true, Bool.not_true, Bool.not_false]
  | lt => show (if x < y then _ else _) = some ((if decide (x < y) = true then a else pc + 3), ls, r); by_cases h : x < y <;> simp only [h, decide_true, decide_false, if_true, if_false, Bool.false_eq_true]
  | ge => show (if y ≤ x then _ else _) = some ((if decide (y ≤ x) = true then a else pc + 3), ls, r); by_cases h : y ≤ x <;> simp only [h, decide_true, decide_false, if_true, if_false, Bool.false_eq_true]
  | gt => show (if y < x then _ else _) = some ((if decide (y < x) = true then a else pc + 3), ls, r); by_cases h : y < x <;> simp only [h, decide_true, decide_false, if_true, if_false, Bool.false_eq_true]
  | le => show (if x ≤ y then _ else _) = some ((if decide (x ≤ y) = true then a else pc + 3), ls, r); by_cases h : x ≤ y <;> simp only [h, decide_true, decide_false, if_true, if_false, Bool.false_eq_true]
theorem y_blt_t {a b : Nat} (h : Nat.blt a b = true) : a < b := Nat.le_of_ble_eq_true h
section YST
variable {G : yG} {xrec : Nat → List Value → XW → Option (XO × XW)} {xs : List Int32} {E : yE} {rec : yCl} {k N pc pc' len a b : Nat} {i : Instr} {n : yKK}
theorem yGd_mono {M : Nat} (h : Nat.ble N M = true) (hn : yGd G xrec xs E rec k N pc n) : yGd G xrec xs E rec k M pc n := fun ls st h' m => yTo_mono (Nat.le_of_ble_eq_true h) (hn ls st h' m)
theorem tt_iconst {c : Int} {x : Nat} (hc : xcode k pc = some (.iconst c, len, a, b)) (hv : Int32.ofInt c = Int32.ofNat x) (hn : yGd G xrec xs E rec k N (pc + 1) n) : yGd G xrec xs E rec k (N + 1) pc (yPush (y_i x) n) := g_push hc rfl (fun _ _ _ => rfl) (congrArg Value.int hv) hn
theorem tt_bipush {c : Int} {x : Nat} (hc : xcode k pc = some (.bipush c, len, a, b)) (hv : (Int8.ofInt c).toInt32 = Int32.ofNat x) (hn : yGd G xrec xs E rec k N (pc + 2) n) : yGd G xrec xs E rec k (N + 1) pc (yPush (y_i x) n) := g_push hc rfl (fun _ _ _ => rfl) (congrArg Value.int hv) hn
theorem tt_sipush {c : Int} {x : Nat} (hc : xcode k pc = some (.sipush c, len, a, b)) (hv : (Int16.ofInt c).toInt32 = Int32.ofNat x) (hn : yGd G xrec xs E rec k N (pc + 3) n) : yGd G xrec xs E rec k (N + 1) pc (yPush (y_i x) n) := g_push hc rfl (fun _ _ _ => rfl) (congrArg Value.int hv) hn
theorem tt_lconst {c : Fin 2} {x : Nat} (hc : xcode k pc = some (.lconst c, len, a, b)) (hv : Int64.ofNat c = Int64.ofNat x) (hn : yGd G xrec xs E rec k N (pc + 1) n) : yGd G xrec xs E rec k (N + 1) pc (yPush (y_j x) n) := g_push hc rfl (fun _ _ _ => rfl) (congrArg Value.long hv) hn
theorem tt_dconst0 (hc : xcode k pc = some (.dconst 0, len, a, b)) (hn : yGd G xrec xs E rec k N (pc + 1) n) : yGd G xrec xs E rec k (N + 1) pc (yPush (y_v (.double FP.dconst0)) n) := g_push hc rfl (fun _ _ _ => rfl) rfl hn
theorem tt_dconst1 (hc : xcode k pc = some (.dconst 1, len, a, b)) (hn : yGd G xrec xs E rec k N (pc + 1) n) : yGd G xrec xs E rec k (N + 1) pc (yPush (y_v (.double FP.dconst1)) n) := g_push hc rfl (fun _ _ _ => rfl) rfl hn
theorem tt_fconst0 (hc : xcode k pc = some (.fconst 0, len, a, b)) (hn : yGd G xrec xs E rec k N (pc + 1) n) : yGd G xrec xs E rec k (N + 1) pc (yPush (y_v (.float FP.fconst0)) n) := g_push hc rfl (fun _ _ _ => rfl) rfl hn
theorem tt_fconst1 (hc : xcode k pc = some (.fconst 1, len, a, b)) (hn : yGd G xrec xs E rec k N (pc + 1) n) : yGd G xrec xs E rec k (N + 1) pc (yPush (y_v (.float FP.fconst1)) n) := g_push hc rfl (fun _ _ _ => rfl) rfl hn
theorem tt_fconst2 (hc : xcode k pc = some (.fconst 2, len, a, b)) (hn : yGd G xrec xs E rec k N (pc + 1) n) : yGd G xrec xs E rec k (N + 1) pc (yPush (y_v (.float FP.fconst2)) n) := g_push hc rfl (fun _ _ _ => rfl) rfl hn
theorem tt_ldc {ix : Nat} {v : yV} {u : Value} (hc : xcode k pc = some (.ldc ix, len, a, b)) (hv : xnth xcon a = some u) (hu : y_dec G v = u) (hn : yGd G xrec xs E rec k N (pc + 2) n) : yGd G xrec xs E rec k (N + 1) pc (yPush v n) := by
  intro ls st h m
  refine yTo_step ?_ (hn ls (v :: st) h m)
  show xstep xrec xs k (pc, y_dl G ls, y_ds G st, m.1, m.2.1, y_dw G h m) = some (.inl (pc + 2, y_dl G ls, y_dec G v :: y_ds G st, m.1, m.2.1, y_dw G h m))
  rw [hu]
  unfold xstep; dsimp only; rw [hc]; dsimp only; rw [hv]
theorem tt_ldc_w {ix : Nat} {v : yV} {u : Value} (hc : xcode k pc = some (.ldc_w ix, len, a, b)) (hv : xnth xcon a = some u) (hu : y_dec G v = u) (hn : yGd G xrec xs E rec k N (pc + 3) n) : yGd G xrec xs E rec k (N + 1) pc (yPush v n) := by
  intro ls st h m
  refine yTo_step ?_ (hn ls (v :: st) h m)
  show xstep xrec xs k (pc, y_dl G ls, y_ds G st, m.1, m.2.1, y_dw G h m) = some (.inl (pc + 3, y_dl G ls, y_dec G v :: y_ds G st, m.1, m.2.1, y_dw G h m))
  rw [hu]
  unfold xstep; dsimp only; rw [hc]; dsimp only; rw [hv]
theorem tt_ldc2_w {ix : Nat} {v : yV} {u : Value} (hc : xcode k pc = some (.ldc2_w ix, len, a, b)) (hv : xnth xcon a = some u) (hu : y_dec G v = u) (hn : yGd G xrec xs E rec k N (pc + 3) n) : yGd G xrec xs E rec k (N + 1) pc (yPush v n) := by
  intro ls st h m
  refine yTo_step ?_ (hn ls (v :: st) h m)
  show xstep xrec xs k (pc, y_dl G ls, y_ds G st, m.1, m.2.1, y_dw G h m) = some (.inl (pc + 3, y_dl G ls, y_dec G v :: y_ds G st, m.1, m.2.1, y_dw G h m))
  rw [hu]
  unfold xstep; dsimp only; rw [hc]; dsimp only; rw [hv]
theorem tt_iload_n {jj : Fin 4} {j : Nat} (hc : xcode k pc = some (.iload_n jj, len, a, b)) (hj : jj.val = j) (hn : yGd G xrec xs E rec k N (pc + 1) n) : yGd G xrec xs E rec k (N + 1) pc (yLdi j n) := by subst hj; exact g_ldi hc rfl (fun _ _ _ _ h => by unfold xop; dsimp only; rw [h]) hn
theorem tt_iload {j : Nat} (hc : xcode k pc = some (.iload j, len, a, b)) (hn : yGd G xrec xs E rec k N (pc + 2) n) : yGd G xrec xs E rec k (N + 1) pc (yLdi j n) := g_ldi hc rfl (fun _ _ _ _ h => by unfold xop; dsimp only; rw [h]) hn
theorem tt_lload_n {jj : Fin 4} {j : Nat} (hc : xcode k pc = some (.lload_n jj, len, a, b)) (hj : jj.val = j) (hn : yGd G xrec xs E rec k N (pc + 1) n) : yGd G xrec xs E rec k (N + 1) pc (yLdl j n) := by subst hj; exact g_ldl hc rfl (fun _ _ _ _ h => by unfold xop; dsimp only; rw [h]) hn
theorem tt_lload {j : Nat} (hc : xcode k pc = some (.lload j, len, a, b)) (hn : yGd G xrec xs E rec k N (pc + 2) n) : yGd G xrec xs E rec k (N + 1) pc (yLdl j n) := g_ldl hc rfl (fun _ _ _ _ h => by unfold xop; dsimp only; rw [h]) hn
theorem tt_aload_n {jj : Fin 4} {j : Nat} (hc : xcode k pc = some (.aload_n jj, len, a, b)) (hj : jj.val = j) (hn : yGd G xrec xs E rec k N (pc + 1) n) : yGd G xrec xs E rec k (N + 1) pc (yLda j n) := by subst hj; exact g_lda hc rfl (fun _ _ _ _ h => by unfold xop; dsimp only; rw [h]) (fun _ _ _ _ h => by unfold xop; dsimp only; rw [h]) hn
theorem tt_aload {j : Nat} (hc : xcode k pc = some (.aload j, len, a, b)) (hn : yGd G xrec xs E rec k N (pc + 2) n) : yGd G xrec xs E rec k (N + 1) pc (yLda j n) := g_lda hc rfl (fun _ _ _ _ h => by unfold xop; dsimp only; rw [h]) (fun _ _ _ _ h => by unfold xop; dsimp only; rw [h]) hn
theorem tt_dload_n {jj : Fin 4} {j : Nat} (hc : xcode k pc = some (.dload_n jj, len, a, b)) (hj : jj.val = j) (hn : yGd G xrec xs E rec k N (pc + 1) n) : yGd G xrec xs E rec k (N + 1) pc (yLdv y_kD j n) := by subst hj; exact g_ldv hc rfl (fun _ _ _ v hok h => by obtain ⟨x, hx⟩ := y_kD_e (G := G) hok; rw [hx] at h ⊢; unfold xop; dsimp only; rw [h]) hn
theorem tt_dload {j : Nat} (hc : xcode k pc = some (.dload j, len, a, b)) (hn : yGd G xrec xs E rec k N (pc + 2) n) : yGd G xrec xs E rec k (N + 1) pc (yLdv y_kD j n) := g_ldv hc rfl (fun _ _ _ v hok h => by obtain ⟨x, hx⟩ := y_kD_e (G := G) hok; rw [hx] at h ⊢; unfold xop; dsimp only; rw [h]) hn
theorem tt_fload_n {jj : Fin 4} {j : Nat} (hc : xcode k pc = some (.fload_n jj, len, a, b)) (hj : jj.val = j) (hn : yGd G xrec xs E rec k N (pc + 1) n) : yGd G xrec xs E rec k (N + 1) pc (yLdv y_kF j n) := by subst hj; exact g_ldv hc rfl (fun _ _ _ v hok h => by obtain ⟨x, hx⟩ := y_kF_e (G := G) hok; rw [hx] at h ⊢; unfold xop; dsimp only; rw [h]) hn
theorem tt_fload {j : Nat} (hc : xcode k pc = some (.fload j, len, a, b)) (hn : yGd G xrec xs E rec k N (pc + 2) n) : yGd G xrec xs E rec k (N + 1) pc (yLdv y_kF j n) := g_ldv hc rfl (fun _ _ _ v hok h => by obtain ⟨x, hx⟩ := y_kF_e (G := G) hok; rw [hx] at h ⊢; unfold xop; dsimp only; rw [h]) hn
theorem tt_istore_n {jj : Fin 4} {j : Nat} (hc : xcode k pc = some (.istore_n jj, len, a, b)) (hj : jj.val = j) (hl : Nat.blt j (xNl k) = true) (hn : yGd G xrec xs E rec k N (pc + 1) n) : yGd G xrec xs E rec k (N + 1) pc (ySti j n) := by subst hj; exact g_sti hc rfl (fun _ _ _ => by unfold xop; dsimp only; rw [if_pos (y_blt_t hl)]) hn
theorem tt_istore {j : Nat} (hc : xcode k pc = some (.istore j, len, a, b)) (hl : Nat.blt j (xNl k) = true) (hn : yGd G xrec xs E rec k N (pc + 2) n) : yGd G xrec xs E rec k (N + 1) pc (ySti j n) := g_sti hc rfl (fun _ _ _ => by unfold xop; dsimp only; rw [if_pos (y_blt_t hl)]) hn
theorem tt_astore_n {jj : Fin 4} {j : Nat} (hc : xcode k pc = some (.astore_n jj, len, a, b)) (hj : jj.val = j) (hl : Nat.blt j (xNl k) = true) (hn : yGd G xrec xs E rec k N (pc + 1) n) : yGd G xrec xs E rec k (N + 1) pc (ySta j n) := by subst hj; exact g_sta hc rfl (fun _ _ _ => by unfold xop; dsimp only; rw [if_pos (y_blt_t hl)]) hn
theorem tt_astore {j : Nat} (hc : xcode k pc = some (.astore j, len, a, b)) (hl : Nat.blt j (xNl k) = true) (hn : yGd G xrec xs E rec k N (pc + 2) n) : yGd G xrec xs E rec k (N + 1) pc (ySta j n) := g_sta hc rfl (fun _ _ _ => by unfold xop; dsimp only; rw [if_pos (y_blt_t hl)]) hn
theorem tt_lstore_n {jj : Fin 4} {j : Nat} (hc : xcode k pc = some (.lstore_n jj, len, a, b)) (hj : jj.val = j) (hl : Nat.blt (j + 1) (xNl k) = true) (hn : yGd G xrec xs E rec k N (pc + 1) n) : yGd G xrec xs E rec k (N + 1) pc (yStl j n) := by subst hj; exact g_stl hc rfl (fun _ _ _ => by unfold xop; dsimp only; rw [if_pos (y_blt_t hl)]) hn
theorem tt_lstore {j : Nat} (hc : xcode k pc = some (.lstore j, len, a, b)) (hl : Nat.blt (j + 1) (xNl k) = true) (hn : yGd G xrec xs E rec k N (pc + 2) n) : yGd G xrec xs E rec k (N + 1) pc (yStl j n) := g_stl hc rfl (fun _ _ _ => by unfold xop; dsimp only; rw [if_pos (y_blt_t hl)]) hn
theorem tt_dstore_n {jj : Fin 4} {j : Nat} (hc : xcode k pc = some (.dstore_n jj, len, a, b)) (hj : jj.val = j) (hl : Nat.blt (j + 1) (xNl k) = true) (hn : yGd G xrec xs E rec k N (pc + 1) n) : yGd G xrec xs E rec k (N + 1) pc (yStd j n) := by subst hj; exact g_std hc rfl (fun _ _ _ => by unfold xop; dsimp only; rw [if_pos (y_blt_t hl)]) hn
theorem tt_dstore {j : Nat} (hc : xcode k pc = some (.dstore j, len, a, b)) (hl : Nat.blt (j + 1) (xNl k) = true) (hn : yGd G xrec xs E rec k N (pc + 2) n) : yGd G xrec xs E rec k (N + 1) pc (yStd j n) := g_std hc rfl (fun _ _ _ => by unfold xop; dsimp only; rw [if_pos (y_blt_t hl)]) hn
theorem tt_fstore_n {jj : Fin 4} {j : Nat} (hc : xcode k pc = some (.fstore_n jj, len, a, b)) (hj : jj.val = j) (hl : Nat.blt j (xNl k) = true) (hn : yGd G xrec xs E rec k N (pc + 1) n) : yGd G xrec xs E rec k (N + 1) pc (yStf j n) := by subst hj; exact g_stf hc rfl (fun _ _ _ => by unfold xop; dsimp only; rw [if_pos (y_blt_t hl)]) hn
theorem tt_fstore {j : Nat} (hc : xcode k pc = some (.fstore j, len, a, b)) (hl : Nat.blt j (xNl k) = true) (hn : yGd G xrec xs E rec k N (pc + 2) n) : yGd G xrec xs E rec k (N + 1) pc (yStf j n) := g_stf hc rfl (fun _ _ _ => by unfold xop; dsimp only; rw [if_pos (y_blt_t hl)]) hn
theorem tt_iinc {j x : Nat} {c : Int} (hc : xcode k pc = some (.iinc j c, len, a, b)) (hv : Int32.ofInt c = Int32.ofNat x) (hl : Nat.blt j (xNl k) = true) (hn : yGd G xrec xs E rec k N (pc + 3) n) : yGd G xrec xs E rec k (N + 1) pc (yInc j x n) := g_inc hc rfl hv (fun _ _ _ h => by unfold xop; dsimp only; rw [h]; dsimp only; rw [if_pos (y_blt_t hl)]) hn
theorem tt_iadd (hE : yOk G xs E) (hc : xcode k pc = some (.iadd, len, a, b)) (hn : yGd G xrec xs E rec k N (pc + 1) n) : yGd G xrec xs E rec k (N + 1) pc (yAr (nat_lit 0) n) := g_ar (o := nat_lit 0) hE hc rfl (fun _ _ _ x y q hq => by have hq : some ((x + y) % 4294967296) = some q := hq; have hq := Option.some.inj hq; subst hq; rw [y_add32]; rfl) (fun f hf _ _ _ _ _ => by have hf := Option.some.inj hf; subst hf; rfl) hn
theorem tt_imul (hE : yOk G xs E) (hc : xcode k pc = some (.imul, len, a, b)) (hn : yGd G xrec xs E rec k N (pc + 1) n) : yGd G xrec xs E rec k (N + 1) pc (yAr (nat_lit 2) n) := g_ar (o := nat_lit 2) hE hc rfl (fun _ _ _ x y q hq => by have hq : some ((x * y) % 4294967296) = some q := hq; have hq := Option.some.inj hq; subst hq; rw [y_mul32]; rfl) (fun f hf _ _ _ _ _ => by have hf := Option.some.inj hf; subst hf; rfl) hn
theorem tt_iand (hE : yOk G xs E) (hc : xcode k pc = some (.iand, len, a, b)) (hn : yGd G xrec xs E rec k N (pc + 1) n) : yGd G xrec xs E rec k (N + 1) pc (yAr (nat_lit 3) n) := g_ar (o := nat_lit 3) hE hc rfl (fun _ _ _ x y q hq => by have hq : some (Nat.land x y) = some q := hq; have hq := Option.some.inj hq; subst hq; rw [y_and32]; rfl) (fun f hf _ _ _ _ _ => by have hf := Option.some.inj hf; subst hf; rfl) hn
theorem tt_ior (hE : yOk G xs E) (hc : xcode k pc = some (.ior, len, a, b)) (hn : yGd G xrec xs E rec k N (pc + 1) n) : yGd G xrec xs E rec k (N + 1) pc (yAr (nat_lit 4) n) := g_ar (o := nat_lit 4) hE hc rfl (fun _ _ _ x y q hq => by have hq : some (Nat.lor x y) = some q := hq; have hq := Option.some.inj hq; subst hq; rw [y_or32]; rfl) (fun f hf _ _ _ _ _ => by have hf := Option.some.inj hf; subst hf; rfl) hn
theorem y_tb_o {α : Type} {c : Bool} {x : Option α} {q : α} (h : y_if c x none = some q) : c = true ∧ x = some q := by
  cases c with
  | false => cases h
  | true => exact ⟨rfl, h⟩
theorem y_tb_n {α : Type} {c : Bool} {x : Option α} {q : α} (h : y_if c none x = some q) : c = false ∧ x = some q := by
  cases c with
  | false => exact ⟨rfl, h⟩
  | true => cases h
theorem tt_isub (hE : yOk G xs E) (hc : xcode k pc = some (.isub, len, a, b)) (hn : yGd G xrec xs E rec k N (pc + 1) n) : yGd G xrec xs E rec k (N + 1) pc (yAr (nat_lit 1) n) := g_ar (o := nat_lit 1) hE hc rfl (fun _ _ _ x y q hq => by obtain ⟨h1, h2⟩ := y_tb_o hq; have h2 := Option.some.inj h2; rw [← h2]; show _ = some (pc + 1, _, Value.int (Int32.ofNat ((x + (4294967296 - y)) % 4294967296)) :: _); rw [y_sub32 x y (Nat.le_of_ble_eq_true h1)]; rfl) (fun f hf _ _ _ _ _ => by have hf := Option.some.inj hf; subst hf; rfl) hn
theorem y_i32z {y : Nat} (hy : y < 2147483648) (h : Nat.beq y (nat_lit 0) = false) : ¬ Int32.ofNat y = 0 := by
  intro e
  have h1 : (Int32.ofNat y).toInt = (0 : Int32).toInt := by rw [e]
  rw [Int32.toInt_ofNat_of_lt (by omega), show (0 : Int32).toInt = 0 from by decide] at h1
  have h2 : y = 0 := by omega
  subst h2
  cases h
theorem y_i64z {y : Nat} (hy : y < 9223372036854775808) (h : Nat.beq y (nat_lit 0) = false) : ¬ Int64.ofNat y = 0 := by
  intro e
  have h1 : (Int64.ofNat y).toInt = (0 : Int64).toInt := by rw [e]
  rw [Int64.toInt_ofNat_of_lt (by omega), show (0 : Int64).toInt = 0 from by decide] at h1
  have h2 : y = 0 := by omega
  subst h2
  cases h
theorem tt_idiv (hE : yOk G xs E) (hc : xcode k pc = some (.idiv, len, a, b)) (hn : yGd G xrec xs E rec k N (pc + 1) n) : yGd G xrec xs E rec k (N + 1) pc (yAr (nat_lit 5) n) := g_ar (o := nat_lit 5) hE hc rfl (fun _ _ _ x y q hq => by obtain ⟨h1, hq⟩ := y_tb_o hq; obtain ⟨h2, hq⟩ := y_tb_o hq; obtain ⟨h3, hq⟩ := y_tb_n hq; have hq := Option.some.inj hq; rw [← hq]; have h1 := y_blt_t h1; have h2 := y_blt_t h2; unfold xop; dsimp only; rw [if_neg (y_i32z h2 h3)]; show some (pc + 1, _, Value.int _ :: _) = some (pc + 1, _, Value.int (Int32.ofNat (x / y)) :: _); rw [y_div32 h1 h2]) (fun f hf _ _ _ _ _ => by cases hf) hn
theorem tt_irem (hE : yOk G xs E) (hc : xcode k pc = some (.irem, len, a, b)) (hn : yGd G xrec xs E rec k N (pc + 1) n) : yGd G xrec xs E rec k (N + 1) pc (yAr (nat_lit 6) n) := g_ar (o := nat_lit 6) hE hc rfl (fun _ _ _ x y q hq => by obtain ⟨h1, hq⟩ := y_tb_o hq; obtain ⟨h2, hq⟩ := y_tb_o hq; obtain ⟨h3, hq⟩ := y_tb_n hq; have hq := Option.some.inj hq; rw [← hq]; have h1 := y_blt_t h1; have h2 := y_blt_t h2; unfold xop; dsimp only; rw [if_neg (y_i32z h2 h3)]; show some (pc + 1, _, Value.int _ :: _) = some (pc + 1, _, Value.int (Int32.ofNat (x % y)) :: _); rw [y_rem32 h1 h2]) (fun f hf _ _ _ _ _ => by cases hf) hn
theorem y_shr32 {x y : Nat} (hx : x < 4294967296) (h : y < 32) : Int32.ofNat (x >>> y) = ((Int32.ofNat x).toUInt32 >>> ((Int32.ofNat y).toUInt32 &&& Int32.toUInt32 31)).toInt32 := by
  apply Int32.toBitVec_inj.mp
  apply BitVec.eq_of_toNat_eq
  show (x >>> y) % 2 ^ 32 = ((Int32.ofNat x).toUInt32 >>> ((Int32.ofNat y).toUInt32 &&& Int32.toUInt32 31)).toNat
  rw [UInt32.toNat_shiftRight]
  have h1 : ((Int32.ofNat y).toUInt32 &&& Int32.toUInt32 31).toNat = y := by
    rw [UInt32.toNat_and]
    show (y % 2 ^ 32) &&& 31 = y
    have h3 : y % 2 ^ 32 = y := by omega
    have h2 : y &&& (2 ^ 5 - 1) = y % 2 ^ 5 := Nat.and_two_pow_sub_one_eq_mod y 5
    rw [h3, show (31 : Nat) = 2 ^ 5 - 1 from rfl, h2]
    omega
  have h4 : (Int32.ofNat x).toUInt32.toNat = x := by
    show x % 2 ^ 32 = x
    omega
  rw [h1, h4, Nat.mod_eq_of_lt h]
  have h5 : x >>> y ≤ x := by rw [Nat.shiftRight_eq_div_pow]; exact Nat.div_le_self _ _
  exact Nat.mod_eq_of_lt (Nat.lt_of_le_of_lt h5 hx)
theorem tt_iushr (hE : yOk G xs E) (hc : xcode k pc = some (.iushr, len, a, b)) (hn : yGd G xrec xs E rec k N (pc + 1) n) : yGd G xrec xs E rec k (N + 1) pc (yAr (nat_lit 8) n) := g_ar (o := nat_lit 8) hE hc rfl (fun _ _ _ x y q hq => by obtain ⟨h1, hq⟩ := y_tb_o hq; obtain ⟨h2, hq⟩ := y_tb_o hq; have hq := Option.some.inj hq; rw [← hq]; show some (pc + 1, _, Value.int _ :: _) = some (pc + 1, _, Value.int (Int32.ofNat (x >>> y)) :: _); rw [y_shr32 (y_blt_t h1) (y_blt_t h2)]) (fun f hf _ _ _ _ _ => by have hf := Option.some.inj hf; subst hf; rfl) hn
theorem tt_ladd (hc : xcode k pc = some (.ladd, len, a, b)) (hn : yGd G xrec xs E rec k N (pc + 1) n) : yGd G xrec xs E rec k (N + 1) pc (yLa (nat_lit 0) n) := g_la (o := nat_lit 0) hc rfl (fun _ _ _ x y q hq => by have hq : some ((x + y) % 18446744073709551616) = some q := hq; have hq := Option.some.inj hq; subst hq; rw [y_add64]; rfl) hn
theorem tt_lsub (hc : xcode k pc = some (.lsub, len, a, b)) (hn : yGd G xrec xs E rec k N (pc + 1) n) : yGd G xrec xs E rec k (N + 1) pc (yLa (nat_lit 1) n) := g_la (o := nat_lit 1) hc rfl (fun _ _ _ x y q hq => by obtain ⟨h1, h2⟩ := y_tb_o hq; have h2 := Option.some.inj h2; rw [← h2]; show _ = some (pc + 1, _, Value.long (Int64.ofNat ((x + (18446744073709551616 - y)) % 18446744073709551616)) :: _); rw [y_sub64 x y (Nat.le_of_ble_eq_true h1)]; rfl) hn
theorem tt_lmul (hc : xcode k pc = some (.lmul, len, a, b)) (hn : yGd G xrec xs E rec k N (pc + 1) n) : yGd G xrec xs E rec k (N + 1) pc (yLa (nat_lit 2) n) := g_la (o := nat_lit 2) hc rfl (fun _ _ _ x y q hq => by have hq : some ((x * y) % 18446744073709551616) = some q := hq; have hq := Option.some.inj hq; subst hq; rw [y_mul64]; rfl) hn
theorem tt_lor (hc : xcode k pc = some (.lor, len, a, b)) (hn : yGd G xrec xs E rec k N (pc + 1) n) : yGd G xrec xs E rec k (N + 1) pc (yLa (nat_lit 3) n) := g_la (o := nat_lit 3) hc rfl (fun _ _ _ x y q hq => by have hq : some (Nat.lor x y) = some q := hq; have hq := Option.some.inj hq; subst hq; rw [y_or64]; rfl) hn
theorem tt_ldiv (hc : xcode k pc = some (.ldiv, len, a, b)) (hn : yGd G xrec xs E rec k N (pc + 1) n) : yGd G xrec xs E rec k (N + 1) pc (yLa (nat_lit 4) n) := g_la (o := nat_lit 4) hc rfl (fun _ _ _ x y q hq => by obtain ⟨h1, hq⟩ := y_tb_o hq; obtain ⟨h2, hq⟩ := y_tb_o hq; obtain ⟨h3, hq⟩ := y_tb_n hq; have hq := Option.some.inj hq; rw [← hq]; have h1 := y_blt_t h1; have h2 := y_blt_t h2; unfold xop; dsimp only; rw [if_neg (y_i64z h2 h3)]; show some (pc + 1, _, Value.long _ :: _) = some (pc + 1, _, Value.long (Int64.ofNat (x / y)) :: _); rw [y_div64 h1 h2]) hn
theorem tt_lrem (hc : xcode k pc = some (.lrem, len, a, b)) (hn : yGd G xrec xs E rec k N (pc + 1) n) : yGd G xrec xs E rec k (N + 1) pc (yLa (nat_lit 5) n) := g_la (o := nat_lit 5) hc rfl (fun _ _ _ x y q hq => by obtain ⟨h1, hq⟩ := y_tb_o hq; obtain ⟨h2, hq⟩ := y_tb_o hq; obtain ⟨h3, hq⟩ := y_tb_n hq; have hq := Option.some.inj hq; rw [← hq]; have h1 := y_blt_t h1; have h2 := y_blt_t h2; unfold xop; dsimp only; rw [if_neg (y_i64z h2 h3)]; show some (pc + 1, _, Value.long _ :: _) = some (pc + 1, _, Value.long (Int64.ofNat (x % y)) :: _); rw [y_rem64 h1 h2]) hn
theorem tt_lcmp (hc : xcode k pc = some (.lcmp, len, a, b)) (hn : yGd G xrec xs E rec k N (pc + 1) n) : yGd G xrec xs E rec k (N + 1) pc (yLcmp n) := g_lcmp hc hn
theorem tt_i2l (hE : yOk G xs E) (hc : xcode k pc = some (.i2l, len, a, b)) (hn : yGd G xrec xs E rec k N (pc + 1) n) : yGd G xrec xs E rec k (N + 1) pc (yI2l n) := g_i2l hE hc rfl (fun _ _ _ _ => rfl) hn
theorem tt_l2i (hc : xcode k pc = some (.l2i, len, a, b)) (hn : yGd G xrec xs E rec k N (pc + 1) n) : yGd G xrec xs E rec k (N + 1) pc (yL2i n) := g_l2i hc rfl (fun _ _ _ _ => rfl) hn
theorem tt_i2c (hE : yOk G xs E) (hc : xcode k pc = some (.i2c, len, a, b)) (hn : yGd G xrec xs E rec k N (pc + 1) n) : yGd G xrec xs E rec k (N + 1) pc (yI2c n) := g_i2c hE hc rfl (fun _ _ _ _ => rfl) hn
theorem tt_goto {o : Int} (hc : xcode k pc = some (.goto o, len, a, b)) : yGd G xrec xs E rec k 1 pc (yGoto a n) := g_goto hc rfl (fun _ _ _ => rfl)
theorem tt_ifnull {o : Int} (hc : xcode k pc = some (.ifnull o, len, a, b)) (hn : yGd G xrec xs E rec k N (pc + 3) n) : yGd G xrec xs E rec k (N + 1) pc (yIfnull n) := g_ifnull hc rfl (fun _ _ _ _ => rfl) hn
theorem y_cd_lt (cd : Jvm.ClassFile.Cond) : y_cd cd < 6 := by cases cd <;> decide
theorem tt_if {cd : Jvm.ClassFile.Cond} {o : Int} {c : Nat} (hE : yOk G xs E) (hc : xcode k pc = some (.ifCond cd o, len, a, b)) (hcd : y_cd cd = c) (hn : yGd G xrec xs E rec k N (pc + 3) n) : yGd G xrec xs E rec k (N + 1) pc (yIfc c a n) := by subst hcd; exact g_ifc hE (y_cd_lt cd) hc rfl (fun _ _ _ _ => y_if_e2 _ _ _ _ _ _ _ _) hn
theorem tt_icmp {cd : Jvm.ClassFile.Cond} {o : Int} {c : Nat} (hE : yOk G xs E) (hc : xcode k pc = some (.if_icmp cd o, len, a, b)) (hcd : y_cd cd = c) (hn : yGd G xrec xs E rec k N (pc + 3) n) : yGd G xrec xs E rec k (N + 1) pc (yIcmp c a n) := by subst hcd; exact g_icmp hE (y_cd_lt cd) hc rfl (fun _ _ _ _ _ => y_icmp_e2 _ _ _ _ _ _ _ _ _) hn
theorem y_putI {v : yV} (hf : xfty a b = .int) (h : y_kI v = true) : xfit (xfty a b) (y_dec G v) = true := by
  obtain ⟨x, hx⟩ := y_kI_e (G := G) h
  rw [hf, hx]
  rfl
theorem y_putZ {v : yV} (hf : xfty a b = .boolean) (h : y_kZ v = true) : xfit (xfty a b) (y_dec G v) = true := by
  obtain ⟨x, hx, hz⟩ := y_kZ_e (G := G) h
  rw [hf, hx]
  exact hz
theorem y_putR {v : yV} (hf : xfit (xfty a b) (.ref 0) = true) (h : y_kR v = true) : xfit (xfty a b) (y_dec G v) = true := by
  obtain ⟨x, hx⟩ := y_kR_e (G := G) h
  rw [hx]
  generalize xfty a b = t at hf
  cases t with
  | object _ => rfl
  | array _ => rfl
  | _ => cases hf
theorem tt_putI {ix : Nat} (hc : xcode k pc = some (.putfield ix, len, a, b)) (hf : xfty a b = .int) (hn : yGd G xrec xs E rec k N (pc + 3) n) : yGd G xrec xs E rec k (N + 1) pc (yPutf a b y_kI n) := g_putf hc (fun _ h => y_putI hf h) hn
theorem tt_putZ {ix : Nat} (hc : xcode k pc = some (.putfield ix, len, a, b)) (hf : xfty a b = .boolean) (hn : yGd G xrec xs E rec k N (pc + 3) n) : yGd G xrec xs E rec k (N + 1) pc (yPutf a b y_kZ n) := g_putf hc (fun _ h => y_putZ hf h) hn
theorem tt_putR {ix : Nat} (hc : xcode k pc = some (.putfield ix, len, a, b)) (hf : xfit (xfty a b) (.ref 0) = true) (hn : yGd G xrec xs E rec k N (pc + 3) n) : yGd G xrec xs E rec k (N + 1) pc (yPutf a b y_kR n) := g_putf hc (fun _ h => y_putR hf h) hn
theorem tt_get {ix : Nat} (hc : xcode k pc = some (.getfield ix, len, a, b)) (hn : yGd G xrec xs E rec k N (pc + 3) n) : yGd G xrec xs E rec k (N + 1) pc (yGetf a b n) := g_getf hc hn
theorem tt_iaload (hc : xcode k pc = some (.iaload, len, a, b)) (hn : yGd G xrec xs E rec k N (pc + 1) n) : yGd G xrec xs E rec k (N + 1) pc (yAld (nat_lit 100) y_kI n) := g_ald (a := nat_lit 100) (fun _ _ _ _ _ _ _ _ _ hok h1 hj h2 => by obtain ⟨x, hx⟩ := y_kI_e (G := G) hok; rw [hx] at h2 ⊢; exact xs_iald hc h1 hj h2) hn
theorem tt_laload (hc : xcode k pc = some (.laload, len, a, b)) (hn : yGd G xrec xs E rec k N (pc + 1) n) : yGd G xrec xs E rec k (N + 1) pc (yAld (nat_lit 101) y_kJ n) := g_ald (a := nat_lit 101) (fun _ _ _ _ _ _ _ _ _ hok h1 hj h2 => by obtain ⟨x, hx⟩ := y_kJ_e (G := G) hok; rw [hx] at h2 ⊢; exact xs_lald hc h1 hj h2) hn
theorem tt_caload (hc : xcode k pc = some (.caload, len, a, b)) (hn : yGd G xrec xs E rec k N (pc + 1) n) : yGd G xrec xs E rec k (N + 1) pc (yAld (nat_lit 102) y_kI n) := g_ald (a := nat_lit 102) (fun _ _ _ _ _ _ _ _ _ hok h1 hj h2 => by obtain ⟨x, hx⟩ := y_kI_e (G := G) hok; rw [hx] at h2 ⊢; exact xs_cald hc h1 hj h2) hn
theorem tt_aaload (hc : xcode k pc = some (.aaload, len, a, b)) (hn : yGd G xrec xs E rec k N (pc + 1) n) : yGd G xrec xs E rec k (N + 1) pc (yAld (nat_lit 103) y_kR n) := g_ald (a := nat_lit 103) (fun _ _ _ _ _ _ _ _ _ hok h1 hj h2 => by obtain ⟨x, hx⟩ := y_kR_e (G := G) hok; rw [hx] at h2 ⊢; exact xs_aald hc h1 hj h2) hn
theorem tt_iastore (hc : xcode k pc = some (.iastore, len, a, b)) (hn : yGd G xrec xs E rec k N (pc + 1) n) : yGd G xrec xs E rec k (N + 1) pc (yAst (nat_lit 100) y_kI n) := g_ast (a := nat_lit 100) (fun _ _ _ _ _ _ _ _ _ hok h1 hj => by obtain ⟨x, hx⟩ := y_kI_e (G := G) hok; rw [hx]; exact xs_iast hc h1 hj) hn
theorem tt_lastore (hc : xcode k pc = some (.lastore, len, a, b)) (hn : yGd G xrec xs E rec k N (pc + 1) n) : yGd G xrec xs E rec k (N + 1) pc (yAst (nat_lit 101) y_kJ n) := g_ast (a := nat_lit 101) (fun _ _ _ _ _ _ _ _ _ hok h1 hj => by obtain ⟨x, hx⟩ := y_kJ_e (G := G) hok; rw [hx]; exact xs_last hc h1 hj) hn
theorem tt_castore (hE : yOk G xs E) (hc : xcode k pc = some (.castore, len, a, b)) (hn : yGd G xrec xs E rec k N (pc + 1) n) : yGd G xrec xs E rec k (N + 1) pc (yCast n) := g_cast hE hc hn
theorem tt_aastore (hc : xcode k pc = some (.aastore, len, a, b)) (hn : yGd G xrec xs E rec k N (pc + 1) n) : yGd G xrec xs E rec k (N + 1) pc (yAast n) := g_aast hc hn
theorem tt_arraylength (hc : xcode k pc = some (.arraylength, len, a, b)) (hn : yGd G xrec xs E rec k N (pc + 1) n) : yGd G xrec xs E rec k (N + 1) pc (yAlen n) := g_alen hc hn
theorem tt_slen (hE : yOk G xs E) (hc : xcode k pc = some (.arraylength, len, a, b)) (hn : yGd G xrec xs E rec k N (pc + 1) n) : yGd G xrec xs E rec k (N + 1) pc (ySlen n) := g_slen hE hc hn
theorem tt_sld (hE : yOk G xs E) (hc : xcode k pc = some (.iaload, len, a, b)) (hn : yGd G xrec xs E rec k N (pc + 1) n) : yGd G xrec xs E rec k (N + 1) pc (ySld n) := g_sld hE hc hn
theorem tt_new {MC MS l : Nat} {s : yT} {ix : Nat} (hc : xcode k pc = some (.new ix, len, a, 0)) (hM : (Nat.beq MC (xMc k) && Nat.beq MS (xMs k)) = true) (hd : xdef a = y_sl G l s) (hn : yGd G xrec xs E rec k N (pc + 3) n) : yGd G xrec xs E rec k (N + 1) pc (yNew MC MS a l s n) := by obtain ⟨h1, h2⟩ := xand hM; exact g_new hc (xbe h1) (xbe h2) hd hn
theorem tt_thr {MC MS ix : Nat} (hc : xcode k pc = some (.new ix, len, a, b)) (hM : (Nat.blt 0 b && (Nat.beq MC (xMc k) && (Nat.beq MS (xMs k) && (Nat.ble 6 (xFr k) && Nat.ble 90 (xLo k))))) = true) : yGd G xrec xs E rec k 0 pc (yThr MC MS a n) := by obtain ⟨h0, hM⟩ := xand hM; obtain ⟨h1, hM⟩ := xand hM; obtain ⟨h2, hM⟩ := xand hM; exact g_thr (y_blt_t h0) hc hM (xbe h1) (xbe h2)
theorem xs_newa {ty : ArrayType} {ls : XL} {r : List Value} {q cu su : Nat} {σ : XW} (hc : xcode k pc = some (.newarray ty, len, a, b)) (hf : σ.1 = true) (hq : q ≤ 4096) (h1 : cu + 1 ≤ xMc k) (h2 : su + q ≤ xMs k) : xstep xrec xs k (pc, ls, .int (Int32.ofNat q) :: r, cu, su, σ) = some (.inl (pc + 2, ls, .ref σ.2.length :: r, cu + 1, su + q, (true, σ.2 ++ [(a, List.replicate q (bif Nat.beq a 101 then .long 0 else .int 0))]))) := by
  unfold xstep; dsimp only; rw [hc]; dsimp only
  rw [hf, y_tn32 hq, decide_eq_true (y_nn32 hq), show Nat.ble q 1000000 = true from Nat.ble_eq_true_of_le (by omega), show Nat.ble (cu + 1) (xMc k) = true from Nat.ble_eq_true_of_le h1, show Nat.ble (su + q) (xMs k) = true from Nat.ble_eq_true_of_le h2]
  rfl
theorem xs_anew {ix : Nat} {ls : XL} {r : List Value} {q cu su : Nat} {σ : XW} (hc : xcode k pc = some (.anewarray ix, len, a, b)) (hf : σ.1 = true) (hq : q ≤ 4096) (h1 : cu + 1 ≤ xMc k) (h2 : su + q ≤ xMs k) : xstep xrec xs k (pc, ls, .int (Int32.ofNat q) :: r, cu, su, σ) = some (.inl (pc + 3, ls, .ref σ.2.length :: r, cu + 1, su + q, (true, σ.2 ++ [(103, List.replicate q .null)]))) := by
  unfold xstep; dsimp only; rw [hc]; dsimp only
  rw [hf, y_tn32 hq, decide_eq_true (y_nn32 hq), show Nat.ble q 1000000 = true from Nat.ble_eq_true_of_le (by omega), show Nat.ble (cu + 1) (xMc k) = true from Nat.ble_eq_true_of_le h1, show Nat.ble (su + q) (xMs k) = true from Nat.ble_eq_true_of_le h2]
  rfl
theorem tt_newarray {MC MS : Nat} {z : yV} {ty : ArrayType} (hc : xcode k pc = some (.newarray ty, len, a, b)) (hM : (Nat.beq MC (xMc k) && Nat.beq MS (xMs k)) = true) (hz : y_dec G z = (bif Nat.beq a 101 then .long 0 else .int 0)) (hn : yGd G xrec xs E rec k N (pc + 2) n) : yGd G xrec xs E rec k (N + 1) pc (yNewa MC MS a z n) := by obtain ⟨h1, h2⟩ := xand hM; exact g_newa hz (fun _ _ _ _ _ _ hf hq g1 g2 => xs_newa hc hf hq g1 g2) (xbe h1) (xbe h2) hn
theorem tt_anewarray {MC MS : Nat} {ix : Nat} (hc : xcode k pc = some (.anewarray ix, len, a, b)) (hM : (Nat.beq MC (xMc k) && Nat.beq MS (xMs k)) = true) (hn : yGd G xrec xs E rec k N (pc + 3) n) : yGd G xrec xs E rec k (N + 1) pc (yNewa MC MS (nat_lit 103) (y_v .null) n) := by obtain ⟨h1, h2⟩ := xand hM; exact g_newa (u := .null) rfl (fun _ _ _ _ _ _ hf hq g1 g2 => xs_anew hc hf hq g1 g2) (xbe h1) (xbe h2) hn
/-- all that a call asks of the tables -/
def y_cst (k pc a na mc ms MC MS : Nat) (hs : List (Nat × Nat × Nat)) : Bool := Nat.beq na (xNa a) && (Nat.beq mc (xMc a) && (Nat.beq ms (xMs a) && (Nat.beq MC (xMc k) && (Nat.beq MS (xMs k) && (y_rst k a && y_hk k pc (xHh k) hs)))))
theorem y_cst_e {na mc ms MC MS : Nat} {hs : List (Nat × Nat × Nat)} (h : y_cst k pc a na mc ms MC MS hs = true) : na = xNa a ∧ mc = xMc a ∧ ms = xMs a ∧ MC = xMc k ∧ MS = xMs k ∧ y_rst k a = true ∧ y_hk k pc (xHh k) hs = true := by
  unfold y_cst at h
  obtain ⟨h1, h⟩ := xand h
  obtain ⟨h2, h⟩ := xand h
  obtain ⟨h3, h⟩ := xand h
  obtain ⟨h4, h⟩ := xand h
  obtain ⟨h5, h⟩ := xand h
  obtain ⟨h6, h⟩ := xand h
  exact ⟨xbe h1, xbe h2, xbe h3, xbe h4, xbe h5, h6, h⟩
theorem tt_calS {na mc ms MC MS ix : Nat} {hs : List (Nat × Nat × Nat)} (hR : yRecOk G rec xrec) (hc : xcode k pc = some (.invokestatic ix, len, a, 0)) (h : y_cst k pc a na mc ms MC MS hs = true) (hn : yGd G xrec xs E rec k N (pc + 3) n) : yGd G xrec xs E rec k (N + 1) pc (yCalS a na mc ms MC MS hs n) := by obtain ⟨e1, e2, e3, e4, e5, h6, h7⟩ := y_cst_e h; exact g_calS hR hc e1 e2 e3 e4 e5 h6 h7 hn
theorem tt_calI {na mc ms MC MS ix : Nat} {hs : List (Nat × Nat × Nat)} (hR : yRecOk G rec xrec) (hc : xcode k pc = some (.invokespecial ix, len, a, b)) (hb : (Nat.beq b 0 || Nat.beq b 1) = true) (h : y_cst k pc a na mc ms MC MS hs = true) (hn : yGd G xrec xs E rec k N (pc + 3) n) : yGd G xrec xs E rec k (N + 1) pc (yCalI a na mc ms MC MS hs n) := by obtain ⟨e1, e2, e3, e4, e5, h6, h7⟩ := y_cst_e h; exact g_calI hR ((Bool.or_eq_true _ _ ▸ hb).imp Nat.eq_of_beq_eq_true Nat.eq_of_beq_eq_true) hc e1 e2 e3 e4 e5 h6 h7 hn
theorem tt_calV {na cl mc ms MC MS ix : Nat} {hs : List (Nat × Nat × Nat)} (hR : yRecOk G rec xrec) (hc : xcode k pc = some (.invokevirtual ix, len, a, b)) (hk : Nat.beq cl (xK a) = true) (h : y_cst k pc a na mc ms MC MS hs = true) (hn : yGd G xrec xs E rec k N (pc + 3) n) : yGd G xrec xs E rec k (N + 1) pc (yCalV a na cl mc ms MC MS hs n) := by obtain ⟨e1, e2, e3, e4, e5, h6, h7⟩ := y_cst_e h; exact g_calV hR hc (xbe hk) e1 e2 e3 e4 e5 h6 h7 hn
theorem tt_obj {ix : Nat} (hc : xcode k pc = some (.invokespecial ix, len, a, 2)) (hst : (Nat.ble 1 (xFr k) && Nat.ble 20 (xLo k)) = true) (hn : yGd G xrec xs E rec k N (pc + 3) n) : yGd G xrec xs E rec k (N + 1) pc (yObj n) := g_obj hc hst hn
theorem tt_acpy {ix : Nat} (hc : xcode k pc = some (.invokestatic ix, len, 0, 1)) (hst : (Nat.ble 1 (xFr k) && Nat.ble 38 (xLo k)) = true) (hn : yGd G xrec xs E rec k N (pc + 3) n) : yGd G xrec xs E rec k (N + 1) pc (yAcpy n) := g_acpy hc hst hn
theorem tt_bitd {ix : Nat} (hc : xcode k pc = some (.invokestatic ix, len, 1, 1)) (hst : (Nat.ble 1 (xFr k) && Nat.ble 23 (xLo k)) = true) (hn : yGd G xrec xs E rec k N (pc + 3) n) : yGd G xrec xs E rec k (N + 1) pc (yBitD n) := g_bitd hc hst hn
theorem tt_bitf {ix : Nat} (hc : xcode k pc = some (.invokestatic ix, len, 2, 1)) (hst : (Nat.ble 1 (xFr k) && Nat.ble 23 (xLo k)) = true) (hn : yGd G xrec xs E rec k N (pc + 3) n) : yGd G xrec xs E rec k (N + 1) pc (yBitF n) := g_bitf hc hst hn
theorem tt_reti {MC MS : Nat} (hc : xcode k pc = some (.ireturn, len, a, b)) (hr : xRet k = some .int) (hM : (Nat.beq MC (xMc k) && Nat.beq MS (xMs k)) = true) : yGd G xrec xs E rec k 0 pc (yRet1 MC MS y_kI n) := by obtain ⟨h1, h2⟩ := xand hM; exact g_reti hc hr (xbe h1) (xbe h2)
theorem tt_retz {MC MS : Nat} (hc : xcode k pc = some (.ireturn, len, a, b)) (hr : xRet k = some .boolean) (hM : (Nat.beq MC (xMc k) && Nat.beq MS (xMs k)) = true) : yGd G xrec xs E rec k 0 pc (yRet1 MC MS y_kZ n) := by obtain ⟨h1, h2⟩ := xand hM; exact g_retz hc hr (xbe h1) (xbe h2)
theorem tt_retl {MC MS : Nat} (hc : xcode k pc = some (.lreturn, len, a, b)) (hr : xRet k = some .long) (hM : (Nat.beq MC (xMc k) && Nat.beq MS (xMs k)) = true) : yGd G xrec xs E rec k 0 pc (yRet1 MC MS y_kJ n) := by obtain ⟨h1, h2⟩ := xand hM; exact g_retl hc hr (xbe h1) (xbe h2)
theorem tt_ret0 {MC MS : Nat} (hc : xcode k pc = some (.return_, len, a, b)) (hr : xRet k = none) (hM : (Nat.beq MC (xMc k) && Nat.beq MS (xMs k)) = true) : yGd G xrec xs E rec k 0 pc (yRet0 MC MS n) := by obtain ⟨h1, h2⟩ := xand hM; exact g_ret0 hc hr (xbe h1) (xbe h2)
theorem h_dadd (nl : Nat) (ls : XL) (r : List Value) (y x w : Value) (h : y_F2 (.dadd) y x = some w) : xop (.dadd) pc a nl ls (y :: x :: r) = some (pc + 1, ls, w :: r) := by
  cases y with
  | double y => cases x with
    | double x => 
      by_cases hcnd : FP.dadd x y &&& 0x7fffffffffffffff ≤ 0x7ff0000000000000
      · have h2 : y_F2 (.dadd) (.double y) (.double x) = some (.double (FP.dadd x y)) := by unfold y_F2 xop; dsimp only; rw [if_pos hcnd]
        rw [h2] at h
        cases h
        unfold xop; dsimp only; rw [if_pos hcnd]
      · have h2 : y_F2 (.dadd) (.double y) (.double x) = none := by unfold y_F2 xop; dsimp only; rw [if_neg hcnd]
        rw [h2] at h
        cases h
    | _ => cases h
  | _ => cases h
theorem tt_dadd (hc : xcode k pc = some (.dadd, len, a, b)) (hn : yGd G xrec xs E rec k N (pc + 1) n) : yGd G xrec xs E rec k (N + 1) pc (yF2 (.dadd) n) := g_F2 hc rfl (fun nl ls r y x w h => h_dadd nl ls r y x w h) hn
theorem h_dsub (nl : Nat) (ls : XL) (r : List Value) (y x w : Value) (h : y_F2 (.dsub) y x = some w) : xop (.dsub) pc a nl ls (y :: x :: r) = some (pc + 1, ls, w :: r) := by
  cases y with
  | double y => cases x with
    | double x => 
      by_cases hcnd : FP.dsub x y &&& 0x7fffffffffffffff ≤ 0x7ff0000000000000
      · have h2 : y_F2 (.dsub) (.double y) (.double x) = some (.double (FP.dsub x y)) := by unfold y_F2 xop; dsimp only; rw [if_pos hcnd]
        rw [h2] at h
        cases h
        unfold xop; dsimp only; rw [if_pos hcnd]
      · have h2 : y_F2 (.dsub) (.double y) (.double x) = none := by unfold y_F2 xop; dsimp only; rw [if_neg hcnd]
        rw [h2] at h
        cases h
    | _ => cases h
  | _ => cases h
theorem tt_dsub (hc : xcode k pc = some (.dsub, len, a, b)) (hn : yGd G xrec xs E rec k N (pc + 1) n) : yGd G xrec xs E rec k (N + 1) pc (yF2 (.dsub) n) := g_F2 hc rfl (fun nl ls r y x w h => h_dsub nl ls r y x w h) hn
theorem h_dmul (nl : Nat) (ls : XL) (r : List Value) (y x w : Value) (h : y_F2 (.dmul) y x = some w) : xop (.dmul) pc a nl ls (y :: x :: r) = some (pc + 1, ls, w :: r) := by
  cases y with
  | double y => cases x with
    | double x => 
      by_cases hcnd : FP.dmul x y &&& 0x7fffffffffffffff ≤ 0x7ff0000000000000
      · have h2 : y_F2 (.dmul) (.double y) (.double x) = some (.double (FP.dmul x y)) := by unfold y_F2 xop; dsimp only; rw [if_pos hcnd]
        rw [h2] at h
        cases h
        unfold xop; dsimp only; rw [if_pos hcnd]
      · have h2 : y_F2 (.dmul) (.double y) (.double x) = none := by unfold y_F2 xop; dsimp only; rw [if_neg hcnd]
        rw [h2] at h
        cases h
    | _ => cases h
  | _ => cases h
theorem tt_dmul (hc : xcode k pc = some (.dmul, len, a, b)) (hn : yGd G xrec xs E rec k N (pc + 1) n) : yGd G xrec xs E rec k (N + 1) pc (yF2 (.dmul) n) := g_F2 hc rfl (fun nl ls r y x w h => h_dmul nl ls r y x w h) hn
theorem h_ddiv (nl : Nat) (ls : XL) (r : List Value) (y x w : Value) (h : y_F2 (.ddiv) y x = some w) : xop (.ddiv) pc a nl ls (y :: x :: r) = some (pc + 1, ls, w :: r) := by
  cases y with
  | double y => cases x with
    | double x => 
      by_cases hcnd : FP.ddiv x y &&& 0x7fffffffffffffff ≤ 0x7ff0000000000000
      · have h2 : y_F2 (.ddiv) (.double y) (.double x) = some (.double (FP.ddiv x y)) := by unfold y_F2 xop; dsimp only; rw [if_pos hcnd]
        rw [h2] at h
        cases h
        unfold xop; dsimp only; rw [if_pos hcnd]
      · have h2 : y_F2 (.ddiv) (.double y) (.double x) = none := by unfold y_F2 xop; dsimp only; rw [if_neg hcnd]
        rw [h2] at h
        cases h
    | _ => cases h
  | _ => cases h
theorem tt_ddiv (hc : xcode k pc = some (.ddiv, len, a, b)) (hn : yGd G xrec xs E rec k N (pc + 1) n) : yGd G xrec xs E rec k (N + 1) pc (yF2 (.ddiv) n) := g_F2 hc rfl (fun nl ls r y x w h => h_ddiv nl ls r y x w h) hn
theorem h_fsub (nl : Nat) (ls : XL) (r : List Value) (y x w : Value) (h : y_F2 (.fsub) y x = some w) : xop (.fsub) pc a nl ls (y :: x :: r) = some (pc + 1, ls, w :: r) := by
  cases y with
  | float y => cases x with
    | float x => 
      by_cases hcnd : FP.fsub x y &&& 0x7fffffff ≤ 0x7f800000
      · have h2 : y_F2 (.fsub) (.float y) (.float x) = some (.float (FP.fsub x y)) := by unfold y_F2 xop; dsimp only; rw [if_pos hcnd]
        rw [h2] at h
        cases h
        unfold xop; dsimp only; rw [if_pos hcnd]
      · have h2 : y_F2 (.fsub) (.float y) (.float x) = none := by unfold y_F2 xop; dsimp only; rw [if_neg hcnd]
        rw [h2] at h
        cases h
    | _ => cases h
  | _ => cases h
theorem tt_fsub (hc : xcode k pc = some (.fsub, len, a, b)) (hn : yGd G xrec xs E rec k N (pc + 1) n) : yGd G xrec xs E rec k (N + 1) pc (yF2 (.fsub) n) := g_F2 hc rfl (fun nl ls r y x w h => h_fsub nl ls r y x w h) hn
theorem h_fmul (nl : Nat) (ls : XL) (r : List Value) (y x w : Value) (h : y_F2 (.fmul) y x = some w) : xop (.fmul) pc a nl ls (y :: x :: r) = some (pc + 1, ls, w :: r) := by
  cases y with
  | float y => cases x with
    | float x => 
      by_cases hcnd : FP.fmul x y &&& 0x7fffffff ≤ 0x7f800000
      · have h2 : y_F2 (.fmul) (.float y) (.float x) = some (.float (FP.fmul x y)) := by unfold y_F2 xop; dsimp only; rw [if_pos hcnd]
        rw [h2] at h
        cases h
        unfold xop; dsimp only; rw [if_pos hcnd]
      · have h2 : y_F2 (.fmul) (.float y) (.float x) = none := by unfold y_F2 xop; dsimp only; rw [if_neg hcnd]
        rw [h2] at h
        cases h
    | _ => cases h
  | _ => cases h
theorem tt_fmul (hc : xcode k pc = some (.fmul, len, a, b)) (hn : yGd G xrec xs E rec k N (pc + 1) n) : yGd G xrec xs E rec k (N + 1) pc (yF2 (.fmul) n) := g_F2 hc rfl (fun nl ls r y x w h => h_fmul nl ls r y x w h) hn
theorem h_fdiv (nl : Nat) (ls : XL) (r : List Value) (y x w : Value) (h : y_F2 (.fdiv) y x = some w) : xop (.fdiv) pc a nl ls (y :: x :: r) = some (pc + 1, ls, w :: r) := by
  cases y with
  | float y => cases x with
    | float x => 
      by_cases hcnd : FP.fdiv x y &&& 0x7fffffff ≤ 0x7f800000
      · have h2 : y_F2 (.fdiv) (.float y) (.float x) = some (.float (FP.fdiv x y)) := by unfold y_F2 xop; dsimp only; rw [if_pos hcnd]
        rw [h2] at h
        cases h
        unfold xop; dsimp only; rw [if_pos hcnd]
      · have h2 : y_F2 (.fdiv) (.float y) (.float x) = none := by unfold y_F2 xop; dsimp only; rw [if_neg hcnd]
        rw [h2] at h
        cases h
    | _ => cases h
  | _ => cases h
theorem tt_fdiv (hc : xcode k pc = some (.fdiv, len, a, b)) (hn : yGd G xrec xs E rec k N (pc + 1) n) : yGd G xrec xs E rec k (N + 1) pc (yF2 (.fdiv) n) := g_F2 hc rfl (fun nl ls r y x w h => h_fdiv nl ls r y x w h) hn
theorem h_dcmp {o : Jvm.ClassFile.CmpOp} (nl : Nat) (ls : XL) (r : List Value) (y x w : Value) (h : y_F2 (.dcmp o) y x = some w) : xop (.dcmp o) pc a nl ls (y :: x :: r) = some (pc + 1, ls, w :: r) := by
  cases y with
  | double y => cases x with
    | double x => cases h; rfl
    | _ => cases h
  | _ => cases h
theorem tt_dcmp {o : Jvm.ClassFile.CmpOp} (hc : xcode k pc = some (.dcmp o, len, a, b)) (hn : yGd G xrec xs E rec k N (pc + 1) n) : yGd G xrec xs E rec k (N + 1) pc (yF2 (.dcmp o) n) := g_F2 hc rfl (fun nl ls r y x w h => h_dcmp nl ls r y x w h) hn
theorem h_fcmp {o : Jvm.ClassFile.CmpOp} (nl : Nat) (ls : XL) (r : List Value) (y x w : Value) (h : y_F2 (.fcmp o) y x = some w) : xop (.fcmp o) pc a nl ls (y :: x :: r) = some (pc + 1, ls, w :: r) := by
  cases y with
  | float y => cases x with
    | float x => cases h; rfl
    | _ => cases h
  | _ => cases h
theorem tt_fcmp {o : Jvm.ClassFile.CmpOp} (hc : xcode k pc = some (.fcmp o, len, a, b)) (hn : yGd G xrec xs E rec k N (pc + 1) n) : yGd G xrec xs E rec k (N + 1) pc (yF2 (.fcmp o) n) := g_F2 hc rfl (fun nl ls r y x w h => h_fcmp nl ls r y x w h) hn
theorem h_lshl (nl : Nat) (ls : XL) (r : List Value) (y x w : Value) (h : y_F2 .lshl y x = some w) : xop .lshl pc a nl ls (y :: x :: r) = some (pc + 1, ls, w :: r) := by
  cases y with
  | int y => cases x with
    | long x => cases h; rfl
    | _ => cases h
  | _ => cases h
theorem tt_lshl (hc : xcode k pc = some (.lshl, len, a, b)) (hn : yGd G xrec xs E rec k N (pc + 1) n) : yGd G xrec xs E rec k (N + 1) pc (yF2 .lshl n) := g_F2 hc rfl (fun nl ls r y x w h => h_lshl nl ls r y x w h) hn
theorem h_ishl (nl : Nat) (ls : XL) (r : List Value) (y x w : Value) (h : y_F2 .ishl y x = some w) : xop .ishl pc a nl ls (y :: x :: r) = some (pc + 1, ls, w :: r) := by
  cases y with
  | int y => cases x with
    | int x => cases h; rfl
    | _ => cases h
  | _ => cases h
theorem tt_ishl (hc : xcode k pc = some (.ishl, len, a, b)) (hn : yGd G xrec xs E rec k N (pc + 1) n) : yGd G xrec xs E rec k (N + 1) pc (yF2 .ishl n) := g_F2 hc rfl (fun nl ls r y x w h => h_ishl nl ls r y x w h) hn
theorem h_i2d (nl : Nat) (ls : XL) (r : List Value) (x w : Value) (h : y_F1 .i2d x = some w) : xop .i2d pc a nl ls (x :: r) = some (pc + 1, ls, w :: r) := by
  cases x with
  | int x => cases h; rfl
  | _ => cases h
theorem tt_i2d (hc : xcode k pc = some (.i2d, len, a, b)) (hn : yGd G xrec xs E rec k N (pc + 1) n) : yGd G xrec xs E rec k (N + 1) pc (yF1 .i2d n) := g_F1 hc rfl (fun nl ls r x w h => h_i2d nl ls r x w h) hn
theorem h_i2f (nl : Nat) (ls : XL) (r : List Value) (x w : Value) (h : y_F1 .i2f x = some w) : xop .i2f pc a nl ls (x :: r) = some (pc + 1, ls, w :: r) := by
  cases x with
  | int x => cases h; rfl
  | _ => cases h
theorem tt_i2f (hc : xcode k pc = some (.i2f, len, a, b)) (hn : yGd G xrec xs E rec k N (pc + 1) n) : yGd G xrec xs E rec k (N + 1) pc (yF1 .i2f n) := g_F1 hc rfl (fun nl ls r x w h => h_i2f nl ls r x w h) hn
theorem h_f2i (nl : Nat) (ls : XL) (r : List Value) (x w : Value) (h : y_F1 .f2i x = some w) : xop .f2i pc a nl ls (x :: r) = some (pc + 1, ls, w :: r) := by
  cases x with
  | float x => cases h; rfl
  | _ => cases h
theorem tt_f2i (hc : xcode k pc = some (.f2i, len, a, b)) (hn : yGd G xrec xs E rec k N (pc + 1) n) : yGd G xrec xs E rec k (N + 1) pc (yF1 .f2i n) := g_F1 hc rfl (fun nl ls r x w h => h_f2i nl ls r x w h) hn
theorem h_d2l (nl : Nat) (ls : XL) (r : List Value) (x w : Value) (h : y_F1 .d2l x = some w) : xop .d2l pc a nl ls (x :: r) = some (pc + 1, ls, w :: r) := by
  cases x with
  | double x => cases h; rfl
  | _ => cases h
theorem tt_d2l (hc : xcode k pc = some (.d2l, len, a, b)) (hn : yGd G xrec xs E rec k N (pc + 1) n) : yGd G xrec xs E rec k (N + 1) pc (yF1 .d2l n) := g_F1 hc rfl (fun nl ls r x w h => h_d2l nl ls r x w h) hn
theorem g_node {t : Nat} {bb : Bool} {x y : yKK} (hx : yGd G xrec xs E rec k 63 t x) (hy : yGd G xrec xs E rec k 63 t y) : yGd G xrec xs E rec k 63 t (@Bool.rec (fun _ => yKK) y x bb) := by
  cases bb with
  | true => exact hx
  | false => exact hy
theorem g_leaf {t p : Nat} {x : yKK} (hx : yGd G xrec xs E rec k 63 p x) : yGd G xrec xs E rec k 63 t (@Bool.rec (fun _ => yKK) yBad2 x (Nat.beq t p)) := by
  cases hb : Nat.beq t p with
  | true => have hb := Nat.eq_of_beq_eq_true hb; subst hb; exact hx
  | false => exact fun _ _ _ _ => yTo_no
theorem g_bad2 {t : Nat} : yGd G xrec xs E rec k 63 t yBad2 := fun _ _ _ _ => yTo_no
end YST
end
section
/-! Every block of every method is right (0). -/
theorem yd_0_e (G : yG) : xdef 0 = y_sl G (nat_lit 3) yd_0 := rfl
theorem yd_1_e (G : yG) : xdef 1 = y_sl G (nat_lit 3) yd_1 := rfl
theorem yd_2_e (G : yG) : xdef 2 = y_sl G (nat_lit 5) yd_2 := rfl
theorem yd_3_e (G : yG) : xdef 3 = y_sl G (nat_lit 2) yd_3 := rfl
theorem yd_4_e (G : yG) : xdef 4 = y_sl G (nat_lit 2) yd_4 := rfl
theorem yd_5_e (G : yG) : xdef 5 = y_sl G (nat_lit 4) yd_5 := rfl
theorem yd_6_e (G : yG) : xdef 6 = y_sl G (nat_lit 8) yd_6 := rfl
theorem yd_7_e (G : yG) : xdef 7 = y_sl G (nat_lit 4) yd_7 := rfl
theorem yd_8_e (G : yG) : xdef 8 = y_sl G (nat_lit 5) yd_8 := rfl
theorem yd_9_e (G : yG) : xdef 9 = y_sl G (nat_lit 1) yd_9 := rfl
theorem yd_10_e (G : yG) : xdef 10 = y_sl G (nat_lit 10) yd_10 := rfl
theorem yd_11_e (G : yG) : xdef 11 = y_sl G (nat_lit 43) yd_11 := rfl
theorem u_0 {G : yG} : y_dec G (y_j (nat_lit 100)) = .long (100) := congrArg Value.long (by decide +kernel)
theorem u_1 {G : yG} : y_dec G (y_j (nat_lit 16)) = .long (16) := congrArg Value.long (by decide +kernel)
theorem u_2 {G : yG} : y_dec G (y_j (nat_lit 1000000)) = .long (1000000) := congrArg Value.long (by decide +kernel)
theorem u_3 {G : yG} : y_dec G (y_i (nat_lit 1000000)) = .int (1000000) := congrArg Value.int (by decide +kernel)
theorem u_4 {G : yG} : y_dec G (y_j (nat_lit 18446744073709551615)) = .long (-1) := congrArg Value.long (by decide +kernel)
theorem u_5 {G : yG} : y_dec G (y_v (.double 4696837146684686336)) = .double (4696837146684686336) := rfl
theorem u_6 {G : yG} : y_dec G (y_v (.float 1232348160)) = .float (1232348160) := rfl
theorem u_7 {G : yG} : y_dec G (y_i (nat_lit 1103515245)) = .int (1103515245) := congrArg Value.int (by decide +kernel)
theorem u_8 {G : yG} : y_dec G (y_j (nat_lit 1023)) = .long (1023) := congrArg Value.long (by decide +kernel)
theorem u_9 {G : yG} : y_dec G (y_v (.double 4611686018427387904)) = .double (4611686018427387904) := rfl
theorem u_10 {G : yG} : y_dec G (y_v (.double 4841369599423283200)) = .double (4841369599423283200) := rfl
theorem u_11 {G : yG} : y_dec G (y_v (.float 1258291200)) = .float (1258291200) := rfl
theorem u_12 {G : yG} : y_dec G (y_j (nat_lit 16000000)) = .long (16000000) := congrArg Value.long (by decide +kernel)
theorem u_13 {G : yG} : y_dec G (y_j (nat_lit 9221120237041090560)) = .long (9221120237041090560) := congrArg Value.long (by decide +kernel)
theorem u_14 {G : yG} : y_dec G (y_i (nat_lit 2143289344)) = .int (2143289344) := congrArg Value.int (by decide +kernel)
def yQp (G : yG) (xrec : Nat → List Value → XW → Option (XO × XW)) (xs : List Int32) (E : yE) (rec : yCl) (a : Nat) (p : Nat × (Nat → yKK)) : Prop := p.1 = xNl a ∧ ∀ t, yGd G xrec xs E rec a 63 t (p.2 t)
theorem g_tree {G : yG} {xrec : Nat → List Value → XW → Option (XO × XW)} {xs : List Int32} {E : yE} {rec : yCl} {a : Nat} (c : Nat) {x y : Nat × (Nat → yKK)} (hx : a < c → yQp G xrec xs E rec a x) (hy : c ≤ a → yQp G xrec xs E rec a y) : yQp G xrec xs E rec a (@Bool.rec (fun _ => Nat × (Nat → yKK)) y x (Nat.blt a c)) := by
  cases hb : Nat.blt a c with
  | true => exact hx (y_blt_t hb)
  | false => exact hy (Nat.le_of_not_lt (fun h => by rw [show Nat.blt a c = true from Nat.ble_eq_true_of_le h] at hb; cases hb))
theorem yg_0_0 {G : yG} {xrec : Nat → List Value → XW → Option (XO × XW)} {xs : List Int32} {E : yE} {rec : yCl} (hE : yOk G xs E) (hR : yRecOk G rec xrec) : yGd G xrec xs E rec 0 63 0 yc_0_0 := yGd_mono (by decide +kernel) (tt_aload_n (pc := 0) (show xcode 0 0 = some (.aload_n 0, 1, 0, 0) from by decide +kernel) rfl (tt_obj (pc := 1) (show xcode 0 1 = some (.invokespecial 3, 3, 0, 2) from by decide +kernel) (by decide +kernel) (tt_aload_n (pc := 4) (show xcode 0 4 = some (.aload_n 0, 1, 0, 0) from by decide +kernel) rfl (tt_bipush (pc := 5) (show xcode 0 5 = some (.bipush 6, 2, 0, 0) from by decide +kernel) (by decide +kernel) (tt_anewarray (pc := 7) (show xcode 0 7 = some (.anewarray 9, 3, 103, 0) from by decide +kernel) (by decide +kernel) (tt_putR (pc := 10) (show xcode 0 10 = some (.putfield 11, 3, 0, 0) from by decide +kernel) (by decide +kernel) (tt_aload_n (pc := 13) (show xcode 0 13 = some (.aload_n 0, 1, 0, 0) from by decide +kernel) rfl (tt_iconst (pc := 14) (show xcode 0 14 = some (.iconst 0, 1, 0, 0) from by decide +kernel) (by decide +kernel) (tt_putI (pc := 15) (show xcode 0 15 = some (.putfield 17, 3, 0, 1) from by decide +kernel) (by decide +kernel) (tt_aload_n (pc := 18) (show xcode 0 18 = some (.aload_n 0, 1, 0, 0) from by decide +kernel) rfl (tt_iconst (pc := 19) (show xcode 0 19 = some (.iconst 0, 1, 0, 0) from by decide +kernel) (by decide +kernel) (tt_putI (pc := 20) (show xcode 0 20 = some (.putfield 21, 3, 0, 2) from by decide +kernel) (by decide +kernel) (tt_iconst (pc := 23) (show xcode 0 23 = some (.iconst 0, 1, 0, 0) from by decide +kernel) (by decide +kernel) (tt_istore_n (pc := 24) (show xcode 0 24 = some (.istore_n 1, 1, 0, 0) from by decide +kernel) rfl (by decide +kernel) (g_lab)))))))))))))))
theorem yg_0_25 {G : yG} {xrec : Nat → List Value → XW → Option (XO × XW)} {xs : List Int32} {E : yE} {rec : yCl} (hE : yOk G xs E) (hR : yRecOk G rec xrec) : yGd G xrec xs E rec 0 63 25 yc_0_25 := yGd_mono (by decide +kernel) (tt_iload_n (pc := 25) (show xcode 0 25 = some (.iload_n 1, 1, 0, 0) from by decide +kernel) rfl (tt_bipush (pc := 26) (show xcode 0 26 = some (.bipush 6, 2, 0, 0) from by decide +kernel) (by decide +kernel) (tt_icmp (pc := 28) hE (show xcode 0 28 = some (.if_icmp .ge 22, 3, 50, 0) from by decide +kernel) rfl (tt_aload_n (pc := 31) (show xcode 0 31 = some (.aload_n 0, 1, 0, 0) from by decide +kernel) rfl (tt_get (pc := 32) (show xcode 0 32 = some (.getfield 11, 3, 0, 0) from by decide +kernel) (tt_iload_n (pc := 35) (show xcode 0 35 = some (.iload_n 1, 1, 0, 0) from by decide +kernel) rfl (tt_new (pc := 36) (show xcode 0 36 = some (.new 9, 3, 6, 0) from by decide +kernel) (by decide +kernel) (yd_6_e G) (g_dup (pc := 39) (show xcode 0 39 = some (.dup, 1, 0, 0) from by decide +kernel) (tt_calI (pc := 40) hR (show xcode 0 40 = some (.invokespecial 24, 3, 48, 1) from by decide +kernel) (by decide +kernel) (by decide +kernel) (tt_aastore (pc := 43) (show xcode 0 43 = some (.aastore, 1, 0, 0) from by decide +kernel) (tt_iinc (pc := 44) (show xcode 0 44 = some (.iinc 1 1, 3, 0, 0) from by decide +kernel) (by decide +kernel) (by decide +kernel) (tt_goto (pc := 47) (show xcode 0 47 = some (.goto (-22), 3, 25, 0) from by decide +kernel)))))))))))))
theorem yg_0_50 {G : yG} {xrec : Nat → List Value → XW → Option (XO × XW)} {xs : List Int32} {E : yE} {rec : yCl} (hE : yOk G xs E) (hR : yRecOk G rec xrec) : yGd G xrec xs E rec 0 63 50 yc_0_50 := yGd_mono (by decide +kernel) (tt_ret0 (pc := 50) (show xcode 0 50 = some (.return_, 1, 0, 0) from by decide +kernel) (by decide +kernel) (by decide +kernel))
theorem ym_0 {G : yG} {xrec : Nat → List Value → XW → Option (XO × XW)} {xs : List Int32} {E : yE} {rec : yCl} (hE : yOk G xs E) (hR : yRecOk G rec xrec) (t : Nat) : yGd G xrec xs E rec 0 63 t (yb_0 t) := g_node (g_leaf (yg_0_0 hE hR)) (g_node (g_leaf (yg_0_25 hE hR)) (g_leaf (yg_0_50 hE hR)))
theorem yq_0 {G : yG} {xrec : Nat → List Value → XW → Option (XO × XW)} {xs : List Int32} {E : yE} {rec : yCl} (hE : yOk G xs E) (hR : yRecOk G rec xrec) {a : Nat} (h : a = 0) : yQp G xrec xs E rec a (nat_lit 2, yb_0) := by subst h; exact ⟨by decide +kernel, fun t => ym_0 hE hR t⟩
theorem yg_3_0 {G : yG} {xrec : Nat → List Value → XW → Option (XO × XW)} {xs : List Int32} {E : yE} {rec : yCl} (hE : yOk G xs E) (hR : yRecOk G rec xrec) : yGd G xrec xs E rec 3 63 0 yc_3_0 := yGd_mono (by decide +kernel) (tt_aload_n (pc := 0) (show xcode 3 0 = some (.aload_n 0, 1, 0, 0) from by decide +kernel) rfl (tt_obj (pc := 1) (show xcode 3 1 = some (.invokespecial 3, 3, 0, 2) from by decide +kernel) (by decide +kernel) (tt_aload_n (pc := 4) (show xcode 3 4 = some (.aload_n 0, 1, 0, 0) from by decide +kernel) rfl (tt_bipush (pc := 5) (show xcode 3 5 = some (.bipush 36, 2, 0, 0) from by decide +kernel) (by decide +kernel) (tt_newarray (pc := 7) (show xcode 3 7 = some (.newarray .long, 2, 101, 0) from by decide +kernel) (by decide +kernel) rfl (tt_putR (pc := 9) (show xcode 3 9 = some (.putfield 9, 3, 1, 0) from by decide +kernel) (by decide +kernel) (tt_aload_n (pc := 12) (show xcode 3 12 = some (.aload_n 0, 1, 0, 0) from by decide +kernel) rfl (tt_bipush (pc := 13) (show xcode 3 13 = some (.bipush 36, 2, 0, 0) from by decide +kernel) (by decide +kernel) (tt_newarray (pc := 15) (show xcode 3 15 = some (.newarray .long, 2, 101, 0) from by decide +kernel) (by decide +kernel) rfl (tt_putR (pc := 17) (show xcode 3 17 = some (.putfield 15, 3, 1, 1) from by decide +kernel) (by decide +kernel) (tt_aload_n (pc := 20) (show xcode 3 20 = some (.aload_n 0, 1, 0, 0) from by decide +kernel) rfl (tt_bipush (pc := 21) (show xcode 3 21 = some (.bipush 36, 2, 0, 0) from by decide +kernel) (by decide +kernel) (tt_newarray (pc := 23) (show xcode 3 23 = some (.newarray .int, 2, 100, 0) from by decide +kernel) (by decide +kernel) rfl (tt_putR (pc := 25) (show xcode 3 25 = some (.putfield 18, 3, 1, 2) from by decide +kernel) (by decide +kernel) (tt_ret0 (pc := 28) (show xcode 3 28 = some (.return_, 1, 0, 0) from by decide +kernel) (by decide +kernel) (by decide +kernel))))))))))))))))
theorem ym_3 {G : yG} {xrec : Nat → List Value → XW → Option (XO × XW)} {xs : List Int32} {E : yE} {rec : yCl} (hE : yOk G xs E) (hR : yRecOk G rec xrec) (t : Nat) : yGd G xrec xs E rec 3 63 t (yb_3 t) := g_leaf (yg_3_0 hE hR)
theorem yq_3 {G : yG} {xrec : Nat → List Value → XW → Option (XO × XW)} {xs : List Int32} {E : yE} {rec : yCl} (hE : yOk G xs E) (hR : yRecOk G rec xrec) {a : Nat} (h : a = 3) : yQp G xrec xs E rec a (nat_lit 1, yb_3) := by subst h; exact ⟨by decide +kernel, fun t => ym_3 hE hR t⟩
theorem yg_4_0 {G : yG} {xrec : Nat → List Value → XW → Option (XO × XW)} {xs : List Int32} {E : yE} {rec : yCl} (hE : yOk G xs E) (hR : yRecOk G rec xrec) : yGd G xrec xs E rec 4 63 0 yc_4_0 := yGd_mono (by decide +kernel) (tt_aload_n (pc := 0) (show xcode 4 0 = some (.aload_n 1, 1, 0, 0) from by decide +kernel) rfl (tt_calV (pc := 1) hR (show xcode 4 1 = some (.invokevirtual 22, 3, 15, 0) from by decide +kernel) (by decide +kernel) (by decide +kernel) (tt_istore_n (pc := 4) (show xcode 4 4 = some (.istore_n 3, 1, 0, 0) from by decide +kernel) rfl (by decide +kernel) (tt_iconst (pc := 5) (show xcode 4 5 = some (.iconst 0, 1, 0, 0) from by decide +kernel) (by decide +kernel) (tt_istore (pc := 6) (show xcode 4 6 = some (.istore 4, 2, 0, 0) from by decide +kernel) (by decide +kernel) (g_lab))))))
theorem yg_4_8 {G : yG} {xrec : Nat → List Value → XW → Option (XO × XW)} {xs : List Int32} {E : yE} {rec : yCl} (hE : yOk G xs E) (hR : yRecOk G rec xrec) : yGd G xrec xs E rec 4 63 8 yc_4_8 := yGd_mono (by decide +kernel) (tt_iload (pc := 8) (show xcode 4 8 = some (.iload 4, 2, 0, 0) from by decide +kernel) (tt_iload_n (pc := 10) (show xcode 4 10 = some (.iload_n 3, 1, 0, 0) from by decide +kernel) rfl (tt_icmp (pc := 11) hE (show xcode 4 11 = some (.if_icmp .ge 30, 3, 41, 0) from by decide +kernel) rfl (tt_aload_n (pc := 14) (show xcode 4 14 = some (.aload_n 0, 1, 0, 0) from by decide +kernel) rfl (tt_get (pc := 15) (show xcode 4 15 = some (.getfield 9, 3, 1, 0) from by decide +kernel) (tt_iload (pc := 18) (show xcode 4 18 = some (.iload 4, 2, 0, 0) from by decide +kernel) (tt_aload_n (pc := 20) (show xcode 4 20 = some (.aload_n 1, 1, 0, 0) from by decide +kernel) rfl (tt_iload (pc := 21) (show xcode 4 21 = some (.iload 4, 2, 0, 0) from by decide +kernel) (tt_calV (pc := 23) hR (show xcode 4 23 = some (.invokevirtual 28, 3, 17, 0) from by decide +kernel) (by decide +kernel) (by decide +kernel) (tt_if (pc := 26) hE (show xcode 4 26 = some (.ifCond .eq 7, 3, 33, 0) from by decide +kernel) rfl (tt_lconst (pc := 29) (show xcode 4 29 = some (.lconst 1, 1, 0, 0) from by decide +kernel) (by decide +kernel) (tt_goto (pc := 30) (show xcode 4 30 = some (.goto 4, 3, 34, 0) from by decide +kernel)))))))))))))
theorem yg_4_33 {G : yG} {xrec : Nat → List Value → XW → Option (XO × XW)} {xs : List Int32} {E : yE} {rec : yCl} (hE : yOk G xs E) (hR : yRecOk G rec xrec) : yGd G xrec xs E rec 4 63 33 yc_4_33 := yGd_mono (by decide +kernel) (tt_lconst (pc := 33) (show xcode 4 33 = some (.lconst 0, 1, 0, 0) from by decide +kernel) (by decide +kernel) (g_lab))
theorem yg_4_34 {G : yG} {xrec : Nat → List Value → XW → Option (XO × XW)} {xs : List Int32} {E : yE} {rec : yCl} (hE : yOk G xs E) (hR : yRecOk G rec xrec) : yGd G xrec xs E rec 4 63 34 yc_4_34 := yGd_mono (by decide +kernel) (tt_lastore (pc := 34) (show xcode 4 34 = some (.lastore, 1, 0, 0) from by decide +kernel) (tt_iinc (pc := 35) (show xcode 4 35 = some (.iinc 4 1, 3, 0, 0) from by decide +kernel) (by decide +kernel) (by decide +kernel) (tt_goto (pc := 38) (show xcode 4 38 = some (.goto (-30), 3, 8, 0) from by decide +kernel))))
theorem yg_4_41 {G : yG} {xrec : Nat → List Value → XW → Option (XO × XW)} {xs : List Int32} {E : yE} {rec : yCl} (hE : yOk G xs E) (hR : yRecOk G rec xrec) : yGd G xrec xs E rec 4 63 41 yc_4_41 := yGd_mono (by decide +kernel) (tt_aload_n (pc := 41) (show xcode 4 41 = some (.aload_n 0, 1, 0, 0) from by decide +kernel) rfl (tt_aload_n (pc := 42) (show xcode 4 42 = some (.aload_n 2, 1, 0, 0) from by decide +kernel) rfl (tt_iload_n (pc := 43) (show xcode 4 43 = some (.iload_n 3, 1, 0, 0) from by decide +kernel) rfl (tt_calV (pc := 44) hR (show xcode 4 44 = some (.invokevirtual 32, 3, 11, 0) from by decide +kernel) (by decide +kernel) (by decide +kernel) (tt_ret0 (pc := 47) (show xcode 4 47 = some (.return_, 1, 0, 0) from by decide +kernel) (by decide +kernel) (by decide +kernel))))))
theorem ym_4 {G : yG} {xrec : Nat → List Value → XW → Option (XO × XW)} {xs : List Int32} {E : yE} {rec : yCl} (hE : yOk G xs E) (hR : yRecOk G rec xrec) (t : Nat) : yGd G xrec xs E rec 4 63 t (yb_4 t) := g_node (g_node (g_leaf (yg_4_0 hE hR)) (g_leaf (yg_4_8 hE hR))) (g_node (g_leaf (yg_4_33 hE hR)) (g_node (g_leaf (yg_4_34 hE hR)) (g_leaf (yg_4_41 hE hR))))
theorem yq_4 {G : yG} {xrec : Nat → List Value → XW → Option (XO × XW)} {xs : List Int32} {E : yE} {rec : yCl} (hE : yOk G xs E) (hR : yRecOk G rec xrec) {a : Nat} (h : a = 4) : yQp G xrec xs E rec a (nat_lit 5, yb_4) := by subst h; exact ⟨by decide +kernel, fun t => ym_4 hE hR t⟩
theorem yg_11_0 {G : yG} {xrec : Nat → List Value → XW → Option (XO × XW)} {xs : List Int32} {E : yE} {rec : yCl} (hE : yOk G xs E) (hR : yRecOk G rec xrec) : yGd G xrec xs E rec 11 63 0 yc_11_0 := yGd_mono (by decide +kernel) (tt_lconst (pc := 0) (show xcode 11 0 = some (.lconst 0, 1, 0, 0) from by decide +kernel) (by decide +kernel) (tt_lstore_n (pc := 1) (show xcode 11 1 = some (.lstore_n 3, 1, 0, 0) from by decide +kernel) rfl (by decide +kernel) (tt_iconst (pc := 2) (show xcode 11 2 = some (.iconst 0, 1, 0, 0) from by decide +kernel) (by decide +kernel) (tt_istore (pc := 3) (show xcode 11 3 = some (.istore 5, 2, 0, 0) from by decide +kernel) (by decide +kernel) (g_lab)))))
theorem yg_11_5 {G : yG} {xrec : Nat → List Value → XW → Option (XO × XW)} {xs : List Int32} {E : yE} {rec : yCl} (hE : yOk G xs E) (hR : yRecOk G rec xrec) : yGd G xrec xs E rec 11 63 5 yc_11_5 := yGd_mono (by decide +kernel) (tt_iload (pc := 5) (show xcode 11 5 = some (.iload 5, 2, 0, 0) from by decide +kernel) (tt_iload_n (pc := 7) (show xcode 11 7 = some (.iload_n 2, 1, 0, 0) from by decide +kernel) rfl (tt_icmp (pc := 8) hE (show xcode 11 8 = some (.if_icmp .ge 19, 3, 27, 0) from by decide +kernel) rfl (tt_lload_n (pc := 11) (show xcode 11 11 = some (.lload_n 3, 1, 0, 0) from by decide +kernel) rfl (tt_aload_n (pc := 12) (show xcode 11 12 = some (.aload_n 0, 1, 0, 0) from by decide +kernel) rfl (tt_get (pc := 13) (show xcode 11 13 = some (.getfield 9, 3, 1, 0) from by decide +kernel) (tt_iload (pc := 16) (show xcode 11 16 = some (.iload 5, 2, 0, 0) from by decide +kernel) (tt_laload (pc := 18) (show xcode 11 18 = some (.laload, 1, 0, 0) from by decide +kernel) (tt_ladd (pc := 19) (show xcode 11 19 = some (.ladd, 1, 0, 0) from by decide +kernel) (tt_lstore_n (pc := 20) (show xcode 11 20 = some (.lstore_n 3, 1, 0, 0) from by decide +kernel) rfl (by decide +kernel) (tt_iinc (pc := 21) (show xcode 11 21 = some (.iinc 5 1, 3, 0, 0) from by decide +kernel) (by decide +kernel) (by decide +kernel) (tt_goto (pc := 24) (show xcode 11 24 = some (.goto (-19), 3, 5, 0) from by decide +kernel)))))))))))))
theorem yg_11_27 {G : yG} {xrec : Nat → List Value → XW → Option (XO × XW)} {xs : List Int32} {E : yE} {rec : yCl} (hE : yOk G xs E) (hR : yRecOk G rec xrec) : yGd G xrec xs E rec 11 63 27 yc_11_27 := yGd_mono (by decide +kernel) (tt_lload_n (pc := 27) (show xcode 11 27 = some (.lload_n 3, 1, 0, 0) from by decide +kernel) rfl (tt_lconst (pc := 28) (show xcode 11 28 = some (.lconst 0, 1, 0, 0) from by decide +kernel) (by decide +kernel) (tt_lcmp (pc := 29) (show xcode 11 29 = some (.lcmp, 1, 0, 0) from by decide +kernel) (tt_if (pc := 30) hE (show xcode 11 30 = some (.ifCond .gt 4, 3, 34, 0) from by decide +kernel) rfl (tt_ret0 (pc := 33) (show xcode 11 33 = some (.return_, 1, 0, 0) from by decide +kernel) (by decide +kernel) (by decide +kernel))))))
theorem yg_11_34 {G : yG} {xrec : Nat → List Value → XW → Option (XO × XW)} {xs : List Int32} {E : yE} {rec : yCl} (hE : yOk G xs E) (hR : yRecOk G rec xrec) : yGd G xrec xs E rec 11 63 34 yc_11_34 := yGd_mono (by decide +kernel) (tt_iconst (pc := 34) (show xcode 11 34 = some (.iconst 0, 1, 0, 0) from by decide +kernel) (by decide +kernel) (tt_istore (pc := 35) (show xcode 11 35 = some (.istore 5, 2, 0, 0) from by decide +kernel) (by decide +kernel) (tt_iconst (pc := 37) (show xcode 11 37 = some (.iconst 0, 1, 0, 0) from by decide +kernel) (by decide +kernel) (tt_istore (pc := 38) (show xcode 11 38 = some (.istore 6, 2, 0, 0) from by decide +kernel) (by decide +kernel) (g_lab)))))
theorem yg_11_40 {G : yG} {xrec : Nat → List Value → XW → Option (XO × XW)} {xs : List Int32} {E : yE} {rec : yCl} (hE : yOk G xs E) (hR : yRecOk G rec xrec) : yGd G xrec xs E rec 11 63 40 yc_11_40 := yGd_mono (by decide +kernel) (tt_iload (pc := 40) (show xcode 11 40 = some (.iload 6, 2, 0, 0) from by decide +kernel) (tt_iload_n (pc := 42) (show xcode 11 42 = some (.iload_n 2, 1, 0, 0) from by decide +kernel) rfl (tt_icmp (pc := 43) hE (show xcode 11 43 = some (.if_icmp .ge 51, 3, 94, 0) from by decide +kernel) rfl (tt_aload_n (pc := 46) (show xcode 11 46 = some (.aload_n 0, 1, 0, 0) from by decide +kernel) rfl (tt_get (pc := 47) (show xcode 11 47 = some (.getfield 9, 3, 1, 0) from by decide +kernel) (tt_iload (pc := 50) (show xcode 11 50 = some (.iload 6, 2, 0, 0) from by decide +kernel) (tt_laload (pc := 52) (show xcode 11 52 = some (.laload, 1, 0, 0) from by decide +kernel) (tt_ldc2_w (pc := 53) (show xcode 11 53 = some (.ldc2_w 77, 3, 2, 0) from by decide +kernel) (show xnth xcon 2 = some (.long (1000000)) from by decide +kernel) (u_2) (tt_lmul (pc := 56) (show xcode 11 56 = some (.lmul, 1, 0, 0) from by decide +kernel) (tt_lstore (pc := 57) (show xcode 11 57 = some (.lstore 7, 2, 0, 0) from by decide +kernel) (by decide +kernel) (tt_aload_n (pc := 59) (show xcode 11 59 = some (.aload_n 1, 1, 0, 0) from by decide +kernel) rfl (tt_iload (pc := 60) (show xcode 11 60 = some (.iload 6, 2, 0, 0) from by decide +kernel) (tt_lload (pc := 62) (show xcode 11 62 = some (.lload 7, 2, 0, 0) from by decide +kernel) (tt_lload_n (pc := 64) (show xcode 11 64 = some (.lload_n 3, 1, 0, 0) from by decide +kernel) rfl (tt_ldiv (pc := 65) (show xcode 11 65 = some (.ldiv, 1, 0, 0) from by decide +kernel) (tt_l2i (pc := 66) (show xcode 11 66 = some (.l2i, 1, 0, 0) from by decide +kernel) (tt_iastore (pc := 67) (show xcode 11 67 = some (.iastore, 1, 0, 0) from by decide +kernel) (tt_aload_n (pc := 68) (show xcode 11 68 = some (.aload_n 0, 1, 0, 0) from by decide +kernel) rfl (tt_get (pc := 69) (show xcode 11 69 = some (.getfield 15, 3, 1, 1) from by decide +kernel) (tt_iload (pc := 72) (show xcode 11 72 = some (.iload 6, 2, 0, 0) from by decide +kernel) (tt_lload (pc := 74) (show xcode 11 74 = some (.lload 7, 2, 0, 0) from by decide +kernel) (tt_lload_n (pc := 76) (show xcode 11 76 = some (.lload_n 3, 1, 0, 0) from by decide +kernel) rfl (tt_lrem (pc := 77) (show xcode 11 77 = some (.lrem, 1, 0, 0) from by decide +kernel) (tt_lastore (pc := 78) (show xcode 11 78 = some (.lastore, 1, 0, 0) from by decide +kernel) (tt_iload (pc := 79) (show xcode 11 79 = some (.iload 5, 2, 0, 0) from by decide +kernel) (tt_aload_n (pc := 81) (show xcode 11 81 = some (.aload_n 1, 1, 0, 0) from by decide +kernel) rfl (tt_iload (pc := 82) (show xcode 11 82 = some (.iload 6, 2, 0, 0) from by decide +kernel) (tt_iaload (pc := 84) (show xcode 11 84 = some (.iaload, 1, 0, 0) from by decide +kernel) (tt_iadd (pc := 85) hE (show xcode 11 85 = some (.iadd, 1, 0, 0) from by decide +kernel) (tt_istore (pc := 86) (show xcode 11 86 = some (.istore 5, 2, 0, 0) from by decide +kernel) (by decide +kernel) (tt_iinc (pc := 88) (show xcode 11 88 = some (.iinc 6 1, 3, 0, 0) from by decide +kernel) (by decide +kernel) (by decide +kernel) (tt_goto (pc := 91) (show xcode 11 91 = some (.goto (-51), 3, 40, 0) from by decide +kernel)))))))))))))))))))))))))))))))))
theorem yg_11_94 {G : yG} {xrec : Nat → List Value → XW → Option (XO × XW)} {xs : List Int32} {E : yE} {rec : yCl} (hE : yOk G xs E) (hR : yRecOk G rec xrec) : yGd G xrec xs E rec 11 63 94 yc_11_94 := yGd_mono (by decide +kernel) (tt_iconst (pc := 94) (show xcode 11 94 = some (.iconst 0, 1, 0, 0) from by decide +kernel) (by decide +kernel) (tt_istore (pc := 95) (show xcode 11 95 = some (.istore 6, 2, 0, 0) from by decide +kernel) (by decide +kernel) (g_lab)))
theorem yg_11_97 {G : yG} {xrec : Nat → List Value → XW → Option (XO × XW)} {xs : List Int32} {E : yE} {rec : yCl} (hE : yOk G xs E) (hR : yRecOk G rec xrec) : yGd G xrec xs E rec 11 63 97 yc_11_97 := yGd_mono (by decide +kernel) (tt_iload (pc := 97) (show xcode 11 97 = some (.iload 6, 2, 0, 0) from by decide +kernel) (tt_iload_n (pc := 99) (show xcode 11 99 = some (.iload_n 2, 1, 0, 0) from by decide +kernel) rfl (tt_icmp (pc := 100) hE (show xcode 11 100 = some (.if_icmp .ge 44, 3, 144, 0) from by decide +kernel) rfl (tt_iload (pc := 103) (show xcode 11 103 = some (.iload 5, 2, 0, 0) from by decide +kernel) (tt_ldc (pc := 105) (show xcode 11 105 = some (.ldc 107, 2, 3, 0) from by decide +kernel) (show xnth xcon 3 = some (.int (1000000)) from by decide +kernel) (u_3) (tt_icmp (pc := 107) hE (show xcode 11 107 = some (.if_icmp .ge 37, 3, 144, 0) from by decide +kernel) rfl (tt_aload_n (pc := 110) (show xcode 11 110 = some (.aload_n 0, 1, 0, 0) from by decide +kernel) rfl (tt_iload_n (pc := 111) (show xcode 11 111 = some (.iload_n 2, 1, 0, 0) from by decide +kernel) rfl (tt_calV (pc := 112) hR (show xcode 11 112 = some (.invokevirtual 108, 3, 12, 0) from by decide +kernel) (by decide +kernel) (by decide +kernel) (tt_istore (pc := 115) (show xcode 11 115 = some (.istore 7, 2, 0, 0) from by decide +kernel) (by decide +kernel) (tt_aload_n (pc := 117) (show xcode 11 117 = some (.aload_n 1, 1, 0, 0) from by decide +kernel) rfl (tt_iload (pc := 118) (show xcode 11 118 = some (.iload 7, 2, 0, 0) from by decide +kernel) (g_dup2 (pc := 120) (show xcode 11 120 = some (.dup2, 1, 0, 0) from by decide +kernel) (tt_iaload (pc := 121) (show xcode 11 121 = some (.iaload, 1, 0, 0) from by decide +kernel) (tt_iconst (pc := 122) (show xcode 11 122 = some (.iconst 1, 1, 0, 0) from by decide +kernel) (by decide +kernel) (tt_iadd (pc := 123) hE (show xcode 11 123 = some (.iadd, 1, 0, 0) from by decide +kernel) (tt_iastore (pc := 124) (show xcode 11 124 = some (.iastore, 1, 0, 0) from by decide +kernel) (tt_aload_n (pc := 125) (show xcode 11 125 = some (.aload_n 0, 1, 0, 0) from by decide +kernel) rfl (tt_get (pc := 126) (show xcode 11 126 = some (.getfield 15, 3, 1, 1) from by decide +kernel) (tt_iload (pc := 129) (show xcode 11 129 = some (.iload 7, 2, 0, 0) from by decide +kernel) (tt_ldc2_w (pc := 131) (show xcode 11 131 = some (.ldc2_w 111, 3, 4, 0) from by decide +kernel) (show xnth xcon 4 = some (.long (-1)) from by decide +kernel) (u_4) (tt_lastore (pc := 134) (show xcode 11 134 = some (.lastore, 1, 0, 0) from by decide +kernel) (tt_iinc (pc := 135) (show xcode 11 135 = some (.iinc 5 1, 3, 0, 0) from by decide +kernel) (by decide +kernel) (by decide +kernel) (tt_iinc (pc := 138) (show xcode 11 138 = some (.iinc 6 1, 3, 0, 0) from by decide +kernel) (by decide +kernel) (by decide +kernel) (tt_goto (pc := 141) (show xcode 11 141 = some (.goto (-44), 3, 97, 0) from by decide +kernel))))))))))))))))))))))))))
theorem yg_11_144 {G : yG} {xrec : Nat → List Value → XW → Option (XO × XW)} {xs : List Int32} {E : yE} {rec : yCl} (hE : yOk G xs E) (hR : yRecOk G rec xrec) : yGd G xrec xs E rec 11 63 144 yc_11_144 := yGd_mono (by decide +kernel) (tt_ret0 (pc := 144) (show xcode 11 144 = some (.return_, 1, 0, 0) from by decide +kernel) (by decide +kernel) (by decide +kernel))
theorem ym_11 {G : yG} {xrec : Nat → List Value → XW → Option (XO × XW)} {xs : List Int32} {E : yE} {rec : yCl} (hE : yOk G xs E) (hR : yRecOk G rec xrec) (t : Nat) : yGd G xrec xs E rec 11 63 t (yb_11 t) := g_node (g_node (g_node (g_leaf (yg_11_0 hE hR)) (g_leaf (yg_11_5 hE hR))) (g_node (g_leaf (yg_11_27 hE hR)) (g_leaf (yg_11_34 hE hR)))) (g_node (g_node (g_leaf (yg_11_40 hE hR)) (g_leaf (yg_11_94 hE hR))) (g_node (g_leaf (yg_11_97 hE hR)) (g_leaf (yg_11_144 hE hR))))
theorem yq_11 {G : yG} {xrec : Nat → List Value → XW → Option (XO × XW)} {xs : List Int32} {E : yE} {rec : yCl} (hE : yOk G xs E) (hR : yRecOk G rec xrec) {a : Nat} (h : a = 11) : yQp G xrec xs E rec a (nat_lit 9, yb_11) := by subst h; exact ⟨by decide +kernel, fun t => ym_11 hE hR t⟩
theorem yg_12_0 {G : yG} {xrec : Nat → List Value → XW → Option (XO × XW)} {xs : List Int32} {E : yE} {rec : yCl} (hE : yOk G xs E) (hR : yRecOk G rec xrec) : yGd G xrec xs E rec 12 63 0 yc_12_0 := yGd_mono (by decide +kernel) (tt_iconst (pc := 0) (show xcode 12 0 = some (.iconst 0, 1, 0, 0) from by decide +kernel) (by decide +kernel) (tt_istore_n (pc := 1) (show xcode 12 1 = some (.istore_n 2, 1, 0, 0) from by decide +kernel) rfl (by decide +kernel) (tt_iconst (pc := 2) (show xcode 12 2 = some (.iconst 1, 1, 0, 0) from by decide +kernel) (by decide +kernel) (tt_istore_n (pc := 3) (show xcode 12 3 = some (.istore_n 3, 1, 0, 0) from by decide +kernel) rfl (by decide +kernel) (g_lab)))))
theorem yg_12_4 {G : yG} {xrec : Nat → List Value → XW → Option (XO × XW)} {xs : List Int32} {E : yE} {rec : yCl} (hE : yOk G xs E) (hR : yRecOk G rec xrec) : yGd G xrec xs E rec 12 63 4 yc_12_4 := yGd_mono (by decide +kernel) (tt_iload_n (pc := 4) (show xcode 12 4 = some (.iload_n 3, 1, 0, 0) from by decide +kernel) rfl (tt_iload_n (pc := 5) (show xcode 12 5 = some (.iload_n 1, 1, 0, 0) from by decide +kernel) rfl (tt_icmp (pc := 6) hE (show xcode 12 6 = some (.if_icmp .ge 27, 3, 33, 0) from by decide +kernel) rfl (tt_aload_n (pc := 9) (show xcode 12 9 = some (.aload_n 0, 1, 0, 0) from by decide +kernel) rfl (tt_get (pc := 10) (show xcode 12 10 = some (.getfield 15, 3, 1, 1) from by decide +kernel) (tt_iload_n (pc := 13) (show xcode 12 13 = some (.iload_n 3, 1, 0, 0) from by decide +kernel) rfl (tt_laload (pc := 14) (show xcode 12 14 = some (.laload, 1, 0, 0) from by decide +kernel) (tt_aload_n (pc := 15) (show xcode 12 15 = some (.aload_n 0, 1, 0, 0) from by decide +kernel) rfl (tt_get (pc := 16) (show xcode 12 16 = some (.getfield 15, 3, 1, 1) from by decide +kernel) (tt_iload_n (pc := 19) (show xcode 12 19 = some (.iload_n 2, 1, 0, 0) from by decide +kernel) rfl (tt_laload (pc := 20) (show xcode 12 20 = some (.laload, 1, 0, 0) from by decide +kernel) (tt_lcmp (pc := 21) (show xcode 12 21 = some (.lcmp, 1, 0, 0) from by decide +kernel) (tt_if (pc := 22) hE (show xcode 12 22 = some (.ifCond .le 5, 3, 27, 0) from by decide +kernel) rfl (tt_iload_n (pc := 25) (show xcode 12 25 = some (.iload_n 3, 1, 0, 0) from by decide +kernel) rfl (tt_istore_n (pc := 26) (show xcode 12 26 = some (.istore_n 2, 1, 0, 0) from by decide +kernel) rfl (by decide +kernel) (g_lab))))))))))))))))
theorem yg_12_27 {G : yG} {xrec : Nat → List Value → XW → Option (XO × XW)} {xs : List Int32} {E : yE} {rec : yCl} (hE : yOk G xs E) (hR : yRecOk G rec xrec) : yGd G xrec xs E rec 12 63 27 yc_12_27 := yGd_mono (by decide +kernel) (tt_iinc (pc := 27) (show xcode 12 27 = some (.iinc 3 1, 3, 0, 0) from by decide +kernel) (by decide +kernel) (by decide +kernel) (tt_goto (pc := 30) (show xcode 12 30 = some (.goto (-26), 3, 4, 0) from by decide +kernel)))
theorem yg_12_33 {G : yG} {xrec : Nat → List Value → XW → Option (XO × XW)} {xs : List Int32} {E : yE} {rec : yCl} (hE : yOk G xs E) (hR : yRecOk G rec xrec) : yGd G xrec xs E rec 12 63 33 yc_12_33 := yGd_mono (by decide +kernel) (tt_iload_n (pc := 33) (show xcode 12 33 = some (.iload_n 2, 1, 0, 0) from by decide +kernel) rfl (tt_reti (pc := 34) (show xcode 12 34 = some (.ireturn, 1, 0, 0) from by decide +kernel) (by decide +kernel) (by decide +kernel)))
theorem ym_12 {G : yG} {xrec : Nat → List Value → XW → Option (XO × XW)} {xs : List Int32} {E : yE} {rec : yCl} (hE : yOk G xs E) (hR : yRecOk G rec xrec) (t : Nat) : yGd G xrec xs E rec 12 63 t (yb_12 t) := g_node (g_node (g_leaf (yg_12_0 hE hR)) (g_leaf (yg_12_4 hE hR))) (g_node (g_leaf (yg_12_27 hE hR)) (g_leaf (yg_12_33 hE hR)))
theorem yq_12 {G : yG} {xrec : Nat → List Value → XW → Option (XO × XW)} {xs : List Int32} {E : yE} {rec : yCl} (hE : yOk G xs E) (hR : yRecOk G rec xrec) {a : Nat} (h : a = 12) : yQp G xrec xs E rec a (nat_lit 4, yb_12) := by subst h; exact ⟨by decide +kernel, fun t => ym_12 hE hR t⟩
theorem yg_13_0 {G : yG} {xrec : Nat → List Value → XW → Option (XO × XW)} {xs : List Int32} {E : yE} {rec : yCl} (hE : yOk G xs E) (hR : yRecOk G rec xrec) : yGd G xrec xs E rec 13 63 0 yc_13_0 := yGd_mono (by decide +kernel) (tt_aload_n (pc := 0) (show xcode 13 0 = some (.aload_n 0, 1, 0, 0) from by decide +kernel) rfl (tt_obj (pc := 1) (show xcode 13 1 = some (.invokespecial 3, 3, 0, 2) from by decide +kernel) (by decide +kernel) (tt_aload_n (pc := 4) (show xcode 13 4 = some (.aload_n 0, 1, 0, 0) from by decide +kernel) rfl (tt_iconst (pc := 5) (show xcode 13 5 = some (.iconst 4, 1, 0, 0) from by decide +kernel) (by decide +kernel) (tt_putI (pc := 6) (show xcode 13 6 = some (.putfield 9, 3, 2, 0) from by decide +kernel) (by decide +kernel) (tt_aload_n (pc := 9) (show xcode 13 9 = some (.aload_n 0, 1, 0, 0) from by decide +kernel) rfl (tt_iconst (pc := 10) (show xcode 13 10 = some (.iconst 3, 1, 0, 0) from by decide +kernel) (by decide +kernel) (tt_putI (pc := 11) (show xcode 13 11 = some (.putfield 15, 3, 2, 1) from by decide +kernel) (by decide +kernel) (tt_aload_n (pc := 14) (show xcode 13 14 = some (.aload_n 0, 1, 0, 0) from by decide +kernel) rfl (tt_bipush (pc := 15) (show xcode 13 15 = some (.bipush 36, 2, 0, 0) from by decide +kernel) (by decide +kernel) (tt_newarray (pc := 17) (show xcode 13 17 = some (.newarray .int, 2, 100, 0) from by decide +kernel) (by decide +kernel) rfl (tt_putR (pc := 19) (show xcode 13 19 = some (.putfield 18, 3, 2, 2) from by decide +kernel) (by decide +kernel) (tt_aload_n (pc := 22) (show xcode 13 22 = some (.aload_n 0, 1, 0, 0) from by decide +kernel) rfl (tt_bipush (pc := 23) (show xcode 13 23 = some (.bipush 36, 2, 0, 0) from by decide +kernel) (by decide +kernel) (tt_newarray (pc := 25) (show xcode 13 25 = some (.newarray .int, 2, 100, 0) from by decide +kernel) (by decide +kernel) rfl (tt_putR (pc := 27) (show xcode 13 27 = some (.putfield 22, 3, 2, 3) from by decide +kernel) (by decide +kernel) (tt_aload_n (pc := 30) (show xcode 13 30 = some (.aload_n 0, 1, 0, 0) from by decide +kernel) rfl (tt_sipush (pc := 31) (show xcode 13 31 = some (.sipush 144, 3, 0, 0) from by decide +kernel) (by decide +kernel) (tt_newarray (pc := 34) (show xcode 13 34 = some (.newarray .int, 2, 100, 0) from by decide +kernel) (by decide +kernel) rfl (tt_putR (pc := 36) (show xcode 13 36 = some (.putfield 25, 3, 2, 4) from by decide +kernel) (by decide +kernel) (tt_iconst (pc := 39) (show xcode 13 39 = some (.iconst 0, 1, 0, 0) from by decide +kernel) (by decide +kernel) (tt_istore_n (pc := 40) (show xcode 13 40 = some (.istore_n 1, 1, 0, 0) from by decide +kernel) rfl (by decide +kernel) (g_lab)))))))))))))))))))))))
theorem yg_13_41 {G : yG} {xrec : Nat → List Value → XW → Option (XO × XW)} {xs : List Int32} {E : yE} {rec : yCl} (hE : yOk G xs E) (hR : yRecOk G rec xrec) : yGd G xrec xs E rec 13 63 41 yc_13_41 := yGd_mono (by decide +kernel) (tt_iload_n (pc := 41) (show xcode 13 41 = some (.iload_n 1, 1, 0, 0) from by decide +kernel) rfl (tt_bipush (pc := 42) (show xcode 13 42 = some (.bipush 36, 2, 0, 0) from by decide +kernel) (by decide +kernel) (tt_icmp (pc := 44) hE (show xcode 13 44 = some (.if_icmp .ge 16, 3, 60, 0) from by decide +kernel) rfl (tt_aload_n (pc := 47) (show xcode 13 47 = some (.aload_n 0, 1, 0, 0) from by decide +kernel) rfl (tt_get (pc := 48) (show xcode 13 48 = some (.getfield 22, 3, 2, 3) from by decide +kernel) (tt_iload_n (pc := 51) (show xcode 13 51 = some (.iload_n 1, 1, 0, 0) from by decide +kernel) rfl (tt_iconst (pc := 52) (show xcode 13 52 = some (.iconst 1, 1, 0, 0) from by decide +kernel) (by decide +kernel) (tt_iastore (pc := 53) (show xcode 13 53 = some (.iastore, 1, 0, 0) from by decide +kernel) (tt_iinc (pc := 54) (show xcode 13 54 = some (.iinc 1 1, 3, 0, 0) from by decide +kernel) (by decide +kernel) (by decide +kernel) (tt_goto (pc := 57) (show xcode 13 57 = some (.goto (-16), 3, 41, 0) from by decide +kernel)))))))))))
theorem yg_13_60 {G : yG} {xrec : Nat → List Value → XW → Option (XO × XW)} {xs : List Int32} {E : yE} {rec : yCl} (hE : yOk G xs E) (hR : yRecOk G rec xrec) : yGd G xrec xs E rec 13 63 60 yc_13_60 := yGd_mono (by decide +kernel) (tt_aload_n (pc := 60) (show xcode 13 60 = some (.aload_n 0, 1, 0, 0) from by decide +kernel) rfl (tt_calV (pc := 61) hR (show xcode 13 61 = some (.invokevirtual 28, 3, 22, 0) from by decide +kernel) (by decide +kernel) (by decide +kernel) (tt_ret0 (pc := 64) (show xcode 13 64 = some (.return_, 1, 0, 0) from by decide +kernel) (by decide +kernel) (by decide +kernel))))
theorem ym_13 {G : yG} {xrec : Nat → List Value → XW → Option (XO × XW)} {xs : List Int32} {E : yE} {rec : yCl} (hE : yOk G xs E) (hR : yRecOk G rec xrec) (t : Nat) : yGd G xrec xs E rec 13 63 t (yb_13 t) := g_node (g_leaf (yg_13_0 hE hR)) (g_node (g_leaf (yg_13_41 hE hR)) (g_leaf (yg_13_60 hE hR)))
theorem yq_13 {G : yG} {xrec : Nat → List Value → XW → Option (XO × XW)} {xs : List Int32} {E : yE} {rec : yCl} (hE : yOk G xs E) (hR : yRecOk G rec xrec) {a : Nat} (h : a = 13) : yQp G xrec xs E rec a (nat_lit 2, yb_13) := by subst h; exact ⟨by decide +kernel, fun t => ym_13 hE hR t⟩
theorem yg_15_0 {G : yG} {xrec : Nat → List Value → XW → Option (XO × XW)} {xs : List Int32} {E : yE} {rec : yCl} (hE : yOk G xs E) (hR : yRecOk G rec xrec) : yGd G xrec xs E rec 15 63 0 yc_15_0 := yGd_mono (by decide +kernel) (tt_aload_n (pc := 0) (show xcode 15 0 = some (.aload_n 0, 1, 0, 0) from by decide +kernel) rfl (tt_get (pc := 1) (show xcode 15 1 = some (.getfield 9, 3, 2, 0) from by decide +kernel) (tt_aload_n (pc := 4) (show xcode 15 4 = some (.aload_n 0, 1, 0, 0) from by decide +kernel) rfl (tt_get (pc := 5) (show xcode 15 5 = some (.getfield 15, 3, 2, 1) from by decide +kernel) (tt_imul (pc := 8) hE (show xcode 15 8 = some (.imul, 1, 0, 0) from by decide +kernel) (tt_reti (pc := 9) (show xcode 15 9 = some (.ireturn, 1, 0, 0) from by decide +kernel) (by decide +kernel) (by decide +kernel)))))))
theorem ym_15 {G : yG} {xrec : Nat → List Value → XW → Option (XO × XW)} {xs : List Int32} {E : yE} {rec : yCl} (hE : yOk G xs E) (hR : yRecOk G rec xrec) (t : Nat) : yGd G xrec xs E rec 15 63 t (yb_15 t) := g_leaf (yg_15_0 hE hR)
theorem yq_15 {G : yG} {xrec : Nat → List Value → XW → Option (XO × XW)} {xs : List Int32} {E : yE} {rec : yCl} (hE : yOk G xs E) (hR : yRecOk G rec xrec) {a : Nat} (h : a = 15) : yQp G xrec xs E rec a (nat_lit 1, yb_15) := by subst h; exact ⟨by decide +kernel, fun t => ym_15 hE hR t⟩
theorem yg_17_0 {G : yG} {xrec : Nat → List Value → XW → Option (XO × XW)} {xs : List Int32} {E : yE} {rec : yCl} (hE : yOk G xs E) (hR : yRecOk G rec xrec) : yGd G xrec xs E rec 17 63 0 yc_17_0 := yGd_mono (by decide +kernel) (tt_iload_n (pc := 0) (show xcode 17 0 = some (.iload_n 1, 1, 0, 0) from by decide +kernel) rfl (tt_if (pc := 1) hE (show xcode 17 1 = some (.ifCond .lt 30, 3, 31, 0) from by decide +kernel) rfl (tt_iload_n (pc := 4) (show xcode 17 4 = some (.iload_n 1, 1, 0, 0) from by decide +kernel) rfl (tt_aload_n (pc := 5) (show xcode 17 5 = some (.aload_n 0, 1, 0, 0) from by decide +kernel) rfl (tt_get (pc := 6) (show xcode 17 6 = some (.getfield 9, 3, 2, 0) from by decide +kernel) (tt_aload_n (pc := 9) (show xcode 17 9 = some (.aload_n 0, 1, 0, 0) from by decide +kernel) rfl (tt_get (pc := 10) (show xcode 17 10 = some (.getfield 15, 3, 2, 1) from by decide +kernel) (tt_imul (pc := 13) hE (show xcode 17 13 = some (.imul, 1, 0, 0) from by decide +kernel) (tt_icmp (pc := 14) hE (show xcode 17 14 = some (.if_icmp .ge 17, 3, 31, 0) from by decide +kernel) rfl (tt_aload_n (pc := 17) (show xcode 17 17 = some (.aload_n 0, 1, 0, 0) from by decide +kernel) rfl (tt_get (pc := 18) (show xcode 17 18 = some (.getfield 18, 3, 2, 2) from by decide +kernel) (tt_iload_n (pc := 21) (show xcode 17 21 = some (.iload_n 1, 1, 0, 0) from by decide +kernel) rfl (tt_iaload (pc := 22) (show xcode 17 22 = some (.iaload, 1, 0, 0) from by decide +kernel) (tt_iconst (pc := 23) (show xcode 17 23 = some (.iconst (-1), 1, 0, 0) from by decide +kernel) (by decide +kernel) (tt_icmp (pc := 24) hE (show xcode 17 24 = some (.if_icmp .eq 7, 3, 31, 0) from by decide +kernel) rfl (tt_iconst (pc := 27) (show xcode 17 27 = some (.iconst 1, 1, 0, 0) from by decide +kernel) (by decide +kernel) (tt_goto (pc := 28) (show xcode 17 28 = some (.goto 4, 3, 32, 0) from by decide +kernel))))))))))))))))))
theorem yg_17_31 {G : yG} {xrec : Nat → List Value → XW → Option (XO × XW)} {xs : List Int32} {E : yE} {rec : yCl} (hE : yOk G xs E) (hR : yRecOk G rec xrec) : yGd G xrec xs E rec 17 63 31 yc_17_31 := yGd_mono (by decide +kernel) (tt_iconst (pc := 31) (show xcode 17 31 = some (.iconst 0, 1, 0, 0) from by decide +kernel) (by decide +kernel) (g_lab))
theorem yg_17_32 {G : yG} {xrec : Nat → List Value → XW → Option (XO × XW)} {xs : List Int32} {E : yE} {rec : yCl} (hE : yOk G xs E) (hR : yRecOk G rec xrec) : yGd G xrec xs E rec 17 63 32 yc_17_32 := yGd_mono (by decide +kernel) (tt_retz (pc := 32) (show xcode 17 32 = some (.ireturn, 1, 0, 0) from by decide +kernel) (by decide +kernel) (by decide +kernel))
theorem ym_17 {G : yG} {xrec : Nat → List Value → XW → Option (XO × XW)} {xs : List Int32} {E : yE} {rec : yCl} (hE : yOk G xs E) (hR : yRecOk G rec xrec) (t : Nat) : yGd G xrec xs E rec 17 63 t (yb_17 t) := g_node (g_leaf (yg_17_0 hE hR)) (g_node (g_leaf (yg_17_31 hE hR)) (g_leaf (yg_17_32 hE hR)))
theorem yq_17 {G : yG} {xrec : Nat → List Value → XW → Option (XO × XW)} {xs : List Int32} {E : yE} {rec : yCl} (hE : yOk G xs E) (hR : yRecOk G rec xrec) {a : Nat} (h : a = 17) : yQp G xrec xs E rec a (nat_lit 2, yb_17) := by subst h; exact ⟨by decide +kernel, fun t => ym_17 hE hR t⟩
theorem yg_22_0 {G : yG} {xrec : Nat → List Value → XW → Option (XO × XW)} {xs : List Int32} {E : yE} {rec : yCl} (hE : yOk G xs E) (hR : yRecOk G rec xrec) : yGd G xrec xs E rec 22 63 0 yc_22_0 := yGd_mono (by decide +kernel) (tt_iconst (pc := 0) (show xcode 22 0 = some (.iconst 0, 1, 0, 0) from by decide +kernel) (by decide +kernel) (tt_istore_n (pc := 1) (show xcode 22 1 = some (.istore_n 1, 1, 0, 0) from by decide +kernel) rfl (by decide +kernel) (g_lab)))
theorem yg_22_2 {G : yG} {xrec : Nat → List Value → XW → Option (XO × XW)} {xs : List Int32} {E : yE} {rec : yCl} (hE : yOk G xs E) (hR : yRecOk G rec xrec) : yGd G xrec xs E rec 22 63 2 yc_22_2 := yGd_mono (by decide +kernel) (tt_iload_n (pc := 2) (show xcode 22 2 = some (.iload_n 1, 1, 0, 0) from by decide +kernel) rfl (tt_aload_n (pc := 3) (show xcode 22 3 = some (.aload_n 0, 1, 0, 0) from by decide +kernel) rfl (tt_get (pc := 4) (show xcode 22 4 = some (.getfield 15, 3, 2, 1) from by decide +kernel) (tt_icmp (pc := 7) hE (show xcode 22 7 = some (.if_icmp .ge 98, 3, 105, 0) from by decide +kernel) rfl (tt_iconst (pc := 10) (show xcode 22 10 = some (.iconst 0, 1, 0, 0) from by decide +kernel) (by decide +kernel) (tt_istore_n (pc := 11) (show xcode 22 11 = some (.istore_n 2, 1, 0, 0) from by decide +kernel) rfl (by decide +kernel) (g_lab)))))))
theorem yg_22_12 {G : yG} {xrec : Nat → List Value → XW → Option (XO × XW)} {xs : List Int32} {E : yE} {rec : yCl} (hE : yOk G xs E) (hR : yRecOk G rec xrec) : yGd G xrec xs E rec 22 63 12 yc_22_12 := yGd_mono (by decide +kernel) (tt_iload_n (pc := 12) (show xcode 22 12 = some (.iload_n 2, 1, 0, 0) from by decide +kernel) rfl (tt_aload_n (pc := 13) (show xcode 22 13 = some (.aload_n 0, 1, 0, 0) from by decide +kernel) rfl (tt_get (pc := 14) (show xcode 22 14 = some (.getfield 9, 3, 2, 0) from by decide +kernel) (tt_icmp (pc := 17) hE (show xcode 22 17 = some (.if_icmp .ge 82, 3, 99, 0) from by decide +kernel) rfl (tt_iload_n (pc := 20) (show xcode 22 20 = some (.iload_n 1, 1, 0, 0) from by decide +kernel) rfl (tt_aload_n (pc := 21) (show xcode 22 21 = some (.aload_n 0, 1, 0, 0) from by decide +kernel) rfl (tt_get (pc := 22) (show xcode 22 22 = some (.getfield 9, 3, 2, 0) from by decide +kernel) (tt_imul (pc := 25) hE (show xcode 22 25 = some (.imul, 1, 0, 0) from by decide +kernel) (tt_iload_n (pc := 26) (show xcode 22 26 = some (.iload_n 2, 1, 0, 0) from by decide +kernel) rfl (tt_iadd (pc := 27) hE (show xcode 22 27 = some (.iadd, 1, 0, 0) from by decide +kernel) (tt_istore_n (pc := 28) (show xcode 22 28 = some (.istore_n 3, 1, 0, 0) from by decide +kernel) rfl (by decide +kernel) (tt_aload_n (pc := 29) (show xcode 22 29 = some (.aload_n 0, 1, 0, 0) from by decide +kernel) rfl (tt_iload_n (pc := 30) (show xcode 22 30 = some (.iload_n 3, 1, 0, 0) from by decide +kernel) rfl (tt_iconst (pc := 31) (show xcode 22 31 = some (.iconst 0, 1, 0, 0) from by decide +kernel) (by decide +kernel) (tt_iload_n (pc := 32) (show xcode 22 32 = some (.iload_n 3, 1, 0, 0) from by decide +kernel) rfl (tt_aload_n (pc := 33) (show xcode 22 33 = some (.aload_n 0, 1, 0, 0) from by decide +kernel) rfl (tt_get (pc := 34) (show xcode 22 34 = some (.getfield 9, 3, 2, 0) from by decide +kernel) (tt_isub (pc := 37) hE (show xcode 22 37 = some (.isub, 1, 0, 0) from by decide +kernel) (tt_calV (pc := 38) hR (show xcode 22 38 = some (.invokevirtual 45, 3, 23, 0) from by decide +kernel) (by decide +kernel) (by decide +kernel) (tt_aload_n (pc := 41) (show xcode 22 41 = some (.aload_n 0, 1, 0, 0) from by decide +kernel) rfl (tt_iload_n (pc := 42) (show xcode 22 42 = some (.iload_n 3, 1, 0, 0) from by decide +kernel) rfl (tt_iconst (pc := 43) (show xcode 22 43 = some (.iconst 1, 1, 0, 0) from by decide +kernel) (by decide +kernel) (tt_iload_n (pc := 44) (show xcode 22 44 = some (.iload_n 2, 1, 0, 0) from by decide +kernel) rfl (tt_aload_n (pc := 45) (show xcode 22 45 = some (.aload_n 0, 1, 0, 0) from by decide +kernel) rfl (tt_get (pc := 46) (show xcode 22 46 = some (.getfield 9, 3, 2, 0) from by decide +kernel) (tt_iconst (pc := 49) (show xcode 22 49 = some (.iconst 1, 1, 0, 0) from by decide +kernel) (by decide +kernel) (tt_isub (pc := 50) hE (show xcode 22 50 = some (.isub, 1, 0, 0) from by decide +kernel) (tt_icmp (pc := 51) hE (show xcode 22 51 = some (.if_icmp .ge 9, 3, 60, 0) from by decide +kernel) rfl (tt_iload_n (pc := 54) (show xcode 22 54 = some (.iload_n 3, 1, 0, 0) from by decide +kernel) rfl (tt_iconst (pc := 55) (show xcode 22 55 = some (.iconst 1, 1, 0, 0) from by decide +kernel) (by decide +kernel) (tt_iadd (pc := 56) hE (show xcode 22 56 = some (.iadd, 1, 0, 0) from by decide +kernel) (tt_goto (pc := 57) (show xcode 22 57 = some (.goto 4, 3, 61, 0) from by decide +kernel)))))))))))))))))))))))))))))))))
theorem yg_22_60 {G : yG} {xrec : Nat → List Value → XW → Option (XO × XW)} {xs : List Int32} {E : yE} {rec : yCl} (hE : yOk G xs E) (hR : yRecOk G rec xrec) : yGd G xrec xs E rec 22 63 60 yc_22_60 := yGd_mono (by decide +kernel) (tt_iload_n (pc := 60) (show xcode 22 60 = some (.iload_n 3, 1, 0, 0) from by decide +kernel) rfl (g_lab))
theorem yg_22_61 {G : yG} {xrec : Nat → List Value → XW → Option (XO × XW)} {xs : List Int32} {E : yE} {rec : yCl} (hE : yOk G xs E) (hR : yRecOk G rec xrec) : yGd G xrec xs E rec 22 63 61 yc_22_61 := yGd_mono (by decide +kernel) (tt_calV (pc := 61) hR (show xcode 22 61 = some (.invokevirtual 45, 3, 23, 0) from by decide +kernel) (by decide +kernel) (by decide +kernel) (tt_aload_n (pc := 64) (show xcode 22 64 = some (.aload_n 0, 1, 0, 0) from by decide +kernel) rfl (tt_iload_n (pc := 65) (show xcode 22 65 = some (.iload_n 3, 1, 0, 0) from by decide +kernel) rfl (tt_iconst (pc := 66) (show xcode 22 66 = some (.iconst 2, 1, 0, 0) from by decide +kernel) (by decide +kernel) (tt_iload_n (pc := 67) (show xcode 22 67 = some (.iload_n 3, 1, 0, 0) from by decide +kernel) rfl (tt_aload_n (pc := 68) (show xcode 22 68 = some (.aload_n 0, 1, 0, 0) from by decide +kernel) rfl (tt_get (pc := 69) (show xcode 22 69 = some (.getfield 9, 3, 2, 0) from by decide +kernel) (tt_iadd (pc := 72) hE (show xcode 22 72 = some (.iadd, 1, 0, 0) from by decide +kernel) (tt_calV (pc := 73) hR (show xcode 22 73 = some (.invokevirtual 45, 3, 23, 0) from by decide +kernel) (by decide +kernel) (by decide +kernel) (tt_aload_n (pc := 76) (show xcode 22 76 = some (.aload_n 0, 1, 0, 0) from by decide +kernel) rfl (tt_iload_n (pc := 77) (show xcode 22 77 = some (.iload_n 3, 1, 0, 0) from by decide +kernel) rfl (tt_iconst (pc := 78) (show xcode 22 78 = some (.iconst 3, 1, 0, 0) from by decide +kernel) (by decide +kernel) (tt_iload_n (pc := 79) (show xcode 22 79 = some (.iload_n 2, 1, 0, 0) from by decide +kernel) rfl (tt_if (pc := 80) hE (show xcode 22 80 = some (.ifCond .le 9, 3, 89, 0) from by decide +kernel) rfl (tt_iload_n (pc := 83) (show xcode 22 83 = some (.iload_n 3, 1, 0, 0) from by decide +kernel) rfl (tt_iconst (pc := 84) (show xcode 22 84 = some (.iconst 1, 1, 0, 0) from by decide +kernel) (by decide +kernel) (tt_isub (pc := 85) hE (show xcode 22 85 = some (.isub, 1, 0, 0) from by decide +kernel) (tt_goto (pc := 86) (show xcode 22 86 = some (.goto 4, 3, 90, 0) from by decide +kernel)))))))))))))))))))
theorem yg_22_89 {G : yG} {xrec : Nat → List Value → XW → Option (XO × XW)} {xs : List Int32} {E : yE} {rec : yCl} (hE : yOk G xs E) (hR : yRecOk G rec xrec) : yGd G xrec xs E rec 22 63 89 yc_22_89 := yGd_mono (by decide +kernel) (tt_iload_n (pc := 89) (show xcode 22 89 = some (.iload_n 3, 1, 0, 0) from by decide +kernel) rfl (g_lab))
theorem yg_22_90 {G : yG} {xrec : Nat → List Value → XW → Option (XO × XW)} {xs : List Int32} {E : yE} {rec : yCl} (hE : yOk G xs E) (hR : yRecOk G rec xrec) : yGd G xrec xs E rec 22 63 90 yc_22_90 := yGd_mono (by decide +kernel) (tt_calV (pc := 90) hR (show xcode 22 90 = some (.invokevirtual 45, 3, 23, 0) from by decide +kernel) (by decide +kernel) (by decide +kernel) (tt_iinc (pc := 93) (show xcode 22 93 = some (.iinc 2 1, 3, 0, 0) from by decide +kernel) (by decide +kernel) (by decide +kernel) (tt_goto (pc := 96) (show xcode 22 96 = some (.goto (-84), 3, 12, 0) from by decide +kernel))))
theorem yg_22_99 {G : yG} {xrec : Nat → List Value → XW → Option (XO × XW)} {xs : List Int32} {E : yE} {rec : yCl} (hE : yOk G xs E) (hR : yRecOk G rec xrec) : yGd G xrec xs E rec 22 63 99 yc_22_99 := yGd_mono (by decide +kernel) (tt_iinc (pc := 99) (show xcode 22 99 = some (.iinc 1 1, 3, 0, 0) from by decide +kernel) (by decide +kernel) (by decide +kernel) (tt_goto (pc := 102) (show xcode 22 102 = some (.goto (-100), 3, 2, 0) from by decide +kernel)))
theorem yg_22_105 {G : yG} {xrec : Nat → List Value → XW → Option (XO × XW)} {xs : List Int32} {E : yE} {rec : yCl} (hE : yOk G xs E) (hR : yRecOk G rec xrec) : yGd G xrec xs E rec 22 63 105 yc_22_105 := yGd_mono (by decide +kernel) (tt_ret0 (pc := 105) (show xcode 22 105 = some (.return_, 1, 0, 0) from by decide +kernel) (by decide +kernel) (by decide +kernel))
theorem ym_22 {G : yG} {xrec : Nat → List Value → XW → Option (XO × XW)} {xs : List Int32} {E : yE} {rec : yCl} (hE : yOk G xs E) (hR : yRecOk G rec xrec) (t : Nat) : yGd G xrec xs E rec 22 63 t (yb_22 t) := g_node (g_node (g_node (g_leaf (yg_22_0 hE hR)) (g_leaf (yg_22_2 hE hR))) (g_node (g_leaf (yg_22_12 hE hR)) (g_leaf (yg_22_60 hE hR)))) (g_node (g_node (g_leaf (yg_22_61 hE hR)) (g_leaf (yg_22_89 hE hR))) (g_node (g_leaf (yg_22_90 hE hR)) (g_node (g_leaf (yg_22_99 hE hR)) (g_leaf (yg_22_105 hE hR)))))
theorem yq_22 {G : yG} {xrec : Nat → List Value → XW → Option (XO × XW)} {xs : List Int32} {E : yE} {rec : yCl} (hE : yOk G xs E) (hR : yRecOk G rec xrec) {a : Nat} (h : a = 22) : yQp G xrec xs E rec a (nat_lit 4, yb_22) := by subst h; exact ⟨by decide +kernel, fun t => ym_22 hE hR t⟩
theorem yg_23_0 {G : yG} {xrec : Nat → List Value → XW → Option (XO × XW)} {xs : List Int32} {E : yE} {rec : yCl} (hE : yOk G xs E) (hR : yRecOk G rec xrec) : yGd G xrec xs E rec 23 63 0 yc_23_0 := yGd_mono (by decide +kernel) (tt_aload_n (pc := 0) (show xcode 23 0 = some (.aload_n 0, 1, 0, 0) from by decide +kernel) rfl (tt_get (pc := 1) (show xcode 23 1 = some (.getfield 25, 3, 2, 4) from by decide +kernel) (tt_iload_n (pc := 4) (show xcode 23 4 = some (.iload_n 1, 1, 0, 0) from by decide +kernel) rfl (tt_iconst (pc := 5) (show xcode 23 5 = some (.iconst 4, 1, 0, 0) from by decide +kernel) (by decide +kernel) (tt_imul (pc := 6) hE (show xcode 23 6 = some (.imul, 1, 0, 0) from by decide +kernel) (tt_iload_n (pc := 7) (show xcode 23 7 = some (.iload_n 2, 1, 0, 0) from by decide +kernel) rfl (tt_iadd (pc := 8) hE (show xcode 23 8 = some (.iadd, 1, 0, 0) from by decide +kernel) (tt_aload_n (pc := 9) (show xcode 23 9 = some (.aload_n 0, 1, 0, 0) from by decide +kernel) rfl (tt_iload_n (pc := 10) (show xcode 23 10 = some (.iload_n 1, 1, 0, 0) from by decide +kernel) rfl (tt_calV (pc := 11) hR (show xcode 23 11 = some (.invokevirtual 37, 3, 17, 0) from by decide +kernel) (by decide +kernel) (by decide +kernel) (tt_if (pc := 14) hE (show xcode 23 14 = some (.ifCond .eq 15, 3, 29, 0) from by decide +kernel) rfl (tt_aload_n (pc := 17) (show xcode 23 17 = some (.aload_n 0, 1, 0, 0) from by decide +kernel) rfl (tt_iload_n (pc := 18) (show xcode 23 18 = some (.iload_n 3, 1, 0, 0) from by decide +kernel) rfl (tt_calV (pc := 19) hR (show xcode 23 19 = some (.invokevirtual 37, 3, 17, 0) from by decide +kernel) (by decide +kernel) (by decide +kernel) (tt_if (pc := 22) hE (show xcode 23 22 = some (.ifCond .eq 7, 3, 29, 0) from by decide +kernel) rfl (tt_iload_n (pc := 25) (show xcode 23 25 = some (.iload_n 3, 1, 0, 0) from by decide +kernel) rfl (tt_goto (pc := 26) (show xcode 23 26 = some (.goto 4, 3, 30, 0) from by decide +kernel))))))))))))))))))
theorem yg_23_29 {G : yG} {xrec : Nat → List Value → XW → Option (XO × XW)} {xs : List Int32} {E : yE} {rec : yCl} (hE : yOk G xs E) (hR : yRecOk G rec xrec) : yGd G xrec xs E rec 23 63 29 yc_23_29 := yGd_mono (by decide +kernel) (tt_iload_n (pc := 29) (show xcode 23 29 = some (.iload_n 1, 1, 0, 0) from by decide +kernel) rfl (g_lab))
theorem yg_23_30 {G : yG} {xrec : Nat → List Value → XW → Option (XO × XW)} {xs : List Int32} {E : yE} {rec : yCl} (hE : yOk G xs E) (hR : yRecOk G rec xrec) : yGd G xrec xs E rec 23 63 30 yc_23_30 := yGd_mono (by decide +kernel) (tt_iastore (pc := 30) (show xcode 23 30 = some (.iastore, 1, 0, 0) from by decide +kernel) (tt_ret0 (pc := 31) (show xcode 23 31 = some (.return_, 1, 0, 0) from by decide +kernel) (by decide +kernel) (by decide +kernel)))
theorem ym_23 {G : yG} {xrec : Nat → List Value → XW → Option (XO × XW)} {xs : List Int32} {E : yE} {rec : yCl} (hE : yOk G xs E) (hR : yRecOk G rec xrec) (t : Nat) : yGd G xrec xs E rec 23 63 t (yb_23 t) := g_node (g_leaf (yg_23_0 hE hR)) (g_node (g_leaf (yg_23_29 hE hR)) (g_leaf (yg_23_30 hE hR)))
theorem yq_23 {G : yG} {xrec : Nat → List Value → XW → Option (XO × XW)} {xs : List Int32} {E : yE} {rec : yCl} (hE : yOk G xs E) (hR : yRecOk G rec xrec) {a : Nat} (h : a = 23) : yQp G xrec xs E rec a (nat_lit 4, yb_23) := by subst h; exact ⟨by decide +kernel, fun t => ym_23 hE hR t⟩
theorem yg_27_0 {G : yG} {xrec : Nat → List Value → XW → Option (XO × XW)} {xs : List Int32} {E : yE} {rec : yCl} (hE : yOk G xs E) (hR : yRecOk G rec xrec) : yGd G xrec xs E rec 27 63 0 yc_27_0 := yGd_mono (by decide +kernel) (tt_aload_n (pc := 0) (show xcode 27 0 = some (.aload_n 0, 1, 0, 0) from by decide +kernel) rfl (tt_obj (pc := 1) (show xcode 27 1 = some (.invokespecial 3, 3, 0, 2) from by decide +kernel) (by decide +kernel) (tt_aload_n (pc := 4) (show xcode 27 4 = some (.aload_n 0, 1, 0, 0) from by decide +kernel) rfl (tt_bipush (pc := 5) (show xcode 27 5 = some (.bipush 45, 2, 0, 0) from by decide +kernel) (by decide +kernel) (tt_newarray (pc := 7) (show xcode 27 7 = some (.newarray .char, 2, 102, 0) from by decide +kernel) (by decide +kernel) rfl (tt_putR (pc := 9) (show xcode 27 9 = some (.putfield 9, 3, 3, 0) from by decide +kernel) (by decide +kernel) (tt_aload_n (pc := 12) (show xcode 27 12 = some (.aload_n 0, 1, 0, 0) from by decide +kernel) rfl (tt_iconst (pc := 13) (show xcode 27 13 = some (.iconst 0, 1, 0, 0) from by decide +kernel) (by decide +kernel) (tt_putI (pc := 14) (show xcode 27 14 = some (.putfield 15, 3, 3, 1) from by decide +kernel) (by decide +kernel) (tt_ret0 (pc := 17) (show xcode 27 17 = some (.return_, 1, 0, 0) from by decide +kernel) (by decide +kernel) (by decide +kernel)))))))))))
theorem ym_27 {G : yG} {xrec : Nat → List Value → XW → Option (XO × XW)} {xs : List Int32} {E : yE} {rec : yCl} (hE : yOk G xs E) (hR : yRecOk G rec xrec) (t : Nat) : yGd G xrec xs E rec 27 63 t (yb_27 t) := g_leaf (yg_27_0 hE hR)
theorem yq_27 {G : yG} {xrec : Nat → List Value → XW → Option (XO × XW)} {xs : List Int32} {E : yE} {rec : yCl} (hE : yOk G xs E) (hR : yRecOk G rec xrec) {a : Nat} (h : a = 27) : yQp G xrec xs E rec a (nat_lit 1, yb_27) := by subst h; exact ⟨by decide +kernel, fun t => ym_27 hE hR t⟩
theorem yg_36_0 {G : yG} {xrec : Nat → List Value → XW → Option (XO × XW)} {xs : List Int32} {E : yE} {rec : yCl} (hE : yOk G xs E) (hR : yRecOk G rec xrec) : yGd G xrec xs E rec 36 63 0 yc_36_0 := yGd_mono (by decide +kernel) (tt_aload_n (pc := 0) (show xcode 36 0 = some (.aload_n 0, 1, 0, 0) from by decide +kernel) rfl (tt_obj (pc := 1) (show xcode 36 1 = some (.invokespecial 3, 3, 0, 2) from by decide +kernel) (by decide +kernel) (tt_aload_n (pc := 4) (show xcode 36 4 = some (.aload_n 0, 1, 0, 0) from by decide +kernel) rfl (tt_bipush (pc := 5) (show xcode 36 5 = some (.bipush 36, 2, 0, 0) from by decide +kernel) (by decide +kernel) (tt_newarray (pc := 7) (show xcode 36 7 = some (.newarray .int, 2, 100, 0) from by decide +kernel) (by decide +kernel) rfl (tt_putR (pc := 9) (show xcode 36 9 = some (.putfield 9, 3, 4, 0) from by decide +kernel) (by decide +kernel) (tt_aload_n (pc := 12) (show xcode 36 12 = some (.aload_n 0, 1, 0, 0) from by decide +kernel) rfl (tt_bipush (pc := 13) (show xcode 36 13 = some (.bipush 36, 2, 0, 0) from by decide +kernel) (by decide +kernel) (tt_newarray (pc := 15) (show xcode 36 15 = some (.newarray .int, 2, 100, 0) from by decide +kernel) (by decide +kernel) rfl (tt_putR (pc := 17) (show xcode 36 17 = some (.putfield 15, 3, 4, 1) from by decide +kernel) (by decide +kernel) (tt_ret0 (pc := 20) (show xcode 36 20 = some (.return_, 1, 0, 0) from by decide +kernel) (by decide +kernel) (by decide +kernel))))))))))))
theorem ym_36 {G : yG} {xrec : Nat → List Value → XW → Option (XO × XW)} {xs : List Int32} {E : yE} {rec : yCl} (hE : yOk G xs E) (hR : yRecOk G rec xrec) (t : Nat) : yGd G xrec xs E rec 36 63 t (yb_36 t) := g_leaf (yg_36_0 hE hR)
theorem yq_36 {G : yG} {xrec : Nat → List Value → XW → Option (XO × XW)} {xs : List Int32} {E : yE} {rec : yCl} (hE : yOk G xs E) (hR : yRecOk G rec xrec) {a : Nat} (h : a = 36) : yQp G xrec xs E rec a (nat_lit 1, yb_36) := by subst h; exact ⟨by decide +kernel, fun t => ym_36 hE hR t⟩
theorem yg_38_0 {G : yG} {xrec : Nat → List Value → XW → Option (XO × XW)} {xs : List Int32} {E : yE} {rec : yCl} (hE : yOk G xs E) (hR : yRecOk G rec xrec) : yGd G xrec xs E rec 38 63 0 yc_38_0 := yGd_mono (by decide +kernel) (tt_aload_n (pc := 0) (show xcode 38 0 = some (.aload_n 0, 1, 0, 0) from by decide +kernel) rfl (tt_obj (pc := 1) (show xcode 38 1 = some (.invokespecial 3, 3, 0, 2) from by decide +kernel) (by decide +kernel) (tt_aload_n (pc := 4) (show xcode 38 4 = some (.aload_n 0, 1, 0, 0) from by decide +kernel) rfl (tt_bipush (pc := 5) (show xcode 38 5 = some (.bipush 36, 2, 0, 0) from by decide +kernel) (by decide +kernel) (tt_newarray (pc := 7) (show xcode 38 7 = some (.newarray .long, 2, 101, 0) from by decide +kernel) (by decide +kernel) rfl (tt_putR (pc := 9) (show xcode 38 9 = some (.putfield 9, 3, 5, 0) from by decide +kernel) (by decide +kernel) (tt_aload_n (pc := 12) (show xcode 38 12 = some (.aload_n 0, 1, 0, 0) from by decide +kernel) rfl (tt_bipush (pc := 13) (show xcode 38 13 = some (.bipush 36, 2, 0, 0) from by decide +kernel) (by decide +kernel) (tt_newarray (pc := 15) (show xcode 38 15 = some (.newarray .long, 2, 101, 0) from by decide +kernel) (by decide +kernel) rfl (tt_putR (pc := 17) (show xcode 38 17 = some (.putfield 15, 3, 5, 1) from by decide +kernel) (by decide +kernel) (tt_aload_n (pc := 20) (show xcode 38 20 = some (.aload_n 0, 1, 0, 0) from by decide +kernel) rfl (tt_sipush (pc := 21) (show xcode 38 21 = some (.sipush 324, 3, 0, 0) from by decide +kernel) (by decide +kernel) (tt_newarray (pc := 24) (show xcode 38 24 = some (.newarray .long, 2, 101, 0) from by decide +kernel) (by decide +kernel) rfl (tt_putR (pc := 26) (show xcode 38 26 = some (.putfield 18, 3, 5, 2) from by decide +kernel) (by decide +kernel) (tt_aload_n (pc := 29) (show xcode 38 29 = some (.aload_n 0, 1, 0, 0) from by decide +kernel) rfl (tt_bipush (pc := 30) (show xcode 38 30 = some (.bipush 9, 2, 0, 0) from by decide +kernel) (by decide +kernel) (tt_newarray (pc := 32) (show xcode 38 32 = some (.newarray .int, 2, 100, 0) from by decide +kernel) (by decide +kernel) rfl (tt_putR (pc := 34) (show xcode 38 34 = some (.putfield 21, 3, 5, 3) from by decide +kernel) (by decide +kernel) (tt_ret0 (pc := 37) (show xcode 38 37 = some (.return_, 1, 0, 0) from by decide +kernel) (by decide +kernel) (by decide +kernel))))))))))))))))))))
theorem ym_38 {G : yG} {xrec : Nat → List Value → XW → Option (XO × XW)} {xs : List Int32} {E : yE} {rec : yCl} (hE : yOk G xs E) (hR : yRecOk G rec xrec) (t : Nat) : yGd G xrec xs E rec 38 63 t (yb_38 t) := g_leaf (yg_38_0 hE hR)
theorem yq_38 {G : yG} {xrec : Nat → List Value → XW → Option (XO × XW)} {xs : List Int32} {E : yE} {rec : yCl} (hE : yOk G xs E) (hR : yRecOk G rec xrec) {a : Nat} (h : a = 38) : yQp G xrec xs E rec a (nat_lit 1, yb_38) := by subst h; exact ⟨by decide +kernel, fun t => ym_38 hE hR t⟩
theorem yg_48_0 {G : yG} {xrec : Nat → List Value → XW → Option (XO × XW)} {xs : List Int32} {E : yE} {rec : yCl} (hE : yOk G xs E) (hR : yRecOk G rec xrec) : yGd G xrec xs E rec 48 63 0 yc_48_0 := yGd_mono (by decide +kernel) (tt_aload_n (pc := 0) (show xcode 48 0 = some (.aload_n 0, 1, 0, 0) from by decide +kernel) rfl (tt_obj (pc := 1) (show xcode 48 1 = some (.invokespecial 3, 3, 0, 2) from by decide +kernel) (by decide +kernel) (tt_aload_n (pc := 4) (show xcode 48 4 = some (.aload_n 0, 1, 0, 0) from by decide +kernel) rfl (tt_new (pc := 5) (show xcode 48 5 = some (.new 9, 3, 2, 0) from by decide +kernel) (by decide +kernel) (yd_2_e G) (g_dup (pc := 8) (show xcode 48 8 = some (.dup, 1, 0, 0) from by decide +kernel) (tt_calI (pc := 9) hR (show xcode 48 9 = some (.invokespecial 11, 3, 13, 0) from by decide +kernel) (by decide +kernel) (by decide +kernel) (tt_putR (pc := 12) (show xcode 48 12 = some (.putfield 12, 3, 6, 0) from by decide +kernel) (by decide +kernel) (tt_aload_n (pc := 15) (show xcode 48 15 = some (.aload_n 0, 1, 0, 0) from by decide +kernel) rfl (tt_new (pc := 16) (show xcode 48 16 = some (.new 18, 3, 7, 0) from by decide +kernel) (by decide +kernel) (yd_7_e G) (g_dup (pc := 19) (show xcode 48 19 = some (.dup, 1, 0, 0) from by decide +kernel) (tt_calI (pc := 20) hR (show xcode 48 20 = some (.invokespecial 20, 3, 51, 0) from by decide +kernel) (by decide +kernel) (by decide +kernel) (tt_putR (pc := 23) (show xcode 48 23 = some (.putfield 21, 3, 6, 1) from by decide +kernel) (by decide +kernel) (tt_aload_n (pc := 26) (show xcode 48 26 = some (.aload_n 0, 1, 0, 0) from by decide +kernel) rfl (tt_new (pc := 27) (show xcode 48 27 = some (.new 25, 3, 8, 0) from by decide +kernel) (by decide +kernel) (yd_8_e G) (g_dup (pc := 30) (show xcode 48 30 = some (.dup, 1, 0, 0) from by decide +kernel) (tt_calI (pc := 31) hR (show xcode 48 31 = some (.invokespecial 27, 3, 56, 1) from by decide +kernel) (by decide +kernel) (by decide +kernel) (tt_putR (pc := 34) (show xcode 48 34 = some (.putfield 28, 3, 6, 2) from by decide +kernel) (by decide +kernel) (tt_aload_n (pc := 37) (show xcode 48 37 = some (.aload_n 0, 1, 0, 0) from by decide +kernel) rfl (tt_bipush (pc := 38) (show xcode 48 38 = some (.bipush 36, 2, 0, 0) from by decide +kernel) (by decide +kernel) (tt_newarray (pc := 40) (show xcode 48 40 = some (.newarray .int, 2, 100, 0) from by decide +kernel) (by decide +kernel) rfl (tt_putR (pc := 42) (show xcode 48 42 = some (.putfield 32, 3, 6, 3) from by decide +kernel) (by decide +kernel) (tt_aload_n (pc := 45) (show xcode 48 45 = some (.aload_n 0, 1, 0, 0) from by decide +kernel) rfl (tt_iconst (pc := 46) (show xcode 48 46 = some (.iconst 0, 1, 0, 0) from by decide +kernel) (by decide +kernel) (tt_putI (pc := 47) (show xcode 48 47 = some (.putfield 36, 3, 6, 4) from by decide +kernel) (by decide +kernel) (tt_aload_n (pc := 50) (show xcode 48 50 = some (.aload_n 0, 1, 0, 0) from by decide +kernel) rfl (tt_iconst (pc := 51) (show xcode 48 51 = some (.iconst 1, 1, 0, 0) from by decide +kernel) (by decide +kernel) (tt_putI (pc := 52) (show xcode 48 52 = some (.putfield 40, 3, 6, 5) from by decide +kernel) (by decide +kernel) (tt_aload_n (pc := 55) (show xcode 48 55 = some (.aload_n 0, 1, 0, 0) from by decide +kernel) rfl (tt_iconst (pc := 56) (show xcode 48 56 = some (.iconst 0, 1, 0, 0) from by decide +kernel) (by decide +kernel) (tt_putI (pc := 57) (show xcode 48 57 = some (.putfield 43, 3, 6, 6) from by decide +kernel) (by decide +kernel) (tt_aload_n (pc := 60) (show xcode 48 60 = some (.aload_n 0, 1, 0, 0) from by decide +kernel) rfl (tt_iconst (pc := 61) (show xcode 48 61 = some (.iconst 0, 1, 0, 0) from by decide +kernel) (by decide +kernel) (tt_putI (pc := 62) (show xcode 48 62 = some (.putfield 46, 3, 6, 7) from by decide +kernel) (by decide +kernel) (tt_ret0 (pc := 65) (show xcode 48 65 = some (.return_, 1, 0, 0) from by decide +kernel) (by decide +kernel) (by decide +kernel)))))))))))))))))))))))))))))))))))
theorem ym_48 {G : yG} {xrec : Nat → List Value → XW → Option (XO × XW)} {xs : List Int32} {E : yE} {rec : yCl} (hE : yOk G xs E) (hR : yRecOk G rec xrec) (t : Nat) : yGd G xrec xs E rec 48 63 t (yb_48 t) := g_leaf (yg_48_0 hE hR)
theorem yq_48 {G : yG} {xrec : Nat → List Value → XW → Option (XO × XW)} {xs : List Int32} {E : yE} {rec : yCl} (hE : yOk G xs E) (hR : yRecOk G rec xrec) {a : Nat} (h : a = 48) : yQp G xrec xs E rec a (nat_lit 1, yb_48) := by subst h; exact ⟨by decide +kernel, fun t => ym_48 hE hR t⟩
theorem yg_51_0 {G : yG} {xrec : Nat → List Value → XW → Option (XO × XW)} {xs : List Int32} {E : yE} {rec : yCl} (hE : yOk G xs E) (hR : yRecOk G rec xrec) : yGd G xrec xs E rec 51 63 0 yc_51_0 := yGd_mono (by decide +kernel) (tt_aload_n (pc := 0) (show xcode 51 0 = some (.aload_n 0, 1, 0, 0) from by decide +kernel) rfl (tt_obj (pc := 1) (show xcode 51 1 = some (.invokespecial 3, 3, 0, 2) from by decide +kernel) (by decide +kernel) (tt_aload_n (pc := 4) (show xcode 51 4 = some (.aload_n 0, 1, 0, 0) from by decide +kernel) rfl (tt_iconst (pc := 5) (show xcode 51 5 = some (.iconst 4, 1, 0, 0) from by decide +kernel) (by decide +kernel) (tt_newarray (pc := 6) (show xcode 51 6 = some (.newarray .int, 2, 100, 0) from by decide +kernel) (by decide +kernel) rfl (tt_putR (pc := 8) (show xcode 51 8 = some (.putfield 9, 3, 7, 0) from by decide +kernel) (by decide +kernel) (tt_aload_n (pc := 11) (show xcode 51 11 = some (.aload_n 0, 1, 0, 0) from by decide +kernel) rfl (tt_bipush (pc := 12) (show xcode 51 12 = some (.bipush 16, 2, 0, 0) from by decide +kernel) (by decide +kernel) (tt_newarray (pc := 14) (show xcode 51 14 = some (.newarray .int, 2, 100, 0) from by decide +kernel) (by decide +kernel) rfl (tt_putR (pc := 16) (show xcode 51 16 = some (.putfield 15, 3, 7, 1) from by decide +kernel) (by decide +kernel) (tt_aload_n (pc := 19) (show xcode 51 19 = some (.aload_n 0, 1, 0, 0) from by decide +kernel) rfl (tt_iconst (pc := 20) (show xcode 51 20 = some (.iconst 0, 1, 0, 0) from by decide +kernel) (by decide +kernel) (tt_putI (pc := 21) (show xcode 51 21 = some (.putfield 18, 3, 7, 2) from by decide +kernel) (by decide +kernel) (tt_aload_n (pc := 24) (show xcode 51 24 = some (.aload_n 0, 1, 0, 0) from by decide +kernel) rfl (tt_iconst (pc := 25) (show xcode 51 25 = some (.iconst 0, 1, 0, 0) from by decide +kernel) (by decide +kernel) (tt_putI (pc := 26) (show xcode 51 26 = some (.putfield 22, 3, 7, 3) from by decide +kernel) (by decide +kernel) (tt_aload_n (pc := 29) (show xcode 51 29 = some (.aload_n 0, 1, 0, 0) from by decide +kernel) rfl (tt_get (pc := 30) (show xcode 51 30 = some (.getfield 9, 3, 7, 0) from by decide +kernel) (tt_iconst (pc := 33) (show xcode 51 33 = some (.iconst 0, 1, 0, 0) from by decide +kernel) (by decide +kernel) (tt_bipush (pc := 34) (show xcode 51 34 = some (.bipush 16, 2, 0, 0) from by decide +kernel) (by decide +kernel) (tt_iastore (pc := 36) (show xcode 51 36 = some (.iastore, 1, 0, 0) from by decide +kernel) (tt_iconst (pc := 37) (show xcode 51 37 = some (.iconst 0, 1, 0, 0) from by decide +kernel) (by decide +kernel) (tt_istore_n (pc := 38) (show xcode 51 38 = some (.istore_n 1, 1, 0, 0) from by decide +kernel) rfl (by decide +kernel) (g_lab))))))))))))))))))))))))
theorem yg_51_39 {G : yG} {xrec : Nat → List Value → XW → Option (XO × XW)} {xs : List Int32} {E : yE} {rec : yCl} (hE : yOk G xs E) (hR : yRecOk G rec xrec) : yGd G xrec xs E rec 51 63 39 yc_51_39 := yGd_mono (by decide +kernel) (tt_iload_n (pc := 39) (show xcode 51 39 = some (.iload_n 1, 1, 0, 0) from by decide +kernel) rfl (tt_iconst (pc := 40) (show xcode 51 40 = some (.iconst 4, 1, 0, 0) from by decide +kernel) (by decide +kernel) (tt_icmp (pc := 41) hE (show xcode 51 41 = some (.if_icmp .ge 21, 3, 62, 0) from by decide +kernel) rfl (tt_aload_n (pc := 44) (show xcode 51 44 = some (.aload_n 0, 1, 0, 0) from by decide +kernel) rfl (tt_get (pc := 45) (show xcode 51 45 = some (.getfield 15, 3, 7, 1) from by decide +kernel) (tt_iload_n (pc := 48) (show xcode 51 48 = some (.iload_n 1, 1, 0, 0) from by decide +kernel) rfl (tt_iconst (pc := 49) (show xcode 51 49 = some (.iconst 4, 1, 0, 0) from by decide +kernel) (by decide +kernel) (tt_imul (pc := 50) hE (show xcode 51 50 = some (.imul, 1, 0, 0) from by decide +kernel) (tt_iload_n (pc := 51) (show xcode 51 51 = some (.iload_n 1, 1, 0, 0) from by decide +kernel) rfl (tt_iadd (pc := 52) hE (show xcode 51 52 = some (.iadd, 1, 0, 0) from by decide +kernel) (tt_bipush (pc := 53) (show xcode 51 53 = some (.bipush 100, 2, 0, 0) from by decide +kernel) (by decide +kernel) (tt_iastore (pc := 55) (show xcode 51 55 = some (.iastore, 1, 0, 0) from by decide +kernel) (tt_iinc (pc := 56) (show xcode 51 56 = some (.iinc 1 1, 3, 0, 0) from by decide +kernel) (by decide +kernel) (by decide +kernel) (tt_goto (pc := 59) (show xcode 51 59 = some (.goto (-20), 3, 39, 0) from by decide +kernel)))))))))))))))
theorem yg_51_62 {G : yG} {xrec : Nat → List Value → XW → Option (XO × XW)} {xs : List Int32} {E : yE} {rec : yCl} (hE : yOk G xs E) (hR : yRecOk G rec xrec) : yGd G xrec xs E rec 51 63 62 yc_51_62 := yGd_mono (by decide +kernel) (tt_ret0 (pc := 62) (show xcode 51 62 = some (.return_, 1, 0, 0) from by decide +kernel) (by decide +kernel) (by decide +kernel))
theorem ym_51 {G : yG} {xrec : Nat → List Value → XW → Option (XO × XW)} {xs : List Int32} {E : yE} {rec : yCl} (hE : yOk G xs E) (hR : yRecOk G rec xrec) (t : Nat) : yGd G xrec xs E rec 51 63 t (yb_51 t) := g_node (g_leaf (yg_51_0 hE hR)) (g_node (g_leaf (yg_51_39 hE hR)) (g_leaf (yg_51_62 hE hR)))
theorem yq_51 {G : yG} {xrec : Nat → List Value → XW → Option (XO × XW)} {xs : List Int32} {E : yE} {rec : yCl} (hE : yOk G xs E) (hR : yRecOk G rec xrec) {a : Nat} (h : a = 51) : yQp G xrec xs E rec a (nat_lit 2, yb_51) := by subst h; exact ⟨by decide +kernel, fun t => ym_51 hE hR t⟩
theorem yg_56_0 {G : yG} {xrec : Nat → List Value → XW → Option (XO × XW)} {xs : List Int32} {E : yE} {rec : yCl} (hE : yOk G xs E) (hR : yRecOk G rec xrec) : yGd G xrec xs E rec 56 63 0 yc_56_0 := yGd_mono (by decide +kernel) (tt_aload_n (pc := 0) (show xcode 56 0 = some (.aload_n 0, 1, 0, 0) from by decide +kernel) rfl (tt_obj (pc := 1) (show xcode 56 1 = some (.invokespecial 3, 3, 0, 2) from by decide +kernel) (by decide +kernel) (tt_aload_n (pc := 4) (show xcode 56 4 = some (.aload_n 0, 1, 0, 0) from by decide +kernel) rfl (tt_iconst (pc := 5) (show xcode 56 5 = some (.iconst (-1), 1, 0, 0) from by decide +kernel) (by decide +kernel) (tt_putI (pc := 6) (show xcode 56 6 = some (.putfield 9, 3, 8, 0) from by decide +kernel) (by decide +kernel) (tt_aload_n (pc := 9) (show xcode 56 9 = some (.aload_n 0, 1, 0, 0) from by decide +kernel) rfl (tt_iconst (pc := 10) (show xcode 56 10 = some (.iconst 0, 1, 0, 0) from by decide +kernel) (by decide +kernel) (tt_putI (pc := 11) (show xcode 56 11 = some (.putfield 15, 3, 8, 1) from by decide +kernel) (by decide +kernel) (tt_aload_n (pc := 14) (show xcode 56 14 = some (.aload_n 0, 1, 0, 0) from by decide +kernel) rfl (tt_iconst (pc := 15) (show xcode 56 15 = some (.iconst 0, 1, 0, 0) from by decide +kernel) (by decide +kernel) (tt_putI (pc := 16) (show xcode 56 16 = some (.putfield 18, 3, 8, 2) from by decide +kernel) (by decide +kernel) (tt_aload_n (pc := 19) (show xcode 56 19 = some (.aload_n 0, 1, 0, 0) from by decide +kernel) rfl (tt_bipush (pc := 20) (show xcode 56 20 = some (.bipush 8, 2, 0, 0) from by decide +kernel) (by decide +kernel) (tt_newarray (pc := 22) (show xcode 56 22 = some (.newarray .int, 2, 100, 0) from by decide +kernel) (by decide +kernel) rfl (tt_putR (pc := 24) (show xcode 56 24 = some (.putfield 21, 3, 8, 3) from by decide +kernel) (by decide +kernel) (tt_aload_n (pc := 27) (show xcode 56 27 = some (.aload_n 0, 1, 0, 0) from by decide +kernel) rfl (tt_sipush (pc := 28) (show xcode 56 28 = some (.sipush 288, 3, 0, 0) from by decide +kernel) (by decide +kernel) (tt_newarray (pc := 31) (show xcode 56 31 = some (.newarray .int, 2, 100, 0) from by decide +kernel) (by decide +kernel) rfl (tt_putR (pc := 33) (show xcode 56 33 = some (.putfield 25, 3, 8, 4) from by decide +kernel) (by decide +kernel) (tt_ret0 (pc := 36) (show xcode 56 36 = some (.return_, 1, 0, 0) from by decide +kernel) (by decide +kernel) (by decide +kernel)))))))))))))))))))))
theorem ym_56 {G : yG} {xrec : Nat → List Value → XW → Option (XO × XW)} {xs : List Int32} {E : yE} {rec : yCl} (hE : yOk G xs E) (hR : yRecOk G rec xrec) (t : Nat) : yGd G xrec xs E rec 56 63 t (yb_56 t) := g_leaf (yg_56_0 hE hR)
theorem yq_56 {G : yG} {xrec : Nat → List Value → XW → Option (XO × XW)} {xs : List Int32} {E : yE} {rec : yCl} (hE : yOk G xs E) (hR : yRecOk G rec xrec) {a : Nat} (h : a = 56) : yQp G xrec xs E rec a (nat_lit 1, yb_56) := by subst h; exact ⟨by decide +kernel, fun t => ym_56 hE hR t⟩
theorem yg_65_0 {G : yG} {xrec : Nat → List Value → XW → Option (XO × XW)} {xs : List Int32} {E : yE} {rec : yCl} (hE : yOk G xs E) (hR : yRecOk G rec xrec) : yGd G xrec xs E rec 65 63 0 yc_65_0 := yGd_mono (by decide +kernel) (tt_aload_n (pc := 0) (show xcode 65 0 = some (.aload_n 0, 1, 0, 0) from by decide +kernel) rfl (tt_obj (pc := 1) (show xcode 65 1 = some (.invokespecial 3, 3, 0, 2) from by decide +kernel) (by decide +kernel) (tt_aload_n (pc := 4) (show xcode 65 4 = some (.aload_n 0, 1, 0, 0) from by decide +kernel) rfl (tt_bipush (pc := 5) (show xcode 65 5 = some (.bipush 36, 2, 0, 0) from by decide +kernel) (by decide +kernel) (tt_newarray (pc := 7) (show xcode 65 7 = some (.newarray .int, 2, 100, 0) from by decide +kernel) (by decide +kernel) rfl (tt_putR (pc := 9) (show xcode 65 9 = some (.putfield 9, 3, 9, 0) from by decide +kernel) (by decide +kernel) (tt_ret0 (pc := 12) (show xcode 65 12 = some (.return_, 1, 0, 0) from by decide +kernel) (by decide +kernel) (by decide +kernel))))))))
theorem ym_65 {G : yG} {xrec : Nat → List Value → XW → Option (XO × XW)} {xs : List Int32} {E : yE} {rec : yCl} (hE : yOk G xs E) (hR : yRecOk G rec xrec) (t : Nat) : yGd G xrec xs E rec 65 63 t (yb_65 t) := g_leaf (yg_65_0 hE hR)
theorem yq_65 {G : yG} {xrec : Nat → List Value → XW → Option (XO × XW)} {xs : List Int32} {E : yE} {rec : yCl} (hE : yOk G xs E) (hR : yRecOk G rec xrec) {a : Nat} (h : a = 65) : yQp G xrec xs E rec a (nat_lit 1, yb_65) := by subst h; exact ⟨by decide +kernel, fun t => ym_65 hE hR t⟩
theorem yg_70_0 {G : yG} {xrec : Nat → List Value → XW → Option (XO × XW)} {xs : List Int32} {E : yE} {rec : yCl} (hE : yOk G xs E) (hR : yRecOk G rec xrec) : yGd G xrec xs E rec 70 63 0 yc_70_0 := yGd_mono (by decide +kernel) (tt_aload_n (pc := 0) (show xcode 70 0 = some (.aload_n 0, 1, 0, 0) from by decide +kernel) rfl (tt_obj (pc := 1) (show xcode 70 1 = some (.invokespecial 1, 3, 0, 2) from by decide +kernel) (by decide +kernel) (tt_aload_n (pc := 4) (show xcode 70 4 = some (.aload_n 0, 1, 0, 0) from by decide +kernel) rfl (tt_new (pc := 5) (show xcode 70 5 = some (.new 7, 3, 6, 0) from by decide +kernel) (by decide +kernel) (yd_6_e G) (g_dup (pc := 8) (show xcode 70 8 = some (.dup, 1, 0, 0) from by decide +kernel) (tt_calI (pc := 9) hR (show xcode 70 9 = some (.invokespecial 9, 3, 48, 1) from by decide +kernel) (by decide +kernel) (by decide +kernel) (tt_putR (pc := 12) (show xcode 70 12 = some (.putfield 10, 3, 10, 0) from by decide +kernel) (by decide +kernel) (tt_aload_n (pc := 15) (show xcode 70 15 = some (.aload_n 0, 1, 0, 0) from by decide +kernel) rfl (tt_new (pc := 16) (show xcode 70 16 = some (.new 7, 3, 6, 0) from by decide +kernel) (by decide +kernel) (yd_6_e G) (g_dup (pc := 19) (show xcode 70 19 = some (.dup, 1, 0, 0) from by decide +kernel) (tt_calI (pc := 20) hR (show xcode 70 20 = some (.invokespecial 9, 3, 48, 1) from by decide +kernel) (by decide +kernel) (by decide +kernel) (tt_putR (pc := 23) (show xcode 70 23 = some (.putfield 16, 3, 10, 1) from by decide +kernel) (by decide +kernel) (tt_aload_n (pc := 26) (show xcode 70 26 = some (.aload_n 0, 1, 0, 0) from by decide +kernel) rfl (tt_iconst (pc := 27) (show xcode 70 27 = some (.iconst 0, 1, 0, 0) from by decide +kernel) (by decide +kernel) (tt_putZ (pc := 28) (show xcode 70 28 = some (.putfield 19, 3, 10, 2) from by decide +kernel) (by decide +kernel) (tt_aload_n (pc := 31) (show xcode 70 31 = some (.aload_n 0, 1, 0, 0) from by decide +kernel) rfl (tt_new (pc := 32) (show xcode 70 32 = some (.new 23, 3, 0, 0) from by decide +kernel) (by decide +kernel) (yd_0_e G) (g_dup (pc := 35) (show xcode 70 35 = some (.dup, 1, 0, 0) from by decide +kernel) (tt_calI (pc := 36) hR (show xcode 70 36 = some (.invokespecial 25, 3, 0, 0) from by decide +kernel) (by decide +kernel) (by decide +kernel) (tt_putR (pc := 39) (show xcode 70 39 = some (.putfield 26, 3, 10, 3) from by decide +kernel) (by decide +kernel) (tt_aload_n (pc := 42) (show xcode 70 42 = some (.aload_n 0, 1, 0, 0) from by decide +kernel) rfl (tt_new (pc := 43) (show xcode 70 43 = some (.new 30, 3, 3, 0) from by decide +kernel) (by decide +kernel) (yd_3_e G) (g_dup (pc := 46) (show xcode 70 46 = some (.dup, 1, 0, 0) from by decide +kernel) (tt_calI (pc := 47) hR (show xcode 70 47 = some (.invokespecial 32, 3, 27, 1) from by decide +kernel) (by decide +kernel) (by decide +kernel) (tt_putR (pc := 50) (show xcode 70 50 = some (.putfield 33, 3, 10, 4) from by decide +kernel) (by decide +kernel) (tt_aload_n (pc := 53) (show xcode 70 53 = some (.aload_n 0, 1, 0, 0) from by decide +kernel) rfl (tt_iconst (pc := 54) (show xcode 70 54 = some (.iconst (-1), 1, 0, 0) from by decide +kernel) (by decide +kernel) (tt_putI (pc := 55) (show xcode 70 55 = some (.putfield 37, 3, 10, 5) from by decide +kernel) (by decide +kernel) (tt_aload_n (pc := 58) (show xcode 70 58 = some (.aload_n 0, 1, 0, 0) from by decide +kernel) rfl (tt_new (pc := 59) (show xcode 70 59 = some (.new 41, 3, 1, 0) from by decide +kernel) (by decide +kernel) (yd_1_e G) (g_dup (pc := 62) (show xcode 70 62 = some (.dup, 1, 0, 0) from by decide +kernel) (tt_calI (pc := 63) hR (show xcode 70 63 = some (.invokespecial 43, 3, 3, 1) from by decide +kernel) (by decide +kernel) (by decide +kernel) (tt_putR (pc := 66) (show xcode 70 66 = some (.putfield 44, 3, 10, 6) from by decide +kernel) (by decide +kernel) (tt_aload_n (pc := 69) (show xcode 70 69 = some (.aload_n 0, 1, 0, 0) from by decide +kernel) rfl (tt_new (pc := 70) (show xcode 70 70 = some (.new 48, 3, 4, 0) from by decide +kernel) (by decide +kernel) (yd_4_e G) (g_dup (pc := 73) (show xcode 70 73 = some (.dup, 1, 0, 0) from by decide +kernel) (tt_calI (pc := 74) hR (show xcode 70 74 = some (.invokespecial 50, 3, 36, 1) from by decide +kernel) (by decide +kernel) (by decide +kernel) (tt_putR (pc := 77) (show xcode 70 77 = some (.putfield 51, 3, 10, 7) from by decide +kernel) (by decide +kernel) (tt_aload_n (pc := 80) (show xcode 70 80 = some (.aload_n 0, 1, 0, 0) from by decide +kernel) rfl (tt_new (pc := 81) (show xcode 70 81 = some (.new 55, 3, 5, 0) from by decide +kernel) (by decide +kernel) (yd_5_e G) (g_dup (pc := 84) (show xcode 70 84 = some (.dup, 1, 0, 0) from by decide +kernel) (tt_calI (pc := 85) hR (show xcode 70 85 = some (.invokespecial 57, 3, 38, 1) from by decide +kernel) (by decide +kernel) (by decide +kernel) (tt_putR (pc := 88) (show xcode 70 88 = some (.putfield 58, 3, 10, 8) from by decide +kernel) (by decide +kernel) (tt_aload_n (pc := 91) (show xcode 70 91 = some (.aload_n 0, 1, 0, 0) from by decide +kernel) rfl (tt_new (pc := 92) (show xcode 70 92 = some (.new 62, 3, 9, 0) from by decide +kernel) (by decide +kernel) (yd_9_e G) (g_dup (pc := 95) (show xcode 70 95 = some (.dup, 1, 0, 0) from by decide +kernel) (tt_calI (pc := 96) hR (show xcode 70 96 = some (.invokespecial 64, 3, 65, 1) from by decide +kernel) (by decide +kernel) (by decide +kernel) (tt_putR (pc := 99) (show xcode 70 99 = some (.putfield 65, 3, 10, 9) from by decide +kernel) (by decide +kernel) (tt_aload_n (pc := 102) (show xcode 70 102 = some (.aload_n 0, 1, 0, 0) from by decide +kernel) rfl (tt_get (pc := 103) (show xcode 70 103 = some (.getfield 44, 3, 10, 6) from by decide +kernel) (tt_aload_n (pc := 106) (show xcode 70 106 = some (.aload_n 0, 1, 0, 0) from by decide +kernel) rfl (tt_get (pc := 107) (show xcode 70 107 = some (.getfield 10, 3, 10, 0) from by decide +kernel) (tt_get (pc := 110) (show xcode 70 110 = some (.getfield 69, 3, 6, 0) from by decide +kernel) (tt_aload_n (pc := 113) (show xcode 70 113 = some (.aload_n 0, 1, 0, 0) from by decide +kernel) rfl (tt_get (pc := 114) (show xcode 70 114 = some (.getfield 10, 3, 10, 0) from by decide +kernel) (tt_get (pc := 117) (show xcode 70 117 = some (.getfield 73, 3, 6, 3) from by decide +kernel) (tt_calV (pc := 120) hR (show xcode 70 120 = some (.invokevirtual 77, 3, 4, 0) from by decide +kernel) (by decide +kernel) (by decide +kernel) (tt_ret0 (pc := 123) (show xcode 70 123 = some (.return_, 1, 0, 0) from by decide +kernel) (by decide +kernel) (by decide +kernel)))))))))))))))))))))))))))))))))))))))))))))))))))))))))))
theorem ym_70 {G : yG} {xrec : Nat → List Value → XW → Option (XO × XW)} {xs : List Int32} {E : yE} {rec : yCl} (hE : yOk G xs E) (hR : yRecOk G rec xrec) (t : Nat) : yGd G xrec xs E rec 70 63 t (yb_70 t) := g_leaf (yg_70_0 hE hR)
theorem yq_70 {G : yG} {xrec : Nat → List Value → XW → Option (XO × XW)} {xs : List Int32} {E : yE} {rec : yCl} (hE : yOk G xs E) (hR : yRecOk G rec xrec) {a : Nat} (h : a = 70) : yQp G xrec xs E rec a (nat_lit 1, yb_70) := by subst h; exact ⟨by decide +kernel, fun t => ym_70 hE hR t⟩
theorem yg_129_0 {G : yG} {xrec : Nat → List Value → XW → Option (XO × XW)} {xs : List Int32} {E : yE} {rec : yCl} (hE : yOk G xs E) (hR : yRecOk G rec xrec) : yGd G xrec xs E rec 129 63 0 yc_129_0 := yGd_mono (by decide +kernel) (tt_aload_n (pc := 0) (show xcode 129 0 = some (.aload_n 0, 1, 0, 0) from by decide +kernel) rfl (tt_obj (pc := 1) (show xcode 129 1 = some (.invokespecial 1, 3, 0, 2) from by decide +kernel) (by decide +kernel) (tt_aload_n (pc := 4) (show xcode 129 4 = some (.aload_n 0, 1, 0, 0) from by decide +kernel) rfl (tt_bipush (pc := 5) (show xcode 129 5 = some (.bipush 36, 2, 0, 0) from by decide +kernel) (by decide +kernel) (tt_newarray (pc := 7) (show xcode 129 7 = some (.newarray .int, 2, 100, 0) from by decide +kernel) (by decide +kernel) rfl (tt_putR (pc := 9) (show xcode 129 9 = some (.putfield 7, 3, 11, 1) from by decide +kernel) (by decide +kernel) (tt_aload_n (pc := 12) (show xcode 129 12 = some (.aload_n 0, 1, 0, 0) from by decide +kernel) rfl (tt_bipush (pc := 13) (show xcode 129 13 = some (.bipush 36, 2, 0, 0) from by decide +kernel) (by decide +kernel) (tt_newarray (pc := 15) (show xcode 129 15 = some (.newarray .int, 2, 100, 0) from by decide +kernel) (by decide +kernel) rfl (tt_putR (pc := 17) (show xcode 129 17 = some (.putfield 13, 3, 11, 2) from by decide +kernel) (by decide +kernel) (tt_aload_n (pc := 20) (show xcode 129 20 = some (.aload_n 0, 1, 0, 0) from by decide +kernel) rfl (tt_iconst (pc := 21) (show xcode 129 21 = some (.iconst 4, 1, 0, 0) from by decide +kernel) (by decide +kernel) (tt_newarray (pc := 22) (show xcode 129 22 = some (.newarray .int, 2, 100, 0) from by decide +kernel) (by decide +kernel) rfl (tt_putR (pc := 24) (show xcode 129 24 = some (.putfield 16, 3, 11, 3) from by decide +kernel) (by decide +kernel) (tt_aload_n (pc := 27) (show xcode 129 27 = some (.aload_n 0, 1, 0, 0) from by decide +kernel) rfl (tt_bipush (pc := 28) (show xcode 129 28 = some (.bipush 16, 2, 0, 0) from by decide +kernel) (by decide +kernel) (tt_newarray (pc := 30) (show xcode 129 30 = some (.newarray .int, 2, 100, 0) from by decide +kernel) (by decide +kernel) rfl (tt_putR (pc := 32) (show xcode 129 32 = some (.putfield 19, 3, 11, 4) from by decide +kernel) (by decide +kernel) (tt_aload_n (pc := 35) (show xcode 129 35 = some (.aload_n 0, 1, 0, 0) from by decide +kernel) rfl (tt_bipush (pc := 36) (show xcode 129 36 = some (.bipush 36, 2, 0, 0) from by decide +kernel) (by decide +kernel) (tt_newarray (pc := 38) (show xcode 129 38 = some (.newarray .int, 2, 100, 0) from by decide +kernel) (by decide +kernel) rfl (tt_putR (pc := 40) (show xcode 129 40 = some (.putfield 22, 3, 11, 5) from by decide +kernel) (by decide +kernel) (tt_aload_n (pc := 43) (show xcode 129 43 = some (.aload_n 0, 1, 0, 0) from by decide +kernel) rfl (tt_iconst (pc := 44) (show xcode 129 44 = some (.iconst 4, 1, 0, 0) from by decide +kernel) (by decide +kernel) (tt_putI (pc := 45) (show xcode 129 45 = some (.putfield 25, 3, 11, 6) from by decide +kernel) (by decide +kernel) (tt_aload_n (pc := 48) (show xcode 129 48 = some (.aload_n 0, 1, 0, 0) from by decide +kernel) rfl (tt_iconst (pc := 49) (show xcode 129 49 = some (.iconst 3, 1, 0, 0) from by decide +kernel) (by decide +kernel) (tt_putI (pc := 50) (show xcode 129 50 = some (.putfield 29, 3, 11, 7) from by decide +kernel) (by decide +kernel) (tt_aload_n (pc := 53) (show xcode 129 53 = some (.aload_n 0, 1, 0, 0) from by decide +kernel) rfl (tt_iconst (pc := 54) (show xcode 129 54 = some (.iconst 1, 1, 0, 0) from by decide +kernel) (by decide +kernel) (tt_putI (pc := 55) (show xcode 129 55 = some (.putfield 32, 3, 11, 11) from by decide +kernel) (by decide +kernel) (tt_aload_n (pc := 58) (show xcode 129 58 = some (.aload_n 0, 1, 0, 0) from by decide +kernel) rfl (tt_bipush (pc := 59) (show xcode 129 59 = some (.bipush 36, 2, 0, 0) from by decide +kernel) (by decide +kernel) (tt_newarray (pc := 61) (show xcode 129 61 = some (.newarray .long, 2, 101, 0) from by decide +kernel) (by decide +kernel) rfl (tt_putR (pc := 63) (show xcode 129 63 = some (.putfield 35, 3, 11, 14) from by decide +kernel) (by decide +kernel) (tt_aload_n (pc := 66) (show xcode 129 66 = some (.aload_n 0, 1, 0, 0) from by decide +kernel) rfl (tt_bipush (pc := 67) (show xcode 129 67 = some (.bipush 36, 2, 0, 0) from by decide +kernel) (by decide +kernel) (tt_newarray (pc := 69) (show xcode 129 69 = some (.newarray .long, 2, 101, 0) from by decide +kernel) (by decide +kernel) rfl (tt_putR (pc := 71) (show xcode 129 71 = some (.putfield 39, 3, 11, 15) from by decide +kernel) (by decide +kernel) (tt_aload_n (pc := 74) (show xcode 129 74 = some (.aload_n 0, 1, 0, 0) from by decide +kernel) rfl (tt_bipush (pc := 75) (show xcode 129 75 = some (.bipush 8, 2, 0, 0) from by decide +kernel) (by decide +kernel) (tt_newarray (pc := 77) (show xcode 129 77 = some (.newarray .int, 2, 100, 0) from by decide +kernel) (by decide +kernel) rfl (tt_putR (pc := 79) (show xcode 129 79 = some (.putfield 42, 3, 11, 16) from by decide +kernel) (by decide +kernel) (tt_aload_n (pc := 82) (show xcode 129 82 = some (.aload_n 0, 1, 0, 0) from by decide +kernel) rfl (tt_bipush (pc := 83) (show xcode 129 83 = some (.bipush 32, 2, 0, 0) from by decide +kernel) (by decide +kernel) (tt_newarray (pc := 85) (show xcode 129 85 = some (.newarray .int, 2, 100, 0) from by decide +kernel) (by decide +kernel) rfl (tt_putR (pc := 87) (show xcode 129 87 = some (.putfield 45, 3, 11, 17) from by decide +kernel) (by decide +kernel) (tt_aload_n (pc := 90) (show xcode 129 90 = some (.aload_n 0, 1, 0, 0) from by decide +kernel) rfl (tt_sipush (pc := 91) (show xcode 129 91 = some (.sipush 288, 3, 0, 0) from by decide +kernel) (by decide +kernel) (tt_newarray (pc := 94) (show xcode 129 94 = some (.newarray .int, 2, 100, 0) from by decide +kernel) (by decide +kernel) rfl (tt_putR (pc := 96) (show xcode 129 96 = some (.putfield 48, 3, 11, 18) from by decide +kernel) (by decide +kernel) (tt_aload_n (pc := 99) (show xcode 129 99 = some (.aload_n 0, 1, 0, 0) from by decide +kernel) rfl (tt_iconst (pc := 100) (show xcode 129 100 = some (.iconst (-1), 1, 0, 0) from by decide +kernel) (by decide +kernel) (tt_putI (pc := 101) (show xcode 129 101 = some (.putfield 51, 3, 11, 21) from by decide +kernel) (by decide +kernel) (tt_aload_n (pc := 104) (show xcode 129 104 = some (.aload_n 0, 1, 0, 0) from by decide +kernel) rfl (tt_bipush (pc := 105) (show xcode 129 105 = some (.bipush 36, 2, 0, 0) from by decide +kernel) (by decide +kernel) (tt_newarray (pc := 107) (show xcode 129 107 = some (.newarray .int, 2, 100, 0) from by decide +kernel) (by decide +kernel) rfl (tt_putR (pc := 109) (show xcode 129 109 = some (.putfield 54, 3, 11, 22) from by decide +kernel) (by decide +kernel) (tt_aload_n (pc := 112) (show xcode 129 112 = some (.aload_n 0, 1, 0, 0) from by decide +kernel) rfl (tt_bipush (pc := 113) (show xcode 129 113 = some (.bipush 45, 2, 0, 0) from by decide +kernel) (by decide +kernel) (g_lab)))))))))))))))))))))))))))))))))))))))))))))))))))))))))))))
theorem yg_129_115 {G : yG} {xrec : Nat → List Value → XW → Option (XO × XW)} {xs : List Int32} {E : yE} {rec : yCl} (hE : yOk G xs E) (hR : yRecOk G rec xrec) : yGd G xrec xs E rec 129 63 115 yc_129_115 := yGd_mono (by decide +kernel) (tt_newarray (pc := 115) (show xcode 129 115 = some (.newarray .int, 2, 100, 0) from by decide +kernel) (by decide +kernel) rfl (tt_putR (pc := 117) (show xcode 129 117 = some (.putfield 57, 3, 11, 24) from by decide +kernel) (by decide +kernel) (tt_aload_n (pc := 120) (show xcode 129 120 = some (.aload_n 0, 1, 0, 0) from by decide +kernel) rfl (tt_bipush (pc := 121) (show xcode 129 121 = some (.bipush 36, 2, 0, 0) from by decide +kernel) (by decide +kernel) (tt_newarray (pc := 123) (show xcode 129 123 = some (.newarray .int, 2, 100, 0) from by decide +kernel) (by decide +kernel) rfl (tt_putR (pc := 125) (show xcode 129 125 = some (.putfield 60, 3, 11, 25) from by decide +kernel) (by decide +kernel) (tt_aload_n (pc := 128) (show xcode 129 128 = some (.aload_n 0, 1, 0, 0) from by decide +kernel) rfl (tt_iconst (pc := 129) (show xcode 129 129 = some (.iconst (-1), 1, 0, 0) from by decide +kernel) (by decide +kernel) (tt_putI (pc := 130) (show xcode 129 130 = some (.putfield 63, 3, 11, 30) from by decide +kernel) (by decide +kernel) (tt_aload_n (pc := 133) (show xcode 129 133 = some (.aload_n 0, 1, 0, 0) from by decide +kernel) rfl (tt_bipush (pc := 134) (show xcode 129 134 = some (.bipush 36, 2, 0, 0) from by decide +kernel) (by decide +kernel) (tt_newarray (pc := 136) (show xcode 129 136 = some (.newarray .int, 2, 100, 0) from by decide +kernel) (by decide +kernel) rfl (tt_putR (pc := 138) (show xcode 129 138 = some (.putfield 66, 3, 11, 31) from by decide +kernel) (by decide +kernel) (tt_aload_n (pc := 141) (show xcode 129 141 = some (.aload_n 0, 1, 0, 0) from by decide +kernel) rfl (tt_bipush (pc := 142) (show xcode 129 142 = some (.bipush 36, 2, 0, 0) from by decide +kernel) (by decide +kernel) (tt_newarray (pc := 144) (show xcode 129 144 = some (.newarray .long, 2, 101, 0) from by decide +kernel) (by decide +kernel) rfl (tt_putR (pc := 146) (show xcode 129 146 = some (.putfield 69, 3, 11, 32) from by decide +kernel) (by decide +kernel) (tt_aload_n (pc := 149) (show xcode 129 149 = some (.aload_n 0, 1, 0, 0) from by decide +kernel) rfl (tt_bipush (pc := 150) (show xcode 129 150 = some (.bipush 36, 2, 0, 0) from by decide +kernel) (by decide +kernel) (tt_newarray (pc := 152) (show xcode 129 152 = some (.newarray .long, 2, 101, 0) from by decide +kernel) (by decide +kernel) rfl (tt_putR (pc := 154) (show xcode 129 154 = some (.putfield 72, 3, 11, 33) from by decide +kernel) (by decide +kernel) (tt_aload_n (pc := 157) (show xcode 129 157 = some (.aload_n 0, 1, 0, 0) from by decide +kernel) rfl (tt_sipush (pc := 158) (show xcode 129 158 = some (.sipush 324, 3, 0, 0) from by decide +kernel) (by decide +kernel) (tt_newarray (pc := 161) (show xcode 129 161 = some (.newarray .long, 2, 101, 0) from by decide +kernel) (by decide +kernel) rfl (tt_putR (pc := 163) (show xcode 129 163 = some (.putfield 75, 3, 11, 34) from by decide +kernel) (by decide +kernel) (tt_aload_n (pc := 166) (show xcode 129 166 = some (.aload_n 0, 1, 0, 0) from by decide +kernel) rfl (tt_bipush (pc := 167) (show xcode 129 167 = some (.bipush 9, 2, 0, 0) from by decide +kernel) (by decide +kernel) (tt_newarray (pc := 169) (show xcode 129 169 = some (.newarray .int, 2, 100, 0) from by decide +kernel) (by decide +kernel) rfl (tt_putR (pc := 171) (show xcode 129 171 = some (.putfield 78, 3, 11, 35) from by decide +kernel) (by decide +kernel) (tt_aload_n (pc := 174) (show xcode 129 174 = some (.aload_n 0, 1, 0, 0) from by decide +kernel) rfl (tt_bipush (pc := 175) (show xcode 129 175 = some (.bipush 36, 2, 0, 0) from by decide +kernel) (by decide +kernel) (tt_newarray (pc := 177) (show xcode 129 177 = some (.newarray .int, 2, 100, 0) from by decide +kernel) (by decide +kernel) rfl (tt_putR (pc := 179) (show xcode 129 179 = some (.putfield 81, 3, 11, 36) from by decide +kernel) (by decide +kernel) (tt_aload_n (pc := 182) (show xcode 129 182 = some (.aload_n 0, 1, 0, 0) from by decide +kernel) rfl (tt_sipush (pc := 183) (show xcode 129 183 = some (.sipush 3072, 3, 0, 0) from by decide +kernel) (by decide +kernel) (tt_newarray (pc := 186) (show xcode 129 186 = some (.newarray .int, 2, 100, 0) from by decide +kernel) (by decide +kernel) rfl (tt_putR (pc := 188) (show xcode 129 188 = some (.putfield 84, 3, 11, 37) from by decide +kernel) (by decide +kernel) (tt_aload_n (pc := 191) (show xcode 129 191 = some (.aload_n 0, 1, 0, 0) from by decide +kernel) rfl (tt_sipush (pc := 192) (show xcode 129 192 = some (.sipush 512, 3, 0, 0) from by decide +kernel) (by decide +kernel) (tt_newarray (pc := 195) (show xcode 129 195 = some (.newarray .int, 2, 100, 0) from by decide +kernel) (by decide +kernel) rfl (tt_putR (pc := 197) (show xcode 129 197 = some (.putfield 87, 3, 11, 38) from by decide +kernel) (by decide +kernel) (tt_iconst (pc := 200) (show xcode 129 200 = some (.iconst 0, 1, 0, 0) from by decide +kernel) (by decide +kernel) (tt_istore_n (pc := 201) (show xcode 129 201 = some (.istore_n 1, 1, 0, 0) from by decide +kernel) rfl (by decide +kernel) (g_lab))))))))))))))))))))))))))))))))))))))))))))
theorem yg_129_202 {G : yG} {xrec : Nat → List Value → XW → Option (XO × XW)} {xs : List Int32} {E : yE} {rec : yCl} (hE : yOk G xs E) (hR : yRecOk G rec xrec) : yGd G xrec xs E rec 129 63 202 yc_129_202 := yGd_mono (by decide +kernel) (tt_iload_n (pc := 202) (show xcode 129 202 = some (.iload_n 1, 1, 0, 0) from by decide +kernel) rfl (tt_bipush (pc := 203) (show xcode 129 203 = some (.bipush 36, 2, 0, 0) from by decide +kernel) (by decide +kernel) (tt_icmp (pc := 205) hE (show xcode 129 205 = some (.if_icmp .ge 16, 3, 221, 0) from by decide +kernel) rfl (tt_aload_n (pc := 208) (show xcode 129 208 = some (.aload_n 0, 1, 0, 0) from by decide +kernel) rfl (tt_get (pc := 209) (show xcode 129 209 = some (.getfield 13, 3, 11, 2) from by decide +kernel) (tt_iload_n (pc := 212) (show xcode 129 212 = some (.iload_n 1, 1, 0, 0) from by decide +kernel) rfl (tt_iconst (pc := 213) (show xcode 129 213 = some (.iconst 1, 1, 0, 0) from by decide +kernel) (by decide +kernel) (tt_iastore (pc := 214) (show xcode 129 214 = some (.iastore, 1, 0, 0) from by decide +kernel) (tt_iinc (pc := 215) (show xcode 129 215 = some (.iinc 1 1, 3, 0, 0) from by decide +kernel) (by decide +kernel) (by decide +kernel) (tt_goto (pc := 218) (show xcode 129 218 = some (.goto (-16), 3, 202, 0) from by decide +kernel)))))))))))
theorem yg_129_221 {G : yG} {xrec : Nat → List Value → XW → Option (XO × XW)} {xs : List Int32} {E : yE} {rec : yCl} (hE : yOk G xs E) (hR : yRecOk G rec xrec) : yGd G xrec xs E rec 129 63 221 yc_129_221 := yGd_mono (by decide +kernel) (tt_aload_n (pc := 221) (show xcode 129 221 = some (.aload_n 0, 1, 0, 0) from by decide +kernel) rfl (tt_get (pc := 222) (show xcode 129 222 = some (.getfield 16, 3, 11, 3) from by decide +kernel) (tt_iconst (pc := 225) (show xcode 129 225 = some (.iconst 0, 1, 0, 0) from by decide +kernel) (by decide +kernel) (tt_bipush (pc := 226) (show xcode 129 226 = some (.bipush 16, 2, 0, 0) from by decide +kernel) (by decide +kernel) (tt_iastore (pc := 228) (show xcode 129 228 = some (.iastore, 1, 0, 0) from by decide +kernel) (tt_iconst (pc := 229) (show xcode 129 229 = some (.iconst 0, 1, 0, 0) from by decide +kernel) (by decide +kernel) (tt_istore_n (pc := 230) (show xcode 129 230 = some (.istore_n 1, 1, 0, 0) from by decide +kernel) rfl (by decide +kernel) (g_lab))))))))
theorem yg_129_231 {G : yG} {xrec : Nat → List Value → XW → Option (XO × XW)} {xs : List Int32} {E : yE} {rec : yCl} (hE : yOk G xs E) (hR : yRecOk G rec xrec) : yGd G xrec xs E rec 129 63 231 yc_129_231 := yGd_mono (by decide +kernel) (tt_iload_n (pc := 231) (show xcode 129 231 = some (.iload_n 1, 1, 0, 0) from by decide +kernel) rfl (tt_iconst (pc := 232) (show xcode 129 232 = some (.iconst 4, 1, 0, 0) from by decide +kernel) (by decide +kernel) (tt_icmp (pc := 233) hE (show xcode 129 233 = some (.if_icmp .ge 21, 3, 254, 0) from by decide +kernel) rfl (tt_aload_n (pc := 236) (show xcode 129 236 = some (.aload_n 0, 1, 0, 0) from by decide +kernel) rfl (tt_get (pc := 237) (show xcode 129 237 = some (.getfield 19, 3, 11, 4) from by decide +kernel) (tt_iconst (pc := 240) (show xcode 129 240 = some (.iconst 4, 1, 0, 0) from by decide +kernel) (by decide +kernel) (tt_iload_n (pc := 241) (show xcode 129 241 = some (.iload_n 1, 1, 0, 0) from by decide +kernel) rfl (tt_imul (pc := 242) hE (show xcode 129 242 = some (.imul, 1, 0, 0) from by decide +kernel) (tt_iload_n (pc := 243) (show xcode 129 243 = some (.iload_n 1, 1, 0, 0) from by decide +kernel) rfl (tt_iadd (pc := 244) hE (show xcode 129 244 = some (.iadd, 1, 0, 0) from by decide +kernel) (tt_bipush (pc := 245) (show xcode 129 245 = some (.bipush 100, 2, 0, 0) from by decide +kernel) (by decide +kernel) (tt_iastore (pc := 247) (show xcode 129 247 = some (.iastore, 1, 0, 0) from by decide +kernel) (tt_iinc (pc := 248) (show xcode 129 248 = some (.iinc 1 1, 3, 0, 0) from by decide +kernel) (by decide +kernel) (by decide +kernel) (tt_goto (pc := 251) (show xcode 129 251 = some (.goto (-20), 3, 231, 0) from by decide +kernel)))))))))))))))
theorem yg_129_254 {G : yG} {xrec : Nat → List Value → XW → Option (XO × XW)} {xs : List Int32} {E : yE} {rec : yCl} (hE : yOk G xs E) (hR : yRecOk G rec xrec) : yGd G xrec xs E rec 129 63 254 yc_129_254 := yGd_mono (by decide +kernel) (tt_aload_n (pc := 254) (show xcode 129 254 = some (.aload_n 0, 1, 0, 0) from by decide +kernel) rfl (tt_calV (pc := 255) hR (show xcode 129 255 = some (.invokevirtual 90, 3, 147, 0) from by decide +kernel) (by decide +kernel) (by decide +kernel) (tt_ret0 (pc := 258) (show xcode 129 258 = some (.return_, 1, 0, 0) from by decide +kernel) (by decide +kernel) (by decide +kernel))))
theorem ym_129 {G : yG} {xrec : Nat → List Value → XW → Option (XO × XW)} {xs : List Int32} {E : yE} {rec : yCl} (hE : yOk G xs E) (hR : yRecOk G rec xrec) (t : Nat) : yGd G xrec xs E rec 129 63 t (yb_129 t) := g_node (g_node (g_leaf (yg_129_0 hE hR)) (g_node (g_leaf (yg_129_115 hE hR)) (g_leaf (yg_129_202 hE hR)))) (g_node (g_leaf (yg_129_221 hE hR)) (g_node (g_leaf (yg_129_231 hE hR)) (g_leaf (yg_129_254 hE hR))))
theorem yq_129 {G : yG} {xrec : Nat → List Value → XW → Option (XO × XW)} {xs : List Int32} {E : yE} {rec : yCl} (hE : yOk G xs E) (hR : yRecOk G rec xrec) {a : Nat} (h : a = 129) : yQp G xrec xs E rec a (nat_lit 2, yb_129) := by subst h; exact ⟨by decide +kernel, fun t => ym_129 hE hR t⟩
theorem yg_134_0 {G : yG} {xrec : Nat → List Value → XW → Option (XO × XW)} {xs : List Int32} {E : yE} {rec : yCl} (hE : yOk G xs E) (hR : yRecOk G rec xrec) : yGd G xrec xs E rec 134 63 0 yc_134_0 := yGd_mono (by decide +kernel) (tt_aload_n (pc := 0) (show xcode 134 0 = some (.aload_n 0, 1, 0, 0) from by decide +kernel) rfl (tt_get (pc := 1) (show xcode 134 1 = some (.getfield 25, 3, 11, 6) from by decide +kernel) (tt_aload_n (pc := 4) (show xcode 134 4 = some (.aload_n 0, 1, 0, 0) from by decide +kernel) rfl (tt_get (pc := 5) (show xcode 134 5 = some (.getfield 29, 3, 11, 7) from by decide +kernel) (tt_imul (pc := 8) hE (show xcode 134 8 = some (.imul, 1, 0, 0) from by decide +kernel) (tt_reti (pc := 9) (show xcode 134 9 = some (.ireturn, 1, 0, 0) from by decide +kernel) (by decide +kernel) (by decide +kernel)))))))
theorem ym_134 {G : yG} {xrec : Nat → List Value → XW → Option (XO × XW)} {xs : List Int32} {E : yE} {rec : yCl} (hE : yOk G xs E) (hR : yRecOk G rec xrec) (t : Nat) : yGd G xrec xs E rec 134 63 t (yb_134 t) := g_leaf (yg_134_0 hE hR)
theorem yq_134 {G : yG} {xrec : Nat → List Value → XW → Option (XO × XW)} {xs : List Int32} {E : yE} {rec : yCl} (hE : yOk G xs E) (hR : yRecOk G rec xrec) {a : Nat} (h : a = 134) : yQp G xrec xs E rec a (nat_lit 1, yb_134) := by subst h; exact ⟨by decide +kernel, fun t => ym_134 hE hR t⟩
theorem yg_136_0 {G : yG} {xrec : Nat → List Value → XW → Option (XO × XW)} {xs : List Int32} {E : yE} {rec : yCl} (hE : yOk G xs E) (hR : yRecOk G rec xrec) : yGd G xrec xs E rec 136 63 0 yc_136_0 := yGd_mono (by decide +kernel) (tt_aload_n (pc := 0) (show xcode 136 0 = some (.aload_n 0, 1, 0, 0) from by decide +kernel) rfl (tt_get (pc := 1) (show xcode 136 1 = some (.getfield 7, 3, 11, 1) from by decide +kernel) (tt_iload_n (pc := 4) (show xcode 136 4 = some (.iload_n 1, 1, 0, 0) from by decide +kernel) rfl (tt_iaload (pc := 5) (show xcode 136 5 = some (.iaload, 1, 0, 0) from by decide +kernel) (tt_iconst (pc := 6) (show xcode 136 6 = some (.iconst (-1), 1, 0, 0) from by decide +kernel) (by decide +kernel) (tt_icmp (pc := 7) hE (show xcode 136 7 = some (.if_icmp .eq 7, 3, 14, 0) from by decide +kernel) rfl (tt_iconst (pc := 10) (show xcode 136 10 = some (.iconst 1, 1, 0, 0) from by decide +kernel) (by decide +kernel) (tt_goto (pc := 11) (show xcode 136 11 = some (.goto 4, 3, 15, 0) from by decide +kernel)))))))))
theorem yg_136_14 {G : yG} {xrec : Nat → List Value → XW → Option (XO × XW)} {xs : List Int32} {E : yE} {rec : yCl} (hE : yOk G xs E) (hR : yRecOk G rec xrec) : yGd G xrec xs E rec 136 63 14 yc_136_14 := yGd_mono (by decide +kernel) (tt_iconst (pc := 14) (show xcode 136 14 = some (.iconst 0, 1, 0, 0) from by decide +kernel) (by decide +kernel) (g_lab))
theorem yg_136_15 {G : yG} {xrec : Nat → List Value → XW → Option (XO × XW)} {xs : List Int32} {E : yE} {rec : yCl} (hE : yOk G xs E) (hR : yRecOk G rec xrec) : yGd G xrec xs E rec 136 63 15 yc_136_15 := yGd_mono (by decide +kernel) (tt_retz (pc := 15) (show xcode 136 15 = some (.ireturn, 1, 0, 0) from by decide +kernel) (by decide +kernel) (by decide +kernel))
theorem ym_136 {G : yG} {xrec : Nat → List Value → XW → Option (XO × XW)} {xs : List Int32} {E : yE} {rec : yCl} (hE : yOk G xs E) (hR : yRecOk G rec xrec) (t : Nat) : yGd G xrec xs E rec 136 63 t (yb_136 t) := g_node (g_leaf (yg_136_0 hE hR)) (g_node (g_leaf (yg_136_14 hE hR)) (g_leaf (yg_136_15 hE hR)))
theorem yq_136 {G : yG} {xrec : Nat → List Value → XW → Option (XO × XW)} {xs : List Int32} {E : yE} {rec : yCl} (hE : yOk G xs E) (hR : yRecOk G rec xrec) {a : Nat} (h : a = 136) : yQp G xrec xs E rec a (nat_lit 2, yb_136) := by subst h; exact ⟨by decide +kernel, fun t => ym_136 hE hR t⟩
theorem yg_144_0 {G : yG} {xrec : Nat → List Value → XW → Option (XO × XW)} {xs : List Int32} {E : yE} {rec : yCl} (hE : yOk G xs E) (hR : yRecOk G rec xrec) : yGd G xrec xs E rec 144 63 0 yc_144_0 := yGd_mono (by decide +kernel) (tt_lconst (pc := 0) (show xcode 144 0 = some (.lconst 0, 1, 0, 0) from by decide +kernel) (by decide +kernel) (tt_lstore_n (pc := 1) (show xcode 144 1 = some (.lstore_n 1, 1, 0, 0) from by decide +kernel) rfl (by decide +kernel) (tt_iconst (pc := 2) (show xcode 144 2 = some (.iconst 0, 1, 0, 0) from by decide +kernel) (by decide +kernel) (tt_istore_n (pc := 3) (show xcode 144 3 = some (.istore_n 3, 1, 0, 0) from by decide +kernel) rfl (by decide +kernel) (g_lab)))))
theorem yg_144_4 {G : yG} {xrec : Nat → List Value → XW → Option (XO × XW)} {xs : List Int32} {E : yE} {rec : yCl} (hE : yOk G xs E) (hR : yRecOk G rec xrec) : yGd G xrec xs E rec 144 63 4 yc_144_4 := yGd_mono (by decide +kernel) (tt_iload_n (pc := 4) (show xcode 144 4 = some (.iload_n 3, 1, 0, 0) from by decide +kernel) rfl (tt_aload_n (pc := 5) (show xcode 144 5 = some (.aload_n 0, 1, 0, 0) from by decide +kernel) rfl (tt_calV (pc := 6) hR (show xcode 144 6 = some (.invokevirtual 96, 3, 134, 0) from by decide +kernel) (by decide +kernel) (by decide +kernel) (tt_icmp (pc := 9) hE (show xcode 144 9 = some (.if_icmp .ge 18, 3, 27, 0) from by decide +kernel) rfl (tt_lload_n (pc := 12) (show xcode 144 12 = some (.lload_n 1, 1, 0, 0) from by decide +kernel) rfl (tt_aload_n (pc := 13) (show xcode 144 13 = some (.aload_n 0, 1, 0, 0) from by decide +kernel) rfl (tt_get (pc := 14) (show xcode 144 14 = some (.getfield 35, 3, 11, 14) from by decide +kernel) (tt_iload_n (pc := 17) (show xcode 144 17 = some (.iload_n 3, 1, 0, 0) from by decide +kernel) rfl (tt_laload (pc := 18) (show xcode 144 18 = some (.laload, 1, 0, 0) from by decide +kernel) (tt_ladd (pc := 19) (show xcode 144 19 = some (.ladd, 1, 0, 0) from by decide +kernel) (tt_lstore_n (pc := 20) (show xcode 144 20 = some (.lstore_n 1, 1, 0, 0) from by decide +kernel) rfl (by decide +kernel) (tt_iinc (pc := 21) (show xcode 144 21 = some (.iinc 3 1, 3, 0, 0) from by decide +kernel) (by decide +kernel) (by decide +kernel) (tt_goto (pc := 24) (show xcode 144 24 = some (.goto (-20), 3, 4, 0) from by decide +kernel))))))))))))))
theorem yg_144_27 {G : yG} {xrec : Nat → List Value → XW → Option (XO × XW)} {xs : List Int32} {E : yE} {rec : yCl} (hE : yOk G xs E) (hR : yRecOk G rec xrec) : yGd G xrec xs E rec 144 63 27 yc_144_27 := yGd_mono (by decide +kernel) (tt_lload_n (pc := 27) (show xcode 144 27 = some (.lload_n 1, 1, 0, 0) from by decide +kernel) rfl (tt_retl (pc := 28) (show xcode 144 28 = some (.lreturn, 1, 0, 0) from by decide +kernel) (by decide +kernel) (by decide +kernel)))
theorem ym_144 {G : yG} {xrec : Nat → List Value → XW → Option (XO × XW)} {xs : List Int32} {E : yE} {rec : yCl} (hE : yOk G xs E) (hR : yRecOk G rec xrec) (t : Nat) : yGd G xrec xs E rec 144 63 t (yb_144 t) := g_node (g_leaf (yg_144_0 hE hR)) (g_node (g_leaf (yg_144_4 hE hR)) (g_leaf (yg_144_27 hE hR)))
theorem yq_144 {G : yG} {xrec : Nat → List Value → XW → Option (XO × XW)} {xs : List Int32} {E : yE} {rec : yCl} (hE : yOk G xs E) (hR : yRecOk G rec xrec) {a : Nat} (h : a = 144) : yQp G xrec xs E rec a (nat_lit 4, yb_144) := by subst h; exact ⟨by decide +kernel, fun t => ym_144 hE hR t⟩
end
