/-! Copies and values of other kinds. -/
theorem y_ck_e {G : yG} {t : Nat} {v : yV} (h : y_ck t v = true) : (∃ x, y_dec G v = .int x ∧ t = 100) ∨ (∃ x, y_dec G v = .long x ∧ t = 101) := by
  unfold y_ck at h
  cases h1 : Nat.beq t (nat_lit 100) with
  | true =>
    rw [h1, y_ift] at h
    obtain ⟨x, hx⟩ := y_kI_e (G := G) h
    exact Or.inl ⟨x, hx, Nat.eq_of_beq_eq_true h1⟩
  | false =>
    rw [h1, y_iff] at h
    cases h2 : Nat.beq t (nat_lit 101) with
    | true =>
      rw [h2, y_ift] at h
      obtain ⟨x, hx⟩ := y_kJ_e (G := G) h
      exact Or.inr ⟨x, hx, Nat.eq_of_beq_eq_true h2⟩
    | false => rw [h2] at h; cases h
theorem y_xfa {G : yG} {t l : Nat} {s : yT} (hl : l ≤ 4096) (h : y_all (y_ck t) (y_dp l) s = true) : xfa t (y_sl G l s) = true := by
  unfold xfa
  refine List.all_eq_true.mpr (fun v hv => ?_)
  unfold y_sl at hv
  obtain ⟨i, hi, rfl⟩ := List.mem_map.mp hv
  have hi := List.mem_range.mp hi
  have h1 := y_all_e _ _ h i (y_dp_lt hi hl)
  rcases y_ck_e (G := G) h1 with ⟨x, hx, ht⟩ | ⟨x, hx, ht⟩
  · rw [hx, ht]; rfl
  · rw [hx, ht]; rfl
theorem y_ck_t {G : yG} {t l : Nat} {s : yT} (h0 : 0 < l) (hl : l ≤ 4096) (h : y_all (y_ck t) (y_dp l) s = true) : 100 ≤ t := by
  have h1 := y_all_e _ _ h 0 (y_dp_lt h0 hl)
  rcases y_ck_e (G := G) h1 with ⟨x, hx, ht⟩ | ⟨x, hx, ht⟩ <;> omega
theorem y_sl_cpy {G : yG} {l0 l1 i j c : Nat} {s0 s1 s' : yT} (hl0 : l0 ≤ 4096) (hl1 : l1 ≤ 4096) (hi : i + c ≤ l0) (hj : j + c ≤ l1) (h : ∀ q, q < l1 → y_get (y_dp l1) y_z s' q = if j ≤ q ∧ q < j + c then y_get (y_dp l0) y_z s0 (i + (q - j)) else y_get (y_dp l1) y_z s1 q) : y_sl G l1 s' = xcpy (y_sl G l0 s0) (y_sl G l1 s1) i j c := by
  apply List.ext_getElem?
  intro q
  rw [xcpy_at (by rw [y_sl_len]; exact hi) (by rw [y_sl_len]; exact hj)]
  by_cases hq : q < l1
  · rw [← xnth_eq (y_sl G l1 s'), ← xnth_eq (y_sl G l1 s1), y_sl_at hq, y_sl_at hq, h q hq]
    by_cases hin : j ≤ q ∧ q < j + c
    · rw [if_pos hin, if_pos hin, ← xnth_eq, y_sl_at (by omega)]
    · rw [if_neg hin, if_neg hin]
  · rw [if_neg (by omega), List.getElem?_eq_none (by rw [y_sl_len]; omega), List.getElem?_eq_none (by rw [y_sl_len]; omega)]
theorem y_cq_e {c i j l0 l1 : Nat} (h : y_cq c i j l0 l1 = true) : i = 0 ∧ j = 0 ∧ c = l0 ∧ c = l1 := by
  unfold y_cq at h
  cases h1 : Nat.beq i (nat_lit 0) with
  | false => rw [h1] at h; cases h
  | true =>
    rw [h1, y_ift] at h
    cases h2 : Nat.beq j (nat_lit 0) with
    | false => rw [h2] at h; cases h
    | true =>
      rw [h2, y_ift] at h
      cases h3 : Nat.beq c l0 with
      | false => rw [h3] at h; cases h
      | true =>
        rw [h3, y_ift] at h
        exact ⟨Nat.eq_of_beq_eq_true h1, Nat.eq_of_beq_eq_true h2, Nat.eq_of_beq_eq_true h3, Nat.eq_of_beq_eq_true h⟩
/-- a test that must hold -/
theorem y_tb_e {P : yR → Prop} {c : Bool} {k : yR} (h0 : P none) (hk : c = true → P k) : P (y_if c k none) := by
  cases c with
  | false => exact h0
  | true => exact hk rfl
section YST
variable {G : yG} {xrec : Nat → List Value → XW → Option (XO × XW)} {xs : List Int32} {E : yE} {rec : yCl} {k N pc pc' len a b : Nat} {i : Instr} {n : yKK}
theorem xs_acpy {q q0 t cu su ix : Nat} {ls : XL} {r f0 f1 : List Value} {σ : XW} {nn dp sp : Nat} {rec0 : Nat → List Value → XW → Option (XO × XW)} (hc : xcode k pc = some (.invokestatic ix, len, 0, 1)) (h0 : xnth σ.2 q0 = some (t, f0)) (h1 : xnth σ.2 q = some (t, f1)) (ht : 100 ≤ t) (hf : xfa t f0 = true) (hz : 0 < f0.length) (hs0 : f0.length ≤ 4096) (hs1 : f1.length ≤ 4096) (g1 : sp + nn ≤ f0.length) (g2 : dp + nn ≤ f1.length) (hst : (Nat.ble 1 (xFr k) && Nat.ble 38 (xLo k)) = true) (hr : xcat r ≤ 8) : xstep rec0 xs k (pc, ls, .int (Int32.ofNat nn) :: .int (Int32.ofNat dp) :: .ref q :: .int (Int32.ofNat sp) :: .ref q0 :: r, cu, su, σ) = some (.inl (pc + 3, ls, r, cu, su, (σ.1, σ.2.set q (t, xcpy f0 f1 sp dp nn)))) := by
  obtain ⟨s1, s2⟩ := xand hst
  have h3 : Nat.ble (xcat r + 30) (xLo k) = true := Nat.ble_eq_true_of_le (by have := xble s2; omega)
  have e1 : (Int32.ofNat sp).toNatClampNeg = sp := y_tn32 (by omega)
  have e2 : (Int32.ofNat dp).toNatClampNeg = dp := y_tn32 (by omega)
  have e3 : (Int32.ofNat nn).toNatClampNeg = nn := y_tn32 (by omega)
  have n1 : decide (¬ Int32.ofNat sp < 0) = true := decide_eq_true (y_nn32 (by omega))
  have n2 : decide (¬ Int32.ofNat dp < 0) = true := decide_eq_true (y_nn32 (by omega))
  have n3 : decide (¬ Int32.ofNat nn < 0) = true := decide_eq_true (y_nn32 (by omega))
  unfold xstep; dsimp only; rw [hc]; dsimp only; rw [h0, h1]; dsimp only
  rw [e1, e2, e3, n1, n2, n3, Nat.beq_refl, hf, s1, h3, show Nat.ble 100 t = true from Nat.ble_eq_true_of_le ht, show Nat.blt 0 f0.length = true from Nat.ble_eq_true_of_le hz, show Nat.ble (sp + nn) f0.length = true from Nat.ble_eq_true_of_le g1, show Nat.ble (dp + nn) f1.length = true from Nat.ble_eq_true_of_le g2]
  rfl
theorem g_acpy {ix : Nat} (hc : xcode k pc = some (.invokestatic ix, len, 0, 1)) (hst : (Nat.ble 1 (xFr k) && Nat.ble 38 (xLo k)) = true) (hn : yGd G xrec xs E rec k N (pc + 3) n) : yGd G xrec xs E rec k (N + 1) pc (yAcpy n) := by
  intro ls st h m
  refine y_pop_e yTo_no (fun v r1 hs1 => y_pop_e yTo_no (fun v1 r2 hs2 => y_pop_e yTo_no (fun u1 r3 hs3 => y_pop_e yTo_no (fun v0 r4 hs4 => y_pop_e yTo_no (fun u0 r hs5 => ?_)))))
  subst hs5; subst hs4; subst hs3; subst hs2; subst hs1
  refine y_isI_e yTo_no (fun c e1 => y_isI_e yTo_no (fun j e2 => y_isR_e yTo_no (fun q1 e3 => y_isI_e yTo_no (fun i e4 => y_isR_e yTo_no (fun q0 e5 => ?_)))))
  subst e1; subst e2; subst e3; subst e4; subst e5
  generalize hP : (fun R => yTo G (xstep xrec xs k) k (N + 1) (y_dx G pc ls (y_i c :: y_i j :: y_r q1 :: y_i i :: y_r q0 :: r) h m) R) = P
  have p0 : P none := by rw [← hP]; exact yTo_no
  show (fun R => yTo G (xstep xrec xs k) k (N + 1) (y_dx G pc ls (y_i c :: y_i j :: y_r q1 :: y_i i :: y_r q0 :: r) h m) R) _
  rw [hP]
  refine y_at_e (P := P) p0 (fun t0 l0 s0 hq0 hm0 hg0 => ?_)
  refine y_at_e (P := P) p0 (fun t1 l1 s1 hq1 hm1 hg1 => ?_)
  refine y_bq_e (P := P) p0 (fun ht => ?_)
  refine y_tb_e (P := P) p0 (fun hl0 => y_tb_e (P := P) p0 (fun hl1 => y_tb_e (P := P) p0 (fun hz => y_tb_e (P := P) p0 (fun g1 => y_tb_e (P := P) p0 (fun g2 => y_tb_e (P := P) p0 (fun hlw => y_tb_e (P := P) p0 (fun hall => ?_)))))))
  have hl0 : l0 ≤ 4096 := Nat.le_of_ble_eq_true hl0
  have hl1 : l1 ≤ 4096 := Nat.le_of_ble_eq_true hl1
  have hz : 0 < l0 := Nat.le_of_ble_eq_true hz
  have g1 : i + c ≤ l0 := Nat.le_of_ble_eq_true g1
  have g2 : j + c ≤ l1 := Nat.le_of_ble_eq_true g2
  subst ht
  have h1 : xnth (y_dw G h m).2 q0 = some (t0, y_sl G l0 s0) := by
    show xnth (y_dh G m.2.2.2 h) q0 = _
    rw [y_dh_at hq0, hg0]
    rfl
  have h2 : xnth (y_dw G h m).2 q1 = some (t0, y_sl G l1 s1) := by
    show xnth (y_dh G m.2.2.2 h) q1 = _
    rw [y_dh_at hq1, hg1]
    rfl
  have fin : ∀ (s' : yT) (h' : yH), y_sl G l1 s' = xcpy (y_sl G l0 s0) (y_sl G l1 s1) i j c → (∀ p, p < 2 ^ y_hd → y_get y_hd y_no h' p = if p = q1 then (t0, l1, s') else y_get y_hd y_no h p) → P (n E rec ls r h' m) := by
    intro s' h' hs' hh'
    rw [← hP]
    refine yTo_step ?_ (hn ls r h' m)
    have h3 : y_dw G h' m = ((y_dw G h m).1, (y_dw G h m).2.set q1 (t0, xcpy (y_sl G l0 s0) (y_sl G l1 s1) i j c)) := by
      show (m.2.2.1, y_dh G m.2.2.2 h') = (m.2.2.1, (y_dh G m.2.2.2 h).set q1 (t0, xcpy (y_sl G l0 s0) (y_sl G l1 s1) i j c))
      rw [y_dh_set hm1 hh', ← hs']
      rfl
    show xstep xrec xs k (pc, y_dl G ls, .int (Int32.ofNat c) :: .int (Int32.ofNat j) :: .ref q1 :: .int (Int32.ofNat i) :: .ref q0 :: y_ds G r, m.1, m.2.1, y_dw G h m) = some (.inl (pc + 3, y_dl G ls, y_ds G r, m.1, m.2.1, y_dw G h' m))
    rw [h3]
    exact xs_acpy hc h1 h2 (y_ck_t (G := G) hz hl0 hall) (y_xfa hl0 hall) (by rw [y_sl_len]; exact hz) (by rw [y_sl_len]; exact hl0) (by rw [y_sl_len]; exact hl1) (by rw [y_sl_len]; exact g1) (by rw [y_sl_len]; exact g2) hst (y_lw_e hlw)
  refine y_if_e (P := P) (fun hcq => ?_) (fun _ => ?_)
  · obtain ⟨ei, ej, ec, ed⟩ := y_cq_e hcq
    refine y_set_e y_no _ h q1 (t0, l1, s0) _ _ (Nat.lt_of_lt_of_le hq1 hm1) p0 (fun h' hh' => fin s0 h' ?_ hh')
    refine y_sl_cpy hl0 hl1 g1 g2 (fun q hq => ?_)
    have el : l1 = l0 := by omega
    rw [el, if_pos (by omega)]
    congr 1
    omega
  · refine y_cp_e (P := P) p0 c i j s1 _ ?_ (fun s' hs' => ?_)
    · by_cases hc0 : c = 0
      · subst hc0
        have h6 : ∀ j l : Nat, j ≤ l → l ≤ 4096 → j ≤ 2 ^ y_dp l := fun j l hj hl => by
          rcases Nat.lt_or_ge j l with h | h
          · exact Nat.le_of_lt (y_dp_lt h hl)
          · rcases Nat.eq_zero_or_pos l with h0 | h0
            · have hj0 : j = 0 := by omega
              rw [hj0]
              exact Nat.zero_le _
            · have := y_dp_lt (j := l - 1) (l := l) (by omega) hl
              omega
        exact h6 _ _ (by omega) hl1
      · have h5 : l1 - 1 < 2 ^ y_dp l1 := y_dp_lt (by omega) hl1
        omega
    · exact y_set_e y_no _ h q1 (t0, l1, s') _ _ (Nat.lt_of_lt_of_le hq1 hm1) p0 (fun h' hh' => fin s' h' (y_sl_cpy hl0 hl1 g1 g2 (fun q hq => hs' q (y_dp_lt hq hl1))) hh')
theorem y_u64 (x : UInt64) : Int64.ofNat x.toNat = x.toInt64 := by
  apply Int64.toBitVec_inj.mp
  apply BitVec.eq_of_toNat_eq
  show x.toNat % 2 ^ 64 = x.toNat
  exact Nat.mod_eq_of_lt x.toNat_lt
theorem y_u32 (x : UInt32) : Int32.ofNat x.toNat = x.toInt32 := by
  apply Int32.toBitVec_inj.mp
  apply BitVec.eq_of_toNat_eq
  show x.toNat % 2 ^ 32 = x.toNat
  exact Nat.mod_eq_of_lt x.toNat_lt
theorem y_raw_e {P : yR → Prop} {v : yV} {k : Value → yR} (h0 : P none) (h : ∀ x, y_dec G v = x → P (k x)) : P (y_raw v k) := by
  refine y_bd_e (P := P) (fun n e => ?_) (fun _ _ => h0) (fun n e => ?_) (fun _ _ => h0) (fun _ _ => h0) (fun n e => ?_)
  · subst e; exact h _ rfl
  · subst e; exact h _ rfl
  · subst e; exact h _ rfl
theorem y_enc_e {P : yR → Prop} {w : Value} {k : yV → yR} (h0 : P none) (h : ∀ x, y_dec G x = w → P (k x)) : P (y_enc w k) := by
  cases w with
  | int x =>
    show P (y_fz x.toUInt32.toNat (fun q => k (y_i q)))
    rw [y_fz_e]
    exact h _ (congrArg Value.int ((y_u32 x.toUInt32).trans rfl))
  | long x =>
    show P (y_fz x.toUInt64.toNat (fun q => k (y_j q)))
    rw [y_fz_e]
    exact h _ (congrArg Value.long ((y_u64 x.toUInt64).trans rfl))
  | float x =>
    show P (y_fz x.toNat (fun q => k (y_v (.float (UInt32.ofNat q)))))
    rw [y_fz_e]
    exact h _ (congrArg Value.float UInt32.ofNat_toNat)
  | double x =>
    show P (y_fz x.toNat (fun q => k (y_v (.double (UInt64.ofNat q)))))
    rw [y_fz_e]
    exact h _ (congrArg Value.double UInt64.ofNat_toNat)
  | _ => exact h0
theorem g_F1 (hc : xcode k pc = some (i, len, a, b)) (hp : xpl i = true) (ho : ∀ nl ls r x w, y_F1 i x = some w → xop i pc a nl ls (x :: r) = some (pc', ls, w :: r)) (hn : yGd G xrec xs E rec k N pc' n) : yGd G xrec xs E rec k (N + 1) pc (yF1 i n) := by
  intro ls st h m
  refine y_pop_e yTo_no (fun v r hs => ?_)
  subst hs
  refine y_raw_e (G := G) (P := yTo G (xstep xrec xs k) k (N + 1) (y_dx G pc ls (v :: r) h m)) yTo_no (fun x hx => y_on_e yTo_no (fun w hw => y_enc_e (G := G) (P := yTo G (xstep xrec xs k) k (N + 1) (y_dx G pc ls (v :: r) h m)) yTo_no (fun u hu => ?_)))
  refine yTo_op hc hp (ls' := ls) (st' := u :: r) ?_ (hn ls (u :: r) h m)
  show xop i pc a (xNl k) (y_dl G ls) (y_dec G v :: y_ds G r) = some (pc', y_dl G ls, y_dec G u :: y_ds G r)
  rw [hx, hu]
  exact ho _ _ _ _ _ hw
theorem g_F2 (hc : xcode k pc = some (i, len, a, b)) (hp : xpl i = true) (ho : ∀ nl ls r y x w, y_F2 i y x = some w → xop i pc a nl ls (y :: x :: r) = some (pc', ls, w :: r)) (hn : yGd G xrec xs E rec k N pc' n) : yGd G xrec xs E rec k (N + 1) pc (yF2 i n) := by
  intro ls st h m
  refine y_pop_e yTo_no (fun v r hs => y_pop_e yTo_no (fun v2 r2 hs2 => ?_))
  subst hs2; subst hs
  refine y_raw_e (G := G) (P := yTo G (xstep xrec xs k) k (N + 1) (y_dx G pc ls (v :: v2 :: r2) h m)) yTo_no (fun y hy => y_raw_e (G := G) (P := yTo G (xstep xrec xs k) k (N + 1) (y_dx G pc ls (v :: v2 :: r2) h m)) yTo_no (fun x hx => y_on_e yTo_no (fun w hw => y_enc_e (G := G) (P := yTo G (xstep xrec xs k) k (N + 1) (y_dx G pc ls (v :: v2 :: r2) h m)) yTo_no (fun u hu => ?_))))
  refine yTo_op hc hp (ls' := ls) (st' := u :: r2) ?_ (hn ls (u :: r2) h m)
  show xop i pc a (xNl k) (y_dl G ls) (y_dec G v :: y_dec G v2 :: y_ds G r2) = some (pc', y_dl G ls, y_dec G u :: y_ds G r2)
  rw [hx, hy, hu]
  exact ho _ _ _ _ _ _ hw
theorem g_ldv {j : Nat} {ok : yV → Bool} (hc : xcode k pc = some (i, len, a, b)) (hp : xpl i = true) (ho : ∀ nl ls st v, ok v = true → xgl ls j = some (y_dec G v) → xop i pc a nl ls st = some (pc', ls, y_dec G v :: st)) (hn : yGd G xrec xs E rec k N pc' n) : yGd G xrec xs E rec k (N + 1) pc (yLdv ok j n) := by
  intro ls st h m
  refine y_on_e yTo_no (fun v hv => ?_)
  have h1 := y_lf_e G ls j v hv
  refine y_tb_e (P := yTo G (xstep xrec xs k) k (N + 1) (y_dx G pc ls st h m)) yTo_no (fun hok => ?_)
  exact yTo_op hc hp (ho _ _ _ _ hok h1) (hn ls (v :: st) h m)
theorem y_kD_e {v : yV} (h : y_kD v = true) : ∃ x, y_dec G v = .double x := by
  rcases v with n | n | n | n | n | x
  case inr.inr.inr.inr.inr =>
    cases x with
    | double x => exact ⟨x, rfl⟩
    | _ => cases h
  all_goals cases h
theorem y_kF_e {v : yV} (h : y_kF v = true) : ∃ x, y_dec G v = .float x := by
  rcases v with n | n | n | n | n | x
  case inr.inr.inr.inr.inr =>
    cases x with
    | float x => exact ⟨x, rfl⟩
    | _ => cases h
  all_goals cases h
theorem g_std {j : Nat} (hc : xcode k pc = some (i, len, a, b)) (hp : xpl i = true) (ho : ∀ ls r x, xop i pc a (xNl k) ls (.double x :: r) = some (pc', xs2 ls j (.double x), r)) (hn : yGd G xrec xs E rec k N pc' n) : yGd G xrec xs E rec k (N + 1) pc (yStd j n) := by
  intro ls st h m
  refine y_pop_e yTo_no (fun v r hs => ?_)
  subst hs
  refine y_tb_e (P := yTo G (xstep xrec xs k) k (N + 1) (y_dx G pc ls (v :: r) h m)) yTo_no (fun hok => ?_)
  obtain ⟨x, hx⟩ := y_kD_e (G := G) hok
  rw [y_lr_e]
  refine yTo_op hc hp ?_ (hn (_ :: _) r h m)
  show xop i pc a (xNl k) (y_dl G ls) (y_dec G v :: y_ds G r) = some (pc', (j, y_dec G v) :: y_dl G (ls.filter (y_k2 j)), y_ds G r)
  rw [hx]
  exact (ho _ _ _).trans (by unfold xs2; rw [y_f2_e])
theorem g_stf {j : Nat} (hc : xcode k pc = some (i, len, a, b)) (hp : xpl i = true) (ho : ∀ ls r x, xop i pc a (xNl k) ls (.float x :: r) = some (pc', xs1 ls j (.float x), r)) (hn : yGd G xrec xs E rec k N pc' n) : yGd G xrec xs E rec k (N + 1) pc (yStf j n) := by
  intro ls st h m
  refine y_pop_e yTo_no (fun v r hs => ?_)
  subst hs
  refine y_tb_e (P := yTo G (xstep xrec xs k) k (N + 1) (y_dx G pc ls (v :: r) h m)) yTo_no (fun hok => ?_)
  obtain ⟨x, hx⟩ := y_kF_e (G := G) hok
  rw [y_lr_e]
  refine yTo_op hc hp ?_ (hn (_ :: _) r h m)
  show xop i pc a (xNl k) (y_dl G ls) (y_dec G v :: y_ds G r) = some (pc', (j, y_dec G v) :: y_dl G (ls.filter (y_k1 j)), y_ds G r)
  rw [hx]
  exact (ho _ _ _).trans (by unfold xs1; rw [y_f1_e])
theorem g_bitd {ix : Nat} (hc : xcode k pc = some (.invokestatic ix, len, 1, 1)) (hst : (Nat.ble 1 (xFr k) && Nat.ble 23 (xLo k)) = true) (hn : yGd G xrec xs E rec k N (pc + 3) n) : yGd G xrec xs E rec k (N + 1) pc (yBitD n) := by
  intro ls st h m
  refine y_pop_e yTo_no (fun v r hs => ?_)
  subst hs
  refine y_tb_e (P := yTo G (xstep xrec xs k) k (N + 1) (y_dx G pc ls (v :: r) h m)) yTo_no (fun hlw => y_raw_e (G := G) (P := yTo G (xstep xrec xs k) k (N + 1) (y_dx G pc ls (v :: r) h m)) yTo_no (fun x hx => ?_))
  cases x with
  | double x =>
    show yTo G (xstep xrec xs k) k (N + 1) (y_dx G pc ls (v :: r) h m) (y_fz x.toNat (fun q => n E rec ls (y_j q :: r) h m))
    rw [y_fz_e]
    refine yTo_step ?_ (hn ls (y_j x.toNat :: r) h m)
    obtain ⟨s1, s2⟩ := xand hst
    have h3 : Nat.ble (xcat (y_ds G r) + 15) (xLo k) = true := Nat.ble_eq_true_of_le (by have := y_lw_e (G := G) hlw; have := xble s2; omega)
    show xstep xrec xs k (pc, y_dl G ls, y_dec G v :: y_ds G r, m.1, m.2.1, y_dw G h m) = some (.inl (pc + 3, y_dl G ls, .long (Int64.ofNat x.toNat) :: y_ds G r, m.1, m.2.1, y_dw G h m))
    rw [hx, y_u64]
    unfold xstep; dsimp only; rw [hc]; dsimp only; rw [s1, h3]; rfl
  | _ => exact yTo_no
theorem g_bitf {ix : Nat} (hc : xcode k pc = some (.invokestatic ix, len, 2, 1)) (hst : (Nat.ble 1 (xFr k) && Nat.ble 23 (xLo k)) = true) (hn : yGd G xrec xs E rec k N (pc + 3) n) : yGd G xrec xs E rec k (N + 1) pc (yBitF n) := by
  intro ls st h m
  refine y_pop_e yTo_no (fun v r hs => ?_)
  subst hs
  refine y_tb_e (P := yTo G (xstep xrec xs k) k (N + 1) (y_dx G pc ls (v :: r) h m)) yTo_no (fun hlw => y_raw_e (G := G) (P := yTo G (xstep xrec xs k) k (N + 1) (y_dx G pc ls (v :: r) h m)) yTo_no (fun x hx => ?_))
  cases x with
  | float x =>
    show yTo G (xstep xrec xs k) k (N + 1) (y_dx G pc ls (v :: r) h m) (y_fz x.toNat (fun q => n E rec ls (y_i q :: r) h m))
    rw [y_fz_e]
    refine yTo_step ?_ (hn ls (y_i x.toNat :: r) h m)
    obtain ⟨s1, s2⟩ := xand hst
    have h3 : Nat.ble (xcat (y_ds G r) + 15) (xLo k) = true := Nat.ble_eq_true_of_le (by have := y_lw_e (G := G) hlw; have := xble s2; omega)
    show xstep xrec xs k (pc, y_dl G ls, y_dec G v :: y_ds G r, m.1, m.2.1, y_dw G h m) = some (.inl (pc + 3, y_dl G ls, .int (Int32.ofNat x.toNat) :: y_ds G r, m.1, m.2.1, y_dw G h m))
    rw [hx, y_u32]
    unfold xstep; dsimp only; rw [hc]; dsimp only; rw [s1, h3]; rfl
  | _ => exact yTo_no
end YST
