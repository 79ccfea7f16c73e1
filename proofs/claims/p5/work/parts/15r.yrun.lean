/-! A method's run of the fast machine is the other's. -/
theorem y_args_e {G : yG} (k : Nat → yL → yR) : ∀ (av : yS) (n : Nat), ∃ ls, y_dl G ls = lv_args n (y_ds G av) ∧ @List.rec _ (fun _ => Nat → (Nat → yL → yR) → yR) (fun n k => k n []) (fun v _ ih n k => y_fz (Nat.add n (y_cat v)) (fun m => ih m (fun t r => k t ((n, v) :: r)))) av n k = k (n + xcat (y_ds G av)) ls := by
  intro av
  induction av generalizing k with
  | nil => exact fun n => ⟨[], rfl, rfl⟩
  | cons v r ih =>
    intro n
    obtain ⟨ls, h1, h2⟩ := ih (fun t r => k t ((n, v) :: r)) (n + y_cat v)
    refine ⟨(n, v) :: ls, ?_, ?_⟩
    · show (n, y_dec G v) :: y_dl G ls = (n, y_dec G v) :: lv_args (if (y_dec G v).category = 2 then n + 2 else n + 1) (y_ds G r)
      rw [h1, ← y_cat_e G v]
      congr 2
      rcases lv_cat (y_dec G v) with h | h
      · rw [h, if_neg (by decide)]
      · rw [h, if_pos rfl]
    · show y_fz (n + y_cat v) (fun m => @List.rec _ (fun _ => Nat → (Nat → yL → yR) → yR) (fun n k => k n []) (fun v _ ih n k => y_fz (Nat.add n (y_cat v)) (fun m => ih m (fun t r => k t ((n, v) :: r)))) r m (fun t r => k t ((n, v) :: r))) = k (n + ((y_dec G v).category + xcat (y_ds G r))) ((n, v) :: ls)
      rw [y_fz_e, h2, y_cat_e, Nat.add_assoc]
/-- all blocks of all methods are right, whatever the calls are, if those are right -/
def yBlk (G : yG) (xs : List Int32) (E : yE) (P : Nat → Nat × (Nat → yKK)) : Prop := ∀ (rec : yCl) (xrec : Nat → List Value → XW → Option (XO × XW)), yRecOk G rec xrec → ∀ a, a < 257 → (P a).1 = xNl a ∧ ∀ t, yGd G xrec xs E rec a 63 t ((P a).2 t)
theorem y_end_e {P : yR → Prop} {k : Option yV → Bool → Nat → yH → yR} {kx : Nat → Bool → Nat → yH → yR} {r : yR} (h0 : P none) (h1 : ∀ v h m, r = some (.inr (.inl (v, h, m))) → P (k v m.2.2.1 m.2.2.2 h)) (h2 : ∀ e h m, r = some (.inr (.inr (e, h, m))) → P (kx e false m.2.2.2 h)) : P (y_end k kx r) := by
  rcases r with _ | (x | (⟨v, h, m⟩ | ⟨e, h, m⟩))
  · exact h0
  · exact h0
  · exact h1 v h m rfl
  · exact h2 e h m rfl
theorem y_run_e {G : yG} {xs : List Int32} {E : yE} {P : Nat → Nat × (Nat → yKK)} (hP : yBlk G xs E P) : ∀ d, yRecOk G (y_run P E d) (xrun2 xs d)
  | 0 => fun a av f cnt h k kx Q h0 _ _ => h0
  | d + 1 => fun a av f cnt h k kx Q h0 h1 h2 => by
    have hR := y_run_e hP d
    show Q (y_if (Nat.blt a (nat_lit 257)) (y_args av (fun t ls => y_if (Nat.ble t (P a).1) (y_end k kx (y_it (P a).2 E (y_run P E d) (nat_lit 16384) (nat_lit 0) ls [] h (nat_lit 0, nat_lit 0, f, cnt))) none)) none)
    refine y_tb_e (P := Q) h0 (fun ha => ?_)
    have ha : a < 257 := Nat.le_of_ble_eq_true ha
    obtain ⟨hnl, hB⟩ := hP _ _ hR a ha
    obtain ⟨ls, e1, e2⟩ := y_args_e (G := G) (fun t ls => y_if (Nat.ble t (P a).1) (y_end k kx (y_it (P a).2 E (y_run P E d) (nat_lit 16384) (nat_lit 0) ls [] h (nat_lit 0, nat_lit 0, f, cnt))) none) av 0
    show Q (@List.rec _ (fun _ => Nat → (Nat → yL → yR) → yR) (fun n k => k n []) (fun v _ ih n k => y_fz (Nat.add n (y_cat v)) (fun m => ih m (fun t r => k t ((n, v) :: r)))) av 0 _)
    rw [e2]
    refine y_tb_e (P := Q) h0 (fun ht => ?_)
    rw [Nat.zero_add, hnl] at ht
    have h3 := y_it_e hB 16384 0 ls [] h (0, 0, f, cnt)
    have hone : ∀ o, (∃ n c1 z, n ≤ 16384 * 63 ∧ xpow (xstep (xrun2 xs d) xs a) n (y_dx G 0 ls [] h (0, 0, f, cnt)) c1 ∧ xstep (xrun2 xs d) xs a c1 = some (.inr z) ∧ xfin2 a z = some o) → xrun2 xs (d + 1) a (y_ds G av) (f, y_dh G cnt h) = some o := by
      intro o ⟨n, c1, z, hn, hp, hz, hf⟩
      show xone xs (xrun2 xs d) 20 a (y_ds G av) (f, y_dh G cnt h) = some o
      unfold xone
      rw [ht, cond_true]
      have hx : xit (xstep (xrun2 xs d) xs a) 20 (0, lv_args 0 (y_ds G av), [], 0, 0, (f, y_dh G cnt h)) = some (.inr z) := by
        rw [← e1]
        refine xit_inr 20 n _ c1 ?_ hp hz
        have : (2 : Nat) ^ 20 = 1048576 := by decide +kernel
        omega
      generalize xit (xstep (xrun2 xs d) xs a) 20 (0, lv_args 0 (y_ds G av), [], 0, 0, (f, y_dh G cnt h)) = R at hx
      subst hx
      exact hf
    refine y_end_e (P := Q) h0 (fun v h' m hr => ?_) (fun e h' m hr => ?_)
    · rw [show y_it (P a).2 E (y_run P E d) (nat_lit 16384) (nat_lit 0) ls [] h (nat_lit 0, nat_lit 0, f, cnt) = y_it (P a).2 E (y_run P E d) 16384 0 ls [] h (0, 0, f, cnt) from rfl] at hr
      rw [hr] at h3
      exact h1 v _ _ _ (hone _ h3)
    · rw [show y_it (P a).2 E (y_run P E d) (nat_lit 16384) (nat_lit 0) ls [] h (nat_lit 0, nat_lit 0, f, cnt) = y_it (P a).2 E (y_run P E d) 16384 0 ls [] h (0, 0, f, cnt) from rfl] at hr
      rw [hr] at h3
      exact h2 e _ _ _ (hone _ h3)
