/-! Sums that are spread; scaling keeps the whole and the walls. -/
theorem zsum_swap (G : Nat → Nat → Int) (m : Nat) : ∀ n, zsum (fun t => zsum (fun c => G t c) m) n = zsum (fun c => zsum (fun t => G t c) n) m
  | 0 => (zsum_0 m (fun _ _ => rfl)).symm
  | n + 1 => by
    show zsum (fun t => zsum (fun c => G t c) m) n + zsum (fun c => G n c) m = zsum (fun c => zsum (fun t => G t c) n + G n c) m
    rw [zsum_swap G m n]
    exact (zsum_add (fun c => zsum (fun t => G t c) n) (fun c => G n c) m).symm
theorem zsum_le {F K : zF} : ∀ n, (∀ j, j < n → F j ≤ K j) → zsum F n ≤ zsum K n
  | 0, _ => Int.le_refl _
  | n + 1, h => by
    have h1 := zsum_le n (fun j hj => h j (by omega))
    have h2 := h n (by omega)
    show zsum F n + F n ≤ zsum K n + K n
    omega
theorem zsum_one (j : Nat) (v : Int) : ∀ n, zsum (fun t => if j = t then v else 0) n = if j < n then v else 0
  | 0 => by rw [if_neg (Nat.not_lt_zero j)]; rfl
  | n + 1 => by
    show zsum (fun t => if j = t then v else 0) n + (if j = n then v else 0) = _
    rw [zsum_one j v n]
    by_cases h : j = n
    · rw [if_neg (by omega), if_pos h, if_pos (by omega), Int.zero_add]
    · by_cases h2 : j < n
      · rw [if_pos h2, if_neg h, if_pos (by omega), Int.add_zero]
      · rw [if_neg h2, if_neg h, if_neg (by omega), Int.add_zero]
theorem zsum_mulL (c : Int) (F : zF) : ∀ n, zsum (fun j => c * F j) n = c * zsum F n
  | 0 => (Int.mul_zero c).symm
  | n + 1 => by
    show zsum (fun j => c * F j) n + c * F n = c * (zsum F n + F n)
    rw [zsum_mulL c F n, Int.mul_add]
theorem zspread {E N : zF} {tg : Nat → Nat → Nat} {n : Nat} (ht : ∀ c, c < n → ∀ y, y < 4 → tg c y < n) : zsum (fun t => zsum (fun c => zsum (fun y => if tg c y = t then E c * N y else 0) 4) n) n = zsum E n * zsum N 4 := by
  rw [zsum_swap (fun t c => zsum (fun y => if tg c y = t then E c * N y else 0) 4) n n, ← zsum_mul E (zsum N 4) n]
  refine zsum_c n (fun c hc => ?_)
  show zsum (fun t => zsum (fun y => if tg c y = t then E c * N y else 0) 4) n = E c * zsum N 4
  rw [zsum_swap (fun t y => if tg c y = t then E c * N y else 0) 4 n, ← zsum_mulL (E c) N 4]
  refine zsum_c 4 (fun y hy => ?_)
  show zsum (fun t => if tg c y = t then E c * N y else 0) n = E c * N y
  rw [zsum_one, if_pos (ht c hc y hy)]
theorem zsum_pos {F : zF} : ∀ n, (∀ j, j < n → 0 ≤ F j) → (∃ j, j < n ∧ 0 < F j) → 0 < zsum F n
  | 0, _, ⟨j, hj, _⟩ => absurd hj (Nat.not_lt_zero j)
  | n + 1, h, ⟨j, hj, hp⟩ => by
    have h1 := zsum_nn n (fun j hj => h j (by omega))
    have h2 := h n (by omega)
    show 0 < zsum F n + F n
    by_cases e : j = n
    · subst e; omega
    · have := zsum_pos n (fun j hj => h j (by omega)) ⟨j, by omega, hp⟩
      omega
theorem zsum_ex {F : zF} : ∀ n, 0 < zsum F n → ∃ j, j < n ∧ 0 < F j
  | 0, h => absurd h (by show ¬ (0 : Int) < 0; decide)
  | n + 1, h => by
    have h1 : 0 < zsum F n + F n := h
    by_cases h2 : 0 < F n
    · exact ⟨n, Nat.lt_succ_self n, h2⟩
    · obtain ⟨j, hj, hp⟩ := zsum_ex n (show 0 < zsum F n by omega)
      exact ⟨j, by omega, hp⟩
theorem zbestf_ge (F : zF) : ∀ n j, j ≤ n → F j ≤ F (zbestf F n)
  | 0, j, h => by
    rw [show j = 0 by omega]
    exact Int.le_refl _
  | n + 1, j, h => by
    have ih := zbestf_ge F n
    unfold zbestf
    split
    · next h1 =>
      by_cases e : j = n + 1
      · rw [e]; exact Int.le_refl _
      · exact Int.le_trans (ih j (by omega)) (Int.le_of_lt h1)
    · next h1 =>
      by_cases e : j = n + 1
      · rw [e]; omega
      · exact ih j (by omega)
theorem zbest_ge {F : zF} {n j : Nat} (h : j < n) : F j ≤ F (zbest F n) := zbestf_ge F (n - 1) j (by omega)
/-- what is above 0 of the rests -/
def zpo0 (F : zF) : zF := fun j => if 0 < F j then F j else 0
theorem zpo0_up {R : zF} {b : Nat} : zpo0 (zrup R b (-1)) = zrup (zpo0 R) b 0 := by
  funext j
  unfold zpo0 zrup
  by_cases h : j = b
  · rw [if_pos h, if_pos h]
    rfl
  · rw [if_neg h, if_neg h]
theorem zadd_w {S : Int} {n t : Nat} (h0 : 0 < n) (ht : t < n) (hS : 0 < S) : ∀ k : Nat, ∀ p : zF × zF, (∀ j, j < n → p.2 j ≤ S - 1) → (k : Int) * S ≤ zsum (zpo0 p.2) n → p.2 t ≤ 0 → (zadd n k p).1 t = p.1 t
  | 0, p, _, _, _ => rfl
  | k + 1, p, h1, h2, h3 => by
    have e1 : ((k + 1 : Nat) : Int) * S = k * S + S := by rw [Int.natCast_add, Int.add_mul]; simp
    have hkS : 0 ≤ (k : Int) * S := Int.mul_nonneg (by omega) (by omega)
    obtain ⟨j, hj, hp⟩ := zsum_ex (F := zpo0 p.2) n (by omega)
    have hpj : 0 < p.2 j := by
      unfold zpo0 at hp
      split at hp
      · assumption
      · omega
    have hb := zbest_lt p.2 h0
    have hbj := zbest_ge (F := p.2) hj
    have hbt : t ≠ zbest p.2 n := fun e => by rw [e] at h3; omega
    have hb1 := h1 _ hb
    have hpb : zpo0 p.2 (zbest p.2 n) = p.2 (zbest p.2 n) := if_pos (by omega)
    show (zadd n k (zrup p.1 (zbest p.2 n) (p.1 (zbest p.2 n) + 1), zrup p.2 (zbest p.2 n) (-1))).1 t = _
    rw [zadd_w h0 ht hS k]
    · exact if_neg hbt
    · intro i hi
      show zrup p.2 (zbest p.2 n) (-1) i ≤ _
      unfold zrup
      split
      · omega
      · exact h1 i hi
    · show _ ≤ zsum (zpo0 (zrup p.2 (zbest p.2 n) (-1))) n
      rw [zpo0_up, zsum_up n hb, hpb]
      omega
    · show zrup p.2 (zbest p.2 n) (-1) t ≤ 0
      rw [show zrup p.2 (zbest p.2 n) (-1) t = p.2 t from if_neg hbt]
      exact h3
/-- scaled weights: their sum; weights of 0 stay 0 -/
theorem zsc_0 {W : zF} {n t : Nat} (hW : ∀ j, j < n → 0 ≤ W j) (hS : 0 < zsum W n) (ht : t < n) (h : W t = 0) : (zsc W n).1 t = 0 := by
  have h0 : 0 < n := by omega
  have hs := zshare_sum hW hS
  have e2 : zsum (fun j => W j * 1000000) n = zsum (fun j => zshare W n j * zsum W n + zleft W n j) n := zsum_c n (fun j _ => by
      show W j * 1000000 = W j * 1000000 / zsum W n * zsum W n + W j * 1000000 % zsum W n
      have := Int.mul_ediv_add_emod (W j * 1000000) (zsum W n)
      have h := Int.mul_comm (zsum W n) (W j * 1000000 / zsum W n)
      omega)
  rw [zsum_mul, zsum_add, zsum_mul] at e2
  have e3 : zsum (zpo0 (zleft W n)) n = zsum (zleft W n) n := zsum_c n (fun j _ => by
    have h9 : 0 ≤ zleft W n j := Int.emod_nonneg _ (by omega)
    unfold zpo0
    split
    · rfl
    · omega)
  have hk : ((zlack W n : Nat) : Int) = 1000000 - zsum (zshare W n) n := by unfold zlack; omega
  have hz : zleft W n t = 0 := by
    show W t * 1000000 % zsum W n = 0
    rw [h]
    simp
  have hz2 : zshare W n t = 0 := by
    show W t * 1000000 / zsum W n = 0
    rw [h]
    simp
  unfold zsc
  rw [zadd_w h0 ht hS]
  · exact hz2
  · intro j hj
    have := Int.emod_lt_of_pos (W j * 1000000) hS
    show W j * 1000000 % zsum W n ≤ _
    omega
  · show _ ≤ zsum (zpo0 (zleft W n)) n
    rw [e3, hk, Int.sub_mul]
    rw [Int.mul_comm] at e2
    omega
  · show zleft W n t ≤ 0
    omega
