noncomputable section
/-! The state behind the constructors. -/
def zR0 (q : Nat) : List Int := (bif Nat.blt q 69 then (bif Nat.blt q 34 then (bif Nat.blt q 17 then (bif Nat.blt q 8 then (bif Nat.blt q 4 then (bif Nat.blt q 2 then (bif Nat.blt q 1 then [0, 0, 0, 0, 0, (-1)] else [0, 0, 0, 0, 0, 1]) else (bif Nat.blt q 3 then [4, 3] else [])) else (bif Nat.blt q 6 then (bif Nat.blt q 5 then [1, 1, 1, 1, 1, 1, 1, 1, 1, 1, 1, 1, 1, 1, 1, 1, 1, 1, 1, 1, 1, 1, 1, 1, 1, 1, 1, 1, 1, 1, 1, 1, 1, 1, 1, 1] else [0, 1, 4, 0, 1, 2, 5, 0, 2, 3, 6, 1, 3, 3, 7, 2, 0, 5, 8, 4, 1, 6, 9, 4, 2, 7, 10, 5, 3, 7, 11, 6, 4, 9, 8, 8, 5, 10, 9, 8, 6, 11, 10, 9, 7, 11, 11, 10]) else (bif Nat.blt q 7 then [] else [16]))) else (bif Nat.blt q 12 then (bif Nat.blt q 10 then (bif Nat.blt q 9 then [100, 0, 0, 0, 0, 100, 0, 0, 0, 0, 100, 0, 0, 0, 0, 100] else [(-1)]) else []) else (bif Nat.blt q 14 then (bif Nat.blt q 13 then [83334, 83334, 83334, 83334, 83333, 83333, 83333, 83333, 83333, 83333, 83333, 83333] else [0, 0, 0, 0, 0, 1]) else (bif Nat.blt q 15 then [4, 3] else (bif Nat.blt q 16 then [] else [1, 1, 1, 1, 1, 1, 1, 1, 1, 1, 1, 1, 1, 1, 1, 1, 1, 1, 1, 1, 1, 1, 1, 1, 1, 1, 1, 1, 1, 1, 1, 1, 1, 1, 1, 1]))))) else (bif Nat.blt q 25 then (bif Nat.blt q 21 then (bif Nat.blt q 19 then (bif Nat.blt q 18 then [0, 1, 4, 0, 1, 2, 5, 0, 2, 3, 6, 1, 3, 3, 7, 2, 0, 5, 8, 4, 1, 6, 9, 4, 2, 7, 10, 5, 3, 7, 11, 6, 4, 9, 8, 8, 5, 10, 9, 8, 6, 11, 10, 9, 7, 11, 11, 10] else []) else (bif Nat.blt q 20 then [16] else [100, 0, 0, 0, 0, 100, 0, 0, 0, 0, 100, 0, 0, 0, 0, 100])) else (bif Nat.blt q 23 then (bif Nat.blt q 22 then [(-1)] else []) else [])) else (bif Nat.blt q 29 then (bif Nat.blt q 27 then [] else (bif Nat.blt q 28 then [0, 0, 0, 0, 0, 1] else [4, 3])) else (bif Nat.blt q 31 then (bif Nat.blt q 30 then [] else [1, 1, 1, 1, 1, 1, 1, 1, 1, 1, 1, 1, 1, 1, 1, 1, 1, 1, 1, 1, 1, 1, 1, 1, 1, 1, 1, 1, 1, 1, 1, 1, 1, 1, 1, 1]) else (bif Nat.blt q 32 then [0, 1, 4, 0, 1, 2, 5, 0, 2, 3, 6, 1, 3, 3, 7, 2, 0, 5, 8, 4, 1, 6, 9, 4, 2, 7, 10, 5, 3, 7, 11, 6, 4, 9, 8, 8, 5, 10, 9, 8, 6, 11, 10, 9, 7, 11, 11, 10] else (bif Nat.blt q 33 then [] else [16])))))) else (bif Nat.blt q 51 then (bif Nat.blt q 42 then (bif Nat.blt q 38 then (bif Nat.blt q 36 then (bif Nat.blt q 35 then [100, 0, 0, 0, 0, 100, 0, 0, 0, 0, 100, 0, 0, 0, 0, 100] else [(-1)]) else []) else (bif Nat.blt q 40 then (bif Nat.blt q 39 then [] else [0, 0, 0, 0, 0, 1]) else (bif Nat.blt q 41 then [4, 3] else []))) else (bif Nat.blt q 46 then (bif Nat.blt q 44 then (bif Nat.blt q 43 then [1, 1, 1, 1, 1, 1, 1, 1, 1, 1, 1, 1, 1, 1, 1, 1, 1, 1, 1, 1, 1, 1, 1, 1, 1, 1, 1, 1, 1, 1, 1, 1, 1, 1, 1, 1] else [0, 1, 4, 0, 1, 2, 5, 0, 2, 3, 6, 1, 3, 3, 7, 2, 0, 5, 8, 4, 1, 6, 9, 4, 2, 7, 10, 5, 3, 7, 11, 6, 4, 9, 8, 8, 5, 10, 9, 8, 6, 11, 10, 9, 7, 11, 11, 10]) else (bif Nat.blt q 45 then [] else [16])) else (bif Nat.blt q 48 then (bif Nat.blt q 47 then [100, 0, 0, 0, 0, 100, 0, 0, 0, 0, 100, 0, 0, 0, 0, 100] else [(-1)]) else []))) else (bif Nat.blt q 60 then (bif Nat.blt q 55 then (bif Nat.blt q 53 then (bif Nat.blt q 52 then [0, 0, 0, 0, 0, 1] else [4, 3]) else (bif Nat.blt q 54 then [] else [1, 1, 1, 1, 1, 1, 1, 1, 1, 1, 1, 1, 1, 1, 1, 1, 1, 1, 1, 1, 1, 1, 1, 1, 1, 1, 1, 1, 1, 1, 1, 1, 1, 1, 1, 1])) else (bif Nat.blt q 57 then (bif Nat.blt q 56 then [0, 1, 4, 0, 1, 2, 5, 0, 2, 3, 6, 1, 3, 3, 7, 2, 0, 5, 8, 4, 1, 6, 9, 4, 2, 7, 10, 5, 3, 7, 11, 6, 4, 9, 8, 8, 5, 10, 9, 8, 6, 11, 10, 9, 7, 11, 11, 10] else []) else (bif Nat.blt q 58 then [16] else (bif Nat.blt q 59 then [100, 0, 0, 0, 0, 100, 0, 0, 0, 0, 100, 0, 0, 0, 0, 100] else [(-1)])))) else (bif Nat.blt q 64 then (bif Nat.blt q 62 then [] else (bif Nat.blt q 63 then [] else [0, 0, 0, 0, 0, 1])) else (bif Nat.blt q 66 then (bif Nat.blt q 65 then [4, 3] else []) else (bif Nat.blt q 67 then [1, 1, 1, 1, 1, 1, 1, 1, 1, 1, 1, 1, 1, 1, 1, 1, 1, 1, 1, 1, 1, 1, 1, 1, 1, 1, 1, 1, 1, 1, 1, 1, 1, 1, 1, 1] else (bif Nat.blt q 68 then [0, 1, 4, 0, 1, 2, 5, 0, 2, 3, 6, 1, 3, 3, 7, 2, 0, 5, 8, 4, 1, 6, 9, 4, 2, 7, 10, 5, 3, 7, 11, 6, 4, 9, 8, 8, 5, 10, 9, 8, 6, 11, 10, 9, 7, 11, 11, 10] else []))))))) else (bif Nat.blt q 103 then (bif Nat.blt q 86 then (bif Nat.blt q 77 then (bif Nat.blt q 73 then (bif Nat.blt q 71 then (bif Nat.blt q 70 then [16] else [100, 0, 0, 0, 0, 100, 0, 0, 0, 0, 100, 0, 0, 0, 0, 100]) else (bif Nat.blt q 72 then [(-1)] else [])) else (bif Nat.blt q 75 then [] else (bif Nat.blt q 76 then [0, 0, 0, 0, 0, 1] else [4, 3]))) else (bif Nat.blt q 81 then (bif Nat.blt q 79 then (bif Nat.blt q 78 then [] else [1, 1, 1, 1, 1, 1, 1, 1, 1, 1, 1, 1, 1, 1, 1, 1, 1, 1, 1, 1, 1, 1, 1, 1, 1, 1, 1, 1, 1, 1, 1, 1, 1, 1, 1, 1]) else (bif Nat.blt q 80 then [0, 1, 4, 0, 1, 2, 5, 0, 2, 3, 6, 1, 3, 3, 7, 2, 0, 5, 8, 4, 1, 6, 9, 4, 2, 7, 10, 5, 3, 7, 11, 6, 4, 9, 8, 8, 5, 10, 9, 8, 6, 11, 10, 9, 7, 11, 11, 10] else [])) else (bif Nat.blt q 83 then (bif Nat.blt q 82 then [16] else [100, 0, 0, 0, 0, 100, 0, 0, 0, 0, 100, 0, 0, 0, 0, 100]) else (bif Nat.blt q 84 then [(-1)] else [])))) else (bif Nat.blt q 94 then (bif Nat.blt q 90 then (bif Nat.blt q 88 then (bif Nat.blt q 87 then [] else [0, 0, 0, 0, 0, 1]) else (bif Nat.blt q 89 then [4, 3] else [])) else (bif Nat.blt q 92 then (bif Nat.blt q 91 then [1, 1, 1, 1, 1, 1, 1, 1, 1, 1, 1, 1, 1, 1, 1, 1, 1, 1, 1, 1, 1, 1, 1, 1, 1, 1, 1, 1, 1, 1, 1, 1, 1, 1, 1, 1] else [0, 1, 4, 0, 1, 2, 5, 0, 2, 3, 6, 1, 3, 3, 7, 2, 0, 5, 8, 4, 1, 6, 9, 4, 2, 7, 10, 5, 3, 7, 11, 6, 4, 9, 8, 8, 5, 10, 9, 8, 6, 11, 10, 9, 7, 11, 11, 10]) else (bif Nat.blt q 93 then [] else [16]))) else (bif Nat.blt q 98 then (bif Nat.blt q 96 then (bif Nat.blt q 95 then [100, 0, 0, 0, 0, 100, 0, 0, 0, 0, 100, 0, 0, 0, 0, 100] else [(-1)]) else []) else (bif Nat.blt q 100 then [] else (bif Nat.blt q 101 then [] else (bif Nat.blt q 102 then [] else [1, 1, 1, 1, 1, 1, 1, 1, 1, 1, 1, 1])))))) else (bif Nat.blt q 120 then (bif Nat.blt q 111 then (bif Nat.blt q 107 then (bif Nat.blt q 105 then (bif Nat.blt q 104 then [(-1), (-1), (-1), (-1), 4, 4, 4, 4, 4, 4, 4, 4] else []) else []) else []) else (bif Nat.blt q 115 then [] else (bif Nat.blt q 117 then (bif Nat.blt q 116 then [0, 0, 0, 0, 0, 0, 4, 3, 0, 0, 0, 1, 0, 0, 0, 0, 0, 0, 0, 0, 0, (-1), 0, 0, 0, 0, 0, 0, 0, 0, (-1)] else []) else (bif Nat.blt q 118 then [1, 1, 1, 1, 1, 1, 1, 1, 1, 1, 1, 1, 1, 1, 1, 1, 1, 1, 1, 1, 1, 1, 1, 1, 1, 1, 1, 1, 1, 1, 1, 1, 1, 1, 1, 1] else (bif Nat.blt q 119 then [16] else [100, 0, 0, 0, 0, 100, 0, 0, 0, 0, 100, 0, 0, 0, 0, 100]))))) else (bif Nat.blt q 129 then (bif Nat.blt q 124 then (bif Nat.blt q 122 then (bif Nat.blt q 121 then [83334, 83334, 83334, 83334, 83333, 83333, 83333, 83333, 83333, 83333, 83333, 83333] else [1, 1, 1, 1, 1, 1, 1, 1, 1, 1, 1, 1]) else (bif Nat.blt q 123 then [(-1), (-1), (-1), (-1), 4, 4, 4, 4, 4, 4, 4, 4] else [])) else []) else []))))
def zM0 : zM := fun q j => (zR0 q).getD j 0
def zG0 : yG := (fun _ => 0, fun _ => (0 : Int32).toInt64)
noncomputable def zhc (q i : Nat) : Bool := decide (y_dec zG0 (y_get (y_dp (y_get y_hd y_no y_h1 q).2.1) y_z (y_get y_hd y_no y_h1 q).2.2 i) = zval ((zsh q).2.2 i) (zM0 q i))
theorem zhd : ∀ q : Nat, q < 138 → (y_get y_hd y_no y_h1 q).1 = (zsh q).1 ∧ (y_get y_hd y_no y_h1 q).2.1 = (zsh q).2.1 := by decide +kernel
theorem zhU_n : ∀ q ∈ ([] : List Nat), ∀ i, i < (zsh q).2.1 → zhc q i = true := fun _ h => absurd h List.not_mem_nil
theorem zhU_c {q t l : Nat} {v : yV} {b : Bool} {us : List Nat} (hc : y_get y_hd y_no y_h1 q = (t, l, y_rep (y_dp l) v)) (hs : zsh q = (t, l, fun _ => .inl b)) (hz : zR0 q = []) (hv : y_dec zG0 v = zval (.inl b) 0) (hl : Nat.ble l 4096 = true) (h : ∀ q ∈ us, ∀ i, i < (zsh q).2.1 → zhc q i = true) : ∀ x ∈ q :: us, ∀ i, i < (zsh x).2.1 → zhc x i = true := fun x hx i hi => (List.mem_cons.mp hx).elim (fun e => by
  subst e
  rw [hs] at hi
  have h0 : zM0 x i = 0 := by show (zR0 x).getD i 0 = 0; rw [hz]; rfl
  unfold zhc
  rw [hc, hs, h0]
  dsimp only
  rw [y_rep_e _ _ _ _ (y_dp_lt hi (Nat.le_of_ble_eq_true hl)), hv]
  exact decide_eq_true rfl) (fun hx => h x hx i hi)
def zU : List Nat := [3, 11, 15, 23, 24, 29, 37, 38, 41, 49, 50, 53, 61, 62, 65, 73, 74, 77, 85, 86, 89, 97, 98, 100, 104, 106, 107, 109, 110, 111, 114, 116, 124, 125, 126, 127, 128, 129, 130, 131, 132, 134, 135, 136]
set_option maxRecDepth 100000 in
theorem zhU : ∀ q ∈ zU, ∀ i, i < (zsh q).2.1 → zhc q i = true := zhU_c rfl rfl rfl rfl rfl (zhU_c rfl rfl rfl rfl rfl (zhU_c rfl rfl rfl rfl rfl (zhU_c rfl rfl rfl rfl rfl (zhU_c rfl rfl rfl rfl rfl (zhU_c rfl rfl rfl rfl rfl (zhU_c rfl rfl rfl rfl rfl (zhU_c rfl rfl rfl rfl rfl (zhU_c rfl rfl rfl rfl rfl (zhU_c rfl rfl rfl rfl rfl (zhU_c rfl rfl rfl rfl rfl (zhU_c rfl rfl rfl rfl rfl (zhU_c rfl rfl rfl rfl rfl (zhU_c rfl rfl rfl rfl rfl (zhU_c rfl rfl rfl rfl rfl (zhU_c rfl rfl rfl rfl rfl (zhU_c rfl rfl rfl rfl rfl (zhU_c rfl rfl rfl rfl rfl (zhU_c rfl rfl rfl rfl rfl (zhU_c rfl rfl rfl rfl rfl (zhU_c rfl rfl rfl rfl rfl (zhU_c rfl rfl rfl rfl rfl (zhU_c rfl rfl rfl rfl rfl (zhU_c rfl rfl rfl rfl rfl (zhU_c rfl rfl rfl rfl rfl (zhU_c rfl rfl rfl rfl rfl (zhU_c rfl rfl rfl rfl rfl (zhU_c rfl rfl rfl rfl rfl (zhU_c rfl rfl rfl rfl rfl (zhU_c rfl rfl rfl rfl rfl (zhU_c rfl rfl rfl rfl rfl (zhU_c rfl rfl rfl rfl rfl (zhU_c rfl rfl rfl rfl rfl (zhU_c rfl rfl rfl rfl rfl (zhU_c rfl rfl rfl rfl rfl (zhU_c rfl rfl rfl rfl rfl (zhU_c rfl rfl rfl rfl rfl (zhU_c rfl rfl rfl rfl rfl (zhU_c rfl rfl rfl rfl rfl (zhU_c rfl rfl rfl rfl rfl (zhU_c rfl rfl rfl rfl rfl (zhU_c rfl rfl rfl rfl rfl (zhU_c rfl rfl rfl rfl rfl (zhU_c rfl rfl rfl rfl rfl (zhU_n))))))))))))))))))))))))))))))))))))))))))))
theorem zhs : (List.range 138).all (fun q => xmemN q zU || (List.range (zsh q).2.1).all (zhc q)) = true := by decide +kernel
theorem zheap0 : y_dh zG0 138 y_h1 = zheap zM0 := by
  have hl : zcnt = 138 := rfl
  unfold y_dh zheap
  rw [hl]
  refine List.map_congr_left (fun q hq => ?_)
  have hq : q < 138 := List.mem_range.mp hq
  obtain ⟨h1, h2⟩ := zhd q hq
  have key : ∀ i, i < (zsh q).2.1 → zhc q i = true := fun i hi => by
    rcases (Bool.or_eq_true _ _).mp (List.all_eq_true.mp zhs q (List.mem_range.mpr hq)) with h3 | h3
    · exact zhU q (xmemN_ok h3) i hi
    · exact List.all_eq_true.mp h3 i (List.mem_range.mpr hi)
  unfold y_dc zcell y_sl
  rw [h1]
  refine congrArg (fun l => ((zsh q).1, l)) ?_
  rw [h2]
  refine List.map_congr_left (fun i hi => ?_)
  have h3 := of_decide_eq_true (key i (List.mem_range.mp hi))
  rw [h2] at h3
  exact h3
theorem zM0_0 : ∀ q : Nat, q < 138 → (zR0 q = [] ∨ q < 13 ∨ q = 25 ∨ 99 ≤ q) ∨ True := fun _ _ => Or.inr trivial
theorem zfree0 {c : Int} (h : 0 ≤ c ∧ c < 12) : zfree zM0 zn1 c := ⟨h.1, h.2, (show ¬ (0 : Int) = -1 by decide)⟩
def zcn0 (j : Nat) : Int := if 0 ≤ znx 4 ((j : Int) / 4) ((j : Int) % 4) ∧ znx 4 ((j : Int) / 4) ((j : Int) % 4) < 12 then znx 4 ((j : Int) / 4) ((j : Int) % 4) else (j : Int) / 4
theorem zcn0_c {j : Nat} (hj : j < 48) : zcnF zM0 zn1 j = zcn0 j := by
  show zjn zM0 zn1 ((j : Int) / 4) (znx 4 ((j : Int) / 4) ((j : Int) % 4)) = zcn0 j
  unfold zcn0
  by_cases h : 0 ≤ znx 4 ((j : Int) / 4) ((j : Int) % 4) ∧ znx 4 ((j : Int) / 4) ((j : Int) % 4) < 12
  · rw [if_pos h]
    exact zjn_t (zfree0 (by omega)) (zfree0 h)
  · rw [if_neg h]
    exact zjn_f2 (fun e => h ⟨e.1, e.2.1⟩)
theorem zcn0_d : ∀ j : Nat, j < 48 → zM0 5 j = zcn0 j := by decide +kernel
theorem zsz0 : zsz zM0 zn1 = 12 := by decide +kernel
theorem zB0 : zBI 0 zM0 zn1 := by
  have h36 : ∀ c : Nat, c < 36 → -1 ≤ zM0 3 c ∧ zM0 3 c ≤ 3 := by decide +kernel
  have hnb : ∀ j : Nat, j < 144 → 0 ≤ zM0 5 j ∧ zM0 5 j ≤ 35 := by decide +kernel
  have hbl : ∀ j : Nat, j < 36 → 0 ≤ zM0 12 j ∧ zM0 12 j ≤ 1000000 := by decide +kernel
  have h6 : ∀ j : Nat, j < 4 → 0 ≤ zM0 7 j ∧ zM0 7 j ≤ 16 := by decide +kernel
  have h7 : ∀ j : Nat, j < 16 → 0 ≤ zM0 8 j ∧ zM0 8 j ≤ 100 := by decide +kernel
  have h10 : ∀ j : Nat, j < 8 → 0 ≤ zM0 10 j ∧ zM0 10 j ≤ 13 := by decide +kernel
  have h11 : ∀ j : Nat, j < 288 → 0 ≤ zM0 11 j ∧ zM0 11 j ≤ 100 := by decide +kernel
  have hco : ∀ j : Nat, j < 36 → 1 ≤ zM0 4 j ∧ zM0 4 j ≤ 9 := by decide +kernel
  have ht : ztot zM0 zn1 = 0 := by decide +kernel
  have hfr : ∀ j : Nat, (j : Int) < zsz zM0 zn1 → zfreeN zM0 zn1 j := fun j hj => zfree0 (by rw [zsz0] at hj; omega)
  refine ⟨⟨⟨by decide +kernel, by decide +kernel, h36⟩, hnb, fun j hj => ?_, zcount_pos _ ⟨0, by rw [zsz0]; decide, hfr 0 (by rw [zsz0]; decide)⟩⟩, ⟨hbl, by rw [zsz0]; decide +kernel, fun j hj hf => absurd (hfr j hj) hf⟩, ⟨⟨h6, h7, by decide +kernel, by decide +kernel⟩, by decide +kernel⟩, ⟨⟨by decide +kernel, by decide +kernel, by decide +kernel, h10, h11⟩, by decide +kernel, fun i hi => ?_, Or.inl (by decide +kernel)⟩, hco, zfree0 (by decide +kernel)⟩
  · rw [zsz0] at hj
    exact (zcn0_d j (by omega)).trans (zcn0_c (by omega)).symm
  · rw [ht] at hi
    unfold zmi at hi
    split at hi <;> omega
theorem zr0 {x : Int} (h : x = 0) : zr32 x := by
  rw [h]
  unfold zr32
  decide
theorem zK0 : zKI 0 zM0 := by
  have e100 : ∀ j : Nat, j < 45 → 0 ≤ zM0 100 j ∧ zM0 100 j ≤ 255 := by decide +kernel
  have e114 : ∀ j : Nat, j < 36 → 0 ≤ zM0 114 j ∧ zM0 114 j ≤ 1000000 := by decide +kernel
  have e104 : ∀ j : Nat, j < 36 → 0 ≤ zM0 104 j ∧ zM0 104 j ≤ 1000000 := by decide +kernel
  have e109 : ∀ j : Nat, j < 36 → 0 ≤ zM0 109 j ∧ zM0 109 j ≤ 9000000000000000000 := by decide +kernel
  refine ⟨by decide, zB0, fun e => absurd e (by decide +kernel), fun i h0 h1 => ?_, ⟨by decide +kernel, by decide +kernel⟩, ⟨⟨by decide +kernel, e100⟩, fun j hj => zr0 rfl, fun j hj => zr0 rfl, e114, e104, e109, fun i hi c hc => ?_, Or.inl (by decide +kernel), by decide +kernel⟩⟩
  · have e : zM0 25 2 = 0 := by decide +kernel
    rw [e] at h1
    omega
  · have h1 := zp100_p (8 - i)
    have e : zM0 111 (i * 36 + c) = 0 := rfl
    rw [e]
    omega
theorem zJ0 : zJo 0 zM0 := by
  have hC : ∀ j : Nat, j < 36 → zM0 117 j = zM0 4 j := by decide +kernel
  have hT1 : ∀ j : Nat, j < 4 → zM0 118 j = zM0 7 j := by decide +kernel
  have hT2 : ∀ j : Nat, j < 16 → zM0 119 j = zM0 8 j := by decide +kernel
  have hL : ∀ j : Nat, j < 36 → zM0 120 j = zM0 12 j := by decide +kernel
  refine ⟨zK0, rV_of zB0 ⟨by decide +kernel, fun j hj => rfl⟩ (fun j hj => hC j (by rw [zsz0] at hj; omega)) ⟨by decide +kernel, hT1, hT2⟩ (fun j hj => hL j (by rw [zsz0] at hj; omega)) ⟨by decide +kernel, by decide +kernel, by decide +kernel, by decide +kernel⟩ (rL_0 (c := -1) (by decide +kernel) (by decide +kernel)), fun e => absurd e (by decide +kernel), fun i hi => ?_, ⟨by decide +kernel, by decide +kernel, fun j hj => ?_⟩⟩
  · have e : zM0 25 2 = 0 := by decide +kernel
    rw [e] at hi
    omega
  · have e : zM0 99 1 = 0 := by decide +kernel
    rw [e] at hj
    omega
theorem y_pre13 : y_it yb_256 ([], [], []) (y_run yP ([], [], []) (nat_lit 13)) (nat_lit 1) (nat_lit 0) [(nat_lit 0, y_v (.retAddr (nat_lit 0)))] [] y_h0 (nat_lit 0, nat_lit 0, true, nat_lit 0) = some (.inl (nat_lit 23, y_l1, [], y_h1, y_m1)) := y_isP_e (by decide +kernel)
end
