/-! Each call, each script. -/
theorem r_s0 : y_case ([y_i (nat_lit 0)], [], []) = true := by decide +kernel
theorem r_s1 : y_case ([y_i (nat_lit 1)], [], []) = true := by decide +kernel
theorem r_s2 : y_case ([y_i (nat_lit 2)], [], []) = true := by decide +kernel
theorem r_s3 : y_case ([y_i (nat_lit 3)], [], []) = true := by decide +kernel
theorem z_0 {x0 x1 x2 x3 : Int32} (h0 : x0 &&& 63 = Int32.ofNat 0) : ∃ d n, xlaw [x0, x1, x2, x3] d n = true := by
  have b0 : 0 ≤ (y_ga x0 x1 x2 x3 6).toInt ∧ (y_ga x0 x1 x2 x3 6).toInt ≤ 255 := y_by (y_ga x0 x1 x2 x3 5)
  have b1 : 0 ≤ (y_ga x0 x1 x2 x3 8).toInt ∧ (y_ga x0 x1 x2 x3 8).toInt ≤ 255 := y_by (y_ga x0 x1 x2 x3 7)
  have b2 : 0 ≤ (y_ga x0 x1 x2 x3 10).toInt ∧ (y_ga x0 x1 x2 x3 10).toInt ≤ 255 := y_by (y_ga x0 x1 x2 x3 9)
  have b3 : 0 ≤ (y_ga x0 x1 x2 x3 12).toInt ∧ (y_ga x0 x1 x2 x3 12).toInt ≤ 255 := y_by (y_ga x0 x1 x2 x3 11)
  by_cases c0_0 : (y_ga x0 x1 x2 x3 6).toInt ≤ 0
  · by_cases c1_0 : (y_ga x0 x1 x2 x3 8).toInt ≤ 0
    · by_cases c2_0 : (y_ga x0 x1 x2 x3 10).toInt ≤ 0
      · by_cases c3_0 : (y_ga x0 x1 x2 x3 12).toInt ≤ 0
        · exact y_app_e r_0_0 h0 (y_iv4 (by omega) (by omega) (by omega) (by omega) (by omega) (by omega) (by omega) (by omega))
        by_cases c3_1 : (y_ga x0 x1 x2 x3 12).toInt ≤ 32
        · exact y_app_e r_0_1 h0 (y_iv4 (by omega) (by omega) (by omega) (by omega) (by omega) (by omega) (by omega) (by omega))
        by_cases c3_2 : (y_ga x0 x1 x2 x3 12).toInt ≤ 126
        · exact y_app_e r_0_2 h0 (y_iv4 (by omega) (by omega) (by omega) (by omega) (by omega) (by omega) (by omega) (by omega))
        exact y_app_e r_0_3 h0 (y_iv4 (by omega) (by omega) (by omega) (by omega) (by omega) (by omega) (by omega) (by omega))
      by_cases c2_1 : (y_ga x0 x1 x2 x3 10).toInt ≤ 32
      · exact y_app_e r_0_4 h0 (y_iv3 (by omega) (by omega) (by omega) (by omega) (by omega) (by omega))
      by_cases c2_2 : (y_ga x0 x1 x2 x3 10).toInt ≤ 126
      · by_cases c3_0 : (y_ga x0 x1 x2 x3 12).toInt ≤ 0
        · exact y_app_e r_0_5 h0 (y_iv4 (by omega) (by omega) (by omega) (by omega) (by omega) (by omega) (by omega) (by omega))
        by_cases c3_1 : (y_ga x0 x1 x2 x3 12).toInt ≤ 32
        · exact y_app_e r_0_6 h0 (y_iv4 (by omega) (by omega) (by omega) (by omega) (by omega) (by omega) (by omega) (by omega))
        by_cases c3_2 : (y_ga x0 x1 x2 x3 12).toInt ≤ 126
        · exact y_app_e r_0_7 h0 (y_iv4 (by omega) (by omega) (by omega) (by omega) (by omega) (by omega) (by omega) (by omega))
        exact y_app_e r_0_8 h0 (y_iv4 (by omega) (by omega) (by omega) (by omega) (by omega) (by omega) (by omega) (by omega))
      exact y_app_e r_0_9 h0 (y_iv3 (by omega) (by omega) (by omega) (by omega) (by omega) (by omega))
    by_cases c1_1 : (y_ga x0 x1 x2 x3 8).toInt ≤ 32
    · exact y_app_e r_0_10 h0 (y_iv2 (by omega) (by omega) (by omega) (by omega))
    by_cases c1_2 : (y_ga x0 x1 x2 x3 8).toInt ≤ 126
    · by_cases c2_0 : (y_ga x0 x1 x2 x3 10).toInt ≤ 0
      · by_cases c3_0 : (y_ga x0 x1 x2 x3 12).toInt ≤ 0
        · exact y_app_e r_0_11 h0 (y_iv4 (by omega) (by omega) (by omega) (by omega) (by omega) (by omega) (by omega) (by omega))
        by_cases c3_1 : (y_ga x0 x1 x2 x3 12).toInt ≤ 32
        · exact y_app_e r_0_12 h0 (y_iv4 (by omega) (by omega) (by omega) (by omega) (by omega) (by omega) (by omega) (by omega))
        by_cases c3_2 : (y_ga x0 x1 x2 x3 12).toInt ≤ 126
        · exact y_app_e r_0_13 h0 (y_iv4 (by omega) (by omega) (by omega) (by omega) (by omega) (by omega) (by omega) (by omega))
        exact y_app_e r_0_14 h0 (y_iv4 (by omega) (by omega) (by omega) (by omega) (by omega) (by omega) (by omega) (by omega))
      by_cases c2_1 : (y_ga x0 x1 x2 x3 10).toInt ≤ 32
      · exact y_app_e r_0_15 h0 (y_iv3 (by omega) (by omega) (by omega) (by omega) (by omega) (by omega))
      by_cases c2_2 : (y_ga x0 x1 x2 x3 10).toInt ≤ 126
      · by_cases c3_0 : (y_ga x0 x1 x2 x3 12).toInt ≤ 0
        · exact y_app_e r_0_16 h0 (y_iv4 (by omega) (by omega) (by omega) (by omega) (by omega) (by omega) (by omega) (by omega))
        by_cases c3_1 : (y_ga x0 x1 x2 x3 12).toInt ≤ 32
        · exact y_app_e r_0_17 h0 (y_iv4 (by omega) (by omega) (by omega) (by omega) (by omega) (by omega) (by omega) (by omega))
        by_cases c3_2 : (y_ga x0 x1 x2 x3 12).toInt ≤ 126
        · exact y_app_e r_0_18 h0 (y_iv4 (by omega) (by omega) (by omega) (by omega) (by omega) (by omega) (by omega) (by omega))
        exact y_app_e r_0_19 h0 (y_iv4 (by omega) (by omega) (by omega) (by omega) (by omega) (by omega) (by omega) (by omega))
      exact y_app_e r_0_20 h0 (y_iv3 (by omega) (by omega) (by omega) (by omega) (by omega) (by omega))
    exact y_app_e r_0_21 h0 (y_iv2 (by omega) (by omega) (by omega) (by omega))
  by_cases c0_1 : (y_ga x0 x1 x2 x3 6).toInt ≤ 32
  · exact y_app_e r_0_22 h0 (y_iv1 (by omega) (by omega))
  by_cases c0_2 : (y_ga x0 x1 x2 x3 6).toInt ≤ 126
  · by_cases c1_0 : (y_ga x0 x1 x2 x3 8).toInt ≤ 0
    · by_cases c2_0 : (y_ga x0 x1 x2 x3 10).toInt ≤ 0
      · by_cases c3_0 : (y_ga x0 x1 x2 x3 12).toInt ≤ 0
        · exact y_app_e r_0_23 h0 (y_iv4 (by omega) (by omega) (by omega) (by omega) (by omega) (by omega) (by omega) (by omega))
        by_cases c3_1 : (y_ga x0 x1 x2 x3 12).toInt ≤ 32
        · exact y_app_e r_0_24 h0 (y_iv4 (by omega) (by omega) (by omega) (by omega) (by omega) (by omega) (by omega) (by omega))
        by_cases c3_2 : (y_ga x0 x1 x2 x3 12).toInt ≤ 126
        · exact y_app_e r_0_25 h0 (y_iv4 (by omega) (by omega) (by omega) (by omega) (by omega) (by omega) (by omega) (by omega))
        exact y_app_e r_0_26 h0 (y_iv4 (by omega) (by omega) (by omega) (by omega) (by omega) (by omega) (by omega) (by omega))
      by_cases c2_1 : (y_ga x0 x1 x2 x3 10).toInt ≤ 32
      · exact y_app_e r_0_27 h0 (y_iv3 (by omega) (by omega) (by omega) (by omega) (by omega) (by omega))
      by_cases c2_2 : (y_ga x0 x1 x2 x3 10).toInt ≤ 126
      · by_cases c3_0 : (y_ga x0 x1 x2 x3 12).toInt ≤ 0
        · exact y_app_e r_0_28 h0 (y_iv4 (by omega) (by omega) (by omega) (by omega) (by omega) (by omega) (by omega) (by omega))
        by_cases c3_1 : (y_ga x0 x1 x2 x3 12).toInt ≤ 32
        · exact y_app_e r_0_29 h0 (y_iv4 (by omega) (by omega) (by omega) (by omega) (by omega) (by omega) (by omega) (by omega))
        by_cases c3_2 : (y_ga x0 x1 x2 x3 12).toInt ≤ 126
        · exact y_app_e r_0_30 h0 (y_iv4 (by omega) (by omega) (by omega) (by omega) (by omega) (by omega) (by omega) (by omega))
        exact y_app_e r_0_31 h0 (y_iv4 (by omega) (by omega) (by omega) (by omega) (by omega) (by omega) (by omega) (by omega))
      exact y_app_e r_0_32 h0 (y_iv3 (by omega) (by omega) (by omega) (by omega) (by omega) (by omega))
    by_cases c1_1 : (y_ga x0 x1 x2 x3 8).toInt ≤ 32
    · exact y_app_e r_0_33 h0 (y_iv2 (by omega) (by omega) (by omega) (by omega))
    by_cases c1_2 : (y_ga x0 x1 x2 x3 8).toInt ≤ 126
    · by_cases c2_0 : (y_ga x0 x1 x2 x3 10).toInt ≤ 0
      · by_cases c3_0 : (y_ga x0 x1 x2 x3 12).toInt ≤ 0
        · exact y_app_e r_0_34 h0 (y_iv4 (by omega) (by omega) (by omega) (by omega) (by omega) (by omega) (by omega) (by omega))
        by_cases c3_1 : (y_ga x0 x1 x2 x3 12).toInt ≤ 32
        · exact y_app_e r_0_35 h0 (y_iv4 (by omega) (by omega) (by omega) (by omega) (by omega) (by omega) (by omega) (by omega))
        by_cases c3_2 : (y_ga x0 x1 x2 x3 12).toInt ≤ 126
        · exact y_app_e r_0_36 h0 (y_iv4 (by omega) (by omega) (by omega) (by omega) (by omega) (by omega) (by omega) (by omega))
        exact y_app_e r_0_37 h0 (y_iv4 (by omega) (by omega) (by omega) (by omega) (by omega) (by omega) (by omega) (by omega))
      by_cases c2_1 : (y_ga x0 x1 x2 x3 10).toInt ≤ 32
      · exact y_app_e r_0_38 h0 (y_iv3 (by omega) (by omega) (by omega) (by omega) (by omega) (by omega))
      by_cases c2_2 : (y_ga x0 x1 x2 x3 10).toInt ≤ 126
      · by_cases c3_0 : (y_ga x0 x1 x2 x3 12).toInt ≤ 0
        · exact y_app_e r_0_39 h0 (y_iv4 (by omega) (by omega) (by omega) (by omega) (by omega) (by omega) (by omega) (by omega))
        by_cases c3_1 : (y_ga x0 x1 x2 x3 12).toInt ≤ 32
        · exact y_app_e r_0_40 h0 (y_iv4 (by omega) (by omega) (by omega) (by omega) (by omega) (by omega) (by omega) (by omega))
        by_cases c3_2 : (y_ga x0 x1 x2 x3 12).toInt ≤ 126
        · exact y_app_e r_0_41 h0 (y_iv4 (by omega) (by omega) (by omega) (by omega) (by omega) (by omega) (by omega) (by omega))
        exact y_app_e r_0_42 h0 (y_iv4 (by omega) (by omega) (by omega) (by omega) (by omega) (by omega) (by omega) (by omega))
      exact y_app_e r_0_43 h0 (y_iv3 (by omega) (by omega) (by omega) (by omega) (by omega) (by omega))
    exact y_app_e r_0_44 h0 (y_iv2 (by omega) (by omega) (by omega) (by omega))
  exact y_app_e r_0_45 h0 (y_iv1 (by omega) (by omega))
theorem z_6 {x0 x1 x2 x3 : Int32} (h0 : x0 &&& 63 = Int32.ofNat 6) : ∃ d n, xlaw [x0, x1, x2, x3] d n = true := by
  have b1 := y_bd32 (y_gm x0 x1 x2 x3 1)
  have b2 := y_bd32 (y_gm x0 x1 x2 x3 2)
  have b3 := y_bd32 (y_gm x0 x1 x2 x3 3)
  by_cases c0 : (y_gm x0 x1 x2 x3 1).toInt ≤ -1
  · exact y_mot_e r_6_0 h0 (y_iv1 (by omega) (by omega)) (y_itv (x := (y_gm x0 x1 x2 x3 1)) (by omega) (by omega)) (y_full _) (y_full _)
  by_cases c1 : 17 ≤ (y_gm x0 x1 x2 x3 1).toInt
  · exact y_mot_e r_6_1 h0 (y_iv1 (by omega) (by omega)) (y_itv (x := (y_gm x0 x1 x2 x3 1)) (by omega) (by omega)) (y_full _) (y_full _)
  by_cases c2 : (y_gm x0 x1 x2 x3 2).toInt ≤ -1
  · exact y_mot_e r_6_2 h0 (y_iv2 (by omega) (by omega) (by omega) (by omega)) (y_itv (x := (y_gm x0 x1 x2 x3 1)) (by omega) (by omega)) (y_itv (x := (y_gm x0 x1 x2 x3 2)) (by omega) (by omega)) (y_full _)
  by_cases c3 : 17 ≤ (y_gm x0 x1 x2 x3 2).toInt
  · exact y_mot_e r_6_3 h0 (y_iv2 (by omega) (by omega) (by omega) (by omega)) (y_itv (x := (y_gm x0 x1 x2 x3 1)) (by omega) (by omega)) (y_itv (x := (y_gm x0 x1 x2 x3 2)) (by omega) (by omega)) (y_full _)
  by_cases c4 : (y_gm x0 x1 x2 x3 3).toInt ≤ -1
  · exact y_mot_e r_6_4 h0 (y_iv3 (by omega) (by omega) (by omega) (by omega) (by omega) (by omega)) (y_itv (x := (y_gm x0 x1 x2 x3 1)) (by omega) (by omega)) (y_itv (x := (y_gm x0 x1 x2 x3 2)) (by omega) (by omega)) (y_itv (x := (y_gm x0 x1 x2 x3 3)) (by omega) (by omega))
  by_cases c5 : 17 ≤ (y_gm x0 x1 x2 x3 3).toInt
  · exact y_mot_e r_6_5 h0 (y_iv3 (by omega) (by omega) (by omega) (by omega) (by omega) (by omega)) (y_itv (x := (y_gm x0 x1 x2 x3 1)) (by omega) (by omega)) (y_itv (x := (y_gm x0 x1 x2 x3 2)) (by omega) (by omega)) (y_itv (x := (y_gm x0 x1 x2 x3 3)) (by omega) (by omega))
  obtain ⟨s7, s9⟩ := y_mot7 (x0 := x0) (x1 := x1) (x2 := x2) (x3 := x3) (by omega) (by omega) (by omega) (by omega) (by omega) (by omega)
  by_cases c6 : (y_gm x0 x1 x2 x3 1).toInt + (y_gm x0 x1 x2 x3 2).toInt + (y_gm x0 x1 x2 x3 3).toInt ≤ 16
  · exact y_mot_e r_6_6 h0 (y_iv5 (by omega) (by omega) (by omega) (by omega) (by omega) (by omega) (by omega) (by omega) (by omega) (by omega)) (y_itv (x := (y_gm x0 x1 x2 x3 1)) (by omega) (by omega)) (y_itv (x := (y_gm x0 x1 x2 x3 2)) (by omega) (by omega)) (y_itv (x := (y_gm x0 x1 x2 x3 3)) (by omega) (by omega))
  exact y_mot_e r_6_7 h0 (y_iv5 (by omega) (by omega) (by omega) (by omega) (by omega) (by omega) (by omega) (by omega) (by omega) (by omega)) (y_itv (x := (y_gm x0 x1 x2 x3 1)) (by omega) (by omega)) (y_itv (x := (y_gm x0 x1 x2 x3 2)) (by omega) (by omega)) (y_itv (x := (y_gm x0 x1 x2 x3 3)) (by omega) (by omega))
theorem z_1 {x0 x1 x2 x3 : Int32} (h0 : x0 &&& 63 = Int32.ofNat 1) : ∃ d n, xlaw [x0, x1, x2, x3] d n = true := by
  have b1 := y_bd32 x1
  have b2 := y_bd32 x2
  have b3 := y_bd32 x3
  exact y_std_e r_1_0 (by decide) h0 (y_full _) (y_full _) (y_full _)
theorem z_2 {x0 x1 x2 x3 : Int32} (h0 : x0 &&& 63 = Int32.ofNat 2) : ∃ d n, xlaw [x0, x1, x2, x3] d n = true := by
  have b1 := y_bd32 x1
  have b2 := y_bd32 x2
  have b3 := y_bd32 x3
  exact y_std_e r_2_0 (by decide) h0 (y_full _) (y_full _) (y_full _)
theorem z_3 {x0 x1 x2 x3 : Int32} (h0 : x0 &&& 63 = Int32.ofNat 3) : ∃ d n, xlaw [x0, x1, x2, x3] d n = true := by
  have b1 := y_bd32 x1
  have b2 := y_bd32 x2
  have b3 := y_bd32 x3
  by_cases c1_0 : x1.toInt ≤ -1
  · by_cases c2_0 : x2.toInt ≤ -1
    · exact y_std_e r_3_0 (by decide) h0 (y_itv (by omega) (by omega)) (y_itv (by omega) (by omega)) (y_full _)
    by_cases c2_1 : x2.toInt ≤ 0
    · exact y_std_e r_3_1 (by decide) h0 (y_itv (by omega) (by omega)) (y_num (by omega) (by omega)) (y_full _)
    exact y_std_e r_3_2 (by decide) h0 (y_itv (by omega) (by omega)) (y_itv (by omega) (by omega)) (y_full _)
  by_cases c1_1 : x1.toInt ≤ 2
  · by_cases c2_0 : x2.toInt ≤ -1
    · exact y_std_e r_3_3 (by decide) h0 (y_num (by omega) (by omega)) (y_itv (by omega) (by omega)) (y_full _)
    by_cases c2_1 : x2.toInt ≤ 0
    · exact y_std_e r_3_4 (by decide) h0 (y_num (by omega) (by omega)) (y_num (by omega) (by omega)) (y_full _)
    exact y_std_e r_3_5 (by decide) h0 (y_num (by omega) (by omega)) (y_itv (by omega) (by omega)) (y_full _)
  by_cases c1_2 : x1.toInt ≤ 5
  · by_cases c2_0 : x2.toInt ≤ -1
    · exact y_std_e r_3_6 (by decide) h0 (y_num (by omega) (by omega)) (y_itv (by omega) (by omega)) (y_full _)
    by_cases c2_1 : x2.toInt ≤ 0
    · exact y_std_e r_3_7 (by decide) h0 (y_num (by omega) (by omega)) (y_num (by omega) (by omega)) (y_full _)
    exact y_std_e r_3_8 (by decide) h0 (y_num (by omega) (by omega)) (y_itv (by omega) (by omega)) (y_full _)
  by_cases c1_3 : x1.toInt ≤ 8
  · by_cases c2_0 : x2.toInt ≤ -1
    · exact y_std_e r_3_9 (by decide) h0 (y_num (by omega) (by omega)) (y_itv (by omega) (by omega)) (y_full _)
    by_cases c2_1 : x2.toInt ≤ 0
    · exact y_std_e r_3_10 (by decide) h0 (y_num (by omega) (by omega)) (y_num (by omega) (by omega)) (y_full _)
    exact y_std_e r_3_11 (by decide) h0 (y_num (by omega) (by omega)) (y_itv (by omega) (by omega)) (y_full _)
  by_cases c1_4 : x1.toInt ≤ 11
  · by_cases c2_0 : x2.toInt ≤ -1
    · exact y_std_e r_3_12 (by decide) h0 (y_num (by omega) (by omega)) (y_itv (by omega) (by omega)) (y_full _)
    by_cases c2_1 : x2.toInt ≤ 0
    · exact y_std_e r_3_13 (by decide) h0 (y_num (by omega) (by omega)) (y_num (by omega) (by omega)) (y_full _)
    exact y_std_e r_3_14 (by decide) h0 (y_num (by omega) (by omega)) (y_itv (by omega) (by omega)) (y_full _)
  by_cases c2_0 : x2.toInt ≤ -1
  · exact y_std_e r_3_15 (by decide) h0 (y_itv (by omega) (by omega)) (y_itv (by omega) (by omega)) (y_full _)
  by_cases c2_1 : x2.toInt ≤ 0
  · exact y_std_e r_3_16 (by decide) h0 (y_itv (by omega) (by omega)) (y_num (by omega) (by omega)) (y_full _)
  exact y_std_e r_3_17 (by decide) h0 (y_itv (by omega) (by omega)) (y_itv (by omega) (by omega)) (y_full _)
theorem z_4 {x0 x1 x2 x3 : Int32} (h0 : x0 &&& 63 = Int32.ofNat 4) : ∃ d n, xlaw [x0, x1, x2, x3] d n = true := by
  have b1 := y_bd32 x1
  have b2 := y_bd32 x2
  have b3 := y_bd32 x3
  by_cases c1_0 : x1.toInt ≤ -1
  · exact y_std_e r_4_0 (by decide) h0 (y_itv (by omega) (by omega)) (y_full _) (y_full _)
  by_cases c1_1 : x1.toInt ≤ 11
  · by_cases c2_0 : x2.toInt ≤ -1
    · exact y_std_e r_4_1 (by decide) h0 (y_num (by omega) (by omega)) (y_itv (by omega) (by omega)) (y_full _)
    by_cases c2_1 : x2.toInt ≤ 3
    · exact y_std_e r_4_2 (by decide) h0 (y_num (by omega) (by omega)) (y_itv (by omega) (by omega)) (y_full _)
    exact y_std_e r_4_3 (by decide) h0 (y_num (by omega) (by omega)) (y_itv (by omega) (by omega)) (y_full _)
  exact y_std_e r_4_4 (by decide) h0 (y_itv (by omega) (by omega)) (y_full _) (y_full _)
theorem z_5 {x0 x1 x2 x3 : Int32} (h0 : x0 &&& 63 = Int32.ofNat 5) : ∃ d n, xlaw [x0, x1, x2, x3] d n = true := by
  have b1 := y_bd32 x1
  have b2 := y_bd32 x2
  have b3 := y_bd32 x3
  by_cases c1_0 : x1.toInt ≤ -1
  · exact y_std_e r_5_0 (by decide) h0 (y_itv (by omega) (by omega)) (y_full _) (y_full _)
  by_cases c1_1 : x1.toInt ≤ 11
  · by_cases c2_0 : x2.toInt ≤ 0
    · exact y_std_e r_5_1 (by decide) h0 (y_num (by omega) (by omega)) (y_itv (by omega) (by omega)) (y_full _)
    by_cases c2_1 : x2.toInt ≤ 9
    · exact y_std_e r_5_2 (by decide) h0 (y_num (by omega) (by omega)) (y_itv (by omega) (by omega)) (y_full _)
    exact y_std_e r_5_3 (by decide) h0 (y_num (by omega) (by omega)) (y_itv (by omega) (by omega)) (y_full _)
  exact y_std_e r_5_4 (by decide) h0 (y_itv (by omega) (by omega)) (y_full _) (y_full _)
theorem z_7 {x0 x1 x2 x3 : Int32} (h0 : x0 &&& 63 = Int32.ofNat 7) : ∃ d n, xlaw [x0, x1, x2, x3] d n = true := by
  have b1 := y_bd32 x1
  have b2 := y_bd32 x2
  have b3 := y_bd32 x3
  by_cases c1_0 : x1.toInt ≤ -1
  · exact y_std_e r_7_0 (by decide) h0 (y_itv (by omega) (by omega)) (y_full _) (y_full _)
  by_cases c1_1 : x1.toInt ≤ 3
  · by_cases c2_0 : x2.toInt ≤ -1
    · exact y_std_e r_7_1 (by decide) h0 (y_num (by omega) (by omega)) (y_itv (by omega) (by omega)) (y_full _)
    by_cases c2_1 : x2.toInt ≤ 3
    · by_cases c3_0 : x3.toInt ≤ -1
      · exact y_std_e r_7_2 (by decide) h0 (y_num (by omega) (by omega)) (y_num (by omega) (by omega)) (y_itv (by omega) (by omega))
      by_cases c3_1 : x3.toInt ≤ 100
      · exact y_std_e r_7_3 (by decide) h0 (y_num (by omega) (by omega)) (y_num (by omega) (by omega)) (y_itv (by omega) (by omega))
      exact y_std_e r_7_4 (by decide) h0 (y_num (by omega) (by omega)) (y_num (by omega) (by omega)) (y_itv (by omega) (by omega))
    exact y_std_e r_7_5 (by decide) h0 (y_num (by omega) (by omega)) (y_itv (by omega) (by omega)) (y_full _)
  exact y_std_e r_7_6 (by decide) h0 (y_itv (by omega) (by omega)) (y_full _) (y_full _)
theorem z_8 {x0 x1 x2 x3 : Int32} (h0 : x0 &&& 63 = Int32.ofNat 8) : ∃ d n, xlaw [x0, x1, x2, x3] d n = true := by
  have b1 := y_bd32 x1
  have b2 := y_bd32 x2
  have b3 := y_bd32 x3
  by_cases c1_0 : x1.toInt ≤ -1
  · exact y_std_e r_8_0 (by decide) h0 (y_itv (by omega) (by omega)) (y_full _) (y_full _)
  by_cases c1_1 : x1.toInt ≤ 100
  · exact y_std_e r_8_1 (by decide) h0 (y_itv (by omega) (by omega)) (y_full _) (y_full _)
  exact y_std_e r_8_2 (by decide) h0 (y_itv (by omega) (by omega)) (y_full _) (y_full _)
theorem z_9 {x0 x1 x2 x3 : Int32} (h0 : x0 &&& 63 = Int32.ofNat 9) : ∃ d n, xlaw [x0, x1, x2, x3] d n = true := by
  have b1 := y_bd32 x1
  have b2 := y_bd32 x2
  have b3 := y_bd32 x3
  by_cases c1_0 : x1.toInt ≤ -1
  · exact y_std_e r_9_0 (by decide) h0 (y_itv (by omega) (by omega)) (y_full _) (y_full _)
  by_cases c1_1 : x1.toInt ≤ 100
  · exact y_std_e r_9_1 (by decide) h0 (y_itv (by omega) (by omega)) (y_full _) (y_full _)
  exact y_std_e r_9_2 (by decide) h0 (y_itv (by omega) (by omega)) (y_full _) (y_full _)
theorem z_10 {x0 x1 x2 x3 : Int32} (h0 : x0 &&& 63 = Int32.ofNat 10) : ∃ d n, xlaw [x0, x1, x2, x3] d n = true := by
  have b1 := y_bd32 x1
  have b2 := y_bd32 x2
  have b3 := y_bd32 x3
  by_cases c1_0 : x1.toInt ≤ -1
  · exact y_std_e r_10_0 (by decide) h0 (y_itv (by omega) (by omega)) (y_full _) (y_full _)
  by_cases c1_1 : x1.toInt ≤ 11
  · by_cases c2_0 : x2.toInt ≤ -1
    · exact y_std_e r_10_1 (by decide) h0 (y_num (by omega) (by omega)) (y_itv (by omega) (by omega)) (y_full _)
    by_cases c2_1 : x2.toInt ≤ 3
    · exact y_std_e r_10_2 (by decide) h0 (y_num (by omega) (by omega)) (y_num (by omega) (by omega)) (y_full _)
    exact y_std_e r_10_3 (by decide) h0 (y_num (by omega) (by omega)) (y_itv (by omega) (by omega)) (y_full _)
  exact y_std_e r_10_4 (by decide) h0 (y_itv (by omega) (by omega)) (y_full _) (y_full _)
theorem z_11 {x0 x1 x2 x3 : Int32} (h0 : x0 &&& 63 = Int32.ofNat 11) : ∃ d n, xlaw [x0, x1, x2, x3] d n = true := by
  have b1 := y_bd32 x1
  have b2 := y_bd32 x2
  have b3 := y_bd32 x3
  by_cases c1_0 : x1.toInt ≤ -1
  · exact y_std_e r_11_0 (by decide) h0 (y_itv (by omega) (by omega)) (y_full _) (y_full _)
  by_cases c1_1 : x1.toInt ≤ 2
  · by_cases c2_0 : x2.toInt ≤ -1
    · exact y_std_e r_11_1 (by decide) h0 (y_num (by omega) (by omega)) (y_itv (by omega) (by omega)) (y_full _)
    by_cases c2_1 : x2.toInt ≤ 11
    · by_cases c3_0 : x3.toInt ≤ -1
      · exact y_std_e r_11_2 (by decide) h0 (y_num (by omega) (by omega)) (y_num (by omega) (by omega)) (y_itv (by omega) (by omega))
      by_cases c3_1 : x3.toInt ≤ 3
      · exact y_std_e r_11_3 (by decide) h0 (y_num (by omega) (by omega)) (y_num (by omega) (by omega)) (y_num (by omega) (by omega))
      exact y_std_e r_11_4 (by decide) h0 (y_num (by omega) (by omega)) (y_num (by omega) (by omega)) (y_itv (by omega) (by omega))
    exact y_std_e r_11_5 (by decide) h0 (y_num (by omega) (by omega)) (y_itv (by omega) (by omega)) (y_full _)
  by_cases c1_2 : x1.toInt ≤ 5
  · by_cases c2_0 : x2.toInt ≤ -1
    · exact y_std_e r_11_6 (by decide) h0 (y_num (by omega) (by omega)) (y_itv (by omega) (by omega)) (y_full _)
    by_cases c2_1 : x2.toInt ≤ 11
    · by_cases c3_0 : x3.toInt ≤ -1
      · exact y_std_e r_11_7 (by decide) h0 (y_num (by omega) (by omega)) (y_num (by omega) (by omega)) (y_itv (by omega) (by omega))
      by_cases c3_1 : x3.toInt ≤ 3
      · exact y_std_e r_11_8 (by decide) h0 (y_num (by omega) (by omega)) (y_num (by omega) (by omega)) (y_num (by omega) (by omega))
      exact y_std_e r_11_9 (by decide) h0 (y_num (by omega) (by omega)) (y_num (by omega) (by omega)) (y_itv (by omega) (by omega))
    exact y_std_e r_11_10 (by decide) h0 (y_num (by omega) (by omega)) (y_itv (by omega) (by omega)) (y_full _)
  by_cases c1_3 : x1.toInt ≤ 8
  · by_cases c2_0 : x2.toInt ≤ -1
    · exact y_std_e r_11_11 (by decide) h0 (y_num (by omega) (by omega)) (y_itv (by omega) (by omega)) (y_full _)
    by_cases c2_1 : x2.toInt ≤ 11
    · by_cases c3_0 : x3.toInt ≤ -1
      · exact y_std_e r_11_12 (by decide) h0 (y_num (by omega) (by omega)) (y_num (by omega) (by omega)) (y_itv (by omega) (by omega))
      by_cases c3_1 : x3.toInt ≤ 3
      · exact y_std_e r_11_13 (by decide) h0 (y_num (by omega) (by omega)) (y_num (by omega) (by omega)) (y_num (by omega) (by omega))
      exact y_std_e r_11_14 (by decide) h0 (y_num (by omega) (by omega)) (y_num (by omega) (by omega)) (y_itv (by omega) (by omega))
    exact y_std_e r_11_15 (by decide) h0 (y_num (by omega) (by omega)) (y_itv (by omega) (by omega)) (y_full _)
  by_cases c1_4 : x1.toInt ≤ 11
  · by_cases c2_0 : x2.toInt ≤ -1
    · exact y_std_e r_11_16 (by decide) h0 (y_num (by omega) (by omega)) (y_itv (by omega) (by omega)) (y_full _)
    by_cases c2_1 : x2.toInt ≤ 11
    · by_cases c3_0 : x3.toInt ≤ -1
      · exact y_std_e r_11_17 (by decide) h0 (y_num (by omega) (by omega)) (y_num (by omega) (by omega)) (y_itv (by omega) (by omega))
      by_cases c3_1 : x3.toInt ≤ 3
      · exact y_std_e r_11_18 (by decide) h0 (y_num (by omega) (by omega)) (y_num (by omega) (by omega)) (y_num (by omega) (by omega))
      exact y_std_e r_11_19 (by decide) h0 (y_num (by omega) (by omega)) (y_num (by omega) (by omega)) (y_itv (by omega) (by omega))
    exact y_std_e r_11_20 (by decide) h0 (y_num (by omega) (by omega)) (y_itv (by omega) (by omega)) (y_full _)
  exact y_std_e r_11_21 (by decide) h0 (y_itv (by omega) (by omega)) (y_full _) (y_full _)
theorem z_12 {x0 x1 x2 x3 : Int32} (h0 : x0 &&& 63 = Int32.ofNat 12) : ∃ d n, xlaw [x0, x1, x2, x3] d n = true := by
  have b1 := y_bd32 x1
  have b2 := y_bd32 x2
  have b3 := y_bd32 x3
  by_cases c1_0 : x1.toInt ≤ -2
  · exact y_std_e r_12_0 (by decide) h0 (y_itv (by omega) (by omega)) (y_full _) (y_full _)
  by_cases c1_1 : x1.toInt ≤ -1
  · exact y_std_e r_12_1 (by decide) h0 (y_itv (by omega) (by omega)) (y_full _) (y_full _)
  by_cases c1_2 : x1.toInt ≤ 13
  · exact y_std_e r_12_2 (by decide) h0 (y_num (by omega) (by omega)) (y_full _) (y_full _)
  exact y_std_e r_12_3 (by decide) h0 (y_itv (by omega) (by omega)) (y_full _) (y_full _)
theorem z_13 {x0 x1 x2 x3 : Int32} (h0 : x0 &&& 63 = Int32.ofNat 13) : ∃ d n, xlaw [x0, x1, x2, x3] d n = true := by
  have b1 := y_bd32 x1
  have b2 := y_bd32 x2
  have b3 := y_bd32 x3
  exact y_std_e r_13_0 (by decide) h0 (y_full _) (y_full _) (y_full _)
theorem z_14 {x0 x1 x2 x3 : Int32} (h0 : x0 &&& 63 = Int32.ofNat 14) : ∃ d n, xlaw [x0, x1, x2, x3] d n = true := by
  have b1 := y_bd32 x1
  have b2 := y_bd32 x2
  have b3 := y_bd32 x3
  by_cases c1_0 : x1.toInt ≤ -1
  · exact y_std_e r_14_0 (by decide) h0 (y_itv (by omega) (by omega)) (y_full _) (y_full _)
  by_cases c1_1 : x1.toInt ≤ 11
  · exact y_std_e r_14_1 (by decide) h0 (y_num (by omega) (by omega)) (y_full _) (y_full _)
  exact y_std_e r_14_2 (by decide) h0 (y_itv (by omega) (by omega)) (y_full _) (y_full _)
theorem z_15 {x0 x1 x2 x3 : Int32} (h0 : x0 &&& 63 = Int32.ofNat 15) : ∃ d n, xlaw [x0, x1, x2, x3] d n = true := by
  have b1 := y_bd32 x1
  have b2 := y_bd32 x2
  have b3 := y_bd32 x3
  by_cases c1_0 : x1.toInt ≤ -1
  · exact y_std_e r_15_0 (by decide) h0 (y_itv (by omega) (by omega)) (y_full _) (y_full _)
  by_cases c1_1 : x1.toInt ≤ 1
  · exact y_std_e r_15_1 (by decide) h0 (y_num (by omega) (by omega)) (y_full _) (y_full _)
  by_cases c1_2 : x1.toInt ≤ 3
  · exact y_std_e r_15_2 (by decide) h0 (y_num (by omega) (by omega)) (y_full _) (y_full _)
  exact y_std_e r_15_3 (by decide) h0 (y_itv (by omega) (by omega)) (y_full _) (y_full _)
theorem z_16 {x0 x1 x2 x3 : Int32} (h0 : x0 &&& 63 = Int32.ofNat 16) : ∃ d n, xlaw [x0, x1, x2, x3] d n = true := by
  have b1 := y_bd32 x1
  have b2 := y_bd32 x2
  have b3 := y_bd32 x3
  by_cases c1_0 : x1.toInt ≤ -1
  · exact y_std_e r_16_0 (by decide) h0 (y_itv (by omega) (by omega)) (y_full _) (y_full _)
  by_cases c1_1 : x1.toInt ≤ 3
  · exact y_std_e r_16_1 (by decide) h0 (y_num (by omega) (by omega)) (y_full _) (y_full _)
  exact y_std_e r_16_2 (by decide) h0 (y_itv (by omega) (by omega)) (y_full _) (y_full _)
theorem z_17 {x0 x1 x2 x3 : Int32} (h0 : x0 &&& 63 = Int32.ofNat 17) : ∃ d n, xlaw [x0, x1, x2, x3] d n = true := by
  have b1 := y_bd32 x1
  have b2 := y_bd32 x2
  have b3 := y_bd32 x3
  by_cases c1_0 : x1.toInt ≤ -1
  · exact y_std_e r_17_0 (by decide) h0 (y_itv (by omega) (by omega)) (y_full _) (y_full _)
  by_cases c1_1 : x1.toInt ≤ 11
  · exact y_std_e r_17_1 (by decide) h0 (y_num (by omega) (by omega)) (y_full _) (y_full _)
  exact y_std_e r_17_2 (by decide) h0 (y_itv (by omega) (by omega)) (y_full _) (y_full _)
theorem z_18 {x0 x1 x2 x3 : Int32} (h0 : x0 &&& 63 = Int32.ofNat 18) : ∃ d n, xlaw [x0, x1, x2, x3] d n = true := by
  have b1 := y_bd32 x1
  have b2 := y_bd32 x2
  have b3 := y_bd32 x3
  by_cases c1_0 : x1.toInt ≤ -1
  · exact y_std_e r_18_0 (by decide) h0 (y_itv (by omega) (by omega)) (y_full _) (y_full _)
  by_cases c1_1 : x1.toInt ≤ 11
  · exact y_std_e r_18_1 (by decide) h0 (y_num (by omega) (by omega)) (y_full _) (y_full _)
  exact y_std_e r_18_2 (by decide) h0 (y_itv (by omega) (by omega)) (y_full _) (y_full _)
theorem z_19 {x0 x1 x2 x3 : Int32} (h0 : x0 &&& 63 = Int32.ofNat 19) : ∃ d n, xlaw [x0, x1, x2, x3] d n = true := by
  have b1 := y_bd32 x1
  have b2 := y_bd32 x2
  have b3 := y_bd32 x3
  by_cases c1_0 : x1.toInt ≤ 0
  · exact y_std_e r_19_0 (by decide) h0 (y_itv (by omega) (by omega)) (y_full _) (y_full _)
  by_cases c1_1 : x1.toInt ≤ 40
  · exact y_std_e r_19_1 (by decide) h0 (y_num (by omega) (by omega)) (y_full _) (y_full _)
  by_cases c1_2 : x1.toInt ≤ 60
  · exact y_std_e r_19_2 (by decide) h0 (y_num (by omega) (by omega)) (y_full _) (y_full _)
  by_cases c1_3 : x1.toInt ≤ 70
  · exact y_std_e r_19_3 (by decide) h0 (y_num (by omega) (by omega)) (y_full _) (y_full _)
  by_cases c1_4 : x1.toInt ≤ 80
  · exact y_std_e r_19_4 (by decide) h0 (y_num (by omega) (by omega)) (y_full _) (y_full _)
  by_cases c1_5 : x1.toInt ≤ 88
  · exact y_std_e r_19_5 (by decide) h0 (y_num (by omega) (by omega)) (y_full _) (y_full _)
  by_cases c1_6 : x1.toInt ≤ 94
  · exact y_std_e r_19_6 (by decide) h0 (y_num (by omega) (by omega)) (y_full _) (y_full _)
  by_cases c1_7 : x1.toInt ≤ 100
  · exact y_std_e r_19_7 (by decide) h0 (y_num (by omega) (by omega)) (y_full _) (y_full _)
  exact y_std_e r_19_8 (by decide) h0 (y_itv (by omega) (by omega)) (y_full _) (y_full _)
theorem z_20 {x0 x1 x2 x3 : Int32} (h0 : x0 &&& 63 = Int32.ofNat 20) : ∃ d n, xlaw [x0, x1, x2, x3] d n = true := by
  have b1 := y_bd32 x1
  have b2 := y_bd32 x2
  have b3 := y_bd32 x3
  exact y_std_e r_20_0 (by decide) h0 (y_full _) (y_full _) (y_full _)
theorem z_21 {x0 x1 x2 x3 : Int32} (h0 : x0 &&& 63 = Int32.ofNat 21) : ∃ d n, xlaw [x0, x1, x2, x3] d n = true := by
  have b1 := y_bd32 x1
  have b2 := y_bd32 x2
  have b3 := y_bd32 x3
  exact y_std_e r_21_0 (by decide) h0 (y_full _) (y_full _) (y_full _)
theorem z_22 {x0 x1 x2 x3 : Int32} (h0 : x0 &&& 63 = Int32.ofNat 22) : ∃ d n, xlaw [x0, x1, x2, x3] d n = true := by
  have b1 := y_bd32 x1
  have b2 := y_bd32 x2
  have b3 := y_bd32 x3
  exact y_std_e r_22_0 (by decide) h0 (y_full _) (y_full _) (y_full _)
theorem z_23 {x0 x1 x2 x3 : Int32} (h0 : x0 &&& 63 = Int32.ofNat 23) : ∃ d n, xlaw [x0, x1, x2, x3] d n = true := by
  have b1 := y_bd32 x1
  have b2 := y_bd32 x2
  have b3 := y_bd32 x3
  by_cases c1_0 : x1.toInt ≤ -1
  · exact y_std_e r_23_0 (by decide) h0 (y_itv (by omega) (by omega)) (y_full _) (y_full _)
  by_cases c1_1 : x1.toInt ≤ 2
  · exact y_std_e r_23_1 (by decide) h0 (y_num (by omega) (by omega)) (y_full _) (y_full _)
  exact y_std_e r_23_2 (by decide) h0 (y_itv (by omega) (by omega)) (y_full _) (y_full _)
theorem z_24 {x0 x1 x2 x3 : Int32} (h0 : x0 &&& 63 = Int32.ofNat 24) : ∃ d n, xlaw [x0, x1, x2, x3] d n = true := by
  have b1 := y_bd32 x1
  have b2 := y_bd32 x2
  have b3 := y_bd32 x3
  by_cases c1_0 : x1.toInt ≤ -1
  · exact y_std_e r_24_0 (by decide) h0 (y_itv (by omega) (by omega)) (y_full _) (y_full _)
  exact y_std_e r_24_1 (by decide) h0 (y_itv (by omega) (by omega)) (y_full _) (y_full _)
theorem z_25 {x0 x1 x2 x3 : Int32} (h0 : x0 &&& 63 = Int32.ofNat 25) : ∃ d n, xlaw [x0, x1, x2, x3] d n = true := by
  have b1 := y_bd32 x1
  have b2 := y_bd32 x2
  have b3 := y_bd32 x3
  by_cases c1_0 : x1.toInt ≤ -1
  · exact y_std_e r_25_0 (by decide) h0 (y_itv (by omega) (by omega)) (y_full _) (y_full _)
  by_cases c1_1 : x1.toInt ≤ 11
  · exact y_std_e r_25_1 (by decide) h0 (y_num (by omega) (by omega)) (y_full _) (y_full _)
  exact y_std_e r_25_2 (by decide) h0 (y_itv (by omega) (by omega)) (y_full _) (y_full _)
theorem z_26 {x0 x1 x2 x3 : Int32} (h0 : x0 &&& 63 = Int32.ofNat 26) : ∃ d n, xlaw [x0, x1, x2, x3] d n = true := by
  have b1 := y_bd32 x1
  have b2 := y_bd32 x2
  have b3 := y_bd32 x3
  exact y_std_e r_26_0 (by decide) h0 (y_full _) (y_full _) (y_full _)
theorem z_27 {x0 x1 x2 x3 : Int32} (h0 : x0 &&& 63 = Int32.ofNat 27) : ∃ d n, xlaw [x0, x1, x2, x3] d n = true := by
  have b1 := y_bd32 x1
  have b2 := y_bd32 x2
  have b3 := y_bd32 x3
  by_cases c1_0 : x1.toInt ≤ -1
  · exact y_std_e r_27_0 (by decide) h0 (y_itv (by omega) (by omega)) (y_full _) (y_full _)
  by_cases c1_1 : x1.toInt ≤ 0
  · exact y_std_e r_27_1 (by decide) h0 (y_num (by omega) (by omega)) (y_full _) (y_full _)
  exact y_std_e r_27_2 (by decide) h0 (y_itv (by omega) (by omega)) (y_full _) (y_full _)
theorem z_28 {x0 x1 x2 x3 : Int32} (h0 : x0 &&& 63 = Int32.ofNat 28) : ∃ d n, xlaw [x0, x1, x2, x3] d n = true := by
  have b1 := y_bd32 x1
  have b2 := y_bd32 x2
  have b3 := y_bd32 x3
  exact y_std_e r_28_0 (by decide) h0 (y_full _) (y_full _) (y_full _)
theorem z_29 {x0 x1 x2 x3 : Int32} (h0 : x0 &&& 63 = Int32.ofNat 29) : ∃ d n, xlaw [x0, x1, x2, x3] d n = true := by
  have b1 := y_bd32 x1
  have b2 := y_bd32 x2
  have b3 := y_bd32 x3
  by_cases c1_0 : x1.toInt ≤ -1
  · exact y_std_e r_29_0 (by decide) h0 (y_itv (by omega) (by omega)) (y_full _) (y_full _)
  by_cases c1_1 : x1.toInt ≤ 0
  · by_cases c2_0 : x2.toInt ≤ -1
    · exact y_std_e r_29_1 (by decide) h0 (y_num (by omega) (by omega)) (y_itv (by omega) (by omega)) (y_full _)
    by_cases c2_1 : x2.toInt ≤ 5
    · exact y_std_e r_29_2 (by decide) h0 (y_num (by omega) (by omega)) (y_num (by omega) (by omega)) (y_full _)
    by_cases c2_2 : x2.toInt ≤ 11
    · exact y_std_e r_29_3 (by decide) h0 (y_num (by omega) (by omega)) (y_num (by omega) (by omega)) (y_full _)
    exact y_std_e r_29_4 (by decide) h0 (y_num (by omega) (by omega)) (y_itv (by omega) (by omega)) (y_full _)
  by_cases c1_2 : x1.toInt ≤ 1
  · by_cases c2_0 : x2.toInt ≤ -1
    · exact y_std_e r_29_5 (by decide) h0 (y_num (by omega) (by omega)) (y_itv (by omega) (by omega)) (y_full _)
    by_cases c2_1 : x2.toInt ≤ 5
    · exact y_std_e r_29_6 (by decide) h0 (y_num (by omega) (by omega)) (y_num (by omega) (by omega)) (y_full _)
    by_cases c2_2 : x2.toInt ≤ 11
    · exact y_std_e r_29_7 (by decide) h0 (y_num (by omega) (by omega)) (y_num (by omega) (by omega)) (y_full _)
    exact y_std_e r_29_8 (by decide) h0 (y_num (by omega) (by omega)) (y_itv (by omega) (by omega)) (y_full _)
  by_cases c1_3 : x1.toInt ≤ 2
  · by_cases c2_0 : x2.toInt ≤ -1
    · exact y_std_e r_29_9 (by decide) h0 (y_num (by omega) (by omega)) (y_itv (by omega) (by omega)) (y_full _)
    by_cases c2_1 : x2.toInt ≤ 5
    · exact y_std_e r_29_10 (by decide) h0 (y_num (by omega) (by omega)) (y_num (by omega) (by omega)) (y_full _)
    by_cases c2_2 : x2.toInt ≤ 11
    · exact y_std_e r_29_11 (by decide) h0 (y_num (by omega) (by omega)) (y_num (by omega) (by omega)) (y_full _)
    exact y_std_e r_29_12 (by decide) h0 (y_num (by omega) (by omega)) (y_itv (by omega) (by omega)) (y_full _)
  by_cases c1_4 : x1.toInt ≤ 3
  · by_cases c2_0 : x2.toInt ≤ -1
    · exact y_std_e r_29_13 (by decide) h0 (y_num (by omega) (by omega)) (y_itv (by omega) (by omega)) (y_full _)
    by_cases c2_1 : x2.toInt ≤ 5
    · exact y_std_e r_29_14 (by decide) h0 (y_num (by omega) (by omega)) (y_num (by omega) (by omega)) (y_full _)
    by_cases c2_2 : x2.toInt ≤ 11
    · exact y_std_e r_29_15 (by decide) h0 (y_num (by omega) (by omega)) (y_num (by omega) (by omega)) (y_full _)
    exact y_std_e r_29_16 (by decide) h0 (y_num (by omega) (by omega)) (y_itv (by omega) (by omega)) (y_full _)
  by_cases c1_5 : x1.toInt ≤ 4
  · by_cases c2_0 : x2.toInt ≤ -1
    · exact y_std_e r_29_17 (by decide) h0 (y_num (by omega) (by omega)) (y_itv (by omega) (by omega)) (y_full _)
    by_cases c2_1 : x2.toInt ≤ 5
    · exact y_std_e r_29_18 (by decide) h0 (y_num (by omega) (by omega)) (y_num (by omega) (by omega)) (y_full _)
    by_cases c2_2 : x2.toInt ≤ 11
    · exact y_std_e r_29_19 (by decide) h0 (y_num (by omega) (by omega)) (y_num (by omega) (by omega)) (y_full _)
    exact y_std_e r_29_20 (by decide) h0 (y_num (by omega) (by omega)) (y_itv (by omega) (by omega)) (y_full _)
  by_cases c1_6 : x1.toInt ≤ 5
  · by_cases c2_0 : x2.toInt ≤ -1
    · exact y_std_e r_29_21 (by decide) h0 (y_num (by omega) (by omega)) (y_itv (by omega) (by omega)) (y_full _)
    by_cases c2_1 : x2.toInt ≤ 5
    · exact y_std_e r_29_22 (by decide) h0 (y_num (by omega) (by omega)) (y_num (by omega) (by omega)) (y_full _)
    by_cases c2_2 : x2.toInt ≤ 11
    · exact y_std_e r_29_23 (by decide) h0 (y_num (by omega) (by omega)) (y_num (by omega) (by omega)) (y_full _)
    exact y_std_e r_29_24 (by decide) h0 (y_num (by omega) (by omega)) (y_itv (by omega) (by omega)) (y_full _)
  by_cases c1_7 : x1.toInt ≤ 6
  · by_cases c2_0 : x2.toInt ≤ -1
    · exact y_std_e r_29_25 (by decide) h0 (y_num (by omega) (by omega)) (y_itv (by omega) (by omega)) (y_full _)
    by_cases c2_1 : x2.toInt ≤ 5
    · exact y_std_e r_29_26 (by decide) h0 (y_num (by omega) (by omega)) (y_num (by omega) (by omega)) (y_full _)
    by_cases c2_2 : x2.toInt ≤ 11
    · exact y_std_e r_29_27 (by decide) h0 (y_num (by omega) (by omega)) (y_num (by omega) (by omega)) (y_full _)
    exact y_std_e r_29_28 (by decide) h0 (y_num (by omega) (by omega)) (y_itv (by omega) (by omega)) (y_full _)
  by_cases c1_8 : x1.toInt ≤ 7
  · by_cases c2_0 : x2.toInt ≤ -1
    · exact y_std_e r_29_29 (by decide) h0 (y_num (by omega) (by omega)) (y_itv (by omega) (by omega)) (y_full _)
    by_cases c2_1 : x2.toInt ≤ 5
    · exact y_std_e r_29_30 (by decide) h0 (y_num (by omega) (by omega)) (y_num (by omega) (by omega)) (y_full _)
    by_cases c2_2 : x2.toInt ≤ 11
    · exact y_std_e r_29_31 (by decide) h0 (y_num (by omega) (by omega)) (y_num (by omega) (by omega)) (y_full _)
    exact y_std_e r_29_32 (by decide) h0 (y_num (by omega) (by omega)) (y_itv (by omega) (by omega)) (y_full _)
  by_cases c1_9 : x1.toInt ≤ 8
  · by_cases c2_0 : x2.toInt ≤ -1
    · exact y_std_e r_29_33 (by decide) h0 (y_num (by omega) (by omega)) (y_itv (by omega) (by omega)) (y_full _)
    by_cases c2_1 : x2.toInt ≤ 5
    · exact y_std_e r_29_34 (by decide) h0 (y_num (by omega) (by omega)) (y_num (by omega) (by omega)) (y_full _)
    by_cases c2_2 : x2.toInt ≤ 11
    · exact y_std_e r_29_35 (by decide) h0 (y_num (by omega) (by omega)) (y_num (by omega) (by omega)) (y_full _)
    exact y_std_e r_29_36 (by decide) h0 (y_num (by omega) (by omega)) (y_itv (by omega) (by omega)) (y_full _)
  by_cases c1_10 : x1.toInt ≤ 9
  · by_cases c2_0 : x2.toInt ≤ -1
    · exact y_std_e r_29_37 (by decide) h0 (y_num (by omega) (by omega)) (y_itv (by omega) (by omega)) (y_full _)
    by_cases c2_1 : x2.toInt ≤ 5
    · exact y_std_e r_29_38 (by decide) h0 (y_num (by omega) (by omega)) (y_num (by omega) (by omega)) (y_full _)
    by_cases c2_2 : x2.toInt ≤ 11
    · exact y_std_e r_29_39 (by decide) h0 (y_num (by omega) (by omega)) (y_num (by omega) (by omega)) (y_full _)
    exact y_std_e r_29_40 (by decide) h0 (y_num (by omega) (by omega)) (y_itv (by omega) (by omega)) (y_full _)
  by_cases c1_11 : x1.toInt ≤ 10
  · by_cases c2_0 : x2.toInt ≤ -1
    · exact y_std_e r_29_41 (by decide) h0 (y_num (by omega) (by omega)) (y_itv (by omega) (by omega)) (y_full _)
    by_cases c2_1 : x2.toInt ≤ 5
    · exact y_std_e r_29_42 (by decide) h0 (y_num (by omega) (by omega)) (y_num (by omega) (by omega)) (y_full _)
    by_cases c2_2 : x2.toInt ≤ 11
    · exact y_std_e r_29_43 (by decide) h0 (y_num (by omega) (by omega)) (y_num (by omega) (by omega)) (y_full _)
    exact y_std_e r_29_44 (by decide) h0 (y_num (by omega) (by omega)) (y_itv (by omega) (by omega)) (y_full _)
  by_cases c1_12 : x1.toInt ≤ 11
  · by_cases c2_0 : x2.toInt ≤ -1
    · exact y_std_e r_29_45 (by decide) h0 (y_num (by omega) (by omega)) (y_itv (by omega) (by omega)) (y_full _)
    by_cases c2_1 : x2.toInt ≤ 5
    · exact y_std_e r_29_46 (by decide) h0 (y_num (by omega) (by omega)) (y_num (by omega) (by omega)) (y_full _)
    by_cases c2_2 : x2.toInt ≤ 11
    · exact y_std_e r_29_47 (by decide) h0 (y_num (by omega) (by omega)) (y_num (by omega) (by omega)) (y_full _)
    exact y_std_e r_29_48 (by decide) h0 (y_num (by omega) (by omega)) (y_itv (by omega) (by omega)) (y_full _)
  exact y_std_e r_29_49 (by decide) h0 (y_itv (by omega) (by omega)) (y_full _) (y_full _)
theorem z_30 {x0 x1 x2 x3 : Int32} (h0 : x0 &&& 63 = Int32.ofNat 30) : ∃ d n, xlaw [x0, x1, x2, x3] d n = true := by
  have b1 := y_bd32 x1
  have b2 := y_bd32 x2
  have b3 := y_bd32 x3
  by_cases c1_0 : x1.toInt ≤ -1
  · exact y_std_e r_30_0 (by decide) h0 (y_itv (by omega) (by omega)) (y_full _) (y_full _)
  by_cases c1_1 : x1.toInt ≤ 0
  · by_cases c2_0 : x2.toInt ≤ -1
    · exact y_std_e r_30_1 (by decide) h0 (y_num (by omega) (by omega)) (y_itv (by omega) (by omega)) (y_full _)
    by_cases c2_1 : x2.toInt ≤ 5
    · exact y_std_e r_30_2 (by decide) h0 (y_num (by omega) (by omega)) (y_num (by omega) (by omega)) (y_full _)
    by_cases c2_2 : x2.toInt ≤ 11
    · exact y_std_e r_30_3 (by decide) h0 (y_num (by omega) (by omega)) (y_num (by omega) (by omega)) (y_full _)
    exact y_std_e r_30_4 (by decide) h0 (y_num (by omega) (by omega)) (y_itv (by omega) (by omega)) (y_full _)
  by_cases c1_2 : x1.toInt ≤ 1
  · by_cases c2_0 : x2.toInt ≤ -1
    · exact y_std_e r_30_5 (by decide) h0 (y_num (by omega) (by omega)) (y_itv (by omega) (by omega)) (y_full _)
    by_cases c2_1 : x2.toInt ≤ 5
    · exact y_std_e r_30_6 (by decide) h0 (y_num (by omega) (by omega)) (y_num (by omega) (by omega)) (y_full _)
    by_cases c2_2 : x2.toInt ≤ 11
    · exact y_std_e r_30_7 (by decide) h0 (y_num (by omega) (by omega)) (y_num (by omega) (by omega)) (y_full _)
    exact y_std_e r_30_8 (by decide) h0 (y_num (by omega) (by omega)) (y_itv (by omega) (by omega)) (y_full _)
  by_cases c1_3 : x1.toInt ≤ 2
  · by_cases c2_0 : x2.toInt ≤ -1
    · exact y_std_e r_30_9 (by decide) h0 (y_num (by omega) (by omega)) (y_itv (by omega) (by omega)) (y_full _)
    by_cases c2_1 : x2.toInt ≤ 5
    · exact y_std_e r_30_10 (by decide) h0 (y_num (by omega) (by omega)) (y_num (by omega) (by omega)) (y_full _)
    by_cases c2_2 : x2.toInt ≤ 11
    · exact y_std_e r_30_11 (by decide) h0 (y_num (by omega) (by omega)) (y_num (by omega) (by omega)) (y_full _)
    exact y_std_e r_30_12 (by decide) h0 (y_num (by omega) (by omega)) (y_itv (by omega) (by omega)) (y_full _)
  by_cases c1_4 : x1.toInt ≤ 3
  · by_cases c2_0 : x2.toInt ≤ -1
    · exact y_std_e r_30_13 (by decide) h0 (y_num (by omega) (by omega)) (y_itv (by omega) (by omega)) (y_full _)
    by_cases c2_1 : x2.toInt ≤ 5
    · exact y_std_e r_30_14 (by decide) h0 (y_num (by omega) (by omega)) (y_num (by omega) (by omega)) (y_full _)
    by_cases c2_2 : x2.toInt ≤ 11
    · exact y_std_e r_30_15 (by decide) h0 (y_num (by omega) (by omega)) (y_num (by omega) (by omega)) (y_full _)
    exact y_std_e r_30_16 (by decide) h0 (y_num (by omega) (by omega)) (y_itv (by omega) (by omega)) (y_full _)
  by_cases c1_5 : x1.toInt ≤ 4
  · by_cases c2_0 : x2.toInt ≤ -1
    · exact y_std_e r_30_17 (by decide) h0 (y_num (by omega) (by omega)) (y_itv (by omega) (by omega)) (y_full _)
    by_cases c2_1 : x2.toInt ≤ 5
    · exact y_std_e r_30_18 (by decide) h0 (y_num (by omega) (by omega)) (y_num (by omega) (by omega)) (y_full _)
    by_cases c2_2 : x2.toInt ≤ 11
    · exact y_std_e r_30_19 (by decide) h0 (y_num (by omega) (by omega)) (y_num (by omega) (by omega)) (y_full _)
    exact y_std_e r_30_20 (by decide) h0 (y_num (by omega) (by omega)) (y_itv (by omega) (by omega)) (y_full _)
  by_cases c1_6 : x1.toInt ≤ 5
  · by_cases c2_0 : x2.toInt ≤ -1
    · exact y_std_e r_30_21 (by decide) h0 (y_num (by omega) (by omega)) (y_itv (by omega) (by omega)) (y_full _)
    by_cases c2_1 : x2.toInt ≤ 5
    · exact y_std_e r_30_22 (by decide) h0 (y_num (by omega) (by omega)) (y_num (by omega) (by omega)) (y_full _)
    by_cases c2_2 : x2.toInt ≤ 11
    · exact y_std_e r_30_23 (by decide) h0 (y_num (by omega) (by omega)) (y_num (by omega) (by omega)) (y_full _)
    exact y_std_e r_30_24 (by decide) h0 (y_num (by omega) (by omega)) (y_itv (by omega) (by omega)) (y_full _)
  by_cases c1_7 : x1.toInt ≤ 6
  · by_cases c2_0 : x2.toInt ≤ -1
    · exact y_std_e r_30_25 (by decide) h0 (y_num (by omega) (by omega)) (y_itv (by omega) (by omega)) (y_full _)
    by_cases c2_1 : x2.toInt ≤ 5
    · exact y_std_e r_30_26 (by decide) h0 (y_num (by omega) (by omega)) (y_num (by omega) (by omega)) (y_full _)
    by_cases c2_2 : x2.toInt ≤ 11
    · exact y_std_e r_30_27 (by decide) h0 (y_num (by omega) (by omega)) (y_num (by omega) (by omega)) (y_full _)
    exact y_std_e r_30_28 (by decide) h0 (y_num (by omega) (by omega)) (y_itv (by omega) (by omega)) (y_full _)
  by_cases c1_8 : x1.toInt ≤ 7
  · by_cases c2_0 : x2.toInt ≤ -1
    · exact y_std_e r_30_29 (by decide) h0 (y_num (by omega) (by omega)) (y_itv (by omega) (by omega)) (y_full _)
    by_cases c2_1 : x2.toInt ≤ 5
    · exact y_std_e r_30_30 (by decide) h0 (y_num (by omega) (by omega)) (y_num (by omega) (by omega)) (y_full _)
    by_cases c2_2 : x2.toInt ≤ 11
    · exact y_std_e r_30_31 (by decide) h0 (y_num (by omega) (by omega)) (y_num (by omega) (by omega)) (y_full _)
    exact y_std_e r_30_32 (by decide) h0 (y_num (by omega) (by omega)) (y_itv (by omega) (by omega)) (y_full _)
  by_cases c1_9 : x1.toInt ≤ 8
  · by_cases c2_0 : x2.toInt ≤ -1
    · exact y_std_e r_30_33 (by decide) h0 (y_num (by omega) (by omega)) (y_itv (by omega) (by omega)) (y_full _)
    by_cases c2_1 : x2.toInt ≤ 5
    · exact y_std_e r_30_34 (by decide) h0 (y_num (by omega) (by omega)) (y_num (by omega) (by omega)) (y_full _)
    by_cases c2_2 : x2.toInt ≤ 11
    · exact y_std_e r_30_35 (by decide) h0 (y_num (by omega) (by omega)) (y_num (by omega) (by omega)) (y_full _)
    exact y_std_e r_30_36 (by decide) h0 (y_num (by omega) (by omega)) (y_itv (by omega) (by omega)) (y_full _)
  by_cases c1_10 : x1.toInt ≤ 9
  · by_cases c2_0 : x2.toInt ≤ -1
    · exact y_std_e r_30_37 (by decide) h0 (y_num (by omega) (by omega)) (y_itv (by omega) (by omega)) (y_full _)
    by_cases c2_1 : x2.toInt ≤ 5
    · exact y_std_e r_30_38 (by decide) h0 (y_num (by omega) (by omega)) (y_num (by omega) (by omega)) (y_full _)
    by_cases c2_2 : x2.toInt ≤ 11
    · exact y_std_e r_30_39 (by decide) h0 (y_num (by omega) (by omega)) (y_num (by omega) (by omega)) (y_full _)
    exact y_std_e r_30_40 (by decide) h0 (y_num (by omega) (by omega)) (y_itv (by omega) (by omega)) (y_full _)
  by_cases c1_11 : x1.toInt ≤ 10
  · by_cases c2_0 : x2.toInt ≤ -1
    · exact y_std_e r_30_41 (by decide) h0 (y_num (by omega) (by omega)) (y_itv (by omega) (by omega)) (y_full _)
    by_cases c2_1 : x2.toInt ≤ 5
    · exact y_std_e r_30_42 (by decide) h0 (y_num (by omega) (by omega)) (y_num (by omega) (by omega)) (y_full _)
    by_cases c2_2 : x2.toInt ≤ 11
    · exact y_std_e r_30_43 (by decide) h0 (y_num (by omega) (by omega)) (y_num (by omega) (by omega)) (y_full _)
    exact y_std_e r_30_44 (by decide) h0 (y_num (by omega) (by omega)) (y_itv (by omega) (by omega)) (y_full _)
  by_cases c1_12 : x1.toInt ≤ 11
  · by_cases c2_0 : x2.toInt ≤ -1
    · exact y_std_e r_30_45 (by decide) h0 (y_num (by omega) (by omega)) (y_itv (by omega) (by omega)) (y_full _)
    by_cases c2_1 : x2.toInt ≤ 5
    · exact y_std_e r_30_46 (by decide) h0 (y_num (by omega) (by omega)) (y_num (by omega) (by omega)) (y_full _)
    by_cases c2_2 : x2.toInt ≤ 11
    · exact y_std_e r_30_47 (by decide) h0 (y_num (by omega) (by omega)) (y_num (by omega) (by omega)) (y_full _)
    exact y_std_e r_30_48 (by decide) h0 (y_num (by omega) (by omega)) (y_itv (by omega) (by omega)) (y_full _)
  exact y_std_e r_30_49 (by decide) h0 (y_itv (by omega) (by omega)) (y_full _) (y_full _)
theorem z_31 {x0 x1 x2 x3 : Int32} (h0 : x0 &&& 63 = Int32.ofNat 31) : ∃ d n, xlaw [x0, x1, x2, x3] d n = true := by
  have b1 := y_bd32 x1
  have b2 := y_bd32 x2
  have b3 := y_bd32 x3
  by_cases c1_0 : x1.toInt ≤ -1
  · exact y_std_e r_31_0 (by decide) h0 (y_itv (by omega) (by omega)) (y_full _) (y_full _)
  by_cases c1_1 : x1.toInt ≤ 3
  · exact y_std_e r_31_1 (by decide) h0 (y_num (by omega) (by omega)) (y_full _) (y_full _)
  by_cases c1_2 : x1.toInt ≤ 7
  · exact y_std_e r_31_2 (by decide) h0 (y_num (by omega) (by omega)) (y_full _) (y_full _)
  by_cases c1_3 : x1.toInt ≤ 11
  · exact y_std_e r_31_3 (by decide) h0 (y_num (by omega) (by omega)) (y_full _) (y_full _)
  exact y_std_e r_31_4 (by decide) h0 (y_itv (by omega) (by omega)) (y_full _) (y_full _)
theorem z_32 {x0 x1 x2 x3 : Int32} (h0 : x0 &&& 63 = Int32.ofNat 32) : ∃ d n, xlaw [x0, x1, x2, x3] d n = true := by
  have b1 := y_bd32 x1
  have b2 := y_bd32 x2
  have b3 := y_bd32 x3
  exact y_std_e r_32_0 (by decide) h0 (y_full _) (y_full _) (y_full _)
theorem z_33 {x0 x1 x2 x3 : Int32} (h0 : x0 &&& 63 = Int32.ofNat 33) : ∃ d n, xlaw [x0, x1, x2, x3] d n = true := by
  have b1 := y_bd32 x1
  have b2 := y_bd32 x2
  have b3 := y_bd32 x3
  by_cases c1_0 : x1.toInt ≤ -1
  · exact y_std_e r_33_0 (by decide) h0 (y_itv (by omega) (by omega)) (y_full _) (y_full _)
  by_cases c1_1 : x1.toInt ≤ 1
  · exact y_std_e r_33_1 (by decide) h0 (y_num (by omega) (by omega)) (y_full _) (y_full _)
  by_cases c1_2 : x1.toInt ≤ 3
  · exact y_std_e r_33_2 (by decide) h0 (y_num (by omega) (by omega)) (y_full _) (y_full _)
  exact y_std_e r_33_3 (by decide) h0 (y_itv (by omega) (by omega)) (y_full _) (y_full _)
theorem z_34 {x0 x1 x2 x3 : Int32} (h0 : x0 &&& 63 = Int32.ofNat 34) : ∃ d n, xlaw [x0, x1, x2, x3] d n = true := by
  have b1 := y_bd32 x1
  have b2 := y_bd32 x2
  have b3 := y_bd32 x3
  exact y_std_e r_34_0 (by decide) h0 (y_full _) (y_full _) (y_full _)
theorem z_35 {x0 x1 x2 x3 : Int32} (h0 : x0 &&& 63 = Int32.ofNat 35) : ∃ d n, xlaw [x0, x1, x2, x3] d n = true := by
  have b1 := y_bd32 x1
  have b2 := y_bd32 x2
  have b3 := y_bd32 x3
  by_cases c1_0 : x1.toInt ≤ -1
  · exact y_std_e r_35_0 (by decide) h0 (y_itv (by omega) (by omega)) (y_full _) (y_full _)
  by_cases c1_1 : x1.toInt ≤ 11
  · exact y_std_e r_35_1 (by decide) h0 (y_num (by omega) (by omega)) (y_full _) (y_full _)
  exact y_std_e r_35_2 (by decide) h0 (y_itv (by omega) (by omega)) (y_full _) (y_full _)
theorem z_36 {x0 x1 x2 x3 : Int32} (h0 : x0 &&& 63 = Int32.ofNat 36) : ∃ d n, xlaw [x0, x1, x2, x3] d n = true := by
  have b1 := y_bd32 x1
  have b2 := y_bd32 x2
  have b3 := y_bd32 x3
  exact y_std_e r_36_0 (by decide) h0 (y_full _) (y_full _) (y_full _)
theorem z_37 {x0 x1 x2 x3 : Int32} (h0 : x0 &&& 63 = Int32.ofNat 37) : ∃ d n, xlaw [x0, x1, x2, x3] d n = true := by
  have b1 := y_bd32 x1
  have b2 := y_bd32 x2
  have b3 := y_bd32 x3
  by_cases c1_0 : x1.toInt ≤ -1
  · exact y_std_e r_37_0 (by decide) h0 (y_itv (by omega) (by omega)) (y_full _) (y_full _)
  by_cases c1_1 : x1.toInt ≤ 6
  · exact y_std_e r_37_1 (by decide) h0 (y_num (by omega) (by omega)) (y_full _) (y_full _)
  exact y_std_e r_37_2 (by decide) h0 (y_itv (by omega) (by omega)) (y_full _) (y_full _)
theorem z_38 {x0 x1 x2 x3 : Int32} (h0 : x0 &&& 63 = Int32.ofNat 38) : ∃ d n, xlaw [x0, x1, x2, x3] d n = true := by
  have b1 := y_bd32 x1
  have b2 := y_bd32 x2
  have b3 := y_bd32 x3
  exact y_std_e r_38_0 (by decide) h0 (y_full _) (y_full _) (y_full _)
theorem z_39 {x0 x1 x2 x3 : Int32} (h0 : x0 &&& 63 = Int32.ofNat 39) : ∃ d n, xlaw [x0, x1, x2, x3] d n = true := by
  have b1 := y_bd32 x1
  have b2 := y_bd32 x2
  have b3 := y_bd32 x3
  exact y_std_e r_39_0 (by decide) h0 (y_full _) (y_full _) (y_full _)
theorem z_40 {x0 x1 x2 x3 : Int32} (h0 : x0 &&& 63 = Int32.ofNat 40) : ∃ d n, xlaw [x0, x1, x2, x3] d n = true := by
  have b1 := y_bd32 x1
  have b2 := y_bd32 x2
  have b3 := y_bd32 x3
  exact y_std_e r_40_0 (by decide) h0 (y_full _) (y_full _) (y_full _)
theorem z_41 {x0 x1 x2 x3 : Int32} (h0 : x0 &&& 63 = Int32.ofNat 41) : ∃ d n, xlaw [x0, x1, x2, x3] d n = true := by
  have b1 := y_bd32 x1
  have b2 := y_bd32 x2
  have b3 := y_bd32 x3
  exact y_std_e r_41_0 (by decide) h0 (y_full _) (y_full _) (y_full _)
theorem z_42 {x0 x1 x2 x3 : Int32} (h0 : x0 &&& 63 = Int32.ofNat 42) : ∃ d n, xlaw [x0, x1, x2, x3] d n = true := by
  have b1 := y_bd32 x1
  have b2 := y_bd32 x2
  have b3 := y_bd32 x3
  exact y_std_e r_42_0 (by decide) h0 (y_full _) (y_full _) (y_full _)
theorem z_43 {x0 x1 x2 x3 : Int32} (h0 : x0 &&& 63 = Int32.ofNat 43) : ∃ d n, xlaw [x0, x1, x2, x3] d n = true := by
  have b1 := y_bd32 x1
  have b2 := y_bd32 x2
  have b3 := y_bd32 x3
  exact y_std_e r_43_0 (by decide) h0 (y_full _) (y_full _) (y_full _)
theorem z_44 {x0 x1 x2 x3 : Int32} (h0 : x0 &&& 63 = Int32.ofNat 44) : ∃ d n, xlaw [x0, x1, x2, x3] d n = true := by
  have b1 := y_bd32 x1
  have b2 := y_bd32 x2
  have b3 := y_bd32 x3
  exact y_std_e r_44_0 (by decide) h0 (y_full _) (y_full _) (y_full _)
theorem z_45 {x0 x1 x2 x3 : Int32} (h0 : x0 &&& 63 = Int32.ofNat 45) : ∃ d n, xlaw [x0, x1, x2, x3] d n = true := by
  have b1 := y_bd32 x1
  have b2 := y_bd32 x2
  have b3 := y_bd32 x3
  exact y_std_e r_45_0 (by decide) h0 (y_full _) (y_full _) (y_full _)
theorem z_46 {x0 x1 x2 x3 : Int32} (h0 : x0 &&& 63 = Int32.ofNat 46) : ∃ d n, xlaw [x0, x1, x2, x3] d n = true := by
  have b1 := y_bd32 x1
  have b2 := y_bd32 x2
  have b3 := y_bd32 x3
  exact y_std_e r_46_0 (by decide) h0 (y_full _) (y_full _) (y_full _)
theorem z_47 {x0 x1 x2 x3 : Int32} (h0 : x0 &&& 63 = Int32.ofNat 47) : ∃ d n, xlaw [x0, x1, x2, x3] d n = true := by
  have b1 := y_bd32 x1
  have b2 := y_bd32 x2
  have b3 := y_bd32 x3
  exact y_std_e r_47_0 (by decide) h0 (y_full _) (y_full _) (y_full _)
theorem z_48 {x0 x1 x2 x3 : Int32} (h0 : x0 &&& 63 = Int32.ofNat 48) : ∃ d n, xlaw [x0, x1, x2, x3] d n = true := by
  have b1 := y_bd32 x1
  have b2 := y_bd32 x2
  have b3 := y_bd32 x3
  exact y_std_e r_48_0 (by decide) h0 (y_full _) (y_full _) (y_full _)
theorem z_49 {x0 x1 x2 x3 : Int32} (h0 : x0 &&& 63 = Int32.ofNat 49) : ∃ d n, xlaw [x0, x1, x2, x3] d n = true := by
  have b1 := y_bd32 x1
  have b2 := y_bd32 x2
  have b3 := y_bd32 x3
  exact y_std_e r_49_0 (by decide) h0 (y_full _) (y_full _) (y_full _)
theorem z_50 {x0 x1 x2 x3 : Int32} (h0 : x0 &&& 63 = Int32.ofNat 50) : ∃ d n, xlaw [x0, x1, x2, x3] d n = true := by
  have b1 := y_bd32 x1
  have b2 := y_bd32 x2
  have b3 := y_bd32 x3
  exact y_std_e r_50_0 (by decide) h0 (y_full _) (y_full _) (y_full _)
theorem z_51 {x0 x1 x2 x3 : Int32} (h0 : x0 &&& 63 = Int32.ofNat 51) : ∃ d n, xlaw [x0, x1, x2, x3] d n = true := by
  have b1 := y_bd32 x1
  have b2 := y_bd32 x2
  have b3 := y_bd32 x3
  exact y_std_e r_51_0 (by decide) h0 (y_full _) (y_full _) (y_full _)
theorem z_52 {x0 x1 x2 x3 : Int32} (h0 : x0 &&& 63 = Int32.ofNat 52) : ∃ d n, xlaw [x0, x1, x2, x3] d n = true := by
  have b1 := y_bd32 x1
  have b2 := y_bd32 x2
  have b3 := y_bd32 x3
  exact y_std_e r_52_0 (by decide) h0 (y_full _) (y_full _) (y_full _)
theorem z_53 {x0 x1 x2 x3 : Int32} (h0 : x0 &&& 63 = Int32.ofNat 53) : ∃ d n, xlaw [x0, x1, x2, x3] d n = true := by
  have b1 := y_bd32 x1
  have b2 := y_bd32 x2
  have b3 := y_bd32 x3
  exact y_std_e r_53_0 (by decide) h0 (y_full _) (y_full _) (y_full _)
theorem z_54 {x0 x1 x2 x3 : Int32} (h0 : x0 &&& 63 = Int32.ofNat 54) : ∃ d n, xlaw [x0, x1, x2, x3] d n = true := by
  have b1 := y_bd32 x1
  have b2 := y_bd32 x2
  have b3 := y_bd32 x3
  exact y_std_e r_54_0 (by decide) h0 (y_full _) (y_full _) (y_full _)
theorem z_55 {x0 x1 x2 x3 : Int32} (h0 : x0 &&& 63 = Int32.ofNat 55) : ∃ d n, xlaw [x0, x1, x2, x3] d n = true := by
  have b1 := y_bd32 x1
  have b2 := y_bd32 x2
  have b3 := y_bd32 x3
  exact y_std_e r_55_0 (by decide) h0 (y_full _) (y_full _) (y_full _)
theorem z_56 {x0 x1 x2 x3 : Int32} (h0 : x0 &&& 63 = Int32.ofNat 56) : ∃ d n, xlaw [x0, x1, x2, x3] d n = true := by
  have b1 := y_bd32 x1
  have b2 := y_bd32 x2
  have b3 := y_bd32 x3
  exact y_std_e r_56_0 (by decide) h0 (y_full _) (y_full _) (y_full _)
theorem z_57 {x0 x1 x2 x3 : Int32} (h0 : x0 &&& 63 = Int32.ofNat 57) : ∃ d n, xlaw [x0, x1, x2, x3] d n = true := by
  have b1 := y_bd32 x1
  have b2 := y_bd32 x2
  have b3 := y_bd32 x3
  exact y_std_e r_57_0 (by decide) h0 (y_full _) (y_full _) (y_full _)
theorem z_58 {x0 x1 x2 x3 : Int32} (h0 : x0 &&& 63 = Int32.ofNat 58) : ∃ d n, xlaw [x0, x1, x2, x3] d n = true := by
  have b1 := y_bd32 x1
  have b2 := y_bd32 x2
  have b3 := y_bd32 x3
  exact y_std_e r_58_0 (by decide) h0 (y_full _) (y_full _) (y_full _)
theorem z_59 {x0 x1 x2 x3 : Int32} (h0 : x0 &&& 63 = Int32.ofNat 59) : ∃ d n, xlaw [x0, x1, x2, x3] d n = true := by
  have b1 := y_bd32 x1
  have b2 := y_bd32 x2
  have b3 := y_bd32 x3
  exact y_std_e r_59_0 (by decide) h0 (y_full _) (y_full _) (y_full _)
theorem z_60 {x0 x1 x2 x3 : Int32} (h0 : x0 &&& 63 = Int32.ofNat 60) : ∃ d n, xlaw [x0, x1, x2, x3] d n = true := by
  have b1 := y_bd32 x1
  have b2 := y_bd32 x2
  have b3 := y_bd32 x3
  exact y_std_e r_60_0 (by decide) h0 (y_full _) (y_full _) (y_full _)
theorem z_61 {x0 x1 x2 x3 : Int32} (h0 : x0 &&& 63 = Int32.ofNat 61) : ∃ d n, xlaw [x0, x1, x2, x3] d n = true := by
  have b1 := y_bd32 x1
  have b2 := y_bd32 x2
  have b3 := y_bd32 x3
  exact y_std_e r_61_0 (by decide) h0 (y_full _) (y_full _) (y_full _)
theorem z_62 {x0 x1 x2 x3 : Int32} (h0 : x0 &&& 63 = Int32.ofNat 62) : ∃ d n, xlaw [x0, x1, x2, x3] d n = true := by
  have b1 := y_bd32 x1
  have b2 := y_bd32 x2
  have b3 := y_bd32 x3
  exact y_std_e r_62_0 (by decide) h0 (y_full _) (y_full _) (y_full _)
theorem z_63 {x0 x1 x2 x3 : Int32} (h0 : x0 &&& 63 = Int32.ofNat 63) : ∃ d n, xlaw [x0, x1, x2, x3] d n = true := by
  have b1 := y_bd32 x1
  have b2 := y_bd32 x2
  have b3 := y_bd32 x3
  exact y_std_e r_63_0 (by decide) h0 (y_full _) (y_full _) (y_full _)
theorem xlaw_4 (x0 x1 x2 x3 : Int32) : ∃ d n, xlaw [x0, x1, x2, x3] d n = true := by
  obtain ⟨op, hop, h0⟩ := y_op64 x0
  match op, hop, h0 with
  | 0, _, h0 => exact z_0 h0
  | 1, _, h0 => exact z_1 h0
  | 2, _, h0 => exact z_2 h0
  | 3, _, h0 => exact z_3 h0
  | 4, _, h0 => exact z_4 h0
  | 5, _, h0 => exact z_5 h0
  | 6, _, h0 => exact z_6 h0
  | 7, _, h0 => exact z_7 h0
  | 8, _, h0 => exact z_8 h0
  | 9, _, h0 => exact z_9 h0
  | 10, _, h0 => exact z_10 h0
  | 11, _, h0 => exact z_11 h0
  | 12, _, h0 => exact z_12 h0
  | 13, _, h0 => exact z_13 h0
  | 14, _, h0 => exact z_14 h0
  | 15, _, h0 => exact z_15 h0
  | 16, _, h0 => exact z_16 h0
  | 17, _, h0 => exact z_17 h0
  | 18, _, h0 => exact z_18 h0
  | 19, _, h0 => exact z_19 h0
  | 20, _, h0 => exact z_20 h0
  | 21, _, h0 => exact z_21 h0
  | 22, _, h0 => exact z_22 h0
  | 23, _, h0 => exact z_23 h0
  | 24, _, h0 => exact z_24 h0
  | 25, _, h0 => exact z_25 h0
  | 26, _, h0 => exact z_26 h0
  | 27, _, h0 => exact z_27 h0
  | 28, _, h0 => exact z_28 h0
  | 29, _, h0 => exact z_29 h0
  | 30, _, h0 => exact z_30 h0
  | 31, _, h0 => exact z_31 h0
  | 32, _, h0 => exact z_32 h0
  | 33, _, h0 => exact z_33 h0
  | 34, _, h0 => exact z_34 h0
  | 35, _, h0 => exact z_35 h0
  | 36, _, h0 => exact z_36 h0
  | 37, _, h0 => exact z_37 h0
  | 38, _, h0 => exact z_38 h0
  | 39, _, h0 => exact z_39 h0
  | 40, _, h0 => exact z_40 h0
  | 41, _, h0 => exact z_41 h0
  | 42, _, h0 => exact z_42 h0
  | 43, _, h0 => exact z_43 h0
  | 44, _, h0 => exact z_44 h0
  | 45, _, h0 => exact z_45 h0
  | 46, _, h0 => exact z_46 h0
  | 47, _, h0 => exact z_47 h0
  | 48, _, h0 => exact z_48 h0
  | 49, _, h0 => exact z_49 h0
  | 50, _, h0 => exact z_50 h0
  | 51, _, h0 => exact z_51 h0
  | 52, _, h0 => exact z_52 h0
  | 53, _, h0 => exact z_53 h0
  | 54, _, h0 => exact z_54 h0
  | 55, _, h0 => exact z_55 h0
  | 56, _, h0 => exact z_56 h0
  | 57, _, h0 => exact z_57 h0
  | 58, _, h0 => exact z_58 h0
  | 59, _, h0 => exact z_59 h0
  | 60, _, h0 => exact z_60 h0
  | 61, _, h0 => exact z_61 h0
  | 62, _, h0 => exact z_62 h0
  | 63, _, h0 => exact z_63 h0
  | n + 64, hop, _ => exact absurd hop (by omega)
theorem xlaw_all (xs : List Int32) (h : xs.length ≤ 4) : ∃ d n, xlaw xs d n = true := by
  match xs, h with
  | [], _ => exact y_short (n := 0) rfl (by omega) r_s0
  | [_], _ => exact y_short (n := 1) rfl (by omega) r_s1
  | [_, _], _ => exact y_short (n := 2) rfl (by omega) r_s2
  | [_, _, _], _ => exact y_short (n := 3) rfl (by omega) r_s3
  | [x0, x1, x2, x3], _ => exact xlaw_4 x0 x1 x2 x3
  | _ :: _ :: _ :: _ :: _ :: _, h => exact absurd h (by simp)
