section
/-! Every block of every method is right (1). -/
theorem yg_145_0 {G : yG} {xrec : Nat → List Value → XW → Option (XO × XW)} {xs : List Int32} {E : yE} {rec : yCl} (hE : yOk G xs E) (hR : yRecOk G rec xrec) : yGd G xrec xs E rec 145 63 0 yc_145_0 := yGd_mono (by decide +kernel) (tt_aload_n (pc := 0) (show xcode 145 0 = some (.aload_n 0, 1, 0, 0) from by decide +kernel) rfl (tt_calV (pc := 1) hR (show xcode 145 1 = some (.invokevirtual 112, 3, 144, 0) from by decide +kernel) (by decide +kernel) (by decide +kernel) (tt_lstore_n (pc := 4) (show xcode 145 4 = some (.lstore_n 2, 1, 0, 0) from by decide +kernel) rfl (by decide +kernel) (tt_iconst (pc := 5) (show xcode 145 5 = some (.iconst 0, 1, 0, 0) from by decide +kernel) (by decide +kernel) (tt_istore (pc := 6) (show xcode 145 6 = some (.istore 4, 2, 0, 0) from by decide +kernel) (by decide +kernel) (tt_iconst (pc := 8) (show xcode 145 8 = some (.iconst 0, 1, 0, 0) from by decide +kernel) (by decide +kernel) (tt_istore (pc := 9) (show xcode 145 9 = some (.istore 5, 2, 0, 0) from by decide +kernel) (by decide +kernel) (g_lab))))))))
theorem yg_145_11 {G : yG} {xrec : Nat → List Value → XW → Option (XO × XW)} {xs : List Int32} {E : yE} {rec : yCl} (hE : yOk G xs E) (hR : yRecOk G rec xrec) : yGd G xrec xs E rec 145 63 11 yc_145_11 := yGd_mono (by decide +kernel) (tt_iload (pc := 11) (show xcode 145 11 = some (.iload 5, 2, 0, 0) from by decide +kernel) (tt_bipush (pc := 13) (show xcode 145 13 = some (.bipush 36, 2, 0, 0) from by decide +kernel) (by decide +kernel) (tt_icmp (pc := 15) hE (show xcode 145 15 = some (.if_icmp .ge 14, 3, 29, 0) from by decide +kernel) rfl (tt_aload_n (pc := 18) (show xcode 145 18 = some (.aload_n 1, 1, 0, 0) from by decide +kernel) rfl (tt_iload (pc := 19) (show xcode 145 19 = some (.iload 5, 2, 0, 0) from by decide +kernel) (tt_iconst (pc := 21) (show xcode 145 21 = some (.iconst 0, 1, 0, 0) from by decide +kernel) (by decide +kernel) (tt_iastore (pc := 22) (show xcode 145 22 = some (.iastore, 1, 0, 0) from by decide +kernel) (tt_iinc (pc := 23) (show xcode 145 23 = some (.iinc 5 1, 3, 0, 0) from by decide +kernel) (by decide +kernel) (by decide +kernel) (tt_goto (pc := 26) (show xcode 145 26 = some (.goto (-15), 3, 11, 0) from by decide +kernel))))))))))
theorem yg_145_29 {G : yG} {xrec : Nat → List Value → XW → Option (XO × XW)} {xs : List Int32} {E : yE} {rec : yCl} (hE : yOk G xs E) (hR : yRecOk G rec xrec) : yGd G xrec xs E rec 145 63 29 yc_145_29 := yGd_mono (by decide +kernel) (tt_iconst (pc := 29) (show xcode 145 29 = some (.iconst 0, 1, 0, 0) from by decide +kernel) (by decide +kernel) (tt_istore (pc := 30) (show xcode 145 30 = some (.istore 5, 2, 0, 0) from by decide +kernel) (by decide +kernel) (g_lab)))
theorem yg_145_32 {G : yG} {xrec : Nat → List Value → XW → Option (XO × XW)} {xs : List Int32} {E : yE} {rec : yCl} (hE : yOk G xs E) (hR : yRecOk G rec xrec) : yGd G xrec xs E rec 145 63 32 yc_145_32 := yGd_mono (by decide +kernel) (tt_iload (pc := 32) (show xcode 145 32 = some (.iload 5, 2, 0, 0) from by decide +kernel) (tt_aload_n (pc := 34) (show xcode 145 34 = some (.aload_n 0, 1, 0, 0) from by decide +kernel) rfl (tt_calV (pc := 35) hR (show xcode 145 35 = some (.invokevirtual 96, 3, 134, 0) from by decide +kernel) (by decide +kernel) (by decide +kernel) (tt_icmp (pc := 38) hE (show xcode 145 38 = some (.if_icmp .ge 56, 3, 94, 0) from by decide +kernel) rfl (tt_aload_n (pc := 41) (show xcode 145 41 = some (.aload_n 1, 1, 0, 0) from by decide +kernel) rfl (tt_iload (pc := 42) (show xcode 145 42 = some (.iload 5, 2, 0, 0) from by decide +kernel) (tt_aload_n (pc := 44) (show xcode 145 44 = some (.aload_n 0, 1, 0, 0) from by decide +kernel) rfl (tt_get (pc := 45) (show xcode 145 45 = some (.getfield 35, 3, 11, 14) from by decide +kernel) (tt_iload (pc := 48) (show xcode 145 48 = some (.iload 5, 2, 0, 0) from by decide +kernel) (tt_laload (pc := 50) (show xcode 145 50 = some (.laload, 1, 0, 0) from by decide +kernel) (tt_ldc2_w (pc := 51) (show xcode 145 51 = some (.ldc2_w 116, 3, 2, 0) from by decide +kernel) (show xnth xcon 2 = some (.long (1000000)) from by decide +kernel) (u_2) (tt_lmul (pc := 54) (show xcode 145 54 = some (.lmul, 1, 0, 0) from by decide +kernel) (tt_lload_n (pc := 55) (show xcode 145 55 = some (.lload_n 2, 1, 0, 0) from by decide +kernel) rfl (tt_ldiv (pc := 56) (show xcode 145 56 = some (.ldiv, 1, 0, 0) from by decide +kernel) (tt_l2i (pc := 57) (show xcode 145 57 = some (.l2i, 1, 0, 0) from by decide +kernel) (tt_iastore (pc := 58) (show xcode 145 58 = some (.iastore, 1, 0, 0) from by decide +kernel) (tt_aload_n (pc := 59) (show xcode 145 59 = some (.aload_n 0, 1, 0, 0) from by decide +kernel) rfl (tt_get (pc := 60) (show xcode 145 60 = some (.getfield 39, 3, 11, 15) from by decide +kernel) (tt_iload (pc := 63) (show xcode 145 63 = some (.iload 5, 2, 0, 0) from by decide +kernel) (tt_aload_n (pc := 65) (show xcode 145 65 = some (.aload_n 0, 1, 0, 0) from by decide +kernel) rfl (tt_get (pc := 66) (show xcode 145 66 = some (.getfield 35, 3, 11, 14) from by decide +kernel) (tt_iload (pc := 69) (show xcode 145 69 = some (.iload 5, 2, 0, 0) from by decide +kernel) (tt_laload (pc := 71) (show xcode 145 71 = some (.laload, 1, 0, 0) from by decide +kernel) (tt_ldc2_w (pc := 72) (show xcode 145 72 = some (.ldc2_w 116, 3, 2, 0) from by decide +kernel) (show xnth xcon 2 = some (.long (1000000)) from by decide +kernel) (u_2) (tt_lmul (pc := 75) (show xcode 145 75 = some (.lmul, 1, 0, 0) from by decide +kernel) (tt_lload_n (pc := 76) (show xcode 145 76 = some (.lload_n 2, 1, 0, 0) from by decide +kernel) rfl (tt_lrem (pc := 77) (show xcode 145 77 = some (.lrem, 1, 0, 0) from by decide +kernel) (tt_lastore (pc := 78) (show xcode 145 78 = some (.lastore, 1, 0, 0) from by decide +kernel) (tt_iload (pc := 79) (show xcode 145 79 = some (.iload 4, 2, 0, 0) from by decide +kernel) (tt_aload_n (pc := 81) (show xcode 145 81 = some (.aload_n 1, 1, 0, 0) from by decide +kernel) rfl (tt_iload (pc := 82) (show xcode 145 82 = some (.iload 5, 2, 0, 0) from by decide +kernel) (tt_iaload (pc := 84) (show xcode 145 84 = some (.iaload, 1, 0, 0) from by decide +kernel) (tt_iadd (pc := 85) hE (show xcode 145 85 = some (.iadd, 1, 0, 0) from by decide +kernel) (tt_istore (pc := 86) (show xcode 145 86 = some (.istore 4, 2, 0, 0) from by decide +kernel) (by decide +kernel) (tt_iinc (pc := 88) (show xcode 145 88 = some (.iinc 5 1, 3, 0, 0) from by decide +kernel) (by decide +kernel) (by decide +kernel) (tt_goto (pc := 91) (show xcode 145 91 = some (.goto (-59), 3, 32, 0) from by decide +kernel)))))))))))))))))))))))))))))))))))))
theorem yg_145_94 {G : yG} {xrec : Nat → List Value → XW → Option (XO × XW)} {xs : List Int32} {E : yE} {rec : yCl} (hE : yOk G xs E) (hR : yRecOk G rec xrec) : yGd G xrec xs E rec 145 63 94 yc_145_94 := yGd_mono (by decide +kernel) (tt_iload (pc := 94) (show xcode 145 94 = some (.iload 4, 2, 0, 0) from by decide +kernel) (tt_ldc (pc := 96) (show xcode 145 96 = some (.ldc 118, 2, 3, 0) from by decide +kernel) (show xnth xcon 3 = some (.int (1000000)) from by decide +kernel) (u_3) (tt_icmp (pc := 98) hE (show xcode 145 98 = some (.if_icmp .ge 75, 3, 173, 0) from by decide +kernel) rfl (tt_iconst (pc := 101) (show xcode 145 101 = some (.iconst 0, 1, 0, 0) from by decide +kernel) (by decide +kernel) (tt_istore (pc := 102) (show xcode 145 102 = some (.istore 5, 2, 0, 0) from by decide +kernel) (by decide +kernel) (tt_iconst (pc := 104) (show xcode 145 104 = some (.iconst 1, 1, 0, 0) from by decide +kernel) (by decide +kernel) (tt_istore (pc := 105) (show xcode 145 105 = some (.istore 6, 2, 0, 0) from by decide +kernel) (by decide +kernel) (g_lab))))))))
theorem yg_145_107 {G : yG} {xrec : Nat → List Value → XW → Option (XO × XW)} {xs : List Int32} {E : yE} {rec : yCl} (hE : yOk G xs E) (hR : yRecOk G rec xrec) : yGd G xrec xs E rec 145 63 107 yc_145_107 := yGd_mono (by decide +kernel) (tt_iload (pc := 107) (show xcode 145 107 = some (.iload 6, 2, 0, 0) from by decide +kernel) (tt_aload_n (pc := 109) (show xcode 145 109 = some (.aload_n 0, 1, 0, 0) from by decide +kernel) rfl (tt_calV (pc := 110) hR (show xcode 145 110 = some (.invokevirtual 96, 3, 134, 0) from by decide +kernel) (by decide +kernel) (by decide +kernel) (tt_icmp (pc := 113) hE (show xcode 145 113 = some (.if_icmp .ge 36, 3, 149, 0) from by decide +kernel) rfl (tt_aload_n (pc := 116) (show xcode 145 116 = some (.aload_n 0, 1, 0, 0) from by decide +kernel) rfl (tt_get (pc := 117) (show xcode 145 117 = some (.getfield 39, 3, 11, 15) from by decide +kernel) (tt_iload (pc := 120) (show xcode 145 120 = some (.iload 6, 2, 0, 0) from by decide +kernel) (tt_laload (pc := 122) (show xcode 145 122 = some (.laload, 1, 0, 0) from by decide +kernel) (tt_aload_n (pc := 123) (show xcode 145 123 = some (.aload_n 0, 1, 0, 0) from by decide +kernel) rfl (tt_get (pc := 124) (show xcode 145 124 = some (.getfield 39, 3, 11, 15) from by decide +kernel) (tt_iload (pc := 127) (show xcode 145 127 = some (.iload 5, 2, 0, 0) from by decide +kernel) (tt_laload (pc := 129) (show xcode 145 129 = some (.laload, 1, 0, 0) from by decide +kernel) (tt_lcmp (pc := 130) (show xcode 145 130 = some (.lcmp, 1, 0, 0) from by decide +kernel) (tt_if (pc := 131) hE (show xcode 145 131 = some (.ifCond .le 8, 3, 139, 0) from by decide +kernel) rfl (tt_iload (pc := 134) (show xcode 145 134 = some (.iload 6, 2, 0, 0) from by decide +kernel) (tt_goto (pc := 136) (show xcode 145 136 = some (.goto 5, 3, 141, 0) from by decide +kernel)))))))))))))))))
theorem yg_145_139 {G : yG} {xrec : Nat → List Value → XW → Option (XO × XW)} {xs : List Int32} {E : yE} {rec : yCl} (hE : yOk G xs E) (hR : yRecOk G rec xrec) : yGd G xrec xs E rec 145 63 139 yc_145_139 := yGd_mono (by decide +kernel) (tt_iload (pc := 139) (show xcode 145 139 = some (.iload 5, 2, 0, 0) from by decide +kernel) (g_lab))
theorem yg_145_141 {G : yG} {xrec : Nat → List Value → XW → Option (XO × XW)} {xs : List Int32} {E : yE} {rec : yCl} (hE : yOk G xs E) (hR : yRecOk G rec xrec) : yGd G xrec xs E rec 145 63 141 yc_145_141 := yGd_mono (by decide +kernel) (tt_istore (pc := 141) (show xcode 145 141 = some (.istore 5, 2, 0, 0) from by decide +kernel) (by decide +kernel) (tt_iinc (pc := 143) (show xcode 145 143 = some (.iinc 6 1, 3, 0, 0) from by decide +kernel) (by decide +kernel) (by decide +kernel) (tt_goto (pc := 146) (show xcode 145 146 = some (.goto (-39), 3, 107, 0) from by decide +kernel))))
theorem yg_145_149 {G : yG} {xrec : Nat → List Value → XW → Option (XO × XW)} {xs : List Int32} {E : yE} {rec : yCl} (hE : yOk G xs E) (hR : yRecOk G rec xrec) : yGd G xrec xs E rec 145 63 149 yc_145_149 := yGd_mono (by decide +kernel) (tt_aload_n (pc := 149) (show xcode 145 149 = some (.aload_n 1, 1, 0, 0) from by decide +kernel) rfl (tt_iload (pc := 150) (show xcode 145 150 = some (.iload 5, 2, 0, 0) from by decide +kernel) (g_dup2 (pc := 152) (show xcode 145 152 = some (.dup2, 1, 0, 0) from by decide +kernel) (tt_iaload (pc := 153) (show xcode 145 153 = some (.iaload, 1, 0, 0) from by decide +kernel) (tt_iconst (pc := 154) (show xcode 145 154 = some (.iconst 1, 1, 0, 0) from by decide +kernel) (by decide +kernel) (tt_iadd (pc := 155) hE (show xcode 145 155 = some (.iadd, 1, 0, 0) from by decide +kernel) (tt_iastore (pc := 156) (show xcode 145 156 = some (.iastore, 1, 0, 0) from by decide +kernel) (tt_aload_n (pc := 157) (show xcode 145 157 = some (.aload_n 0, 1, 0, 0) from by decide +kernel) rfl (tt_get (pc := 158) (show xcode 145 158 = some (.getfield 39, 3, 11, 15) from by decide +kernel) (tt_iload (pc := 161) (show xcode 145 161 = some (.iload 5, 2, 0, 0) from by decide +kernel) (tt_ldc2_w (pc := 163) (show xcode 145 163 = some (.ldc2_w 119, 3, 4, 0) from by decide +kernel) (show xnth xcon 4 = some (.long (-1)) from by decide +kernel) (u_4) (tt_lastore (pc := 166) (show xcode 145 166 = some (.lastore, 1, 0, 0) from by decide +kernel) (tt_iinc (pc := 167) (show xcode 145 167 = some (.iinc 4 1, 3, 0, 0) from by decide +kernel) (by decide +kernel) (by decide +kernel) (tt_goto (pc := 170) (show xcode 145 170 = some (.goto (-76), 3, 94, 0) from by decide +kernel)))))))))))))))
theorem yg_145_173 {G : yG} {xrec : Nat → List Value → XW → Option (XO × XW)} {xs : List Int32} {E : yE} {rec : yCl} (hE : yOk G xs E) (hR : yRecOk G rec xrec) : yGd G xrec xs E rec 145 63 173 yc_145_173 := yGd_mono (by decide +kernel) (tt_ret0 (pc := 173) (show xcode 145 173 = some (.return_, 1, 0, 0) from by decide +kernel) (by decide +kernel) (by decide +kernel))
theorem ym_145 {G : yG} {xrec : Nat → List Value → XW → Option (XO × XW)} {xs : List Int32} {E : yE} {rec : yCl} (hE : yOk G xs E) (hR : yRecOk G rec xrec) (t : Nat) : yGd G xrec xs E rec 145 63 t (yb_145 t) := g_node (g_node (g_node (g_leaf (yg_145_0 hE hR)) (g_leaf (yg_145_11 hE hR))) (g_node (g_leaf (yg_145_29 hE hR)) (g_node (g_leaf (yg_145_32 hE hR)) (g_leaf (yg_145_94 hE hR))))) (g_node (g_node (g_leaf (yg_145_107 hE hR)) (g_leaf (yg_145_139 hE hR))) (g_node (g_leaf (yg_145_141 hE hR)) (g_node (g_leaf (yg_145_149 hE hR)) (g_leaf (yg_145_173 hE hR)))))
theorem yq_145 {G : yG} {xrec : Nat → List Value → XW → Option (XO × XW)} {xs : List Int32} {E : yE} {rec : yCl} (hE : yOk G xs E) (hR : yRecOk G rec xrec) {a : Nat} (h : a = 145) : yQp G xrec xs E rec a (nat_lit 7, yb_145) := by subst h; exact ⟨by decide +kernel, fun t => ym_145 hE hR t⟩
theorem yg_146_0 {G : yG} {xrec : Nat → List Value → XW → Option (XO × XW)} {xs : List Int32} {E : yE} {rec : yCl} (hE : yOk G xs E) (hR : yRecOk G rec xrec) : yGd G xrec xs E rec 146 63 0 yc_146_0 := yGd_mono (by decide +kernel) (tt_iconst (pc := 0) (show xcode 146 0 = some (.iconst 0, 1, 0, 0) from by decide +kernel) (by decide +kernel) (tt_istore_n (pc := 1) (show xcode 146 1 = some (.istore_n 1, 1, 0, 0) from by decide +kernel) rfl (by decide +kernel) (g_lab)))
theorem yg_146_2 {G : yG} {xrec : Nat → List Value → XW → Option (XO × XW)} {xs : List Int32} {E : yE} {rec : yCl} (hE : yOk G xs E) (hR : yRecOk G rec xrec) : yGd G xrec xs E rec 146 63 2 yc_146_2 := yGd_mono (by decide +kernel) (tt_iload_n (pc := 2) (show xcode 146 2 = some (.iload_n 1, 1, 0, 0) from by decide +kernel) rfl (tt_aload_n (pc := 3) (show xcode 146 3 = some (.aload_n 0, 1, 0, 0) from by decide +kernel) rfl (tt_calV (pc := 4) hR (show xcode 146 4 = some (.invokevirtual 96, 3, 134, 0) from by decide +kernel) (by decide +kernel) (by decide +kernel) (tt_icmp (pc := 7) hE (show xcode 146 7 = some (.if_icmp .ge 28, 3, 35, 0) from by decide +kernel) rfl (tt_aload_n (pc := 10) (show xcode 146 10 = some (.aload_n 0, 1, 0, 0) from by decide +kernel) rfl (tt_get (pc := 11) (show xcode 146 11 = some (.getfield 35, 3, 11, 14) from by decide +kernel) (tt_iload_n (pc := 14) (show xcode 146 14 = some (.iload_n 1, 1, 0, 0) from by decide +kernel) rfl (tt_aload_n (pc := 15) (show xcode 146 15 = some (.aload_n 0, 1, 0, 0) from by decide +kernel) rfl (tt_iload_n (pc := 16) (show xcode 146 16 = some (.iload_n 1, 1, 0, 0) from by decide +kernel) rfl (tt_calV (pc := 17) hR (show xcode 146 17 = some (.invokevirtual 100, 3, 136, 0) from by decide +kernel) (by decide +kernel) (by decide +kernel) (tt_if (pc := 20) hE (show xcode 146 20 = some (.ifCond .eq 7, 3, 27, 0) from by decide +kernel) rfl (tt_lconst (pc := 23) (show xcode 146 23 = some (.lconst 1, 1, 0, 0) from by decide +kernel) (by decide +kernel) (tt_goto (pc := 24) (show xcode 146 24 = some (.goto 4, 3, 28, 0) from by decide +kernel))))))))))))))
theorem yg_146_27 {G : yG} {xrec : Nat → List Value → XW → Option (XO × XW)} {xs : List Int32} {E : yE} {rec : yCl} (hE : yOk G xs E) (hR : yRecOk G rec xrec) : yGd G xrec xs E rec 146 63 27 yc_146_27 := yGd_mono (by decide +kernel) (tt_lconst (pc := 27) (show xcode 146 27 = some (.lconst 0, 1, 0, 0) from by decide +kernel) (by decide +kernel) (g_lab))
theorem yg_146_28 {G : yG} {xrec : Nat → List Value → XW → Option (XO × XW)} {xs : List Int32} {E : yE} {rec : yCl} (hE : yOk G xs E) (hR : yRecOk G rec xrec) : yGd G xrec xs E rec 146 63 28 yc_146_28 := yGd_mono (by decide +kernel) (tt_lastore (pc := 28) (show xcode 146 28 = some (.lastore, 1, 0, 0) from by decide +kernel) (tt_iinc (pc := 29) (show xcode 146 29 = some (.iinc 1 1, 3, 0, 0) from by decide +kernel) (by decide +kernel) (by decide +kernel) (tt_goto (pc := 32) (show xcode 146 32 = some (.goto (-30), 3, 2, 0) from by decide +kernel))))
theorem yg_146_35 {G : yG} {xrec : Nat → List Value → XW → Option (XO × XW)} {xs : List Int32} {E : yE} {rec : yCl} (hE : yOk G xs E) (hR : yRecOk G rec xrec) : yGd G xrec xs E rec 146 63 35 yc_146_35 := yGd_mono (by decide +kernel) (tt_ret0 (pc := 35) (show xcode 146 35 = some (.return_, 1, 0, 0) from by decide +kernel) (by decide +kernel) (by decide +kernel))
theorem ym_146 {G : yG} {xrec : Nat → List Value → XW → Option (XO × XW)} {xs : List Int32} {E : yE} {rec : yCl} (hE : yOk G xs E) (hR : yRecOk G rec xrec) (t : Nat) : yGd G xrec xs E rec 146 63 t (yb_146 t) := g_node (g_node (g_leaf (yg_146_0 hE hR)) (g_leaf (yg_146_2 hE hR))) (g_node (g_leaf (yg_146_27 hE hR)) (g_node (g_leaf (yg_146_28 hE hR)) (g_leaf (yg_146_35 hE hR))))
theorem yq_146 {G : yG} {xrec : Nat → List Value → XW → Option (XO × XW)} {xs : List Int32} {E : yE} {rec : yCl} (hE : yOk G xs E) (hR : yRecOk G rec xrec) {a : Nat} (h : a = 146) : yQp G xrec xs E rec a (nat_lit 2, yb_146) := by subst h; exact ⟨by decide +kernel, fun t => ym_146 hE hR t⟩
theorem yg_147_0 {G : yG} {xrec : Nat → List Value → XW → Option (XO × XW)} {xs : List Int32} {E : yE} {rec : yCl} (hE : yOk G xs E) (hR : yRecOk G rec xrec) : yGd G xrec xs E rec 147 63 0 yc_147_0 := yGd_mono (by decide +kernel) (tt_aload_n (pc := 0) (show xcode 147 0 = some (.aload_n 0, 1, 0, 0) from by decide +kernel) rfl (tt_calV (pc := 1) hR (show xcode 147 1 = some (.invokevirtual 121, 3, 146, 0) from by decide +kernel) (by decide +kernel) (by decide +kernel) (tt_aload_n (pc := 4) (show xcode 147 4 = some (.aload_n 0, 1, 0, 0) from by decide +kernel) rfl (tt_aload_n (pc := 5) (show xcode 147 5 = some (.aload_n 0, 1, 0, 0) from by decide +kernel) rfl (tt_get (pc := 6) (show xcode 147 6 = some (.getfield 22, 3, 11, 5) from by decide +kernel) (tt_calV (pc := 9) hR (show xcode 147 9 = some (.invokevirtual 124, 3, 145, 0) from by decide +kernel) (by decide +kernel) (by decide +kernel) (tt_aload_n (pc := 12) (show xcode 147 12 = some (.aload_n 0, 1, 0, 0) from by decide +kernel) rfl (tt_iconst (pc := 13) (show xcode 147 13 = some (.iconst (-1), 1, 0, 0) from by decide +kernel) (by decide +kernel) (tt_calV (pc := 14) hR (show xcode 147 14 = some (.invokevirtual 128, 3, 151, 0) from by decide +kernel) (by decide +kernel) (by decide +kernel) (tt_ret0 (pc := 17) (show xcode 147 17 = some (.return_, 1, 0, 0) from by decide +kernel) (by decide +kernel) (by decide +kernel)))))))))))
theorem ym_147 {G : yG} {xrec : Nat → List Value → XW → Option (XO × XW)} {xs : List Int32} {E : yE} {rec : yCl} (hE : yOk G xs E) (hR : yRecOk G rec xrec) (t : Nat) : yGd G xrec xs E rec 147 63 t (yb_147 t) := g_leaf (yg_147_0 hE hR)
theorem yq_147 {G : yG} {xrec : Nat → List Value → XW → Option (XO × XW)} {xs : List Int32} {E : yE} {rec : yCl} (hE : yOk G xs E) (hR : yRecOk G rec xrec) {a : Nat} (h : a = 147) : yQp G xrec xs E rec a (nat_lit 1, yb_147) := by subst h; exact ⟨by decide +kernel, fun t => ym_147 hE hR t⟩
theorem yg_151_0 {G : yG} {xrec : Nat → List Value → XW → Option (XO × XW)} {xs : List Int32} {E : yE} {rec : yCl} (hE : yOk G xs E) (hR : yRecOk G rec xrec) : yGd G xrec xs E rec 151 63 0 yc_151_0 := yGd_mono (by decide +kernel) (tt_aload_n (pc := 0) (show xcode 151 0 = some (.aload_n 0, 1, 0, 0) from by decide +kernel) rfl (tt_iconst (pc := 1) (show xcode 151 1 = some (.iconst 0, 1, 0, 0) from by decide +kernel) (by decide +kernel) (tt_putI (pc := 2) (show xcode 151 2 = some (.putfield 146, 3, 11, 19) from by decide +kernel) (by decide +kernel) (tt_aload_n (pc := 5) (show xcode 151 5 = some (.aload_n 0, 1, 0, 0) from by decide +kernel) rfl (tt_iconst (pc := 6) (show xcode 151 6 = some (.iconst 0, 1, 0, 0) from by decide +kernel) (by decide +kernel) (tt_putI (pc := 7) (show xcode 151 7 = some (.putfield 149, 3, 11, 20) from by decide +kernel) (by decide +kernel) (tt_aload_n (pc := 10) (show xcode 151 10 = some (.aload_n 0, 1, 0, 0) from by decide +kernel) rfl (tt_iload_n (pc := 11) (show xcode 151 11 = some (.iload_n 1, 1, 0, 0) from by decide +kernel) rfl (tt_putI (pc := 12) (show xcode 151 12 = some (.putfield 51, 3, 11, 21) from by decide +kernel) (by decide +kernel) (tt_ret0 (pc := 15) (show xcode 151 15 = some (.return_, 1, 0, 0) from by decide +kernel) (by decide +kernel) (by decide +kernel)))))))))))
theorem ym_151 {G : yG} {xrec : Nat → List Value → XW → Option (XO × XW)} {xs : List Int32} {E : yE} {rec : yCl} (hE : yOk G xs E) (hR : yRecOk G rec xrec) (t : Nat) : yGd G xrec xs E rec 151 63 t (yb_151 t) := g_leaf (yg_151_0 hE hR)
theorem yq_151 {G : yG} {xrec : Nat → List Value → XW → Option (XO × XW)} {xs : List Int32} {E : yE} {rec : yCl} (hE : yOk G xs E) (hR : yRecOk G rec xrec) {a : Nat} (h : a = 151) : yQp G xrec xs E rec a (nat_lit 2, yb_151) := by subst h; exact ⟨by decide +kernel, fun t => ym_151 hE hR t⟩
theorem yg_256_0 {G : yG} {xrec : Nat → List Value → XW → Option (XO × XW)} {xs : List Int32} {E : yE} {rec : yCl} (hE : yOk G xs E) (hR : yRecOk G rec xrec) : yGd G xrec xs E rec 256 63 0 yc_256_0 := yGd_mono (by decide +kernel) (tt_new (pc := 0) (show xcode 256 0 = some (.new 8, 3, 10, 0) from by decide +kernel) (by decide +kernel) (yd_10_e G) (g_dup (pc := 3) (show xcode 256 3 = some (.dup, 1, 0, 0) from by decide +kernel) (tt_calI (pc := 4) hR (show xcode 256 4 = some (.invokespecial 124, 3, 70, 0) from by decide +kernel) (by decide +kernel) (by decide +kernel) (tt_astore_n (pc := 7) (show xcode 256 7 = some (.astore_n 1, 1, 0, 0) from by decide +kernel) rfl (by decide +kernel) (tt_new (pc := 8) (show xcode 256 8 = some (.new 125, 3, 11, 0) from by decide +kernel) (by decide +kernel) (yd_11_e G) (g_dup (pc := 11) (show xcode 256 11 = some (.dup, 1, 0, 0) from by decide +kernel) (tt_calI (pc := 12) hR (show xcode 256 12 = some (.invokespecial 127, 3, 129, 0) from by decide +kernel) (by decide +kernel) (by decide +kernel) (tt_astore_n (pc := 15) (show xcode 256 15 = some (.astore_n 2, 1, 0, 0) from by decide +kernel) rfl (by decide +kernel) (tt_iconst (pc := 16) (show xcode 256 16 = some (.iconst 1, 1, 0, 0) from by decide +kernel) (by decide +kernel) (tt_newarray (pc := 17) (show xcode 256 17 = some (.newarray .long, 2, 101, 0) from by decide +kernel) (by decide +kernel) rfl (tt_astore_n (pc := 19) (show xcode 256 19 = some (.astore_n 3, 1, 0, 0) from by decide +kernel) rfl (by decide +kernel) (tt_iconst (pc := 20) (show xcode 256 20 = some (.iconst 0, 1, 0, 0) from by decide +kernel) (by decide +kernel) (tt_istore (pc := 21) (show xcode 256 21 = some (.istore 4, 2, 0, 0) from by decide +kernel) (by decide +kernel) (g_lab))))))))))))))
theorem ym_256 {G : yG} {xrec : Nat → List Value → XW → Option (XO × XW)} {xs : List Int32} {E : yE} {rec : yCl} (hE : yOk G xs E) (hR : yRecOk G rec xrec) (t : Nat) : yGd G xrec xs E rec 256 63 t (yb_256 t) := g_leaf (yg_256_0 hE hR)
theorem yq_256 {G : yG} {xrec : Nat → List Value → XW → Option (XO × XW)} {xs : List Int32} {E : yE} {rec : yCl} (hE : yOk G xs E) (hR : yRecOk G rec xrec) {a : Nat} (h : a = 256) : yQp G xrec xs E rec a (nat_lit 8, yb_256) := by subst h; exact ⟨by decide +kernel, fun t => ym_256 hE hR t⟩
theorem yP_ok {G : yG} {xs : List Int32} {E : yE} (hE : yOk G xs E) : yBlk G xs E yP := fun rec xrec hR a ha => show yQp G xrec xs E rec a (yP a) from g_tree 49 (fun h0 => g_tree 17 (fun h1 => g_tree 11 (fun h2 => g_tree 3 (fun h3 => g_tree 1 (fun h4 => yq_0 hE hR (by omega)) (fun h4 => ⟨rfl, fun _ => g_bad2⟩)) (fun h3 => g_tree 4 (fun h4 => yq_3 hE hR (by omega)) (fun h4 => g_tree 5 (fun h5 => yq_4 hE hR (by omega)) (fun h5 => ⟨rfl, fun _ => g_bad2⟩)))) (fun h2 => g_tree 14 (fun h3 => g_tree 12 (fun h4 => yq_11 hE hR (by omega)) (fun h4 => g_tree 13 (fun h5 => yq_12 hE hR (by omega)) (fun h5 => yq_13 hE hR (by omega)))) (fun h3 => g_tree 15 (fun h4 => ⟨rfl, fun _ => g_bad2⟩) (fun h4 => g_tree 16 (fun h5 => yq_15 hE hR (by omega)) (fun h5 => ⟨rfl, fun _ => g_bad2⟩))))) (fun h1 => g_tree 28 (fun h2 => g_tree 23 (fun h3 => g_tree 18 (fun h4 => yq_17 hE hR (by omega)) (fun h4 => g_tree 22 (fun h5 => ⟨rfl, fun _ => g_bad2⟩) (fun h5 => yq_22 hE hR (by omega)))) (fun h3 => g_tree 24 (fun h4 => yq_23 hE hR (by omega)) (fun h4 => g_tree 27 (fun h5 => ⟨rfl, fun _ => g_bad2⟩) (fun h5 => yq_27 hE hR (by omega))))) (fun h2 => g_tree 38 (fun h3 => g_tree 36 (fun h4 => ⟨rfl, fun _ => g_bad2⟩) (fun h4 => g_tree 37 (fun h5 => yq_36 hE hR (by omega)) (fun h5 => ⟨rfl, fun _ => g_bad2⟩))) (fun h3 => g_tree 39 (fun h4 => yq_38 hE hR (by omega)) (fun h4 => g_tree 48 (fun h5 => ⟨rfl, fun _ => g_bad2⟩) (fun h5 => yq_48 hE hR (by omega))))))) (fun h0 => g_tree 134 (fun h1 => g_tree 65 (fun h2 => g_tree 52 (fun h3 => g_tree 51 (fun h4 => ⟨rfl, fun _ => g_bad2⟩) (fun h4 => yq_51 hE hR (by omega))) (fun h3 => g_tree 56 (fun h4 => ⟨rfl, fun _ => g_bad2⟩) (fun h4 => g_tree 57 (fun h5 => yq_56 hE hR (by omega)) (fun h5 => ⟨rfl, fun _ => g_bad2⟩)))) (fun h2 => g_tree 71 (fun h3 => g_tree 66 (fun h4 => yq_65 hE hR (by omega)) (fun h4 => g_tree 70 (fun h5 => ⟨rfl, fun _ => g_bad2⟩) (fun h5 => yq_70 hE hR (by omega)))) (fun h3 => g_tree 129 (fun h4 => ⟨rfl, fun _ => g_bad2⟩) (fun h4 => g_tree 130 (fun h5 => yq_129 hE hR (by omega)) (fun h5 => ⟨rfl, fun _ => g_bad2⟩))))) (fun h1 => g_tree 146 (fun h2 => g_tree 137 (fun h3 => g_tree 135 (fun h4 => yq_134 hE hR (by omega)) (fun h4 => g_tree 136 (fun h5 => ⟨rfl, fun _ => g_bad2⟩) (fun h5 => yq_136 hE hR (by omega)))) (fun h3 => g_tree 144 (fun h4 => ⟨rfl, fun _ => g_bad2⟩) (fun h4 => g_tree 145 (fun h5 => yq_144 hE hR (by omega)) (fun h5 => yq_145 hE hR (by omega))))) (fun h2 => g_tree 151 (fun h3 => g_tree 147 (fun h4 => yq_146 hE hR (by omega)) (fun h4 => g_tree 148 (fun h5 => yq_147 hE hR (by omega)) (fun h5 => ⟨rfl, fun _ => g_bad2⟩))) (fun h3 => g_tree 152 (fun h4 => yq_151 hE hR (by omega)) (fun h4 => g_tree 256 (fun h5 => ⟨rfl, fun _ => g_bad2⟩) (fun h5 => yq_256 hE hR (by omega)))))))
end
section
/-! The state of the fast machine behind the constructors. -/
noncomputable section
def yt_0 : yT := (.branch (nat_lit 0) (.branch (nat_lit 0) (.branch (nat_lit 0) (.branch (nat_lit 0) (.leaf (y_r (nat_lit 1))) (.leaf (y_r (nat_lit 108)))) (.branch (nat_lit 0) (.leaf (y_r (nat_lit 99))) (.leaf (y_z)))) (.branch (nat_lit 0) (y_rep (nat_lit 1) (y_z)) (.branch (nat_lit 0) (.leaf (y_r (nat_lit 101))) (.leaf (y_z))))) (.branch (nat_lit 0) (.branch (nat_lit 0) (.branch (nat_lit 0) (.leaf (y_r (nat_lit 13))) (.leaf (y_r (nat_lit 113)))) (.branch (nat_lit 0) (.leaf (y_i (nat_lit 4294967295))) (.leaf (y_z)))) (.branch (nat_lit 0) (.branch (nat_lit 0) (.leaf (y_r (nat_lit 25))) (.leaf (y_z))) (.branch (nat_lit 0) (.leaf (y_r (nat_lit 105))) (.leaf (y_z))))))
def yt_1 : yT := (.branch (nat_lit 0) (.branch (nat_lit 0) (.branch (nat_lit 0) (.branch (nat_lit 0) (.leaf (y_r (nat_lit 2))) (.leaf (y_z))) (y_rep (nat_lit 1) (y_z))) (.branch (nat_lit 0) (.branch (nat_lit 0) (.leaf (y_r (nat_lit 9))) (.leaf (y_z))) (y_rep (nat_lit 1) (y_z)))) (.branch (nat_lit 0) (.branch (nat_lit 0) (.branch (nat_lit 0) (.leaf (y_r (nat_lit 6))) (.leaf (y_z))) (.branch (nat_lit 0) (.leaf (y_i (nat_lit 1))) (.leaf (y_z)))) (.branch (nat_lit 0) (.branch (nat_lit 0) (.leaf (y_r (nat_lit 12))) (.leaf (y_z))) (y_rep (nat_lit 1) (y_z)))))
def yt_2 : yT := (.branch (nat_lit 0) (.branch (nat_lit 0) (.branch (nat_lit 0) (.branch (nat_lit 0) (.leaf (y_i (nat_lit 4))) (.leaf (y_z))) (.branch (nat_lit 0) (.leaf (y_r (nat_lit 5))) (.leaf (y_z)))) (.branch (nat_lit 0) (.branch (nat_lit 0) (.leaf (y_r (nat_lit 3))) (.leaf (y_z))) (y_rep (nat_lit 1) (y_z)))) (.branch (nat_lit 0) (.branch (nat_lit 0) (.branch (nat_lit 0) (.leaf (y_i (nat_lit 3))) (.leaf (y_z))) (y_rep (nat_lit 1) (y_z))) (.branch (nat_lit 0) (.branch (nat_lit 0) (.leaf (y_r (nat_lit 4))) (.leaf (y_z))) (y_rep (nat_lit 1) (y_z)))))
def yt_3 : yT := (y_rep (nat_lit 6) (y_z))
def yt_4 : yT := (.branch (nat_lit 0) (.branch (nat_lit 0) (.branch (nat_lit 0) (.branch (nat_lit 0) (.branch (nat_lit 0) (y_rep (nat_lit 1) (y_i (nat_lit 1))) (.branch (nat_lit 0) (.leaf (y_i (nat_lit 1))) (.leaf (y_z)))) (.branch (nat_lit 0) (.branch (nat_lit 0) (.leaf (y_i (nat_lit 1))) (.leaf (y_z))) (.branch (nat_lit 0) (.leaf (y_i (nat_lit 1))) (.leaf (y_z))))) (.branch (nat_lit 0) (.branch (nat_lit 0) (.branch (nat_lit 0) (.leaf (y_i (nat_lit 1))) (.leaf (y_z))) (.branch (nat_lit 0) (.leaf (y_i (nat_lit 1))) (.leaf (y_z)))) (.branch (nat_lit 0) (.branch (nat_lit 0) (.leaf (y_i (nat_lit 1))) (.leaf (y_z))) (.branch (nat_lit 0) (.leaf (y_i (nat_lit 1))) (.leaf (y_z)))))) (.branch (nat_lit 0) (.branch (nat_lit 0) (.branch (nat_lit 0) (y_rep (nat_lit 1) (y_i (nat_lit 1))) (.branch (nat_lit 0) (.leaf (y_i (nat_lit 1))) (.leaf (y_z)))) (.branch (nat_lit 0) (.branch (nat_lit 0) (.leaf (y_i (nat_lit 1))) (.leaf (y_z))) (.branch (nat_lit 0) (.leaf (y_i (nat_lit 1))) (.leaf (y_z))))) (.branch (nat_lit 0) (.branch (nat_lit 0) (.branch (nat_lit 0) (.leaf (y_i (nat_lit 1))) (.leaf (y_z))) (.branch (nat_lit 0) (.leaf (y_i (nat_lit 1))) (.leaf (y_z)))) (.branch (nat_lit 0) (.branch (nat_lit 0) (.leaf (y_i (nat_lit 1))) (.leaf (y_z))) (.branch (nat_lit 0) (.leaf (y_i (nat_lit 1))) (.leaf (y_z))))))) (.branch (nat_lit 0) (.branch (nat_lit 0) (.branch (nat_lit 0) (.branch (nat_lit 0) (y_rep (nat_lit 1) (y_i (nat_lit 1))) (.branch (nat_lit 0) (.leaf (y_i (nat_lit 1))) (.leaf (y_z)))) (.branch (nat_lit 0) (.branch (nat_lit 0) (.leaf (y_i (nat_lit 1))) (.leaf (y_z))) (.branch (nat_lit 0) (.leaf (y_i (nat_lit 1))) (.leaf (y_z))))) (.branch (nat_lit 0) (.branch (nat_lit 0) (.branch (nat_lit 0) (.leaf (y_i (nat_lit 1))) (.leaf (y_z))) (.branch (nat_lit 0) (.leaf (y_i (nat_lit 1))) (.leaf (y_z)))) (.branch (nat_lit 0) (.branch (nat_lit 0) (.leaf (y_i (nat_lit 1))) (.leaf (y_z))) (.branch (nat_lit 0) (.leaf (y_i (nat_lit 1))) (.leaf (y_z)))))) (.branch (nat_lit 0) (.branch (nat_lit 0) (.branch (nat_lit 0) (y_rep (nat_lit 1) (y_i (nat_lit 1))) (.branch (nat_lit 0) (.leaf (y_i (nat_lit 1))) (.leaf (y_z)))) (.branch (nat_lit 0) (.branch (nat_lit 0) (.leaf (y_i (nat_lit 1))) (.leaf (y_z))) (.branch (nat_lit 0) (.leaf (y_i (nat_lit 1))) (.leaf (y_z))))) (.branch (nat_lit 0) (.branch (nat_lit 0) (.branch (nat_lit 0) (.leaf (y_i (nat_lit 1))) (.leaf (y_z))) (.branch (nat_lit 0) (.leaf (y_i (nat_lit 1))) (.leaf (y_z)))) (.branch (nat_lit 0) (.branch (nat_lit 0) (.leaf (y_i (nat_lit 1))) (.leaf (y_z))) (.branch (nat_lit 0) (.leaf (y_i (nat_lit 1))) (.leaf (y_z))))))))
def yt_5 : yT := (.branch (nat_lit 0) (.branch (nat_lit 0) (.branch (nat_lit 0) (.branch (nat_lit 0) (.branch (nat_lit 0) (.branch (nat_lit 0) (y_rep (nat_lit 2) (y_z)) (.branch (nat_lit 0) (.branch (nat_lit 0) (.leaf (y_i (nat_lit 4))) (.leaf (y_z))) (y_rep (nat_lit 1) (y_z)))) (y_rep (nat_lit 3) (y_z))) (.branch (nat_lit 0) (.branch (nat_lit 0) (.branch (nat_lit 0) (.branch (nat_lit 0) (.leaf (y_i (nat_lit 2))) (.leaf (y_z))) (y_rep (nat_lit 1) (y_z))) (.branch (nat_lit 0) (.branch (nat_lit 0) (.leaf (y_i (nat_lit 6))) (.leaf (y_z))) (y_rep (nat_lit 1) (y_z)))) (.branch (nat_lit 0) (.branch (nat_lit 0) (.branch (nat_lit 0) (.leaf (y_i (nat_lit 2))) (.leaf (y_z))) (y_rep (nat_lit 1) (y_z))) (y_rep (nat_lit 2) (y_z))))) (.branch (nat_lit 0) (.branch (nat_lit 0) (.branch (nat_lit 0) (.branch (nat_lit 0) (.branch (nat_lit 0) (.leaf (y_i (nat_lit 1))) (.leaf (y_z))) (y_rep (nat_lit 1) (y_z))) (.branch (nat_lit 0) (.branch (nat_lit 0) (.leaf (y_i (nat_lit 5))) (.leaf (y_z))) (y_rep (nat_lit 1) (y_z)))) (.branch (nat_lit 0) (.branch (nat_lit 0) (.branch (nat_lit 0) (.leaf (y_i (nat_lit 1))) (.leaf (y_z))) (y_rep (nat_lit 1) (y_z))) (y_rep (nat_lit 2) (y_z)))) (.branch (nat_lit 0) (.branch (nat_lit 0) (.branch (nat_lit 0) (.branch (nat_lit 0) (.leaf (y_i (nat_lit 3))) (.leaf (y_z))) (y_rep (nat_lit 1) (y_z))) (.branch (nat_lit 0) (.branch (nat_lit 0) (.leaf (y_i (nat_lit 7))) (.leaf (y_z))) (y_rep (nat_lit 1) (y_z)))) (.branch (nat_lit 0) (.branch (nat_lit 0) (.branch (nat_lit 0) (.leaf (y_i (nat_lit 3))) (.leaf (y_z))) (y_rep (nat_lit 1) (y_z))) (y_rep (nat_lit 2) (y_z)))))) (.branch (nat_lit 0) (.branch (nat_lit 0) (.branch (nat_lit 0) (.branch (nat_lit 0) (.branch (nat_lit 0) (.branch (nat_lit 0) (.leaf (y_i (nat_lit 4))) (.leaf (y_z))) (y_rep (nat_lit 1) (y_z))) (.branch (nat_lit 0) (.branch (nat_lit 0) (.leaf (y_i (nat_lit 8))) (.leaf (y_z))) (y_rep (nat_lit 1) (y_z)))) (.branch (nat_lit 0) (.branch (nat_lit 0) (.branch (nat_lit 0) (.leaf (y_i (nat_lit 8))) (.leaf (y_z))) (y_rep (nat_lit 1) (y_z))) (y_rep (nat_lit 2) (y_z)))) (.branch (nat_lit 0) (.branch (nat_lit 0) (.branch (nat_lit 0) (.branch (nat_lit 0) (.leaf (y_i (nat_lit 6))) (.leaf (y_z))) (y_rep (nat_lit 1) (y_z))) (.branch (nat_lit 0) (.branch (nat_lit 0) (.leaf (y_i (nat_lit 10))) (.leaf (y_z))) (y_rep (nat_lit 1) (y_z)))) (.branch (nat_lit 0) (.branch (nat_lit 0) (.branch (nat_lit 0) (.leaf (y_i (nat_lit 10))) (.leaf (y_z))) (y_rep (nat_lit 1) (y_z))) (y_rep (nat_lit 2) (y_z))))) (.branch (nat_lit 0) (.branch (nat_lit 0) (.branch (nat_lit 0) (.branch (nat_lit 0) (.branch (nat_lit 0) (.leaf (y_i (nat_lit 5))) (.leaf (y_z))) (y_rep (nat_lit 1) (y_z))) (.branch (nat_lit 0) (.branch (nat_lit 0) (.leaf (y_i (nat_lit 9))) (.leaf (y_z))) (y_rep (nat_lit 1) (y_z)))) (.branch (nat_lit 0) (.branch (nat_lit 0) (.branch (nat_lit 0) (.leaf (y_i (nat_lit 9))) (.leaf (y_z))) (y_rep (nat_lit 1) (y_z))) (y_rep (nat_lit 2) (y_z)))) (.branch (nat_lit 0) (.branch (nat_lit 0) (.branch (nat_lit 0) (.branch (nat_lit 0) (.leaf (y_i (nat_lit 7))) (.leaf (y_z))) (y_rep (nat_lit 1) (y_z))) (.branch (nat_lit 0) (.branch (nat_lit 0) (.leaf (y_i (nat_lit 11))) (.leaf (y_z))) (y_rep (nat_lit 1) (y_z)))) (.branch (nat_lit 0) (.branch (nat_lit 0) (.branch (nat_lit 0) (.leaf (y_i (nat_lit 11))) (.leaf (y_z))) (y_rep (nat_lit 1) (y_z))) (y_rep (nat_lit 2) (y_z))))))) (.branch (nat_lit 0) (.branch (nat_lit 0) (.branch (nat_lit 0) (.branch (nat_lit 0) (.branch (nat_lit 0) (.branch (nat_lit 0) (.branch (nat_lit 0) (.leaf (y_i (nat_lit 1))) (.leaf (y_z))) (y_rep (nat_lit 1) (y_z))) (.branch (nat_lit 0) (.branch (nat_lit 0) (.leaf (y_i (nat_lit 9))) (.leaf (y_z))) (y_rep (nat_lit 1) (y_z)))) (.branch (nat_lit 0) (.branch (nat_lit 0) (.branch (nat_lit 0) (.leaf (y_i (nat_lit 5))) (.leaf (y_z))) (y_rep (nat_lit 1) (y_z))) (y_rep (nat_lit 2) (y_z)))) (.branch (nat_lit 0) (.branch (nat_lit 0) (.branch (nat_lit 0) (.branch (nat_lit 0) (.leaf (y_i (nat_lit 3))) (.leaf (y_z))) (y_rep (nat_lit 1) (y_z))) (.branch (nat_lit 0) (.branch (nat_lit 0) (.leaf (y_i (nat_lit 11))) (.leaf (y_z))) (y_rep (nat_lit 1) (y_z)))) (.branch (nat_lit 0) (.branch (nat_lit 0) (.branch (nat_lit 0) (.leaf (y_i (nat_lit 7))) (.leaf (y_z))) (y_rep (nat_lit 1) (y_z))) (y_rep (nat_lit 2) (y_z))))) (.branch (nat_lit 0) (.branch (nat_lit 0) (.branch (nat_lit 0) (.branch (nat_lit 0) (.branch (nat_lit 0) (.leaf (y_i (nat_lit 2))) (.leaf (y_z))) (y_rep (nat_lit 1) (y_z))) (.branch (nat_lit 0) (.branch (nat_lit 0) (.leaf (y_i (nat_lit 10))) (.leaf (y_z))) (y_rep (nat_lit 1) (y_z)))) (.branch (nat_lit 0) (.branch (nat_lit 0) (.branch (nat_lit 0) (.leaf (y_i (nat_lit 6))) (.leaf (y_z))) (y_rep (nat_lit 1) (y_z))) (y_rep (nat_lit 2) (y_z)))) (.branch (nat_lit 0) (.branch (nat_lit 0) (.branch (nat_lit 0) (.branch (nat_lit 0) (.leaf (y_i (nat_lit 3))) (.leaf (y_z))) (y_rep (nat_lit 1) (y_z))) (.branch (nat_lit 0) (.branch (nat_lit 0) (.leaf (y_i (nat_lit 11))) (.leaf (y_z))) (y_rep (nat_lit 1) (y_z)))) (.branch (nat_lit 0) (.branch (nat_lit 0) (.branch (nat_lit 0) (.leaf (y_i (nat_lit 7))) (.leaf (y_z))) (y_rep (nat_lit 1) (y_z))) (y_rep (nat_lit 2) (y_z)))))) (.branch (nat_lit 0) (.branch (nat_lit 0) (.branch (nat_lit 0) (.branch (nat_lit 0) (y_rep (nat_lit 2) (y_z)) (.branch (nat_lit 0) (.branch (nat_lit 0) (.leaf (y_i (nat_lit 8))) (.leaf (y_z))) (y_rep (nat_lit 1) (y_z)))) (.branch (nat_lit 0) (.branch (nat_lit 0) (.branch (nat_lit 0) (.leaf (y_i (nat_lit 4))) (.leaf (y_z))) (y_rep (nat_lit 1) (y_z))) (y_rep (nat_lit 2) (y_z)))) (.branch (nat_lit 0) (.branch (nat_lit 0) (.branch (nat_lit 0) (.branch (nat_lit 0) (.leaf (y_i (nat_lit 1))) (.leaf (y_z))) (y_rep (nat_lit 1) (y_z))) (.branch (nat_lit 0) (.branch (nat_lit 0) (.leaf (y_i (nat_lit 9))) (.leaf (y_z))) (y_rep (nat_lit 1) (y_z)))) (.branch (nat_lit 0) (.branch (nat_lit 0) (.branch (nat_lit 0) (.leaf (y_i (nat_lit 5))) (.leaf (y_z))) (y_rep (nat_lit 1) (y_z))) (y_rep (nat_lit 2) (y_z))))) (.branch (nat_lit 0) (.branch (nat_lit 0) (.branch (nat_lit 0) (y_rep (nat_lit 2) (y_z)) (.branch (nat_lit 0) (.branch (nat_lit 0) (.leaf (y_i (nat_lit 8))) (.leaf (y_z))) (y_rep (nat_lit 1) (y_z)))) (.branch (nat_lit 0) (.branch (nat_lit 0) (.branch (nat_lit 0) (.leaf (y_i (nat_lit 4))) (.leaf (y_z))) (y_rep (nat_lit 1) (y_z))) (y_rep (nat_lit 2) (y_z)))) (.branch (nat_lit 0) (.branch (nat_lit 0) (.branch (nat_lit 0) (.branch (nat_lit 0) (.leaf (y_i (nat_lit 2))) (.leaf (y_z))) (y_rep (nat_lit 1) (y_z))) (.branch (nat_lit 0) (.branch (nat_lit 0) (.leaf (y_i (nat_lit 10))) (.leaf (y_z))) (y_rep (nat_lit 1) (y_z)))) (.branch (nat_lit 0) (.branch (nat_lit 0) (.branch (nat_lit 0) (.leaf (y_i (nat_lit 6))) (.leaf (y_z))) (y_rep (nat_lit 1) (y_z))) (y_rep (nat_lit 2) (y_z))))))))
def yt_6 : yT := (.branch (nat_lit 0) (.branch (nat_lit 0) (.branch (nat_lit 0) (.branch (nat_lit 0) (.leaf (y_r (nat_lit 7))) (.leaf (y_z))) (y_rep (nat_lit 1) (y_z))) (y_rep (nat_lit 2) (y_z))) (.branch (nat_lit 0) (.branch (nat_lit 0) (.branch (nat_lit 0) (.leaf (y_r (nat_lit 8))) (.leaf (y_z))) (y_rep (nat_lit 1) (y_z))) (y_rep (nat_lit 2) (y_z))))
def yt_7 : yT := (.branch (nat_lit 0) (.branch (nat_lit 0) (.branch (nat_lit 0) (.branch (nat_lit 0) (.leaf (y_i (nat_lit 16))) (.leaf (y_z))) (y_rep (nat_lit 1) (y_z))) (y_rep (nat_lit 2) (y_z))) (y_rep (nat_lit 3) (y_z)))
def yt_8 : yT := (.branch (nat_lit 0) (.branch (nat_lit 0) (.branch (nat_lit 0) (.branch (nat_lit 0) (.leaf (y_i (nat_lit 100))) (.leaf (y_z))) (y_rep (nat_lit 1) (y_z))) (.branch (nat_lit 0) (.branch (nat_lit 0) (.leaf (y_z)) (.leaf (y_i (nat_lit 100)))) (y_rep (nat_lit 1) (y_z)))) (.branch (nat_lit 0) (.branch (nat_lit 0) (y_rep (nat_lit 1) (y_z)) (.branch (nat_lit 0) (.leaf (y_i (nat_lit 100))) (.leaf (y_z)))) (.branch (nat_lit 0) (y_rep (nat_lit 1) (y_z)) (.branch (nat_lit 0) (.leaf (y_z)) (.leaf (y_i (nat_lit 100)))))))
def yt_9 : yT := (.branch (nat_lit 0) (.branch (nat_lit 0) (.branch (nat_lit 0) (.branch (nat_lit 0) (.leaf (y_i (nat_lit 4294967295))) (.leaf (y_z))) (.branch (nat_lit 0) (.leaf (y_r (nat_lit 11))) (.leaf (y_z)))) (y_rep (nat_lit 2) (y_z))) (.branch (nat_lit 0) (y_rep (nat_lit 2) (y_z)) (.branch (nat_lit 0) (.branch (nat_lit 0) (.leaf (y_r (nat_lit 10))) (.leaf (y_z))) (y_rep (nat_lit 1) (y_z)))))
def yt_10 : yT := (y_rep (nat_lit 4) (y_z))
def yt_11 : yT := (y_rep (nat_lit 12) (y_z))
def yt_12 : yT := (.branch (nat_lit 0) (.branch (nat_lit 0) (.branch (nat_lit 0) (.branch (nat_lit 0) (.branch (nat_lit 0) (.branch (nat_lit 0) (.leaf (y_i (nat_lit 83334))) (.leaf (y_z))) (y_rep (nat_lit 1) (y_z))) (.branch (nat_lit 0) (.branch (nat_lit 0) (.leaf (y_i (nat_lit 83333))) (.leaf (y_z))) (y_rep (nat_lit 1) (y_z)))) (.branch (nat_lit 0) (.branch (nat_lit 0) (.branch (nat_lit 0) (.leaf (y_i (nat_lit 83333))) (.leaf (y_z))) (y_rep (nat_lit 1) (y_z))) (y_rep (nat_lit 2) (y_z)))) (.branch (nat_lit 0) (.branch (nat_lit 0) (.branch (nat_lit 0) (.branch (nat_lit 0) (.leaf (y_i (nat_lit 83334))) (.leaf (y_z))) (y_rep (nat_lit 1) (y_z))) (.branch (nat_lit 0) (.branch (nat_lit 0) (.leaf (y_i (nat_lit 83333))) (.leaf (y_z))) (y_rep (nat_lit 1) (y_z)))) (.branch (nat_lit 0) (.branch (nat_lit 0) (.branch (nat_lit 0) (.leaf (y_i (nat_lit 83333))) (.leaf (y_z))) (y_rep (nat_lit 1) (y_z))) (y_rep (nat_lit 2) (y_z))))) (.branch (nat_lit 0) (.branch (nat_lit 0) (.branch (nat_lit 0) (.branch (nat_lit 0) (.branch (nat_lit 0) (.leaf (y_i (nat_lit 83334))) (.leaf (y_z))) (y_rep (nat_lit 1) (y_z))) (.branch (nat_lit 0) (.branch (nat_lit 0) (.leaf (y_i (nat_lit 83333))) (.leaf (y_z))) (y_rep (nat_lit 1) (y_z)))) (.branch (nat_lit 0) (.branch (nat_lit 0) (.branch (nat_lit 0) (.leaf (y_i (nat_lit 83333))) (.leaf (y_z))) (y_rep (nat_lit 1) (y_z))) (y_rep (nat_lit 2) (y_z)))) (.branch (nat_lit 0) (.branch (nat_lit 0) (.branch (nat_lit 0) (.branch (nat_lit 0) (.leaf (y_i (nat_lit 83334))) (.leaf (y_z))) (y_rep (nat_lit 1) (y_z))) (.branch (nat_lit 0) (.branch (nat_lit 0) (.leaf (y_i (nat_lit 83333))) (.leaf (y_z))) (y_rep (nat_lit 1) (y_z)))) (.branch (nat_lit 0) (.branch (nat_lit 0) (.branch (nat_lit 0) (.leaf (y_i (nat_lit 83333))) (.leaf (y_z))) (y_rep (nat_lit 1) (y_z))) (y_rep (nat_lit 2) (y_z))))))
def yt_13 : yT := (.branch (nat_lit 0) (.branch (nat_lit 0) (.branch (nat_lit 0) (.branch (nat_lit 0) (.leaf (y_r (nat_lit 14))) (.leaf (y_z))) (y_rep (nat_lit 1) (y_z))) (.branch (nat_lit 0) (.branch (nat_lit 0) (.leaf (y_r (nat_lit 21))) (.leaf (y_z))) (y_rep (nat_lit 1) (y_z)))) (.branch (nat_lit 0) (.branch (nat_lit 0) (.branch (nat_lit 0) (.leaf (y_r (nat_lit 18))) (.leaf (y_z))) (.branch (nat_lit 0) (.leaf (y_i (nat_lit 1))) (.leaf (y_z)))) (.branch (nat_lit 0) (.branch (nat_lit 0) (.leaf (y_r (nat_lit 24))) (.leaf (y_z))) (y_rep (nat_lit 1) (y_z)))))
def yt_14 : yT := (.branch (nat_lit 0) (.branch (nat_lit 0) (.branch (nat_lit 0) (.branch (nat_lit 0) (.leaf (y_i (nat_lit 4))) (.leaf (y_z))) (.branch (nat_lit 0) (.leaf (y_r (nat_lit 17))) (.leaf (y_z)))) (.branch (nat_lit 0) (.branch (nat_lit 0) (.leaf (y_r (nat_lit 15))) (.leaf (y_z))) (y_rep (nat_lit 1) (y_z)))) (.branch (nat_lit 0) (.branch (nat_lit 0) (.branch (nat_lit 0) (.leaf (y_i (nat_lit 3))) (.leaf (y_z))) (y_rep (nat_lit 1) (y_z))) (.branch (nat_lit 0) (.branch (nat_lit 0) (.leaf (y_r (nat_lit 16))) (.leaf (y_z))) (y_rep (nat_lit 1) (y_z)))))
def yt_15 : yT := (.branch (nat_lit 0) (.branch (nat_lit 0) (.branch (nat_lit 0) (.branch (nat_lit 0) (.leaf (y_r (nat_lit 19))) (.leaf (y_z))) (y_rep (nat_lit 1) (y_z))) (y_rep (nat_lit 2) (y_z))) (.branch (nat_lit 0) (.branch (nat_lit 0) (.branch (nat_lit 0) (.leaf (y_r (nat_lit 20))) (.leaf (y_z))) (y_rep (nat_lit 1) (y_z))) (y_rep (nat_lit 2) (y_z))))
def yt_16 : yT := (.branch (nat_lit 0) (.branch (nat_lit 0) (.branch (nat_lit 0) (.branch (nat_lit 0) (.leaf (y_i (nat_lit 4294967295))) (.leaf (y_z))) (.branch (nat_lit 0) (.leaf (y_r (nat_lit 23))) (.leaf (y_z)))) (y_rep (nat_lit 2) (y_z))) (.branch (nat_lit 0) (y_rep (nat_lit 2) (y_z)) (.branch (nat_lit 0) (.branch (nat_lit 0) (.leaf (y_r (nat_lit 22))) (.leaf (y_z))) (y_rep (nat_lit 1) (y_z)))))
def yt_17 : yT := (.branch (nat_lit 0) (.branch (nat_lit 0) (.branch (nat_lit 0) (.branch (nat_lit 0) (.leaf (y_r (nat_lit 26))) (.leaf (y_z))) (y_rep (nat_lit 1) (y_z))) (y_rep (nat_lit 2) (y_z))) (y_rep (nat_lit 3) (y_z)))
def yt_18 : yT := (.branch (nat_lit 0) (.branch (nat_lit 0) (.branch (nat_lit 0) (.branch (nat_lit 0) (.leaf (y_r (nat_lit 27))) (.leaf (y_v .null))) (.branch (nat_lit 0) (.leaf (y_r (nat_lit 75))) (.leaf (y_v .null)))) (.branch (nat_lit 0) (.branch (nat_lit 0) (.leaf (y_r (nat_lit 51))) (.leaf (y_v .null))) (y_rep (nat_lit 1) (y_v .null)))) (.branch (nat_lit 0) (.branch (nat_lit 0) (.branch (nat_lit 0) (.leaf (y_r (nat_lit 39))) (.leaf (y_v .null))) (.branch (nat_lit 0) (.leaf (y_r (nat_lit 87))) (.leaf (y_v .null)))) (.branch (nat_lit 0) (.branch (nat_lit 0) (.leaf (y_r (nat_lit 63))) (.leaf (y_v .null))) (y_rep (nat_lit 1) (y_v .null)))))
def yt_19 : yT := (.branch (nat_lit 0) (.branch (nat_lit 0) (.branch (nat_lit 0) (.branch (nat_lit 0) (.leaf (y_r (nat_lit 28))) (.leaf (y_z))) (y_rep (nat_lit 1) (y_z))) (.branch (nat_lit 0) (.branch (nat_lit 0) (.leaf (y_r (nat_lit 35))) (.leaf (y_z))) (y_rep (nat_lit 1) (y_z)))) (.branch (nat_lit 0) (.branch (nat_lit 0) (.branch (nat_lit 0) (.leaf (y_r (nat_lit 32))) (.leaf (y_z))) (.branch (nat_lit 0) (.leaf (y_i (nat_lit 1))) (.leaf (y_z)))) (.branch (nat_lit 0) (.branch (nat_lit 0) (.leaf (y_r (nat_lit 38))) (.leaf (y_z))) (y_rep (nat_lit 1) (y_z)))))
def yt_20 : yT := (.branch (nat_lit 0) (.branch (nat_lit 0) (.branch (nat_lit 0) (.branch (nat_lit 0) (.leaf (y_i (nat_lit 4))) (.leaf (y_z))) (.branch (nat_lit 0) (.leaf (y_r (nat_lit 31))) (.leaf (y_z)))) (.branch (nat_lit 0) (.branch (nat_lit 0) (.leaf (y_r (nat_lit 29))) (.leaf (y_z))) (y_rep (nat_lit 1) (y_z)))) (.branch (nat_lit 0) (.branch (nat_lit 0) (.branch (nat_lit 0) (.leaf (y_i (nat_lit 3))) (.leaf (y_z))) (y_rep (nat_lit 1) (y_z))) (.branch (nat_lit 0) (.branch (nat_lit 0) (.leaf (y_r (nat_lit 30))) (.leaf (y_z))) (y_rep (nat_lit 1) (y_z)))))
def yt_21 : yT := (.branch (nat_lit 0) (.branch (nat_lit 0) (.branch (nat_lit 0) (.branch (nat_lit 0) (.leaf (y_r (nat_lit 33))) (.leaf (y_z))) (y_rep (nat_lit 1) (y_z))) (y_rep (nat_lit 2) (y_z))) (.branch (nat_lit 0) (.branch (nat_lit 0) (.branch (nat_lit 0) (.leaf (y_r (nat_lit 34))) (.leaf (y_z))) (y_rep (nat_lit 1) (y_z))) (y_rep (nat_lit 2) (y_z))))
def yt_22 : yT := (.branch (nat_lit 0) (.branch (nat_lit 0) (.branch (nat_lit 0) (.branch (nat_lit 0) (.leaf (y_i (nat_lit 4294967295))) (.leaf (y_z))) (.branch (nat_lit 0) (.leaf (y_r (nat_lit 37))) (.leaf (y_z)))) (y_rep (nat_lit 2) (y_z))) (.branch (nat_lit 0) (y_rep (nat_lit 2) (y_z)) (.branch (nat_lit 0) (.branch (nat_lit 0) (.leaf (y_r (nat_lit 36))) (.leaf (y_z))) (y_rep (nat_lit 1) (y_z)))))
def yt_23 : yT := (.branch (nat_lit 0) (.branch (nat_lit 0) (.branch (nat_lit 0) (.branch (nat_lit 0) (.leaf (y_r (nat_lit 40))) (.leaf (y_z))) (y_rep (nat_lit 1) (y_z))) (.branch (nat_lit 0) (.branch (nat_lit 0) (.leaf (y_r (nat_lit 47))) (.leaf (y_z))) (y_rep (nat_lit 1) (y_z)))) (.branch (nat_lit 0) (.branch (nat_lit 0) (.branch (nat_lit 0) (.leaf (y_r (nat_lit 44))) (.leaf (y_z))) (.branch (nat_lit 0) (.leaf (y_i (nat_lit 1))) (.leaf (y_z)))) (.branch (nat_lit 0) (.branch (nat_lit 0) (.leaf (y_r (nat_lit 50))) (.leaf (y_z))) (y_rep (nat_lit 1) (y_z)))))
def yt_24 : yT := (.branch (nat_lit 0) (.branch (nat_lit 0) (.branch (nat_lit 0) (.branch (nat_lit 0) (.leaf (y_i (nat_lit 4))) (.leaf (y_z))) (.branch (nat_lit 0) (.leaf (y_r (nat_lit 43))) (.leaf (y_z)))) (.branch (nat_lit 0) (.branch (nat_lit 0) (.leaf (y_r (nat_lit 41))) (.leaf (y_z))) (y_rep (nat_lit 1) (y_z)))) (.branch (nat_lit 0) (.branch (nat_lit 0) (.branch (nat_lit 0) (.leaf (y_i (nat_lit 3))) (.leaf (y_z))) (y_rep (nat_lit 1) (y_z))) (.branch (nat_lit 0) (.branch (nat_lit 0) (.leaf (y_r (nat_lit 42))) (.leaf (y_z))) (y_rep (nat_lit 1) (y_z)))))
def yt_25 : yT := (.branch (nat_lit 0) (.branch (nat_lit 0) (.branch (nat_lit 0) (.branch (nat_lit 0) (.leaf (y_r (nat_lit 45))) (.leaf (y_z))) (y_rep (nat_lit 1) (y_z))) (y_rep (nat_lit 2) (y_z))) (.branch (nat_lit 0) (.branch (nat_lit 0) (.branch (nat_lit 0) (.leaf (y_r (nat_lit 46))) (.leaf (y_z))) (y_rep (nat_lit 1) (y_z))) (y_rep (nat_lit 2) (y_z))))
def yt_26 : yT := (.branch (nat_lit 0) (.branch (nat_lit 0) (.branch (nat_lit 0) (.branch (nat_lit 0) (.leaf (y_i (nat_lit 4294967295))) (.leaf (y_z))) (.branch (nat_lit 0) (.leaf (y_r (nat_lit 49))) (.leaf (y_z)))) (y_rep (nat_lit 2) (y_z))) (.branch (nat_lit 0) (y_rep (nat_lit 2) (y_z)) (.branch (nat_lit 0) (.branch (nat_lit 0) (.leaf (y_r (nat_lit 48))) (.leaf (y_z))) (y_rep (nat_lit 1) (y_z)))))
def yt_27 : yT := (.branch (nat_lit 0) (.branch (nat_lit 0) (.branch (nat_lit 0) (.branch (nat_lit 0) (.leaf (y_r (nat_lit 52))) (.leaf (y_z))) (y_rep (nat_lit 1) (y_z))) (.branch (nat_lit 0) (.branch (nat_lit 0) (.leaf (y_r (nat_lit 59))) (.leaf (y_z))) (y_rep (nat_lit 1) (y_z)))) (.branch (nat_lit 0) (.branch (nat_lit 0) (.branch (nat_lit 0) (.leaf (y_r (nat_lit 56))) (.leaf (y_z))) (.branch (nat_lit 0) (.leaf (y_i (nat_lit 1))) (.leaf (y_z)))) (.branch (nat_lit 0) (.branch (nat_lit 0) (.leaf (y_r (nat_lit 62))) (.leaf (y_z))) (y_rep (nat_lit 1) (y_z)))))
def yt_28 : yT := (.branch (nat_lit 0) (.branch (nat_lit 0) (.branch (nat_lit 0) (.branch (nat_lit 0) (.leaf (y_i (nat_lit 4))) (.leaf (y_z))) (.branch (nat_lit 0) (.leaf (y_r (nat_lit 55))) (.leaf (y_z)))) (.branch (nat_lit 0) (.branch (nat_lit 0) (.leaf (y_r (nat_lit 53))) (.leaf (y_z))) (y_rep (nat_lit 1) (y_z)))) (.branch (nat_lit 0) (.branch (nat_lit 0) (.branch (nat_lit 0) (.leaf (y_i (nat_lit 3))) (.leaf (y_z))) (y_rep (nat_lit 1) (y_z))) (.branch (nat_lit 0) (.branch (nat_lit 0) (.leaf (y_r (nat_lit 54))) (.leaf (y_z))) (y_rep (nat_lit 1) (y_z)))))
def yt_29 : yT := (.branch (nat_lit 0) (.branch (nat_lit 0) (.branch (nat_lit 0) (.branch (nat_lit 0) (.leaf (y_r (nat_lit 57))) (.leaf (y_z))) (y_rep (nat_lit 1) (y_z))) (y_rep (nat_lit 2) (y_z))) (.branch (nat_lit 0) (.branch (nat_lit 0) (.branch (nat_lit 0) (.leaf (y_r (nat_lit 58))) (.leaf (y_z))) (y_rep (nat_lit 1) (y_z))) (y_rep (nat_lit 2) (y_z))))
def yt_30 : yT := (.branch (nat_lit 0) (.branch (nat_lit 0) (.branch (nat_lit 0) (.branch (nat_lit 0) (.leaf (y_i (nat_lit 4294967295))) (.leaf (y_z))) (.branch (nat_lit 0) (.leaf (y_r (nat_lit 61))) (.leaf (y_z)))) (y_rep (nat_lit 2) (y_z))) (.branch (nat_lit 0) (y_rep (nat_lit 2) (y_z)) (.branch (nat_lit 0) (.branch (nat_lit 0) (.leaf (y_r (nat_lit 60))) (.leaf (y_z))) (y_rep (nat_lit 1) (y_z)))))
def yt_31 : yT := (.branch (nat_lit 0) (.branch (nat_lit 0) (.branch (nat_lit 0) (.branch (nat_lit 0) (.leaf (y_r (nat_lit 64))) (.leaf (y_z))) (y_rep (nat_lit 1) (y_z))) (.branch (nat_lit 0) (.branch (nat_lit 0) (.leaf (y_r (nat_lit 71))) (.leaf (y_z))) (y_rep (nat_lit 1) (y_z)))) (.branch (nat_lit 0) (.branch (nat_lit 0) (.branch (nat_lit 0) (.leaf (y_r (nat_lit 68))) (.leaf (y_z))) (.branch (nat_lit 0) (.leaf (y_i (nat_lit 1))) (.leaf (y_z)))) (.branch (nat_lit 0) (.branch (nat_lit 0) (.leaf (y_r (nat_lit 74))) (.leaf (y_z))) (y_rep (nat_lit 1) (y_z)))))
def yt_32 : yT := (.branch (nat_lit 0) (.branch (nat_lit 0) (.branch (nat_lit 0) (.branch (nat_lit 0) (.leaf (y_i (nat_lit 4))) (.leaf (y_z))) (.branch (nat_lit 0) (.leaf (y_r (nat_lit 67))) (.leaf (y_z)))) (.branch (nat_lit 0) (.branch (nat_lit 0) (.leaf (y_r (nat_lit 65))) (.leaf (y_z))) (y_rep (nat_lit 1) (y_z)))) (.branch (nat_lit 0) (.branch (nat_lit 0) (.branch (nat_lit 0) (.leaf (y_i (nat_lit 3))) (.leaf (y_z))) (y_rep (nat_lit 1) (y_z))) (.branch (nat_lit 0) (.branch (nat_lit 0) (.leaf (y_r (nat_lit 66))) (.leaf (y_z))) (y_rep (nat_lit 1) (y_z)))))
def yt_33 : yT := (.branch (nat_lit 0) (.branch (nat_lit 0) (.branch (nat_lit 0) (.branch (nat_lit 0) (.leaf (y_r (nat_lit 69))) (.leaf (y_z))) (y_rep (nat_lit 1) (y_z))) (y_rep (nat_lit 2) (y_z))) (.branch (nat_lit 0) (.branch (nat_lit 0) (.branch (nat_lit 0) (.leaf (y_r (nat_lit 70))) (.leaf (y_z))) (y_rep (nat_lit 1) (y_z))) (y_rep (nat_lit 2) (y_z))))
def yt_34 : yT := (.branch (nat_lit 0) (.branch (nat_lit 0) (.branch (nat_lit 0) (.branch (nat_lit 0) (.leaf (y_i (nat_lit 4294967295))) (.leaf (y_z))) (.branch (nat_lit 0) (.leaf (y_r (nat_lit 73))) (.leaf (y_z)))) (y_rep (nat_lit 2) (y_z))) (.branch (nat_lit 0) (y_rep (nat_lit 2) (y_z)) (.branch (nat_lit 0) (.branch (nat_lit 0) (.leaf (y_r (nat_lit 72))) (.leaf (y_z))) (y_rep (nat_lit 1) (y_z)))))
def yt_35 : yT := (.branch (nat_lit 0) (.branch (nat_lit 0) (.branch (nat_lit 0) (.branch (nat_lit 0) (.leaf (y_r (nat_lit 76))) (.leaf (y_z))) (y_rep (nat_lit 1) (y_z))) (.branch (nat_lit 0) (.branch (nat_lit 0) (.leaf (y_r (nat_lit 83))) (.leaf (y_z))) (y_rep (nat_lit 1) (y_z)))) (.branch (nat_lit 0) (.branch (nat_lit 0) (.branch (nat_lit 0) (.leaf (y_r (nat_lit 80))) (.leaf (y_z))) (.branch (nat_lit 0) (.leaf (y_i (nat_lit 1))) (.leaf (y_z)))) (.branch (nat_lit 0) (.branch (nat_lit 0) (.leaf (y_r (nat_lit 86))) (.leaf (y_z))) (y_rep (nat_lit 1) (y_z)))))
def yt_36 : yT := (.branch (nat_lit 0) (.branch (nat_lit 0) (.branch (nat_lit 0) (.branch (nat_lit 0) (.leaf (y_i (nat_lit 4))) (.leaf (y_z))) (.branch (nat_lit 0) (.leaf (y_r (nat_lit 79))) (.leaf (y_z)))) (.branch (nat_lit 0) (.branch (nat_lit 0) (.leaf (y_r (nat_lit 77))) (.leaf (y_z))) (y_rep (nat_lit 1) (y_z)))) (.branch (nat_lit 0) (.branch (nat_lit 0) (.branch (nat_lit 0) (.leaf (y_i (nat_lit 3))) (.leaf (y_z))) (y_rep (nat_lit 1) (y_z))) (.branch (nat_lit 0) (.branch (nat_lit 0) (.leaf (y_r (nat_lit 78))) (.leaf (y_z))) (y_rep (nat_lit 1) (y_z)))))
def yt_37 : yT := (.branch (nat_lit 0) (.branch (nat_lit 0) (.branch (nat_lit 0) (.branch (nat_lit 0) (.leaf (y_r (nat_lit 81))) (.leaf (y_z))) (y_rep (nat_lit 1) (y_z))) (y_rep (nat_lit 2) (y_z))) (.branch (nat_lit 0) (.branch (nat_lit 0) (.branch (nat_lit 0) (.leaf (y_r (nat_lit 82))) (.leaf (y_z))) (y_rep (nat_lit 1) (y_z))) (y_rep (nat_lit 2) (y_z))))
def yt_38 : yT := (.branch (nat_lit 0) (.branch (nat_lit 0) (.branch (nat_lit 0) (.branch (nat_lit 0) (.leaf (y_i (nat_lit 4294967295))) (.leaf (y_z))) (.branch (nat_lit 0) (.leaf (y_r (nat_lit 85))) (.leaf (y_z)))) (y_rep (nat_lit 2) (y_z))) (.branch (nat_lit 0) (y_rep (nat_lit 2) (y_z)) (.branch (nat_lit 0) (.branch (nat_lit 0) (.leaf (y_r (nat_lit 84))) (.leaf (y_z))) (y_rep (nat_lit 1) (y_z)))))
def yt_39 : yT := (.branch (nat_lit 0) (.branch (nat_lit 0) (.branch (nat_lit 0) (.branch (nat_lit 0) (.leaf (y_r (nat_lit 88))) (.leaf (y_z))) (y_rep (nat_lit 1) (y_z))) (.branch (nat_lit 0) (.branch (nat_lit 0) (.leaf (y_r (nat_lit 95))) (.leaf (y_z))) (y_rep (nat_lit 1) (y_z)))) (.branch (nat_lit 0) (.branch (nat_lit 0) (.branch (nat_lit 0) (.leaf (y_r (nat_lit 92))) (.leaf (y_z))) (.branch (nat_lit 0) (.leaf (y_i (nat_lit 1))) (.leaf (y_z)))) (.branch (nat_lit 0) (.branch (nat_lit 0) (.leaf (y_r (nat_lit 98))) (.leaf (y_z))) (y_rep (nat_lit 1) (y_z)))))
def yt_40 : yT := (.branch (nat_lit 0) (.branch (nat_lit 0) (.branch (nat_lit 0) (.branch (nat_lit 0) (.leaf (y_i (nat_lit 4))) (.leaf (y_z))) (.branch (nat_lit 0) (.leaf (y_r (nat_lit 91))) (.leaf (y_z)))) (.branch (nat_lit 0) (.branch (nat_lit 0) (.leaf (y_r (nat_lit 89))) (.leaf (y_z))) (y_rep (nat_lit 1) (y_z)))) (.branch (nat_lit 0) (.branch (nat_lit 0) (.branch (nat_lit 0) (.leaf (y_i (nat_lit 3))) (.leaf (y_z))) (y_rep (nat_lit 1) (y_z))) (.branch (nat_lit 0) (.branch (nat_lit 0) (.leaf (y_r (nat_lit 90))) (.leaf (y_z))) (y_rep (nat_lit 1) (y_z)))))
def yt_41 : yT := (.branch (nat_lit 0) (.branch (nat_lit 0) (.branch (nat_lit 0) (.branch (nat_lit 0) (.leaf (y_r (nat_lit 93))) (.leaf (y_z))) (y_rep (nat_lit 1) (y_z))) (y_rep (nat_lit 2) (y_z))) (.branch (nat_lit 0) (.branch (nat_lit 0) (.branch (nat_lit 0) (.leaf (y_r (nat_lit 94))) (.leaf (y_z))) (y_rep (nat_lit 1) (y_z))) (y_rep (nat_lit 2) (y_z))))
def yt_42 : yT := (.branch (nat_lit 0) (.branch (nat_lit 0) (.branch (nat_lit 0) (.branch (nat_lit 0) (.leaf (y_i (nat_lit 4294967295))) (.leaf (y_z))) (.branch (nat_lit 0) (.leaf (y_r (nat_lit 97))) (.leaf (y_z)))) (y_rep (nat_lit 2) (y_z))) (.branch (nat_lit 0) (y_rep (nat_lit 2) (y_z)) (.branch (nat_lit 0) (.branch (nat_lit 0) (.leaf (y_r (nat_lit 96))) (.leaf (y_z))) (y_rep (nat_lit 1) (y_z)))))
def yt_43 : yT := (.branch (nat_lit 0) (.branch (nat_lit 0) (.branch (nat_lit 0) (.branch (nat_lit 0) (.leaf (y_r (nat_lit 100))) (.leaf (y_z))) (y_rep (nat_lit 1) (y_z))) (y_rep (nat_lit 2) (y_z))) (y_rep (nat_lit 3) (y_z)))
def yt_44 : yT := (.branch (nat_lit 0) (.branch (nat_lit 0) (.branch (nat_lit 0) (.branch (nat_lit 0) (.leaf (y_r (nat_lit 102))) (.leaf (y_z))) (y_rep (nat_lit 1) (y_z))) (.branch (nat_lit 0) (.branch (nat_lit 0) (.leaf (y_r (nat_lit 104))) (.leaf (y_z))) (y_rep (nat_lit 1) (y_z)))) (.branch (nat_lit 0) (.branch (nat_lit 0) (.branch (nat_lit 0) (.leaf (y_r (nat_lit 103))) (.leaf (y_z))) (y_rep (nat_lit 1) (y_z))) (y_rep (nat_lit 2) (y_z))))
def yt_45 : yT := (.branch (nat_lit 0) (.branch (nat_lit 0) (.branch (nat_lit 0) (.branch (nat_lit 0) (.branch (nat_lit 0) (.branch (nat_lit 0) (.leaf (y_j (nat_lit 1))) (.leaf (y_j (nat_lit 0)))) (y_rep (nat_lit 1) (y_j (nat_lit 0)))) (.branch (nat_lit 0) (.branch (nat_lit 0) (.leaf (y_j (nat_lit 1))) (.leaf (y_j (nat_lit 0)))) (y_rep (nat_lit 1) (y_j (nat_lit 0))))) (.branch (nat_lit 0) (.branch (nat_lit 0) (.branch (nat_lit 0) (.leaf (y_j (nat_lit 1))) (.leaf (y_j (nat_lit 0)))) (y_rep (nat_lit 1) (y_j (nat_lit 0)))) (y_rep (nat_lit 2) (y_j (nat_lit 0))))) (.branch (nat_lit 0) (.branch (nat_lit 0) (.branch (nat_lit 0) (.branch (nat_lit 0) (.leaf (y_j (nat_lit 1))) (.leaf (y_j (nat_lit 0)))) (y_rep (nat_lit 1) (y_j (nat_lit 0)))) (.branch (nat_lit 0) (.branch (nat_lit 0) (.leaf (y_j (nat_lit 1))) (.leaf (y_j (nat_lit 0)))) (y_rep (nat_lit 1) (y_j (nat_lit 0))))) (.branch (nat_lit 0) (.branch (nat_lit 0) (.branch (nat_lit 0) (.leaf (y_j (nat_lit 1))) (.leaf (y_j (nat_lit 0)))) (y_rep (nat_lit 1) (y_j (nat_lit 0)))) (y_rep (nat_lit 2) (y_j (nat_lit 0)))))) (.branch (nat_lit 0) (.branch (nat_lit 0) (.branch (nat_lit 0) (.branch (nat_lit 0) (.branch (nat_lit 0) (.leaf (y_j (nat_lit 1))) (.leaf (y_j (nat_lit 0)))) (y_rep (nat_lit 1) (y_j (nat_lit 0)))) (.branch (nat_lit 0) (.branch (nat_lit 0) (.leaf (y_j (nat_lit 1))) (.leaf (y_j (nat_lit 0)))) (y_rep (nat_lit 1) (y_j (nat_lit 0))))) (.branch (nat_lit 0) (.branch (nat_lit 0) (.branch (nat_lit 0) (.leaf (y_j (nat_lit 1))) (.leaf (y_j (nat_lit 0)))) (y_rep (nat_lit 1) (y_j (nat_lit 0)))) (y_rep (nat_lit 2) (y_j (nat_lit 0))))) (.branch (nat_lit 0) (.branch (nat_lit 0) (.branch (nat_lit 0) (.branch (nat_lit 0) (.leaf (y_j (nat_lit 1))) (.leaf (y_j (nat_lit 0)))) (y_rep (nat_lit 1) (y_j (nat_lit 0)))) (.branch (nat_lit 0) (.branch (nat_lit 0) (.leaf (y_j (nat_lit 1))) (.leaf (y_j (nat_lit 0)))) (y_rep (nat_lit 1) (y_j (nat_lit 0))))) (.branch (nat_lit 0) (.branch (nat_lit 0) (.branch (nat_lit 0) (.leaf (y_j (nat_lit 1))) (.leaf (y_j (nat_lit 0)))) (y_rep (nat_lit 1) (y_j (nat_lit 0)))) (y_rep (nat_lit 2) (y_j (nat_lit 0)))))))
def yt_46 : yT := (.branch (nat_lit 0) (.branch (nat_lit 0) (.branch (nat_lit 0) (.branch (nat_lit 0) (.branch (nat_lit 0) (.branch (nat_lit 0) (.leaf (y_j (nat_lit 18446744073709551615))) (.leaf (y_j (nat_lit 0)))) (y_rep (nat_lit 1) (y_j (nat_lit 0)))) (.branch (nat_lit 0) (.branch (nat_lit 0) (.leaf (y_j (nat_lit 4))) (.leaf (y_j (nat_lit 0)))) (y_rep (nat_lit 1) (y_j (nat_lit 0))))) (.branch (nat_lit 0) (.branch (nat_lit 0) (.branch (nat_lit 0) (.leaf (y_j (nat_lit 4))) (.leaf (y_j (nat_lit 0)))) (y_rep (nat_lit 1) (y_j (nat_lit 0)))) (y_rep (nat_lit 2) (y_j (nat_lit 0))))) (.branch (nat_lit 0) (.branch (nat_lit 0) (.branch (nat_lit 0) (.branch (nat_lit 0) (.leaf (y_j (nat_lit 18446744073709551615))) (.leaf (y_j (nat_lit 0)))) (y_rep (nat_lit 1) (y_j (nat_lit 0)))) (.branch (nat_lit 0) (.branch (nat_lit 0) (.leaf (y_j (nat_lit 4))) (.leaf (y_j (nat_lit 0)))) (y_rep (nat_lit 1) (y_j (nat_lit 0))))) (.branch (nat_lit 0) (.branch (nat_lit 0) (.branch (nat_lit 0) (.leaf (y_j (nat_lit 4))) (.leaf (y_j (nat_lit 0)))) (y_rep (nat_lit 1) (y_j (nat_lit 0)))) (y_rep (nat_lit 2) (y_j (nat_lit 0)))))) (.branch (nat_lit 0) (.branch (nat_lit 0) (.branch (nat_lit 0) (.branch (nat_lit 0) (.branch (nat_lit 0) (.leaf (y_j (nat_lit 18446744073709551615))) (.leaf (y_j (nat_lit 0)))) (y_rep (nat_lit 1) (y_j (nat_lit 0)))) (.branch (nat_lit 0) (.branch (nat_lit 0) (.leaf (y_j (nat_lit 4))) (.leaf (y_j (nat_lit 0)))) (y_rep (nat_lit 1) (y_j (nat_lit 0))))) (.branch (nat_lit 0) (.branch (nat_lit 0) (.branch (nat_lit 0) (.leaf (y_j (nat_lit 4))) (.leaf (y_j (nat_lit 0)))) (y_rep (nat_lit 1) (y_j (nat_lit 0)))) (y_rep (nat_lit 2) (y_j (nat_lit 0))))) (.branch (nat_lit 0) (.branch (nat_lit 0) (.branch (nat_lit 0) (.branch (nat_lit 0) (.leaf (y_j (nat_lit 18446744073709551615))) (.leaf (y_j (nat_lit 0)))) (y_rep (nat_lit 1) (y_j (nat_lit 0)))) (.branch (nat_lit 0) (.branch (nat_lit 0) (.leaf (y_j (nat_lit 4))) (.leaf (y_j (nat_lit 0)))) (y_rep (nat_lit 1) (y_j (nat_lit 0))))) (.branch (nat_lit 0) (.branch (nat_lit 0) (.branch (nat_lit 0) (.leaf (y_j (nat_lit 4))) (.leaf (y_j (nat_lit 0)))) (y_rep (nat_lit 1) (y_j (nat_lit 0)))) (y_rep (nat_lit 2) (y_j (nat_lit 0)))))))
def yt_47 : yT := (.branch (nat_lit 0) (.branch (nat_lit 0) (.branch (nat_lit 0) (.branch (nat_lit 0) (.leaf (y_r (nat_lit 106))) (.leaf (y_z))) (y_rep (nat_lit 1) (y_z))) (y_rep (nat_lit 2) (y_z))) (.branch (nat_lit 0) (.branch (nat_lit 0) (.branch (nat_lit 0) (.leaf (y_r (nat_lit 107))) (.leaf (y_z))) (y_rep (nat_lit 1) (y_z))) (y_rep (nat_lit 2) (y_z))))
def yt_48 : yT := (.branch (nat_lit 0) (.branch (nat_lit 0) (.branch (nat_lit 0) (.branch (nat_lit 0) (.leaf (y_r (nat_lit 109))) (.leaf (y_z))) (y_rep (nat_lit 1) (y_z))) (.branch (nat_lit 0) (.branch (nat_lit 0) (.leaf (y_r (nat_lit 111))) (.leaf (y_z))) (y_rep (nat_lit 1) (y_z)))) (.branch (nat_lit 0) (.branch (nat_lit 0) (.branch (nat_lit 0) (.leaf (y_r (nat_lit 110))) (.leaf (y_z))) (y_rep (nat_lit 1) (y_z))) (.branch (nat_lit 0) (.branch (nat_lit 0) (.leaf (y_r (nat_lit 112))) (.leaf (y_z))) (y_rep (nat_lit 1) (y_z)))))
def yt_49 : yT := (y_rep (nat_lit 6) (y_j (nat_lit 0)))
def yt_50 : yT := (y_rep (nat_lit 12) (y_j (nat_lit 0)))
def yt_51 : yT := (.branch (nat_lit 0) (.branch (nat_lit 0) (.branch (nat_lit 0) (.branch (nat_lit 0) (.leaf (y_r (nat_lit 114))) (.leaf (y_z))) (y_rep (nat_lit 1) (y_z))) (y_rep (nat_lit 2) (y_z))) (y_rep (nat_lit 3) (y_z)))
def yt_52 : yT := (.branch (nat_lit 0) (.branch (nat_lit 0) (.branch (nat_lit 0) (.branch (nat_lit 0) (.branch (nat_lit 0) (.branch (nat_lit 0) (.leaf (y_z)) (.leaf (y_r (nat_lit 130)))) (.branch (nat_lit 0) (.leaf (y_r (nat_lit 123))) (.leaf (y_z)))) (.branch (nat_lit 0) (y_rep (nat_lit 1) (y_z)) (.branch (nat_lit 0) (.leaf (y_r (nat_lit 127))) (.leaf (y_z))))) (.branch (nat_lit 0) (.branch (nat_lit 0) (.branch (nat_lit 0) (.leaf (y_r (nat_lit 119))) (.leaf (y_r (nat_lit 134)))) (y_rep (nat_lit 1) (y_z))) (y_rep (nat_lit 2) (y_z)))) (.branch (nat_lit 0) (.branch (nat_lit 0) (.branch (nat_lit 0) (.branch (nat_lit 0) (.leaf (y_r (nat_lit 117))) (.leaf (y_r (nat_lit 132)))) (.branch (nat_lit 0) (.leaf (y_r (nat_lit 125))) (.leaf (y_z)))) (y_rep (nat_lit 2) (y_z))) (.branch (nat_lit 0) (.branch (nat_lit 0) (.branch (nat_lit 0) (.leaf (y_i (nat_lit 4))) (.leaf (y_r (nat_lit 136)))) (.branch (nat_lit 0) (.leaf (y_r (nat_lit 126))) (.leaf (y_z)))) (.branch (nat_lit 0) (.branch (nat_lit 0) (.leaf (y_r (nat_lit 121))) (.leaf (y_z))) (.branch (nat_lit 0) (.leaf (y_i (nat_lit 4294967295))) (.leaf (y_z))))))) (.branch (nat_lit 0) (.branch (nat_lit 0) (.branch (nat_lit 0) (.branch (nat_lit 0) (.branch (nat_lit 0) (.leaf (y_r (nat_lit 116))) (.leaf (y_r (nat_lit 131)))) (.branch (nat_lit 0) (.leaf (y_r (nat_lit 124))) (.leaf (y_z)))) (.branch (nat_lit 0) (y_rep (nat_lit 1) (y_z)) (.branch (nat_lit 0) (.leaf (y_r (nat_lit 128))) (.leaf (y_z))))) (.branch (nat_lit 0) (.branch (nat_lit 0) (.branch (nat_lit 0) (.leaf (y_r (nat_lit 120))) (.leaf (y_r (nat_lit 135)))) (.branch (nat_lit 0) (.leaf (y_i (nat_lit 4294967295))) (.leaf (y_z)))) (y_rep (nat_lit 2) (y_z)))) (.branch (nat_lit 0) (.branch (nat_lit 0) (.branch (nat_lit 0) (.branch (nat_lit 0) (.leaf (y_r (nat_lit 118))) (.leaf (y_r (nat_lit 133)))) (y_rep (nat_lit 1) (y_z))) (.branch (nat_lit 0) (.branch (nat_lit 0) (.leaf (y_i (nat_lit 1))) (.leaf (y_z))) (y_rep (nat_lit 1) (y_z)))) (.branch (nat_lit 0) (.branch (nat_lit 0) (.branch (nat_lit 0) (.leaf (y_i (nat_lit 3))) (.leaf (y_z))) (y_rep (nat_lit 1) (y_z))) (.branch (nat_lit 0) (.branch (nat_lit 0) (.leaf (y_r (nat_lit 122))) (.leaf (y_z))) (.branch (nat_lit 0) (.leaf (y_r (nat_lit 129))) (.leaf (y_z))))))))
def yt_53 : yT := (y_rep (nat_lit 4) (y_j (nat_lit 0)))
def y_h1 : yH := (.branch (nat_lit 0) (.branch (nat_lit 0) (.branch (nat_lit 0) (.branch (nat_lit 0) (.branch (nat_lit 0) (.branch (nat_lit 0) (.branch (nat_lit 0) (.branch (nat_lit 0) (.leaf (((nat_lit 10), (nat_lit 10), yt_0))) (.leaf (((nat_lit 100), (nat_lit 36), yt_3)))) (.branch (nat_lit 0) (.leaf (((nat_lit 2), (nat_lit 5), yt_32))) (.leaf (y_no)))) (.branch (nat_lit 0) (.branch (nat_lit 0) (.leaf (((nat_lit 7), (nat_lit 4), yt_21))) (.leaf (y_no))) (.branch (nat_lit 0) (.leaf (((nat_lit 100), (nat_lit 8), yt_10))) (.leaf (y_no))))) (.branch (nat_lit 0) (.branch (nat_lit 0) (.branch (nat_lit 0) (.leaf (((nat_lit 100), (nat_lit 36), yt_4))) (.leaf (y_no))) (.branch (nat_lit 0) (.leaf (((nat_lit 7), (nat_lit 4), yt_37))) (.leaf (y_no)))) (.branch (nat_lit 0) (.branch (nat_lit 0) (.leaf (((nat_lit 100), (nat_lit 8), yt_10))) (.leaf (y_no))) (.branch (nat_lit 0) (.leaf (((nat_lit 100), (nat_lit 9), yt_10))) (.leaf (y_no)))))) (.branch (nat_lit 0) (.branch (nat_lit 0) (.branch (nat_lit 0) (.branch (nat_lit 0) (.leaf (((nat_lit 100), (nat_lit 16), yt_8))) (.leaf (((nat_lit 100), (nat_lit 512), yt_11)))) (.branch (nat_lit 0) (.leaf (((nat_lit 100), (nat_lit 8), yt_10))) (.leaf (y_no)))) (.branch (nat_lit 0) (.branch (nat_lit 0) (.leaf (((nat_lit 2), (nat_lit 5), yt_24))) (.leaf (y_no))) (.branch (nat_lit 0) (.leaf (((nat_lit 100), (nat_lit 36), yt_3))) (.leaf (y_no))))) (.branch (nat_lit 0) (.branch (nat_lit 0) (.branch (nat_lit 0) (.leaf (((nat_lit 100), (nat_lit 36), yt_3))) (.leaf (y_no))) (.branch (nat_lit 0) (.leaf (((nat_lit 2), (nat_lit 5), yt_40))) (.leaf (y_no)))) (.branch (nat_lit 0) (.branch (nat_lit 0) (.leaf (((nat_lit 7), (nat_lit 4), yt_29))) (.leaf (y_no))) (.branch (nat_lit 0) (.leaf (((nat_lit 100), (nat_lit 36), yt_12))) (.leaf (y_no))))))) (.branch (nat_lit 0) (.branch (nat_lit 0) (.branch (nat_lit 0) (.branch (nat_lit 0) (.branch (nat_lit 0) (.leaf (((nat_lit 100), (nat_lit 36), yt_4))) (.leaf (((nat_lit 101), (nat_lit 324), yt_50)))) (.branch (nat_lit 0) (.leaf (((nat_lit 7), (nat_lit 4), yt_33))) (.leaf (y_no)))) (.branch (nat_lit 0) (.branch (nat_lit 0) (.leaf (((nat_lit 100), (nat_lit 8), yt_10))) (.leaf (y_no))) (.branch (nat_lit 0) (.leaf (((nat_lit 102), (nat_lit 45), yt_3))) (.leaf (y_no))))) (.branch (nat_lit 0) (.branch (nat_lit 0) (.branch (nat_lit 0) (.leaf (((nat_lit 100), (nat_lit 16), yt_8))) (.leaf (y_no))) (.branch (nat_lit 0) (.leaf (((nat_lit 100), (nat_lit 8), yt_10))) (.leaf (y_no)))) (.branch (nat_lit 0) (.branch (nat_lit 0) (.leaf (((nat_lit 2), (nat_lit 5), yt_28))) (.leaf (y_no))) (.branch (nat_lit 0) (.leaf (((nat_lit 100), (nat_lit 36), yt_3))) (.leaf (y_no)))))) (.branch (nat_lit 0) (.branch (nat_lit 0) (.branch (nat_lit 0) (.branch (nat_lit 0) (.leaf (((nat_lit 100), (nat_lit 36), yt_12))) (.leaf (y_no))) (.branch (nat_lit 0) (.leaf (((nat_lit 2), (nat_lit 5), yt_36))) (.leaf (y_no)))) (.branch (nat_lit 0) (.branch (nat_lit 0) (.leaf (((nat_lit 7), (nat_lit 4), yt_25))) (.leaf (y_no))) (.branch (nat_lit 0) (.leaf (((nat_lit 5), (nat_lit 4), yt_48))) (.leaf (y_no))))) (.branch (nat_lit 0) (.branch (nat_lit 0) (.branch (nat_lit 0) (.leaf (((nat_lit 2), (nat_lit 5), yt_20))) (.leaf (y_no))) (.branch (nat_lit 0) (.leaf (((nat_lit 7), (nat_lit 4), yt_41))) (.leaf (y_no)))) (.branch (nat_lit 0) (.branch (nat_lit 0) (.leaf (((nat_lit 100), (nat_lit 8), yt_10))) (.leaf (y_no))) (.branch (nat_lit 0) (.leaf (((nat_lit 100), (nat_lit 32), yt_3))) (.leaf (y_no)))))))) (.branch (nat_lit 0) (.branch (nat_lit 0) (.branch (nat_lit 0) (.branch (nat_lit 0) (.branch (nat_lit 0) (.branch (nat_lit 0) (.leaf (((nat_lit 2), (nat_lit 5), yt_2))) (.leaf (((nat_lit 101), (nat_lit 36), yt_49)))) (.branch (nat_lit 0) (.leaf (((nat_lit 100), (nat_lit 36), yt_4))) (.leaf (y_no)))) (.branch (nat_lit 0) (.branch (nat_lit 0) (.leaf (((nat_lit 100), (nat_lit 16), yt_8))) (.leaf (y_no))) (.branch (nat_lit 0) (.leaf (((nat_lit 100), (nat_lit 36), yt_3))) (.leaf (y_no))))) (.branch (nat_lit 0) (.branch (nat_lit 0) (.branch (nat_lit 0) (.leaf (((nat_lit 7), (nat_lit 4), yt_15))) (.leaf (y_no))) (.branch (nat_lit 0) (.leaf (((nat_lit 100), (nat_lit 16), yt_8))) (.leaf (y_no)))) (.branch (nat_lit 0) (.branch (nat_lit 0) (.leaf (((nat_lit 100), (nat_lit 36), yt_3))) (.leaf (y_no))) (.branch (nat_lit 0) (.leaf (((nat_lit 100), (nat_lit 36), yt_3))) (.leaf (y_no)))))) (.branch (nat_lit 0) (.branch (nat_lit 0) (.branch (nat_lit 0) (.branch (nat_lit 0) (.leaf (((nat_lit 100), (nat_lit 8), yt_10))) (.leaf (y_no))) (.branch (nat_lit 0) (.leaf (((nat_lit 100), (nat_lit 36), yt_3))) (.leaf (y_no)))) (.branch (nat_lit 0) (.branch (nat_lit 0) (.leaf (((nat_lit 100), (nat_lit 36), yt_4))) (.leaf (y_no))) (.branch (nat_lit 0) (.leaf (((nat_lit 100), (nat_lit 36), yt_3))) (.leaf (y_no))))) (.branch (nat_lit 0) (.branch (nat_lit 0) (.branch (nat_lit 0) (.leaf (((nat_lit 103), (nat_lit 6), yt_18))) (.leaf (y_no))) (.branch (nat_lit 0) (.leaf (((nat_lit 100), (nat_lit 36), yt_4))) (.leaf (y_no)))) (.branch (nat_lit 0) (.branch (nat_lit 0) (.leaf (((nat_lit 100), (nat_lit 16), yt_8))) (.leaf (y_no))) (.branch (nat_lit 0) (.leaf (((nat_lit 101), (nat_lit 36), yt_46))) (.leaf (y_no))))))) (.branch (nat_lit 0) (.branch (nat_lit 0) (.branch (nat_lit 0) (.branch (nat_lit 0) (.branch (nat_lit 0) (.leaf (((nat_lit 7), (nat_lit 4), yt_6))) (.leaf (((nat_lit 100), (nat_lit 36), yt_3)))) (.branch (nat_lit 0) (.leaf (((nat_lit 100), (nat_lit 16), yt_8))) (.leaf (y_no)))) (.branch (nat_lit 0) (.branch (nat_lit 0) (.leaf (((nat_lit 100), (nat_lit 36), yt_3))) (.leaf (y_no))) (.branch (nat_lit 0) (.leaf (((nat_lit 101), (nat_lit 36), yt_45))) (.leaf (y_no))))) (.branch (nat_lit 0) (.branch (nat_lit 0) (.branch (nat_lit 0) (.leaf (((nat_lit 100), (nat_lit 8), yt_10))) (.leaf (y_no))) (.branch (nat_lit 0) (.leaf (((nat_lit 100), (nat_lit 36), yt_3))) (.leaf (y_no)))) (.branch (nat_lit 0) (.branch (nat_lit 0) (.leaf (((nat_lit 100), (nat_lit 36), yt_4))) (.leaf (y_no))) (.branch (nat_lit 0) (.leaf (((nat_lit 100), (nat_lit 4), yt_7))) (.leaf (y_no)))))) (.branch (nat_lit 0) (.branch (nat_lit 0) (.branch (nat_lit 0) (.branch (nat_lit 0) (.leaf (((nat_lit 2), (nat_lit 5), yt_14))) (.leaf (y_no))) (.branch (nat_lit 0) (.leaf (((nat_lit 100), (nat_lit 36), yt_4))) (.leaf (y_no)))) (.branch (nat_lit 0) (.branch (nat_lit 0) (.leaf (((nat_lit 100), (nat_lit 16), yt_8))) (.leaf (y_no))) (.branch (nat_lit 0) (.leaf (((nat_lit 101), (nat_lit 36), yt_49))) (.leaf (y_no))))) (.branch (nat_lit 0) (.branch (nat_lit 0) (.branch (nat_lit 0) (.leaf (((nat_lit 100), (nat_lit 36), yt_4))) (.leaf (y_no))) (.branch (nat_lit 0) (.leaf (((nat_lit 100), (nat_lit 16), yt_8))) (.leaf (y_no)))) (.branch (nat_lit 0) (.branch (nat_lit 0) (.leaf (((nat_lit 100), (nat_lit 36), yt_3))) (.leaf (y_no))) (.branch (nat_lit 0) (.leaf (((nat_lit 100), (nat_lit 36), yt_3))) (.leaf (y_no))))))))) (.branch (nat_lit 0) (.branch (nat_lit 0) (.branch (nat_lit 0) (.branch (nat_lit 0) (.branch (nat_lit 0) (.branch (nat_lit 0) (.branch (nat_lit 0) (.leaf (((nat_lit 6), (nat_lit 8), yt_1))) (.leaf (((nat_lit 100), (nat_lit 36), yt_3)))) (.branch (nat_lit 0) (.leaf (((nat_lit 100), (nat_lit 36), yt_3))) (.leaf (y_no)))) (.branch (nat_lit 0) (.branch (nat_lit 0) (.leaf (((nat_lit 100), (nat_lit 4), yt_7))) (.leaf (y_no))) (.branch (nat_lit 0) (.leaf (((nat_lit 100), (nat_lit 288), yt_11))) (.leaf (y_no))))) (.branch (nat_lit 0) (.branch (nat_lit 0) (.branch (nat_lit 0) (.leaf (((nat_lit 100), (nat_lit 144), yt_5))) (.leaf (y_no))) (.branch (nat_lit 0) (.leaf (((nat_lit 100), (nat_lit 4), yt_7))) (.leaf (y_no)))) (.branch (nat_lit 0) (.branch (nat_lit 0) (.leaf (((nat_lit 100), (nat_lit 288), yt_11))) (.leaf (y_no))) (.branch (nat_lit 0) (.leaf (((nat_lit 9), (nat_lit 1), yt_51))) (.leaf (y_no)))))) (.branch (nat_lit 0) (.branch (nat_lit 0) (.branch (nat_lit 0) (.branch (nat_lit 0) (.leaf (((nat_lit 8), (nat_lit 5), yt_9))) (.leaf (((nat_lit 101), (nat_lit 1), yt_53)))) (.branch (nat_lit 0) (.leaf (((nat_lit 100), (nat_lit 288), yt_11))) (.leaf (y_no)))) (.branch (nat_lit 0) (.branch (nat_lit 0) (.leaf (((nat_lit 100), (nat_lit 36), yt_3))) (.leaf (y_no))) (.branch (nat_lit 0) (.leaf (((nat_lit 4), (nat_lit 2), yt_47))) (.leaf (y_no))))) (.branch (nat_lit 0) (.branch (nat_lit 0) (.branch (nat_lit 0) (.leaf (((nat_lit 0), (nat_lit 3), yt_17))) (.leaf (y_no))) (.branch (nat_lit 0) (.leaf (((nat_lit 100), (nat_lit 36), yt_3))) (.leaf (y_no)))) (.branch (nat_lit 0) (.branch (nat_lit 0) (.leaf (((nat_lit 100), (nat_lit 4), yt_7))) (.leaf (y_no))) (.branch (nat_lit 0) (.leaf (((nat_lit 101), (nat_lit 36), yt_45))) (.leaf (y_no))))))) (.branch (nat_lit 0) (.branch (nat_lit 0) (.branch (nat_lit 0) (.branch (nat_lit 0) (.branch (nat_lit 0) (.leaf (((nat_lit 100), (nat_lit 144), yt_5))) (.leaf (((nat_lit 100), (nat_lit 9), yt_10)))) (.branch (nat_lit 0) (.leaf (((nat_lit 100), (nat_lit 4), yt_7))) (.leaf (y_no)))) (.branch (nat_lit 0) (.branch (nat_lit 0) (.leaf (((nat_lit 100), (nat_lit 288), yt_11))) (.leaf (y_no))) (.branch (nat_lit 0) (.leaf (((nat_lit 1), (nat_lit 3), yt_44))) (.leaf (y_no))))) (.branch (nat_lit 0) (.branch (nat_lit 0) (.branch (nat_lit 0) (.leaf (((nat_lit 8), (nat_lit 5), yt_16))) (.leaf (y_no))) (.branch (nat_lit 0) (.leaf (((nat_lit 100), (nat_lit 288), yt_11))) (.leaf (y_no)))) (.branch (nat_lit 0) (.branch (nat_lit 0) (.leaf (((nat_lit 100), (nat_lit 36), yt_3))) (.leaf (y_no))) (.branch (nat_lit 0) (.leaf (((nat_lit 100), (nat_lit 36), yt_4))) (.leaf (y_no)))))) (.branch (nat_lit 0) (.branch (nat_lit 0) (.branch (nat_lit 0) (.branch (nat_lit 0) (.leaf (((nat_lit 6), (nat_lit 8), yt_13))) (.leaf (y_no))) (.branch (nat_lit 0) (.leaf (((nat_lit 100), (nat_lit 36), yt_3))) (.leaf (y_no)))) (.branch (nat_lit 0) (.branch (nat_lit 0) (.leaf (((nat_lit 100), (nat_lit 4), yt_7))) (.leaf (y_no))) (.branch (nat_lit 0) (.leaf (((nat_lit 101), (nat_lit 36), yt_49))) (.leaf (y_no))))) (.branch (nat_lit 0) (.branch (nat_lit 0) (.branch (nat_lit 0) (.leaf (((nat_lit 100), (nat_lit 36), yt_3))) (.leaf (y_no))) (.branch (nat_lit 0) (.leaf (((nat_lit 100), (nat_lit 4), yt_7))) (.leaf (y_no)))) (.branch (nat_lit 0) (.branch (nat_lit 0) (.leaf (((nat_lit 100), (nat_lit 288), yt_11))) (.leaf (y_no))) (.branch (nat_lit 0) (.leaf (((nat_lit 100), (nat_lit 288), yt_11))) (.leaf (y_no)))))))) (.branch (nat_lit 0) (.branch (nat_lit 0) (.branch (nat_lit 0) (.branch (nat_lit 0) (.branch (nat_lit 0) (.branch (nat_lit 0) (.leaf (((nat_lit 100), (nat_lit 36), yt_3))) (.leaf (((nat_lit 101), (nat_lit 36), yt_49)))) (.branch (nat_lit 0) (.leaf (((nat_lit 100), (nat_lit 144), yt_5))) (.leaf (y_no)))) (.branch (nat_lit 0) (.branch (nat_lit 0) (.leaf (((nat_lit 8), (nat_lit 5), yt_22))) (.leaf (y_no))) (.branch (nat_lit 0) (.leaf (((nat_lit 3), (nat_lit 2), yt_43))) (.leaf (y_no))))) (.branch (nat_lit 0) (.branch (nat_lit 0) (.branch (nat_lit 0) (.leaf (((nat_lit 100), (nat_lit 4), yt_7))) (.leaf (y_no))) (.branch (nat_lit 0) (.leaf (((nat_lit 8), (nat_lit 5), yt_38))) (.leaf (y_no)))) (.branch (nat_lit 0) (.branch (nat_lit 0) (.leaf (((nat_lit 6), (nat_lit 8), yt_27))) (.leaf (y_no))) (.branch (nat_lit 0) (.leaf (((nat_lit 11), (nat_lit 43), yt_52))) (.leaf (y_no)))))) (.branch (nat_lit 0) (.branch (nat_lit 0) (.branch (nat_lit 0) (.branch (nat_lit 0) (.leaf (((nat_lit 100), (nat_lit 288), yt_11))) (.leaf (y_no))) (.branch (nat_lit 0) (.leaf (((nat_lit 6), (nat_lit 8), yt_35))) (.leaf (y_no)))) (.branch (nat_lit 0) (.branch (nat_lit 0) (.leaf (((nat_lit 100), (nat_lit 144), yt_5))) (.leaf (y_no))) (.branch (nat_lit 0) (.leaf (((nat_lit 100), (nat_lit 36), yt_3))) (.leaf (y_no))))) (.branch (nat_lit 0) (.branch (nat_lit 0) (.branch (nat_lit 0) (.leaf (((nat_lit 6), (nat_lit 8), yt_19))) (.leaf (y_no))) (.branch (nat_lit 0) (.leaf (((nat_lit 100), (nat_lit 144), yt_5))) (.leaf (y_no)))) (.branch (nat_lit 0) (.branch (nat_lit 0) (.leaf (((nat_lit 8), (nat_lit 5), yt_30))) (.leaf (y_no))) (.branch (nat_lit 0) (.leaf (((nat_lit 100), (nat_lit 8), yt_10))) (.leaf (y_no))))))) (.branch (nat_lit 0) (.branch (nat_lit 0) (.branch (nat_lit 0) (.branch (nat_lit 0) (.branch (nat_lit 0) (.leaf (((nat_lit 100), (nat_lit 4), yt_7))) (.leaf (((nat_lit 100), (nat_lit 3072), yt_11)))) (.branch (nat_lit 0) (.leaf (((nat_lit 8), (nat_lit 5), yt_34))) (.leaf (y_no)))) (.branch (nat_lit 0) (.branch (nat_lit 0) (.leaf (((nat_lit 6), (nat_lit 8), yt_23))) (.leaf (y_no))) (.branch (nat_lit 0) (.leaf (((nat_lit 101), (nat_lit 36), yt_46))) (.leaf (y_no))))) (.branch (nat_lit 0) (.branch (nat_lit 0) (.branch (nat_lit 0) (.leaf (((nat_lit 100), (nat_lit 288), yt_11))) (.leaf (y_no))) (.branch (nat_lit 0) (.leaf (((nat_lit 6), (nat_lit 8), yt_39))) (.leaf (y_no)))) (.branch (nat_lit 0) (.branch (nat_lit 0) (.leaf (((nat_lit 100), (nat_lit 144), yt_5))) (.leaf (y_no))) (.branch (nat_lit 0) (.leaf (((nat_lit 100), (nat_lit 16), yt_8))) (.leaf (y_no)))))) (.branch (nat_lit 0) (.branch (nat_lit 0) (.branch (nat_lit 0) (.branch (nat_lit 0) (.leaf (((nat_lit 100), (nat_lit 36), yt_3))) (.leaf (y_no))) (.branch (nat_lit 0) (.leaf (((nat_lit 100), (nat_lit 144), yt_5))) (.leaf (y_no)))) (.branch (nat_lit 0) (.branch (nat_lit 0) (.leaf (((nat_lit 8), (nat_lit 5), yt_26))) (.leaf (y_no))) (.branch (nat_lit 0) (.leaf (((nat_lit 101), (nat_lit 324), yt_50))) (.leaf (y_no))))) (.branch (nat_lit 0) (.branch (nat_lit 0) (.branch (nat_lit 0) (.leaf (((nat_lit 100), (nat_lit 144), yt_5))) (.leaf (y_no))) (.branch (nat_lit 0) (.leaf (((nat_lit 8), (nat_lit 5), yt_42))) (.leaf (y_no)))) (.branch (nat_lit 0) (.branch (nat_lit 0) (.leaf (((nat_lit 6), (nat_lit 8), yt_31))) (.leaf (y_no))) (.branch (nat_lit 0) (.leaf (((nat_lit 100), (nat_lit 45), yt_3))) (.leaf (y_no))))))))))
def y_h0 : yH := y_rep (nat_lit 8) y_no
def y_l1 : yL := [((nat_lit 4), y_i (nat_lit 0)), ((nat_lit 3), y_r (nat_lit 137)), ((nat_lit 2), y_r (nat_lit 115)), ((nat_lit 1), y_r (nat_lit 0)), ((nat_lit 0), y_v (.retAddr (nat_lit 0)))]
def y_m1 : yM := ((nat_lit 138), (nat_lit 10167), true, (nat_lit 138))
def y_eqV (a b : yV) : Bool := y_bd a (fun m => y_bd b (fun n => Nat.beq m n) (fun _ => false) (fun _ => false) (fun _ => false) (fun _ => false) (fun _ => false)) (fun m => y_bd b (fun _ => false) (fun n => Nat.beq m n) (fun _ => false) (fun _ => false) (fun _ => false) (fun _ => false)) (fun m => y_bd b (fun _ => false) (fun _ => false) (fun n => Nat.beq m n) (fun _ => false) (fun _ => false) (fun _ => false)) (fun _ => false) (fun _ => false) (fun x => y_bd b (fun _ => false) (fun _ => false) (fun _ => false) (fun _ => false) (fun _ => false) (fun y => decide (x = y)))
def y_eqT {α : Type} (eq : α → α → Bool) (d : Nat) : Lean.RArray α → Lean.RArray α → Bool := @Nat.rec (fun _ => Lean.RArray α → Lean.RArray α → Bool) (fun t u => @Lean.RArray.rec α (fun _ => Bool) (fun x => @Lean.RArray.rec α (fun _ => Bool) (fun y => eq x y) (fun _ _ _ _ _ => false) u) (fun _ _ _ _ _ => false) t) (fun _ ih t u => @Lean.RArray.rec α (fun _ => Bool) (fun x => @Lean.RArray.rec α (fun _ => Bool) (fun y => eq x y) (fun _ _ _ _ _ => false) u) (fun p x y _ _ => @Lean.RArray.rec α (fun _ => Bool) (fun _ => false) (fun p' x' y' _ _ => y_if (Nat.beq p p') (y_if (ih x x') (ih y y') false) false) u) t) d
def y_eqC (a b : yCe) : Bool := y_if (Nat.beq a.1 b.1) (y_if (Nat.beq a.2.1 b.2.1) (y_eqT y_eqV (y_dp a.2.1) a.2.2 b.2.2) false) false
def y_eqL (a b : yL) : Bool := match a, b with
  | [], [] => true
  | (i, u) :: a, (j, v) :: b => y_if (Nat.beq i j) (y_if (y_eqV u v) (y_eqL a b) false) false
  | _, _ => false
def y_isP (r : yR) (t : Nat) (l : yL) (h : yH) (m : yM) : Bool := match r with
  | some (.inl (t', l', [], h', (cu, su, f, cnt))) => y_if (Nat.beq t' t) (y_if (y_eqL l' l) (y_if (Nat.beq cu m.1) (y_if (Nat.beq su m.2.1) (y_if (Nat.beq cnt m.2.2.2) (y_if f (y_if m.2.2.1 (y_eqT y_eqC y_hd h' h) false) false) false) false) false) false) false
  | _ => false
end
theorem y_ib {b x : Bool} (h : y_if b x false = true) : b = true ∧ x = true := by
  cases b with
  | true => exact ⟨rfl, h⟩
  | false => cases h
theorem y_eqV_e {a b : yV} (h : y_eqV a b = true) : a = b := by
  rcases a with m | m | m | m | m | x <;> rcases b with n | n | n | n | n | y
  all_goals first | (cases h; done) | (have h := Nat.eq_of_beq_eq_true h; subst h; rfl) | (have h := of_decide_eq_true h; subst h; rfl)
theorem y_eqT_e {α : Type} {eq : α → α → Bool} (he : ∀ a b, eq a b = true → a = b) : ∀ (d : Nat) (t u : Lean.RArray α), y_eqT eq d t u = true → t = u
  | 0, .leaf x, .leaf y, h => congrArg _ (he x y h)
  | 0, .leaf _, .branch _ _ _, h => by cases h
  | 0, .branch _ _ _, _, h => by cases h
  | d + 1, .leaf x, .leaf y, h => congrArg _ (he x y h)
  | d + 1, .leaf _, .branch _ _ _, h => by cases h
  | d + 1, .branch _ _ _, .leaf _, h => by cases h
  | d + 1, .branch p x y, .branch p' x' y', h => by
    have h : y_if (Nat.beq p p') (y_if (y_eqT eq d x x') (y_eqT eq d y y') false) false = true := h
    obtain ⟨h1, h⟩ := y_ib h
    obtain ⟨h2, h3⟩ := y_ib h
    rw [Nat.eq_of_beq_eq_true h1, y_eqT_e he d x x' h2, y_eqT_e he d y y' h3]
theorem y_eqC_e (a b : yCe) (h : y_eqC a b = true) : a = b := by
  obtain ⟨a1, a2, a3⟩ := a
  obtain ⟨b1, b2, b3⟩ := b
  obtain ⟨h1, h⟩ := y_ib h
  obtain ⟨h2, h3⟩ := y_ib h
  have h1 : a1 = b1 := Nat.eq_of_beq_eq_true h1
  have h2 : a2 = b2 := Nat.eq_of_beq_eq_true h2
  have h3 : a3 = b3 := y_eqT_e (fun a b h => y_eqV_e h) _ _ _ h3
  rw [h1, h2, h3]
theorem y_eqL_e : ∀ (a b : yL), y_eqL a b = true → a = b
  | [], [], _ => rfl
  | (i, u) :: a, (j, v) :: b, h => by
    unfold y_eqL at h
    obtain ⟨h1, h⟩ := y_ib h
    obtain ⟨h2, h3⟩ := y_ib h
    rw [Nat.eq_of_beq_eq_true h1, y_eqV_e h2, y_eqL_e a b h3]
  | [], _ :: _, h => by cases h
  | _ :: _, [], h => by cases h
theorem y_isP_e {r : yR} {t : Nat} {l : yL} {h : yH} {m : yM} (hr : y_isP r t l h m = true) : r = some (.inl (t, l, [], h, m)) := by
  unfold y_isP at hr
  split at hr
  · next t' l' h' cu su f cnt =>
    obtain ⟨cu1, su1, f1, cnt1⟩ := m
    obtain ⟨h1, hr⟩ := y_ib hr
    obtain ⟨h2, hr⟩ := y_ib hr
    obtain ⟨h3, hr⟩ := y_ib hr
    obtain ⟨h4, hr⟩ := y_ib hr
    obtain ⟨h5, hr⟩ := y_ib hr
    obtain ⟨h6, hr⟩ := y_ib hr
    obtain ⟨h7, hr⟩ := y_ib hr
    have h1 := Nat.eq_of_beq_eq_true h1
    have h2 := y_eqL_e _ _ h2
    have h3 : cu = cu1 := Nat.eq_of_beq_eq_true h3
    have h4 : su = su1 := Nat.eq_of_beq_eq_true h4
    have h5 : cnt = cnt1 := Nat.eq_of_beq_eq_true h5
    have h7 : f1 = true := h7
    have h8 := y_eqT_e y_eqC_e _ _ _ hr
    rw [h1, h2, h3, h4, h5, h6, h7, h8]
  · cases hr
theorem y_pre : y_it yb_256 ([], [], []) (y_run yP ([], [], []) (nat_lit 12)) (nat_lit 1) (nat_lit 0) [(nat_lit 0, y_v (.retAddr (nat_lit 0)))] [] y_h0 (nat_lit 0, nat_lit 0, true, nat_lit 0) = some (.inl (nat_lit 23, y_l1, [], y_h1, y_m1)) := y_isP_e (by decide +kernel)
end
section
/-! Worlds of a fixed shape, with whole numbers. -/
abbrev zM : Type := Nat → Nat → Int
/-- what a slot is: an int, a long, a reference -/
abbrev zK : Type := Bool ⊕ Nat
abbrev zS : Type := Nat × Nat × (Nat → zK)
def zval (k : zK) (x : Int) : Value := match k with
  | .inl false => .int (Int32.ofInt x)
  | .inl true => .long (Int64.ofInt x)
  | .inr r => .ref r
def zI : Nat → zK := fun _ => .inl false
def zJ : Nat → zK := fun _ => .inl true
def zkl (l : List zK) (j : Nat) : zK := l.getD j (.inl false)
def zcell (s : zS) (f : Nat → Int) : XE := (s.1, (List.range s.2.1).map (fun j => zval (s.2.2 j) (f j)))
def zsh (q : Nat) : zS := bif Nat.blt q 69 then (bif Nat.blt q 34 then (bif Nat.blt q 17 then (bif Nat.blt q 8 then (bif Nat.blt q 4 then (bif Nat.blt q 2 then (bif Nat.blt q 1 then ((10, 10, zkl [.inr 1, .inr 13, .inl false, .inr 25, .inr 99, .inl false, .inr 101, .inr 105, .inr 108, .inr 113])) else ((6, 8, zkl [.inr 2, .inr 6, .inr 9, .inr 12, .inl false, .inl false, .inl false, .inl false]))) else (bif Nat.blt q 3 then ((2, 5, zkl [.inl false, .inl false, .inr 3, .inr 4, .inr 5])) else ((100, 36, zI)))) else (bif Nat.blt q 6 then (bif Nat.blt q 5 then ((100, 36, zI)) else ((100, 144, zI))) else (bif Nat.blt q 7 then ((7, 4, zkl [.inr 7, .inr 8, .inl false, .inl false])) else ((100, 4, zI))))) else (bif Nat.blt q 12 then (bif Nat.blt q 10 then (bif Nat.blt q 9 then ((100, 16, zI)) else ((8, 5, zkl [.inl false, .inl false, .inl false, .inr 10, .inr 11]))) else (bif Nat.blt q 11 then ((100, 8, zI)) else ((100, 288, zI)))) else (bif Nat.blt q 14 then (bif Nat.blt q 13 then ((100, 36, zI)) else ((6, 8, zkl [.inr 14, .inr 18, .inr 21, .inr 24, .inl false, .inl false, .inl false, .inl false]))) else (bif Nat.blt q 15 then ((2, 5, zkl [.inl false, .inl false, .inr 15, .inr 16, .inr 17])) else (bif Nat.blt q 16 then ((100, 36, zI)) else ((100, 36, zI))))))) else (bif Nat.blt q 25 then (bif Nat.blt q 21 then (bif Nat.blt q 19 then (bif Nat.blt q 18 then ((100, 144, zI)) else ((7, 4, zkl [.inr 19, .inr 20, .inl false, .inl false]))) else (bif Nat.blt q 20 then ((100, 4, zI)) else ((100, 16, zI)))) else (bif Nat.blt q 23 then (bif Nat.blt q 22 then ((8, 5, zkl [.inl false, .inl false, .inl false, .inr 22, .inr 23])) else ((100, 8, zI))) else (bif Nat.blt q 24 then ((100, 288, zI)) else ((100, 36, zI))))) else (bif Nat.blt q 29 then (bif Nat.blt q 27 then (bif Nat.blt q 26 then ((0, 3, zkl [.inr 26, .inl false, .inl false])) else ((103, 6, zkl [.inr 27, .inr 39, .inr 51, .inr 63, .inr 75, .inr 87]))) else (bif Nat.blt q 28 then ((6, 8, zkl [.inr 28, .inr 32, .inr 35, .inr 38, .inl false, .inl false, .inl false, .inl false])) else ((2, 5, zkl [.inl false, .inl false, .inr 29, .inr 30, .inr 31])))) else (bif Nat.blt q 31 then (bif Nat.blt q 30 then ((100, 36, zI)) else ((100, 36, zI))) else (bif Nat.blt q 32 then ((100, 144, zI)) else (bif Nat.blt q 33 then ((7, 4, zkl [.inr 33, .inr 34, .inl false, .inl false])) else ((100, 4, zI)))))))) else (bif Nat.blt q 51 then (bif Nat.blt q 42 then (bif Nat.blt q 38 then (bif Nat.blt q 36 then (bif Nat.blt q 35 then ((100, 16, zI)) else ((8, 5, zkl [.inl false, .inl false, .inl false, .inr 36, .inr 37]))) else (bif Nat.blt q 37 then ((100, 8, zI)) else ((100, 288, zI)))) else (bif Nat.blt q 40 then (bif Nat.blt q 39 then ((100, 36, zI)) else ((6, 8, zkl [.inr 40, .inr 44, .inr 47, .inr 50, .inl false, .inl false, .inl false, .inl false]))) else (bif Nat.blt q 41 then ((2, 5, zkl [.inl false, .inl false, .inr 41, .inr 42, .inr 43])) else ((100, 36, zI))))) else (bif Nat.blt q 46 then (bif Nat.blt q 44 then (bif Nat.blt q 43 then ((100, 36, zI)) else ((100, 144, zI))) else (bif Nat.blt q 45 then ((7, 4, zkl [.inr 45, .inr 46, .inl false, .inl false])) else ((100, 4, zI)))) else (bif Nat.blt q 48 then (bif Nat.blt q 47 then ((100, 16, zI)) else ((8, 5, zkl [.inl false, .inl false, .inl false, .inr 48, .inr 49]))) else (bif Nat.blt q 49 then ((100, 8, zI)) else (bif Nat.blt q 50 then ((100, 288, zI)) else ((100, 36, zI))))))) else (bif Nat.blt q 60 then (bif Nat.blt q 55 then (bif Nat.blt q 53 then (bif Nat.blt q 52 then ((6, 8, zkl [.inr 52, .inr 56, .inr 59, .inr 62, .inl false, .inl false, .inl false, .inl false])) else ((2, 5, zkl [.inl false, .inl false, .inr 53, .inr 54, .inr 55]))) else (bif Nat.blt q 54 then ((100, 36, zI)) else ((100, 36, zI)))) else (bif Nat.blt q 57 then (bif Nat.blt q 56 then ((100, 144, zI)) else ((7, 4, zkl [.inr 57, .inr 58, .inl false, .inl false]))) else (bif Nat.blt q 58 then ((100, 4, zI)) else (bif Nat.blt q 59 then ((100, 16, zI)) else ((8, 5, zkl [.inl false, .inl false, .inl false, .inr 60, .inr 61])))))) else (bif Nat.blt q 64 then (bif Nat.blt q 62 then (bif Nat.blt q 61 then ((100, 8, zI)) else ((100, 288, zI))) else (bif Nat.blt q 63 then ((100, 36, zI)) else ((6, 8, zkl [.inr 64, .inr 68, .inr 71, .inr 74, .inl false, .inl false, .inl false, .inl false])))) else (bif Nat.blt q 66 then (bif Nat.blt q 65 then ((2, 5, zkl [.inl false, .inl false, .inr 65, .inr 66, .inr 67])) else ((100, 36, zI))) else (bif Nat.blt q 67 then ((100, 36, zI)) else (bif Nat.blt q 68 then ((100, 144, zI)) else ((7, 4, zkl [.inr 69, .inr 70, .inl false, .inl false]))))))))) else (bif Nat.blt q 103 then (bif Nat.blt q 86 then (bif Nat.blt q 77 then (bif Nat.blt q 73 then (bif Nat.blt q 71 then (bif Nat.blt q 70 then ((100, 4, zI)) else ((100, 16, zI))) else (bif Nat.blt q 72 then ((8, 5, zkl [.inl false, .inl false, .inl false, .inr 72, .inr 73])) else ((100, 8, zI)))) else (bif Nat.blt q 75 then (bif Nat.blt q 74 then ((100, 288, zI)) else ((100, 36, zI))) else (bif Nat.blt q 76 then ((6, 8, zkl [.inr 76, .inr 80, .inr 83, .inr 86, .inl false, .inl false, .inl false, .inl false])) else ((2, 5, zkl [.inl false, .inl false, .inr 77, .inr 78, .inr 79]))))) else (bif Nat.blt q 81 then (bif Nat.blt q 79 then (bif Nat.blt q 78 then ((100, 36, zI)) else ((100, 36, zI))) else (bif Nat.blt q 80 then ((100, 144, zI)) else ((7, 4, zkl [.inr 81, .inr 82, .inl false, .inl false])))) else (bif Nat.blt q 83 then (bif Nat.blt q 82 then ((100, 4, zI)) else ((100, 16, zI))) else (bif Nat.blt q 84 then ((8, 5, zkl [.inl false, .inl false, .inl false, .inr 84, .inr 85])) else (bif Nat.blt q 85 then ((100, 8, zI)) else ((100, 288, zI))))))) else (bif Nat.blt q 94 then (bif Nat.blt q 90 then (bif Nat.blt q 88 then (bif Nat.blt q 87 then ((100, 36, zI)) else ((6, 8, zkl [.inr 88, .inr 92, .inr 95, .inr 98, .inl false, .inl false, .inl false, .inl false]))) else (bif Nat.blt q 89 then ((2, 5, zkl [.inl false, .inl false, .inr 89, .inr 90, .inr 91])) else ((100, 36, zI)))) else (bif Nat.blt q 92 then (bif Nat.blt q 91 then ((100, 36, zI)) else ((100, 144, zI))) else (bif Nat.blt q 93 then ((7, 4, zkl [.inr 93, .inr 94, .inl false, .inl false])) else ((100, 4, zI))))) else (bif Nat.blt q 98 then (bif Nat.blt q 96 then (bif Nat.blt q 95 then ((100, 16, zI)) else ((8, 5, zkl [.inl false, .inl false, .inl false, .inr 96, .inr 97]))) else (bif Nat.blt q 97 then ((100, 8, zI)) else ((100, 288, zI)))) else (bif Nat.blt q 100 then (bif Nat.blt q 99 then ((100, 36, zI)) else ((3, 2, zkl [.inr 100, .inl false]))) else (bif Nat.blt q 101 then ((102, 45, zI)) else (bif Nat.blt q 102 then ((1, 3, zkl [.inr 102, .inr 103, .inr 104])) else ((101, 36, zJ)))))))) else (bif Nat.blt q 120 then (bif Nat.blt q 111 then (bif Nat.blt q 107 then (bif Nat.blt q 105 then (bif Nat.blt q 104 then ((101, 36, zJ)) else ((100, 36, zI))) else (bif Nat.blt q 106 then ((4, 2, zkl [.inr 106, .inr 107])) else ((100, 36, zI)))) else (bif Nat.blt q 109 then (bif Nat.blt q 108 then ((100, 36, zI)) else ((5, 4, zkl [.inr 109, .inr 110, .inr 111, .inr 112]))) else (bif Nat.blt q 110 then ((101, 36, zJ)) else ((101, 36, zJ))))) else (bif Nat.blt q 115 then (bif Nat.blt q 113 then (bif Nat.blt q 112 then ((101, 324, zJ)) else ((100, 9, zI))) else (bif Nat.blt q 114 then ((9, 1, zkl [.inr 114])) else ((100, 36, zI)))) else (bif Nat.blt q 117 then (bif Nat.blt q 116 then ((11, 43, zkl [.inl false, .inr 116, .inr 117, .inr 118, .inr 119, .inr 120, .inl false, .inl false, .inl false, .inl false, .inl false, .inl false, .inl false, .inl false, .inr 121, .inr 122, .inr 123, .inr 124, .inr 125, .inl false, .inl false, .inl false, .inr 126, .inl false, .inr 127, .inr 128, .inl false, .inl false, .inl false, .inl false, .inl false, .inr 129, .inr 130, .inr 131, .inr 132, .inr 133, .inr 134, .inr 135, .inr 136, .inl false, .inl false, .inl false, .inl false])) else ((100, 36, zI))) else (bif Nat.blt q 118 then ((100, 36, zI)) else (bif Nat.blt q 119 then ((100, 4, zI)) else ((100, 16, zI))))))) else (bif Nat.blt q 129 then (bif Nat.blt q 124 then (bif Nat.blt q 122 then (bif Nat.blt q 121 then ((100, 36, zI)) else ((101, 36, zJ))) else (bif Nat.blt q 123 then ((101, 36, zJ)) else ((100, 8, zI)))) else (bif Nat.blt q 126 then (bif Nat.blt q 125 then ((100, 32, zI)) else ((100, 288, zI))) else (bif Nat.blt q 127 then ((100, 36, zI)) else (bif Nat.blt q 128 then ((100, 45, zI)) else ((100, 36, zI)))))) else (bif Nat.blt q 133 then (bif Nat.blt q 131 then (bif Nat.blt q 130 then ((100, 36, zI)) else ((101, 36, zJ))) else (bif Nat.blt q 132 then ((101, 36, zJ)) else ((101, 324, zJ)))) else (bif Nat.blt q 135 then (bif Nat.blt q 134 then ((100, 9, zI)) else ((100, 36, zI))) else (bif Nat.blt q 136 then ((100, 3072, zI)) else (bif Nat.blt q 137 then ((100, 512, zI)) else ((101, 1, zJ)))))))))
def zcnt : Nat := 138
def zheap (M : zM) : List XE := (List.range zcnt).map (fun q => zcell (zsh q) (M q))
def zup (M : zM) (q j : Nat) (x : Int) : zM := fun q' j' => if q' = q ∧ j' = j then x else M q' j'
def zcp (M : zM) (q0 q1 sp dp n : Nat) : zM := fun q' j' => if q' = q1 ∧ dp ≤ j' ∧ j' < dp + n then M q0 (sp + (j' - dp)) else M q' j'
def zIs (q c l : Nat) (K : Nat → zK) : Prop := q < zcnt ∧ zsh q = (c, l, K) ∧ l ≤ 4096
def zSt (a : Nat) : Prop := a = 1 ∨ a = 13 ∨ a = 27 ∨ a = 39 ∨ a = 51 ∨ a = 63 ∨ a = 75 ∨ a = 87
theorem zst_0 {a : Nat} (h : zSt a) : zIs a 6 8 (zkl [.inr (a + 1), .inr (a + 5), .inr (a + 8), .inr (a + 11), .inl false, .inl false, .inl false, .inl false]) := by
  rcases h with rfl | rfl | rfl | rfl | rfl | rfl | rfl | rfl
  all_goals exact ⟨by decide, rfl, by decide⟩
theorem zst_1 {a : Nat} (h : zSt a) : zIs (a + 1) 2 5 (zkl [.inl false, .inl false, .inr (a + 2), .inr (a + 3), .inr (a + 4)]) := by
  rcases h with rfl | rfl | rfl | rfl | rfl | rfl | rfl | rfl
  all_goals exact ⟨by decide, rfl, by decide⟩
theorem zst_2 {a : Nat} (h : zSt a) : zIs (a + 2) 100 36 zI := by
  rcases h with rfl | rfl | rfl | rfl | rfl | rfl | rfl | rfl
  all_goals exact ⟨by decide, rfl, by decide⟩
theorem zst_3 {a : Nat} (h : zSt a) : zIs (a + 3) 100 36 zI := by
  rcases h with rfl | rfl | rfl | rfl | rfl | rfl | rfl | rfl
  all_goals exact ⟨by decide, rfl, by decide⟩
theorem zst_4 {a : Nat} (h : zSt a) : zIs (a + 4) 100 144 zI := by
  rcases h with rfl | rfl | rfl | rfl | rfl | rfl | rfl | rfl
  all_goals exact ⟨by decide, rfl, by decide⟩
theorem zst_5 {a : Nat} (h : zSt a) : zIs (a + 5) 7 4 (zkl [.inr (a + 6), .inr (a + 7), .inl false, .inl false]) := by
  rcases h with rfl | rfl | rfl | rfl | rfl | rfl | rfl | rfl
  all_goals exact ⟨by decide, rfl, by decide⟩
theorem zst_6 {a : Nat} (h : zSt a) : zIs (a + 6) 100 4 zI := by
  rcases h with rfl | rfl | rfl | rfl | rfl | rfl | rfl | rfl
  all_goals exact ⟨by decide, rfl, by decide⟩
theorem zst_7 {a : Nat} (h : zSt a) : zIs (a + 7) 100 16 zI := by
  rcases h with rfl | rfl | rfl | rfl | rfl | rfl | rfl | rfl
  all_goals exact ⟨by decide, rfl, by decide⟩
theorem zst_8 {a : Nat} (h : zSt a) : zIs (a + 8) 8 5 (zkl [.inl false, .inl false, .inl false, .inr (a + 9), .inr (a + 10)]) := by
  rcases h with rfl | rfl | rfl | rfl | rfl | rfl | rfl | rfl
  all_goals exact ⟨by decide, rfl, by decide⟩
theorem zst_9 {a : Nat} (h : zSt a) : zIs (a + 9) 100 8 zI := by
  rcases h with rfl | rfl | rfl | rfl | rfl | rfl | rfl | rfl
  all_goals exact ⟨by decide, rfl, by decide⟩
theorem zst_10 {a : Nat} (h : zSt a) : zIs (a + 10) 100 288 zI := by
  rcases h with rfl | rfl | rfl | rfl | rfl | rfl | rfl | rfl
  all_goals exact ⟨by decide, rfl, by decide⟩
theorem zst_11 {a : Nat} (h : zSt a) : zIs (a + 11) 100 36 zI := by
  rcases h with rfl | rfl | rfl | rfl | rfl | rfl | rfl | rfl
  all_goals exact ⟨by decide, rfl, by decide⟩
theorem zis_0 : zIs 0 10 10 (zkl [.inr 1, .inr 13, .inl false, .inr 25, .inr 99, .inl false, .inr 101, .inr 105, .inr 108, .inr 113]) := ⟨by decide, rfl, by decide⟩
theorem zis_25 : zIs 25 0 3 (zkl [.inr 26, .inl false, .inl false]) := ⟨by decide, rfl, by decide⟩
theorem zis_26 : zIs 26 103 6 (zkl [.inr 27, .inr 39, .inr 51, .inr 63, .inr 75, .inr 87]) := ⟨by decide, rfl, by decide⟩
theorem zis_99 : zIs 99 3 2 (zkl [.inr 100, .inl false]) := ⟨by decide, rfl, by decide⟩
theorem zis_100 : zIs 100 102 45 zI := ⟨by decide, rfl, by decide⟩
theorem zis_101 : zIs 101 1 3 (zkl [.inr 102, .inr 103, .inr 104]) := ⟨by decide, rfl, by decide⟩
theorem zis_102 : zIs 102 101 36 zJ := ⟨by decide, rfl, by decide⟩
theorem zis_103 : zIs 103 101 36 zJ := ⟨by decide, rfl, by decide⟩
theorem zis_104 : zIs 104 100 36 zI := ⟨by decide, rfl, by decide⟩
theorem zis_105 : zIs 105 4 2 (zkl [.inr 106, .inr 107]) := ⟨by decide, rfl, by decide⟩
theorem zis_106 : zIs 106 100 36 zI := ⟨by decide, rfl, by decide⟩
theorem zis_107 : zIs 107 100 36 zI := ⟨by decide, rfl, by decide⟩
theorem zis_108 : zIs 108 5 4 (zkl [.inr 109, .inr 110, .inr 111, .inr 112]) := ⟨by decide, rfl, by decide⟩
theorem zis_109 : zIs 109 101 36 zJ := ⟨by decide, rfl, by decide⟩
theorem zis_110 : zIs 110 101 36 zJ := ⟨by decide, rfl, by decide⟩
theorem zis_111 : zIs 111 101 324 zJ := ⟨by decide, rfl, by decide⟩
theorem zis_112 : zIs 112 100 9 zI := ⟨by decide, rfl, by decide⟩
theorem zis_113 : zIs 113 9 1 (zkl [.inr 114]) := ⟨by decide, rfl, by decide⟩
theorem zis_114 : zIs 114 100 36 zI := ⟨by decide, rfl, by decide⟩
theorem zis_115 : zIs 115 11 43 (zkl [.inl false, .inr 116, .inr 117, .inr 118, .inr 119, .inr 120, .inl false, .inl false, .inl false, .inl false, .inl false, .inl false, .inl false, .inl false, .inr 121, .inr 122, .inr 123, .inr 124, .inr 125, .inl false, .inl false, .inl false, .inr 126, .inl false, .inr 127, .inr 128, .inl false, .inl false, .inl false, .inl false, .inl false, .inr 129, .inr 130, .inr 131, .inr 132, .inr 133, .inr 134, .inr 135, .inr 136, .inl false, .inl false, .inl false, .inl false]) := ⟨by decide, rfl, by decide⟩
theorem zis_116 : zIs 116 100 36 zI := ⟨by decide, rfl, by decide⟩
theorem zis_117 : zIs 117 100 36 zI := ⟨by decide, rfl, by decide⟩
theorem zis_118 : zIs 118 100 4 zI := ⟨by decide, rfl, by decide⟩
theorem zis_119 : zIs 119 100 16 zI := ⟨by decide, rfl, by decide⟩
theorem zis_120 : zIs 120 100 36 zI := ⟨by decide, rfl, by decide⟩
theorem zis_121 : zIs 121 101 36 zJ := ⟨by decide, rfl, by decide⟩
theorem zis_122 : zIs 122 101 36 zJ := ⟨by decide, rfl, by decide⟩
theorem zis_123 : zIs 123 100 8 zI := ⟨by decide, rfl, by decide⟩
theorem zis_124 : zIs 124 100 32 zI := ⟨by decide, rfl, by decide⟩
theorem zis_125 : zIs 125 100 288 zI := ⟨by decide, rfl, by decide⟩
theorem zis_126 : zIs 126 100 36 zI := ⟨by decide, rfl, by decide⟩
theorem zis_127 : zIs 127 100 45 zI := ⟨by decide, rfl, by decide⟩
theorem zis_128 : zIs 128 100 36 zI := ⟨by decide, rfl, by decide⟩
theorem zis_129 : zIs 129 100 36 zI := ⟨by decide, rfl, by decide⟩
theorem zis_130 : zIs 130 101 36 zJ := ⟨by decide, rfl, by decide⟩
theorem zis_131 : zIs 131 101 36 zJ := ⟨by decide, rfl, by decide⟩
theorem zis_132 : zIs 132 101 324 zJ := ⟨by decide, rfl, by decide⟩
theorem zis_133 : zIs 133 100 9 zI := ⟨by decide, rfl, by decide⟩
theorem zis_134 : zIs 134 100 36 zI := ⟨by decide, rfl, by decide⟩
theorem zis_135 : zIs 135 100 3072 zI := ⟨by decide, rfl, by decide⟩
theorem zis_136 : zIs 136 100 512 zI := ⟨by decide, rfl, by decide⟩
theorem zis_137 : zIs 137 101 1 zJ := ⟨by decide, rfl, by decide⟩
theorem zheap_at {M : zM} {q c l : Nat} {K : Nat → zK} (h : zIs q c l K) : xnth (zheap M) q = some (c, (List.range l).map (fun j => zval (K j) (M q j))) := by
  rw [xnth_eq]
  unfold zheap
  rw [List.getElem?_map, List.getElem?_range h.1]
  show some (zcell (zsh q) (M q)) = _
  rw [h.2.1]
  rfl
theorem zslot_at {f : Nat → Int} {K : Nat → zK} {l j : Nat} (h : j < l) : xnth ((List.range l).map (fun j => zval (K j) (f j))) j = some (zval (K j) (f j)) := by
  rw [xnth_eq, List.getElem?_map, List.getElem?_range h]
  rfl
theorem zslot_len {f : Nat → Int} {K : Nat → zK} {l : Nat} : ((List.range l).map (fun j => zval (K j) (f j))).length = l := by rw [List.length_map, List.length_range]
theorem zmap_set {α : Type} {F G : Nat → α} {l j : Nat} {v : α} (h : ∀ i, i < l → G i = if i = j then v else F i) : (List.range l).map G = ((List.range l).map F).set j v := by
  apply List.ext_getElem
  · simp
  · intro i h1 h2
    have hi : i < l := by simpa using h1
    rw [List.getElem_set]
    simp only [List.getElem_map, List.getElem_range]
    rw [h i hi]
    by_cases hij : i = j
    · rw [if_pos hij, if_pos hij.symm]
    · rw [if_neg hij, if_neg (Ne.symm hij)]
theorem zheap_set {M M' : zM} {q c l : Nat} {K : Nat → zK} {vs : List Value} (h : zIs q c l K) (h1 : ∀ q', q' ≠ q → M' q' = M q') (h2 : (List.range l).map (fun j => zval (K j) (M' q j)) = vs) : zheap M' = (zheap M).set q (c, vs) := by
  unfold zheap
  refine zmap_set (fun i _ => ?_)
  by_cases hi : i = q
  · subst hi
    rw [if_pos rfl]
    show zcell (zsh i) (M' i) = _
    rw [h.2.1, ← h2]
    rfl
  · rw [if_neg hi, h1 i hi]
theorem zheap_up {M : zM} {q c l j : Nat} {K : Nat → zK} {x : Int} (h : zIs q c l K) : zheap (zup M q j x) = (zheap M).set q (c, ((List.range l).map (fun j => zval (K j) (M q j))).set j (zval (K j) x)) := by
  refine zheap_set h (fun q' hq => ?_) ?_
  · funext j'
    unfold zup
    rw [if_neg (fun e => hq e.1)]
  · refine zmap_set (fun i _ => ?_)
    unfold zup
    by_cases hi : i = j
    · subst hi
      rw [if_pos ⟨rfl, rfl⟩, if_pos rfl]
    · rw [if_neg (fun e => hi e.2), if_neg hi]
theorem zheap_cp {M : zM} {q0 q1 c l0 l1 sp dp n : Nat} {K : Nat → zK} (h1 : zIs q1 c l1 K) (hK : K = zI ∨ K = zJ) (g1 : sp + n ≤ l0) (g2 : dp + n ≤ l1) : zheap (zcp M q0 q1 sp dp n) = (zheap M).set q1 (c, xcpy ((List.range l0).map (fun j => zval (K j) (M q0 j))) ((List.range l1).map (fun j => zval (K j) (M q1 j))) sp dp n) := by
  have hk : ∀ i j, K i = K j := by rcases hK with rfl | rfl <;> exact fun _ _ => rfl
  refine zheap_set h1 (fun q' hq => ?_) ?_
  · funext j'
    unfold zcp
    rw [if_neg (fun e => hq e.1)]
  · apply List.ext_getElem?
    intro i
    rw [xcpy_at (by rw [zslot_len]; exact g1) (by rw [zslot_len]; exact g2)]
    by_cases hi : i < l1
    · rw [← xnth_eq, zslot_at hi]
      unfold zcp
      by_cases hin : dp ≤ i ∧ i < dp + n
      · rw [if_pos ⟨rfl, hin⟩, if_pos hin, ← xnth_eq, zslot_at (by omega), hk i (sp + (i - dp))]
      · rw [if_neg (fun e => hin e.2), if_neg hin, ← xnth_eq, zslot_at hi]
    · rw [if_neg (by omega), List.getElem?_eq_none (by rw [zslot_len]; omega), List.getElem?_eq_none (by rw [zslot_len]; omega)]
/-! Runs of a frame. -/
def zL (ls ρ : XL) : Prop := ∀ p ∈ ρ, xgl ls p.1 = some p.2
def zW (f : XC → XS) (k N : Nat) (c : XC) (Q : XO → XW → Prop) : Prop := ∃ n c1 z o σ, n ≤ N ∧ xpow f n c c1 ∧ f c1 = some (.inr z) ∧ xfin2 k z = some (o, σ) ∧ Q o σ
def zG (f : XC → XS) (k N pc : Nat) (ρ : XL) (st : List Value) (cu su : Nat) (b : Bool) (M : zM) (Q : XO → XW → Prop) : Prop := ∀ ls, zL ls ρ → zW f k N (pc, ls, st, cu, su, (b, zheap M)) Q
theorem zW_step {f : XC → XS} {k N : Nat} {c c1 : XC} {Q : XO → XW → Prop} (h : f c = some (.inl c1)) (h1 : zW f k N c1 Q) : zW f k (N + 1) c Q := by
  obtain ⟨n, c2, z, o, σ, hn, hp, hz, hf, hq⟩ := h1
  exact ⟨n + 1, c2, z, o, σ, by omega, ⟨c1, h, hp⟩, hz, hf, hq⟩
theorem zW_mono {f : XC → XS} {k N N' : Nat} {c : XC} {Q : XO → XW → Prop} (h : N ≤ N') (h1 : zW f k N c Q) : zW f k N' c Q := by
  obtain ⟨n, c2, z, o, σ, hn, h2⟩ := h1
  exact ⟨n, c2, z, o, σ, by omega, h2⟩
theorem zG_mono {f : XC → XS} {k N N' pc : Nat} {ρ : XL} {st : List Value} {cu su : Nat} {b : Bool} {M : zM} {Q : XO → XW → Prop} (h : N ≤ N') (h1 : zG f k N pc ρ st cu su b M Q) : zG f k N' pc ρ st cu su b M Q := fun ls hl => zW_mono h (h1 ls hl)
theorem zG_sub {f : XC → XS} {k N pc : Nat} {ρ ρ' : XL} {st : List Value} {cu su : Nat} {b : Bool} {M : zM} {Q : XO → XW → Prop} (h : ∀ p ∈ ρ', p ∈ ρ) (h1 : zG f k N pc ρ' st cu su b M Q) : zG f k N pc ρ st cu su b M Q := fun ls hl => h1 ls (fun p hp => hl p (h p hp))
theorem zmem {ρ : XL} {p : Nat × Value} (i : Nat) (h : ρ[i]? = some p) : p ∈ ρ := List.mem_of_getElem? h
def zmk1 (j : Nat) (v : Value) (ρ : XL) : XL := (j, v) :: ρ.filter (xk1 j)
def zmk2 (j : Nat) (v : Value) (ρ : XL) : XL := (j, v) :: ρ.filter (xk2 j)
theorem zgl_filter {q : Nat × Value → Bool} : ∀ {ls : XL} {j : Nat} {v : Value}, xgl ls j = some v → q (j, v) = true → xgl (ls.filter q) j = some v
  | [], _, _, h, _ => by cases h
  | (i, u) :: r, j, v, h, hq => by
    have h1 : (bif Nat.beq i j then some u else xgl r j) = some v := h
    clear h
    rw [List.filter_cons]
    cases hb : Nat.beq i j with
    | true =>
      rw [hb, cond_true] at h1
      have hu := Option.some.inj h1
      have hi := Nat.eq_of_beq_eq_true hb
      rw [hi, hu, if_pos hq]
      show (bif Nat.beq j j then some v else _) = some v
      rw [Nat.beq_refl, cond_true]
    | false =>
      rw [hb, cond_false] at h1
      have ih := zgl_filter h1 hq
      split
      · show (bif Nat.beq i j then some u else xgl (r.filter q) j) = some v
        rw [hb, cond_false]
        exact ih
      · exact ih
theorem zxk1_ne {j : Nat} {p : Nat × Value} (h : xk1 j p = true) : Nat.beq j p.1 = false := by
  unfold xk1 at h
  rw [Bool.and_eq_true] at h
  have h1 := h.1
  cases hb : Nat.beq j p.1 with
  | false => rfl
  | true =>
    have e := Nat.eq_of_beq_eq_true hb
    rw [← e, Nat.beq_refl] at h1
    cases h1
theorem zxk2_ne {j : Nat} {p : Nat × Value} (h : xk2 j p = true) : Nat.beq j p.1 = false := by
  unfold xk2 at h
  rw [Bool.and_eq_true] at h
  have h1 := h.1
  cases hb : Nat.beq j p.1 with
  | false => rfl
  | true =>
    have e := Nat.eq_of_beq_eq_true hb
    rw [← e, Nat.beq_refl] at h1
    cases h1
theorem zL_1 {ls ρ : XL} {j : Nat} {v : Value} (h : zL ls ρ) : zL (xs1 ls j v) (zmk1 j v ρ) := by
  intro p hp
  rcases List.mem_cons.mp hp with rfl | hp
  · show (bif Nat.beq j j then some v else _) = some v
    rw [Nat.beq_refl, cond_true]
  · obtain ⟨hp, hq⟩ := List.mem_filter.mp hp
    show (bif Nat.beq j p.1 then some v else xgl (ls.filter (xk1 j)) p.1) = some p.2
    rw [zxk1_ne hq, cond_false]
    exact zgl_filter (h p hp) hq
theorem zL_2 {ls ρ : XL} {j : Nat} {v : Value} (h : zL ls ρ) : zL (xs2 ls j v) (zmk2 j v ρ) := by
  intro p hp
  rcases List.mem_cons.mp hp with rfl | hp
  · show (bif Nat.beq j j then some v else _) = some v
    rw [Nat.beq_refl, cond_true]
  · obtain ⟨hp, hq⟩ := List.mem_filter.mp hp
    show (bif Nat.beq j p.1 then some v else xgl (ls.filter (xk2 j)) p.1) = some p.2
    rw [zxk2_ne hq, cond_false]
    exact zgl_filter (h p hp) hq
theorem zL_f1 {ls ρ : XL} {j : Nat} (h : zL ls ρ) : zL (ls.filter (xk1 j)) (ρ.filter (xk1 j)) := by
  intro p hp
  obtain ⟨hp, hq⟩ := List.mem_filter.mp hp
  exact zgl_filter (h p hp) hq
end
section
/-! One lemma an instruction, over worlds of a fixed shape. -/
def zr32 (x : Int) : Prop := -2147483648 ≤ x ∧ x ≤ 2147483647
def zr64 (x : Int) : Prop := -9223372036854775808 ≤ x ∧ x ≤ 9223372036854775807
theorem zt32 {x : Int} (h : zr32 x) : (Int32.ofInt x).toInt = x := Int32.toInt_ofInt_of_le (by have := h.1; omega) (by have := h.2; omega)
theorem zt64 {x : Int} (h : zr64 x) : (Int64.ofInt x).toInt = x := Int64.toInt_ofInt_of_le (by have := h.1; omega) (by have := h.2; omega)
theorem zlt32 {x y : Int} (hx : zr32 x) (hy : zr32 y) : Int32.ofInt x < Int32.ofInt y ↔ x < y := by rw [Int32.lt_iff_toInt_lt, zt32 hx, zt32 hy]
theorem zle32 {x y : Int} (hx : zr32 x) (hy : zr32 y) : Int32.ofInt x ≤ Int32.ofInt y ↔ x ≤ y := by rw [Int32.le_iff_toInt_le, zt32 hx, zt32 hy]
theorem zeq32 {x y : Int} (hx : zr32 x) (hy : zr32 y) : Int32.ofInt x = Int32.ofInt y ↔ x = y := by rw [← Int32.toInt_inj, zt32 hx, zt32 hy]
theorem zlt64 {x y : Int} (hx : zr64 x) (hy : zr64 y) : Int64.ofInt x < Int64.ofInt y ↔ x < y := by rw [Int64.lt_iff_toInt_lt, zt64 hx, zt64 hy]
theorem zeq64 {x y : Int} (hx : zr64 x) (hy : zr64 y) : Int64.ofInt x = Int64.ofInt y ↔ x = y := by rw [← Int64.toInt_inj, zt64 hx, zt64 hy]
theorem znat32 {x : Int} (h : 0 ≤ x) : Int32.ofInt x = Int32.ofNat x.toNat := by rw [← Int32.ofInt_eq_ofNat, Int.toNat_of_nonneg h]
theorem znat64 {x : Int} (h : 0 ≤ x) : Int64.ofInt x = Int64.ofNat x.toNat := by rw [← Int64.ofInt_eq_ofNat, Int.toNat_of_nonneg h]
theorem zdiv32 {x y : Int} (hx : 0 ≤ x ∧ x ≤ 2147483647) (hy : 0 < y ∧ y ≤ 2147483647) : Int32.ofInt x / Int32.ofInt y = Int32.ofInt (x / y) := by
  rw [znat32 hx.1, znat32 (by omega : 0 ≤ y), znat32 (Int.ediv_nonneg hx.1 (by omega)), ← y_div32 (by omega) (by omega)]
  congr 1
  have h1 : ((x / y).toNat : Int) = x / y := Int.toNat_of_nonneg (Int.ediv_nonneg hx.1 (by omega))
  have h2 : ((x.toNat / y.toNat : Nat) : Int) = x / y := by rw [Int.natCast_ediv, Int.toNat_of_nonneg hx.1, Int.toNat_of_nonneg (by omega : 0 ≤ y)]
  omega
theorem zrem32 {x y : Int} (hx : 0 ≤ x ∧ x ≤ 2147483647) (hy : 0 < y ∧ y ≤ 2147483647) : Int32.ofInt x - Int32.ofInt x / Int32.ofInt y * Int32.ofInt y = Int32.ofInt (x % y) := by
  rw [zdiv32 hx hy, ← Int32.ofInt_mul, ← Int32.ofInt_sub]
  congr 1
  have := Int.mul_ediv_add_emod x y
  have h2 := Int.mul_comm y (x / y)
  omega
theorem zdiv64 {x y : Int} (hx : 0 ≤ x ∧ x ≤ 9223372036854775807) (hy : 0 < y ∧ y ≤ 9223372036854775807) : Int64.ofInt x / Int64.ofInt y = Int64.ofInt (x / y) := by
  rw [znat64 hx.1, znat64 (by omega : 0 ≤ y), znat64 (Int.ediv_nonneg hx.1 (by omega)), ← y_div64 (by omega) (by omega)]
  congr 1
  have h1 : ((x / y).toNat : Int) = x / y := Int.toNat_of_nonneg (Int.ediv_nonneg hx.1 (by omega))
  have h2 : ((x.toNat / y.toNat : Nat) : Int) = x / y := by rw [Int.natCast_ediv, Int.toNat_of_nonneg hx.1, Int.toNat_of_nonneg (by omega : 0 ≤ y)]
  omega
theorem zrem64 {x y : Int} (hx : 0 ≤ x ∧ x ≤ 9223372036854775807) (hy : 0 < y ∧ y ≤ 9223372036854775807) : Int64.ofInt x - Int64.ofInt x / Int64.ofInt y * Int64.ofInt y = Int64.ofInt (x % y) := by
  rw [zdiv64 hx hy, ← Int64.ofInt_mul, ← Int64.ofInt_sub]
  congr 1
  have := Int.mul_ediv_add_emod x y
  have h2 := Int.mul_comm y (x / y)
  omega
theorem znz32 {y : Int} (hy : 0 < y ∧ y ≤ 2147483647) : ¬ Int32.ofInt y = 0 := by
  intro e
  have e : Int32.ofInt y = Int32.ofInt 0 := e
  rw [zeq32 ⟨by omega, hy.2⟩ ⟨by decide, by decide⟩] at e
  omega
theorem znz64 {y : Int} (hy : 0 < y ∧ y ≤ 9223372036854775807) : ¬ Int64.ofInt y = 0 := by
  intro e
  have e : Int64.ofInt y = Int64.ofInt 0 := e
  rw [zeq64 ⟨by omega, hy.2⟩ ⟨by decide, by decide⟩] at e
  omega
theorem zi2l {x : Int} (h : zr32 x) : (Int32.ofInt x).toInt64 = Int64.ofInt x := by
  apply Int64.toInt_inj.mp
  rw [Int32.toInt_toInt64, zt32 h, zt64 ⟨by have := h.1; omega, by have := h.2; omega⟩]
/-- how an int compares -/
def zcd (cd : Jvm.ClassFile.Cond) (x y : Int) : Prop := match cd with
  | .eq => x = y
  | .ne => ¬ x = y
  | .lt => x < y
  | .ge => ¬ x < y
  | .gt => y < x
  | .le => ¬ y < x
theorem zcmp_e (cd : Jvm.ClassFile.Cond) {x y : Int} (hx : zr32 x) (hy : zr32 y) : y_cmp (y_cd cd) (Int32.ofInt x) (Int32.ofInt y) = true ↔ zcd cd x y := by
  cases cd with
  | eq => show decide _ = true ↔ x = y; rw [decide_eq_true_iff, zeq32 hx hy]
  | ne => show (!decide _) = true ↔ ¬ x = y; rw [← decide_not, decide_eq_true_iff, zeq32 hx hy]
  | lt => show decide _ = true ↔ x < y; rw [decide_eq_true_iff, zlt32 hx hy]
  | ge => show decide _ = true ↔ ¬ x < y; rw [decide_eq_true_iff, zle32 hy hx]; omega
  | gt => show decide _ = true ↔ y < x; rw [decide_eq_true_iff, zlt32 hy hx]
  | le => show decide _ = true ↔ ¬ y < x; rw [decide_eq_true_iff, zle32 hx hy]; omega
theorem zlcmp_e (cd : Jvm.ClassFile.Cond) {x y : Int} (hx : zr64 x) (hy : zr64 y) : y_cmp (y_cd cd) (lg_cmp (Int64.ofInt x) (Int64.ofInt y)) 0 = true ↔ zcd cd x y := by
  have h1 := zlt64 hx hy
  have h2 := zlt64 hy hx
  by_cases a : x < y
  · rw [y_cm1 (h1.mpr a)]
    cases cd with
    | eq => show false = true ↔ x = y; simp; omega
    | ne => show true = true ↔ ¬ x = y; simp; omega
    | lt => show true = true ↔ x < y; simp; omega
    | ge => show false = true ↔ ¬ x < y; simp; omega
    | gt => show false = true ↔ y < x; simp; omega
    | le => show true = true ↔ ¬ y < x; simp; omega
  · by_cases c : y < x
    · rw [y_cm2 (h2.mpr c)]
      cases cd with
      | eq => show false = true ↔ x = y; simp; omega
      | ne => show true = true ↔ ¬ x = y; simp; omega
      | lt => show false = true ↔ x < y; simp; omega
      | ge => show true = true ↔ ¬ x < y; simp; omega
      | gt => show true = true ↔ y < x; simp; omega
      | le => show false = true ↔ ¬ y < x; simp; omega
    · rw [y_cm3 (fun h => a (h1.mp h)) (fun h => c (h2.mp h))]
      cases cd with
      | eq => show true = true ↔ x = y; simp; omega
      | ne => show false = true ↔ ¬ x = y; simp; omega
      | lt => show false = true ↔ x < y; simp; omega
      | ge => show true = true ↔ ¬ x < y; simp; omega
      | gt => show false = true ↔ y < x; simp; omega
      | le => show true = true ↔ ¬ y < x; simp; omega
section ZST
variable {xrec : Nat → List Value → XW → Option (XO × XW)} {xs : List Int32} {k N pc pc' len a b cu su q : Nat} {i : Instr} {ρ ρ' : XL} {st st' : List Value} {w : Bool} {M : zM} {Q : XO → XW → Prop}
theorem zg_op (hc : xcode k pc = some (i, len, a, b)) (hp : xpl i = true) (ho : ∀ ls, zL ls ρ → ∃ ls', xop i pc a (xNl k) ls st = some (pc', ls', st') ∧ zL ls' ρ') (hn : zG (xstep xrec xs k) k N (pc') ρ' st' cu su w M Q) : zG (xstep xrec xs k) k (N + 1) (pc) ρ st cu su w M Q := by
  intro ls hl
  obtain ⟨ls', h1, h2⟩ := ho ls hl
  exact zW_step (xstep_op hc hp h1) (hn ls' h2)
theorem zg_op0 (hc : xcode k pc = some (i, len, a, b)) (hp : xpl i = true) (ho : ∀ nl ls, xop i pc a nl ls st = some (pc', ls, st')) (hn : zG (xstep xrec xs k) k N (pc') ρ st' cu su w M Q) : zG (xstep xrec xs k) k (N + 1) (pc) ρ st cu su w M Q := zg_op hc hp (fun ls hl => ⟨ls, ho _ ls, hl⟩) hn
theorem zg_st (h : ∀ ls, xstep xrec xs k (pc, ls, st, cu, su, (w, zheap M)) = some (.inl (pc', ls, st', cu, su, (w, zheap M)))) (hn : zG (xstep xrec xs k) k N (pc') ρ st' cu su w M Q) : zG (xstep xrec xs k) k (N + 1) (pc) ρ st cu su w M Q := fun ls hl => zW_step (h ls) (hn ls hl)
theorem zz_iconst {c : Int} (hc : xcode k pc = some (.iconst c, len, a, b)) (hn : zG (xstep xrec xs k) k N (pc + 1) ρ (.int (Int32.ofInt c) :: st) cu su w M Q) : zG (xstep xrec xs k) k (N + 1) (pc) ρ st cu su w M Q := zg_op0 hc rfl (fun _ _ => rfl) hn
theorem zz_bipush {c x : Int} (hc : xcode k pc = some (.bipush c, len, a, b)) (hv : (Int8.ofInt c).toInt32 = Int32.ofInt x) (hn : zG (xstep xrec xs k) k N (pc + 2) ρ (.int (Int32.ofInt x) :: st) cu su w M Q) : zG (xstep xrec xs k) k (N + 1) (pc) ρ st cu su w M Q := by rw [← hv] at hn; exact zg_op0 hc rfl (fun _ _ => rfl) hn
theorem zz_sipush {c x : Int} (hc : xcode k pc = some (.sipush c, len, a, b)) (hv : (Int16.ofInt c).toInt32 = Int32.ofInt x) (hn : zG (xstep xrec xs k) k N (pc + 3) ρ (.int (Int32.ofInt x) :: st) cu su w M Q) : zG (xstep xrec xs k) k (N + 1) (pc) ρ st cu su w M Q := by rw [← hv] at hn; exact zg_op0 hc rfl (fun _ _ => rfl) hn
theorem zz_lconst {c : Fin 2} {x : Int} (hc : xcode k pc = some (.lconst c, len, a, b)) (hv : Int64.ofNat c = Int64.ofInt x) (hn : zG (xstep xrec xs k) k N (pc + 1) ρ (.long (Int64.ofInt x) :: st) cu su w M Q) : zG (xstep xrec xs k) k (N + 1) (pc) ρ st cu su w M Q := by rw [← hv] at hn; exact zg_op0 hc rfl (fun _ _ => rfl) hn
theorem zz_ldc {ix : Nat} {v : Value} (hc : xcode k pc = some (.ldc ix, len, a, b)) (hv : xnth xcon a = some v) (hn : zG (xstep xrec xs k) k N (pc + 2) ρ (v :: st) cu su w M Q) : zG (xstep xrec xs k) k (N + 1) (pc) ρ st cu su w M Q := zg_st (fun ls => by unfold xstep; dsimp only; rw [hc]; dsimp only; rw [hv]) hn
theorem zz_ldc_w {ix : Nat} {v : Value} (hc : xcode k pc = some (.ldc_w ix, len, a, b)) (hv : xnth xcon a = some v) (hn : zG (xstep xrec xs k) k N (pc + 3) ρ (v :: st) cu su w M Q) : zG (xstep xrec xs k) k (N + 1) (pc) ρ st cu su w M Q := zg_st (fun ls => by unfold xstep; dsimp only; rw [hc]; dsimp only; rw [hv]) hn
theorem zz_ldc2_w {ix : Nat} {v : Value} (hc : xcode k pc = some (.ldc2_w ix, len, a, b)) (hv : xnth xcon a = some v) (hn : zG (xstep xrec xs k) k N (pc + 3) ρ (v :: st) cu su w M Q) : zG (xstep xrec xs k) k (N + 1) (pc) ρ st cu su w M Q := zg_st (fun ls => by unfold xstep; dsimp only; rw [hc]; dsimp only; rw [hv]) hn
theorem zz_iload_n {jj : Fin 4} {x} (hc : xcode k pc = some (.iload_n jj, len, a, b)) (hm : (jj.val, Value.int x) ∈ ρ) (hn : zG (xstep xrec xs k) k N (pc + 1) ρ (.int x :: st) cu su w M Q) : zG (xstep xrec xs k) k (N + 1) (pc) ρ st cu su w M Q := zg_op hc rfl (fun ls hl => ⟨ls, by have h := hl _ hm; dsimp only at h; unfold xop; dsimp only; rw [h], hl⟩) hn
theorem zz_iload {j : Nat} {x} (hc : xcode k pc = some (.iload j, len, a, b)) (hm : (j, Value.int x) ∈ ρ) (hn : zG (xstep xrec xs k) k N (pc + 2) ρ (.int x :: st) cu su w M Q) : zG (xstep xrec xs k) k (N + 1) (pc) ρ st cu su w M Q := zg_op hc rfl (fun ls hl => ⟨ls, by have h := hl _ hm; dsimp only at h; unfold xop; dsimp only; rw [h], hl⟩) hn
theorem zz_lload_n {jj : Fin 4} {x} (hc : xcode k pc = some (.lload_n jj, len, a, b)) (hm : (jj.val, Value.long x) ∈ ρ) (hn : zG (xstep xrec xs k) k N (pc + 1) ρ (.long x :: st) cu su w M Q) : zG (xstep xrec xs k) k (N + 1) (pc) ρ st cu su w M Q := zg_op hc rfl (fun ls hl => ⟨ls, by have h := hl _ hm; dsimp only at h; unfold xop; dsimp only; rw [h], hl⟩) hn
theorem zz_lload {j : Nat} {x} (hc : xcode k pc = some (.lload j, len, a, b)) (hm : (j, Value.long x) ∈ ρ) (hn : zG (xstep xrec xs k) k N (pc + 2) ρ (.long x :: st) cu su w M Q) : zG (xstep xrec xs k) k (N + 1) (pc) ρ st cu su w M Q := zg_op hc rfl (fun ls hl => ⟨ls, by have h := hl _ hm; dsimp only at h; unfold xop; dsimp only; rw [h], hl⟩) hn
theorem zz_aload_n {jj : Fin 4} {x} (hc : xcode k pc = some (.aload_n jj, len, a, b)) (hm : (jj.val, Value.ref x) ∈ ρ) (hn : zG (xstep xrec xs k) k N (pc + 1) ρ (.ref x :: st) cu su w M Q) : zG (xstep xrec xs k) k (N + 1) (pc) ρ st cu su w M Q := zg_op hc rfl (fun ls hl => ⟨ls, by have h := hl _ hm; dsimp only at h; unfold xop; dsimp only; rw [h], hl⟩) hn
theorem zz_aload {j : Nat} {x} (hc : xcode k pc = some (.aload j, len, a, b)) (hm : (j, Value.ref x) ∈ ρ) (hn : zG (xstep xrec xs k) k N (pc + 2) ρ (.ref x :: st) cu su w M Q) : zG (xstep xrec xs k) k (N + 1) (pc) ρ st cu su w M Q := zg_op hc rfl (fun ls hl => ⟨ls, by have h := hl _ hm; dsimp only at h; unfold xop; dsimp only; rw [h], hl⟩) hn
theorem zz_dload_n {jj : Fin 4} {x} (hc : xcode k pc = some (.dload_n jj, len, a, b)) (hm : (jj.val, Value.double x) ∈ ρ) (hn : zG (xstep xrec xs k) k N (pc + 1) ρ (.double x :: st) cu su w M Q) : zG (xstep xrec xs k) k (N + 1) (pc) ρ st cu su w M Q := zg_op hc rfl (fun ls hl => ⟨ls, by have h := hl _ hm; dsimp only at h; unfold xop; dsimp only; rw [h], hl⟩) hn
theorem zz_dload {j : Nat} {x} (hc : xcode k pc = some (.dload j, len, a, b)) (hm : (j, Value.double x) ∈ ρ) (hn : zG (xstep xrec xs k) k N (pc + 2) ρ (.double x :: st) cu su w M Q) : zG (xstep xrec xs k) k (N + 1) (pc) ρ st cu su w M Q := zg_op hc rfl (fun ls hl => ⟨ls, by have h := hl _ hm; dsimp only at h; unfold xop; dsimp only; rw [h], hl⟩) hn
theorem zz_fload_n {jj : Fin 4} {x} (hc : xcode k pc = some (.fload_n jj, len, a, b)) (hm : (jj.val, Value.float x) ∈ ρ) (hn : zG (xstep xrec xs k) k N (pc + 1) ρ (.float x :: st) cu su w M Q) : zG (xstep xrec xs k) k (N + 1) (pc) ρ st cu su w M Q := zg_op hc rfl (fun ls hl => ⟨ls, by have h := hl _ hm; dsimp only at h; unfold xop; dsimp only; rw [h], hl⟩) hn
theorem zz_fload {j : Nat} {x} (hc : xcode k pc = some (.fload j, len, a, b)) (hm : (j, Value.float x) ∈ ρ) (hn : zG (xstep xrec xs k) k N (pc + 2) ρ (.float x :: st) cu su w M Q) : zG (xstep xrec xs k) k (N + 1) (pc) ρ st cu su w M Q := zg_op hc rfl (fun ls hl => ⟨ls, by have h := hl _ hm; dsimp only at h; unfold xop; dsimp only; rw [h], hl⟩) hn
theorem zz_istore_n {jj : Fin 4} {x} (hc : xcode k pc = some (.istore_n jj, len, a, b)) (hl : Nat.blt jj.val (xNl k) = true) (hn : zG (xstep xrec xs k) k N (pc + 1) (zmk1 jj.val (.int x) ρ) st cu su w M Q) : zG (xstep xrec xs k) k (N + 1) (pc) ρ (.int x :: st) cu su w M Q := zg_op hc rfl (fun ls h => ⟨_, by unfold xop; dsimp only; rw [if_pos (y_blt_t hl)], zL_1 h⟩) hn
theorem zz_istore {j : Nat} {x} (hc : xcode k pc = some (.istore j, len, a, b)) (hl : Nat.blt j (xNl k) = true) (hn : zG (xstep xrec xs k) k N (pc + 2) (zmk1 j (.int x) ρ) st cu su w M Q) : zG (xstep xrec xs k) k (N + 1) (pc) ρ (.int x :: st) cu su w M Q := zg_op hc rfl (fun ls h => ⟨_, by unfold xop; dsimp only; rw [if_pos (y_blt_t hl)], zL_1 h⟩) hn
theorem zz_astore_n {jj : Fin 4} {x} (hc : xcode k pc = some (.astore_n jj, len, a, b)) (hl : Nat.blt jj.val (xNl k) = true) (hn : zG (xstep xrec xs k) k N (pc + 1) (zmk1 jj.val (.ref x) ρ) st cu su w M Q) : zG (xstep xrec xs k) k (N + 1) (pc) ρ (.ref x :: st) cu su w M Q := zg_op hc rfl (fun ls h => ⟨_, by unfold xop; dsimp only; rw [if_pos (y_blt_t hl)], zL_1 h⟩) hn
theorem zz_astore {j : Nat} {x} (hc : xcode k pc = some (.astore j, len, a, b)) (hl : Nat.blt j (xNl k) = true) (hn : zG (xstep xrec xs k) k N (pc + 2) (zmk1 j (.ref x) ρ) st cu su w M Q) : zG (xstep xrec xs k) k (N + 1) (pc) ρ (.ref x :: st) cu su w M Q := zg_op hc rfl (fun ls h => ⟨_, by unfold xop; dsimp only; rw [if_pos (y_blt_t hl)], zL_1 h⟩) hn
theorem zz_lstore_n {jj : Fin 4} {x} (hc : xcode k pc = some (.lstore_n jj, len, a, b)) (hl : Nat.blt (jj.val + 1) (xNl k) = true) (hn : zG (xstep xrec xs k) k N (pc + 1) (zmk2 jj.val (.long x) ρ) st cu su w M Q) : zG (xstep xrec xs k) k (N + 1) (pc) ρ (.long x :: st) cu su w M Q := zg_op hc rfl (fun ls h => ⟨_, by unfold xop; dsimp only; rw [if_pos (y_blt_t hl)], zL_2 h⟩) hn
theorem zz_lstore {j : Nat} {x} (hc : xcode k pc = some (.lstore j, len, a, b)) (hl : Nat.blt (j + 1) (xNl k) = true) (hn : zG (xstep xrec xs k) k N (pc + 2) (zmk2 j (.long x) ρ) st cu su w M Q) : zG (xstep xrec xs k) k (N + 1) (pc) ρ (.long x :: st) cu su w M Q := zg_op hc rfl (fun ls h => ⟨_, by unfold xop; dsimp only; rw [if_pos (y_blt_t hl)], zL_2 h⟩) hn
theorem zz_dstore_n {jj : Fin 4} {x} (hc : xcode k pc = some (.dstore_n jj, len, a, b)) (hl : Nat.blt (jj.val + 1) (xNl k) = true) (hn : zG (xstep xrec xs k) k N (pc + 1) (zmk2 jj.val (.double x) ρ) st cu su w M Q) : zG (xstep xrec xs k) k (N + 1) (pc) ρ (.double x :: st) cu su w M Q := zg_op hc rfl (fun ls h => ⟨_, by unfold xop; dsimp only; rw [if_pos (y_blt_t hl)], zL_2 h⟩) hn
theorem zz_dstore {j : Nat} {x} (hc : xcode k pc = some (.dstore j, len, a, b)) (hl : Nat.blt (j + 1) (xNl k) = true) (hn : zG (xstep xrec xs k) k N (pc + 2) (zmk2 j (.double x) ρ) st cu su w M Q) : zG (xstep xrec xs k) k (N + 1) (pc) ρ (.double x :: st) cu su w M Q := zg_op hc rfl (fun ls h => ⟨_, by unfold xop; dsimp only; rw [if_pos (y_blt_t hl)], zL_2 h⟩) hn
theorem zz_fstore_n {jj : Fin 4} {x} (hc : xcode k pc = some (.fstore_n jj, len, a, b)) (hl : Nat.blt jj.val (xNl k) = true) (hn : zG (xstep xrec xs k) k N (pc + 1) (zmk1 jj.val (.float x) ρ) st cu su w M Q) : zG (xstep xrec xs k) k (N + 1) (pc) ρ (.float x :: st) cu su w M Q := zg_op hc rfl (fun ls h => ⟨_, by unfold xop; dsimp only; rw [if_pos (y_blt_t hl)], zL_1 h⟩) hn
theorem zz_fstore {j : Nat} {x} (hc : xcode k pc = some (.fstore j, len, a, b)) (hl : Nat.blt j (xNl k) = true) (hn : zG (xstep xrec xs k) k N (pc + 2) (zmk1 j (.float x) ρ) st cu su w M Q) : zG (xstep xrec xs k) k (N + 1) (pc) ρ (.float x :: st) cu su w M Q := zg_op hc rfl (fun ls h => ⟨_, by unfold xop; dsimp only; rw [if_pos (y_blt_t hl)], zL_1 h⟩) hn
theorem zz_iinc {j : Nat} {x c : Int} (hc : xcode k pc = some (.iinc j c, len, a, b)) (hm : (j, Value.int (Int32.ofInt x)) ∈ ρ) (hl : Nat.blt j (xNl k) = true) (hn : zG (xstep xrec xs k) k N (pc + 3) (zmk1 j (.int (Int32.ofInt (x + c))) ρ) st cu su w M Q) : zG (xstep xrec xs k) k (N + 1) (pc) ρ st cu su w M Q := zg_op hc rfl (fun ls h => ⟨_, by have h2 := h _ hm; dsimp only at h2; unfold xop; dsimp only; rw [h2]; dsimp only; rw [if_pos (y_blt_t hl), ← Int32.ofInt_add], zL_1 h⟩) hn
theorem zz_iadd {x y : Int} (hc : xcode k pc = some (.iadd, len, a, b)) (hn : zG (xstep xrec xs k) k N (pc + 1) ρ (.int (Int32.ofInt (x + y)) :: st) cu su w M Q) : zG (xstep xrec xs k) k (N + 1) (pc) ρ (.int (Int32.ofInt y) :: .int (Int32.ofInt x) :: st) cu su w M Q := by rw [Int32.ofInt_add] at hn; exact zg_op0 hc rfl (fun _ _ => rfl) hn
theorem zz_isub {x y : Int} (hc : xcode k pc = some (.isub, len, a, b)) (hn : zG (xstep xrec xs k) k N (pc + 1) ρ (.int (Int32.ofInt (x - y)) :: st) cu su w M Q) : zG (xstep xrec xs k) k (N + 1) (pc) ρ (.int (Int32.ofInt y) :: .int (Int32.ofInt x) :: st) cu su w M Q := by rw [Int32.ofInt_sub] at hn; exact zg_op0 hc rfl (fun _ _ => rfl) hn
theorem zz_imul {x y : Int} (hc : xcode k pc = some (.imul, len, a, b)) (hn : zG (xstep xrec xs k) k N (pc + 1) ρ (.int (Int32.ofInt (x * y)) :: st) cu su w M Q) : zG (xstep xrec xs k) k (N + 1) (pc) ρ (.int (Int32.ofInt y) :: .int (Int32.ofInt x) :: st) cu su w M Q := by rw [Int32.ofInt_mul] at hn; exact zg_op0 hc rfl (fun _ _ => rfl) hn
theorem zz_ladd {x y : Int} (hc : xcode k pc = some (.ladd, len, a, b)) (hn : zG (xstep xrec xs k) k N (pc + 1) ρ (.long (Int64.ofInt (x + y)) :: st) cu su w M Q) : zG (xstep xrec xs k) k (N + 1) (pc) ρ (.long (Int64.ofInt y) :: .long (Int64.ofInt x) :: st) cu su w M Q := by rw [Int64.ofInt_add] at hn; exact zg_op0 hc rfl (fun _ _ => rfl) hn
theorem zz_lsub {x y : Int} (hc : xcode k pc = some (.lsub, len, a, b)) (hn : zG (xstep xrec xs k) k N (pc + 1) ρ (.long (Int64.ofInt (x - y)) :: st) cu su w M Q) : zG (xstep xrec xs k) k (N + 1) (pc) ρ (.long (Int64.ofInt y) :: .long (Int64.ofInt x) :: st) cu su w M Q := by rw [Int64.ofInt_sub] at hn; exact zg_op0 hc rfl (fun _ _ => rfl) hn
theorem zz_lmul {x y : Int} (hc : xcode k pc = some (.lmul, len, a, b)) (hn : zG (xstep xrec xs k) k N (pc + 1) ρ (.long (Int64.ofInt (x * y)) :: st) cu su w M Q) : zG (xstep xrec xs k) k (N + 1) (pc) ρ (.long (Int64.ofInt y) :: .long (Int64.ofInt x) :: st) cu su w M Q := by rw [Int64.ofInt_mul] at hn; exact zg_op0 hc rfl (fun _ _ => rfl) hn
theorem zz_idiv {x y : Int} (hc : xcode k pc = some (.idiv, len, a, b)) (hx : 0 ≤ x ∧ x ≤ 2147483647) (hy : 0 < y ∧ y ≤ 2147483647) (hn : zG (xstep xrec xs k) k N (pc + 1) ρ (.int (Int32.ofInt (x / y)) :: st) cu su w M Q) : zG (xstep xrec xs k) k (N + 1) (pc) ρ (.int (Int32.ofInt y) :: .int (Int32.ofInt x) :: st) cu su w M Q := by rw [← zdiv32 hx hy] at hn; exact zg_op0 hc rfl (fun _ _ => by unfold xop; dsimp only; rw [if_neg (znz32 hy)]) hn
theorem zz_irem {x y : Int} (hc : xcode k pc = some (.irem, len, a, b)) (hx : 0 ≤ x ∧ x ≤ 2147483647) (hy : 0 < y ∧ y ≤ 2147483647) (hn : zG (xstep xrec xs k) k N (pc + 1) ρ (.int (Int32.ofInt (x % y)) :: st) cu su w M Q) : zG (xstep xrec xs k) k (N + 1) (pc) ρ (.int (Int32.ofInt y) :: .int (Int32.ofInt x) :: st) cu su w M Q := by rw [← zrem32 hx hy] at hn; exact zg_op0 hc rfl (fun _ _ => by unfold xop; dsimp only; rw [if_neg (znz32 hy)]) hn
theorem zz_ldiv {x y : Int} (hc : xcode k pc = some (.ldiv, len, a, b)) (hx : 0 ≤ x ∧ x ≤ 9223372036854775807) (hy : 0 < y ∧ y ≤ 9223372036854775807) (hn : zG (xstep xrec xs k) k N (pc + 1) ρ (.long (Int64.ofInt (x / y)) :: st) cu su w M Q) : zG (xstep xrec xs k) k (N + 1) (pc) ρ (.long (Int64.ofInt y) :: .long (Int64.ofInt x) :: st) cu su w M Q := by rw [← zdiv64 hx hy] at hn; exact zg_op0 hc rfl (fun _ _ => by unfold xop; dsimp only; rw [if_neg (znz64 hy)]) hn
theorem zz_lrem {x y : Int} (hc : xcode k pc = some (.lrem, len, a, b)) (hx : 0 ≤ x ∧ x ≤ 9223372036854775807) (hy : 0 < y ∧ y ≤ 9223372036854775807) (hn : zG (xstep xrec xs k) k N (pc + 1) ρ (.long (Int64.ofInt (x % y)) :: st) cu su w M Q) : zG (xstep xrec xs k) k (N + 1) (pc) ρ (.long (Int64.ofInt y) :: .long (Int64.ofInt x) :: st) cu su w M Q := by rw [← zrem64 hx hy] at hn; exact zg_op0 hc rfl (fun _ _ => by unfold xop; dsimp only; rw [if_neg (znz64 hy)]) hn
theorem zz_iand {x y z : Int} (hc : xcode k pc = some (.iand, len, a, b)) (hz : (Int32.ofInt x &&& Int32.ofInt y) = Int32.ofInt z) (hn : zG (xstep xrec xs k) k N (pc + 1) ρ (.int (Int32.ofInt z) :: st) cu su w M Q) : zG (xstep xrec xs k) k (N + 1) (pc) ρ (.int (Int32.ofInt y) :: .int (Int32.ofInt x) :: st) cu su w M Q := by rw [← hz] at hn; exact zg_op0 hc rfl (fun _ _ => rfl) hn
theorem zz_ior {x y z : Int} (hc : xcode k pc = some (.ior, len, a, b)) (hz : (Int32.ofInt x ||| Int32.ofInt y) = Int32.ofInt z) (hn : zG (xstep xrec xs k) k N (pc + 1) ρ (.int (Int32.ofInt z) :: st) cu su w M Q) : zG (xstep xrec xs k) k (N + 1) (pc) ρ (.int (Int32.ofInt y) :: .int (Int32.ofInt x) :: st) cu su w M Q := by rw [← hz] at hn; exact zg_op0 hc rfl (fun _ _ => rfl) hn
theorem zz_ishl {x y z : Int} (hc : xcode k pc = some (.ishl, len, a, b)) (hz : (Int32.ofInt x <<< (Int32.ofInt y &&& 31)) = Int32.ofInt z) (hn : zG (xstep xrec xs k) k N (pc + 1) ρ (.int (Int32.ofInt z) :: st) cu su w M Q) : zG (xstep xrec xs k) k (N + 1) (pc) ρ (.int (Int32.ofInt y) :: .int (Int32.ofInt x) :: st) cu su w M Q := by rw [← hz] at hn; exact zg_op0 hc rfl (fun _ _ => rfl) hn
theorem zz_iushr {x y z : Int} (hc : xcode k pc = some (.iushr, len, a, b)) (hz : ((Int32.ofInt x).toUInt32 >>> ((Int32.ofInt y).toUInt32 &&& Int32.toUInt32 31)).toInt32 = Int32.ofInt z) (hn : zG (xstep xrec xs k) k N (pc + 1) ρ (.int (Int32.ofInt z) :: st) cu su w M Q) : zG (xstep xrec xs k) k (N + 1) (pc) ρ (.int (Int32.ofInt y) :: .int (Int32.ofInt x) :: st) cu su w M Q := by rw [← hz] at hn; exact zg_op0 hc rfl (fun _ _ => rfl) hn
theorem zz_i2l {x : Int} (hc : xcode k pc = some (.i2l, len, a, b)) (hx : zr32 x) (hn : zG (xstep xrec xs k) k N (pc + 1) ρ (.long (Int64.ofInt x) :: st) cu su w M Q) : zG (xstep xrec xs k) k (N + 1) (pc) ρ (.int (Int32.ofInt x) :: st) cu su w M Q := by rw [← zi2l hx] at hn; exact zg_op0 hc rfl (fun _ _ => rfl) hn
theorem zz_l2i {x : Int} (hc : xcode k pc = some (.l2i, len, a, b)) (hn : zG (xstep xrec xs k) k N (pc + 1) ρ (.int (Int32.ofInt x) :: st) cu su w M Q) : zG (xstep xrec xs k) k (N + 1) (pc) ρ (.long (Int64.ofInt x) :: st) cu su w M Q := by rw [← Int64.toInt32_ofInt] at hn; exact zg_op0 hc rfl (fun _ _ => rfl) hn
theorem zi2c {x : Int} (hx : 0 ≤ x ∧ x ≤ 65535) : ((Int32.ofInt x).toUInt32 % 65536).toInt32 = Int32.ofInt x := by rw [znat32 hx.1, y_i2c_e, Nat.mod_eq_of_lt (by omega)]
theorem zz_i2c {x : Int} (hc : xcode k pc = some (.i2c, len, a, b)) (hx : 0 ≤ x ∧ x ≤ 65535) (hn : zG (xstep xrec xs k) k N (pc + 1) ρ (.int (Int32.ofInt x) :: st) cu su w M Q) : zG (xstep xrec xs k) k (N + 1) (pc) ρ (.int (Int32.ofInt x) :: st) cu su w M Q := by rw [← zi2c hx] at hn; exact zg_op0 hc rfl (fun _ _ => rfl) hn
theorem zz_dup_i {x} (hc : xcode k pc = some (.dup, len, a, b)) (hn : zG (xstep xrec xs k) k N (pc + 1) ρ (.int x :: .int x :: st) cu su w M Q) : zG (xstep xrec xs k) k (N + 1) (pc) ρ (.int x :: st) cu su w M Q := zg_op0 hc rfl (fun _ _ => rfl) hn
theorem zz_dup_r {x} (hc : xcode k pc = some (.dup, len, a, b)) (hn : zG (xstep xrec xs k) k N (pc + 1) ρ (.ref x :: .ref x :: st) cu su w M Q) : zG (xstep xrec xs k) k (N + 1) (pc) ρ (.ref x :: st) cu su w M Q := zg_op0 hc rfl (fun _ _ => rfl) hn
theorem zz_dup2_ir {x y} (hc : xcode k pc = some (.dup2, len, a, b)) (hn : zG (xstep xrec xs k) k N (pc + 1) ρ (.int y :: .ref x :: .int y :: .ref x :: st) cu su w M Q) : zG (xstep xrec xs k) k (N + 1) (pc) ρ (.int y :: .ref x :: st) cu su w M Q := zg_op0 hc rfl (fun _ _ => rfl) hn
theorem zz_dup2_j {x} (hc : xcode k pc = some (.dup2, len, a, b)) (hn : zG (xstep xrec xs k) k N (pc + 1) ρ (.long x :: .long x :: st) cu su w M Q) : zG (xstep xrec xs k) k (N + 1) (pc) ρ (.long x :: st) cu su w M Q := zg_op0 hc rfl (fun _ _ => rfl) hn
theorem zz_pop2 {x} (hc : xcode k pc = some (.pop2, len, a, b)) (hn : zG (xstep xrec xs k) k N (pc + 1) ρ st cu su w M Q) : zG (xstep xrec xs k) k (N + 1) (pc) ρ (.long x :: st) cu su w M Q := zg_op0 hc rfl (fun _ _ => rfl) hn
theorem zz_pop {x} (hc : xcode k pc = some (.pop, len, a, b)) (hn : zG (xstep xrec xs k) k N (pc + 1) ρ st cu su w M Q) : zG (xstep xrec xs k) k (N + 1) (pc) ρ (.int x :: st) cu su w M Q := zg_op0 hc rfl (fun _ _ => rfl) hn
theorem zz_goto {o : Int} (hc : xcode k pc = some (.goto o, len, a, b)) (hn : zG (xstep xrec xs k) k N (a) ρ st cu su w M Q) : zG (xstep xrec xs k) k (N + 1) (pc) ρ st cu su w M Q := zg_op0 hc rfl (fun _ _ => rfl) hn
theorem zz_ifnull {o : Int} {x} (hc : xcode k pc = some (.ifnull o, len, a, b)) (hn : zG (xstep xrec xs k) k N (pc + 3) ρ st cu su w M Q) : zG (xstep xrec xs k) k (N + 1) (pc) ρ (.ref x :: st) cu su w M Q := zg_op0 hc rfl (fun _ _ => rfl) hn
theorem zz_if {cd : Jvm.ClassFile.Cond} {o x : Int} (hc : xcode k pc = some (.ifCond cd o, len, a, b)) (hx : zr32 x) (ht : zcd cd x 0 → zG (xstep xrec xs k) k N (a) ρ st cu su w M Q) (hf : ¬ zcd cd x 0 → zG (xstep xrec xs k) k N (pc + 3) ρ st cu su w M Q) : zG (xstep xrec xs k) k (N + 1) (pc) ρ (.int (Int32.ofInt x) :: st) cu su w M Q := by
  have h0 : y_cmp (y_cd cd) (Int32.ofInt x) 0 = true ↔ zcd cd x 0 := zcmp_e cd hx (y := 0) ⟨by decide, by decide⟩
  by_cases h : zcd cd x 0
  · refine zg_op0 hc rfl (fun nl ls => ?_) (ht h)
    rw [y_if_e2, if_pos (h0.mpr h)]
  · refine zg_op0 hc rfl (fun nl ls => ?_) (hf h)
    rw [y_if_e2, if_neg (fun e => h (h0.mp e))]
theorem zz_icmp {cd : Jvm.ClassFile.Cond} {o x y : Int} (hc : xcode k pc = some (.if_icmp cd o, len, a, b)) (hx : zr32 x) (hy : zr32 y) (ht : zcd cd x y → zG (xstep xrec xs k) k N (a) ρ st cu su w M Q) (hf : ¬ zcd cd x y → zG (xstep xrec xs k) k N (pc + 3) ρ st cu su w M Q) : zG (xstep xrec xs k) k (N + 1) (pc) ρ (.int (Int32.ofInt y) :: .int (Int32.ofInt x) :: st) cu su w M Q := by
  have h0 := zcmp_e cd hx hy
  by_cases h : zcd cd x y
  · refine zg_op0 hc rfl (fun nl ls => ?_) (ht h)
    rw [y_icmp_e2, if_pos (h0.mpr h)]
  · refine zg_op0 hc rfl (fun nl ls => ?_) (hf h)
    rw [y_icmp_e2, if_neg (fun e => h (h0.mp e))]
theorem zz_lcmp {cd : Jvm.ClassFile.Cond} {o x y : Int} {len2 a2 b2 : Nat} (hc : xcode k pc = some (.lcmp, len, a, b)) (hc2 : xcode k (pc + 1) = some (.ifCond cd o, len2, a2, b2)) (hx : zr64 x) (hy : zr64 y) (ht : zcd cd x y → zG (xstep xrec xs k) k N (a2) ρ st cu su w M Q) (hf : ¬ zcd cd x y → zG (xstep xrec xs k) k N (pc + 4) ρ st cu su w M Q) : zG (xstep xrec xs k) k (N + 2) (pc) ρ (.long (Int64.ofInt y) :: .long (Int64.ofInt x) :: st) cu su w M Q := by
  have h0 := zlcmp_e cd hx hy
  refine zg_op0 hc rfl (fun _ _ => rfl) (?_ : zG (xstep xrec xs k) k (N + 1) (pc + 1) ρ (.int (lg_cmp (Int64.ofInt x) (Int64.ofInt y)) :: st) cu su w M Q)
  by_cases h : zcd cd x y
  · refine zg_op0 hc2 rfl (fun nl ls => ?_) (ht h)
    rw [y_if_e2, if_pos (h0.mpr h)]
  · refine zg_op0 hc2 rfl (fun nl ls => ?_) (hf h)
    rw [y_if_e2, if_neg (fun e => h (h0.mp e))]
theorem zz_getI {l : Nat} {K : Nat → zK} {ix : Nat} (hc : xcode k pc = some (.getfield ix, len, a, b)) (hs : zIs q a l K) (hb : b < l) (hk : K b = .inl false) (hn : zG (xstep xrec xs k) k N (pc + 3) ρ (.int (Int32.ofInt (M q b)) :: st) cu su w M Q) : zG (xstep xrec xs k) k (N + 1) (pc) ρ (.ref q :: st) cu su w M Q := zg_st (fun ls => (xs_getf hc (zheap_at hs) (zslot_at hb)).trans (by rw [hk]; rfl)) hn
theorem zz_getR {l r : Nat} {K : Nat → zK} {ix : Nat} (hc : xcode k pc = some (.getfield ix, len, a, b)) (hs : zIs q a l K) (hb : b < l) (hk : K b = .inr r) (hn : zG (xstep xrec xs k) k N (pc + 3) ρ (.ref r :: st) cu su w M Q) : zG (xstep xrec xs k) k (N + 1) (pc) ρ (.ref q :: st) cu su w M Q := zg_st (fun ls => (xs_getf hc (zheap_at hs) (zslot_at hb)).trans (by rw [hk]; rfl)) hn
theorem zg_w {M' : zM} (h : ∀ ls, xstep xrec xs k (pc, ls, st, cu, su, (w, zheap M)) = some (.inl (pc', ls, st', cu, su, (w, zheap M')))) (hn : zG (xstep xrec xs k) k N (pc') ρ st' cu su w M' Q) : zG (xstep xrec xs k) k (N + 1) (pc) ρ st cu su w M Q := fun ls hl => zW_step (h ls) (hn ls hl)
theorem zz_putI {l : Nat} {K : Nat → zK} {ix : Nat} {x : Int} (hc : xcode k pc = some (.putfield ix, len, a, b)) (hs : zIs q a l K) (hb : b < l) (hk : K b = .inl false) (hf : xfty a b = .int) (hn : zG (xstep xrec xs k) k N (pc + 3) ρ st cu su w (zup M q b x) Q) : zG (xstep xrec xs k) k (N + 1) (pc) ρ (.int (Int32.ofInt x) :: .ref q :: st) cu su w M Q := zg_w (fun ls => (xs_putf hc (zheap_at hs) (by rw [hf]; rfl) (by rw [zslot_len]; exact hb)).trans (by rw [zheap_up hs, hk]; rfl)) hn
theorem zz_putZ {l : Nat} {K : Nat → zK} {ix : Nat} {x : Int} (hc : xcode k pc = some (.putfield ix, len, a, b)) (hs : zIs q a l K) (hb : b < l) (hk : K b = .inl false) (hf : xfty a b = .boolean) (hx : x = 0 ∨ x = 1) (hn : zG (xstep xrec xs k) k N (pc + 3) ρ st cu su w (zup M q b x) Q) : zG (xstep xrec xs k) k (N + 1) (pc) ρ (.int (Int32.ofInt x) :: .ref q :: st) cu su w M Q := zg_w (fun ls => (xs_putf hc (zheap_at hs) (by rw [hf]; rcases hx with rfl | rfl <;> rfl) (by rw [zslot_len]; exact hb)).trans (by rw [zheap_up hs, hk]; rfl)) hn
theorem zxin {j : Int} {l : Nat} (h : 0 ≤ j ∧ j < l) (hl : l ≤ 4096) : xin (Int32.ofInt j) l = true ∧ (Int32.ofInt j).toNatClampNeg = j.toNat ∧ j.toNat < l := by
  have hj : j.toNat < l := by omega
  rw [znat32 h.1]
  exact ⟨y_xin hj hl, y_tnc hj hl, hj⟩
theorem zz_iald {l : Nat} {j : Int} (hc : xcode k pc = some (.iaload, len, a, b)) (hs : zIs q 100 l zI) (hj : 0 ≤ j ∧ j < (l : Int)) (hn : zG (xstep xrec xs k) k N (pc + 1) ρ (.int (Int32.ofInt (M q j.toNat)) :: st) cu su w M Q) : zG (xstep xrec xs k) k (N + 1) (pc) ρ (.int (Int32.ofInt j) :: .ref q :: st) cu su w M Q := by obtain ⟨h1, h2, h3⟩ := zxin hj hs.2.2; exact zg_st (fun ls => xs_iald hc (zheap_at hs) (by rw [zslot_len]; exact h1) (by rw [h2]; exact zslot_at h3)) hn
theorem zz_cald {l : Nat} {j : Int} (hc : xcode k pc = some (.caload, len, a, b)) (hs : zIs q 102 l zI) (hj : 0 ≤ j ∧ j < (l : Int)) (hn : zG (xstep xrec xs k) k N (pc + 1) ρ (.int (Int32.ofInt (M q j.toNat)) :: st) cu su w M Q) : zG (xstep xrec xs k) k (N + 1) (pc) ρ (.int (Int32.ofInt j) :: .ref q :: st) cu su w M Q := by obtain ⟨h1, h2, h3⟩ := zxin hj hs.2.2; exact zg_st (fun ls => xs_cald hc (zheap_at hs) (by rw [zslot_len]; exact h1) (by rw [h2]; exact zslot_at h3)) hn
theorem zz_lald {l : Nat} {j : Int} (hc : xcode k pc = some (.laload, len, a, b)) (hs : zIs q 101 l zJ) (hj : 0 ≤ j ∧ j < (l : Int)) (hn : zG (xstep xrec xs k) k N (pc + 1) ρ (.long (Int64.ofInt (M q j.toNat)) :: st) cu su w M Q) : zG (xstep xrec xs k) k (N + 1) (pc) ρ (.int (Int32.ofInt j) :: .ref q :: st) cu su w M Q := by obtain ⟨h1, h2, h3⟩ := zxin hj hs.2.2; exact zg_st (fun ls => xs_lald hc (zheap_at hs) (by rw [zslot_len]; exact h1) (by rw [h2]; exact zslot_at h3)) hn
theorem zz_iast {l : Nat} {j x : Int} (hc : xcode k pc = some (.iastore, len, a, b)) (hs : zIs q 100 l zI) (hj : 0 ≤ j ∧ j < (l : Int)) (hn : zG (xstep xrec xs k) k N (pc + 1) ρ st cu su w (zup M q j.toNat x) Q) : zG (xstep xrec xs k) k (N + 1) (pc) ρ (.int (Int32.ofInt x) :: .int (Int32.ofInt j) :: .ref q :: st) cu su w M Q := by obtain ⟨h1, h2, h3⟩ := zxin hj hs.2.2; exact zg_w (fun ls => (xs_iast hc (zheap_at hs) (by rw [zslot_len]; exact h1)).trans (by rw [zheap_up hs, h2]; rfl)) hn
theorem zz_last {l : Nat} {j x : Int} (hc : xcode k pc = some (.lastore, len, a, b)) (hs : zIs q 101 l zJ) (hj : 0 ≤ j ∧ j < (l : Int)) (hn : zG (xstep xrec xs k) k N (pc + 1) ρ st cu su w (zup M q j.toNat x) Q) : zG (xstep xrec xs k) k (N + 1) (pc) ρ (.long (Int64.ofInt x) :: .int (Int32.ofInt j) :: .ref q :: st) cu su w M Q := by obtain ⟨h1, h2, h3⟩ := zxin hj hs.2.2; exact zg_w (fun ls => (xs_last hc (zheap_at hs) (by rw [zslot_len]; exact h1)).trans (by rw [zheap_up hs, h2]; rfl)) hn
theorem zz_cast {l : Nat} {j x : Int} (hc : xcode k pc = some (.castore, len, a, b)) (hs : zIs q 102 l zI) (hj : 0 ≤ j ∧ j < (l : Int)) (hx : 0 ≤ x ∧ x ≤ 65535) (hn : zG (xstep xrec xs k) k N (pc + 1) ρ st cu su w (zup M q j.toNat x) Q) : zG (xstep xrec xs k) k (N + 1) (pc) ρ (.int (Int32.ofInt x) :: .int (Int32.ofInt j) :: .ref q :: st) cu su w M Q := by obtain ⟨h1, h2, h3⟩ := zxin hj hs.2.2; exact zg_w (fun ls => (xs_cast hc (zheap_at hs) (by rw [zslot_len]; exact h1) (by rw [znat32 hx.1]; exact y_char (by omega))).trans (by rw [zheap_up hs, h2]; rfl)) hn
theorem zz_aald {l r : Nat} {K : Nat → zK} {j : Int} (hc : xcode k pc = some (.aaload, len, a, b)) (hs : zIs q 103 l K) (hj : 0 ≤ j ∧ j < (l : Int)) (hk : K j.toNat = .inr r) (hn : zG (xstep xrec xs k) k N (pc + 1) ρ (.ref r :: st) cu su w M Q) : zG (xstep xrec xs k) k (N + 1) (pc) ρ (.int (Int32.ofInt j) :: .ref q :: st) cu su w M Q := by obtain ⟨h1, h2, h3⟩ := zxin hj hs.2.2; exact zg_st (fun ls => xs_aald hc (zheap_at hs) (by rw [zslot_len]; exact h1) (by rw [h2, zslot_at h3, hk]; rfl)) hn
theorem zz_alen {c l : Nat} {K : Nat → zK} (hc : xcode k pc = some (.arraylength, len, a, b)) (hs : zIs q c l K) (hq : 100 ≤ c) (hn : zG (xstep xrec xs k) k N (pc + 1) ρ (.int (Int32.ofInt l) :: st) cu su w M Q) : zG (xstep xrec xs k) k (N + 1) (pc) ρ (.ref q :: st) cu su w M Q := zg_st (fun ls => by
  unfold xstep; dsimp only; rw [hc]; dsimp only; rw [zheap_at hs]; dsimp only
  rw [show Nat.ble 100 c = true from Nat.ble_eq_true_of_le hq, cond_true, zslot_len, Int32.ofInt_eq_ofNat]) hn
theorem zz_acpy {c l0 l1 q0 : Nat} {K : Nat → zK} {ix : Nat} {sp dp n : Int} (hc : xcode k pc = some (.invokestatic ix, len, 0, 1)) (hst : (Nat.ble 1 (xFr k) && Nat.ble 38 (xLo k)) = true) (hr : Nat.ble (xcat st) 8 = true) (hs0 : zIs q0 c l0 K) (hs1 : zIs q c l1 K) (hK : (c = 100 ∧ K = zI) ∨ (c = 101 ∧ K = zJ)) (h0 : 0 < l0) (h1 : 0 ≤ sp) (h2 : 0 ≤ dp) (h3 : 0 ≤ n) (g1 : sp + n ≤ l0) (g2 : dp + n ≤ l1) (hn : zG (xstep xrec xs k) k N (pc + 3) ρ st cu su w (zcp M q0 q sp.toNat dp.toNat n.toNat) Q) : zG (xstep xrec xs k) k (N + 1) (pc) ρ (.int (Int32.ofInt n) :: .int (Int32.ofInt dp) :: .ref q :: .int (Int32.ofInt sp) :: .ref q0 :: st) cu su w M Q := by
  have hfa : xfa c ((List.range l0).map (fun j => zval (K j) (M q0 j))) = true := by
    unfold xfa
    refine List.all_eq_true.mpr (fun v hv => ?_)
    obtain ⟨i, -, rfl⟩ := List.mem_map.mp hv
    rcases hK with ⟨rfl, rfl⟩ | ⟨rfl, rfl⟩ <;> rfl
  refine zg_w (fun ls => ?_) hn
  rw [znat32 h1, znat32 h2, znat32 h3, zheap_cp hs1 (hK.imp (fun h => h.2) (fun h => h.2)) (l0 := l0) (by omega) (by omega)]
  exact xs_acpy hc (zheap_at hs0) (zheap_at hs1) (by rcases hK with ⟨rfl, _⟩ | ⟨rfl, _⟩ <;> decide) hfa (by rw [zslot_len]; exact h0) (by rw [zslot_len]; exact hs0.2.2) (by rw [zslot_len]; exact hs1.2.2) (by rw [zslot_len]; omega) (by rw [zslot_len]; omega) hst (xble hr)
theorem zz_raw_iand {x y : Int} (hc : xcode k pc = some (.iand, len, a, b)) (hn : ∀ z : Int, (Int32.ofInt x &&& Int32.ofInt y) = Int32.ofInt z → zG (xstep xrec xs k) k N (pc + 1) ρ (.int (Int32.ofInt z) :: st) cu su w M Q) : zG (xstep xrec xs k) k (N + 1) (pc) ρ (.int (Int32.ofInt y) :: .int (Int32.ofInt x) :: st) cu su w M Q := zz_iand hc (Int32.ofInt_toInt _).symm (hn _ (Int32.ofInt_toInt _).symm)
theorem zz_raw_ior {x y : Int} (hc : xcode k pc = some (.ior, len, a, b)) (hn : ∀ z : Int, (Int32.ofInt x ||| Int32.ofInt y) = Int32.ofInt z → zG (xstep xrec xs k) k N (pc + 1) ρ (.int (Int32.ofInt z) :: st) cu su w M Q) : zG (xstep xrec xs k) k (N + 1) (pc) ρ (.int (Int32.ofInt y) :: .int (Int32.ofInt x) :: st) cu su w M Q := zz_ior hc (Int32.ofInt_toInt _).symm (hn _ (Int32.ofInt_toInt _).symm)
theorem zz_raw_ishl {x y : Int} (hc : xcode k pc = some (.ishl, len, a, b)) (hn : ∀ z : Int, (Int32.ofInt x <<< (Int32.ofInt y &&& 31)) = Int32.ofInt z → zG (xstep xrec xs k) k N (pc + 1) ρ (.int (Int32.ofInt z) :: st) cu su w M Q) : zG (xstep xrec xs k) k (N + 1) (pc) ρ (.int (Int32.ofInt y) :: .int (Int32.ofInt x) :: st) cu su w M Q := zz_ishl hc (Int32.ofInt_toInt _).symm (hn _ (Int32.ofInt_toInt _).symm)
theorem zz_raw_iushr {x y : Int} (hc : xcode k pc = some (.iushr, len, a, b)) (hn : ∀ z : Int, ((Int32.ofInt x).toUInt32 >>> ((Int32.ofInt y).toUInt32 &&& Int32.toUInt32 31)).toInt32 = Int32.ofInt z → zG (xstep xrec xs k) k N (pc + 1) ρ (.int (Int32.ofInt z) :: st) cu su w M Q) : zG (xstep xrec xs k) k (N + 1) (pc) ρ (.int (Int32.ofInt y) :: .int (Int32.ofInt x) :: st) cu su w M Q := zz_iushr hc (Int32.ofInt_toInt _).symm (hn _ (Int32.ofInt_toInt _).symm)
def z_sw (pc : Nat) (d hi : Int) (offs : Array Int) (ts : List Nat) (dd : Nat) : Bool := decide (ts = offs.toList.map (fun o => ((pc : Int) + o).toNat)) && (offs.toList.all (fun o => decide (0 ≤ (pc : Int) + o)) && (decide (0 ≤ (pc : Int) + d ∧ ((pc : Int) + d).toNat = dd) && (decide ((offs.size : Int) = hi + 1) && Nat.ble offs.size 4096)))
theorem z_sw_e {x d hi : Int} {offs : Array Int} {ts : List Nat} {dd nl : Nat} {ls : XL} {r : List Value} (hx : zr32 x) (h : z_sw pc d hi offs ts dd = true) : xop (.tableswitch d 0 hi offs) pc a nl ls (.int (Int32.ofInt x) :: r) = some ((if x < 0 then dd else y_nth dd ts x.toNat), ls, r) := by
  unfold z_sw at h
  obtain ⟨h1, h⟩ := xand h
  obtain ⟨h2, h⟩ := xand h
  obtain ⟨h3, h⟩ := xand h
  obtain ⟨h4, h5⟩ := xand h
  have h1 := xdb h1
  have h4 := xdb h4
  have h5 := xble h5
  by_cases hn : x < 0
  · rw [if_pos hn]
    have e : Int32.ofInt x = Int32.ofNat (x + 4294967296).toNat := by
      apply Int32.toInt_inj.mp
      have := hx.1
      rw [zt32 hx, y_ti32]
      omega
    rw [e, y_tsw_e pc a nl ls r d hi offs ts dd _ (by have := hx.1; omega) h1 h2 (xdb h3) h4 h5, y_nth_e, List.getD_eq_getElem?_getD, List.getElem?_eq_none]
    · rfl
    · rw [h1, List.length_map, Array.length_toList]
      have := hx.1
      omega
  · rw [if_neg hn, znat32 (by omega), y_tsw_e pc a nl ls r d hi offs ts dd _ (by have := hx.2; omega) h1 h2 (xdb h3) h4 h5]
theorem zz_sw3 {x d hi : Int} {offs : Array Int} {t0 t1 t2 td : Nat} (hc : xcode k pc = some (.tableswitch d 0 hi offs, len, a, b)) (hx : zr32 x) (hst : z_sw pc d hi offs [t0, t1, t2] td = true) (a0 : x = 0 → zG (xstep xrec xs k) k N (t0) ρ st cu su w M Q) (a1 : x = 1 → zG (xstep xrec xs k) k N (t1) ρ st cu su w M Q) (a2 : x = 2 → zG (xstep xrec xs k) k N (t2) ρ st cu su w M Q) (ad : (x < 0 ∨ 2 < x) → zG (xstep xrec xs k) k N (td) ρ st cu su w M Q) : zG (xstep xrec xs k) k (N + 1) (pc) ρ (.int (Int32.ofInt x) :: st) cu su w M Q := by
  by_cases h0 : x = 0
  · exact zg_op0 hc rfl (fun nl ls => (z_sw_e hx hst).trans (by rw [h0]; rfl)) (a0 h0)
  by_cases h1 : x = 1
  · exact zg_op0 hc rfl (fun nl ls => (z_sw_e hx hst).trans (by rw [h1]; rfl)) (a1 h1)
  by_cases h2 : x = 2
  · exact zg_op0 hc rfl (fun nl ls => (z_sw_e hx hst).trans (by rw [h2]; rfl)) (a2 h2)
  refine zg_op0 hc rfl (fun nl ls => (z_sw_e hx hst).trans ?_) (ad (by omega))
  by_cases hneg : x < 0
  · rw [if_pos hneg]
  · rw [if_neg hneg, y_nth_e, List.getD_eq_getElem?_getD, List.getElem?_eq_none (by show 3 ≤ x.toNat; omega)]
    rfl
theorem zz_sw4 {x d hi : Int} {offs : Array Int} {t0 t1 t2 t3 td : Nat} (hc : xcode k pc = some (.tableswitch d 0 hi offs, len, a, b)) (hx : zr32 x) (hst : z_sw pc d hi offs [t0, t1, t2, t3] td = true) (a0 : x = 0 → zG (xstep xrec xs k) k N (t0) ρ st cu su w M Q) (a1 : x = 1 → zG (xstep xrec xs k) k N (t1) ρ st cu su w M Q) (a2 : x = 2 → zG (xstep xrec xs k) k N (t2) ρ st cu su w M Q) (a3 : x = 3 → zG (xstep xrec xs k) k N (t3) ρ st cu su w M Q) (ad : (x < 0 ∨ 3 < x) → zG (xstep xrec xs k) k N (td) ρ st cu su w M Q) : zG (xstep xrec xs k) k (N + 1) (pc) ρ (.int (Int32.ofInt x) :: st) cu su w M Q := by
  by_cases h0 : x = 0
  · exact zg_op0 hc rfl (fun nl ls => (z_sw_e hx hst).trans (by rw [h0]; rfl)) (a0 h0)
  by_cases h1 : x = 1
  · exact zg_op0 hc rfl (fun nl ls => (z_sw_e hx hst).trans (by rw [h1]; rfl)) (a1 h1)
  by_cases h2 : x = 2
  · exact zg_op0 hc rfl (fun nl ls => (z_sw_e hx hst).trans (by rw [h2]; rfl)) (a2 h2)
  by_cases h3 : x = 3
  · exact zg_op0 hc rfl (fun nl ls => (z_sw_e hx hst).trans (by rw [h3]; rfl)) (a3 h3)
  refine zg_op0 hc rfl (fun nl ls => (z_sw_e hx hst).trans ?_) (ad (by omega))
  by_cases hneg : x < 0
  · rw [if_pos hneg]
  · rw [if_neg hneg, y_nth_e, List.getD_eq_getElem?_getD, List.getElem?_eq_none (by show 4 ≤ x.toNat; omega)]
    rfl
theorem zz_sw7 {x d hi : Int} {offs : Array Int} {t0 t1 t2 t3 t4 t5 t6 td : Nat} (hc : xcode k pc = some (.tableswitch d 0 hi offs, len, a, b)) (hx : zr32 x) (hst : z_sw pc d hi offs [t0, t1, t2, t3, t4, t5, t6] td = true) (a0 : x = 0 → zG (xstep xrec xs k) k N (t0) ρ st cu su w M Q) (a1 : x = 1 → zG (xstep xrec xs k) k N (t1) ρ st cu su w M Q) (a2 : x = 2 → zG (xstep xrec xs k) k N (t2) ρ st cu su w M Q) (a3 : x = 3 → zG (xstep xrec xs k) k N (t3) ρ st cu su w M Q) (a4 : x = 4 → zG (xstep xrec xs k) k N (t4) ρ st cu su w M Q) (a5 : x = 5 → zG (xstep xrec xs k) k N (t5) ρ st cu su w M Q) (a6 : x = 6 → zG (xstep xrec xs k) k N (t6) ρ st cu su w M Q) (ad : (x < 0 ∨ 6 < x) → zG (xstep xrec xs k) k N (td) ρ st cu su w M Q) : zG (xstep xrec xs k) k (N + 1) (pc) ρ (.int (Int32.ofInt x) :: st) cu su w M Q := by
  by_cases h0 : x = 0
  · exact zg_op0 hc rfl (fun nl ls => (z_sw_e hx hst).trans (by rw [h0]; rfl)) (a0 h0)
  by_cases h1 : x = 1
  · exact zg_op0 hc rfl (fun nl ls => (z_sw_e hx hst).trans (by rw [h1]; rfl)) (a1 h1)
  by_cases h2 : x = 2
  · exact zg_op0 hc rfl (fun nl ls => (z_sw_e hx hst).trans (by rw [h2]; rfl)) (a2 h2)
  by_cases h3 : x = 3
  · exact zg_op0 hc rfl (fun nl ls => (z_sw_e hx hst).trans (by rw [h3]; rfl)) (a3 h3)
  by_cases h4 : x = 4
  · exact zg_op0 hc rfl (fun nl ls => (z_sw_e hx hst).trans (by rw [h4]; rfl)) (a4 h4)
  by_cases h5 : x = 5
  · exact zg_op0 hc rfl (fun nl ls => (z_sw_e hx hst).trans (by rw [h5]; rfl)) (a5 h5)
  by_cases h6 : x = 6
  · exact zg_op0 hc rfl (fun nl ls => (z_sw_e hx hst).trans (by rw [h6]; rfl)) (a6 h6)
  refine zg_op0 hc rfl (fun nl ls => (z_sw_e hx hst).trans ?_) (ad (by omega))
  by_cases hneg : x < 0
  · rw [if_pos hneg]
  · rw [if_neg hneg, y_nth_e, List.getD_eq_getElem?_getD, List.getElem?_eq_none (by show 7 ≤ x.toNat; omega)]
    rfl
noncomputable def zb (p : Prop) : Int := @ite _ p (Classical.propDecidable p) 1 0
theorem zb_t {p : Prop} (h : p) : zb p = 1 := if_pos h
theorem zb_f {p : Prop} (h : ¬ p) : zb p = 0 := if_neg h
theorem zb_01 (p : Prop) : zb p = 0 ∨ zb p = 1 := by
  by_cases h : p
  · exact Or.inr (zb_t h)
  · exact Or.inl (zb_f h)
theorem zb_c {p q : Prop} (h : p ↔ q) : zb p = zb q := by rw [show p = q from propext h]
theorem zz_ifbne {o : Int} {p : Prop} (hc : xcode k pc = some (.ifCond .ne o, len, a, b)) (ht : p → zG (xstep xrec xs k) k N (a) ρ st cu su w M Q) (hf : ¬ p → zG (xstep xrec xs k) k N (pc + 3) ρ st cu su w M Q) : zG (xstep xrec xs k) k (N + 1) (pc) ρ (.int (Int32.ofInt (zb p)) :: st) cu su w M Q := zz_if hc (by rcases zb_01 p with h | h <;> rw [h] <;> exact ⟨by decide, by decide⟩) (fun h => ht (Classical.byContradiction fun hp => h (zb_f hp))) (fun h => hf (fun hp => h (by show ¬ zb p = 0; rw [zb_t hp]; decide)))
theorem zz_ifbeq {o : Int} {p : Prop} (hc : xcode k pc = some (.ifCond .eq o, len, a, b)) (ht : ¬ p → zG (xstep xrec xs k) k N (a) ρ st cu su w M Q) (hf : ¬ ¬ p → zG (xstep xrec xs k) k N (pc + 3) ρ st cu su w M Q) : zG (xstep xrec xs k) k (N + 1) (pc) ρ (.int (Int32.ofInt (zb p)) :: st) cu su w M Q := zz_if hc (by rcases zb_01 p with h | h <;> rw [h] <;> exact ⟨by decide, by decide⟩) (fun h => ht (fun hp => by have h : zb p = 0 := h; rw [zb_t hp] at h; cases h)) (fun h => hf (fun hp => h (zb_f hp)))
theorem zG_ro (h : ρ = ρ') (hn : zG (xstep xrec xs k) k N (pc) ρ' st cu su w M Q) : zG (xstep xrec xs k) k N (pc) ρ st cu su w M Q := by rw [h]; exact hn
theorem zm_as {m : zM} (h : ∀ M', M' = m → zG (xstep xrec xs k) k N (pc) ρ st cu su w M' Q) : zG (xstep xrec xs k) k N (pc) ρ st cu su w m Q := h m rfl
theorem zz_or (c : Prop) (h1 : c → zG (xstep xrec xs k) k N (pc) ρ st cu su w M Q) (h2 : ¬ c → zG (xstep xrec xs k) k N (pc) ρ st cu su w M Q) : zG (xstep xrec xs k) k N (pc) ρ st cu su w M Q := by
  by_cases h : c
  · exact h1 h
  · exact h2 h
theorem zz_ireturn {x} (hc : xcode k pc = some (.ireturn, len, a, b)) (hr : xRet k = some .int) (h1 : cu ≤ xMc k) (h2 : su ≤ xMs k) (hq : Q (.inl (some (.int x))) (w, zheap M)) : zG (xstep xrec xs k) k N (pc) ρ [.int x] cu su w M Q := fun ls hl => ⟨0, _, ((pc, ls, [.int x], cu, su, (w, zheap M)), none), _, _, Nat.zero_le _, rfl, (by unfold xstep; dsimp only; rw [hc]), xs_fin (c := (pc, ls, [.int x], cu, su, (w, zheap M))) hc (by rw [hr]; rfl) h1 h2 (by unfold xfin; dsimp only; rw [hr]), hq⟩
theorem zz_lreturn {x} (hc : xcode k pc = some (.lreturn, len, a, b)) (hr : xRet k = some .long) (h1 : cu ≤ xMc k) (h2 : su ≤ xMs k) (hq : Q (.inl (some (.long x))) (w, zheap M)) : zG (xstep xrec xs k) k N (pc) ρ [.long x] cu su w M Q := fun ls hl => ⟨0, _, ((pc, ls, [.long x], cu, su, (w, zheap M)), none), _, _, Nat.zero_le _, rfl, (by unfold xstep; dsimp only; rw [hc]), xs_fin (c := (pc, ls, [.long x], cu, su, (w, zheap M))) hc (by rw [hr]; rfl) h1 h2 (by unfold xfin; dsimp only; rw [hr]), hq⟩
theorem zz_zreturn {x : Int} (hc : xcode k pc = some (.ireturn, len, a, b)) (hr : xRet k = some .boolean) (h1 : cu ≤ xMc k) (h2 : su ≤ xMs k) (hx : x = 0 ∨ x = 1) (hq : Q (.inl (some (.int (Int32.ofInt x)))) (w, zheap M)) : zG (xstep xrec xs k) k N (pc) ρ [.int (Int32.ofInt x)] cu su w M Q := fun ls hl => ⟨0, _, ((pc, ls, [.int (Int32.ofInt x)], cu, su, (w, zheap M)), none), _, _, Nat.zero_le _, rfl, (by unfold xstep; dsimp only; rw [hc]), xs_fin (c := (pc, ls, [.int (Int32.ofInt x)], cu, su, (w, zheap M))) (o := .inl (some (.int (Int32.ofInt x)))) hc (by rw [hr]; rfl) h1 h2 (by unfold xfin; dsimp only; rw [hr]; rcases hx with rfl | rfl <;> rfl), hq⟩
theorem zz_return (hc : xcode k pc = some (.return_, len, a, b)) (hr : xRet k = none) (h1 : cu ≤ xMc k) (h2 : su ≤ xMs k) (hq : Q (.inl none) (w, zheap M)) : zG (xstep xrec xs k) k N (pc) ρ [] cu su w M Q := fun ls hl => ⟨0, _, ((pc, ls, [], cu, su, (w, zheap M)), none), _, _, Nat.zero_le _, rfl, (by unfold xstep; dsimp only; rw [hc]), xs_fin (c := (pc, ls, [], cu, su, (w, zheap M))) hc (by rw [hr]; rfl) h1 h2 (by unfold xfin; dsimp only; rw [hr]), hq⟩
theorem zz_thr {ix : Nat} (hc : xcode k pc = some (.new ix, len, a, b + 1)) (hst : (Nat.ble 6 (xFr k) && Nat.ble 90 (xLo k)) = true) (hr : Nat.ble (xcat st) 8 = true) (h1 : cu + 1 ≤ xMc k) (h2 : su + 6 ≤ xMs k) (hq : Q (.inr a) (false, zheap M)) : zG (xstep xrec xs k) k N (pc) ρ st cu su w M Q := by
  obtain ⟨s1, s2⟩ := xand hst
  have h3 : Nat.ble (xcat st + 82) (xLo k) = true := Nat.ble_eq_true_of_le (by have := xble s2; have := xble hr; omega)
  refine fun ls hl => ⟨0, _, ((pc, ls, st, cu, su, (w, zheap M)), some a), _, _, Nat.zero_le _, rfl, ?_, ?_, hq⟩
  · unfold xstep; dsimp only; rw [hc]; dsimp only
    rw [s1, h3, show Nat.ble (cu + 1) (xMc k) = true from Nat.ble_eq_true_of_le h1, show Nat.ble (su + 6) (xMs k) = true from Nat.ble_eq_true_of_le h2]
    rfl
  · unfold xfin2
    dsimp only
    rw [show Nat.ble cu (xMc k) = true from Nat.ble_eq_true_of_le (by omega), show Nat.ble su (xMs k) = true from Nat.ble_eq_true_of_le (by omega)]
    rfl
/-- behind a call -/
theorem zg_call {as : List Value} {o : XO} {w' : Bool} {M' : zM} {st0 : List Value} (hx : ∀ ls, xstep xrec xs k (pc, ls, st0, cu, su, (w, zheap M)) = xback k a pc ls st cu su (xrec a as (w, zheap M))) (hr : xrec a as (w, zheap M) = some (o, (w', zheap M'))) (h1 : cu + xMc a ≤ xMc k) (h2 : su + xMs a ≤ xMs k)
    (hv : ∀ v, o = .inl (some v) → zG (xstep xrec xs k) k N (pc + 3) ρ (v :: st) (cu + xMc a) (su + xMs a) w' M' Q) (hz : o = .inl none → zG (xstep xrec xs k) k N (pc + 3) ρ st (cu + xMc a) (su + xMs a) w' M' Q)
    (he : ∀ E, o = .inr E → xhnd (xHh k) pc E = none → Q (.inr E) (false, zheap M')) (hh : ∀ E h t j, o = .inr E → xhnd (xHh k) pc E = some h → xh2 k h = some (t, j) → zG (xstep xrec xs k) k N (t) (ρ.filter (xk1 j)) [] (cu + xMc a) (su + xMs a) w' M' Q) (hhc : ∀ E h, xhnd (xHh k) pc E = some h → ∃ t j, xh2 k h = some (t, j)) : zG (xstep xrec xs k) k (N + 1) (pc) ρ st0 cu su w M Q := by
  intro ls hl
  have hx := hx ls
  rw [hr] at hx
  rcases o with (_ | v) | E
  · exact zW_step (hx.trans rfl) (hz rfl ls hl)
  · exact zW_step (hx.trans rfl) (hv v rfl ls hl)
  · cases hq : xhnd (xHh k) pc E with
    | none =>
      refine ⟨0, _, ((pc, ls, st, cu + xMc a, su + xMs a, (w', zheap M')), some E), _, _, Nat.zero_le _, rfl, ?_, ?_, he E rfl hq⟩
      · rw [hx]
        unfold xback
        dsimp only
        rw [hq]
      · unfold xfin2
        dsimp only
        rw [show Nat.ble (cu + xMc a) (xMc k) = true from Nat.ble_eq_true_of_le h1, show Nat.ble (su + xMs a) (xMs k) = true from Nat.ble_eq_true_of_le h2]
        rfl
    | some h =>
      obtain ⟨t, j, ht⟩ := hhc E h hq
      refine zW_step ?_ (hh E h t j rfl hq ht (ls.filter (xk1 j)) (zL_f1 hl))
      rw [hx]
      unfold xback
      dsimp only
      rw [hq]
      dsimp only
      unfold xh2 at ht
      split at ht
      · next j0 e0 hc0 =>
        rw [hc0]
        dsimp only
        cases hb : Nat.blt j0 (xNl k) with
        | false => rw [hb] at ht; cases ht
        | true =>
          rw [hb, cond_true] at ht
          cases ht
          rfl
      · next j0 e0 hc0 =>
        rw [hc0]
        dsimp only
        cases hb : Nat.blt j0 (xNl k) with
        | false => rw [hb] at ht; cases ht
        | true =>
          rw [hb, cond_true] at ht
          cases ht
          rfl
      · cases ht
/-- what a call asks of the tables -/
def z_rm (k a : Nat) (st : List Value) (cu su : Nat) : Bool := y_rst k a && (Nat.ble (xcat st) 8 && (Nat.ble (cu + xMc a) (xMc k) && Nat.ble (su + xMs a) (xMs k)))
theorem z_rm_e (h : z_rm k a st cu su = true) : xroom k a st cu su = true ∧ cu + xMc a ≤ xMc k ∧ su + xMs a ≤ xMs k := by
  unfold z_rm y_rst at h
  obtain ⟨h1, h⟩ := xand h
  obtain ⟨h2, h⟩ := xand h
  obtain ⟨h3, h4⟩ := xand h
  obtain ⟨h5, h6⟩ := xand h1
  refine ⟨?_, xble h3, xble h4⟩
  unfold xroom
  rw [h2, h5, h6, h3, h4]
  rfl
/-- a call that returns a value -/
theorem zz_call_v {as st0 : List Value} {v : Value} {w' : Bool} {M' : zM} (hx : ∀ ls, xroom k a st cu su = true → xstep xrec xs k (pc, ls, st0, cu, su, (w, zheap M)) = xback k a pc ls st cu su (xrec a as (w, zheap M))) (hrm : z_rm k a st cu su = true) (hr : xrec a as (w, zheap M) = some (.inl (some v), (w', zheap M'))) (hn : zG (xstep xrec xs k) k N (pc + 3) ρ (v :: st) (cu + xMc a) (su + xMs a) w' M' Q) : zG (xstep xrec xs k) k (N + 1) (pc) ρ st0 cu su w M Q := by
  obtain ⟨g0, g1, g2⟩ := z_rm_e hrm
  intro ls hl
  have hx := hx ls g0
  rw [hr] at hx
  exact zW_step (hx.trans rfl) (hn ls hl)
theorem zz_call_0 {as st0 : List Value} {w' : Bool} {M' : zM} (hx : ∀ ls, xroom k a st cu su = true → xstep xrec xs k (pc, ls, st0, cu, su, (w, zheap M)) = xback k a pc ls st cu su (xrec a as (w, zheap M))) (hrm : z_rm k a st cu su = true) (hr : xrec a as (w, zheap M) = some (.inl none, (w', zheap M'))) (hn : zG (xstep xrec xs k) k N (pc + 3) ρ st (cu + xMc a) (su + xMs a) w' M' Q) : zG (xstep xrec xs k) k (N + 1) (pc) ρ st0 cu su w M Q := by
  obtain ⟨g0, g1, g2⟩ := z_rm_e hrm
  intro ls hl
  have hx := hx ls g0
  rw [hr] at hx
  exact zW_step (hx.trans rfl) (hn ls hl)
/-- a call that throws, no handler here -/
theorem zz_call_e {as st0 : List Value} {E : Nat} {w' : Bool} {M' : zM} (hx : ∀ ls, xroom k a st cu su = true → xstep xrec xs k (pc, ls, st0, cu, su, (w, zheap M)) = xback k a pc ls st cu su (xrec a as (w, zheap M))) (hrm : z_rm k a st cu su = true) (hh : xhnd (xHh k) pc E = none) (hr : xrec a as (w, zheap M) = some (.inr E, (w', zheap M'))) (hq : Q (.inr E) (false, zheap M')) : zG (xstep xrec xs k) k N (pc) ρ st0 cu su w M Q := by
  obtain ⟨g0, g1, g2⟩ := z_rm_e hrm
  intro ls hl
  have hx := hx ls g0
  rw [hr] at hx
  refine ⟨0, _, ((pc, ls, st, cu + xMc a, su + xMs a, (w', zheap M')), some E), _, _, Nat.zero_le _, rfl, ?_, ?_, hq⟩
  · rw [hx]
    unfold xback
    dsimp only
    rw [hh]
  · unfold xfin2
    dsimp only
    rw [show Nat.ble (cu + xMc a) (xMc k) = true from Nat.ble_eq_true_of_le g1, show Nat.ble (su + xMs a) (xMs k) = true from Nat.ble_eq_true_of_le g2]
    rfl
theorem zz_calS {as : List Value} {st0 : List Value} {ix : Nat} (hc : xcode k pc = some (.invokestatic ix, len, a, 0)) (hs : xsplit (xNa a) st0 [] = some (as, st)) (ls : XL) (hr : xroom k a st cu su = true) : xstep xrec xs k (pc, ls, st0, cu, su, (w, zheap M)) = xback k a pc ls st cu su (xrec a as (w, zheap M)) := xs_calS hc hs hr
theorem zz_calI {as : List Value} {st0 : List Value} {ix : Nat} (hb : b = 0 ∨ b = 1) (hc : xcode k pc = some (.invokespecial ix, len, a, b)) (hs : xsplit (xNa a) st0 [] = some (as, .ref q :: st)) (ls : XL) (hr : xroom k a st cu su = true) : xstep xrec xs k (pc, ls, st0, cu, su, (w, zheap M)) = xback k a pc ls st cu su (xrec a (.ref q :: as) (w, zheap M)) := xs_calI hb hc hs hr
theorem zz_calV {as : List Value} {st0 : List Value} {ix l : Nat} {K : Nat → zK} (hc : xcode k pc = some (.invokevirtual ix, len, a, b)) (hs : xsplit (xNa a) st0 [] = some (as, .ref q :: st)) (hi : zIs q (xK a) l K) (ls : XL) (hr : xroom k a st cu su = true) : xstep xrec xs k (pc, ls, st0, cu, su, (w, zheap M)) = xback k a pc ls st cu su (xrec a (.ref q :: as) (w, zheap M)) := xs_calV hc hs (zheap_at hi) rfl hr
end ZST
/-- a method's run -/
theorem zrun_e {xs : List Int32} {d k N : Nat} {av : List Value} {w : Bool} {M : zM} {Q : XO → XW → Prop} (hN : N < 1048576) (ha : Nat.ble (xcat av) (xNl k) = true) (h : zG (xstep (xrun2 xs d) xs k) k N 0 (lv_args 0 av) [] 0 0 w M Q) (hu : zL (lv_args 0 av) (lv_args 0 av)) : ∃ o σ, xrun2 xs (d + 1) k av (w, zheap M) = some (o, σ) ∧ Q o σ := by
  obtain ⟨n, c1, z, o, σ, hn, hp, hz, hf, hq⟩ := h _ hu
  refine ⟨o, σ, ?_, hq⟩
  show xone xs (xrun2 xs d) 20 k av (w, zheap M) = some (o, σ)
  unfold xone
  rw [ha, cond_true]
  have hx : xit (xstep (xrun2 xs d) xs k) 20 (0, lv_args 0 av, [], 0, 0, (w, zheap M)) = some (.inr z) := by
    refine xit_inr 20 n _ c1 ?_ hp hz
    have : (2 : Nat) ^ 20 = 1048576 := by decide +kernel
    omega
  generalize xit (xstep (xrun2 xs d) xs k) 20 (0, lv_args 0 av, [], 0, 0, (w, zheap M)) = R at hx ⊢
  subst hx
  exact hf
theorem zlv_ge : ∀ (vs : List Value) (n : Nat) (p : Nat × Value), p ∈ lv_args n vs → n ≤ p.1
  | [], _, _, h => by cases h
  | v :: vs, n, p, h => by
    rcases List.mem_cons.mp h with rfl | h
    · exact Nat.le_refl _
    · have := zlv_ge vs _ p h
      split at this <;> omega
theorem zL_args : ∀ (vs : List Value) (n : Nat), zL (lv_args n vs) (lv_args n vs)
  | [], _, _, h => by cases h
  | v :: vs, n, p, h => by
    rcases List.mem_cons.mp h with rfl | h
    · show (bif Nat.beq n n then some v else _) = some v
      rw [Nat.beq_refl, cond_true]
    · have h1 := zlv_ge vs _ p h
      have h2 : Nat.beq n p.1 = false := by
        cases hb : Nat.beq n p.1 with
        | false => rfl
        | true => have := Nat.eq_of_beq_eq_true hb; split at h1 <;> omega
      show (bif Nat.beq n p.1 then some v else xgl (lv_args _ vs) p.1) = some p.2
      rw [h2, cond_false]
      exact zL_args vs _ p h
/-- a method's run, with its answer -/
theorem zrun_v {xs : List Int32} {d k N : Nat} {av : List Value} {w w' : Bool} {M M' : zM} {out : XO} (hN : Nat.blt N 1048576 = true) (ha : Nat.ble (xcat av) (xNl k) = true) (h : zG (xstep (xrun2 xs d) xs k) k N 0 (lv_args 0 av) [] 0 0 w M (fun o σ => o = out ∧ σ = (w', zheap M'))) : xrun2 xs (d + 1) k av (w, zheap M) = some (out, (w', zheap M')) := by
  obtain ⟨o, σ, h1, h2, h3⟩ := zrun_e (y_blt_t hN) ha h (zL_args av 0)
  rw [h1, h2, h3]
end
