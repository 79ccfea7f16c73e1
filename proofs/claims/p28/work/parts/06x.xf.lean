noncomputable section
/-! What the tables hold at a place. -/
theorem xf_0_0 : xcode 0 0 = some (.aload_n 0, 1, 0, 0) := rfl
theorem xf_0_1 : xcode 0 1 = some (.invokespecial 3, 3, 0, 2) := rfl
theorem xf_0_4 : xcode 0 4 = some (.aload_n 0, 1, 0, 0) := rfl
theorem xf_0_5 : xcode 0 5 = some (.bipush 6, 2, 0, 0) := rfl
theorem xf_0_7 : xcode 0 7 = some (.anewarray 9, 3, 103, 0) := rfl
theorem xf_0_10 : xcode 0 10 = some (.putfield 11, 3, 0, 0) := rfl
theorem xf_0_13 : xcode 0 13 = some (.aload_n 0, 1, 0, 0) := rfl
theorem xf_0_14 : xcode 0 14 = some (.iconst 0, 1, 0, 0) := rfl
theorem xf_0_15 : xcode 0 15 = some (.putfield 17, 3, 0, 1) := rfl
theorem xf_0_18 : xcode 0 18 = some (.aload_n 0, 1, 0, 0) := rfl
theorem xf_0_19 : xcode 0 19 = some (.iconst 0, 1, 0, 0) := rfl
theorem xf_0_20 : xcode 0 20 = some (.putfield 21, 3, 0, 2) := rfl
theorem xf_0_23 : xcode 0 23 = some (.iconst 0, 1, 0, 0) := rfl
theorem xf_0_24 : xcode 0 24 = some (.istore_n 1, 1, 0, 0) := rfl
theorem xf_0_25 : xcode 0 25 = some (.iload_n 1, 1, 0, 0) := rfl
theorem xf_0_26 : xcode 0 26 = some (.bipush 6, 2, 0, 0) := rfl
theorem xf_0_28 : xcode 0 28 = some (.if_icmp .ge 22, 3, 50, 0) := rfl
theorem xf_0_31 : xcode 0 31 = some (.aload_n 0, 1, 0, 0) := rfl
theorem xf_0_32 : xcode 0 32 = some (.getfield 11, 3, 0, 0) := rfl
theorem xf_0_35 : xcode 0 35 = some (.iload_n 1, 1, 0, 0) := rfl
theorem xf_0_36 : xcode 0 36 = some (.new 9, 3, 6, 0) := rfl
theorem xf_0_39 : xcode 0 39 = some (.dup, 1, 0, 0) := rfl
theorem xf_0_40 : xcode 0 40 = some (.invokespecial 24, 3, 48, 1) := rfl
theorem xf_0_43 : xcode 0 43 = some (.aastore, 1, 0, 0) := rfl
theorem xf_0_44 : xcode 0 44 = some (.iinc 1 1, 3, 0, 0) := rfl
theorem xf_0_47 : xcode 0 47 = some (.goto (-22), 3, 25, 0) := rfl
theorem xf_0_50 : xcode 0 50 = some (.return_, 1, 0, 0) := rfl
theorem xf_1_0 : xcode 1 0 = some (.aload_n 0, 1, 0, 0) := rfl
theorem xf_1_1 : xcode 1 1 = some (.getfield 21, 3, 0, 2) := rfl
theorem xf_1_4 : xcode 1 4 = some (.bipush 6, 2, 0, 0) := rfl
theorem xf_1_6 : xcode 1 6 = some (.if_icmp .ne 26, 3, 32, 0) := rfl
theorem xf_1_9 : xcode 1 9 = some (.aload_n 0, 1, 0, 0) := rfl
theorem xf_1_10 : xcode 1 10 = some (.aload_n 0, 1, 0, 0) := rfl
theorem xf_1_11 : xcode 1 11 = some (.getfield 17, 3, 0, 1) := rfl
theorem xf_1_14 : xcode 1 14 = some (.iconst 1, 1, 0, 0) := rfl
theorem xf_1_15 : xcode 1 15 = some (.iadd, 1, 0, 0) := rfl
theorem xf_1_16 : xcode 1 16 = some (.bipush 6, 2, 0, 0) := rfl
theorem xf_1_18 : xcode 1 18 = some (.irem, 1, 0, 0) := rfl
theorem xf_1_19 : xcode 1 19 = some (.putfield 17, 3, 0, 1) := rfl
theorem xf_1_22 : xcode 1 22 = some (.aload_n 0, 1, 0, 0) := rfl
theorem xf_1_23 : xcode 1 23 = some (.dup, 1, 0, 0) := rfl
theorem xf_1_24 : xcode 1 24 = some (.getfield 21, 3, 0, 2) := rfl
theorem xf_1_27 : xcode 1 27 = some (.iconst 1, 1, 0, 0) := rfl
theorem xf_1_28 : xcode 1 28 = some (.isub, 1, 0, 0) := rfl
theorem xf_1_29 : xcode 1 29 = some (.putfield 21, 3, 0, 2) := rfl
theorem xf_1_32 : xcode 1 32 = some (.aload_n 0, 1, 0, 0) := rfl
theorem xf_1_33 : xcode 1 33 = some (.getfield 11, 3, 0, 0) := rfl
theorem xf_1_36 : xcode 1 36 = some (.aload_n 0, 1, 0, 0) := rfl
theorem xf_1_37 : xcode 1 37 = some (.getfield 17, 3, 0, 1) := rfl
theorem xf_1_40 : xcode 1 40 = some (.aload_n 0, 1, 0, 0) := rfl
theorem xf_1_41 : xcode 1 41 = some (.getfield 21, 3, 0, 2) := rfl
theorem xf_1_44 : xcode 1 44 = some (.iadd, 1, 0, 0) := rfl
theorem xf_1_45 : xcode 1 45 = some (.bipush 6, 2, 0, 0) := rfl
theorem xf_1_47 : xcode 1 47 = some (.irem, 1, 0, 0) := rfl
theorem xf_1_48 : xcode 1 48 = some (.aaload, 1, 0, 0) := rfl
theorem xf_1_49 : xcode 1 49 = some (.astore_n 2, 1, 0, 0) := rfl
theorem xf_1_50 : xcode 1 50 = some (.aload_n 2, 1, 0, 0) := rfl
theorem xf_1_51 : xcode 1 51 = some (.ifnull 18, 3, 69, 0) := rfl
theorem xf_1_54 : xcode 1 54 = some (.aload_n 2, 1, 0, 0) := rfl
theorem xf_1_55 : xcode 1 55 = some (.aload_n 1, 1, 0, 0) := rfl
theorem xf_1_56 : xcode 1 56 = some (.invokevirtual 25, 3, 49, 0) := rfl
theorem xf_1_59 : xcode 1 59 = some (.aload_n 0, 1, 0, 0) := rfl
theorem xf_1_60 : xcode 1 60 = some (.dup, 1, 0, 0) := rfl
theorem xf_1_61 : xcode 1 61 = some (.getfield 21, 3, 0, 2) := rfl
theorem xf_1_64 : xcode 1 64 = some (.iconst 1, 1, 0, 0) := rfl
theorem xf_1_65 : xcode 1 65 = some (.iadd, 1, 0, 0) := rfl
theorem xf_1_66 : xcode 1 66 = some (.putfield 21, 3, 0, 2) := rfl
theorem xf_1_69 : xcode 1 69 = some (.return_, 1, 0, 0) := rfl
theorem xf_2_0 : xcode 2 0 = some (.aload_n 0, 1, 0, 0) := rfl
theorem xf_2_1 : xcode 2 1 = some (.getfield 21, 3, 0, 2) := rfl
theorem xf_2_4 : xcode 2 4 = some (.ifCond .ne 4, 3, 8, 0) := rfl
theorem xf_2_7 : xcode 2 7 = some (.return_, 1, 0, 0) := rfl
theorem xf_2_8 : xcode 2 8 = some (.aload_n 0, 1, 0, 0) := rfl
theorem xf_2_9 : xcode 2 9 = some (.dup, 1, 0, 0) := rfl
theorem xf_2_10 : xcode 2 10 = some (.getfield 21, 3, 0, 2) := rfl
theorem xf_2_13 : xcode 2 13 = some (.iconst 1, 1, 0, 0) := rfl
theorem xf_2_14 : xcode 2 14 = some (.isub, 1, 0, 0) := rfl
theorem xf_2_15 : xcode 2 15 = some (.putfield 21, 3, 0, 2) := rfl
theorem xf_2_18 : xcode 2 18 = some (.aload_n 0, 1, 0, 0) := rfl
theorem xf_2_19 : xcode 2 19 = some (.getfield 11, 3, 0, 0) := rfl
theorem xf_2_22 : xcode 2 22 = some (.aload_n 0, 1, 0, 0) := rfl
theorem xf_2_23 : xcode 2 23 = some (.getfield 17, 3, 0, 1) := rfl
theorem xf_2_26 : xcode 2 26 = some (.aload_n 0, 1, 0, 0) := rfl
theorem xf_2_27 : xcode 2 27 = some (.getfield 21, 3, 0, 2) := rfl
theorem xf_2_30 : xcode 2 30 = some (.iadd, 1, 0, 0) := rfl
theorem xf_2_31 : xcode 2 31 = some (.bipush 6, 2, 0, 0) := rfl
theorem xf_2_33 : xcode 2 33 = some (.irem, 1, 0, 0) := rfl
theorem xf_2_34 : xcode 2 34 = some (.aaload, 1, 0, 0) := rfl
theorem xf_2_35 : xcode 2 35 = some (.astore_n 2, 1, 0, 0) := rfl
theorem xf_2_36 : xcode 2 36 = some (.aload_n 2, 1, 0, 0) := rfl
theorem xf_2_37 : xcode 2 37 = some (.ifnull 8, 3, 45, 0) := rfl
theorem xf_2_40 : xcode 2 40 = some (.aload_n 1, 1, 0, 0) := rfl
theorem xf_2_41 : xcode 2 41 = some (.aload_n 2, 1, 0, 0) := rfl
theorem xf_2_42 : xcode 2 42 = some (.invokevirtual 25, 3, 49, 0) := rfl
theorem xf_2_45 : xcode 2 45 = some (.return_, 1, 0, 0) := rfl
theorem xf_3_0 : xcode 3 0 = some (.aload_n 0, 1, 0, 0) := rfl
theorem xf_3_1 : xcode 3 1 = some (.invokespecial 3, 3, 0, 2) := rfl
theorem xf_3_4 : xcode 3 4 = some (.aload_n 0, 1, 0, 0) := rfl
theorem xf_3_5 : xcode 3 5 = some (.bipush 36, 2, 0, 0) := rfl
theorem xf_3_7 : xcode 3 7 = some (.newarray .long, 2, 101, 0) := rfl
theorem xf_3_9 : xcode 3 9 = some (.putfield 9, 3, 1, 0) := rfl
theorem xf_3_12 : xcode 3 12 = some (.aload_n 0, 1, 0, 0) := rfl
theorem xf_3_13 : xcode 3 13 = some (.bipush 36, 2, 0, 0) := rfl
theorem xf_3_15 : xcode 3 15 = some (.newarray .long, 2, 101, 0) := rfl
theorem xf_3_17 : xcode 3 17 = some (.putfield 15, 3, 1, 1) := rfl
theorem xf_3_20 : xcode 3 20 = some (.aload_n 0, 1, 0, 0) := rfl
theorem xf_3_21 : xcode 3 21 = some (.bipush 36, 2, 0, 0) := rfl
theorem xf_3_23 : xcode 3 23 = some (.newarray .int, 2, 100, 0) := rfl
theorem xf_3_25 : xcode 3 25 = some (.putfield 18, 3, 1, 2) := rfl
theorem xf_3_28 : xcode 3 28 = some (.return_, 1, 0, 0) := rfl
theorem xf_4_0 : xcode 4 0 = some (.aload_n 1, 1, 0, 0) := rfl
theorem xf_4_1 : xcode 4 1 = some (.invokevirtual 22, 3, 15, 0) := rfl
theorem xf_4_4 : xcode 4 4 = some (.istore_n 3, 1, 0, 0) := rfl
theorem xf_4_5 : xcode 4 5 = some (.iconst 0, 1, 0, 0) := rfl
theorem xf_4_6 : xcode 4 6 = some (.istore 4, 2, 0, 0) := rfl
theorem xf_4_8 : xcode 4 8 = some (.iload 4, 2, 0, 0) := rfl
theorem xf_4_10 : xcode 4 10 = some (.iload_n 3, 1, 0, 0) := rfl
theorem xf_4_11 : xcode 4 11 = some (.if_icmp .ge 30, 3, 41, 0) := rfl
theorem xf_4_14 : xcode 4 14 = some (.aload_n 0, 1, 0, 0) := rfl
theorem xf_4_15 : xcode 4 15 = some (.getfield 9, 3, 1, 0) := rfl
theorem xf_4_18 : xcode 4 18 = some (.iload 4, 2, 0, 0) := rfl
theorem xf_4_20 : xcode 4 20 = some (.aload_n 1, 1, 0, 0) := rfl
theorem xf_4_21 : xcode 4 21 = some (.iload 4, 2, 0, 0) := rfl
theorem xf_4_23 : xcode 4 23 = some (.invokevirtual 28, 3, 17, 0) := rfl
theorem xf_4_26 : xcode 4 26 = some (.ifCond .eq 7, 3, 33, 0) := rfl
theorem xf_4_29 : xcode 4 29 = some (.lconst 1, 1, 0, 0) := rfl
theorem xf_4_30 : xcode 4 30 = some (.goto 4, 3, 34, 0) := rfl
theorem xf_4_33 : xcode 4 33 = some (.lconst 0, 1, 0, 0) := rfl
theorem xf_4_34 : xcode 4 34 = some (.lastore, 1, 0, 0) := rfl
theorem xf_4_35 : xcode 4 35 = some (.iinc 4 1, 3, 0, 0) := rfl
theorem xf_4_38 : xcode 4 38 = some (.goto (-30), 3, 8, 0) := rfl
theorem xf_4_41 : xcode 4 41 = some (.aload_n 0, 1, 0, 0) := rfl
theorem xf_4_42 : xcode 4 42 = some (.aload_n 2, 1, 0, 0) := rfl
theorem xf_4_43 : xcode 4 43 = some (.iload_n 3, 1, 0, 0) := rfl
theorem xf_4_44 : xcode 4 44 = some (.invokevirtual 32, 3, 11, 0) := rfl
theorem xf_4_47 : xcode 4 47 = some (.return_, 1, 0, 0) := rfl
theorem xf_5_0 : xcode 5 0 = some (.aload_n 0, 1, 0, 0) := rfl
theorem xf_5_1 : xcode 5 1 = some (.aload_n 1, 1, 0, 0) := rfl
theorem xf_5_2 : xcode 5 2 = some (.iload_n 2, 1, 0, 0) := rfl
theorem xf_5_3 : xcode 5 3 = some (.invokevirtual 36, 3, 6, 0) := rfl
theorem xf_5_6 : xcode 5 6 = some (.aload_n 0, 1, 0, 0) := rfl
theorem xf_5_7 : xcode 5 7 = some (.aload_n 1, 1, 0, 0) := rfl
theorem xf_5_8 : xcode 5 8 = some (.invokevirtual 40, 3, 7, 0) := rfl
theorem xf_5_11 : xcode 5 11 = some (.aload_n 0, 1, 0, 0) := rfl
theorem xf_5_12 : xcode 5 12 = some (.aload_n 3, 1, 0, 0) := rfl
theorem xf_5_13 : xcode 5 13 = some (.aload_n 1, 1, 0, 0) := rfl
theorem xf_5_14 : xcode 5 14 = some (.getfield 44, 3, 6, 0) := rfl
theorem xf_5_17 : xcode 5 17 = some (.invokevirtual 22, 3, 15, 0) := rfl
theorem xf_5_20 : xcode 5 20 = some (.invokevirtual 32, 3, 11, 0) := rfl
theorem xf_5_23 : xcode 5 23 = some (.return_, 1, 0, 0) := rfl
theorem xf_6_0 : xcode 6 0 = some (.aload_n 1, 1, 0, 0) := rfl
theorem xf_6_1 : xcode 6 1 = some (.getfield 44, 3, 6, 0) := rfl
theorem xf_6_4 : xcode 6 4 = some (.invokevirtual 22, 3, 15, 0) := rfl
theorem xf_6_7 : xcode 6 7 = some (.istore_n 3, 1, 0, 0) := rfl
theorem xf_6_8 : xcode 6 8 = some (.iconst 0, 1, 0, 0) := rfl
theorem xf_6_9 : xcode 6 9 = some (.istore 4, 2, 0, 0) := rfl
theorem xf_6_11 : xcode 6 11 = some (.iload 4, 2, 0, 0) := rfl
theorem xf_6_13 : xcode 6 13 = some (.iload_n 3, 1, 0, 0) := rfl
theorem xf_6_14 : xcode 6 14 = some (.if_icmp .ge 17, 3, 31, 0) := rfl
theorem xf_6_17 : xcode 6 17 = some (.aload_n 0, 1, 0, 0) := rfl
theorem xf_6_18 : xcode 6 18 = some (.getfield 9, 3, 1, 0) := rfl
theorem xf_6_21 : xcode 6 21 = some (.iload 4, 2, 0, 0) := rfl
theorem xf_6_23 : xcode 6 23 = some (.lconst 0, 1, 0, 0) := rfl
theorem xf_6_24 : xcode 6 24 = some (.lastore, 1, 0, 0) := rfl
theorem xf_6_25 : xcode 6 25 = some (.iinc 4 1, 3, 0, 0) := rfl
theorem xf_6_28 : xcode 6 28 = some (.goto (-17), 3, 11, 0) := rfl
theorem xf_6_31 : xcode 6 31 = some (.iconst 0, 1, 0, 0) := rfl
theorem xf_6_32 : xcode 6 32 = some (.istore 4, 2, 0, 0) := rfl
theorem xf_6_34 : xcode 6 34 = some (.iload 4, 2, 0, 0) := rfl
theorem xf_6_36 : xcode 6 36 = some (.iload_n 3, 1, 0, 0) := rfl
theorem xf_6_37 : xcode 6 37 = some (.if_icmp .ge 75, 3, 112, 0) := rfl
theorem xf_6_40 : xcode 6 40 = some (.aload_n 1, 1, 0, 0) := rfl
theorem xf_6_41 : xcode 6 41 = some (.getfield 50, 3, 6, 3) := rfl
theorem xf_6_44 : xcode 6 44 = some (.iload 4, 2, 0, 0) := rfl
theorem xf_6_46 : xcode 6 46 = some (.iaload, 1, 0, 0) := rfl
theorem xf_6_47 : xcode 6 47 = some (.i2l, 1, 0, 0) := rfl
theorem xf_6_48 : xcode 6 48 = some (.lstore 5, 2, 0, 0) := rfl
theorem xf_6_50 : xcode 6 50 = some (.iconst 0, 1, 0, 0) := rfl
theorem xf_6_51 : xcode 6 51 = some (.istore 7, 2, 0, 0) := rfl
theorem xf_6_53 : xcode 6 53 = some (.lload 5, 2, 0, 0) := rfl
theorem xf_6_55 : xcode 6 55 = some (.lconst 0, 1, 0, 0) := rfl
theorem xf_6_56 : xcode 6 56 = some (.lcmp, 1, 0, 0) := rfl
theorem xf_6_57 : xcode 6 57 = some (.ifCond .le 49, 3, 106, 0) := rfl
theorem xf_6_60 : xcode 6 60 = some (.iload 7, 2, 0, 0) := rfl
theorem xf_6_62 : xcode 6 62 = some (.iconst 4, 1, 0, 0) := rfl
theorem xf_6_63 : xcode 6 63 = some (.if_icmp .ge 43, 3, 106, 0) := rfl
theorem xf_6_66 : xcode 6 66 = some (.aload_n 0, 1, 0, 0) := rfl
theorem xf_6_67 : xcode 6 67 = some (.getfield 9, 3, 1, 0) := rfl
theorem xf_6_70 : xcode 6 70 = some (.aload_n 1, 1, 0, 0) := rfl
theorem xf_6_71 : xcode 6 71 = some (.getfield 44, 3, 6, 0) := rfl
theorem xf_6_74 : xcode 6 74 = some (.iload 4, 2, 0, 0) := rfl
theorem xf_6_76 : xcode 6 76 = some (.iload_n 2, 1, 0, 0) := rfl
theorem xf_6_77 : xcode 6 77 = some (.iload 7, 2, 0, 0) := rfl
theorem xf_6_79 : xcode 6 79 = some (.invokevirtual 53, 3, 25, 0) := rfl
theorem xf_6_82 : xcode 6 82 = some (.dup2, 1, 0, 0) := rfl
theorem xf_6_83 : xcode 6 83 = some (.laload, 1, 0, 0) := rfl
theorem xf_6_84 : xcode 6 84 = some (.lload 5, 2, 0, 0) := rfl
theorem xf_6_86 : xcode 6 86 = some (.aload_n 1, 1, 0, 0) := rfl
theorem xf_6_87 : xcode 6 87 = some (.getfield 57, 3, 6, 1) := rfl
theorem xf_6_90 : xcode 6 90 = some (.getfield 61, 3, 7, 0) := rfl
theorem xf_6_93 : xcode 6 93 = some (.iload 7, 2, 0, 0) := rfl
theorem xf_6_95 : xcode 6 95 = some (.iaload, 1, 0, 0) := rfl
theorem xf_6_96 : xcode 6 96 = some (.i2l, 1, 0, 0) := rfl
theorem xf_6_97 : xcode 6 97 = some (.lmul, 1, 0, 0) := rfl
theorem xf_6_98 : xcode 6 98 = some (.ladd, 1, 0, 0) := rfl
theorem xf_6_99 : xcode 6 99 = some (.lastore, 1, 0, 0) := rfl
theorem xf_6_100 : xcode 6 100 = some (.iinc 7 1, 3, 0, 0) := rfl
theorem xf_6_103 : xcode 6 103 = some (.goto (-50), 3, 53, 0) := rfl
theorem xf_6_106 : xcode 6 106 = some (.iinc 4 1, 3, 0, 0) := rfl
theorem xf_6_109 : xcode 6 109 = some (.goto (-75), 3, 34, 0) := rfl
theorem xf_6_112 : xcode 6 112 = some (.return_, 1, 0, 0) := rfl
theorem xf_7_0 : xcode 7 0 = some (.aload_n 1, 1, 0, 0) := rfl
theorem xf_7_1 : xcode 7 1 = some (.getfield 44, 3, 6, 0) := rfl
theorem xf_7_4 : xcode 7 4 = some (.invokevirtual 22, 3, 15, 0) := rfl
theorem xf_7_7 : xcode 7 7 = some (.istore_n 2, 1, 0, 0) := rfl
theorem xf_7_8 : xcode 7 8 = some (.aload_n 1, 1, 0, 0) := rfl
theorem xf_7_9 : xcode 7 9 = some (.getfield 44, 3, 6, 0) := rfl
theorem xf_7_12 : xcode 7 12 = some (.invokevirtual 66, 3, 19, 0) := rfl
theorem xf_7_15 : xcode 7 15 = some (.i2l, 1, 0, 0) := rfl
theorem xf_7_16 : xcode 7 16 = some (.lstore_n 3, 1, 0, 0) := rfl
theorem xf_7_17 : xcode 7 17 = some (.aload_n 1, 1, 0, 0) := rfl
theorem xf_7_18 : xcode 7 18 = some (.getfield 57, 3, 6, 1) := rfl
theorem xf_7_21 : xcode 7 21 = some (.getfield 69, 3, 7, 2) := rfl
theorem xf_7_24 : xcode 7 24 = some (.i2l, 1, 0, 0) := rfl
theorem xf_7_25 : xcode 7 25 = some (.lstore 5, 2, 0, 0) := rfl
theorem xf_7_27 : xcode 7 27 = some (.iconst 0, 1, 0, 0) := rfl
theorem xf_7_28 : xcode 7 28 = some (.istore 7, 2, 0, 0) := rfl
theorem xf_7_30 : xcode 7 30 = some (.iload 7, 2, 0, 0) := rfl
theorem xf_7_32 : xcode 7 32 = some (.iload_n 2, 1, 0, 0) := rfl
theorem xf_7_33 : xcode 7 33 = some (.if_icmp .ge 55, 3, 88, 0) := rfl
theorem xf_7_36 : xcode 7 36 = some (.aload_n 1, 1, 0, 0) := rfl
theorem xf_7_37 : xcode 7 37 = some (.getfield 44, 3, 6, 0) := rfl
theorem xf_7_40 : xcode 7 40 = some (.iload 7, 2, 0, 0) := rfl
theorem xf_7_42 : xcode 7 42 = some (.invokevirtual 28, 3, 17, 0) := rfl
theorem xf_7_45 : xcode 7 45 = some (.ifCond .eq 37, 3, 82, 0) := rfl
theorem xf_7_48 : xcode 7 48 = some (.aload_n 0, 1, 0, 0) := rfl
theorem xf_7_49 : xcode 7 49 = some (.getfield 9, 3, 1, 0) := rfl
theorem xf_7_52 : xcode 7 52 = some (.iload 7, 2, 0, 0) := rfl
theorem xf_7_54 : xcode 7 54 = some (.ldc2_w 73, 3, 0, 0) := rfl
theorem xf_7_57 : xcode 7 57 = some (.lload 5, 2, 0, 0) := rfl
theorem xf_7_59 : xcode 7 59 = some (.lsub, 1, 0, 0) := rfl
theorem xf_7_60 : xcode 7 60 = some (.lload_n 3, 1, 0, 0) := rfl
theorem xf_7_61 : xcode 7 61 = some (.lmul, 1, 0, 0) := rfl
theorem xf_7_62 : xcode 7 62 = some (.aload_n 0, 1, 0, 0) := rfl
theorem xf_7_63 : xcode 7 63 = some (.getfield 9, 3, 1, 0) := rfl
theorem xf_7_66 : xcode 7 66 = some (.iload 7, 2, 0, 0) := rfl
theorem xf_7_68 : xcode 7 68 = some (.laload, 1, 0, 0) := rfl
theorem xf_7_69 : xcode 7 69 = some (.lmul, 1, 0, 0) := rfl
theorem xf_7_70 : xcode 7 70 = some (.lload 5, 2, 0, 0) := rfl
theorem xf_7_72 : xcode 7 72 = some (.ldc2_w 75, 3, 1, 0) := rfl
theorem xf_7_75 : xcode 7 75 = some (.lmul, 1, 0, 0) := rfl
theorem xf_7_76 : xcode 7 76 = some (.ldc2_w 77, 3, 2, 0) := rfl
theorem xf_7_79 : xcode 7 79 = some (.lmul, 1, 0, 0) := rfl
theorem xf_7_80 : xcode 7 80 = some (.ladd, 1, 0, 0) := rfl
theorem xf_7_81 : xcode 7 81 = some (.lastore, 1, 0, 0) := rfl
theorem xf_7_82 : xcode 7 82 = some (.iinc 7 1, 3, 0, 0) := rfl
theorem xf_7_85 : xcode 7 85 = some (.goto (-55), 3, 30, 0) := rfl
theorem xf_7_88 : xcode 7 88 = some (.return_, 1, 0, 0) := rfl
theorem xf_8_0 : xcode 8 0 = some (.aload_n 1, 1, 0, 0) := rfl
theorem xf_8_1 : xcode 8 1 = some (.getfield 44, 3, 6, 0) := rfl
theorem xf_8_4 : xcode 8 4 = some (.invokevirtual 22, 3, 15, 0) := rfl
theorem xf_8_7 : xcode 8 7 = some (.istore 4, 2, 0, 0) := rfl
theorem xf_8_9 : xcode 8 9 = some (.lconst 0, 1, 0, 0) := rfl
theorem xf_8_10 : xcode 8 10 = some (.lstore 5, 2, 0, 0) := rfl
theorem xf_8_12 : xcode 8 12 = some (.iconst 0, 1, 0, 0) := rfl
theorem xf_8_13 : xcode 8 13 = some (.istore 7, 2, 0, 0) := rfl
theorem xf_8_15 : xcode 8 15 = some (.iload 7, 2, 0, 0) := rfl
theorem xf_8_17 : xcode 8 17 = some (.iload 4, 2, 0, 0) := rfl
theorem xf_8_19 : xcode 8 19 = some (.if_icmp .ge 76, 3, 95, 0) := rfl
theorem xf_8_22 : xcode 8 22 = some (.aload_n 1, 1, 0, 0) := rfl
theorem xf_8_23 : xcode 8 23 = some (.getfield 57, 3, 6, 1) := rfl
theorem xf_8_26 : xcode 8 26 = some (.getfield 79, 3, 7, 1) := rfl
theorem xf_8_29 : xcode 8 29 = some (.aload_n 1, 1, 0, 0) := rfl
theorem xf_8_30 : xcode 8 30 = some (.getfield 44, 3, 6, 0) := rfl
theorem xf_8_33 : xcode 8 33 = some (.iload 7, 2, 0, 0) := rfl
theorem xf_8_35 : xcode 8 35 = some (.invokevirtual 82, 3, 18, 0) := rfl
theorem xf_8_38 : xcode 8 38 = some (.iconst 4, 1, 0, 0) := rfl
theorem xf_8_39 : xcode 8 39 = some (.imul, 1, 0, 0) := rfl
theorem xf_8_40 : xcode 8 40 = some (.iload_n 3, 1, 0, 0) := rfl
theorem xf_8_41 : xcode 8 41 = some (.iadd, 1, 0, 0) := rfl
theorem xf_8_42 : xcode 8 42 = some (.iaload, 1, 0, 0) := rfl
theorem xf_8_43 : xcode 8 43 = some (.istore 8, 2, 0, 0) := rfl
theorem xf_8_45 : xcode 8 45 = some (.aload_n 0, 1, 0, 0) := rfl
theorem xf_8_46 : xcode 8 46 = some (.getfield 9, 3, 1, 0) := rfl
theorem xf_8_49 : xcode 8 49 = some (.iload 7, 2, 0, 0) := rfl
theorem xf_8_51 : xcode 8 51 = some (.aload_n 1, 1, 0, 0) := rfl
theorem xf_8_52 : xcode 8 52 = some (.getfield 44, 3, 6, 0) := rfl
theorem xf_8_55 : xcode 8 55 = some (.iload 7, 2, 0, 0) := rfl
theorem xf_8_57 : xcode 8 57 = some (.invokevirtual 28, 3, 17, 0) := rfl
theorem xf_8_60 : xcode 8 60 = some (.ifCond .eq 15, 3, 75, 0) := rfl
theorem xf_8_63 : xcode 8 63 = some (.aload_n 2, 1, 0, 0) := rfl
theorem xf_8_64 : xcode 8 64 = some (.iload 7, 2, 0, 0) := rfl
theorem xf_8_66 : xcode 8 66 = some (.iaload, 1, 0, 0) := rfl
theorem xf_8_67 : xcode 8 67 = some (.i2l, 1, 0, 0) := rfl
theorem xf_8_68 : xcode 8 68 = some (.iload 8, 2, 0, 0) := rfl
theorem xf_8_70 : xcode 8 70 = some (.i2l, 1, 0, 0) := rfl
theorem xf_8_71 : xcode 8 71 = some (.lmul, 1, 0, 0) := rfl
theorem xf_8_72 : xcode 8 72 = some (.goto 4, 3, 76, 0) := rfl
theorem xf_8_75 : xcode 8 75 = some (.lconst 0, 1, 0, 0) := rfl
theorem xf_8_76 : xcode 8 76 = some (.lastore, 1, 0, 0) := rfl
theorem xf_8_77 : xcode 8 77 = some (.lload 5, 2, 0, 0) := rfl
theorem xf_8_79 : xcode 8 79 = some (.aload_n 0, 1, 0, 0) := rfl
theorem xf_8_80 : xcode 8 80 = some (.getfield 9, 3, 1, 0) := rfl
theorem xf_8_83 : xcode 8 83 = some (.iload 7, 2, 0, 0) := rfl
theorem xf_8_85 : xcode 8 85 = some (.laload, 1, 0, 0) := rfl
theorem xf_8_86 : xcode 8 86 = some (.ladd, 1, 0, 0) := rfl
theorem xf_8_87 : xcode 8 87 = some (.lstore 5, 2, 0, 0) := rfl
theorem xf_8_89 : xcode 8 89 = some (.iinc 7 1, 3, 0, 0) := rfl
theorem xf_8_92 : xcode 8 92 = some (.goto (-77), 3, 15, 0) := rfl
theorem xf_8_95 : xcode 8 95 = some (.lload 5, 2, 0, 0) := rfl
theorem xf_8_97 : xcode 8 97 = some (.lreturn, 1, 0, 0) := rfl
theorem xf_9_0 : xcode 9 0 = some (.aload_n 0, 1, 0, 0) := rfl
theorem xf_9_1 : xcode 9 1 = some (.aload_n 1, 1, 0, 0) := rfl
theorem xf_9_2 : xcode 9 2 = some (.aload_n 1, 1, 0, 0) := rfl
theorem xf_9_3 : xcode 9 3 = some (.getfield 50, 3, 6, 3) := rfl
theorem xf_9_6 : xcode 9 6 = some (.iload_n 2, 1, 0, 0) := rfl
theorem xf_9_7 : xcode 9 7 = some (.invokevirtual 86, 3, 8, 0) := rfl
theorem xf_9_10 : xcode 9 10 = some (.lstore_n 3, 1, 0, 0) := rfl
theorem xf_9_11 : xcode 9 11 = some (.lload_n 3, 1, 0, 0) := rfl
theorem xf_9_12 : xcode 9 12 = some (.lconst 0, 1, 0, 0) := rfl
theorem xf_9_13 : xcode 9 13 = some (.lcmp, 1, 0, 0) := rfl
theorem xf_9_14 : xcode 9 14 = some (.ifCond .le 22, 3, 36, 0) := rfl
theorem xf_9_17 : xcode 9 17 = some (.lload_n 3, 1, 0, 0) := rfl
theorem xf_9_18 : xcode 9 18 = some (.ldc2_w 77, 3, 2, 0) := rfl
theorem xf_9_21 : xcode 9 21 = some (.aload_n 1, 1, 0, 0) := rfl
theorem xf_9_22 : xcode 9 22 = some (.getfield 57, 3, 6, 1) := rfl
theorem xf_9_25 : xcode 9 25 = some (.getfield 90, 3, 7, 3) := rfl
theorem xf_9_28 : xcode 9 28 = some (.i2l, 1, 0, 0) := rfl
theorem xf_9_29 : xcode 9 29 = some (.lmul, 1, 0, 0) := rfl
theorem xf_9_30 : xcode 9 30 = some (.lcmp, 1, 0, 0) := rfl
theorem xf_9_31 : xcode 9 31 = some (.ifCond .lt 5, 3, 36, 0) := rfl
theorem xf_9_34 : xcode 9 34 = some (.iconst 1, 1, 0, 0) := rfl
theorem xf_9_35 : xcode 9 35 = some (.ireturn, 1, 0, 0) := rfl
theorem xf_9_36 : xcode 9 36 = some (.aload_n 0, 1, 0, 0) := rfl
theorem xf_9_37 : xcode 9 37 = some (.aload_n 1, 1, 0, 0) := rfl
theorem xf_9_38 : xcode 9 38 = some (.getfield 44, 3, 6, 0) := rfl
theorem xf_9_41 : xcode 9 41 = some (.aload_n 0, 1, 0, 0) := rfl
theorem xf_9_42 : xcode 9 42 = some (.getfield 18, 3, 1, 2) := rfl
theorem xf_9_45 : xcode 9 45 = some (.invokevirtual 93, 3, 4, 0) := rfl
theorem xf_9_48 : xcode 9 48 = some (.aload_n 0, 1, 0, 0) := rfl
theorem xf_9_49 : xcode 9 49 = some (.aload_n 1, 1, 0, 0) := rfl
theorem xf_9_50 : xcode 9 50 = some (.aload_n 0, 1, 0, 0) := rfl
theorem xf_9_51 : xcode 9 51 = some (.getfield 18, 3, 1, 2) := rfl
theorem xf_9_54 : xcode 9 54 = some (.iload_n 2, 1, 0, 0) := rfl
theorem xf_9_55 : xcode 9 55 = some (.invokevirtual 86, 3, 8, 0) := rfl
theorem xf_9_58 : xcode 9 58 = some (.lconst 0, 1, 0, 0) := rfl
theorem xf_9_59 : xcode 9 59 = some (.lcmp, 1, 0, 0) := rfl
theorem xf_9_60 : xcode 9 60 = some (.ifCond .le 7, 3, 67, 0) := rfl
theorem xf_9_63 : xcode 9 63 = some (.iconst 2, 1, 0, 0) := rfl
theorem xf_9_64 : xcode 9 64 = some (.goto 4, 3, 68, 0) := rfl
theorem xf_9_67 : xcode 9 67 = some (.iconst 0, 1, 0, 0) := rfl
theorem xf_9_68 : xcode 9 68 = some (.ireturn, 1, 0, 0) := rfl
theorem xf_10_0 : xcode 10 0 = some (.aload_n 0, 1, 0, 0) := rfl
theorem xf_10_1 : xcode 10 1 = some (.aload_n 1, 1, 0, 0) := rfl
theorem xf_10_2 : xcode 10 2 = some (.iload_n 2, 1, 0, 0) := rfl
theorem xf_10_3 : xcode 10 3 = some (.aload_n 0, 1, 0, 0) := rfl
theorem xf_10_4 : xcode 10 4 = some (.getfield 18, 3, 1, 2) := rfl
theorem xf_10_7 : xcode 10 7 = some (.invokevirtual 97, 3, 5, 0) := rfl
theorem xf_10_10 : xcode 10 10 = some (.aload_n 1, 1, 0, 0) := rfl
theorem xf_10_11 : xcode 10 11 = some (.getfield 44, 3, 6, 0) := rfl
theorem xf_10_14 : xcode 10 14 = some (.invokevirtual 22, 3, 15, 0) := rfl
theorem xf_10_17 : xcode 10 17 = some (.istore_n 3, 1, 0, 0) := rfl
theorem xf_10_18 : xcode 10 18 = some (.lconst 0, 1, 0, 0) := rfl
theorem xf_10_19 : xcode 10 19 = some (.lstore 4, 2, 0, 0) := rfl
theorem xf_10_21 : xcode 10 21 = some (.iconst 0, 1, 0, 0) := rfl
theorem xf_10_22 : xcode 10 22 = some (.istore 6, 2, 0, 0) := rfl
theorem xf_10_24 : xcode 10 24 = some (.iload 6, 2, 0, 0) := rfl
theorem xf_10_26 : xcode 10 26 = some (.iconst 4, 1, 0, 0) := rfl
theorem xf_10_27 : xcode 10 27 = some (.if_icmp .ge 60, 3, 87, 0) := rfl
theorem xf_10_30 : xcode 10 30 = some (.aload_n 0, 1, 0, 0) := rfl
theorem xf_10_31 : xcode 10 31 = some (.aload_n 1, 1, 0, 0) := rfl
theorem xf_10_32 : xcode 10 32 = some (.aload_n 0, 1, 0, 0) := rfl
theorem xf_10_33 : xcode 10 33 = some (.getfield 18, 3, 1, 2) := rfl
theorem xf_10_36 : xcode 10 36 = some (.iload 6, 2, 0, 0) := rfl
theorem xf_10_38 : xcode 10 38 = some (.invokevirtual 86, 3, 8, 0) := rfl
theorem xf_10_41 : xcode 10 41 = some (.pop2, 1, 0, 0) := rfl
theorem xf_10_42 : xcode 10 42 = some (.lconst 0, 1, 0, 0) := rfl
theorem xf_10_43 : xcode 10 43 = some (.lstore 7, 2, 0, 0) := rfl
theorem xf_10_45 : xcode 10 45 = some (.iconst 0, 1, 0, 0) := rfl
theorem xf_10_46 : xcode 10 46 = some (.istore 9, 2, 0, 0) := rfl
theorem xf_10_48 : xcode 10 48 = some (.iload 9, 2, 0, 0) := rfl
theorem xf_10_50 : xcode 10 50 = some (.iload_n 3, 1, 0, 0) := rfl
theorem xf_10_51 : xcode 10 51 = some (.if_icmp .ge 23, 3, 74, 0) := rfl
theorem xf_10_54 : xcode 10 54 = some (.lload 7, 2, 0, 0) := rfl
theorem xf_10_56 : xcode 10 56 = some (.aload_n 0, 1, 0, 0) := rfl
theorem xf_10_57 : xcode 10 57 = some (.getfield 9, 3, 1, 0) := rfl
theorem xf_10_60 : xcode 10 60 = some (.iload 9, 2, 0, 0) := rfl
theorem xf_10_62 : xcode 10 62 = some (.laload, 1, 0, 0) := rfl
theorem xf_10_63 : xcode 10 63 = some (.invokestatic 101, 3, 221, 0) := rfl
theorem xf_10_66 : xcode 10 66 = some (.lstore 7, 2, 0, 0) := rfl
theorem xf_10_68 : xcode 10 68 = some (.iinc 9 1, 3, 0, 0) := rfl
theorem xf_10_71 : xcode 10 71 = some (.goto (-23), 3, 48, 0) := rfl
theorem xf_10_74 : xcode 10 74 = some (.lload 4, 2, 0, 0) := rfl
theorem xf_10_76 : xcode 10 76 = some (.lload 7, 2, 0, 0) := rfl
theorem xf_10_78 : xcode 10 78 = some (.ladd, 1, 0, 0) := rfl
theorem xf_10_79 : xcode 10 79 = some (.lstore 4, 2, 0, 0) := rfl
theorem xf_10_81 : xcode 10 81 = some (.iinc 6 1, 3, 0, 0) := rfl
theorem xf_10_84 : xcode 10 84 = some (.goto (-60), 3, 24, 0) := rfl
theorem xf_10_87 : xcode 10 87 = some (.lload 4, 2, 0, 0) := rfl
theorem xf_10_89 : xcode 10 89 = some (.lreturn, 1, 0, 0) := rfl
theorem xf_11_0 : xcode 11 0 = some (.lconst 0, 1, 0, 0) := rfl
theorem xf_11_1 : xcode 11 1 = some (.lstore_n 3, 1, 0, 0) := rfl
theorem xf_11_2 : xcode 11 2 = some (.iconst 0, 1, 0, 0) := rfl
theorem xf_11_3 : xcode 11 3 = some (.istore 5, 2, 0, 0) := rfl
theorem xf_11_5 : xcode 11 5 = some (.iload 5, 2, 0, 0) := rfl
theorem xf_11_7 : xcode 11 7 = some (.iload_n 2, 1, 0, 0) := rfl
theorem xf_11_8 : xcode 11 8 = some (.if_icmp .ge 19, 3, 27, 0) := rfl
theorem xf_11_11 : xcode 11 11 = some (.lload_n 3, 1, 0, 0) := rfl
theorem xf_11_12 : xcode 11 12 = some (.aload_n 0, 1, 0, 0) := rfl
theorem xf_11_13 : xcode 11 13 = some (.getfield 9, 3, 1, 0) := rfl
theorem xf_11_16 : xcode 11 16 = some (.iload 5, 2, 0, 0) := rfl
theorem xf_11_18 : xcode 11 18 = some (.laload, 1, 0, 0) := rfl
theorem xf_11_19 : xcode 11 19 = some (.ladd, 1, 0, 0) := rfl
theorem xf_11_20 : xcode 11 20 = some (.lstore_n 3, 1, 0, 0) := rfl
theorem xf_11_21 : xcode 11 21 = some (.iinc 5 1, 3, 0, 0) := rfl
theorem xf_11_24 : xcode 11 24 = some (.goto (-19), 3, 5, 0) := rfl
theorem xf_11_27 : xcode 11 27 = some (.lload_n 3, 1, 0, 0) := rfl
theorem xf_11_28 : xcode 11 28 = some (.lconst 0, 1, 0, 0) := rfl
theorem xf_11_29 : xcode 11 29 = some (.lcmp, 1, 0, 0) := rfl
theorem xf_11_30 : xcode 11 30 = some (.ifCond .gt 4, 3, 34, 0) := rfl
theorem xf_11_33 : xcode 11 33 = some (.return_, 1, 0, 0) := rfl
theorem xf_11_34 : xcode 11 34 = some (.iconst 0, 1, 0, 0) := rfl
theorem xf_11_35 : xcode 11 35 = some (.istore 5, 2, 0, 0) := rfl
theorem xf_11_37 : xcode 11 37 = some (.iconst 0, 1, 0, 0) := rfl
theorem xf_11_38 : xcode 11 38 = some (.istore 6, 2, 0, 0) := rfl
theorem xf_11_40 : xcode 11 40 = some (.iload 6, 2, 0, 0) := rfl
theorem xf_11_42 : xcode 11 42 = some (.iload_n 2, 1, 0, 0) := rfl
theorem xf_11_43 : xcode 11 43 = some (.if_icmp .ge 51, 3, 94, 0) := rfl
theorem xf_11_46 : xcode 11 46 = some (.aload_n 0, 1, 0, 0) := rfl
theorem xf_11_47 : xcode 11 47 = some (.getfield 9, 3, 1, 0) := rfl
theorem xf_11_50 : xcode 11 50 = some (.iload 6, 2, 0, 0) := rfl
theorem xf_11_52 : xcode 11 52 = some (.laload, 1, 0, 0) := rfl
theorem xf_11_53 : xcode 11 53 = some (.ldc2_w 77, 3, 2, 0) := rfl
theorem xf_11_56 : xcode 11 56 = some (.lmul, 1, 0, 0) := rfl
theorem xf_11_57 : xcode 11 57 = some (.lstore 7, 2, 0, 0) := rfl
theorem xf_11_59 : xcode 11 59 = some (.aload_n 1, 1, 0, 0) := rfl
theorem xf_11_60 : xcode 11 60 = some (.iload 6, 2, 0, 0) := rfl
theorem xf_11_62 : xcode 11 62 = some (.lload 7, 2, 0, 0) := rfl
theorem xf_11_64 : xcode 11 64 = some (.lload_n 3, 1, 0, 0) := rfl
theorem xf_11_65 : xcode 11 65 = some (.ldiv, 1, 0, 0) := rfl
theorem xf_11_66 : xcode 11 66 = some (.l2i, 1, 0, 0) := rfl
theorem xf_11_67 : xcode 11 67 = some (.iastore, 1, 0, 0) := rfl
theorem xf_11_68 : xcode 11 68 = some (.aload_n 0, 1, 0, 0) := rfl
theorem xf_11_69 : xcode 11 69 = some (.getfield 15, 3, 1, 1) := rfl
theorem xf_11_72 : xcode 11 72 = some (.iload 6, 2, 0, 0) := rfl
theorem xf_11_74 : xcode 11 74 = some (.lload 7, 2, 0, 0) := rfl
theorem xf_11_76 : xcode 11 76 = some (.lload_n 3, 1, 0, 0) := rfl
theorem xf_11_77 : xcode 11 77 = some (.lrem, 1, 0, 0) := rfl
theorem xf_11_78 : xcode 11 78 = some (.lastore, 1, 0, 0) := rfl
theorem xf_11_79 : xcode 11 79 = some (.iload 5, 2, 0, 0) := rfl
theorem xf_11_81 : xcode 11 81 = some (.aload_n 1, 1, 0, 0) := rfl
theorem xf_11_82 : xcode 11 82 = some (.iload 6, 2, 0, 0) := rfl
theorem xf_11_84 : xcode 11 84 = some (.iaload, 1, 0, 0) := rfl
theorem xf_11_85 : xcode 11 85 = some (.iadd, 1, 0, 0) := rfl
theorem xf_11_86 : xcode 11 86 = some (.istore 5, 2, 0, 0) := rfl
theorem xf_11_88 : xcode 11 88 = some (.iinc 6 1, 3, 0, 0) := rfl
theorem xf_11_91 : xcode 11 91 = some (.goto (-51), 3, 40, 0) := rfl
theorem xf_11_94 : xcode 11 94 = some (.iconst 0, 1, 0, 0) := rfl
theorem xf_11_95 : xcode 11 95 = some (.istore 6, 2, 0, 0) := rfl
theorem xf_11_97 : xcode 11 97 = some (.iload 6, 2, 0, 0) := rfl
theorem xf_11_99 : xcode 11 99 = some (.iload_n 2, 1, 0, 0) := rfl
theorem xf_11_100 : xcode 11 100 = some (.if_icmp .ge 44, 3, 144, 0) := rfl
theorem xf_11_103 : xcode 11 103 = some (.iload 5, 2, 0, 0) := rfl
theorem xf_11_105 : xcode 11 105 = some (.ldc 107, 2, 3, 0) := rfl
theorem xf_11_107 : xcode 11 107 = some (.if_icmp .ge 37, 3, 144, 0) := rfl
theorem xf_11_110 : xcode 11 110 = some (.aload_n 0, 1, 0, 0) := rfl
theorem xf_11_111 : xcode 11 111 = some (.iload_n 2, 1, 0, 0) := rfl
theorem xf_11_112 : xcode 11 112 = some (.invokevirtual 108, 3, 12, 0) := rfl
theorem xf_11_115 : xcode 11 115 = some (.istore 7, 2, 0, 0) := rfl
theorem xf_11_117 : xcode 11 117 = some (.aload_n 1, 1, 0, 0) := rfl
theorem xf_11_118 : xcode 11 118 = some (.iload 7, 2, 0, 0) := rfl
theorem xf_11_120 : xcode 11 120 = some (.dup2, 1, 0, 0) := rfl
theorem xf_11_121 : xcode 11 121 = some (.iaload, 1, 0, 0) := rfl
theorem xf_11_122 : xcode 11 122 = some (.iconst 1, 1, 0, 0) := rfl
theorem xf_11_123 : xcode 11 123 = some (.iadd, 1, 0, 0) := rfl
theorem xf_11_124 : xcode 11 124 = some (.iastore, 1, 0, 0) := rfl
theorem xf_11_125 : xcode 11 125 = some (.aload_n 0, 1, 0, 0) := rfl
theorem xf_11_126 : xcode 11 126 = some (.getfield 15, 3, 1, 1) := rfl
theorem xf_11_129 : xcode 11 129 = some (.iload 7, 2, 0, 0) := rfl
theorem xf_11_131 : xcode 11 131 = some (.ldc2_w 111, 3, 4, 0) := rfl
theorem xf_11_134 : xcode 11 134 = some (.lastore, 1, 0, 0) := rfl
theorem xf_11_135 : xcode 11 135 = some (.iinc 5 1, 3, 0, 0) := rfl
theorem xf_11_138 : xcode 11 138 = some (.iinc 6 1, 3, 0, 0) := rfl
theorem xf_11_141 : xcode 11 141 = some (.goto (-44), 3, 97, 0) := rfl
theorem xf_11_144 : xcode 11 144 = some (.return_, 1, 0, 0) := rfl
theorem xf_12_0 : xcode 12 0 = some (.iconst 0, 1, 0, 0) := rfl
theorem xf_12_1 : xcode 12 1 = some (.istore_n 2, 1, 0, 0) := rfl
theorem xf_12_2 : xcode 12 2 = some (.iconst 1, 1, 0, 0) := rfl
theorem xf_12_3 : xcode 12 3 = some (.istore_n 3, 1, 0, 0) := rfl
theorem xf_12_4 : xcode 12 4 = some (.iload_n 3, 1, 0, 0) := rfl
theorem xf_12_5 : xcode 12 5 = some (.iload_n 1, 1, 0, 0) := rfl
theorem xf_12_6 : xcode 12 6 = some (.if_icmp .ge 27, 3, 33, 0) := rfl
theorem xf_12_9 : xcode 12 9 = some (.aload_n 0, 1, 0, 0) := rfl
theorem xf_12_10 : xcode 12 10 = some (.getfield 15, 3, 1, 1) := rfl
theorem xf_12_13 : xcode 12 13 = some (.iload_n 3, 1, 0, 0) := rfl
theorem xf_12_14 : xcode 12 14 = some (.laload, 1, 0, 0) := rfl
theorem xf_12_15 : xcode 12 15 = some (.aload_n 0, 1, 0, 0) := rfl
theorem xf_12_16 : xcode 12 16 = some (.getfield 15, 3, 1, 1) := rfl
theorem xf_12_19 : xcode 12 19 = some (.iload_n 2, 1, 0, 0) := rfl
theorem xf_12_20 : xcode 12 20 = some (.laload, 1, 0, 0) := rfl
theorem xf_12_21 : xcode 12 21 = some (.lcmp, 1, 0, 0) := rfl
theorem xf_12_22 : xcode 12 22 = some (.ifCond .le 5, 3, 27, 0) := rfl
theorem xf_12_25 : xcode 12 25 = some (.iload_n 3, 1, 0, 0) := rfl
theorem xf_12_26 : xcode 12 26 = some (.istore_n 2, 1, 0, 0) := rfl
theorem xf_12_27 : xcode 12 27 = some (.iinc 3 1, 3, 0, 0) := rfl
theorem xf_12_30 : xcode 12 30 = some (.goto (-26), 3, 4, 0) := rfl
theorem xf_12_33 : xcode 12 33 = some (.iload_n 2, 1, 0, 0) := rfl
theorem xf_12_34 : xcode 12 34 = some (.ireturn, 1, 0, 0) := rfl
theorem xf_13_0 : xcode 13 0 = some (.aload_n 0, 1, 0, 0) := rfl
theorem xf_13_1 : xcode 13 1 = some (.invokespecial 3, 3, 0, 2) := rfl
theorem xf_13_4 : xcode 13 4 = some (.aload_n 0, 1, 0, 0) := rfl
theorem xf_13_5 : xcode 13 5 = some (.iconst 4, 1, 0, 0) := rfl
theorem xf_13_6 : xcode 13 6 = some (.putfield 9, 3, 2, 0) := rfl
theorem xf_13_9 : xcode 13 9 = some (.aload_n 0, 1, 0, 0) := rfl
theorem xf_13_10 : xcode 13 10 = some (.iconst 3, 1, 0, 0) := rfl
theorem xf_13_11 : xcode 13 11 = some (.putfield 15, 3, 2, 1) := rfl
theorem xf_13_14 : xcode 13 14 = some (.aload_n 0, 1, 0, 0) := rfl
theorem xf_13_15 : xcode 13 15 = some (.bipush 36, 2, 0, 0) := rfl
theorem xf_13_17 : xcode 13 17 = some (.newarray .int, 2, 100, 0) := rfl
theorem xf_13_19 : xcode 13 19 = some (.putfield 18, 3, 2, 2) := rfl
theorem xf_13_22 : xcode 13 22 = some (.aload_n 0, 1, 0, 0) := rfl
theorem xf_13_23 : xcode 13 23 = some (.bipush 36, 2, 0, 0) := rfl
theorem xf_13_25 : xcode 13 25 = some (.newarray .int, 2, 100, 0) := rfl
theorem xf_13_27 : xcode 13 27 = some (.putfield 22, 3, 2, 3) := rfl
theorem xf_13_30 : xcode 13 30 = some (.aload_n 0, 1, 0, 0) := rfl
theorem xf_13_31 : xcode 13 31 = some (.sipush 144, 3, 0, 0) := rfl
theorem xf_13_34 : xcode 13 34 = some (.newarray .int, 2, 100, 0) := rfl
theorem xf_13_36 : xcode 13 36 = some (.putfield 25, 3, 2, 4) := rfl
theorem xf_13_39 : xcode 13 39 = some (.iconst 0, 1, 0, 0) := rfl
theorem xf_13_40 : xcode 13 40 = some (.istore_n 1, 1, 0, 0) := rfl
theorem xf_13_41 : xcode 13 41 = some (.iload_n 1, 1, 0, 0) := rfl
theorem xf_13_42 : xcode 13 42 = some (.bipush 36, 2, 0, 0) := rfl
theorem xf_13_44 : xcode 13 44 = some (.if_icmp .ge 16, 3, 60, 0) := rfl
theorem xf_13_47 : xcode 13 47 = some (.aload_n 0, 1, 0, 0) := rfl
theorem xf_13_48 : xcode 13 48 = some (.getfield 22, 3, 2, 3) := rfl
theorem xf_13_51 : xcode 13 51 = some (.iload_n 1, 1, 0, 0) := rfl
theorem xf_13_52 : xcode 13 52 = some (.iconst 1, 1, 0, 0) := rfl
theorem xf_13_53 : xcode 13 53 = some (.iastore, 1, 0, 0) := rfl
theorem xf_13_54 : xcode 13 54 = some (.iinc 1 1, 3, 0, 0) := rfl
theorem xf_13_57 : xcode 13 57 = some (.goto (-16), 3, 41, 0) := rfl
theorem xf_13_60 : xcode 13 60 = some (.aload_n 0, 1, 0, 0) := rfl
theorem xf_13_61 : xcode 13 61 = some (.invokevirtual 28, 3, 22, 0) := rfl
theorem xf_13_64 : xcode 13 64 = some (.return_, 1, 0, 0) := rfl
theorem xf_14_0 : xcode 14 0 = some (.aload_n 0, 1, 0, 0) := rfl
theorem xf_14_1 : xcode 14 1 = some (.aload_n 1, 1, 0, 0) := rfl
theorem xf_14_2 : xcode 14 2 = some (.getfield 9, 3, 2, 0) := rfl
theorem xf_14_5 : xcode 14 5 = some (.putfield 9, 3, 2, 0) := rfl
theorem xf_14_8 : xcode 14 8 = some (.aload_n 0, 1, 0, 0) := rfl
theorem xf_14_9 : xcode 14 9 = some (.aload_n 1, 1, 0, 0) := rfl
theorem xf_14_10 : xcode 14 10 = some (.getfield 15, 3, 2, 1) := rfl
theorem xf_14_13 : xcode 14 13 = some (.putfield 15, 3, 2, 1) := rfl
theorem xf_14_16 : xcode 14 16 = some (.aload_n 1, 1, 0, 0) := rfl
theorem xf_14_17 : xcode 14 17 = some (.getfield 18, 3, 2, 2) := rfl
theorem xf_14_20 : xcode 14 20 = some (.iconst 0, 1, 0, 0) := rfl
theorem xf_14_21 : xcode 14 21 = some (.aload_n 0, 1, 0, 0) := rfl
theorem xf_14_22 : xcode 14 22 = some (.getfield 18, 3, 2, 2) := rfl
theorem xf_14_25 : xcode 14 25 = some (.iconst 0, 1, 0, 0) := rfl
theorem xf_14_26 : xcode 14 26 = some (.bipush 36, 2, 0, 0) := rfl
theorem xf_14_28 : xcode 14 28 = some (.invokestatic 31, 3, 0, 1) := rfl
theorem xf_14_31 : xcode 14 31 = some (.aload_n 1, 1, 0, 0) := rfl
theorem xf_14_32 : xcode 14 32 = some (.getfield 22, 3, 2, 3) := rfl
theorem xf_14_35 : xcode 14 35 = some (.iconst 0, 1, 0, 0) := rfl
theorem xf_14_36 : xcode 14 36 = some (.aload_n 0, 1, 0, 0) := rfl
theorem xf_14_37 : xcode 14 37 = some (.getfield 22, 3, 2, 3) := rfl
theorem xf_14_40 : xcode 14 40 = some (.iconst 0, 1, 0, 0) := rfl
theorem xf_14_41 : xcode 14 41 = some (.bipush 36, 2, 0, 0) := rfl
theorem xf_14_43 : xcode 14 43 = some (.invokestatic 31, 3, 0, 1) := rfl
theorem xf_14_46 : xcode 14 46 = some (.aload_n 1, 1, 0, 0) := rfl
theorem xf_14_47 : xcode 14 47 = some (.getfield 25, 3, 2, 4) := rfl
theorem xf_14_50 : xcode 14 50 = some (.iconst 0, 1, 0, 0) := rfl
theorem xf_14_51 : xcode 14 51 = some (.aload_n 0, 1, 0, 0) := rfl
theorem xf_14_52 : xcode 14 52 = some (.getfield 25, 3, 2, 4) := rfl
theorem xf_14_55 : xcode 14 55 = some (.iconst 0, 1, 0, 0) := rfl
theorem xf_14_56 : xcode 14 56 = some (.sipush 144, 3, 0, 0) := rfl
theorem xf_14_59 : xcode 14 59 = some (.invokestatic 31, 3, 0, 1) := rfl
theorem xf_14_62 : xcode 14 62 = some (.return_, 1, 0, 0) := rfl
theorem xf_15_0 : xcode 15 0 = some (.aload_n 0, 1, 0, 0) := rfl
theorem xf_15_1 : xcode 15 1 = some (.getfield 9, 3, 2, 0) := rfl
theorem xf_15_4 : xcode 15 4 = some (.aload_n 0, 1, 0, 0) := rfl
theorem xf_15_5 : xcode 15 5 = some (.getfield 15, 3, 2, 1) := rfl
theorem xf_15_8 : xcode 15 8 = some (.imul, 1, 0, 0) := rfl
theorem xf_15_9 : xcode 15 9 = some (.ireturn, 1, 0, 0) := rfl
theorem xf_16_0 : xcode 16 0 = some (.iload_n 1, 1, 0, 0) := rfl
theorem xf_16_1 : xcode 16 1 = some (.ifCond .lt 20, 3, 21, 0) := rfl
theorem xf_16_4 : xcode 16 4 = some (.iload_n 1, 1, 0, 0) := rfl
theorem xf_16_5 : xcode 16 5 = some (.aload_n 0, 1, 0, 0) := rfl
theorem xf_16_6 : xcode 16 6 = some (.getfield 9, 3, 2, 0) := rfl
theorem xf_16_9 : xcode 16 9 = some (.aload_n 0, 1, 0, 0) := rfl
theorem xf_16_10 : xcode 16 10 = some (.getfield 15, 3, 2, 1) := rfl
theorem xf_16_13 : xcode 16 13 = some (.imul, 1, 0, 0) := rfl
theorem xf_16_14 : xcode 16 14 = some (.if_icmp .ge 7, 3, 21, 0) := rfl
theorem xf_16_17 : xcode 16 17 = some (.iconst 1, 1, 0, 0) := rfl
theorem xf_16_18 : xcode 16 18 = some (.goto 4, 3, 22, 0) := rfl
theorem xf_16_21 : xcode 16 21 = some (.iconst 0, 1, 0, 0) := rfl
theorem xf_16_22 : xcode 16 22 = some (.ireturn, 1, 0, 0) := rfl
theorem xf_17_0 : xcode 17 0 = some (.iload_n 1, 1, 0, 0) := rfl
theorem xf_17_1 : xcode 17 1 = some (.ifCond .lt 30, 3, 31, 0) := rfl
theorem xf_17_4 : xcode 17 4 = some (.iload_n 1, 1, 0, 0) := rfl
theorem xf_17_5 : xcode 17 5 = some (.aload_n 0, 1, 0, 0) := rfl
theorem xf_17_6 : xcode 17 6 = some (.getfield 9, 3, 2, 0) := rfl
theorem xf_17_9 : xcode 17 9 = some (.aload_n 0, 1, 0, 0) := rfl
theorem xf_17_10 : xcode 17 10 = some (.getfield 15, 3, 2, 1) := rfl
theorem xf_17_13 : xcode 17 13 = some (.imul, 1, 0, 0) := rfl
theorem xf_17_14 : xcode 17 14 = some (.if_icmp .ge 17, 3, 31, 0) := rfl
theorem xf_17_17 : xcode 17 17 = some (.aload_n 0, 1, 0, 0) := rfl
theorem xf_17_18 : xcode 17 18 = some (.getfield 18, 3, 2, 2) := rfl
theorem xf_17_21 : xcode 17 21 = some (.iload_n 1, 1, 0, 0) := rfl
theorem xf_17_22 : xcode 17 22 = some (.iaload, 1, 0, 0) := rfl
theorem xf_17_23 : xcode 17 23 = some (.iconst (-1), 1, 0, 0) := rfl
theorem xf_17_24 : xcode 17 24 = some (.if_icmp .eq 7, 3, 31, 0) := rfl
theorem xf_17_27 : xcode 17 27 = some (.iconst 1, 1, 0, 0) := rfl
theorem xf_17_28 : xcode 17 28 = some (.goto 4, 3, 32, 0) := rfl
theorem xf_17_31 : xcode 17 31 = some (.iconst 0, 1, 0, 0) := rfl
theorem xf_17_32 : xcode 17 32 = some (.ireturn, 1, 0, 0) := rfl
theorem xf_18_0 : xcode 18 0 = some (.aload_n 0, 1, 0, 0) := rfl
theorem xf_18_1 : xcode 18 1 = some (.iload_n 1, 1, 0, 0) := rfl
theorem xf_18_2 : xcode 18 2 = some (.invokevirtual 37, 3, 17, 0) := rfl
theorem xf_18_5 : xcode 18 5 = some (.ifCond .eq 12, 3, 17, 0) := rfl
theorem xf_18_8 : xcode 18 8 = some (.aload_n 0, 1, 0, 0) := rfl
theorem xf_18_9 : xcode 18 9 = some (.getfield 18, 3, 2, 2) := rfl
theorem xf_18_12 : xcode 18 12 = some (.iload_n 1, 1, 0, 0) := rfl
theorem xf_18_13 : xcode 18 13 = some (.iaload, 1, 0, 0) := rfl
theorem xf_18_14 : xcode 18 14 = some (.goto 4, 3, 18, 0) := rfl
theorem xf_18_17 : xcode 18 17 = some (.iconst 0, 1, 0, 0) := rfl
theorem xf_18_18 : xcode 18 18 = some (.ireturn, 1, 0, 0) := rfl
theorem xf_19_0 : xcode 19 0 = some (.aload_n 0, 1, 0, 0) := rfl
theorem xf_19_1 : xcode 19 1 = some (.invokevirtual 41, 3, 15, 0) := rfl
theorem xf_19_4 : xcode 19 4 = some (.istore_n 1, 1, 0, 0) := rfl
theorem xf_19_5 : xcode 19 5 = some (.iconst 0, 1, 0, 0) := rfl
theorem xf_19_6 : xcode 19 6 = some (.istore_n 2, 1, 0, 0) := rfl
theorem xf_19_7 : xcode 19 7 = some (.iconst 0, 1, 0, 0) := rfl
theorem xf_19_8 : xcode 19 8 = some (.istore_n 3, 1, 0, 0) := rfl
theorem xf_19_9 : xcode 19 9 = some (.iload_n 3, 1, 0, 0) := rfl
theorem xf_19_10 : xcode 19 10 = some (.iload_n 1, 1, 0, 0) := rfl
theorem xf_19_11 : xcode 19 11 = some (.if_icmp .ge 20, 3, 31, 0) := rfl
theorem xf_19_14 : xcode 19 14 = some (.aload_n 0, 1, 0, 0) := rfl
theorem xf_19_15 : xcode 19 15 = some (.iload_n 3, 1, 0, 0) := rfl
theorem xf_19_16 : xcode 19 16 = some (.invokevirtual 37, 3, 17, 0) := rfl
theorem xf_19_19 : xcode 19 19 = some (.ifCond .eq 6, 3, 25, 0) := rfl
theorem xf_19_22 : xcode 19 22 = some (.iinc 2 1, 3, 0, 0) := rfl
theorem xf_19_25 : xcode 19 25 = some (.iinc 3 1, 3, 0, 0) := rfl
theorem xf_19_28 : xcode 19 28 = some (.goto (-19), 3, 9, 0) := rfl
theorem xf_19_31 : xcode 19 31 = some (.iload_n 2, 1, 0, 0) := rfl
theorem xf_19_32 : xcode 19 32 = some (.ireturn, 1, 0, 0) := rfl
theorem xf_20_0 : xcode 20 0 = some (.aload_n 0, 1, 0, 0) := rfl
theorem xf_20_1 : xcode 20 1 = some (.invokevirtual 41, 3, 15, 0) := rfl
theorem xf_20_4 : xcode 20 4 = some (.istore_n 1, 1, 0, 0) := rfl
theorem xf_20_5 : xcode 20 5 = some (.iconst 0, 1, 0, 0) := rfl
theorem xf_20_6 : xcode 20 6 = some (.istore_n 2, 1, 0, 0) := rfl
theorem xf_20_7 : xcode 20 7 = some (.iload_n 2, 1, 0, 0) := rfl
theorem xf_20_8 : xcode 20 8 = some (.iload_n 1, 1, 0, 0) := rfl
theorem xf_20_9 : xcode 20 9 = some (.if_icmp .ge 19, 3, 28, 0) := rfl
theorem xf_20_12 : xcode 20 12 = some (.aload_n 0, 1, 0, 0) := rfl
theorem xf_20_13 : xcode 20 13 = some (.iload_n 2, 1, 0, 0) := rfl
theorem xf_20_14 : xcode 20 14 = some (.invokevirtual 37, 3, 17, 0) := rfl
theorem xf_20_17 : xcode 20 17 = some (.ifCond .eq 5, 3, 22, 0) := rfl
theorem xf_20_20 : xcode 20 20 = some (.iload_n 2, 1, 0, 0) := rfl
theorem xf_20_21 : xcode 20 21 = some (.ireturn, 1, 0, 0) := rfl
theorem xf_20_22 : xcode 20 22 = some (.iinc 2 1, 3, 0, 0) := rfl
theorem xf_20_25 : xcode 20 25 = some (.goto (-18), 3, 7, 0) := rfl
theorem xf_20_28 : xcode 20 28 = some (.iconst 0, 1, 0, 0) := rfl
theorem xf_20_29 : xcode 20 29 = some (.ireturn, 1, 0, 0) := rfl
theorem xf_21_0 : xcode 21 0 = some (.aload_n 0, 1, 0, 0) := rfl
theorem xf_21_1 : xcode 21 1 = some (.getfield 18, 3, 2, 2) := rfl
theorem xf_21_4 : xcode 21 4 = some (.iload_n 1, 1, 0, 0) := rfl
theorem xf_21_5 : xcode 21 5 = some (.iload_n 2, 1, 0, 0) := rfl
theorem xf_21_6 : xcode 21 6 = some (.iastore, 1, 0, 0) := rfl
theorem xf_21_7 : xcode 21 7 = some (.aload_n 0, 1, 0, 0) := rfl
theorem xf_21_8 : xcode 21 8 = some (.getfield 22, 3, 2, 3) := rfl
theorem xf_21_11 : xcode 21 11 = some (.iload_n 1, 1, 0, 0) := rfl
theorem xf_21_12 : xcode 21 12 = some (.iconst 1, 1, 0, 0) := rfl
theorem xf_21_13 : xcode 21 13 = some (.iastore, 1, 0, 0) := rfl
theorem xf_21_14 : xcode 21 14 = some (.return_, 1, 0, 0) := rfl
theorem xf_22_0 : xcode 22 0 = some (.iconst 0, 1, 0, 0) := rfl
theorem xf_22_1 : xcode 22 1 = some (.istore_n 1, 1, 0, 0) := rfl
theorem xf_22_2 : xcode 22 2 = some (.iload_n 1, 1, 0, 0) := rfl
theorem xf_22_3 : xcode 22 3 = some (.aload_n 0, 1, 0, 0) := rfl
theorem xf_22_4 : xcode 22 4 = some (.getfield 15, 3, 2, 1) := rfl
theorem xf_22_7 : xcode 22 7 = some (.if_icmp .ge 98, 3, 105, 0) := rfl
theorem xf_22_10 : xcode 22 10 = some (.iconst 0, 1, 0, 0) := rfl
theorem xf_22_11 : xcode 22 11 = some (.istore_n 2, 1, 0, 0) := rfl
theorem xf_22_12 : xcode 22 12 = some (.iload_n 2, 1, 0, 0) := rfl
theorem xf_22_13 : xcode 22 13 = some (.aload_n 0, 1, 0, 0) := rfl
theorem xf_22_14 : xcode 22 14 = some (.getfield 9, 3, 2, 0) := rfl
theorem xf_22_17 : xcode 22 17 = some (.if_icmp .ge 82, 3, 99, 0) := rfl
theorem xf_22_20 : xcode 22 20 = some (.iload_n 1, 1, 0, 0) := rfl
theorem xf_22_21 : xcode 22 21 = some (.aload_n 0, 1, 0, 0) := rfl
theorem xf_22_22 : xcode 22 22 = some (.getfield 9, 3, 2, 0) := rfl
theorem xf_22_25 : xcode 22 25 = some (.imul, 1, 0, 0) := rfl
theorem xf_22_26 : xcode 22 26 = some (.iload_n 2, 1, 0, 0) := rfl
theorem xf_22_27 : xcode 22 27 = some (.iadd, 1, 0, 0) := rfl
theorem xf_22_28 : xcode 22 28 = some (.istore_n 3, 1, 0, 0) := rfl
theorem xf_22_29 : xcode 22 29 = some (.aload_n 0, 1, 0, 0) := rfl
theorem xf_22_30 : xcode 22 30 = some (.iload_n 3, 1, 0, 0) := rfl
theorem xf_22_31 : xcode 22 31 = some (.iconst 0, 1, 0, 0) := rfl
theorem xf_22_32 : xcode 22 32 = some (.iload_n 3, 1, 0, 0) := rfl
theorem xf_22_33 : xcode 22 33 = some (.aload_n 0, 1, 0, 0) := rfl
theorem xf_22_34 : xcode 22 34 = some (.getfield 9, 3, 2, 0) := rfl
theorem xf_22_37 : xcode 22 37 = some (.isub, 1, 0, 0) := rfl
theorem xf_22_38 : xcode 22 38 = some (.invokevirtual 45, 3, 23, 0) := rfl
theorem xf_22_41 : xcode 22 41 = some (.aload_n 0, 1, 0, 0) := rfl
theorem xf_22_42 : xcode 22 42 = some (.iload_n 3, 1, 0, 0) := rfl
theorem xf_22_43 : xcode 22 43 = some (.iconst 1, 1, 0, 0) := rfl
theorem xf_22_44 : xcode 22 44 = some (.iload_n 2, 1, 0, 0) := rfl
theorem xf_22_45 : xcode 22 45 = some (.aload_n 0, 1, 0, 0) := rfl
theorem xf_22_46 : xcode 22 46 = some (.getfield 9, 3, 2, 0) := rfl
theorem xf_22_49 : xcode 22 49 = some (.iconst 1, 1, 0, 0) := rfl
theorem xf_22_50 : xcode 22 50 = some (.isub, 1, 0, 0) := rfl
theorem xf_22_51 : xcode 22 51 = some (.if_icmp .ge 9, 3, 60, 0) := rfl
theorem xf_22_54 : xcode 22 54 = some (.iload_n 3, 1, 0, 0) := rfl
theorem xf_22_55 : xcode 22 55 = some (.iconst 1, 1, 0, 0) := rfl
theorem xf_22_56 : xcode 22 56 = some (.iadd, 1, 0, 0) := rfl
theorem xf_22_57 : xcode 22 57 = some (.goto 4, 3, 61, 0) := rfl
theorem xf_22_60 : xcode 22 60 = some (.iload_n 3, 1, 0, 0) := rfl
theorem xf_22_61 : xcode 22 61 = some (.invokevirtual 45, 3, 23, 0) := rfl
theorem xf_22_64 : xcode 22 64 = some (.aload_n 0, 1, 0, 0) := rfl
theorem xf_22_65 : xcode 22 65 = some (.iload_n 3, 1, 0, 0) := rfl
theorem xf_22_66 : xcode 22 66 = some (.iconst 2, 1, 0, 0) := rfl
theorem xf_22_67 : xcode 22 67 = some (.iload_n 3, 1, 0, 0) := rfl
theorem xf_22_68 : xcode 22 68 = some (.aload_n 0, 1, 0, 0) := rfl
theorem xf_22_69 : xcode 22 69 = some (.getfield 9, 3, 2, 0) := rfl
theorem xf_22_72 : xcode 22 72 = some (.iadd, 1, 0, 0) := rfl
theorem xf_22_73 : xcode 22 73 = some (.invokevirtual 45, 3, 23, 0) := rfl
theorem xf_22_76 : xcode 22 76 = some (.aload_n 0, 1, 0, 0) := rfl
theorem xf_22_77 : xcode 22 77 = some (.iload_n 3, 1, 0, 0) := rfl
theorem xf_22_78 : xcode 22 78 = some (.iconst 3, 1, 0, 0) := rfl
theorem xf_22_79 : xcode 22 79 = some (.iload_n 2, 1, 0, 0) := rfl
theorem xf_22_80 : xcode 22 80 = some (.ifCond .le 9, 3, 89, 0) := rfl
theorem xf_22_83 : xcode 22 83 = some (.iload_n 3, 1, 0, 0) := rfl
theorem xf_22_84 : xcode 22 84 = some (.iconst 1, 1, 0, 0) := rfl
theorem xf_22_85 : xcode 22 85 = some (.isub, 1, 0, 0) := rfl
theorem xf_22_86 : xcode 22 86 = some (.goto 4, 3, 90, 0) := rfl
theorem xf_22_89 : xcode 22 89 = some (.iload_n 3, 1, 0, 0) := rfl
theorem xf_22_90 : xcode 22 90 = some (.invokevirtual 45, 3, 23, 0) := rfl
theorem xf_22_93 : xcode 22 93 = some (.iinc 2 1, 3, 0, 0) := rfl
theorem xf_22_96 : xcode 22 96 = some (.goto (-84), 3, 12, 0) := rfl
theorem xf_22_99 : xcode 22 99 = some (.iinc 1 1, 3, 0, 0) := rfl
theorem xf_22_102 : xcode 22 102 = some (.goto (-100), 3, 2, 0) := rfl
theorem xf_22_105 : xcode 22 105 = some (.return_, 1, 0, 0) := rfl
theorem xf_23_0 : xcode 23 0 = some (.aload_n 0, 1, 0, 0) := rfl
theorem xf_23_1 : xcode 23 1 = some (.getfield 25, 3, 2, 4) := rfl
theorem xf_23_4 : xcode 23 4 = some (.iload_n 1, 1, 0, 0) := rfl
theorem xf_23_5 : xcode 23 5 = some (.iconst 4, 1, 0, 0) := rfl
theorem xf_23_6 : xcode 23 6 = some (.imul, 1, 0, 0) := rfl
theorem xf_23_7 : xcode 23 7 = some (.iload_n 2, 1, 0, 0) := rfl
theorem xf_23_8 : xcode 23 8 = some (.iadd, 1, 0, 0) := rfl
theorem xf_23_9 : xcode 23 9 = some (.aload_n 0, 1, 0, 0) := rfl
theorem xf_23_10 : xcode 23 10 = some (.iload_n 1, 1, 0, 0) := rfl
theorem xf_23_11 : xcode 23 11 = some (.invokevirtual 37, 3, 17, 0) := rfl
theorem xf_23_14 : xcode 23 14 = some (.ifCond .eq 15, 3, 29, 0) := rfl
theorem xf_23_17 : xcode 23 17 = some (.aload_n 0, 1, 0, 0) := rfl
theorem xf_23_18 : xcode 23 18 = some (.iload_n 3, 1, 0, 0) := rfl
theorem xf_23_19 : xcode 23 19 = some (.invokevirtual 37, 3, 17, 0) := rfl
theorem xf_23_22 : xcode 23 22 = some (.ifCond .eq 7, 3, 29, 0) := rfl
theorem xf_23_25 : xcode 23 25 = some (.iload_n 3, 1, 0, 0) := rfl
theorem xf_23_26 : xcode 23 26 = some (.goto 4, 3, 30, 0) := rfl
theorem xf_23_29 : xcode 23 29 = some (.iload_n 1, 1, 0, 0) := rfl
theorem xf_23_30 : xcode 23 30 = some (.iastore, 1, 0, 0) := rfl
theorem xf_23_31 : xcode 23 31 = some (.return_, 1, 0, 0) := rfl
theorem xf_24_0 : xcode 24 0 = some (.aload_n 0, 1, 0, 0) := rfl
theorem xf_24_1 : xcode 24 1 = some (.getfield 25, 3, 2, 4) := rfl
theorem xf_24_4 : xcode 24 4 = some (.iload_n 1, 1, 0, 0) := rfl
theorem xf_24_5 : xcode 24 5 = some (.iconst 4, 1, 0, 0) := rfl
theorem xf_24_6 : xcode 24 6 = some (.imul, 1, 0, 0) := rfl
theorem xf_24_7 : xcode 24 7 = some (.iload_n 2, 1, 0, 0) := rfl
theorem xf_24_8 : xcode 24 8 = some (.iadd, 1, 0, 0) := rfl
theorem xf_24_9 : xcode 24 9 = some (.iaload, 1, 0, 0) := rfl
theorem xf_24_10 : xcode 24 10 = some (.ireturn, 1, 0, 0) := rfl
theorem xf_25_0 : xcode 25 0 = some (.iload_n 3, 1, 0, 0) := rfl
theorem xf_25_1 : xcode 25 1 = some (.tableswitch 56 0 2 #[27, 34, 45], 27, 0, 0) := rfl
theorem xf_25_28 : xcode 25 28 = some (.aload_n 0, 1, 0, 0) := rfl
theorem xf_25_29 : xcode 25 29 = some (.iload_n 1, 1, 0, 0) := rfl
theorem xf_25_30 : xcode 25 30 = some (.iload_n 2, 1, 0, 0) := rfl
theorem xf_25_31 : xcode 25 31 = some (.invokevirtual 49, 3, 24, 0) := rfl
theorem xf_25_34 : xcode 25 34 = some (.ireturn, 1, 0, 0) := rfl
theorem xf_25_35 : xcode 25 35 = some (.aload_n 0, 1, 0, 0) := rfl
theorem xf_25_36 : xcode 25 36 = some (.iload_n 1, 1, 0, 0) := rfl
theorem xf_25_37 : xcode 25 37 = some (.iload_n 2, 1, 0, 0) := rfl
theorem xf_25_38 : xcode 25 38 = some (.iconst 3, 1, 0, 0) := rfl
theorem xf_25_39 : xcode 25 39 = some (.iadd, 1, 0, 0) := rfl
theorem xf_25_40 : xcode 25 40 = some (.iconst 4, 1, 0, 0) := rfl
theorem xf_25_41 : xcode 25 41 = some (.irem, 1, 0, 0) := rfl
theorem xf_25_42 : xcode 25 42 = some (.invokevirtual 49, 3, 24, 0) := rfl
theorem xf_25_45 : xcode 25 45 = some (.ireturn, 1, 0, 0) := rfl
theorem xf_25_46 : xcode 25 46 = some (.aload_n 0, 1, 0, 0) := rfl
theorem xf_25_47 : xcode 25 47 = some (.iload_n 1, 1, 0, 0) := rfl
theorem xf_25_48 : xcode 25 48 = some (.iload_n 2, 1, 0, 0) := rfl
theorem xf_25_49 : xcode 25 49 = some (.iconst 1, 1, 0, 0) := rfl
theorem xf_25_50 : xcode 25 50 = some (.iadd, 1, 0, 0) := rfl
theorem xf_25_51 : xcode 25 51 = some (.iconst 4, 1, 0, 0) := rfl
theorem xf_25_52 : xcode 25 52 = some (.irem, 1, 0, 0) := rfl
theorem xf_25_53 : xcode 25 53 = some (.invokevirtual 49, 3, 24, 0) := rfl
theorem xf_25_56 : xcode 25 56 = some (.ireturn, 1, 0, 0) := rfl
theorem xf_25_57 : xcode 25 57 = some (.iload_n 1, 1, 0, 0) := rfl
theorem xf_25_58 : xcode 25 58 = some (.ireturn, 1, 0, 0) := rfl
theorem xf_26_0 : xcode 26 0 = some (.iconst 0, 1, 0, 0) := rfl
theorem xf_26_1 : xcode 26 1 = some (.istore_n 2, 1, 0, 0) := rfl
theorem xf_26_2 : xcode 26 2 = some (.iconst 0, 1, 0, 0) := rfl
theorem xf_26_3 : xcode 26 3 = some (.istore_n 3, 1, 0, 0) := rfl
theorem xf_26_4 : xcode 26 4 = some (.iload_n 3, 1, 0, 0) := rfl
theorem xf_26_5 : xcode 26 5 = some (.iconst 4, 1, 0, 0) := rfl
theorem xf_26_6 : xcode 26 6 = some (.if_icmp .ge 22, 3, 28, 0) := rfl
theorem xf_26_9 : xcode 26 9 = some (.aload_n 0, 1, 0, 0) := rfl
theorem xf_26_10 : xcode 26 10 = some (.iload_n 1, 1, 0, 0) := rfl
theorem xf_26_11 : xcode 26 11 = some (.iload_n 3, 1, 0, 0) := rfl
theorem xf_26_12 : xcode 26 12 = some (.invokevirtual 49, 3, 24, 0) := rfl
theorem xf_26_15 : xcode 26 15 = some (.iload_n 1, 1, 0, 0) := rfl
theorem xf_26_16 : xcode 26 16 = some (.if_icmp .eq 6, 3, 22, 0) := rfl
theorem xf_26_19 : xcode 26 19 = some (.iinc 2 1, 3, 0, 0) := rfl
theorem xf_26_22 : xcode 26 22 = some (.iinc 3 1, 3, 0, 0) := rfl
theorem xf_26_25 : xcode 26 25 = some (.goto (-21), 3, 4, 0) := rfl
theorem xf_26_28 : xcode 26 28 = some (.iload_n 2, 1, 0, 0) := rfl
theorem xf_26_29 : xcode 26 29 = some (.ireturn, 1, 0, 0) := rfl
theorem xf_27_0 : xcode 27 0 = some (.aload_n 0, 1, 0, 0) := rfl
theorem xf_27_1 : xcode 27 1 = some (.invokespecial 3, 3, 0, 2) := rfl
theorem xf_27_4 : xcode 27 4 = some (.aload_n 0, 1, 0, 0) := rfl
theorem xf_27_5 : xcode 27 5 = some (.bipush 45, 2, 0, 0) := rfl
theorem xf_27_7 : xcode 27 7 = some (.newarray .char, 2, 102, 0) := rfl
theorem xf_27_9 : xcode 27 9 = some (.putfield 9, 3, 3, 0) := rfl
theorem xf_27_12 : xcode 27 12 = some (.aload_n 0, 1, 0, 0) := rfl
theorem xf_27_13 : xcode 27 13 = some (.iconst 0, 1, 0, 0) := rfl
theorem xf_27_14 : xcode 27 14 = some (.putfield 15, 3, 3, 1) := rfl
theorem xf_27_17 : xcode 27 17 = some (.return_, 1, 0, 0) := rfl
theorem xf_28_0 : xcode 28 0 = some (.bipush 24, 2, 0, 0) := rfl
theorem xf_28_2 : xcode 28 2 = some (.istore_n 1, 1, 0, 0) := rfl
theorem xf_28_3 : xcode 28 3 = some (.iload_n 1, 1, 0, 0) := rfl
theorem xf_28_4 : xcode 28 4 = some (.ifCond .lt 35, 3, 39, 0) := rfl
theorem xf_28_7 : xcode 28 7 = some (.iload_n 0, 1, 0, 0) := rfl
theorem xf_28_8 : xcode 28 8 = some (.iload_n 1, 1, 0, 0) := rfl
theorem xf_28_9 : xcode 28 9 = some (.iushr, 1, 0, 0) := rfl
theorem xf_28_10 : xcode 28 10 = some (.sipush 255, 3, 0, 0) := rfl
theorem xf_28_13 : xcode 28 13 = some (.iand, 1, 0, 0) := rfl
theorem xf_28_14 : xcode 28 14 = some (.istore_n 2, 1, 0, 0) := rfl
theorem xf_28_15 : xcode 28 15 = some (.iload_n 2, 1, 0, 0) := rfl
theorem xf_28_16 : xcode 28 16 = some (.ifCond .eq 17, 3, 33, 0) := rfl
theorem xf_28_19 : xcode 28 19 = some (.iload_n 2, 1, 0, 0) := rfl
theorem xf_28_20 : xcode 28 20 = some (.bipush 33, 2, 0, 0) := rfl
theorem xf_28_22 : xcode 28 22 = some (.if_icmp .lt 9, 3, 31, 0) := rfl
theorem xf_28_25 : xcode 28 25 = some (.iload_n 2, 1, 0, 0) := rfl
theorem xf_28_26 : xcode 28 26 = some (.bipush 126, 2, 0, 0) := rfl
theorem xf_28_28 : xcode 28 28 = some (.if_icmp .le 5, 3, 33, 0) := rfl
theorem xf_28_31 : xcode 28 31 = some (.iconst 0, 1, 0, 0) := rfl
theorem xf_28_32 : xcode 28 32 = some (.ireturn, 1, 0, 0) := rfl
theorem xf_28_33 : xcode 28 33 = some (.iinc 1 (-8), 3, 0, 0) := rfl
theorem xf_28_36 : xcode 28 36 = some (.goto (-33), 3, 3, 0) := rfl
theorem xf_28_39 : xcode 28 39 = some (.iconst 1, 1, 0, 0) := rfl
theorem xf_28_40 : xcode 28 40 = some (.ireturn, 1, 0, 0) := rfl
theorem xf_29_0 : xcode 29 0 = some (.iconst 0, 1, 0, 0) := rfl
theorem xf_29_1 : xcode 29 1 = some (.istore_n 1, 1, 0, 0) := rfl
theorem xf_29_2 : xcode 29 2 = some (.bipush 24, 2, 0, 0) := rfl
theorem xf_29_4 : xcode 29 4 = some (.istore_n 2, 1, 0, 0) := rfl
theorem xf_29_5 : xcode 29 5 = some (.iload_n 2, 1, 0, 0) := rfl
theorem xf_29_6 : xcode 29 6 = some (.ifCond .lt 22, 3, 28, 0) := rfl
theorem xf_29_9 : xcode 29 9 = some (.iload_n 0, 1, 0, 0) := rfl
theorem xf_29_10 : xcode 29 10 = some (.iload_n 2, 1, 0, 0) := rfl
theorem xf_29_11 : xcode 29 11 = some (.iushr, 1, 0, 0) := rfl
theorem xf_29_12 : xcode 29 12 = some (.sipush 255, 3, 0, 0) := rfl
theorem xf_29_15 : xcode 29 15 = some (.iand, 1, 0, 0) := rfl
theorem xf_29_16 : xcode 29 16 = some (.ifCond .eq 6, 3, 22, 0) := rfl
theorem xf_29_19 : xcode 29 19 = some (.iinc 1 1, 3, 0, 0) := rfl
theorem xf_29_22 : xcode 29 22 = some (.iinc 2 (-8), 3, 0, 0) := rfl
theorem xf_29_25 : xcode 29 25 = some (.goto (-20), 3, 5, 0) := rfl
theorem xf_29_28 : xcode 29 28 = some (.iload_n 1, 1, 0, 0) := rfl
theorem xf_29_29 : xcode 29 29 = some (.ireturn, 1, 0, 0) := rfl
theorem xf_30_0 : xcode 30 0 = some (.bipush 24, 2, 0, 0) := rfl
theorem xf_30_2 : xcode 30 2 = some (.istore_n 2, 1, 0, 0) := rfl
theorem xf_30_3 : xcode 30 3 = some (.iload_n 2, 1, 0, 0) := rfl
theorem xf_30_4 : xcode 30 4 = some (.ifCond .lt 51, 3, 55, 0) := rfl
theorem xf_30_7 : xcode 30 7 = some (.iload_n 1, 1, 0, 0) := rfl
theorem xf_30_8 : xcode 30 8 = some (.iload_n 2, 1, 0, 0) := rfl
theorem xf_30_9 : xcode 30 9 = some (.iushr, 1, 0, 0) := rfl
theorem xf_30_10 : xcode 30 10 = some (.sipush 255, 3, 0, 0) := rfl
theorem xf_30_13 : xcode 30 13 = some (.iand, 1, 0, 0) := rfl
theorem xf_30_14 : xcode 30 14 = some (.istore_n 3, 1, 0, 0) := rfl
theorem xf_30_15 : xcode 30 15 = some (.iload_n 3, 1, 0, 0) := rfl
theorem xf_30_16 : xcode 30 16 = some (.ifCond .eq 33, 3, 49, 0) := rfl
theorem xf_30_19 : xcode 30 19 = some (.aload_n 0, 1, 0, 0) := rfl
theorem xf_30_20 : xcode 30 20 = some (.getfield 15, 3, 3, 1) := rfl
theorem xf_30_23 : xcode 30 23 = some (.bipush 45, 2, 0, 0) := rfl
theorem xf_30_25 : xcode 30 25 = some (.if_icmp .ge 24, 3, 49, 0) := rfl
theorem xf_30_28 : xcode 30 28 = some (.aload_n 0, 1, 0, 0) := rfl
theorem xf_30_29 : xcode 30 29 = some (.getfield 9, 3, 3, 0) := rfl
theorem xf_30_32 : xcode 30 32 = some (.aload_n 0, 1, 0, 0) := rfl
theorem xf_30_33 : xcode 30 33 = some (.getfield 15, 3, 3, 1) := rfl
theorem xf_30_36 : xcode 30 36 = some (.iload_n 3, 1, 0, 0) := rfl
theorem xf_30_37 : xcode 30 37 = some (.i2c, 1, 0, 0) := rfl
theorem xf_30_38 : xcode 30 38 = some (.castore, 1, 0, 0) := rfl
theorem xf_30_39 : xcode 30 39 = some (.aload_n 0, 1, 0, 0) := rfl
theorem xf_30_40 : xcode 30 40 = some (.dup, 1, 0, 0) := rfl
theorem xf_30_41 : xcode 30 41 = some (.getfield 15, 3, 3, 1) := rfl
theorem xf_30_44 : xcode 30 44 = some (.iconst 1, 1, 0, 0) := rfl
theorem xf_30_45 : xcode 30 45 = some (.iadd, 1, 0, 0) := rfl
theorem xf_30_46 : xcode 30 46 = some (.putfield 15, 3, 3, 1) := rfl
theorem xf_30_49 : xcode 30 49 = some (.iinc 2 (-8), 3, 0, 0) := rfl
theorem xf_30_52 : xcode 30 52 = some (.goto (-49), 3, 3, 0) := rfl
theorem xf_30_55 : xcode 30 55 = some (.return_, 1, 0, 0) := rfl
theorem xf_31_0 : xcode 31 0 = some (.iconst 0, 1, 0, 0) := rfl
theorem xf_31_1 : xcode 31 1 = some (.istore_n 1, 1, 0, 0) := rfl
theorem xf_31_2 : xcode 31 2 = some (.iconst 1, 1, 0, 0) := rfl
theorem xf_31_3 : xcode 31 3 = some (.istore_n 2, 1, 0, 0) := rfl
theorem xf_31_4 : xcode 31 4 = some (.iconst 0, 1, 0, 0) := rfl
theorem xf_31_5 : xcode 31 5 = some (.istore_n 3, 1, 0, 0) := rfl
theorem xf_31_6 : xcode 31 6 = some (.iconst 0, 1, 0, 0) := rfl
theorem xf_31_7 : xcode 31 7 = some (.istore 4, 2, 0, 0) := rfl
theorem xf_31_9 : xcode 31 9 = some (.iconst 0, 1, 0, 0) := rfl
theorem xf_31_10 : xcode 31 10 = some (.istore 5, 2, 0, 0) := rfl
theorem xf_31_12 : xcode 31 12 = some (.iload 5, 2, 0, 0) := rfl
theorem xf_31_14 : xcode 31 14 = some (.aload_n 0, 1, 0, 0) := rfl
theorem xf_31_15 : xcode 31 15 = some (.getfield 15, 3, 3, 1) := rfl
theorem xf_31_18 : xcode 31 18 = some (.if_icmp .ge 101, 3, 119, 0) := rfl
theorem xf_31_21 : xcode 31 21 = some (.aload_n 0, 1, 0, 0) := rfl
theorem xf_31_22 : xcode 31 22 = some (.getfield 9, 3, 3, 0) := rfl
theorem xf_31_25 : xcode 31 25 = some (.iload 5, 2, 0, 0) := rfl
theorem xf_31_27 : xcode 31 27 = some (.caload, 1, 0, 0) := rfl
theorem xf_31_28 : xcode 31 28 = some (.istore 6, 2, 0, 0) := rfl
theorem xf_31_30 : xcode 31 30 = some (.iload 6, 2, 0, 0) := rfl
theorem xf_31_32 : xcode 31 32 = some (.bipush 47, 2, 0, 0) := rfl
theorem xf_31_34 : xcode 31 34 = some (.if_icmp .ne 30, 3, 64, 0) := rfl
theorem xf_31_37 : xcode 31 37 = some (.iload_n 3, 1, 0, 0) := rfl
theorem xf_31_38 : xcode 31 38 = some (.iload_n 1, 1, 0, 0) := rfl
theorem xf_31_39 : xcode 31 39 = some (.invokestatic 19, 3, 32, 0) := rfl
theorem xf_31_42 : xcode 31 42 = some (.ifCond .eq 9, 3, 51, 0) := rfl
theorem xf_31_45 : xcode 31 45 = some (.iload_n 2, 1, 0, 0) := rfl
theorem xf_31_46 : xcode 31 46 = some (.bipush 6, 2, 0, 0) := rfl
theorem xf_31_48 : xcode 31 48 = some (.if_icmp .ne 6, 3, 54, 0) := rfl
theorem xf_31_51 : xcode 31 51 = some (.iload 5, 2, 0, 0) := rfl
theorem xf_31_53 : xcode 31 53 = some (.ireturn, 1, 0, 0) := rfl
theorem xf_31_54 : xcode 31 54 = some (.iload_n 3, 1, 0, 0) := rfl
theorem xf_31_55 : xcode 31 55 = some (.istore_n 1, 1, 0, 0) := rfl
theorem xf_31_56 : xcode 31 56 = some (.iinc 2 1, 3, 0, 0) := rfl
theorem xf_31_59 : xcode 31 59 = some (.iconst 0, 1, 0, 0) := rfl
theorem xf_31_60 : xcode 31 60 = some (.istore_n 3, 1, 0, 0) := rfl
theorem xf_31_61 : xcode 31 61 = some (.goto 52, 3, 113, 0) := rfl
theorem xf_31_64 : xcode 31 64 = some (.iload 6, 2, 0, 0) := rfl
theorem xf_31_66 : xcode 31 66 = some (.invokestatic 23, 3, 33, 0) := rfl
theorem xf_31_69 : xcode 31 69 = some (.bipush (-2), 2, 0, 0) := rfl
theorem xf_31_71 : xcode 31 71 = some (.if_icmp .eq 17, 3, 88, 0) := rfl
theorem xf_31_74 : xcode 31 74 = some (.iload_n 3, 1, 0, 0) := rfl
theorem xf_31_75 : xcode 31 75 = some (.iload_n 1, 1, 0, 0) := rfl
theorem xf_31_76 : xcode 31 76 = some (.ifCond .ne 8, 3, 84, 0) := rfl
theorem xf_31_79 : xcode 31 79 = some (.bipush 6, 2, 0, 0) := rfl
theorem xf_31_81 : xcode 31 81 = some (.goto 4, 3, 85, 0) := rfl
theorem xf_31_84 : xcode 31 84 = some (.iload_n 1, 1, 0, 0) := rfl
theorem xf_31_85 : xcode 31 85 = some (.if_icmp .ne 6, 3, 91, 0) := rfl
theorem xf_31_88 : xcode 31 88 = some (.iload 5, 2, 0, 0) := rfl
theorem xf_31_90 : xcode 31 90 = some (.ireturn, 1, 0, 0) := rfl
theorem xf_31_91 : xcode 31 91 = some (.iload 4, 2, 0, 0) := rfl
theorem xf_31_93 : xcode 31 93 = some (.ifCond .ne 10, 3, 103, 0) := rfl
theorem xf_31_96 : xcode 31 96 = some (.iload 6, 2, 0, 0) := rfl
theorem xf_31_98 : xcode 31 98 = some (.bipush 35, 2, 0, 0) := rfl
theorem xf_31_100 : xcode 31 100 = some (.if_icmp .eq 7, 3, 107, 0) := rfl
theorem xf_31_103 : xcode 31 103 = some (.iconst 1, 1, 0, 0) := rfl
theorem xf_31_104 : xcode 31 104 = some (.goto 4, 3, 108, 0) := rfl
theorem xf_31_107 : xcode 31 107 = some (.iconst 0, 1, 0, 0) := rfl
theorem xf_31_108 : xcode 31 108 = some (.istore 4, 2, 0, 0) := rfl
theorem xf_31_110 : xcode 31 110 = some (.iinc 3 1, 3, 0, 0) := rfl
theorem xf_31_113 : xcode 31 113 = some (.iinc 5 1, 3, 0, 0) := rfl
theorem xf_31_116 : xcode 31 116 = some (.goto (-104), 3, 12, 0) := rfl
theorem xf_31_119 : xcode 31 119 = some (.iload 4, 2, 0, 0) := rfl
theorem xf_31_121 : xcode 31 121 = some (.ifCond .eq 15, 3, 136, 0) := rfl
theorem xf_31_124 : xcode 31 124 = some (.iload_n 3, 1, 0, 0) := rfl
theorem xf_31_125 : xcode 31 125 = some (.iload_n 1, 1, 0, 0) := rfl
theorem xf_31_126 : xcode 31 126 = some (.invokestatic 19, 3, 32, 0) := rfl
theorem xf_31_129 : xcode 31 129 = some (.ifCond .eq 7, 3, 136, 0) := rfl
theorem xf_31_132 : xcode 31 132 = some (.iconst (-1), 1, 0, 0) := rfl
theorem xf_31_133 : xcode 31 133 = some (.goto 7, 3, 140, 0) := rfl
theorem xf_31_136 : xcode 31 136 = some (.aload_n 0, 1, 0, 0) := rfl
theorem xf_31_137 : xcode 31 137 = some (.getfield 15, 3, 3, 1) := rfl
theorem xf_31_140 : xcode 31 140 = some (.ireturn, 1, 0, 0) := rfl
theorem xf_32_0 : xcode 32 0 = some (.iload_n 1, 1, 0, 0) := rfl
theorem xf_32_1 : xcode 32 1 = some (.ifCond .ne 15, 3, 16, 0) := rfl
theorem xf_32_4 : xcode 32 4 = some (.iload_n 0, 1, 0, 0) := rfl
theorem xf_32_5 : xcode 32 5 = some (.ifCond .le 7, 3, 12, 0) := rfl
theorem xf_32_8 : xcode 32 8 = some (.iconst 1, 1, 0, 0) := rfl
theorem xf_32_9 : xcode 32 9 = some (.goto 17, 3, 26, 0) := rfl
theorem xf_32_12 : xcode 32 12 = some (.iconst 0, 1, 0, 0) := rfl
theorem xf_32_13 : xcode 32 13 = some (.goto 13, 3, 26, 0) := rfl
theorem xf_32_16 : xcode 32 16 = some (.iload_n 0, 1, 0, 0) := rfl
theorem xf_32_17 : xcode 32 17 = some (.iload_n 1, 1, 0, 0) := rfl
theorem xf_32_18 : xcode 32 18 = some (.if_icmp .ne 7, 3, 25, 0) := rfl
theorem xf_32_21 : xcode 32 21 = some (.iconst 1, 1, 0, 0) := rfl
theorem xf_32_22 : xcode 32 22 = some (.goto 4, 3, 26, 0) := rfl
theorem xf_32_25 : xcode 32 25 = some (.iconst 0, 1, 0, 0) := rfl
theorem xf_32_26 : xcode 32 26 = some (.ireturn, 1, 0, 0) := rfl
theorem xf_33_0 : xcode 33 0 = some (.iload_n 0, 1, 0, 0) := rfl
theorem xf_33_1 : xcode 33 1 = some (.bipush 35, 2, 0, 0) := rfl
theorem xf_33_3 : xcode 33 3 = some (.if_icmp .ne 5, 3, 8, 0) := rfl
theorem xf_33_6 : xcode 33 6 = some (.iconst (-1), 1, 0, 0) := rfl
theorem xf_33_7 : xcode 33 7 = some (.ireturn, 1, 0, 0) := rfl
theorem xf_33_8 : xcode 33 8 = some (.iload_n 0, 1, 0, 0) := rfl
theorem xf_33_9 : xcode 33 9 = some (.bipush 46, 2, 0, 0) := rfl
theorem xf_33_11 : xcode 33 11 = some (.if_icmp .ne 5, 3, 16, 0) := rfl
theorem xf_33_14 : xcode 33 14 = some (.iconst 0, 1, 0, 0) := rfl
theorem xf_33_15 : xcode 33 15 = some (.ireturn, 1, 0, 0) := rfl
theorem xf_33_16 : xcode 33 16 = some (.iload_n 0, 1, 0, 0) := rfl
theorem xf_33_17 : xcode 33 17 = some (.bipush 97, 2, 0, 0) := rfl
theorem xf_33_19 : xcode 33 19 = some (.if_icmp .lt 16, 3, 35, 0) := rfl
theorem xf_33_22 : xcode 33 22 = some (.iload_n 0, 1, 0, 0) := rfl
theorem xf_33_23 : xcode 33 23 = some (.bipush 100, 2, 0, 0) := rfl
theorem xf_33_25 : xcode 33 25 = some (.if_icmp .gt 10, 3, 35, 0) := rfl
theorem xf_33_28 : xcode 33 28 = some (.iload_n 0, 1, 0, 0) := rfl
theorem xf_33_29 : xcode 33 29 = some (.bipush 97, 2, 0, 0) := rfl
theorem xf_33_31 : xcode 33 31 = some (.isub, 1, 0, 0) := rfl
theorem xf_33_32 : xcode 33 32 = some (.goto 5, 3, 37, 0) := rfl
theorem xf_33_35 : xcode 33 35 = some (.bipush (-2), 2, 0, 0) := rfl
theorem xf_33_37 : xcode 33 37 = some (.ireturn, 1, 0, 0) := rfl
theorem xf_34_0 : xcode 34 0 = some (.iconst 1, 1, 0, 0) := rfl
theorem xf_34_1 : xcode 34 1 = some (.istore_n 2, 1, 0, 0) := rfl
theorem xf_34_2 : xcode 34 2 = some (.iconst 0, 1, 0, 0) := rfl
theorem xf_34_3 : xcode 34 3 = some (.istore_n 3, 1, 0, 0) := rfl
theorem xf_34_4 : xcode 34 4 = some (.iconst 0, 1, 0, 0) := rfl
theorem xf_34_5 : xcode 34 5 = some (.istore 4, 2, 0, 0) := rfl
theorem xf_34_7 : xcode 34 7 = some (.iconst 0, 1, 0, 0) := rfl
theorem xf_34_8 : xcode 34 8 = some (.istore 5, 2, 0, 0) := rfl
theorem xf_34_10 : xcode 34 10 = some (.iload 5, 2, 0, 0) := rfl
theorem xf_34_12 : xcode 34 12 = some (.aload_n 0, 1, 0, 0) := rfl
theorem xf_34_13 : xcode 34 13 = some (.getfield 15, 3, 3, 1) := rfl
theorem xf_34_16 : xcode 34 16 = some (.if_icmp .ge 66, 3, 82, 0) := rfl
theorem xf_34_19 : xcode 34 19 = some (.iload 4, 2, 0, 0) := rfl
theorem xf_34_21 : xcode 34 21 = some (.bipush 36, 2, 0, 0) := rfl
theorem xf_34_23 : xcode 34 23 = some (.if_icmp .ge 59, 3, 82, 0) := rfl
theorem xf_34_26 : xcode 34 26 = some (.aload_n 0, 1, 0, 0) := rfl
theorem xf_34_27 : xcode 34 27 = some (.getfield 9, 3, 3, 0) := rfl
theorem xf_34_30 : xcode 34 30 = some (.iload 5, 2, 0, 0) := rfl
theorem xf_34_32 : xcode 34 32 = some (.caload, 1, 0, 0) := rfl
theorem xf_34_33 : xcode 34 33 = some (.bipush 47, 2, 0, 0) := rfl
theorem xf_34_35 : xcode 34 35 = some (.if_icmp .ne 9, 3, 44, 0) := rfl
theorem xf_34_38 : xcode 34 38 = some (.iinc 2 1, 3, 0, 0) := rfl
theorem xf_34_41 : xcode 34 41 = some (.goto 35, 3, 76, 0) := rfl
theorem xf_34_44 : xcode 34 44 = some (.aload_n 1, 1, 0, 0) := rfl
theorem xf_34_45 : xcode 34 45 = some (.iload 4, 2, 0, 0) := rfl
theorem xf_34_47 : xcode 34 47 = some (.aload_n 0, 1, 0, 0) := rfl
theorem xf_34_48 : xcode 34 48 = some (.getfield 9, 3, 3, 0) := rfl
theorem xf_34_51 : xcode 34 51 = some (.iload 5, 2, 0, 0) := rfl
theorem xf_34_53 : xcode 34 53 = some (.caload, 1, 0, 0) := rfl
theorem xf_34_54 : xcode 34 54 = some (.invokestatic 23, 3, 33, 0) := rfl
theorem xf_34_57 : xcode 34 57 = some (.invokevirtual 29, 3, 21, 0) := rfl
theorem xf_34_60 : xcode 34 60 = some (.iinc 4 1, 3, 0, 0) := rfl
theorem xf_34_63 : xcode 34 63 = some (.iload_n 3, 1, 0, 0) := rfl
theorem xf_34_64 : xcode 34 64 = some (.iload_n 2, 1, 0, 0) := rfl
theorem xf_34_65 : xcode 34 65 = some (.iconst 1, 1, 0, 0) := rfl
theorem xf_34_66 : xcode 34 66 = some (.if_icmp .ne 7, 3, 73, 0) := rfl
theorem xf_34_69 : xcode 34 69 = some (.iconst 1, 1, 0, 0) := rfl
theorem xf_34_70 : xcode 34 70 = some (.goto 4, 3, 74, 0) := rfl
theorem xf_34_73 : xcode 34 73 = some (.iconst 0, 1, 0, 0) := rfl
theorem xf_34_74 : xcode 34 74 = some (.iadd, 1, 0, 0) := rfl
theorem xf_34_75 : xcode 34 75 = some (.istore_n 3, 1, 0, 0) := rfl
theorem xf_34_76 : xcode 34 76 = some (.iinc 5 1, 3, 0, 0) := rfl
theorem xf_34_79 : xcode 34 79 = some (.goto (-69), 3, 10, 0) := rfl
theorem xf_34_82 : xcode 34 82 = some (.aload_n 1, 1, 0, 0) := rfl
theorem xf_34_83 : xcode 34 83 = some (.iload_n 2, 1, 0, 0) := rfl
theorem xf_34_84 : xcode 34 84 = some (.putfield 33, 3, 2, 1) := rfl
theorem xf_34_87 : xcode 34 87 = some (.aload_n 1, 1, 0, 0) := rfl
theorem xf_34_88 : xcode 34 88 = some (.iload_n 3, 1, 0, 0) := rfl
theorem xf_34_89 : xcode 34 89 = some (.putfield 36, 3, 2, 0) := rfl
theorem xf_34_92 : xcode 34 92 = some (.aload_n 1, 1, 0, 0) := rfl
theorem xf_34_93 : xcode 34 93 = some (.invokevirtual 39, 3, 22, 0) := rfl
theorem xf_34_96 : xcode 34 96 = some (.return_, 1, 0, 0) := rfl
theorem xf_35_0 : xcode 35 0 = some (.iconst 0, 1, 0, 0) := rfl
theorem xf_35_1 : xcode 35 1 = some (.istore_n 2, 1, 0, 0) := rfl
theorem xf_35_2 : xcode 35 2 = some (.iload_n 1, 1, 0, 0) := rfl
theorem xf_35_3 : xcode 35 3 = some (.istore_n 3, 1, 0, 0) := rfl
theorem xf_35_4 : xcode 35 4 = some (.iload_n 3, 1, 0, 0) := rfl
theorem xf_35_5 : xcode 35 5 = some (.aload_n 0, 1, 0, 0) := rfl
theorem xf_35_6 : xcode 35 6 = some (.getfield 36, 3, 2, 0) := rfl
theorem xf_35_9 : xcode 35 9 = some (.if_icmp .le 26, 3, 35, 0) := rfl
theorem xf_35_12 : xcode 35 12 = some (.iload_n 2, 1, 0, 0) := rfl
theorem xf_35_13 : xcode 35 13 = some (.aload_n 0, 1, 0, 0) := rfl
theorem xf_35_14 : xcode 35 14 = some (.getfield 33, 3, 2, 1) := rfl
theorem xf_35_17 : xcode 35 17 = some (.if_icmp .ge 18, 3, 35, 0) := rfl
theorem xf_35_20 : xcode 35 20 = some (.iload_n 3, 1, 0, 0) := rfl
theorem xf_35_21 : xcode 35 21 = some (.aload_n 0, 1, 0, 0) := rfl
theorem xf_35_22 : xcode 35 22 = some (.getfield 36, 3, 2, 0) := rfl
theorem xf_35_25 : xcode 35 25 = some (.iconst 1, 1, 0, 0) := rfl
theorem xf_35_26 : xcode 35 26 = some (.iadd, 1, 0, 0) := rfl
theorem xf_35_27 : xcode 35 27 = some (.isub, 1, 0, 0) := rfl
theorem xf_35_28 : xcode 35 28 = some (.istore_n 3, 1, 0, 0) := rfl
theorem xf_35_29 : xcode 35 29 = some (.iinc 2 1, 3, 0, 0) := rfl
theorem xf_35_32 : xcode 35 32 = some (.goto (-28), 3, 4, 0) := rfl
theorem xf_35_35 : xcode 35 35 = some (.iload_n 3, 1, 0, 0) := rfl
theorem xf_35_36 : xcode 35 36 = some (.aload_n 0, 1, 0, 0) := rfl
theorem xf_35_37 : xcode 35 37 = some (.getfield 36, 3, 2, 0) := rfl
theorem xf_35_40 : xcode 35 40 = some (.if_icmp .ne 6, 3, 46, 0) := rfl
theorem xf_35_43 : xcode 35 43 = some (.bipush 47, 2, 0, 0) := rfl
theorem xf_35_45 : xcode 35 45 = some (.ireturn, 1, 0, 0) := rfl
theorem xf_35_46 : xcode 35 46 = some (.iload_n 2, 1, 0, 0) := rfl
theorem xf_35_47 : xcode 35 47 = some (.aload_n 0, 1, 0, 0) := rfl
theorem xf_35_48 : xcode 35 48 = some (.getfield 36, 3, 2, 0) := rfl
theorem xf_35_51 : xcode 35 51 = some (.imul, 1, 0, 0) := rfl
theorem xf_35_52 : xcode 35 52 = some (.iload_n 3, 1, 0, 0) := rfl
theorem xf_35_53 : xcode 35 53 = some (.iadd, 1, 0, 0) := rfl
theorem xf_35_54 : xcode 35 54 = some (.istore 4, 2, 0, 0) := rfl
theorem xf_35_56 : xcode 35 56 = some (.aload_n 0, 1, 0, 0) := rfl
theorem xf_35_57 : xcode 35 57 = some (.iload 4, 2, 0, 0) := rfl
theorem xf_35_59 : xcode 35 59 = some (.invokevirtual 42, 3, 17, 0) := rfl
theorem xf_35_62 : xcode 35 62 = some (.ifCond .ne 6, 3, 68, 0) := rfl
theorem xf_35_65 : xcode 35 65 = some (.bipush 35, 2, 0, 0) := rfl
theorem xf_35_67 : xcode 35 67 = some (.ireturn, 1, 0, 0) := rfl
theorem xf_35_68 : xcode 35 68 = some (.aload_n 0, 1, 0, 0) := rfl
theorem xf_35_69 : xcode 35 69 = some (.iload 4, 2, 0, 0) := rfl
theorem xf_35_71 : xcode 35 71 = some (.invokevirtual 46, 3, 18, 0) := rfl
theorem xf_35_74 : xcode 35 74 = some (.istore 5, 2, 0, 0) := rfl
theorem xf_35_76 : xcode 35 76 = some (.iload 5, 2, 0, 0) := rfl
theorem xf_35_78 : xcode 35 78 = some (.ifCond .ne 8, 3, 86, 0) := rfl
theorem xf_35_81 : xcode 35 81 = some (.bipush 46, 2, 0, 0) := rfl
theorem xf_35_83 : xcode 35 83 = some (.goto 8, 3, 91, 0) := rfl
theorem xf_35_86 : xcode 35 86 = some (.bipush 97, 2, 0, 0) := rfl
theorem xf_35_88 : xcode 35 88 = some (.iload 5, 2, 0, 0) := rfl
theorem xf_35_90 : xcode 35 90 = some (.iadd, 1, 0, 0) := rfl
theorem xf_35_91 : xcode 35 91 = some (.ireturn, 1, 0, 0) := rfl
theorem xf_36_0 : xcode 36 0 = some (.aload_n 0, 1, 0, 0) := rfl
theorem xf_36_1 : xcode 36 1 = some (.invokespecial 3, 3, 0, 2) := rfl
theorem xf_36_4 : xcode 36 4 = some (.aload_n 0, 1, 0, 0) := rfl
theorem xf_36_5 : xcode 36 5 = some (.bipush 36, 2, 0, 0) := rfl
theorem xf_36_7 : xcode 36 7 = some (.newarray .int, 2, 100, 0) := rfl
theorem xf_36_9 : xcode 36 9 = some (.putfield 9, 3, 4, 0) := rfl
theorem xf_36_12 : xcode 36 12 = some (.aload_n 0, 1, 0, 0) := rfl
theorem xf_36_13 : xcode 36 13 = some (.bipush 36, 2, 0, 0) := rfl
theorem xf_36_15 : xcode 36 15 = some (.newarray .int, 2, 100, 0) := rfl
theorem xf_36_17 : xcode 36 17 = some (.putfield 15, 3, 4, 1) := rfl
theorem xf_36_20 : xcode 36 20 = some (.return_, 1, 0, 0) := rfl
theorem xf_37_0 : xcode 37 0 = some (.aload_n 1, 1, 0, 0) := rfl
theorem xf_37_1 : xcode 37 1 = some (.getfield 18, 3, 6, 0) := rfl
theorem xf_37_4 : xcode 37 4 = some (.invokevirtual 24, 3, 15, 0) := rfl
theorem xf_37_7 : xcode 37 7 = some (.istore_n 2, 1, 0, 0) := rfl
theorem xf_37_8 : xcode 37 8 = some (.iconst 0, 1, 0, 0) := rfl
theorem xf_37_9 : xcode 37 9 = some (.istore_n 3, 1, 0, 0) := rfl
theorem xf_37_10 : xcode 37 10 = some (.iload_n 3, 1, 0, 0) := rfl
theorem xf_37_11 : xcode 37 11 = some (.iload_n 2, 1, 0, 0) := rfl
theorem xf_37_12 : xcode 37 12 = some (.if_icmp .ge 94, 3, 106, 0) := rfl
theorem xf_37_15 : xcode 37 15 = some (.aload_n 1, 1, 0, 0) := rfl
theorem xf_37_16 : xcode 37 16 = some (.getfield 30, 3, 6, 3) := rfl
theorem xf_37_19 : xcode 37 19 = some (.iload_n 3, 1, 0, 0) := rfl
theorem xf_37_20 : xcode 37 20 = some (.iaload, 1, 0, 0) := rfl
theorem xf_37_21 : xcode 37 21 = some (.istore 4, 2, 0, 0) := rfl
theorem xf_37_23 : xcode 37 23 = some (.iload_n 3, 1, 0, 0) := rfl
theorem xf_37_24 : xcode 37 24 = some (.istore 5, 2, 0, 0) := rfl
theorem xf_37_26 : xcode 37 26 = some (.iload 5, 2, 0, 0) := rfl
theorem xf_37_28 : xcode 37 28 = some (.ifCond .le 55, 3, 83, 0) := rfl
theorem xf_37_31 : xcode 37 31 = some (.aload_n 0, 1, 0, 0) := rfl
theorem xf_37_32 : xcode 37 32 = some (.getfield 15, 3, 4, 1) := rfl
theorem xf_37_35 : xcode 37 35 = some (.iload 5, 2, 0, 0) := rfl
theorem xf_37_37 : xcode 37 37 = some (.iconst 1, 1, 0, 0) := rfl
theorem xf_37_38 : xcode 37 38 = some (.isub, 1, 0, 0) := rfl
theorem xf_37_39 : xcode 37 39 = some (.iaload, 1, 0, 0) := rfl
theorem xf_37_40 : xcode 37 40 = some (.iload 4, 2, 0, 0) := rfl
theorem xf_37_42 : xcode 37 42 = some (.if_icmp .ge 41, 3, 83, 0) := rfl
theorem xf_37_45 : xcode 37 45 = some (.aload_n 0, 1, 0, 0) := rfl
theorem xf_37_46 : xcode 37 46 = some (.getfield 15, 3, 4, 1) := rfl
theorem xf_37_49 : xcode 37 49 = some (.iload 5, 2, 0, 0) := rfl
theorem xf_37_51 : xcode 37 51 = some (.aload_n 0, 1, 0, 0) := rfl
theorem xf_37_52 : xcode 37 52 = some (.getfield 15, 3, 4, 1) := rfl
theorem xf_37_55 : xcode 37 55 = some (.iload 5, 2, 0, 0) := rfl
theorem xf_37_57 : xcode 37 57 = some (.iconst 1, 1, 0, 0) := rfl
theorem xf_37_58 : xcode 37 58 = some (.isub, 1, 0, 0) := rfl
theorem xf_37_59 : xcode 37 59 = some (.iaload, 1, 0, 0) := rfl
theorem xf_37_60 : xcode 37 60 = some (.iastore, 1, 0, 0) := rfl
theorem xf_37_61 : xcode 37 61 = some (.aload_n 0, 1, 0, 0) := rfl
theorem xf_37_62 : xcode 37 62 = some (.getfield 9, 3, 4, 0) := rfl
theorem xf_37_65 : xcode 37 65 = some (.iload 5, 2, 0, 0) := rfl
theorem xf_37_67 : xcode 37 67 = some (.aload_n 0, 1, 0, 0) := rfl
theorem xf_37_68 : xcode 37 68 = some (.getfield 9, 3, 4, 0) := rfl
theorem xf_37_71 : xcode 37 71 = some (.iload 5, 2, 0, 0) := rfl
theorem xf_37_73 : xcode 37 73 = some (.iconst 1, 1, 0, 0) := rfl
theorem xf_37_74 : xcode 37 74 = some (.isub, 1, 0, 0) := rfl
theorem xf_37_75 : xcode 37 75 = some (.iaload, 1, 0, 0) := rfl
theorem xf_37_76 : xcode 37 76 = some (.iastore, 1, 0, 0) := rfl
theorem xf_37_77 : xcode 37 77 = some (.iinc 5 (-1), 3, 0, 0) := rfl
theorem xf_37_80 : xcode 37 80 = some (.goto (-54), 3, 26, 0) := rfl
theorem xf_37_83 : xcode 37 83 = some (.aload_n 0, 1, 0, 0) := rfl
theorem xf_37_84 : xcode 37 84 = some (.getfield 15, 3, 4, 1) := rfl
theorem xf_37_87 : xcode 37 87 = some (.iload 5, 2, 0, 0) := rfl
theorem xf_37_89 : xcode 37 89 = some (.iload 4, 2, 0, 0) := rfl
theorem xf_37_91 : xcode 37 91 = some (.iastore, 1, 0, 0) := rfl
theorem xf_37_92 : xcode 37 92 = some (.aload_n 0, 1, 0, 0) := rfl
theorem xf_37_93 : xcode 37 93 = some (.getfield 9, 3, 4, 0) := rfl
theorem xf_37_96 : xcode 37 96 = some (.iload 5, 2, 0, 0) := rfl
theorem xf_37_98 : xcode 37 98 = some (.iload_n 3, 1, 0, 0) := rfl
theorem xf_37_99 : xcode 37 99 = some (.iastore, 1, 0, 0) := rfl
theorem xf_37_100 : xcode 37 100 = some (.iinc 3 1, 3, 0, 0) := rfl
theorem xf_37_103 : xcode 37 103 = some (.goto (-93), 3, 10, 0) := rfl
theorem xf_37_106 : xcode 37 106 = some (.return_, 1, 0, 0) := rfl
theorem xf_38_0 : xcode 38 0 = some (.aload_n 0, 1, 0, 0) := rfl
theorem xf_38_1 : xcode 38 1 = some (.invokespecial 3, 3, 0, 2) := rfl
theorem xf_38_4 : xcode 38 4 = some (.aload_n 0, 1, 0, 0) := rfl
theorem xf_38_5 : xcode 38 5 = some (.bipush 36, 2, 0, 0) := rfl
theorem xf_38_7 : xcode 38 7 = some (.newarray .long, 2, 101, 0) := rfl
theorem xf_38_9 : xcode 38 9 = some (.putfield 9, 3, 5, 0) := rfl
theorem xf_38_12 : xcode 38 12 = some (.aload_n 0, 1, 0, 0) := rfl
theorem xf_38_13 : xcode 38 13 = some (.bipush 36, 2, 0, 0) := rfl
theorem xf_38_15 : xcode 38 15 = some (.newarray .long, 2, 101, 0) := rfl
theorem xf_38_17 : xcode 38 17 = some (.putfield 15, 3, 5, 1) := rfl
theorem xf_38_20 : xcode 38 20 = some (.aload_n 0, 1, 0, 0) := rfl
theorem xf_38_21 : xcode 38 21 = some (.sipush 324, 3, 0, 0) := rfl
theorem xf_38_24 : xcode 38 24 = some (.newarray .long, 2, 101, 0) := rfl
theorem xf_38_26 : xcode 38 26 = some (.putfield 18, 3, 5, 2) := rfl
theorem xf_38_29 : xcode 38 29 = some (.aload_n 0, 1, 0, 0) := rfl
theorem xf_38_30 : xcode 38 30 = some (.bipush 9, 2, 0, 0) := rfl
theorem xf_38_32 : xcode 38 32 = some (.newarray .int, 2, 100, 0) := rfl
theorem xf_38_34 : xcode 38 34 = some (.putfield 21, 3, 5, 3) := rfl
theorem xf_38_37 : xcode 38 37 = some (.return_, 1, 0, 0) := rfl
theorem xf_39_0 : xcode 39 0 = some (.aload_n 1, 1, 0, 0) := rfl
theorem xf_39_1 : xcode 39 1 = some (.getfield 25, 3, 6, 0) := rfl
theorem xf_39_4 : xcode 39 4 = some (.invokevirtual 31, 3, 15, 0) := rfl
theorem xf_39_7 : xcode 39 7 = some (.istore_n 2, 1, 0, 0) := rfl
theorem xf_39_8 : xcode 39 8 = some (.aload_n 1, 1, 0, 0) := rfl
theorem xf_39_9 : xcode 39 9 = some (.getfield 37, 3, 6, 2) := rfl
theorem xf_39_12 : xcode 39 12 = some (.invokevirtual 41, 3, 58, 0) := rfl
theorem xf_39_15 : xcode 39 15 = some (.bipush 8, 2, 0, 0) := rfl
theorem xf_39_17 : xcode 39 17 = some (.invokestatic 46, 3, 222, 0) := rfl
theorem xf_39_20 : xcode 39 20 = some (.istore_n 3, 1, 0, 0) := rfl
theorem xf_39_21 : xcode 39 21 = some (.iconst 0, 1, 0, 0) := rfl
theorem xf_39_22 : xcode 39 22 = some (.istore 4, 2, 0, 0) := rfl
theorem xf_39_24 : xcode 39 24 = some (.iload 4, 2, 0, 0) := rfl
theorem xf_39_26 : xcode 39 26 = some (.iload_n 2, 1, 0, 0) := rfl
theorem xf_39_27 : xcode 39 27 = some (.if_icmp .ge 30, 3, 57, 0) := rfl
theorem xf_39_30 : xcode 39 30 = some (.aload_n 0, 1, 0, 0) := rfl
theorem xf_39_31 : xcode 39 31 = some (.getfield 9, 3, 5, 0) := rfl
theorem xf_39_34 : xcode 39 34 = some (.iload 4, 2, 0, 0) := rfl
theorem xf_39_36 : xcode 39 36 = some (.aload_n 1, 1, 0, 0) := rfl
theorem xf_39_37 : xcode 39 37 = some (.iload 4, 2, 0, 0) := rfl
theorem xf_39_39 : xcode 39 39 = some (.invokestatic 52, 3, 40, 0) := rfl
theorem xf_39_42 : xcode 39 42 = some (.ifCond .eq 7, 3, 49, 0) := rfl
theorem xf_39_45 : xcode 39 45 = some (.lconst 1, 1, 0, 0) := rfl
theorem xf_39_46 : xcode 39 46 = some (.goto 4, 3, 50, 0) := rfl
theorem xf_39_49 : xcode 39 49 = some (.lconst 0, 1, 0, 0) := rfl
theorem xf_39_50 : xcode 39 50 = some (.lastore, 1, 0, 0) := rfl
theorem xf_39_51 : xcode 39 51 = some (.iinc 4 1, 3, 0, 0) := rfl
theorem xf_39_54 : xcode 39 54 = some (.goto (-30), 3, 24, 0) := rfl
theorem xf_39_57 : xcode 39 57 = some (.iconst 0, 1, 0, 0) := rfl
theorem xf_39_58 : xcode 39 58 = some (.istore 4, 2, 0, 0) := rfl
theorem xf_39_60 : xcode 39 60 = some (.iload 4, 2, 0, 0) := rfl
theorem xf_39_62 : xcode 39 62 = some (.iload_n 3, 1, 0, 0) := rfl
theorem xf_39_63 : xcode 39 63 = some (.if_icmp .ge 74, 3, 137, 0) := rfl
theorem xf_39_66 : xcode 39 66 = some (.aload_n 1, 1, 0, 0) := rfl
theorem xf_39_67 : xcode 39 67 = some (.getfield 37, 3, 6, 2) := rfl
theorem xf_39_70 : xcode 39 70 = some (.iload 4, 2, 0, 0) := rfl
theorem xf_39_72 : xcode 39 72 = some (.invokevirtual 56, 3, 62, 0) := rfl
theorem xf_39_75 : xcode 39 75 = some (.ifCond .eq 14, 3, 89, 0) := rfl
theorem xf_39_78 : xcode 39 78 = some (.aload_n 0, 1, 0, 0) := rfl
theorem xf_39_79 : xcode 39 79 = some (.aload_n 1, 1, 0, 0) := rfl
theorem xf_39_80 : xcode 39 80 = some (.iload 4, 2, 0, 0) := rfl
theorem xf_39_82 : xcode 39 82 = some (.iload_n 2, 1, 0, 0) := rfl
theorem xf_39_83 : xcode 39 83 = some (.invokevirtual 60, 3, 41, 0) := rfl
theorem xf_39_86 : xcode 39 86 = some (.goto 45, 3, 131, 0) := rfl
theorem xf_39_89 : xcode 39 89 = some (.iconst 0, 1, 0, 0) := rfl
theorem xf_39_90 : xcode 39 90 = some (.istore 5, 2, 0, 0) := rfl
theorem xf_39_92 : xcode 39 92 = some (.iload 5, 2, 0, 0) := rfl
theorem xf_39_94 : xcode 39 94 = some (.iload_n 2, 1, 0, 0) := rfl
theorem xf_39_95 : xcode 39 95 = some (.if_icmp .ge 36, 3, 131, 0) := rfl
theorem xf_39_98 : xcode 39 98 = some (.aload_n 0, 1, 0, 0) := rfl
theorem xf_39_99 : xcode 39 99 = some (.getfield 9, 3, 5, 0) := rfl
theorem xf_39_102 : xcode 39 102 = some (.iload 5, 2, 0, 0) := rfl
theorem xf_39_104 : xcode 39 104 = some (.aload_n 0, 1, 0, 0) := rfl
theorem xf_39_105 : xcode 39 105 = some (.getfield 9, 3, 5, 0) := rfl
theorem xf_39_108 : xcode 39 108 = some (.iload 5, 2, 0, 0) := rfl
theorem xf_39_110 : xcode 39 110 = some (.laload, 1, 0, 0) := rfl
theorem xf_39_111 : xcode 39 111 = some (.aload_n 1, 1, 0, 0) := rfl
theorem xf_39_112 : xcode 39 112 = some (.getfield 37, 3, 6, 2) := rfl
theorem xf_39_115 : xcode 39 115 = some (.iload 4, 2, 0, 0) := rfl
theorem xf_39_117 : xcode 39 117 = some (.iload 5, 2, 0, 0) := rfl
theorem xf_39_119 : xcode 39 119 = some (.invokevirtual 64, 3, 63, 0) := rfl
theorem xf_39_122 : xcode 39 122 = some (.i2l, 1, 0, 0) := rfl
theorem xf_39_123 : xcode 39 123 = some (.lmul, 1, 0, 0) := rfl
theorem xf_39_124 : xcode 39 124 = some (.lastore, 1, 0, 0) := rfl
theorem xf_39_125 : xcode 39 125 = some (.iinc 5 1, 3, 0, 0) := rfl
theorem xf_39_128 : xcode 39 128 = some (.goto (-36), 3, 92, 0) := rfl
theorem xf_39_131 : xcode 39 131 = some (.iinc 4 1, 3, 0, 0) := rfl
theorem xf_39_134 : xcode 39 134 = some (.goto (-74), 3, 60, 0) := rfl
theorem xf_39_137 : xcode 39 137 = some (.return_, 1, 0, 0) := rfl
theorem xf_40_0 : xcode 40 0 = some (.aload_n 0, 1, 0, 0) := rfl
theorem xf_40_1 : xcode 40 1 = some (.getfield 37, 3, 6, 2) := rfl
theorem xf_40_4 : xcode 40 4 = some (.getfield 67, 3, 8, 0) := rfl
theorem xf_40_7 : xcode 40 7 = some (.istore_n 2, 1, 0, 0) := rfl
theorem xf_40_8 : xcode 40 8 = some (.aload_n 0, 1, 0, 0) := rfl
theorem xf_40_9 : xcode 40 9 = some (.getfield 25, 3, 6, 0) := rfl
theorem xf_40_12 : xcode 40 12 = some (.iload_n 1, 1, 0, 0) := rfl
theorem xf_40_13 : xcode 40 13 = some (.invokevirtual 71, 3, 17, 0) := rfl
theorem xf_40_16 : xcode 40 16 = some (.ifCond .eq 17, 3, 33, 0) := rfl
theorem xf_40_19 : xcode 40 19 = some (.iload_n 2, 1, 0, 0) := rfl
theorem xf_40_20 : xcode 40 20 = some (.iconst (-1), 1, 0, 0) := rfl
theorem xf_40_21 : xcode 40 21 = some (.if_icmp .eq 8, 3, 29, 0) := rfl
theorem xf_40_24 : xcode 40 24 = some (.iload_n 2, 1, 0, 0) := rfl
theorem xf_40_25 : xcode 40 25 = some (.iload_n 1, 1, 0, 0) := rfl
theorem xf_40_26 : xcode 40 26 = some (.if_icmp .ne 7, 3, 33, 0) := rfl
theorem xf_40_29 : xcode 40 29 = some (.iconst 1, 1, 0, 0) := rfl
theorem xf_40_30 : xcode 40 30 = some (.goto 4, 3, 34, 0) := rfl
theorem xf_40_33 : xcode 40 33 = some (.iconst 0, 1, 0, 0) := rfl
theorem xf_40_34 : xcode 40 34 = some (.ireturn, 1, 0, 0) := rfl
theorem xf_41_0 : xcode 41 0 = some (.iconst 0, 1, 0, 0) := rfl
theorem xf_41_1 : xcode 41 1 = some (.istore 4, 2, 0, 0) := rfl
theorem xf_41_3 : xcode 41 3 = some (.iload 4, 2, 0, 0) := rfl
theorem xf_41_5 : xcode 41 5 = some (.iload_n 3, 1, 0, 0) := rfl
theorem xf_41_6 : xcode 41 6 = some (.if_icmp .ge 17, 3, 23, 0) := rfl
theorem xf_41_9 : xcode 41 9 = some (.aload_n 0, 1, 0, 0) := rfl
theorem xf_41_10 : xcode 41 10 = some (.getfield 15, 3, 5, 1) := rfl
theorem xf_41_13 : xcode 41 13 = some (.iload 4, 2, 0, 0) := rfl
theorem xf_41_15 : xcode 41 15 = some (.lconst 0, 1, 0, 0) := rfl
theorem xf_41_16 : xcode 41 16 = some (.lastore, 1, 0, 0) := rfl
theorem xf_41_17 : xcode 41 17 = some (.iinc 4 1, 3, 0, 0) := rfl
theorem xf_41_20 : xcode 41 20 = some (.goto (-17), 3, 3, 0) := rfl
theorem xf_41_23 : xcode 41 23 = some (.aload_n 1, 1, 0, 0) := rfl
theorem xf_41_24 : xcode 41 24 = some (.getfield 37, 3, 6, 2) := rfl
theorem xf_41_27 : xcode 41 27 = some (.getfield 74, 3, 8, 3) := rfl
theorem xf_41_30 : xcode 41 30 = some (.iload_n 2, 1, 0, 0) := rfl
theorem xf_41_31 : xcode 41 31 = some (.iaload, 1, 0, 0) := rfl
theorem xf_41_32 : xcode 41 32 = some (.istore 4, 2, 0, 0) := rfl
theorem xf_41_34 : xcode 41 34 = some (.iconst 0, 1, 0, 0) := rfl
theorem xf_41_35 : xcode 41 35 = some (.istore 5, 2, 0, 0) := rfl
theorem xf_41_37 : xcode 41 37 = some (.iload 5, 2, 0, 0) := rfl
theorem xf_41_39 : xcode 41 39 = some (.iload_n 3, 1, 0, 0) := rfl
theorem xf_41_40 : xcode 41 40 = some (.if_icmp .ge 76, 3, 116, 0) := rfl
theorem xf_41_43 : xcode 41 43 = some (.iconst 0, 1, 0, 0) := rfl
theorem xf_41_44 : xcode 41 44 = some (.istore 6, 2, 0, 0) := rfl
theorem xf_41_46 : xcode 41 46 = some (.aload_n 0, 1, 0, 0) := rfl
theorem xf_41_47 : xcode 41 47 = some (.getfield 9, 3, 5, 0) := rfl
theorem xf_41_50 : xcode 41 50 = some (.iload 5, 2, 0, 0) := rfl
theorem xf_41_52 : xcode 41 52 = some (.laload, 1, 0, 0) := rfl
theorem xf_41_53 : xcode 41 53 = some (.lconst 0, 1, 0, 0) := rfl
theorem xf_41_54 : xcode 41 54 = some (.lcmp, 1, 0, 0) := rfl
theorem xf_41_55 : xcode 41 55 = some (.ifCond .le 55, 3, 110, 0) := rfl
theorem xf_41_58 : xcode 41 58 = some (.iload 6, 2, 0, 0) := rfl
theorem xf_41_60 : xcode 41 60 = some (.iconst 4, 1, 0, 0) := rfl
theorem xf_41_61 : xcode 41 61 = some (.if_icmp .ge 49, 3, 110, 0) := rfl
theorem xf_41_64 : xcode 41 64 = some (.aload_n 0, 1, 0, 0) := rfl
theorem xf_41_65 : xcode 41 65 = some (.getfield 15, 3, 5, 1) := rfl
theorem xf_41_68 : xcode 41 68 = some (.aload_n 1, 1, 0, 0) := rfl
theorem xf_41_69 : xcode 41 69 = some (.getfield 25, 3, 6, 0) := rfl
theorem xf_41_72 : xcode 41 72 = some (.iload 5, 2, 0, 0) := rfl
theorem xf_41_74 : xcode 41 74 = some (.iload 4, 2, 0, 0) := rfl
theorem xf_41_76 : xcode 41 76 = some (.iload 6, 2, 0, 0) := rfl
theorem xf_41_78 : xcode 41 78 = some (.invokevirtual 77, 3, 25, 0) := rfl
theorem xf_41_81 : xcode 41 81 = some (.dup2, 1, 0, 0) := rfl
theorem xf_41_82 : xcode 41 82 = some (.laload, 1, 0, 0) := rfl
theorem xf_41_83 : xcode 41 83 = some (.aload_n 0, 1, 0, 0) := rfl
theorem xf_41_84 : xcode 41 84 = some (.getfield 9, 3, 5, 0) := rfl
theorem xf_41_87 : xcode 41 87 = some (.iload 5, 2, 0, 0) := rfl
theorem xf_41_89 : xcode 41 89 = some (.laload, 1, 0, 0) := rfl
theorem xf_41_90 : xcode 41 90 = some (.aload_n 1, 1, 0, 0) := rfl
theorem xf_41_91 : xcode 41 91 = some (.getfield 37, 3, 6, 2) := rfl
theorem xf_41_94 : xcode 41 94 = some (.iload_n 2, 1, 0, 0) := rfl
theorem xf_41_95 : xcode 41 95 = some (.iload 6, 2, 0, 0) := rfl
theorem xf_41_97 : xcode 41 97 = some (.invokevirtual 64, 3, 63, 0) := rfl
theorem xf_41_100 : xcode 41 100 = some (.i2l, 1, 0, 0) := rfl
theorem xf_41_101 : xcode 41 101 = some (.lmul, 1, 0, 0) := rfl
theorem xf_41_102 : xcode 41 102 = some (.ladd, 1, 0, 0) := rfl
theorem xf_41_103 : xcode 41 103 = some (.lastore, 1, 0, 0) := rfl
theorem xf_41_104 : xcode 41 104 = some (.iinc 6 1, 3, 0, 0) := rfl
theorem xf_41_107 : xcode 41 107 = some (.goto (-61), 3, 46, 0) := rfl
theorem xf_41_110 : xcode 41 110 = some (.iinc 5 1, 3, 0, 0) := rfl
theorem xf_41_113 : xcode 41 113 = some (.goto (-76), 3, 37, 0) := rfl
theorem xf_41_116 : xcode 41 116 = some (.aload_n 0, 1, 0, 0) := rfl
theorem xf_41_117 : xcode 41 117 = some (.getfield 15, 3, 5, 1) := rfl
theorem xf_41_120 : xcode 41 120 = some (.iconst 0, 1, 0, 0) := rfl
theorem xf_41_121 : xcode 41 121 = some (.aload_n 0, 1, 0, 0) := rfl
theorem xf_41_122 : xcode 41 122 = some (.getfield 9, 3, 5, 0) := rfl
theorem xf_41_125 : xcode 41 125 = some (.iconst 0, 1, 0, 0) := rfl
theorem xf_41_126 : xcode 41 126 = some (.iload_n 3, 1, 0, 0) := rfl
theorem xf_41_127 : xcode 41 127 = some (.invokestatic 81, 3, 0, 1) := rfl
theorem xf_41_130 : xcode 41 130 = some (.return_, 1, 0, 0) := rfl
theorem xf_42_0 : xcode 42 0 = some (.aload_n 1, 1, 0, 0) := rfl
theorem xf_42_1 : xcode 42 1 = some (.getfield 37, 3, 6, 2) := rfl
theorem xf_42_4 : xcode 42 4 = some (.invokevirtual 41, 3, 58, 0) := rfl
theorem xf_42_7 : xcode 42 7 = some (.bipush 8, 2, 0, 0) := rfl
theorem xf_42_9 : xcode 42 9 = some (.invokestatic 46, 3, 222, 0) := rfl
theorem xf_42_12 : xcode 42 12 = some (.istore_n 2, 1, 0, 0) := rfl
theorem xf_42_13 : xcode 42 13 = some (.aload_n 0, 1, 0, 0) := rfl
theorem xf_42_14 : xcode 42 14 = some (.aload_n 1, 1, 0, 0) := rfl
theorem xf_42_15 : xcode 42 15 = some (.iload_n 2, 1, 0, 0) := rfl
theorem xf_42_16 : xcode 42 16 = some (.invokevirtual 87, 3, 43, 0) := rfl
theorem xf_42_19 : xcode 42 19 = some (.aload_n 0, 1, 0, 0) := rfl
theorem xf_42_20 : xcode 42 20 = some (.getfield 21, 3, 5, 3) := rfl
theorem xf_42_23 : xcode 42 23 = some (.iconst 0, 1, 0, 0) := rfl
theorem xf_42_24 : xcode 42 24 = some (.aload_n 0, 1, 0, 0) := rfl
theorem xf_42_25 : xcode 42 25 = some (.aload_n 1, 1, 0, 0) := rfl
theorem xf_42_26 : xcode 42 26 = some (.invokevirtual 91, 3, 46, 0) := rfl
theorem xf_42_29 : xcode 42 29 = some (.iastore, 1, 0, 0) := rfl
theorem xf_42_30 : xcode 42 30 = some (.aload_n 0, 1, 0, 0) := rfl
theorem xf_42_31 : xcode 42 31 = some (.getfield 18, 3, 5, 2) := rfl
theorem xf_42_34 : xcode 42 34 = some (.aload_n 0, 1, 0, 0) := rfl
theorem xf_42_35 : xcode 42 35 = some (.getfield 21, 3, 5, 3) := rfl
theorem xf_42_38 : xcode 42 38 = some (.iconst 0, 1, 0, 0) := rfl
theorem xf_42_39 : xcode 42 39 = some (.iaload, 1, 0, 0) := rfl
theorem xf_42_40 : xcode 42 40 = some (.laload, 1, 0, 0) := rfl
theorem xf_42_41 : xcode 42 41 = some (.lstore_n 3, 1, 0, 0) := rfl
theorem xf_42_42 : xcode 42 42 = some (.iconst 0, 1, 0, 0) := rfl
theorem xf_42_43 : xcode 42 43 = some (.istore 5, 2, 0, 0) := rfl
theorem xf_42_45 : xcode 42 45 = some (.iload 5, 2, 0, 0) := rfl
theorem xf_42_47 : xcode 42 47 = some (.iload_n 2, 1, 0, 0) := rfl
theorem xf_42_48 : xcode 42 48 = some (.if_icmp .ge 48, 3, 96, 0) := rfl
theorem xf_42_51 : xcode 42 51 = some (.aload_n 0, 1, 0, 0) := rfl
theorem xf_42_52 : xcode 42 52 = some (.getfield 21, 3, 5, 3) := rfl
theorem xf_42_55 : xcode 42 55 = some (.iload 5, 2, 0, 0) := rfl
theorem xf_42_57 : xcode 42 57 = some (.iconst 1, 1, 0, 0) := rfl
theorem xf_42_58 : xcode 42 58 = some (.iadd, 1, 0, 0) := rfl
theorem xf_42_59 : xcode 42 59 = some (.lload_n 3, 1, 0, 0) := rfl
theorem xf_42_60 : xcode 42 60 = some (.lconst 0, 1, 0, 0) := rfl
theorem xf_42_61 : xcode 42 61 = some (.lcmp, 1, 0, 0) := rfl
theorem xf_42_62 : xcode 42 62 = some (.ifCond .ne 13, 3, 75, 0) := rfl
theorem xf_42_65 : xcode 42 65 = some (.aload_n 1, 1, 0, 0) := rfl
theorem xf_42_66 : xcode 42 66 = some (.getfield 25, 3, 6, 0) := rfl
theorem xf_42_69 : xcode 42 69 = some (.invokevirtual 95, 3, 20, 0) := rfl
theorem xf_42_72 : xcode 42 72 = some (.goto 17, 3, 89, 0) := rfl
theorem xf_42_75 : xcode 42 75 = some (.aload_n 0, 1, 0, 0) := rfl
theorem xf_42_76 : xcode 42 76 = some (.aload_n 1, 1, 0, 0) := rfl
theorem xf_42_77 : xcode 42 77 = some (.iload 5, 2, 0, 0) := rfl
theorem xf_42_79 : xcode 42 79 = some (.aload_n 0, 1, 0, 0) := rfl
theorem xf_42_80 : xcode 42 80 = some (.getfield 21, 3, 5, 3) := rfl
theorem xf_42_83 : xcode 42 83 = some (.iload 5, 2, 0, 0) := rfl
theorem xf_42_85 : xcode 42 85 = some (.iaload, 1, 0, 0) := rfl
theorem xf_42_86 : xcode 42 86 = some (.invokevirtual 98, 3, 47, 0) := rfl
theorem xf_42_89 : xcode 42 89 = some (.iastore, 1, 0, 0) := rfl
theorem xf_42_90 : xcode 42 90 = some (.iinc 5 1, 3, 0, 0) := rfl
theorem xf_42_93 : xcode 42 93 = some (.goto (-48), 3, 45, 0) := rfl
theorem xf_42_96 : xcode 42 96 = some (.lload_n 3, 1, 0, 0) := rfl
theorem xf_42_97 : xcode 42 97 = some (.lreturn, 1, 0, 0) := rfl
theorem xf_43_0 : xcode 43 0 = some (.aload_n 1, 1, 0, 0) := rfl
theorem xf_43_1 : xcode 43 1 = some (.getfield 25, 3, 6, 0) := rfl
theorem xf_43_4 : xcode 43 4 = some (.invokevirtual 31, 3, 15, 0) := rfl
theorem xf_43_7 : xcode 43 7 = some (.istore_n 3, 1, 0, 0) := rfl
theorem xf_43_8 : xcode 43 8 = some (.iconst 0, 1, 0, 0) := rfl
theorem xf_43_9 : xcode 43 9 = some (.istore 4, 2, 0, 0) := rfl
theorem xf_43_11 : xcode 43 11 = some (.iload 4, 2, 0, 0) := rfl
theorem xf_43_13 : xcode 43 13 = some (.iload_n 3, 1, 0, 0) := rfl
theorem xf_43_14 : xcode 43 14 = some (.if_icmp .ge 38, 3, 52, 0) := rfl
theorem xf_43_17 : xcode 43 17 = some (.aload_n 0, 1, 0, 0) := rfl
theorem xf_43_18 : xcode 43 18 = some (.getfield 18, 3, 5, 2) := rfl
theorem xf_43_21 : xcode 43 21 = some (.iload_n 2, 1, 0, 0) := rfl
theorem xf_43_22 : xcode 43 22 = some (.bipush 36, 2, 0, 0) := rfl
theorem xf_43_24 : xcode 43 24 = some (.imul, 1, 0, 0) := rfl
theorem xf_43_25 : xcode 43 25 = some (.iload 4, 2, 0, 0) := rfl
theorem xf_43_27 : xcode 43 27 = some (.iadd, 1, 0, 0) := rfl
theorem xf_43_28 : xcode 43 28 = some (.aload_n 1, 1, 0, 0) := rfl
theorem xf_43_29 : xcode 43 29 = some (.getfield 25, 3, 6, 0) := rfl
theorem xf_43_32 : xcode 43 32 = some (.iload 4, 2, 0, 0) := rfl
theorem xf_43_34 : xcode 43 34 = some (.invokevirtual 71, 3, 17, 0) := rfl
theorem xf_43_37 : xcode 43 37 = some (.ifCond .eq 7, 3, 44, 0) := rfl
theorem xf_43_40 : xcode 43 40 = some (.lconst 1, 1, 0, 0) := rfl
theorem xf_43_41 : xcode 43 41 = some (.goto 4, 3, 45, 0) := rfl
theorem xf_43_44 : xcode 43 44 = some (.lconst 0, 1, 0, 0) := rfl
theorem xf_43_45 : xcode 43 45 = some (.lastore, 1, 0, 0) := rfl
theorem xf_43_46 : xcode 43 46 = some (.iinc 4 1, 3, 0, 0) := rfl
theorem xf_43_49 : xcode 43 49 = some (.goto (-38), 3, 11, 0) := rfl
theorem xf_43_52 : xcode 43 52 = some (.iload_n 2, 1, 0, 0) := rfl
theorem xf_43_53 : xcode 43 53 = some (.iconst 1, 1, 0, 0) := rfl
theorem xf_43_54 : xcode 43 54 = some (.isub, 1, 0, 0) := rfl
theorem xf_43_55 : xcode 43 55 = some (.istore 4, 2, 0, 0) := rfl
theorem xf_43_57 : xcode 43 57 = some (.iload 4, 2, 0, 0) := rfl
theorem xf_43_59 : xcode 43 59 = some (.ifCond .lt 83, 3, 142, 0) := rfl
theorem xf_43_62 : xcode 43 62 = some (.iconst 0, 1, 0, 0) := rfl
theorem xf_43_63 : xcode 43 63 = some (.istore 5, 2, 0, 0) := rfl
theorem xf_43_65 : xcode 43 65 = some (.iload 5, 2, 0, 0) := rfl
theorem xf_43_67 : xcode 43 67 = some (.iload_n 3, 1, 0, 0) := rfl
theorem xf_43_68 : xcode 43 68 = some (.if_icmp .ge 68, 3, 136, 0) := rfl
theorem xf_43_71 : xcode 43 71 = some (.lconst 0, 1, 0, 0) := rfl
theorem xf_43_72 : xcode 43 72 = some (.lstore 6, 2, 0, 0) := rfl
theorem xf_43_74 : xcode 43 74 = some (.iconst 0, 1, 0, 0) := rfl
theorem xf_43_75 : xcode 43 75 = some (.istore 8, 2, 0, 0) := rfl
theorem xf_43_77 : xcode 43 77 = some (.iload 8, 2, 0, 0) := rfl
theorem xf_43_79 : xcode 43 79 = some (.iconst 4, 1, 0, 0) := rfl
theorem xf_43_80 : xcode 43 80 = some (.if_icmp .ge 35, 3, 115, 0) := rfl
theorem xf_43_83 : xcode 43 83 = some (.lload 6, 2, 0, 0) := rfl
theorem xf_43_85 : xcode 43 85 = some (.aload_n 0, 1, 0, 0) := rfl
theorem xf_43_86 : xcode 43 86 = some (.aload_n 1, 1, 0, 0) := rfl
theorem xf_43_87 : xcode 43 87 = some (.iload 4, 2, 0, 0) := rfl
theorem xf_43_89 : xcode 43 89 = some (.iload 5, 2, 0, 0) := rfl
theorem xf_43_91 : xcode 43 91 = some (.aload_n 1, 1, 0, 0) := rfl
theorem xf_43_92 : xcode 43 92 = some (.iload 4, 2, 0, 0) := rfl
theorem xf_43_94 : xcode 43 94 = some (.iload 5, 2, 0, 0) := rfl
theorem xf_43_96 : xcode 43 96 = some (.iload 8, 2, 0, 0) := rfl
theorem xf_43_98 : xcode 43 98 = some (.invokestatic 102, 3, 44, 0) := rfl
theorem xf_43_101 : xcode 43 101 = some (.invokevirtual 106, 3, 45, 0) := rfl
theorem xf_43_104 : xcode 43 104 = some (.invokestatic 110, 3, 221, 0) := rfl
theorem xf_43_107 : xcode 43 107 = some (.lstore 6, 2, 0, 0) := rfl
theorem xf_43_109 : xcode 43 109 = some (.iinc 8 1, 3, 0, 0) := rfl
theorem xf_43_112 : xcode 43 112 = some (.goto (-35), 3, 77, 0) := rfl
theorem xf_43_115 : xcode 43 115 = some (.aload_n 0, 1, 0, 0) := rfl
theorem xf_43_116 : xcode 43 116 = some (.getfield 18, 3, 5, 2) := rfl
theorem xf_43_119 : xcode 43 119 = some (.iload 4, 2, 0, 0) := rfl
theorem xf_43_121 : xcode 43 121 = some (.bipush 36, 2, 0, 0) := rfl
theorem xf_43_123 : xcode 43 123 = some (.imul, 1, 0, 0) := rfl
theorem xf_43_124 : xcode 43 124 = some (.iload 5, 2, 0, 0) := rfl
theorem xf_43_126 : xcode 43 126 = some (.iadd, 1, 0, 0) := rfl
theorem xf_43_127 : xcode 43 127 = some (.lload 6, 2, 0, 0) := rfl
theorem xf_43_129 : xcode 43 129 = some (.lastore, 1, 0, 0) := rfl
theorem xf_43_130 : xcode 43 130 = some (.iinc 5 1, 3, 0, 0) := rfl
theorem xf_43_133 : xcode 43 133 = some (.goto (-68), 3, 65, 0) := rfl
theorem xf_43_136 : xcode 43 136 = some (.iinc 4 (-1), 3, 0, 0) := rfl
theorem xf_43_139 : xcode 43 139 = some (.goto (-82), 3, 57, 0) := rfl
theorem xf_43_142 : xcode 43 142 = some (.return_, 1, 0, 0) := rfl
theorem xf_44_0 : xcode 44 0 = some (.aload_n 0, 1, 0, 0) := rfl
theorem xf_44_1 : xcode 44 1 = some (.getfield 37, 3, 6, 2) := rfl
theorem xf_44_4 : xcode 44 4 = some (.iload_n 1, 1, 0, 0) := rfl
theorem xf_44_5 : xcode 44 5 = some (.invokevirtual 56, 3, 62, 0) := rfl
theorem xf_44_8 : xcode 44 8 = some (.ifCond .eq 24, 3, 32, 0) := rfl
theorem xf_44_11 : xcode 44 11 = some (.aload_n 0, 1, 0, 0) := rfl
theorem xf_44_12 : xcode 44 12 = some (.getfield 25, 3, 6, 0) := rfl
theorem xf_44_15 : xcode 44 15 = some (.iload_n 2, 1, 0, 0) := rfl
theorem xf_44_16 : xcode 44 16 = some (.aload_n 0, 1, 0, 0) := rfl
theorem xf_44_17 : xcode 44 17 = some (.getfield 37, 3, 6, 2) := rfl
theorem xf_44_20 : xcode 44 20 = some (.getfield 74, 3, 8, 3) := rfl
theorem xf_44_23 : xcode 44 23 = some (.iload_n 1, 1, 0, 0) := rfl
theorem xf_44_24 : xcode 44 24 = some (.iaload, 1, 0, 0) := rfl
theorem xf_44_25 : xcode 44 25 = some (.iload_n 3, 1, 0, 0) := rfl
theorem xf_44_26 : xcode 44 26 = some (.invokevirtual 77, 3, 25, 0) := rfl
theorem xf_44_29 : xcode 44 29 = some (.goto 4, 3, 33, 0) := rfl
theorem xf_44_32 : xcode 44 32 = some (.iload_n 2, 1, 0, 0) := rfl
theorem xf_44_33 : xcode 44 33 = some (.ireturn, 1, 0, 0) := rfl
theorem xf_45_0 : xcode 45 0 = some (.aload_n 1, 1, 0, 0) := rfl
theorem xf_45_1 : xcode 45 1 = some (.getfield 37, 3, 6, 2) := rfl
theorem xf_45_4 : xcode 45 4 = some (.aload_n 1, 1, 0, 0) := rfl
theorem xf_45_5 : xcode 45 5 = some (.getfield 25, 3, 6, 0) := rfl
theorem xf_45_8 : xcode 45 8 = some (.iload_n 2, 1, 0, 0) := rfl
theorem xf_45_9 : xcode 45 9 = some (.iload_n 3, 1, 0, 0) := rfl
theorem xf_45_10 : xcode 45 10 = some (.iload 4, 2, 0, 0) := rfl
theorem xf_45_12 : xcode 45 12 = some (.invokevirtual 114, 3, 64, 0) := rfl
theorem xf_45_15 : xcode 45 15 = some (.aload_n 0, 1, 0, 0) := rfl
theorem xf_45_16 : xcode 45 16 = some (.getfield 18, 3, 5, 2) := rfl
theorem xf_45_19 : xcode 45 19 = some (.iload_n 2, 1, 0, 0) := rfl
theorem xf_45_20 : xcode 45 20 = some (.iconst 1, 1, 0, 0) := rfl
theorem xf_45_21 : xcode 45 21 = some (.iadd, 1, 0, 0) := rfl
theorem xf_45_22 : xcode 45 22 = some (.bipush 36, 2, 0, 0) := rfl
theorem xf_45_24 : xcode 45 24 = some (.imul, 1, 0, 0) := rfl
theorem xf_45_25 : xcode 45 25 = some (.iload 4, 2, 0, 0) := rfl
theorem xf_45_27 : xcode 45 27 = some (.iadd, 1, 0, 0) := rfl
theorem xf_45_28 : xcode 45 28 = some (.laload, 1, 0, 0) := rfl
theorem xf_45_29 : xcode 45 29 = some (.lmul, 1, 0, 0) := rfl
theorem xf_45_30 : xcode 45 30 = some (.lreturn, 1, 0, 0) := rfl
theorem xf_46_0 : xcode 46 0 = some (.aload_n 1, 1, 0, 0) := rfl
theorem xf_46_1 : xcode 46 1 = some (.getfield 25, 3, 6, 0) := rfl
theorem xf_46_4 : xcode 46 4 = some (.invokevirtual 31, 3, 15, 0) := rfl
theorem xf_46_7 : xcode 46 7 = some (.istore_n 2, 1, 0, 0) := rfl
theorem xf_46_8 : xcode 46 8 = some (.iconst (-1), 1, 0, 0) := rfl
theorem xf_46_9 : xcode 46 9 = some (.istore_n 3, 1, 0, 0) := rfl
theorem xf_46_10 : xcode 46 10 = some (.iconst 0, 1, 0, 0) := rfl
theorem xf_46_11 : xcode 46 11 = some (.istore 4, 2, 0, 0) := rfl
theorem xf_46_13 : xcode 46 13 = some (.iload 4, 2, 0, 0) := rfl
theorem xf_46_15 : xcode 46 15 = some (.iload_n 2, 1, 0, 0) := rfl
theorem xf_46_16 : xcode 46 16 = some (.if_icmp .ge 42, 3, 58, 0) := rfl
theorem xf_46_19 : xcode 46 19 = some (.aload_n 1, 1, 0, 0) := rfl
theorem xf_46_20 : xcode 46 20 = some (.iload 4, 2, 0, 0) := rfl
theorem xf_46_22 : xcode 46 22 = some (.invokestatic 52, 3, 40, 0) := rfl
theorem xf_46_25 : xcode 46 25 = some (.ifCond .eq 27, 3, 52, 0) := rfl
theorem xf_46_28 : xcode 46 28 = some (.iload_n 3, 1, 0, 0) := rfl
theorem xf_46_29 : xcode 46 29 = some (.ifCond .lt 20, 3, 49, 0) := rfl
theorem xf_46_32 : xcode 46 32 = some (.aload_n 0, 1, 0, 0) := rfl
theorem xf_46_33 : xcode 46 33 = some (.getfield 18, 3, 5, 2) := rfl
theorem xf_46_36 : xcode 46 36 = some (.iload 4, 2, 0, 0) := rfl
theorem xf_46_38 : xcode 46 38 = some (.laload, 1, 0, 0) := rfl
theorem xf_46_39 : xcode 46 39 = some (.aload_n 0, 1, 0, 0) := rfl
theorem xf_46_40 : xcode 46 40 = some (.getfield 18, 3, 5, 2) := rfl
theorem xf_46_43 : xcode 46 43 = some (.iload_n 3, 1, 0, 0) := rfl
theorem xf_46_44 : xcode 46 44 = some (.laload, 1, 0, 0) := rfl
theorem xf_46_45 : xcode 46 45 = some (.lcmp, 1, 0, 0) := rfl
theorem xf_46_46 : xcode 46 46 = some (.ifCond .le 6, 3, 52, 0) := rfl
theorem xf_46_49 : xcode 46 49 = some (.iload 4, 2, 0, 0) := rfl
theorem xf_46_51 : xcode 46 51 = some (.istore_n 3, 1, 0, 0) := rfl
theorem xf_46_52 : xcode 46 52 = some (.iinc 4 1, 3, 0, 0) := rfl
theorem xf_46_55 : xcode 46 55 = some (.goto (-42), 3, 13, 0) := rfl
theorem xf_46_58 : xcode 46 58 = some (.iload_n 3, 1, 0, 0) := rfl
theorem xf_46_59 : xcode 46 59 = some (.iconst 0, 1, 0, 0) := rfl
theorem xf_46_60 : xcode 46 60 = some (.invokestatic 118, 3, 220, 0) := rfl
theorem xf_46_63 : xcode 46 63 = some (.ireturn, 1, 0, 0) := rfl
theorem xf_47_0 : xcode 47 0 = some (.aload_n 1, 1, 0, 0) := rfl
theorem xf_47_1 : xcode 47 1 = some (.getfield 25, 3, 6, 0) := rfl
theorem xf_47_4 : xcode 47 4 = some (.invokevirtual 31, 3, 15, 0) := rfl
theorem xf_47_7 : xcode 47 7 = some (.istore 4, 2, 0, 0) := rfl
theorem xf_47_9 : xcode 47 9 = some (.aload_n 0, 1, 0, 0) := rfl
theorem xf_47_10 : xcode 47 10 = some (.getfield 18, 3, 5, 2) := rfl
theorem xf_47_13 : xcode 47 13 = some (.iload_n 2, 1, 0, 0) := rfl
theorem xf_47_14 : xcode 47 14 = some (.bipush 36, 2, 0, 0) := rfl
theorem xf_47_16 : xcode 47 16 = some (.imul, 1, 0, 0) := rfl
theorem xf_47_17 : xcode 47 17 = some (.iload_n 3, 1, 0, 0) := rfl
theorem xf_47_18 : xcode 47 18 = some (.iadd, 1, 0, 0) := rfl
theorem xf_47_19 : xcode 47 19 = some (.laload, 1, 0, 0) := rfl
theorem xf_47_20 : xcode 47 20 = some (.lstore 5, 2, 0, 0) := rfl
theorem xf_47_22 : xcode 47 22 = some (.iconst 0, 1, 0, 0) := rfl
theorem xf_47_23 : xcode 47 23 = some (.istore 7, 2, 0, 0) := rfl
theorem xf_47_25 : xcode 47 25 = some (.iload 7, 2, 0, 0) := rfl
theorem xf_47_27 : xcode 47 27 = some (.iload 4, 2, 0, 0) := rfl
theorem xf_47_29 : xcode 47 29 = some (.if_icmp .ge 27, 3, 56, 0) := rfl
theorem xf_47_32 : xcode 47 32 = some (.aload_n 0, 1, 0, 0) := rfl
theorem xf_47_33 : xcode 47 33 = some (.aload_n 1, 1, 0, 0) := rfl
theorem xf_47_34 : xcode 47 34 = some (.iload_n 2, 1, 0, 0) := rfl
theorem xf_47_35 : xcode 47 35 = some (.iload_n 3, 1, 0, 0) := rfl
theorem xf_47_36 : xcode 47 36 = some (.iload 7, 2, 0, 0) := rfl
theorem xf_47_38 : xcode 47 38 = some (.invokevirtual 106, 3, 45, 0) := rfl
theorem xf_47_41 : xcode 47 41 = some (.lload 5, 2, 0, 0) := rfl
theorem xf_47_43 : xcode 47 43 = some (.lcmp, 1, 0, 0) := rfl
theorem xf_47_44 : xcode 47 44 = some (.ifCond .ne 6, 3, 50, 0) := rfl
theorem xf_47_47 : xcode 47 47 = some (.iload 7, 2, 0, 0) := rfl
theorem xf_47_49 : xcode 47 49 = some (.ireturn, 1, 0, 0) := rfl
theorem xf_47_50 : xcode 47 50 = some (.iinc 7 1, 3, 0, 0) := rfl
theorem xf_47_53 : xcode 47 53 = some (.goto (-28), 3, 25, 0) := rfl
theorem xf_47_56 : xcode 47 56 = some (.iload_n 3, 1, 0, 0) := rfl
theorem xf_47_57 : xcode 47 57 = some (.ireturn, 1, 0, 0) := rfl
theorem xf_48_0 : xcode 48 0 = some (.aload_n 0, 1, 0, 0) := rfl
theorem xf_48_1 : xcode 48 1 = some (.invokespecial 3, 3, 0, 2) := rfl
theorem xf_48_4 : xcode 48 4 = some (.aload_n 0, 1, 0, 0) := rfl
theorem xf_48_5 : xcode 48 5 = some (.new 9, 3, 2, 0) := rfl
theorem xf_48_8 : xcode 48 8 = some (.dup, 1, 0, 0) := rfl
theorem xf_48_9 : xcode 48 9 = some (.invokespecial 11, 3, 13, 0) := rfl
theorem xf_48_12 : xcode 48 12 = some (.putfield 12, 3, 6, 0) := rfl
theorem xf_48_15 : xcode 48 15 = some (.aload_n 0, 1, 0, 0) := rfl
theorem xf_48_16 : xcode 48 16 = some (.new 18, 3, 7, 0) := rfl
theorem xf_48_19 : xcode 48 19 = some (.dup, 1, 0, 0) := rfl
theorem xf_48_20 : xcode 48 20 = some (.invokespecial 20, 3, 51, 0) := rfl
theorem xf_48_23 : xcode 48 23 = some (.putfield 21, 3, 6, 1) := rfl
theorem xf_48_26 : xcode 48 26 = some (.aload_n 0, 1, 0, 0) := rfl
theorem xf_48_27 : xcode 48 27 = some (.new 25, 3, 8, 0) := rfl
theorem xf_48_30 : xcode 48 30 = some (.dup, 1, 0, 0) := rfl
theorem xf_48_31 : xcode 48 31 = some (.invokespecial 27, 3, 56, 1) := rfl
theorem xf_48_34 : xcode 48 34 = some (.putfield 28, 3, 6, 2) := rfl
theorem xf_48_37 : xcode 48 37 = some (.aload_n 0, 1, 0, 0) := rfl
theorem xf_48_38 : xcode 48 38 = some (.bipush 36, 2, 0, 0) := rfl
theorem xf_48_40 : xcode 48 40 = some (.newarray .int, 2, 100, 0) := rfl
theorem xf_48_42 : xcode 48 42 = some (.putfield 32, 3, 6, 3) := rfl
theorem xf_48_45 : xcode 48 45 = some (.aload_n 0, 1, 0, 0) := rfl
theorem xf_48_46 : xcode 48 46 = some (.iconst 0, 1, 0, 0) := rfl
theorem xf_48_47 : xcode 48 47 = some (.putfield 36, 3, 6, 4) := rfl
theorem xf_48_50 : xcode 48 50 = some (.aload_n 0, 1, 0, 0) := rfl
theorem xf_48_51 : xcode 48 51 = some (.iconst 1, 1, 0, 0) := rfl
theorem xf_48_52 : xcode 48 52 = some (.putfield 40, 3, 6, 5) := rfl
theorem xf_48_55 : xcode 48 55 = some (.aload_n 0, 1, 0, 0) := rfl
theorem xf_48_56 : xcode 48 56 = some (.iconst 0, 1, 0, 0) := rfl
theorem xf_48_57 : xcode 48 57 = some (.putfield 43, 3, 6, 6) := rfl
theorem xf_48_60 : xcode 48 60 = some (.aload_n 0, 1, 0, 0) := rfl
theorem xf_48_61 : xcode 48 61 = some (.iconst 0, 1, 0, 0) := rfl
theorem xf_48_62 : xcode 48 62 = some (.putfield 46, 3, 6, 7) := rfl
theorem xf_48_65 : xcode 48 65 = some (.return_, 1, 0, 0) := rfl
theorem xf_49_0 : xcode 49 0 = some (.aload_n 0, 1, 0, 0) := rfl
theorem xf_49_1 : xcode 49 1 = some (.getfield 12, 3, 6, 0) := rfl
theorem xf_49_4 : xcode 49 4 = some (.aload_n 1, 1, 0, 0) := rfl
theorem xf_49_5 : xcode 49 5 = some (.getfield 12, 3, 6, 0) := rfl
theorem xf_49_8 : xcode 49 8 = some (.invokevirtual 49, 3, 14, 0) := rfl
theorem xf_49_11 : xcode 49 11 = some (.aload_n 0, 1, 0, 0) := rfl
theorem xf_49_12 : xcode 49 12 = some (.getfield 21, 3, 6, 1) := rfl
theorem xf_49_15 : xcode 49 15 = some (.aload_n 1, 1, 0, 0) := rfl
theorem xf_49_16 : xcode 49 16 = some (.getfield 21, 3, 6, 1) := rfl
theorem xf_49_19 : xcode 49 19 = some (.invokevirtual 53, 3, 52, 0) := rfl
theorem xf_49_22 : xcode 49 22 = some (.aload_n 0, 1, 0, 0) := rfl
theorem xf_49_23 : xcode 49 23 = some (.getfield 28, 3, 6, 2) := rfl
theorem xf_49_26 : xcode 49 26 = some (.aload_n 1, 1, 0, 0) := rfl
theorem xf_49_27 : xcode 49 27 = some (.getfield 28, 3, 6, 2) := rfl
theorem xf_49_30 : xcode 49 30 = some (.invokevirtual 56, 3, 57, 0) := rfl
theorem xf_49_33 : xcode 49 33 = some (.aload_n 1, 1, 0, 0) := rfl
theorem xf_49_34 : xcode 49 34 = some (.getfield 32, 3, 6, 3) := rfl
theorem xf_49_37 : xcode 49 37 = some (.iconst 0, 1, 0, 0) := rfl
theorem xf_49_38 : xcode 49 38 = some (.aload_n 0, 1, 0, 0) := rfl
theorem xf_49_39 : xcode 49 39 = some (.getfield 32, 3, 6, 3) := rfl
theorem xf_49_42 : xcode 49 42 = some (.iconst 0, 1, 0, 0) := rfl
theorem xf_49_43 : xcode 49 43 = some (.bipush 36, 2, 0, 0) := rfl
theorem xf_49_45 : xcode 49 45 = some (.invokestatic 59, 3, 0, 1) := rfl
theorem xf_49_48 : xcode 49 48 = some (.aload_n 0, 1, 0, 0) := rfl
theorem xf_49_49 : xcode 49 49 = some (.aload_n 1, 1, 0, 0) := rfl
theorem xf_49_50 : xcode 49 50 = some (.getfield 36, 3, 6, 4) := rfl
theorem xf_49_53 : xcode 49 53 = some (.putfield 36, 3, 6, 4) := rfl
theorem xf_49_56 : xcode 49 56 = some (.aload_n 0, 1, 0, 0) := rfl
theorem xf_49_57 : xcode 49 57 = some (.aload_n 1, 1, 0, 0) := rfl
theorem xf_49_58 : xcode 49 58 = some (.getfield 40, 3, 6, 5) := rfl
theorem xf_49_61 : xcode 49 61 = some (.putfield 40, 3, 6, 5) := rfl
theorem xf_49_64 : xcode 49 64 = some (.aload_n 0, 1, 0, 0) := rfl
theorem xf_49_65 : xcode 49 65 = some (.aload_n 1, 1, 0, 0) := rfl
theorem xf_49_66 : xcode 49 66 = some (.getfield 43, 3, 6, 6) := rfl
theorem xf_49_69 : xcode 49 69 = some (.putfield 43, 3, 6, 6) := rfl
theorem xf_49_72 : xcode 49 72 = some (.aload_n 0, 1, 0, 0) := rfl
theorem xf_49_73 : xcode 49 73 = some (.aload_n 1, 1, 0, 0) := rfl
theorem xf_49_74 : xcode 49 74 = some (.getfield 46, 3, 6, 7) := rfl
theorem xf_49_77 : xcode 49 77 = some (.putfield 46, 3, 6, 7) := rfl
theorem xf_49_80 : xcode 49 80 = some (.return_, 1, 0, 0) := rfl
theorem xf_50_0 : xcode 50 0 = some (.aload_n 0, 1, 0, 0) := rfl
theorem xf_50_1 : xcode 50 1 = some (.getfield 12, 3, 6, 0) := rfl
theorem xf_50_4 : xcode 50 4 = some (.invokevirtual 65, 3, 15, 0) := rfl
theorem xf_50_7 : xcode 50 7 = some (.istore_n 1, 1, 0, 0) := rfl
theorem xf_50_8 : xcode 50 8 = some (.iconst 0, 1, 0, 0) := rfl
theorem xf_50_9 : xcode 50 9 = some (.istore_n 2, 1, 0, 0) := rfl
theorem xf_50_10 : xcode 50 10 = some (.iconst 0, 1, 0, 0) := rfl
theorem xf_50_11 : xcode 50 11 = some (.istore_n 3, 1, 0, 0) := rfl
theorem xf_50_12 : xcode 50 12 = some (.iload_n 3, 1, 0, 0) := rfl
theorem xf_50_13 : xcode 50 13 = some (.iload_n 1, 1, 0, 0) := rfl
theorem xf_50_14 : xcode 50 14 = some (.if_icmp .ge 20, 3, 34, 0) := rfl
theorem xf_50_17 : xcode 50 17 = some (.iload_n 2, 1, 0, 0) := rfl
theorem xf_50_18 : xcode 50 18 = some (.aload_n 0, 1, 0, 0) := rfl
theorem xf_50_19 : xcode 50 19 = some (.getfield 32, 3, 6, 3) := rfl
theorem xf_50_22 : xcode 50 22 = some (.iload_n 3, 1, 0, 0) := rfl
theorem xf_50_23 : xcode 50 23 = some (.iaload, 1, 0, 0) := rfl
theorem xf_50_24 : xcode 50 24 = some (.invokestatic 69, 3, 220, 0) := rfl
theorem xf_50_27 : xcode 50 27 = some (.istore_n 2, 1, 0, 0) := rfl
theorem xf_50_28 : xcode 50 28 = some (.iinc 3 1, 3, 0, 0) := rfl
theorem xf_50_31 : xcode 50 31 = some (.goto (-19), 3, 12, 0) := rfl
theorem xf_50_34 : xcode 50 34 = some (.iload_n 2, 1, 0, 0) := rfl
theorem xf_50_35 : xcode 50 35 = some (.ireturn, 1, 0, 0) := rfl
theorem xf_51_0 : xcode 51 0 = some (.aload_n 0, 1, 0, 0) := rfl
theorem xf_51_1 : xcode 51 1 = some (.invokespecial 3, 3, 0, 2) := rfl
theorem xf_51_4 : xcode 51 4 = some (.aload_n 0, 1, 0, 0) := rfl
theorem xf_51_5 : xcode 51 5 = some (.iconst 4, 1, 0, 0) := rfl
theorem xf_51_6 : xcode 51 6 = some (.newarray .int, 2, 100, 0) := rfl
theorem xf_51_8 : xcode 51 8 = some (.putfield 9, 3, 7, 0) := rfl
theorem xf_51_11 : xcode 51 11 = some (.aload_n 0, 1, 0, 0) := rfl
theorem xf_51_12 : xcode 51 12 = some (.bipush 16, 2, 0, 0) := rfl
theorem xf_51_14 : xcode 51 14 = some (.newarray .int, 2, 100, 0) := rfl
theorem xf_51_16 : xcode 51 16 = some (.putfield 15, 3, 7, 1) := rfl
theorem xf_51_19 : xcode 51 19 = some (.aload_n 0, 1, 0, 0) := rfl
theorem xf_51_20 : xcode 51 20 = some (.iconst 0, 1, 0, 0) := rfl
theorem xf_51_21 : xcode 51 21 = some (.putfield 18, 3, 7, 2) := rfl
theorem xf_51_24 : xcode 51 24 = some (.aload_n 0, 1, 0, 0) := rfl
theorem xf_51_25 : xcode 51 25 = some (.iconst 0, 1, 0, 0) := rfl
theorem xf_51_26 : xcode 51 26 = some (.putfield 22, 3, 7, 3) := rfl
theorem xf_51_29 : xcode 51 29 = some (.aload_n 0, 1, 0, 0) := rfl
theorem xf_51_30 : xcode 51 30 = some (.getfield 9, 3, 7, 0) := rfl
theorem xf_51_33 : xcode 51 33 = some (.iconst 0, 1, 0, 0) := rfl
theorem xf_51_34 : xcode 51 34 = some (.bipush 16, 2, 0, 0) := rfl
theorem xf_51_36 : xcode 51 36 = some (.iastore, 1, 0, 0) := rfl
theorem xf_51_37 : xcode 51 37 = some (.iconst 0, 1, 0, 0) := rfl
theorem xf_51_38 : xcode 51 38 = some (.istore_n 1, 1, 0, 0) := rfl
theorem xf_51_39 : xcode 51 39 = some (.iload_n 1, 1, 0, 0) := rfl
theorem xf_51_40 : xcode 51 40 = some (.iconst 4, 1, 0, 0) := rfl
theorem xf_51_41 : xcode 51 41 = some (.if_icmp .ge 21, 3, 62, 0) := rfl
theorem xf_51_44 : xcode 51 44 = some (.aload_n 0, 1, 0, 0) := rfl
theorem xf_51_45 : xcode 51 45 = some (.getfield 15, 3, 7, 1) := rfl
theorem xf_51_48 : xcode 51 48 = some (.iload_n 1, 1, 0, 0) := rfl
theorem xf_51_49 : xcode 51 49 = some (.iconst 4, 1, 0, 0) := rfl
theorem xf_51_50 : xcode 51 50 = some (.imul, 1, 0, 0) := rfl
theorem xf_51_51 : xcode 51 51 = some (.iload_n 1, 1, 0, 0) := rfl
theorem xf_51_52 : xcode 51 52 = some (.iadd, 1, 0, 0) := rfl
theorem xf_51_53 : xcode 51 53 = some (.bipush 100, 2, 0, 0) := rfl
theorem xf_51_55 : xcode 51 55 = some (.iastore, 1, 0, 0) := rfl
theorem xf_51_56 : xcode 51 56 = some (.iinc 1 1, 3, 0, 0) := rfl
theorem xf_51_59 : xcode 51 59 = some (.goto (-20), 3, 39, 0) := rfl
theorem xf_51_62 : xcode 51 62 = some (.return_, 1, 0, 0) := rfl
theorem xf_52_0 : xcode 52 0 = some (.aload_n 1, 1, 0, 0) := rfl
theorem xf_52_1 : xcode 52 1 = some (.getfield 9, 3, 7, 0) := rfl
theorem xf_52_4 : xcode 52 4 = some (.iconst 0, 1, 0, 0) := rfl
theorem xf_52_5 : xcode 52 5 = some (.aload_n 0, 1, 0, 0) := rfl
theorem xf_52_6 : xcode 52 6 = some (.getfield 9, 3, 7, 0) := rfl
theorem xf_52_9 : xcode 52 9 = some (.iconst 0, 1, 0, 0) := rfl
theorem xf_52_10 : xcode 52 10 = some (.iconst 4, 1, 0, 0) := rfl
theorem xf_52_11 : xcode 52 11 = some (.invokestatic 25, 3, 0, 1) := rfl
theorem xf_52_14 : xcode 52 14 = some (.aload_n 1, 1, 0, 0) := rfl
theorem xf_52_15 : xcode 52 15 = some (.getfield 15, 3, 7, 1) := rfl
theorem xf_52_18 : xcode 52 18 = some (.iconst 0, 1, 0, 0) := rfl
theorem xf_52_19 : xcode 52 19 = some (.aload_n 0, 1, 0, 0) := rfl
theorem xf_52_20 : xcode 52 20 = some (.getfield 15, 3, 7, 1) := rfl
theorem xf_52_23 : xcode 52 23 = some (.iconst 0, 1, 0, 0) := rfl
theorem xf_52_24 : xcode 52 24 = some (.bipush 16, 2, 0, 0) := rfl
theorem xf_52_26 : xcode 52 26 = some (.invokestatic 25, 3, 0, 1) := rfl
theorem xf_52_29 : xcode 52 29 = some (.aload_n 0, 1, 0, 0) := rfl
theorem xf_52_30 : xcode 52 30 = some (.aload_n 1, 1, 0, 0) := rfl
theorem xf_52_31 : xcode 52 31 = some (.getfield 18, 3, 7, 2) := rfl
theorem xf_52_34 : xcode 52 34 = some (.putfield 18, 3, 7, 2) := rfl
theorem xf_52_37 : xcode 52 37 = some (.aload_n 0, 1, 0, 0) := rfl
theorem xf_52_38 : xcode 52 38 = some (.aload_n 1, 1, 0, 0) := rfl
theorem xf_52_39 : xcode 52 39 = some (.getfield 22, 3, 7, 3) := rfl
theorem xf_52_42 : xcode 52 42 = some (.putfield 22, 3, 7, 3) := rfl
theorem xf_52_45 : xcode 52 45 = some (.return_, 1, 0, 0) := rfl
theorem xf_53_0 : xcode 53 0 = some (.iconst 0, 1, 0, 0) := rfl
theorem xf_53_1 : xcode 53 1 = some (.istore_n 2, 1, 0, 0) := rfl
theorem xf_53_2 : xcode 53 2 = some (.iconst 0, 1, 0, 0) := rfl
theorem xf_53_3 : xcode 53 3 = some (.istore_n 3, 1, 0, 0) := rfl
theorem xf_53_4 : xcode 53 4 = some (.iload_n 3, 1, 0, 0) := rfl
theorem xf_53_5 : xcode 53 5 = some (.iconst 3, 1, 0, 0) := rfl
theorem xf_53_6 : xcode 53 6 = some (.if_icmp .ge 25, 3, 31, 0) := rfl
theorem xf_53_9 : xcode 53 9 = some (.iload_n 2, 1, 0, 0) := rfl
theorem xf_53_10 : xcode 53 10 = some (.aload_n 0, 1, 0, 0) := rfl
theorem xf_53_11 : xcode 53 11 = some (.getfield 9, 3, 7, 0) := rfl
theorem xf_53_14 : xcode 53 14 = some (.iload_n 3, 1, 0, 0) := rfl
theorem xf_53_15 : xcode 53 15 = some (.iaload, 1, 0, 0) := rfl
theorem xf_53_16 : xcode 53 16 = some (.iadd, 1, 0, 0) := rfl
theorem xf_53_17 : xcode 53 17 = some (.istore_n 2, 1, 0, 0) := rfl
theorem xf_53_18 : xcode 53 18 = some (.iload_n 2, 1, 0, 0) := rfl
theorem xf_53_19 : xcode 53 19 = some (.iload_n 1, 1, 0, 0) := rfl
theorem xf_53_20 : xcode 53 20 = some (.if_icmp .le 5, 3, 25, 0) := rfl
theorem xf_53_23 : xcode 53 23 = some (.iload_n 3, 1, 0, 0) := rfl
theorem xf_53_24 : xcode 53 24 = some (.ireturn, 1, 0, 0) := rfl
theorem xf_53_25 : xcode 53 25 = some (.iinc 3 1, 3, 0, 0) := rfl
theorem xf_53_28 : xcode 53 28 = some (.goto (-24), 3, 4, 0) := rfl
theorem xf_53_31 : xcode 53 31 = some (.iconst 3, 1, 0, 0) := rfl
theorem xf_53_32 : xcode 53 32 = some (.ireturn, 1, 0, 0) := rfl
theorem xf_54_0 : xcode 54 0 = some (.iconst 0, 1, 0, 0) := rfl
theorem xf_54_1 : xcode 54 1 = some (.istore_n 2, 1, 0, 0) := rfl
theorem xf_54_2 : xcode 54 2 = some (.iconst 0, 1, 0, 0) := rfl
theorem xf_54_3 : xcode 54 3 = some (.istore_n 3, 1, 0, 0) := rfl
theorem xf_54_4 : xcode 54 4 = some (.iload_n 3, 1, 0, 0) := rfl
theorem xf_54_5 : xcode 54 5 = some (.iconst 4, 1, 0, 0) := rfl
theorem xf_54_6 : xcode 54 6 = some (.if_icmp .ge 22, 3, 28, 0) := rfl
theorem xf_54_9 : xcode 54 9 = some (.iload_n 2, 1, 0, 0) := rfl
theorem xf_54_10 : xcode 54 10 = some (.aload_n 0, 1, 0, 0) := rfl
theorem xf_54_11 : xcode 54 11 = some (.getfield 15, 3, 7, 1) := rfl
theorem xf_54_14 : xcode 54 14 = some (.iload_n 1, 1, 0, 0) := rfl
theorem xf_54_15 : xcode 54 15 = some (.iconst 4, 1, 0, 0) := rfl
theorem xf_54_16 : xcode 54 16 = some (.imul, 1, 0, 0) := rfl
theorem xf_54_17 : xcode 54 17 = some (.iload_n 3, 1, 0, 0) := rfl
theorem xf_54_18 : xcode 54 18 = some (.iadd, 1, 0, 0) := rfl
theorem xf_54_19 : xcode 54 19 = some (.iaload, 1, 0, 0) := rfl
theorem xf_54_20 : xcode 54 20 = some (.iadd, 1, 0, 0) := rfl
theorem xf_54_21 : xcode 54 21 = some (.istore_n 2, 1, 0, 0) := rfl
theorem xf_54_22 : xcode 54 22 = some (.iinc 3 1, 3, 0, 0) := rfl
theorem xf_54_25 : xcode 54 25 = some (.goto (-21), 3, 4, 0) := rfl
theorem xf_54_28 : xcode 54 28 = some (.iload_n 2, 1, 0, 0) := rfl
theorem xf_54_29 : xcode 54 29 = some (.ireturn, 1, 0, 0) := rfl
theorem xf_55_0 : xcode 55 0 = some (.iconst 0, 1, 0, 0) := rfl
theorem xf_55_1 : xcode 55 1 = some (.istore_n 3, 1, 0, 0) := rfl
theorem xf_55_2 : xcode 55 2 = some (.iconst 0, 1, 0, 0) := rfl
theorem xf_55_3 : xcode 55 3 = some (.istore 4, 2, 0, 0) := rfl
theorem xf_55_5 : xcode 55 5 = some (.iload 4, 2, 0, 0) := rfl
theorem xf_55_7 : xcode 55 7 = some (.iconst 4, 1, 0, 0) := rfl
theorem xf_55_8 : xcode 55 8 = some (.if_icmp .ge 31, 3, 39, 0) := rfl
theorem xf_55_11 : xcode 55 11 = some (.iload_n 3, 1, 0, 0) := rfl
theorem xf_55_12 : xcode 55 12 = some (.aload_n 0, 1, 0, 0) := rfl
theorem xf_55_13 : xcode 55 13 = some (.getfield 15, 3, 7, 1) := rfl
theorem xf_55_16 : xcode 55 16 = some (.iload_n 1, 1, 0, 0) := rfl
theorem xf_55_17 : xcode 55 17 = some (.iconst 4, 1, 0, 0) := rfl
theorem xf_55_18 : xcode 55 18 = some (.imul, 1, 0, 0) := rfl
theorem xf_55_19 : xcode 55 19 = some (.iload 4, 2, 0, 0) := rfl
theorem xf_55_21 : xcode 55 21 = some (.iadd, 1, 0, 0) := rfl
theorem xf_55_22 : xcode 55 22 = some (.iaload, 1, 0, 0) := rfl
theorem xf_55_23 : xcode 55 23 = some (.iadd, 1, 0, 0) := rfl
theorem xf_55_24 : xcode 55 24 = some (.istore_n 3, 1, 0, 0) := rfl
theorem xf_55_25 : xcode 55 25 = some (.iload_n 3, 1, 0, 0) := rfl
theorem xf_55_26 : xcode 55 26 = some (.iload_n 2, 1, 0, 0) := rfl
theorem xf_55_27 : xcode 55 27 = some (.if_icmp .le 6, 3, 33, 0) := rfl
theorem xf_55_30 : xcode 55 30 = some (.iload 4, 2, 0, 0) := rfl
theorem xf_55_32 : xcode 55 32 = some (.ireturn, 1, 0, 0) := rfl
theorem xf_55_33 : xcode 55 33 = some (.iinc 4 1, 3, 0, 0) := rfl
theorem xf_55_36 : xcode 55 36 = some (.goto (-31), 3, 5, 0) := rfl
theorem xf_55_39 : xcode 55 39 = some (.iload_n 1, 1, 0, 0) := rfl
theorem xf_55_40 : xcode 55 40 = some (.ireturn, 1, 0, 0) := rfl
theorem xf_56_0 : xcode 56 0 = some (.aload_n 0, 1, 0, 0) := rfl
theorem xf_56_1 : xcode 56 1 = some (.invokespecial 3, 3, 0, 2) := rfl
theorem xf_56_4 : xcode 56 4 = some (.aload_n 0, 1, 0, 0) := rfl
theorem xf_56_5 : xcode 56 5 = some (.iconst (-1), 1, 0, 0) := rfl
theorem xf_56_6 : xcode 56 6 = some (.putfield 9, 3, 8, 0) := rfl
theorem xf_56_9 : xcode 56 9 = some (.aload_n 0, 1, 0, 0) := rfl
theorem xf_56_10 : xcode 56 10 = some (.iconst 0, 1, 0, 0) := rfl
theorem xf_56_11 : xcode 56 11 = some (.putfield 15, 3, 8, 1) := rfl
theorem xf_56_14 : xcode 56 14 = some (.aload_n 0, 1, 0, 0) := rfl
theorem xf_56_15 : xcode 56 15 = some (.iconst 0, 1, 0, 0) := rfl
theorem xf_56_16 : xcode 56 16 = some (.putfield 18, 3, 8, 2) := rfl
theorem xf_56_19 : xcode 56 19 = some (.aload_n 0, 1, 0, 0) := rfl
theorem xf_56_20 : xcode 56 20 = some (.bipush 8, 2, 0, 0) := rfl
theorem xf_56_22 : xcode 56 22 = some (.newarray .int, 2, 100, 0) := rfl
theorem xf_56_24 : xcode 56 24 = some (.putfield 21, 3, 8, 3) := rfl
theorem xf_56_27 : xcode 56 27 = some (.aload_n 0, 1, 0, 0) := rfl
theorem xf_56_28 : xcode 56 28 = some (.sipush 288, 3, 0, 0) := rfl
theorem xf_56_31 : xcode 56 31 = some (.newarray .int, 2, 100, 0) := rfl
theorem xf_56_33 : xcode 56 33 = some (.putfield 25, 3, 8, 4) := rfl
theorem xf_56_36 : xcode 56 36 = some (.return_, 1, 0, 0) := rfl
theorem xf_57_0 : xcode 57 0 = some (.aload_n 0, 1, 0, 0) := rfl
theorem xf_57_1 : xcode 57 1 = some (.aload_n 1, 1, 0, 0) := rfl
theorem xf_57_2 : xcode 57 2 = some (.getfield 9, 3, 8, 0) := rfl
theorem xf_57_5 : xcode 57 5 = some (.putfield 9, 3, 8, 0) := rfl
theorem xf_57_8 : xcode 57 8 = some (.aload_n 0, 1, 0, 0) := rfl
theorem xf_57_9 : xcode 57 9 = some (.aload_n 1, 1, 0, 0) := rfl
theorem xf_57_10 : xcode 57 10 = some (.getfield 15, 3, 8, 1) := rfl
theorem xf_57_13 : xcode 57 13 = some (.putfield 15, 3, 8, 1) := rfl
theorem xf_57_16 : xcode 57 16 = some (.aload_n 0, 1, 0, 0) := rfl
theorem xf_57_17 : xcode 57 17 = some (.aload_n 1, 1, 0, 0) := rfl
theorem xf_57_18 : xcode 57 18 = some (.getfield 18, 3, 8, 2) := rfl
theorem xf_57_21 : xcode 57 21 = some (.putfield 18, 3, 8, 2) := rfl
theorem xf_57_24 : xcode 57 24 = some (.aload_n 1, 1, 0, 0) := rfl
theorem xf_57_25 : xcode 57 25 = some (.getfield 21, 3, 8, 3) := rfl
theorem xf_57_28 : xcode 57 28 = some (.iconst 0, 1, 0, 0) := rfl
theorem xf_57_29 : xcode 57 29 = some (.aload_n 0, 1, 0, 0) := rfl
theorem xf_57_30 : xcode 57 30 = some (.getfield 21, 3, 8, 3) := rfl
theorem xf_57_33 : xcode 57 33 = some (.iconst 0, 1, 0, 0) := rfl
theorem xf_57_34 : xcode 57 34 = some (.bipush 8, 2, 0, 0) := rfl
theorem xf_57_36 : xcode 57 36 = some (.invokestatic 28, 3, 0, 1) := rfl
theorem xf_57_39 : xcode 57 39 = some (.aload_n 1, 1, 0, 0) := rfl
theorem xf_57_40 : xcode 57 40 = some (.getfield 25, 3, 8, 4) := rfl
theorem xf_57_43 : xcode 57 43 = some (.iconst 0, 1, 0, 0) := rfl
theorem xf_57_44 : xcode 57 44 = some (.aload_n 0, 1, 0, 0) := rfl
theorem xf_57_45 : xcode 57 45 = some (.getfield 25, 3, 8, 4) := rfl
theorem xf_57_48 : xcode 57 48 = some (.iconst 0, 1, 0, 0) := rfl
theorem xf_57_49 : xcode 57 49 = some (.sipush 288, 3, 0, 0) := rfl
theorem xf_57_52 : xcode 57 52 = some (.invokestatic 28, 3, 0, 1) := rfl
theorem xf_57_55 : xcode 57 55 = some (.return_, 1, 0, 0) := rfl
theorem xf_58_0 : xcode 58 0 = some (.aload_n 0, 1, 0, 0) := rfl
theorem xf_58_1 : xcode 58 1 = some (.getfield 15, 3, 8, 1) := rfl
theorem xf_58_4 : xcode 58 4 = some (.aload_n 0, 1, 0, 0) := rfl
theorem xf_58_5 : xcode 58 5 = some (.getfield 18, 3, 8, 2) := rfl
theorem xf_58_8 : xcode 58 8 = some (.iadd, 1, 0, 0) := rfl
theorem xf_58_9 : xcode 58 9 = some (.ireturn, 1, 0, 0) := rfl
theorem xf_59_0 : xcode 59 0 = some (.aload_n 0, 1, 0, 0) := rfl
theorem xf_59_1 : xcode 59 1 = some (.iload_n 1, 1, 0, 0) := rfl
theorem xf_59_2 : xcode 59 2 = some (.putfield 9, 3, 8, 0) := rfl
theorem xf_59_5 : xcode 59 5 = some (.aload_n 0, 1, 0, 0) := rfl
theorem xf_59_6 : xcode 59 6 = some (.iconst 0, 1, 0, 0) := rfl
theorem xf_59_7 : xcode 59 7 = some (.putfield 15, 3, 8, 1) := rfl
theorem xf_59_10 : xcode 59 10 = some (.aload_n 0, 1, 0, 0) := rfl
theorem xf_59_11 : xcode 59 11 = some (.iconst 0, 1, 0, 0) := rfl
theorem xf_59_12 : xcode 59 12 = some (.putfield 18, 3, 8, 2) := rfl
theorem xf_59_15 : xcode 59 15 = some (.return_, 1, 0, 0) := rfl
theorem xf_60_0 : xcode 60 0 = some (.aload_n 0, 1, 0, 0) := rfl
theorem xf_60_1 : xcode 60 1 = some (.invokevirtual 34, 3, 58, 0) := rfl
theorem xf_60_4 : xcode 60 4 = some (.istore_n 3, 1, 0, 0) := rfl
theorem xf_60_5 : xcode 60 5 = some (.iload_n 3, 1, 0, 0) := rfl
theorem xf_60_6 : xcode 60 6 = some (.bipush 8, 2, 0, 0) := rfl
theorem xf_60_8 : xcode 60 8 = some (.if_icmp .ge 27, 3, 35, 0) := rfl
theorem xf_60_11 : xcode 60 11 = some (.aload_n 0, 1, 0, 0) := rfl
theorem xf_60_12 : xcode 60 12 = some (.getfield 21, 3, 8, 3) := rfl
theorem xf_60_15 : xcode 60 15 = some (.iload_n 3, 1, 0, 0) := rfl
theorem xf_60_16 : xcode 60 16 = some (.iload_n 1, 1, 0, 0) := rfl
theorem xf_60_17 : xcode 60 17 = some (.iastore, 1, 0, 0) := rfl
theorem xf_60_18 : xcode 60 18 = some (.aload_n 2, 1, 0, 0) := rfl
theorem xf_60_19 : xcode 60 19 = some (.getfield 38, 3, 7, 0) := rfl
theorem xf_60_22 : xcode 60 22 = some (.iconst 0, 1, 0, 0) := rfl
theorem xf_60_23 : xcode 60 23 = some (.aload_n 0, 1, 0, 0) := rfl
theorem xf_60_24 : xcode 60 24 = some (.getfield 25, 3, 8, 4) := rfl
theorem xf_60_27 : xcode 60 27 = some (.iload_n 3, 1, 0, 0) := rfl
theorem xf_60_28 : xcode 60 28 = some (.bipush 36, 2, 0, 0) := rfl
theorem xf_60_30 : xcode 60 30 = some (.imul, 1, 0, 0) := rfl
theorem xf_60_31 : xcode 60 31 = some (.iconst 4, 1, 0, 0) := rfl
theorem xf_60_32 : xcode 60 32 = some (.invokestatic 28, 3, 0, 1) := rfl
theorem xf_60_35 : xcode 60 35 = some (.aload_n 0, 1, 0, 0) := rfl
theorem xf_60_36 : xcode 60 36 = some (.dup, 1, 0, 0) := rfl
theorem xf_60_37 : xcode 60 37 = some (.getfield 15, 3, 8, 1) := rfl
theorem xf_60_40 : xcode 60 40 = some (.iconst 1, 1, 0, 0) := rfl
theorem xf_60_41 : xcode 60 41 = some (.iadd, 1, 0, 0) := rfl
theorem xf_60_42 : xcode 60 42 = some (.putfield 15, 3, 8, 1) := rfl
theorem xf_60_45 : xcode 60 45 = some (.return_, 1, 0, 0) := rfl
theorem xf_61_0 : xcode 61 0 = some (.aload_n 0, 1, 0, 0) := rfl
theorem xf_61_1 : xcode 61 1 = some (.invokevirtual 34, 3, 58, 0) := rfl
theorem xf_61_4 : xcode 61 4 = some (.istore 4, 2, 0, 0) := rfl
theorem xf_61_6 : xcode 61 6 = some (.iload 4, 2, 0, 0) := rfl
theorem xf_61_8 : xcode 61 8 = some (.bipush 8, 2, 0, 0) := rfl
theorem xf_61_10 : xcode 61 10 = some (.if_icmp .ge 64, 3, 74, 0) := rfl
theorem xf_61_13 : xcode 61 13 = some (.aload_n 0, 1, 0, 0) := rfl
theorem xf_61_14 : xcode 61 14 = some (.getfield 21, 3, 8, 3) := rfl
theorem xf_61_17 : xcode 61 17 = some (.iload 4, 2, 0, 0) := rfl
theorem xf_61_19 : xcode 61 19 = some (.bipush 10, 2, 0, 0) := rfl
theorem xf_61_21 : xcode 61 21 = some (.iload_n 1, 1, 0, 0) := rfl
theorem xf_61_22 : xcode 61 22 = some (.iadd, 1, 0, 0) := rfl
theorem xf_61_23 : xcode 61 23 = some (.iastore, 1, 0, 0) := rfl
theorem xf_61_24 : xcode 61 24 = some (.aload_n 2, 1, 0, 0) := rfl
theorem xf_61_25 : xcode 61 25 = some (.invokevirtual 43, 3, 15, 0) := rfl
theorem xf_61_28 : xcode 61 28 = some (.istore 5, 2, 0, 0) := rfl
theorem xf_61_30 : xcode 61 30 = some (.iconst 0, 1, 0, 0) := rfl
theorem xf_61_31 : xcode 61 31 = some (.istore 6, 2, 0, 0) := rfl
theorem xf_61_33 : xcode 61 33 = some (.iload 6, 2, 0, 0) := rfl
theorem xf_61_35 : xcode 61 35 = some (.iload 5, 2, 0, 0) := rfl
theorem xf_61_37 : xcode 61 37 = some (.if_icmp .ge 37, 3, 74, 0) := rfl
theorem xf_61_40 : xcode 61 40 = some (.aload_n 0, 1, 0, 0) := rfl
theorem xf_61_41 : xcode 61 41 = some (.getfield 25, 3, 8, 4) := rfl
theorem xf_61_44 : xcode 61 44 = some (.iload 4, 2, 0, 0) := rfl
theorem xf_61_46 : xcode 61 46 = some (.bipush 36, 2, 0, 0) := rfl
theorem xf_61_48 : xcode 61 48 = some (.imul, 1, 0, 0) := rfl
theorem xf_61_49 : xcode 61 49 = some (.iload 6, 2, 0, 0) := rfl
theorem xf_61_51 : xcode 61 51 = some (.iadd, 1, 0, 0) := rfl
theorem xf_61_52 : xcode 61 52 = some (.aload_n 3, 1, 0, 0) := rfl
theorem xf_61_53 : xcode 61 53 = some (.getfield 48, 3, 7, 1) := rfl
theorem xf_61_56 : xcode 61 56 = some (.aload_n 2, 1, 0, 0) := rfl
theorem xf_61_57 : xcode 61 57 = some (.iload 6, 2, 0, 0) := rfl
theorem xf_61_59 : xcode 61 59 = some (.invokevirtual 51, 3, 18, 0) := rfl
theorem xf_61_62 : xcode 61 62 = some (.iconst 4, 1, 0, 0) := rfl
theorem xf_61_63 : xcode 61 63 = some (.imul, 1, 0, 0) := rfl
theorem xf_61_64 : xcode 61 64 = some (.iload_n 1, 1, 0, 0) := rfl
theorem xf_61_65 : xcode 61 65 = some (.iadd, 1, 0, 0) := rfl
theorem xf_61_66 : xcode 61 66 = some (.iaload, 1, 0, 0) := rfl
theorem xf_61_67 : xcode 61 67 = some (.iastore, 1, 0, 0) := rfl
theorem xf_61_68 : xcode 61 68 = some (.iinc 6 1, 3, 0, 0) := rfl
theorem xf_61_71 : xcode 61 71 = some (.goto (-38), 3, 33, 0) := rfl
theorem xf_61_74 : xcode 61 74 = some (.aload_n 0, 1, 0, 0) := rfl
theorem xf_61_75 : xcode 61 75 = some (.dup, 1, 0, 0) := rfl
theorem xf_61_76 : xcode 61 76 = some (.getfield 18, 3, 8, 2) := rfl
theorem xf_61_79 : xcode 61 79 = some (.iconst 1, 1, 0, 0) := rfl
theorem xf_61_80 : xcode 61 80 = some (.iadd, 1, 0, 0) := rfl
theorem xf_61_81 : xcode 61 81 = some (.putfield 18, 3, 8, 2) := rfl
theorem xf_61_84 : xcode 61 84 = some (.return_, 1, 0, 0) := rfl
theorem xf_62_0 : xcode 62 0 = some (.aload_n 0, 1, 0, 0) := rfl
theorem xf_62_1 : xcode 62 1 = some (.getfield 21, 3, 8, 3) := rfl
theorem xf_62_4 : xcode 62 4 = some (.iload_n 1, 1, 0, 0) := rfl
theorem xf_62_5 : xcode 62 5 = some (.iaload, 1, 0, 0) := rfl
theorem xf_62_6 : xcode 62 6 = some (.bipush 10, 2, 0, 0) := rfl
theorem xf_62_8 : xcode 62 8 = some (.if_icmp .ge 7, 3, 15, 0) := rfl
theorem xf_62_11 : xcode 62 11 = some (.iconst 1, 1, 0, 0) := rfl
theorem xf_62_12 : xcode 62 12 = some (.goto 4, 3, 16, 0) := rfl
theorem xf_62_15 : xcode 62 15 = some (.iconst 0, 1, 0, 0) := rfl
theorem xf_62_16 : xcode 62 16 = some (.ireturn, 1, 0, 0) := rfl
theorem xf_63_0 : xcode 63 0 = some (.aload_n 0, 1, 0, 0) := rfl
theorem xf_63_1 : xcode 63 1 = some (.getfield 25, 3, 8, 4) := rfl
theorem xf_63_4 : xcode 63 4 = some (.iload_n 1, 1, 0, 0) := rfl
theorem xf_63_5 : xcode 63 5 = some (.bipush 36, 2, 0, 0) := rfl
theorem xf_63_7 : xcode 63 7 = some (.imul, 1, 0, 0) := rfl
theorem xf_63_8 : xcode 63 8 = some (.iload_n 2, 1, 0, 0) := rfl
theorem xf_63_9 : xcode 63 9 = some (.iadd, 1, 0, 0) := rfl
theorem xf_63_10 : xcode 63 10 = some (.iaload, 1, 0, 0) := rfl
theorem xf_63_11 : xcode 63 11 = some (.ireturn, 1, 0, 0) := rfl
theorem xf_64_0 : xcode 64 0 = some (.aload_n 0, 1, 0, 0) := rfl
theorem xf_64_1 : xcode 64 1 = some (.iload_n 2, 1, 0, 0) := rfl
theorem xf_64_2 : xcode 64 2 = some (.invokevirtual 55, 3, 62, 0) := rfl
theorem xf_64_5 : xcode 64 5 = some (.ifCond .ne 21, 3, 26, 0) := rfl
theorem xf_64_8 : xcode 64 8 = some (.iload_n 3, 1, 0, 0) := rfl
theorem xf_64_9 : xcode 64 9 = some (.iload 4, 2, 0, 0) := rfl
theorem xf_64_11 : xcode 64 11 = some (.if_icmp .ne 13, 3, 24, 0) := rfl
theorem xf_64_14 : xcode 64 14 = some (.aload_n 0, 1, 0, 0) := rfl
theorem xf_64_15 : xcode 64 15 = some (.iload_n 2, 1, 0, 0) := rfl
theorem xf_64_16 : xcode 64 16 = some (.iload_n 3, 1, 0, 0) := rfl
theorem xf_64_17 : xcode 64 17 = some (.invokevirtual 59, 3, 63, 0) := rfl
theorem xf_64_20 : xcode 64 20 = some (.i2l, 1, 0, 0) := rfl
theorem xf_64_21 : xcode 64 21 = some (.goto 4, 3, 25, 0) := rfl
theorem xf_64_24 : xcode 64 24 = some (.lconst 0, 1, 0, 0) := rfl
theorem xf_64_25 : xcode 64 25 = some (.lreturn, 1, 0, 0) := rfl
theorem xf_64_26 : xcode 64 26 = some (.lconst 0, 1, 0, 0) := rfl
theorem xf_64_27 : xcode 64 27 = some (.lstore 5, 2, 0, 0) := rfl
theorem xf_64_29 : xcode 64 29 = some (.iconst 0, 1, 0, 0) := rfl
theorem xf_64_30 : xcode 64 30 = some (.istore 7, 2, 0, 0) := rfl
theorem xf_64_32 : xcode 64 32 = some (.iload 7, 2, 0, 0) := rfl
theorem xf_64_34 : xcode 64 34 = some (.iconst 4, 1, 0, 0) := rfl
theorem xf_64_35 : xcode 64 35 = some (.if_icmp .ge 40, 3, 75, 0) := rfl
theorem xf_64_38 : xcode 64 38 = some (.aload_n 1, 1, 0, 0) := rfl
theorem xf_64_39 : xcode 64 39 = some (.iload_n 3, 1, 0, 0) := rfl
theorem xf_64_40 : xcode 64 40 = some (.aload_n 0, 1, 0, 0) := rfl
theorem xf_64_41 : xcode 64 41 = some (.getfield 21, 3, 8, 3) := rfl
theorem xf_64_44 : xcode 64 44 = some (.iload_n 2, 1, 0, 0) := rfl
theorem xf_64_45 : xcode 64 45 = some (.iaload, 1, 0, 0) := rfl
theorem xf_64_46 : xcode 64 46 = some (.iload 7, 2, 0, 0) := rfl
theorem xf_64_48 : xcode 64 48 = some (.invokevirtual 63, 3, 25, 0) := rfl
theorem xf_64_51 : xcode 64 51 = some (.iload 4, 2, 0, 0) := rfl
theorem xf_64_53 : xcode 64 53 = some (.if_icmp .ne 16, 3, 69, 0) := rfl
theorem xf_64_56 : xcode 64 56 = some (.lload 5, 2, 0, 0) := rfl
theorem xf_64_58 : xcode 64 58 = some (.aload_n 0, 1, 0, 0) := rfl
theorem xf_64_59 : xcode 64 59 = some (.iload_n 2, 1, 0, 0) := rfl
theorem xf_64_60 : xcode 64 60 = some (.iload 7, 2, 0, 0) := rfl
theorem xf_64_62 : xcode 64 62 = some (.invokevirtual 59, 3, 63, 0) := rfl
theorem xf_64_65 : xcode 64 65 = some (.i2l, 1, 0, 0) := rfl
theorem xf_64_66 : xcode 64 66 = some (.ladd, 1, 0, 0) := rfl
theorem xf_64_67 : xcode 64 67 = some (.lstore 5, 2, 0, 0) := rfl
theorem xf_64_69 : xcode 64 69 = some (.iinc 7 1, 3, 0, 0) := rfl
theorem xf_64_72 : xcode 64 72 = some (.goto (-40), 3, 32, 0) := rfl
theorem xf_64_75 : xcode 64 75 = some (.lload 5, 2, 0, 0) := rfl
theorem xf_64_77 : xcode 64 77 = some (.lreturn, 1, 0, 0) := rfl
theorem xf_65_0 : xcode 65 0 = some (.aload_n 0, 1, 0, 0) := rfl
theorem xf_65_1 : xcode 65 1 = some (.invokespecial 3, 3, 0, 2) := rfl
theorem xf_65_4 : xcode 65 4 = some (.aload_n 0, 1, 0, 0) := rfl
theorem xf_65_5 : xcode 65 5 = some (.bipush 36, 2, 0, 0) := rfl
theorem xf_65_7 : xcode 65 7 = some (.newarray .int, 2, 100, 0) := rfl
theorem xf_65_9 : xcode 65 9 = some (.putfield 9, 3, 9, 0) := rfl
theorem xf_65_12 : xcode 65 12 = some (.return_, 1, 0, 0) := rfl
theorem xf_66_0 : xcode 66 0 = some (.aload_n 1, 1, 0, 0) := rfl
theorem xf_66_1 : xcode 66 1 = some (.invokevirtual 15, 3, 15, 0) := rfl
theorem xf_66_4 : xcode 66 4 = some (.istore_n 3, 1, 0, 0) := rfl
theorem xf_66_5 : xcode 66 5 = some (.iconst 0, 1, 0, 0) := rfl
theorem xf_66_6 : xcode 66 6 = some (.istore 4, 2, 0, 0) := rfl
theorem xf_66_8 : xcode 66 8 = some (.iload 4, 2, 0, 0) := rfl
theorem xf_66_10 : xcode 66 10 = some (.iload_n 3, 1, 0, 0) := rfl
theorem xf_66_11 : xcode 66 11 = some (.if_icmp .ge 28, 3, 39, 0) := rfl
theorem xf_66_14 : xcode 66 14 = some (.aload_n 0, 1, 0, 0) := rfl
theorem xf_66_15 : xcode 66 15 = some (.getfield 9, 3, 9, 0) := rfl
theorem xf_66_18 : xcode 66 18 = some (.iload 4, 2, 0, 0) := rfl
theorem xf_66_20 : xcode 66 20 = some (.iload 4, 2, 0, 0) := rfl
theorem xf_66_22 : xcode 66 22 = some (.iload_n 2, 1, 0, 0) := rfl
theorem xf_66_23 : xcode 66 23 = some (.if_icmp .ne 7, 3, 30, 0) := rfl
theorem xf_66_26 : xcode 66 26 = some (.iconst 0, 1, 0, 0) := rfl
theorem xf_66_27 : xcode 66 27 = some (.goto 5, 3, 32, 0) := rfl
theorem xf_66_30 : xcode 66 30 = some (.ldc 21, 2, 3, 0) := rfl
theorem xf_66_32 : xcode 66 32 = some (.iastore, 1, 0, 0) := rfl
theorem xf_66_33 : xcode 66 33 = some (.iinc 4 1, 3, 0, 0) := rfl
theorem xf_66_36 : xcode 66 36 = some (.goto (-28), 3, 8, 0) := rfl
theorem xf_66_39 : xcode 66 39 = some (.iconst 1, 1, 0, 0) := rfl
theorem xf_66_40 : xcode 66 40 = some (.istore 4, 2, 0, 0) := rfl
theorem xf_66_42 : xcode 66 42 = some (.iconst 0, 1, 0, 0) := rfl
theorem xf_66_43 : xcode 66 43 = some (.istore 5, 2, 0, 0) := rfl
theorem xf_66_45 : xcode 66 45 = some (.iload 4, 2, 0, 0) := rfl
theorem xf_66_47 : xcode 66 47 = some (.ifCond .eq 55, 3, 102, 0) := rfl
theorem xf_66_50 : xcode 66 50 = some (.iload 5, 2, 0, 0) := rfl
theorem xf_66_52 : xcode 66 52 = some (.iload_n 3, 1, 0, 0) := rfl
theorem xf_66_53 : xcode 66 53 = some (.if_icmp .ge 49, 3, 102, 0) := rfl
theorem xf_66_56 : xcode 66 56 = some (.iconst 0, 1, 0, 0) := rfl
theorem xf_66_57 : xcode 66 57 = some (.istore 4, 2, 0, 0) := rfl
theorem xf_66_59 : xcode 66 59 = some (.iconst 0, 1, 0, 0) := rfl
theorem xf_66_60 : xcode 66 60 = some (.istore 6, 2, 0, 0) := rfl
theorem xf_66_62 : xcode 66 62 = some (.iload 6, 2, 0, 0) := rfl
theorem xf_66_64 : xcode 66 64 = some (.iload_n 3, 1, 0, 0) := rfl
theorem xf_66_65 : xcode 66 65 = some (.if_icmp .ge 31, 3, 96, 0) := rfl
theorem xf_66_68 : xcode 66 68 = some (.aload_n 1, 1, 0, 0) := rfl
theorem xf_66_69 : xcode 66 69 = some (.iload 6, 2, 0, 0) := rfl
theorem xf_66_71 : xcode 66 71 = some (.invokevirtual 22, 3, 17, 0) := rfl
theorem xf_66_74 : xcode 66 74 = some (.ifCond .eq 16, 3, 90, 0) := rfl
theorem xf_66_77 : xcode 66 77 = some (.aload_n 0, 1, 0, 0) := rfl
theorem xf_66_78 : xcode 66 78 = some (.aload_n 1, 1, 0, 0) := rfl
theorem xf_66_79 : xcode 66 79 = some (.iload 6, 2, 0, 0) := rfl
theorem xf_66_81 : xcode 66 81 = some (.invokevirtual 26, 3, 67, 0) := rfl
theorem xf_66_84 : xcode 66 84 = some (.ifCond .eq 6, 3, 90, 0) := rfl
theorem xf_66_87 : xcode 66 87 = some (.iconst 1, 1, 0, 0) := rfl
theorem xf_66_88 : xcode 66 88 = some (.istore 4, 2, 0, 0) := rfl
theorem xf_66_90 : xcode 66 90 = some (.iinc 6 1, 3, 0, 0) := rfl
theorem xf_66_93 : xcode 66 93 = some (.goto (-31), 3, 62, 0) := rfl
theorem xf_66_96 : xcode 66 96 = some (.iinc 5 1, 3, 0, 0) := rfl
theorem xf_66_99 : xcode 66 99 = some (.goto (-54), 3, 45, 0) := rfl
theorem xf_66_102 : xcode 66 102 = some (.return_, 1, 0, 0) := rfl
theorem xf_67_0 : xcode 67 0 = some (.iconst 0, 1, 0, 0) := rfl
theorem xf_67_1 : xcode 67 1 = some (.istore_n 3, 1, 0, 0) := rfl
theorem xf_67_2 : xcode 67 2 = some (.iconst 0, 1, 0, 0) := rfl
theorem xf_67_3 : xcode 67 3 = some (.istore 4, 2, 0, 0) := rfl
theorem xf_67_5 : xcode 67 5 = some (.iload 4, 2, 0, 0) := rfl
theorem xf_67_7 : xcode 67 7 = some (.iconst 4, 1, 0, 0) := rfl
theorem xf_67_8 : xcode 67 8 = some (.if_icmp .ge 40, 3, 48, 0) := rfl
theorem xf_67_11 : xcode 67 11 = some (.aload_n 0, 1, 0, 0) := rfl
theorem xf_67_12 : xcode 67 12 = some (.aload_n 1, 1, 0, 0) := rfl
theorem xf_67_13 : xcode 67 13 = some (.iload_n 2, 1, 0, 0) := rfl
theorem xf_67_14 : xcode 67 14 = some (.iload 4, 2, 0, 0) := rfl
theorem xf_67_16 : xcode 67 16 = some (.invokevirtual 30, 3, 68, 0) := rfl
theorem xf_67_19 : xcode 67 19 = some (.istore 5, 2, 0, 0) := rfl
theorem xf_67_21 : xcode 67 21 = some (.iload 5, 2, 0, 0) := rfl
theorem xf_67_23 : xcode 67 23 = some (.aload_n 0, 1, 0, 0) := rfl
theorem xf_67_24 : xcode 67 24 = some (.getfield 9, 3, 9, 0) := rfl
theorem xf_67_27 : xcode 67 27 = some (.iload_n 2, 1, 0, 0) := rfl
theorem xf_67_28 : xcode 67 28 = some (.iaload, 1, 0, 0) := rfl
theorem xf_67_29 : xcode 67 29 = some (.if_icmp .ge 13, 3, 42, 0) := rfl
theorem xf_67_32 : xcode 67 32 = some (.aload_n 0, 1, 0, 0) := rfl
theorem xf_67_33 : xcode 67 33 = some (.getfield 9, 3, 9, 0) := rfl
theorem xf_67_36 : xcode 67 36 = some (.iload_n 2, 1, 0, 0) := rfl
theorem xf_67_37 : xcode 67 37 = some (.iload 5, 2, 0, 0) := rfl
theorem xf_67_39 : xcode 67 39 = some (.iastore, 1, 0, 0) := rfl
theorem xf_67_40 : xcode 67 40 = some (.iconst 1, 1, 0, 0) := rfl
theorem xf_67_41 : xcode 67 41 = some (.istore_n 3, 1, 0, 0) := rfl
theorem xf_67_42 : xcode 67 42 = some (.iinc 4 1, 3, 0, 0) := rfl
theorem xf_67_45 : xcode 67 45 = some (.goto (-40), 3, 5, 0) := rfl
theorem xf_67_48 : xcode 67 48 = some (.iload_n 3, 1, 0, 0) := rfl
theorem xf_67_49 : xcode 67 49 = some (.ireturn, 1, 0, 0) := rfl
theorem xf_68_0 : xcode 68 0 = some (.aload_n 1, 1, 0, 0) := rfl
theorem xf_68_1 : xcode 68 1 = some (.iload_n 2, 1, 0, 0) := rfl
theorem xf_68_2 : xcode 68 2 = some (.iload_n 3, 1, 0, 0) := rfl
theorem xf_68_3 : xcode 68 3 = some (.invokevirtual 34, 3, 24, 0) := rfl
theorem xf_68_6 : xcode 68 6 = some (.istore 4, 2, 0, 0) := rfl
theorem xf_68_8 : xcode 68 8 = some (.aload_n 0, 1, 0, 0) := rfl
theorem xf_68_9 : xcode 68 9 = some (.getfield 9, 3, 9, 0) := rfl
theorem xf_68_12 : xcode 68 12 = some (.iload 4, 2, 0, 0) := rfl
theorem xf_68_14 : xcode 68 14 = some (.iaload, 1, 0, 0) := rfl
theorem xf_68_15 : xcode 68 15 = some (.ldc 21, 2, 3, 0) := rfl
theorem xf_68_17 : xcode 68 17 = some (.if_icmp .ge 21, 3, 38, 0) := rfl
theorem xf_68_20 : xcode 68 20 = some (.aload_n 0, 1, 0, 0) := rfl
theorem xf_68_21 : xcode 68 21 = some (.getfield 9, 3, 9, 0) := rfl
theorem xf_68_24 : xcode 68 24 = some (.iload 4, 2, 0, 0) := rfl
theorem xf_68_26 : xcode 68 26 = some (.iaload, 1, 0, 0) := rfl
theorem xf_68_27 : xcode 68 27 = some (.aload_n 1, 1, 0, 0) := rfl
theorem xf_68_28 : xcode 68 28 = some (.getfield 38, 3, 2, 3) := rfl
theorem xf_68_31 : xcode 68 31 = some (.iload 4, 2, 0, 0) := rfl
theorem xf_68_33 : xcode 68 33 = some (.iaload, 1, 0, 0) := rfl
theorem xf_68_34 : xcode 68 34 = some (.iadd, 1, 0, 0) := rfl
theorem xf_68_35 : xcode 68 35 = some (.goto 5, 3, 40, 0) := rfl
theorem xf_68_38 : xcode 68 38 = some (.ldc 21, 2, 3, 0) := rfl
theorem xf_68_40 : xcode 68 40 = some (.ireturn, 1, 0, 0) := rfl
theorem xf_69_0 : xcode 69 0 = some (.iconst 0, 1, 0, 0) := rfl
theorem xf_69_1 : xcode 69 1 = some (.istore_n 3, 1, 0, 0) := rfl
theorem xf_69_2 : xcode 69 2 = some (.iload_n 3, 1, 0, 0) := rfl
theorem xf_69_3 : xcode 69 3 = some (.iconst 4, 1, 0, 0) := rfl
theorem xf_69_4 : xcode 69 4 = some (.if_icmp .ge 27, 3, 31, 0) := rfl
theorem xf_69_7 : xcode 69 7 = some (.aload_n 0, 1, 0, 0) := rfl
theorem xf_69_8 : xcode 69 8 = some (.aload_n 1, 1, 0, 0) := rfl
theorem xf_69_9 : xcode 69 9 = some (.iload_n 2, 1, 0, 0) := rfl
theorem xf_69_10 : xcode 69 10 = some (.iload_n 3, 1, 0, 0) := rfl
theorem xf_69_11 : xcode 69 11 = some (.invokevirtual 30, 3, 68, 0) := rfl
theorem xf_69_14 : xcode 69 14 = some (.aload_n 0, 1, 0, 0) := rfl
theorem xf_69_15 : xcode 69 15 = some (.getfield 9, 3, 9, 0) := rfl
theorem xf_69_18 : xcode 69 18 = some (.iload_n 2, 1, 0, 0) := rfl
theorem xf_69_19 : xcode 69 19 = some (.iaload, 1, 0, 0) := rfl
theorem xf_69_20 : xcode 69 20 = some (.if_icmp .ne 5, 3, 25, 0) := rfl
theorem xf_69_23 : xcode 69 23 = some (.iload_n 3, 1, 0, 0) := rfl
theorem xf_69_24 : xcode 69 24 = some (.ireturn, 1, 0, 0) := rfl
theorem xf_69_25 : xcode 69 25 = some (.iinc 3 1, 3, 0, 0) := rfl
theorem xf_69_28 : xcode 69 28 = some (.goto (-26), 3, 2, 0) := rfl
theorem xf_69_31 : xcode 69 31 = some (.iconst 0, 1, 0, 0) := rfl
theorem xf_69_32 : xcode 69 32 = some (.ireturn, 1, 0, 0) := rfl
theorem xf_70_0 : xcode 70 0 = some (.aload_n 0, 1, 0, 0) := rfl
theorem xf_70_1 : xcode 70 1 = some (.invokespecial 1, 3, 0, 2) := rfl
theorem xf_70_4 : xcode 70 4 = some (.aload_n 0, 1, 0, 0) := rfl
theorem xf_70_5 : xcode 70 5 = some (.new 7, 3, 6, 0) := rfl
theorem xf_70_8 : xcode 70 8 = some (.dup, 1, 0, 0) := rfl
theorem xf_70_9 : xcode 70 9 = some (.invokespecial 9, 3, 48, 1) := rfl
theorem xf_70_12 : xcode 70 12 = some (.putfield 10, 3, 10, 0) := rfl
theorem xf_70_15 : xcode 70 15 = some (.aload_n 0, 1, 0, 0) := rfl
theorem xf_70_16 : xcode 70 16 = some (.new 7, 3, 6, 0) := rfl
theorem xf_70_19 : xcode 70 19 = some (.dup, 1, 0, 0) := rfl
theorem xf_70_20 : xcode 70 20 = some (.invokespecial 9, 3, 48, 1) := rfl
theorem xf_70_23 : xcode 70 23 = some (.putfield 16, 3, 10, 1) := rfl
theorem xf_70_26 : xcode 70 26 = some (.aload_n 0, 1, 0, 0) := rfl
theorem xf_70_27 : xcode 70 27 = some (.iconst 0, 1, 0, 0) := rfl
theorem xf_70_28 : xcode 70 28 = some (.putfield 19, 3, 10, 2) := rfl
theorem xf_70_31 : xcode 70 31 = some (.aload_n 0, 1, 0, 0) := rfl
theorem xf_70_32 : xcode 70 32 = some (.new 23, 3, 0, 0) := rfl
theorem xf_70_35 : xcode 70 35 = some (.dup, 1, 0, 0) := rfl
theorem xf_70_36 : xcode 70 36 = some (.invokespecial 25, 3, 0, 0) := rfl
theorem xf_70_39 : xcode 70 39 = some (.putfield 26, 3, 10, 3) := rfl
theorem xf_70_42 : xcode 70 42 = some (.aload_n 0, 1, 0, 0) := rfl
theorem xf_70_43 : xcode 70 43 = some (.new 30, 3, 3, 0) := rfl
theorem xf_70_46 : xcode 70 46 = some (.dup, 1, 0, 0) := rfl
theorem xf_70_47 : xcode 70 47 = some (.invokespecial 32, 3, 27, 1) := rfl
theorem xf_70_50 : xcode 70 50 = some (.putfield 33, 3, 10, 4) := rfl
theorem xf_70_53 : xcode 70 53 = some (.aload_n 0, 1, 0, 0) := rfl
theorem xf_70_54 : xcode 70 54 = some (.iconst (-1), 1, 0, 0) := rfl
theorem xf_70_55 : xcode 70 55 = some (.putfield 37, 3, 10, 5) := rfl
theorem xf_70_58 : xcode 70 58 = some (.aload_n 0, 1, 0, 0) := rfl
theorem xf_70_59 : xcode 70 59 = some (.new 41, 3, 1, 0) := rfl
theorem xf_70_62 : xcode 70 62 = some (.dup, 1, 0, 0) := rfl
theorem xf_70_63 : xcode 70 63 = some (.invokespecial 43, 3, 3, 1) := rfl
theorem xf_70_66 : xcode 70 66 = some (.putfield 44, 3, 10, 6) := rfl
theorem xf_70_69 : xcode 70 69 = some (.aload_n 0, 1, 0, 0) := rfl
theorem xf_70_70 : xcode 70 70 = some (.new 48, 3, 4, 0) := rfl
theorem xf_70_73 : xcode 70 73 = some (.dup, 1, 0, 0) := rfl
theorem xf_70_74 : xcode 70 74 = some (.invokespecial 50, 3, 36, 1) := rfl
theorem xf_70_77 : xcode 70 77 = some (.putfield 51, 3, 10, 7) := rfl
theorem xf_70_80 : xcode 70 80 = some (.aload_n 0, 1, 0, 0) := rfl
theorem xf_70_81 : xcode 70 81 = some (.new 55, 3, 5, 0) := rfl
theorem xf_70_84 : xcode 70 84 = some (.dup, 1, 0, 0) := rfl
theorem xf_70_85 : xcode 70 85 = some (.invokespecial 57, 3, 38, 1) := rfl
theorem xf_70_88 : xcode 70 88 = some (.putfield 58, 3, 10, 8) := rfl
theorem xf_70_91 : xcode 70 91 = some (.aload_n 0, 1, 0, 0) := rfl
theorem xf_70_92 : xcode 70 92 = some (.new 62, 3, 9, 0) := rfl
theorem xf_70_95 : xcode 70 95 = some (.dup, 1, 0, 0) := rfl
theorem xf_70_96 : xcode 70 96 = some (.invokespecial 64, 3, 65, 1) := rfl
theorem xf_70_99 : xcode 70 99 = some (.putfield 65, 3, 10, 9) := rfl
theorem xf_70_102 : xcode 70 102 = some (.aload_n 0, 1, 0, 0) := rfl
theorem xf_70_103 : xcode 70 103 = some (.getfield 44, 3, 10, 6) := rfl
theorem xf_70_106 : xcode 70 106 = some (.aload_n 0, 1, 0, 0) := rfl
theorem xf_70_107 : xcode 70 107 = some (.getfield 10, 3, 10, 0) := rfl
theorem xf_70_110 : xcode 70 110 = some (.getfield 69, 3, 6, 0) := rfl
theorem xf_70_113 : xcode 70 113 = some (.aload_n 0, 1, 0, 0) := rfl
theorem xf_70_114 : xcode 70 114 = some (.getfield 10, 3, 10, 0) := rfl
theorem xf_70_117 : xcode 70 117 = some (.getfield 73, 3, 6, 3) := rfl
theorem xf_70_120 : xcode 70 120 = some (.invokevirtual 77, 3, 4, 0) := rfl
theorem xf_70_123 : xcode 70 123 = some (.return_, 1, 0, 0) := rfl
theorem xf_71_0 : xcode 71 0 = some (.iload_n 1, 1, 0, 0) := rfl
theorem xf_71_1 : xcode 71 1 = some (.invokestatic 81, 3, 28, 0) := rfl
theorem xf_71_4 : xcode 71 4 = some (.ifCond .ne 13, 3, 17, 0) := rfl
theorem xf_71_7 : xcode 71 7 = some (.new 85, 3, 0, 1) := rfl
theorem xf_71_17 : xcode 71 17 = some (.aload_n 0, 1, 0, 0) := rfl
theorem xf_71_18 : xcode 71 18 = some (.getfield 33, 3, 10, 4) := rfl
theorem xf_71_21 : xcode 71 21 = some (.getfield 92, 3, 3, 1) := rfl
theorem xf_71_24 : xcode 71 24 = some (.iload_n 1, 1, 0, 0) := rfl
theorem xf_71_25 : xcode 71 25 = some (.invokestatic 95, 3, 29, 0) := rfl
theorem xf_71_28 : xcode 71 28 = some (.iadd, 1, 0, 0) := rfl
theorem xf_71_29 : xcode 71 29 = some (.bipush 45, 2, 0, 0) := rfl
theorem xf_71_31 : xcode 71 31 = some (.if_icmp .le 13, 3, 44, 0) := rfl
theorem xf_71_34 : xcode 71 34 = some (.new 99, 3, 1, 2) := rfl
theorem xf_71_44 : xcode 71 44 = some (.aload_n 0, 1, 0, 0) := rfl
theorem xf_71_45 : xcode 71 45 = some (.getfield 33, 3, 10, 4) := rfl
theorem xf_71_48 : xcode 71 48 = some (.iload_n 1, 1, 0, 0) := rfl
theorem xf_71_49 : xcode 71 49 = some (.invokevirtual 104, 3, 30, 0) := rfl
theorem xf_71_52 : xcode 71 52 = some (.aload_n 0, 1, 0, 0) := rfl
theorem xf_71_53 : xcode 71 53 = some (.getfield 33, 3, 10, 4) := rfl
theorem xf_71_56 : xcode 71 56 = some (.getfield 92, 3, 3, 1) := rfl
theorem xf_71_59 : xcode 71 59 = some (.ireturn, 1, 0, 0) := rfl
theorem xf_72_0 : xcode 72 0 = some (.aload_n 0, 1, 0, 0) := rfl
theorem xf_72_1 : xcode 72 1 = some (.aload_n 0, 1, 0, 0) := rfl
theorem xf_72_2 : xcode 72 2 = some (.getfield 33, 3, 10, 4) := rfl
theorem xf_72_5 : xcode 72 5 = some (.invokevirtual 108, 3, 31, 0) := rfl
theorem xf_72_8 : xcode 72 8 = some (.putfield 37, 3, 10, 5) := rfl
theorem xf_72_11 : xcode 72 11 = some (.aload_n 0, 1, 0, 0) := rfl
theorem xf_72_12 : xcode 72 12 = some (.getfield 37, 3, 10, 5) := rfl
theorem xf_72_15 : xcode 72 15 = some (.ifCond .lt 21, 3, 36, 0) := rfl
theorem xf_72_18 : xcode 72 18 = some (.aload_n 0, 1, 0, 0) := rfl
theorem xf_72_19 : xcode 72 19 = some (.getfield 33, 3, 10, 4) := rfl
theorem xf_72_22 : xcode 72 22 = some (.iconst 0, 1, 0, 0) := rfl
theorem xf_72_23 : xcode 72 23 = some (.putfield 92, 3, 3, 1) := rfl
theorem xf_72_26 : xcode 72 26 = some (.new 85, 3, 0, 3) := rfl
theorem xf_72_36 : xcode 72 36 = some (.aload_n 0, 1, 0, 0) := rfl
theorem xf_72_37 : xcode 72 37 = some (.getfield 26, 3, 10, 3) := rfl
theorem xf_72_40 : xcode 72 40 = some (.aload_n 0, 1, 0, 0) := rfl
theorem xf_72_41 : xcode 72 41 = some (.getfield 10, 3, 10, 0) := rfl
theorem xf_72_44 : xcode 72 44 = some (.invokevirtual 114, 3, 1, 0) := rfl
theorem xf_72_47 : xcode 72 47 = some (.aload_n 0, 1, 0, 0) := rfl
theorem xf_72_48 : xcode 72 48 = some (.getfield 33, 3, 10, 4) := rfl
theorem xf_72_51 : xcode 72 51 = some (.aload_n 0, 1, 0, 0) := rfl
theorem xf_72_52 : xcode 72 52 = some (.getfield 10, 3, 10, 0) := rfl
theorem xf_72_55 : xcode 72 55 = some (.getfield 69, 3, 6, 0) := rfl
theorem xf_72_58 : xcode 72 58 = some (.invokevirtual 118, 3, 34, 0) := rfl
theorem xf_72_61 : xcode 72 61 = some (.aload_n 0, 1, 0, 0) := rfl
theorem xf_72_62 : xcode 72 62 = some (.getfield 33, 3, 10, 4) := rfl
theorem xf_72_65 : xcode 72 65 = some (.iconst 0, 1, 0, 0) := rfl
theorem xf_72_66 : xcode 72 66 = some (.putfield 92, 3, 3, 1) := rfl
theorem xf_72_69 : xcode 72 69 = some (.aload_n 0, 1, 0, 0) := rfl
theorem xf_72_70 : xcode 72 70 = some (.getfield 10, 3, 10, 0) := rfl
theorem xf_72_73 : xcode 72 73 = some (.aload_n 0, 1, 0, 0) := rfl
theorem xf_72_74 : xcode 72 74 = some (.getfield 10, 3, 10, 0) := rfl
theorem xf_72_77 : xcode 72 77 = some (.getfield 69, 3, 6, 0) := rfl
theorem xf_72_80 : xcode 72 80 = some (.invokevirtual 122, 3, 20, 0) := rfl
theorem xf_72_83 : xcode 72 83 = some (.putfield 127, 3, 6, 4) := rfl
theorem xf_72_86 : xcode 72 86 = some (.aload_n 0, 1, 0, 0) := rfl
theorem xf_72_87 : xcode 72 87 = some (.invokevirtual 130, 3, 112, 0) := rfl
theorem xf_72_90 : xcode 72 90 = some (.aload_n 0, 1, 0, 0) := rfl
theorem xf_72_91 : xcode 72 91 = some (.getfield 10, 3, 10, 0) := rfl
theorem xf_72_94 : xcode 72 94 = some (.getfield 69, 3, 6, 0) := rfl
theorem xf_72_97 : xcode 72 97 = some (.invokevirtual 133, 3, 19, 0) := rfl
theorem xf_72_100 : xcode 72 100 = some (.ireturn, 1, 0, 0) := rfl
theorem xf_73_0 : xcode 73 0 = some (.aload_n 0, 1, 0, 0) := rfl
theorem xf_73_1 : xcode 73 1 = some (.getfield 37, 3, 10, 5) := rfl
theorem xf_73_4 : xcode 73 4 = some (.ireturn, 1, 0, 0) := rfl
theorem xf_74_0 : xcode 74 0 = some (.aload_n 0, 1, 0, 0) := rfl
theorem xf_74_1 : xcode 74 1 = some (.iload_n 1, 1, 0, 0) := rfl
theorem xf_74_2 : xcode 74 2 = some (.invokevirtual 136, 3, 116, 0) := rfl
theorem xf_74_5 : xcode 74 5 = some (.aload_n 0, 1, 0, 0) := rfl
theorem xf_74_6 : xcode 74 6 = some (.getfield 10, 3, 10, 0) := rfl
theorem xf_74_9 : xcode 74 9 = some (.getfield 69, 3, 6, 0) := rfl
theorem xf_74_12 : xcode 74 12 = some (.iload_n 1, 1, 0, 0) := rfl
theorem xf_74_13 : xcode 74 13 = some (.invokevirtual 139, 3, 17, 0) := rfl
theorem xf_74_16 : xcode 74 16 = some (.ifCond .ne 7, 3, 23, 0) := rfl
theorem xf_74_19 : xcode 74 19 = some (.iconst 1, 1, 0, 0) := rfl
theorem xf_74_20 : xcode 74 20 = some (.goto 4, 3, 24, 0) := rfl
theorem xf_74_23 : xcode 74 23 = some (.iconst 0, 1, 0, 0) := rfl
theorem xf_74_24 : xcode 74 24 = some (.istore_n 3, 1, 0, 0) := rfl
theorem xf_74_25 : xcode 74 25 = some (.iload_n 2, 1, 0, 0) := rfl
theorem xf_74_26 : xcode 74 26 = some (.ifCond .eq 42, 3, 68, 0) := rfl
theorem xf_74_29 : xcode 74 29 = some (.iload_n 3, 1, 0, 0) := rfl
theorem xf_74_30 : xcode 74 30 = some (.ifCond .ne 38, 3, 68, 0) := rfl
theorem xf_74_33 : xcode 74 33 = some (.aload_n 0, 1, 0, 0) := rfl
theorem xf_74_34 : xcode 74 34 = some (.getfield 10, 3, 10, 0) := rfl
theorem xf_74_37 : xcode 74 37 = some (.getfield 69, 3, 6, 0) := rfl
theorem xf_74_40 : xcode 74 40 = some (.invokevirtual 133, 3, 19, 0) := rfl
theorem xf_74_43 : xcode 74 43 = some (.iconst 1, 1, 0, 0) := rfl
theorem xf_74_44 : xcode 74 44 = some (.if_icmp .eq 14, 3, 58, 0) := rfl
theorem xf_74_47 : xcode 74 47 = some (.aload_n 0, 1, 0, 0) := rfl
theorem xf_74_48 : xcode 74 48 = some (.getfield 10, 3, 10, 0) := rfl
theorem xf_74_51 : xcode 74 51 = some (.getfield 127, 3, 6, 4) := rfl
theorem xf_74_54 : xcode 74 54 = some (.iload_n 1, 1, 0, 0) := rfl
theorem xf_74_55 : xcode 74 55 = some (.if_icmp .ne 13, 3, 68, 0) := rfl
theorem xf_74_58 : xcode 74 58 = some (.new 99, 3, 1, 4) := rfl
theorem xf_74_68 : xcode 74 68 = some (.aload_n 0, 1, 0, 0) := rfl
theorem xf_74_69 : xcode 74 69 = some (.getfield 26, 3, 10, 3) := rfl
theorem xf_74_72 : xcode 74 72 = some (.aload_n 0, 1, 0, 0) := rfl
theorem xf_74_73 : xcode 74 73 = some (.getfield 10, 3, 10, 0) := rfl
theorem xf_74_76 : xcode 74 76 = some (.invokevirtual 114, 3, 1, 0) := rfl
theorem xf_74_79 : xcode 74 79 = some (.iload_n 2, 1, 0, 0) := rfl
theorem xf_74_80 : xcode 74 80 = some (.iload_n 3, 1, 0, 0) := rfl
theorem xf_74_81 : xcode 74 81 = some (.if_icmp .eq 37, 3, 118, 0) := rfl
theorem xf_74_84 : xcode 74 84 = some (.aload_n 0, 1, 0, 0) := rfl
theorem xf_74_85 : xcode 74 85 = some (.getfield 10, 3, 10, 0) := rfl
theorem xf_74_88 : xcode 74 88 = some (.getfield 69, 3, 6, 0) := rfl
theorem xf_74_91 : xcode 74 91 = some (.iload_n 1, 1, 0, 0) := rfl
theorem xf_74_92 : xcode 74 92 = some (.iload_n 2, 1, 0, 0) := rfl
theorem xf_74_93 : xcode 74 93 = some (.ifCond .eq 7, 3, 100, 0) := rfl
theorem xf_74_96 : xcode 74 96 = some (.iconst (-1), 1, 0, 0) := rfl
theorem xf_74_97 : xcode 74 97 = some (.goto 4, 3, 101, 0) := rfl
theorem xf_74_100 : xcode 74 100 = some (.iconst 0, 1, 0, 0) := rfl
theorem xf_74_101 : xcode 74 101 = some (.invokevirtual 144, 3, 21, 0) := rfl
theorem xf_74_104 : xcode 74 104 = some (.aload_n 0, 1, 0, 0) := rfl
theorem xf_74_105 : xcode 74 105 = some (.getfield 10, 3, 10, 0) := rfl
theorem xf_74_108 : xcode 74 108 = some (.getfield 69, 3, 6, 0) := rfl
theorem xf_74_111 : xcode 74 111 = some (.invokevirtual 148, 3, 22, 0) := rfl
theorem xf_74_114 : xcode 74 114 = some (.aload_n 0, 1, 0, 0) := rfl
theorem xf_74_115 : xcode 74 115 = some (.invokevirtual 130, 3, 112, 0) := rfl
theorem xf_74_118 : xcode 74 118 = some (.iload_n 3, 1, 0, 0) := rfl
theorem xf_74_119 : xcode 74 119 = some (.ireturn, 1, 0, 0) := rfl
theorem xf_75_0 : xcode 75 0 = some (.aload_n 0, 1, 0, 0) := rfl
theorem xf_75_1 : xcode 75 1 = some (.iload_n 1, 1, 0, 0) := rfl
theorem xf_75_2 : xcode 75 2 = some (.invokevirtual 136, 3, 116, 0) := rfl
theorem xf_75_5 : xcode 75 5 = some (.iload_n 2, 1, 0, 0) := rfl
theorem xf_75_6 : xcode 75 6 = some (.invokestatic 151, 3, 121, 0) := rfl
theorem xf_75_9 : xcode 75 9 = some (.aload_n 0, 1, 0, 0) := rfl
theorem xf_75_10 : xcode 75 10 = some (.iload_n 1, 1, 0, 0) := rfl
theorem xf_75_11 : xcode 75 11 = some (.invokevirtual 154, 3, 117, 0) := rfl
theorem xf_75_14 : xcode 75 14 = some (.aload_n 0, 1, 0, 0) := rfl
theorem xf_75_15 : xcode 75 15 = some (.getfield 26, 3, 10, 3) := rfl
theorem xf_75_18 : xcode 75 18 = some (.aload_n 0, 1, 0, 0) := rfl
theorem xf_75_19 : xcode 75 19 = some (.getfield 10, 3, 10, 0) := rfl
theorem xf_75_22 : xcode 75 22 = some (.invokevirtual 114, 3, 1, 0) := rfl
theorem xf_75_25 : xcode 75 25 = some (.aload_n 0, 1, 0, 0) := rfl
theorem xf_75_26 : xcode 75 26 = some (.getfield 10, 3, 10, 0) := rfl
theorem xf_75_29 : xcode 75 29 = some (.getfield 69, 3, 6, 0) := rfl
theorem xf_75_32 : xcode 75 32 = some (.getfield 157, 3, 2, 2) := rfl
theorem xf_75_35 : xcode 75 35 = some (.iload_n 1, 1, 0, 0) := rfl
theorem xf_75_36 : xcode 75 36 = some (.iaload, 1, 0, 0) := rfl
theorem xf_75_37 : xcode 75 37 = some (.istore_n 3, 1, 0, 0) := rfl
theorem xf_75_38 : xcode 75 38 = some (.aload_n 0, 1, 0, 0) := rfl
theorem xf_75_39 : xcode 75 39 = some (.getfield 10, 3, 10, 0) := rfl
theorem xf_75_42 : xcode 75 42 = some (.getfield 69, 3, 6, 0) := rfl
theorem xf_75_45 : xcode 75 45 = some (.getfield 157, 3, 2, 2) := rfl
theorem xf_75_48 : xcode 75 48 = some (.iload_n 1, 1, 0, 0) := rfl
theorem xf_75_49 : xcode 75 49 = some (.iload_n 2, 1, 0, 0) := rfl
theorem xf_75_50 : xcode 75 50 = some (.iastore, 1, 0, 0) := rfl
theorem xf_75_51 : xcode 75 51 = some (.iload_n 3, 1, 0, 0) := rfl
theorem xf_75_52 : xcode 75 52 = some (.ireturn, 1, 0, 0) := rfl
theorem xf_76_0 : xcode 76 0 = some (.aload_n 0, 1, 0, 0) := rfl
theorem xf_76_1 : xcode 76 1 = some (.iload_n 1, 1, 0, 0) := rfl
theorem xf_76_2 : xcode 76 2 = some (.invokevirtual 136, 3, 116, 0) := rfl
theorem xf_76_5 : xcode 76 5 = some (.iload_n 2, 1, 0, 0) := rfl
theorem xf_76_6 : xcode 76 6 = some (.iconst 1, 1, 0, 0) := rfl
theorem xf_76_7 : xcode 76 7 = some (.if_icmp .lt 9, 3, 16, 0) := rfl
theorem xf_76_10 : xcode 76 10 = some (.iload_n 2, 1, 0, 0) := rfl
theorem xf_76_11 : xcode 76 11 = some (.bipush 9, 2, 0, 0) := rfl
theorem xf_76_13 : xcode 76 13 = some (.if_icmp .le 13, 3, 26, 0) := rfl
theorem xf_76_16 : xcode 76 16 = some (.new 85, 3, 0, 5) := rfl
theorem xf_76_26 : xcode 76 26 = some (.aload_n 0, 1, 0, 0) := rfl
theorem xf_76_27 : xcode 76 27 = some (.iload_n 1, 1, 0, 0) := rfl
theorem xf_76_28 : xcode 76 28 = some (.invokevirtual 154, 3, 117, 0) := rfl
theorem xf_76_31 : xcode 76 31 = some (.aload_n 0, 1, 0, 0) := rfl
theorem xf_76_32 : xcode 76 32 = some (.getfield 26, 3, 10, 3) := rfl
theorem xf_76_35 : xcode 76 35 = some (.aload_n 0, 1, 0, 0) := rfl
theorem xf_76_36 : xcode 76 36 = some (.getfield 10, 3, 10, 0) := rfl
theorem xf_76_39 : xcode 76 39 = some (.invokevirtual 114, 3, 1, 0) := rfl
theorem xf_76_42 : xcode 76 42 = some (.aload_n 0, 1, 0, 0) := rfl
theorem xf_76_43 : xcode 76 43 = some (.getfield 10, 3, 10, 0) := rfl
theorem xf_76_46 : xcode 76 46 = some (.getfield 69, 3, 6, 0) := rfl
theorem xf_76_49 : xcode 76 49 = some (.getfield 162, 3, 2, 3) := rfl
theorem xf_76_52 : xcode 76 52 = some (.iload_n 1, 1, 0, 0) := rfl
theorem xf_76_53 : xcode 76 53 = some (.iaload, 1, 0, 0) := rfl
theorem xf_76_54 : xcode 76 54 = some (.istore_n 3, 1, 0, 0) := rfl
theorem xf_76_55 : xcode 76 55 = some (.aload_n 0, 1, 0, 0) := rfl
theorem xf_76_56 : xcode 76 56 = some (.getfield 10, 3, 10, 0) := rfl
theorem xf_76_59 : xcode 76 59 = some (.getfield 69, 3, 6, 0) := rfl
theorem xf_76_62 : xcode 76 62 = some (.getfield 162, 3, 2, 3) := rfl
theorem xf_76_65 : xcode 76 65 = some (.iload_n 1, 1, 0, 0) := rfl
theorem xf_76_66 : xcode 76 66 = some (.iload_n 2, 1, 0, 0) := rfl
theorem xf_76_67 : xcode 76 67 = some (.iastore, 1, 0, 0) := rfl
theorem xf_76_68 : xcode 76 68 = some (.iload_n 3, 1, 0, 0) := rfl
theorem xf_76_69 : xcode 76 69 = some (.ireturn, 1, 0, 0) := rfl
theorem xf_77_0 : xcode 77 0 = some (.iload_n 1, 1, 0, 0) := rfl
theorem xf_77_1 : xcode 77 1 = some (.invokestatic 165, 3, 123, 0) := rfl
theorem xf_77_4 : xcode 77 4 = some (.iload_n 2, 1, 0, 0) := rfl
theorem xf_77_5 : xcode 77 5 = some (.invokestatic 165, 3, 123, 0) := rfl
theorem xf_77_8 : xcode 77 8 = some (.iload_n 3, 1, 0, 0) := rfl
theorem xf_77_9 : xcode 77 9 = some (.invokestatic 165, 3, 123, 0) := rfl
theorem xf_77_12 : xcode 77 12 = some (.bipush 16, 2, 0, 0) := rfl
theorem xf_77_14 : xcode 77 14 = some (.iload_n 1, 1, 0, 0) := rfl
theorem xf_77_15 : xcode 77 15 = some (.isub, 1, 0, 0) := rfl
theorem xf_77_16 : xcode 77 16 = some (.iload_n 2, 1, 0, 0) := rfl
theorem xf_77_17 : xcode 77 17 = some (.isub, 1, 0, 0) := rfl
theorem xf_77_18 : xcode 77 18 = some (.iload_n 3, 1, 0, 0) := rfl
theorem xf_77_19 : xcode 77 19 = some (.isub, 1, 0, 0) := rfl
theorem xf_77_20 : xcode 77 20 = some (.istore 4, 2, 0, 0) := rfl
theorem xf_77_22 : xcode 77 22 = some (.iload 4, 2, 0, 0) := rfl
theorem xf_77_24 : xcode 77 24 = some (.ifCond .ge 13, 3, 37, 0) := rfl
theorem xf_77_27 : xcode 77 27 = some (.new 85, 3, 0, 6) := rfl
theorem xf_77_37 : xcode 77 37 = some (.aload_n 0, 1, 0, 0) := rfl
theorem xf_77_38 : xcode 77 38 = some (.getfield 26, 3, 10, 3) := rfl
theorem xf_77_41 : xcode 77 41 = some (.aload_n 0, 1, 0, 0) := rfl
theorem xf_77_42 : xcode 77 42 = some (.getfield 10, 3, 10, 0) := rfl
theorem xf_77_45 : xcode 77 45 = some (.invokevirtual 114, 3, 1, 0) := rfl
theorem xf_77_48 : xcode 77 48 = some (.aload_n 0, 1, 0, 0) := rfl
theorem xf_77_49 : xcode 77 49 = some (.getfield 10, 3, 10, 0) := rfl
theorem xf_77_52 : xcode 77 52 = some (.getfield 170, 3, 6, 1) := rfl
theorem xf_77_55 : xcode 77 55 = some (.getfield 174, 3, 7, 0) := rfl
theorem xf_77_58 : xcode 77 58 = some (.iconst 0, 1, 0, 0) := rfl
theorem xf_77_59 : xcode 77 59 = some (.iload_n 1, 1, 0, 0) := rfl
theorem xf_77_60 : xcode 77 60 = some (.iastore, 1, 0, 0) := rfl
theorem xf_77_61 : xcode 77 61 = some (.aload_n 0, 1, 0, 0) := rfl
theorem xf_77_62 : xcode 77 62 = some (.getfield 10, 3, 10, 0) := rfl
theorem xf_77_65 : xcode 77 65 = some (.getfield 170, 3, 6, 1) := rfl
theorem xf_77_68 : xcode 77 68 = some (.getfield 174, 3, 7, 0) := rfl
theorem xf_77_71 : xcode 77 71 = some (.iconst 1, 1, 0, 0) := rfl
theorem xf_77_72 : xcode 77 72 = some (.iload_n 2, 1, 0, 0) := rfl
theorem xf_77_73 : xcode 77 73 = some (.iastore, 1, 0, 0) := rfl
theorem xf_77_74 : xcode 77 74 = some (.aload_n 0, 1, 0, 0) := rfl
theorem xf_77_75 : xcode 77 75 = some (.getfield 10, 3, 10, 0) := rfl
theorem xf_77_78 : xcode 77 78 = some (.getfield 170, 3, 6, 1) := rfl
theorem xf_77_81 : xcode 77 81 = some (.getfield 174, 3, 7, 0) := rfl
theorem xf_77_84 : xcode 77 84 = some (.iconst 2, 1, 0, 0) := rfl
theorem xf_77_85 : xcode 77 85 = some (.iload_n 3, 1, 0, 0) := rfl
theorem xf_77_86 : xcode 77 86 = some (.iastore, 1, 0, 0) := rfl
theorem xf_77_87 : xcode 77 87 = some (.aload_n 0, 1, 0, 0) := rfl
theorem xf_77_88 : xcode 77 88 = some (.getfield 10, 3, 10, 0) := rfl
theorem xf_77_91 : xcode 77 91 = some (.getfield 170, 3, 6, 1) := rfl
theorem xf_77_94 : xcode 77 94 = some (.getfield 174, 3, 7, 0) := rfl
theorem xf_77_97 : xcode 77 97 = some (.iconst 3, 1, 0, 0) := rfl
theorem xf_77_98 : xcode 77 98 = some (.iload 4, 2, 0, 0) := rfl
theorem xf_77_100 : xcode 77 100 = some (.iastore, 1, 0, 0) := rfl
theorem xf_77_101 : xcode 77 101 = some (.iload 4, 2, 0, 0) := rfl
theorem xf_77_103 : xcode 77 103 = some (.ireturn, 1, 0, 0) := rfl
theorem xf_78_0 : xcode 78 0 = some (.iload_n 1, 1, 0, 0) := rfl
theorem xf_78_1 : xcode 78 1 = some (.invokestatic 179, 3, 120, 0) := rfl
theorem xf_78_4 : xcode 78 4 = some (.ifCond .eq 10, 3, 14, 0) := rfl
theorem xf_78_7 : xcode 78 7 = some (.iload_n 2, 1, 0, 0) := rfl
theorem xf_78_8 : xcode 78 8 = some (.invokestatic 179, 3, 120, 0) := rfl
theorem xf_78_11 : xcode 78 11 = some (.ifCond .ne 13, 3, 24, 0) := rfl
theorem xf_78_14 : xcode 78 14 = some (.new 182, 3, 2, 7) := rfl
theorem xf_78_24 : xcode 78 24 = some (.iload_n 3, 1, 0, 0) := rfl
theorem xf_78_25 : xcode 78 25 = some (.iconst 0, 1, 0, 0) := rfl
theorem xf_78_26 : xcode 78 26 = some (.invokestatic 187, 3, 124, 0) := rfl
theorem xf_78_29 : xcode 78 29 = some (.aload_n 0, 1, 0, 0) := rfl
theorem xf_78_30 : xcode 78 30 = some (.getfield 26, 3, 10, 3) := rfl
theorem xf_78_33 : xcode 78 33 = some (.aload_n 0, 1, 0, 0) := rfl
theorem xf_78_34 : xcode 78 34 = some (.getfield 10, 3, 10, 0) := rfl
theorem xf_78_37 : xcode 78 37 = some (.invokevirtual 114, 3, 1, 0) := rfl
theorem xf_78_40 : xcode 78 40 = some (.aload_n 0, 1, 0, 0) := rfl
theorem xf_78_41 : xcode 78 41 = some (.getfield 10, 3, 10, 0) := rfl
theorem xf_78_44 : xcode 78 44 = some (.getfield 170, 3, 6, 1) := rfl
theorem xf_78_47 : xcode 78 47 = some (.getfield 190, 3, 7, 1) := rfl
theorem xf_78_50 : xcode 78 50 = some (.iload_n 1, 1, 0, 0) := rfl
theorem xf_78_51 : xcode 78 51 = some (.iconst 4, 1, 0, 0) := rfl
theorem xf_78_52 : xcode 78 52 = some (.imul, 1, 0, 0) := rfl
theorem xf_78_53 : xcode 78 53 = some (.iload_n 2, 1, 0, 0) := rfl
theorem xf_78_54 : xcode 78 54 = some (.iadd, 1, 0, 0) := rfl
theorem xf_78_55 : xcode 78 55 = some (.iaload, 1, 0, 0) := rfl
theorem xf_78_56 : xcode 78 56 = some (.istore 4, 2, 0, 0) := rfl
theorem xf_78_58 : xcode 78 58 = some (.aload_n 0, 1, 0, 0) := rfl
theorem xf_78_59 : xcode 78 59 = some (.getfield 10, 3, 10, 0) := rfl
theorem xf_78_62 : xcode 78 62 = some (.getfield 170, 3, 6, 1) := rfl
theorem xf_78_65 : xcode 78 65 = some (.getfield 190, 3, 7, 1) := rfl
theorem xf_78_68 : xcode 78 68 = some (.iload_n 1, 1, 0, 0) := rfl
theorem xf_78_69 : xcode 78 69 = some (.iconst 4, 1, 0, 0) := rfl
theorem xf_78_70 : xcode 78 70 = some (.imul, 1, 0, 0) := rfl
theorem xf_78_71 : xcode 78 71 = some (.iload_n 2, 1, 0, 0) := rfl
theorem xf_78_72 : xcode 78 72 = some (.iadd, 1, 0, 0) := rfl
theorem xf_78_73 : xcode 78 73 = some (.iload_n 3, 1, 0, 0) := rfl
theorem xf_78_74 : xcode 78 74 = some (.iastore, 1, 0, 0) := rfl
theorem xf_78_75 : xcode 78 75 = some (.iload 4, 2, 0, 0) := rfl
theorem xf_78_77 : xcode 78 77 = some (.ireturn, 1, 0, 0) := rfl
theorem xf_79_0 : xcode 79 0 = some (.iload_n 1, 1, 0, 0) := rfl
theorem xf_79_1 : xcode 79 1 = some (.iconst 0, 1, 0, 0) := rfl
theorem xf_79_2 : xcode 79 2 = some (.invokestatic 187, 3, 124, 0) := rfl
theorem xf_79_5 : xcode 79 5 = some (.aload_n 0, 1, 0, 0) := rfl
theorem xf_79_6 : xcode 79 6 = some (.getfield 26, 3, 10, 3) := rfl
theorem xf_79_9 : xcode 79 9 = some (.aload_n 0, 1, 0, 0) := rfl
theorem xf_79_10 : xcode 79 10 = some (.getfield 10, 3, 10, 0) := rfl
theorem xf_79_13 : xcode 79 13 = some (.invokevirtual 114, 3, 1, 0) := rfl
theorem xf_79_16 : xcode 79 16 = some (.aload_n 0, 1, 0, 0) := rfl
theorem xf_79_17 : xcode 79 17 = some (.getfield 10, 3, 10, 0) := rfl
theorem xf_79_20 : xcode 79 20 = some (.getfield 170, 3, 6, 1) := rfl
theorem xf_79_23 : xcode 79 23 = some (.getfield 193, 3, 7, 2) := rfl
theorem xf_79_26 : xcode 79 26 = some (.istore_n 2, 1, 0, 0) := rfl
theorem xf_79_27 : xcode 79 27 = some (.aload_n 0, 1, 0, 0) := rfl
theorem xf_79_28 : xcode 79 28 = some (.getfield 10, 3, 10, 0) := rfl
theorem xf_79_31 : xcode 79 31 = some (.getfield 170, 3, 6, 1) := rfl
theorem xf_79_34 : xcode 79 34 = some (.iload_n 1, 1, 0, 0) := rfl
theorem xf_79_35 : xcode 79 35 = some (.putfield 193, 3, 7, 2) := rfl
theorem xf_79_38 : xcode 79 38 = some (.iload_n 2, 1, 0, 0) := rfl
theorem xf_79_39 : xcode 79 39 = some (.ireturn, 1, 0, 0) := rfl
theorem xf_80_0 : xcode 80 0 = some (.iload_n 1, 1, 0, 0) := rfl
theorem xf_80_1 : xcode 80 1 = some (.iconst 0, 1, 0, 0) := rfl
theorem xf_80_2 : xcode 80 2 = some (.invokestatic 187, 3, 124, 0) := rfl
theorem xf_80_5 : xcode 80 5 = some (.aload_n 0, 1, 0, 0) := rfl
theorem xf_80_6 : xcode 80 6 = some (.getfield 26, 3, 10, 3) := rfl
theorem xf_80_9 : xcode 80 9 = some (.aload_n 0, 1, 0, 0) := rfl
theorem xf_80_10 : xcode 80 10 = some (.getfield 10, 3, 10, 0) := rfl
theorem xf_80_13 : xcode 80 13 = some (.invokevirtual 114, 3, 1, 0) := rfl
theorem xf_80_16 : xcode 80 16 = some (.aload_n 0, 1, 0, 0) := rfl
theorem xf_80_17 : xcode 80 17 = some (.getfield 10, 3, 10, 0) := rfl
theorem xf_80_20 : xcode 80 20 = some (.getfield 170, 3, 6, 1) := rfl
theorem xf_80_23 : xcode 80 23 = some (.getfield 196, 3, 7, 3) := rfl
theorem xf_80_26 : xcode 80 26 = some (.istore_n 2, 1, 0, 0) := rfl
theorem xf_80_27 : xcode 80 27 = some (.aload_n 0, 1, 0, 0) := rfl
theorem xf_80_28 : xcode 80 28 = some (.getfield 10, 3, 10, 0) := rfl
theorem xf_80_31 : xcode 80 31 = some (.getfield 170, 3, 6, 1) := rfl
theorem xf_80_34 : xcode 80 34 = some (.iload_n 1, 1, 0, 0) := rfl
theorem xf_80_35 : xcode 80 35 = some (.putfield 196, 3, 7, 3) := rfl
theorem xf_80_38 : xcode 80 38 = some (.iload_n 2, 1, 0, 0) := rfl
theorem xf_80_39 : xcode 80 39 = some (.ireturn, 1, 0, 0) := rfl
theorem xf_81_0 : xcode 81 0 = some (.aload_n 0, 1, 0, 0) := rfl
theorem xf_81_1 : xcode 81 1 = some (.iload_n 1, 1, 0, 0) := rfl
theorem xf_81_2 : xcode 81 2 = some (.invokevirtual 136, 3, 116, 0) := rfl
theorem xf_81_5 : xcode 81 5 = some (.aload_n 0, 1, 0, 0) := rfl
theorem xf_81_6 : xcode 81 6 = some (.getfield 10, 3, 10, 0) := rfl
theorem xf_81_9 : xcode 81 9 = some (.getfield 69, 3, 6, 0) := rfl
theorem xf_81_12 : xcode 81 12 = some (.iload_n 1, 1, 0, 0) := rfl
theorem xf_81_13 : xcode 81 13 = some (.invokevirtual 139, 3, 17, 0) := rfl
theorem xf_81_16 : xcode 81 16 = some (.istore_n 3, 1, 0, 0) := rfl
theorem xf_81_17 : xcode 81 17 = some (.iload_n 2, 1, 0, 0) := rfl
theorem xf_81_18 : xcode 81 18 = some (.tableswitch 94 0 3 #[30, 40, 61, 82], 30, 0, 0) := rfl
theorem xf_81_48 : xcode 81 48 = some (.iload_n 3, 1, 0, 0) := rfl
theorem xf_81_49 : xcode 81 49 = some (.ifCond .eq 7, 3, 56, 0) := rfl
theorem xf_81_52 : xcode 81 52 = some (.iconst 0, 1, 0, 0) := rfl
theorem xf_81_53 : xcode 81 53 = some (.goto 4, 3, 57, 0) := rfl
theorem xf_81_56 : xcode 81 56 = some (.iconst 1, 1, 0, 0) := rfl
theorem xf_81_57 : xcode 81 57 = some (.ireturn, 1, 0, 0) := rfl
theorem xf_81_58 : xcode 81 58 = some (.iload_n 3, 1, 0, 0) := rfl
theorem xf_81_59 : xcode 81 59 = some (.ifCond .eq 18, 3, 77, 0) := rfl
theorem xf_81_62 : xcode 81 62 = some (.aload_n 0, 1, 0, 0) := rfl
theorem xf_81_63 : xcode 81 63 = some (.getfield 10, 3, 10, 0) := rfl
theorem xf_81_66 : xcode 81 66 = some (.getfield 69, 3, 6, 0) := rfl
theorem xf_81_69 : xcode 81 69 = some (.getfield 157, 3, 2, 2) := rfl
theorem xf_81_72 : xcode 81 72 = some (.iload_n 1, 1, 0, 0) := rfl
theorem xf_81_73 : xcode 81 73 = some (.iaload, 1, 0, 0) := rfl
theorem xf_81_74 : xcode 81 74 = some (.goto 4, 3, 78, 0) := rfl
theorem xf_81_77 : xcode 81 77 = some (.iconst 0, 1, 0, 0) := rfl
theorem xf_81_78 : xcode 81 78 = some (.ireturn, 1, 0, 0) := rfl
theorem xf_81_79 : xcode 81 79 = some (.iload_n 3, 1, 0, 0) := rfl
theorem xf_81_80 : xcode 81 80 = some (.ifCond .eq 18, 3, 98, 0) := rfl
theorem xf_81_83 : xcode 81 83 = some (.aload_n 0, 1, 0, 0) := rfl
theorem xf_81_84 : xcode 81 84 = some (.getfield 10, 3, 10, 0) := rfl
theorem xf_81_87 : xcode 81 87 = some (.getfield 69, 3, 6, 0) := rfl
theorem xf_81_90 : xcode 81 90 = some (.getfield 162, 3, 2, 3) := rfl
theorem xf_81_93 : xcode 81 93 = some (.iload_n 1, 1, 0, 0) := rfl
theorem xf_81_94 : xcode 81 94 = some (.iaload, 1, 0, 0) := rfl
theorem xf_81_95 : xcode 81 95 = some (.goto 4, 3, 99, 0) := rfl
theorem xf_81_98 : xcode 81 98 = some (.iconst 0, 1, 0, 0) := rfl
theorem xf_81_99 : xcode 81 99 = some (.ireturn, 1, 0, 0) := rfl
theorem xf_81_100 : xcode 81 100 = some (.aload_n 0, 1, 0, 0) := rfl
theorem xf_81_101 : xcode 81 101 = some (.getfield 10, 3, 10, 0) := rfl
theorem xf_81_104 : xcode 81 104 = some (.getfield 69, 3, 6, 0) := rfl
theorem xf_81_107 : xcode 81 107 = some (.iload_n 1, 1, 0, 0) := rfl
theorem xf_81_108 : xcode 81 108 = some (.invokevirtual 199, 3, 26, 0) := rfl
theorem xf_81_111 : xcode 81 111 = some (.ireturn, 1, 0, 0) := rfl
theorem xf_81_112 : xcode 81 112 = some (.new 85, 3, 0, 8) := rfl
theorem xf_82_0 : xcode 82 0 = some (.aload_n 0, 1, 0, 0) := rfl
theorem xf_82_1 : xcode 82 1 = some (.iload_n 1, 1, 0, 0) := rfl
theorem xf_82_2 : xcode 82 2 = some (.invokevirtual 136, 3, 116, 0) := rfl
theorem xf_82_5 : xcode 82 5 = some (.aload_n 0, 1, 0, 0) := rfl
theorem xf_82_6 : xcode 82 6 = some (.iload_n 2, 1, 0, 0) := rfl
theorem xf_82_7 : xcode 82 7 = some (.invokevirtual 136, 3, 116, 0) := rfl
theorem xf_82_10 : xcode 82 10 = some (.iload_n 3, 1, 0, 0) := rfl
theorem xf_82_11 : xcode 82 11 = some (.invokestatic 204, 3, 122, 0) := rfl
theorem xf_82_14 : xcode 82 14 = some (.aload_n 0, 1, 0, 0) := rfl
theorem xf_82_15 : xcode 82 15 = some (.getfield 10, 3, 10, 0) := rfl
theorem xf_82_18 : xcode 82 18 = some (.getfield 69, 3, 6, 0) := rfl
theorem xf_82_21 : xcode 82 21 = some (.iload_n 1, 1, 0, 0) := rfl
theorem xf_82_22 : xcode 82 22 = some (.invokevirtual 139, 3, 17, 0) := rfl
theorem xf_82_25 : xcode 82 25 = some (.ifCond .eq 17, 3, 42, 0) := rfl
theorem xf_82_28 : xcode 82 28 = some (.aload_n 0, 1, 0, 0) := rfl
theorem xf_82_29 : xcode 82 29 = some (.getfield 10, 3, 10, 0) := rfl
theorem xf_82_32 : xcode 82 32 = some (.getfield 69, 3, 6, 0) := rfl
theorem xf_82_35 : xcode 82 35 = some (.iload_n 2, 1, 0, 0) := rfl
theorem xf_82_36 : xcode 82 36 = some (.invokevirtual 139, 3, 17, 0) := rfl
theorem xf_82_39 : xcode 82 39 = some (.ifCond .ne 5, 3, 44, 0) := rfl
theorem xf_82_42 : xcode 82 42 = some (.iconst 0, 1, 0, 0) := rfl
theorem xf_82_43 : xcode 82 43 = some (.ireturn, 1, 0, 0) := rfl
theorem xf_82_44 : xcode 82 44 = some (.iconst 0, 1, 0, 0) := rfl
theorem xf_82_45 : xcode 82 45 = some (.istore 4, 2, 0, 0) := rfl
theorem xf_82_47 : xcode 82 47 = some (.iconst 0, 1, 0, 0) := rfl
theorem xf_82_48 : xcode 82 48 = some (.istore 5, 2, 0, 0) := rfl
theorem xf_82_50 : xcode 82 50 = some (.iload 5, 2, 0, 0) := rfl
theorem xf_82_52 : xcode 82 52 = some (.iconst 4, 1, 0, 0) := rfl
theorem xf_82_53 : xcode 82 53 = some (.if_icmp .ge 45, 3, 98, 0) := rfl
theorem xf_82_56 : xcode 82 56 = some (.aload_n 0, 1, 0, 0) := rfl
theorem xf_82_57 : xcode 82 57 = some (.getfield 10, 3, 10, 0) := rfl
theorem xf_82_60 : xcode 82 60 = some (.getfield 69, 3, 6, 0) := rfl
theorem xf_82_63 : xcode 82 63 = some (.iload_n 1, 1, 0, 0) := rfl
theorem xf_82_64 : xcode 82 64 = some (.iload_n 3, 1, 0, 0) := rfl
theorem xf_82_65 : xcode 82 65 = some (.iload 5, 2, 0, 0) := rfl
theorem xf_82_67 : xcode 82 67 = some (.invokevirtual 207, 3, 25, 0) := rfl
theorem xf_82_70 : xcode 82 70 = some (.iload_n 2, 1, 0, 0) := rfl
theorem xf_82_71 : xcode 82 71 = some (.if_icmp .ne 21, 3, 92, 0) := rfl
theorem xf_82_74 : xcode 82 74 = some (.iload 4, 2, 0, 0) := rfl
theorem xf_82_76 : xcode 82 76 = some (.aload_n 0, 1, 0, 0) := rfl
theorem xf_82_77 : xcode 82 77 = some (.getfield 10, 3, 10, 0) := rfl
theorem xf_82_80 : xcode 82 80 = some (.getfield 170, 3, 6, 1) := rfl
theorem xf_82_83 : xcode 82 83 = some (.getfield 174, 3, 7, 0) := rfl
theorem xf_82_86 : xcode 82 86 = some (.iload 5, 2, 0, 0) := rfl
theorem xf_82_88 : xcode 82 88 = some (.iaload, 1, 0, 0) := rfl
theorem xf_82_89 : xcode 82 89 = some (.iadd, 1, 0, 0) := rfl
theorem xf_82_90 : xcode 82 90 = some (.istore 4, 2, 0, 0) := rfl
theorem xf_82_92 : xcode 82 92 = some (.iinc 5 1, 3, 0, 0) := rfl
theorem xf_82_95 : xcode 82 95 = some (.goto (-45), 3, 50, 0) := rfl
theorem xf_82_98 : xcode 82 98 = some (.iload 4, 2, 0, 0) := rfl
theorem xf_82_100 : xcode 82 100 = some (.ireturn, 1, 0, 0) := rfl
theorem xf_83_0 : xcode 83 0 = some (.aload_n 0, 1, 0, 0) := rfl
theorem xf_83_1 : xcode 83 1 = some (.getfield 10, 3, 10, 0) := rfl
theorem xf_83_4 : xcode 83 4 = some (.getfield 69, 3, 6, 0) := rfl
theorem xf_83_7 : xcode 83 7 = some (.getfield 211, 3, 2, 1) := rfl
theorem xf_83_10 : xcode 83 10 = some (.aload_n 0, 1, 0, 0) := rfl
theorem xf_83_11 : xcode 83 11 = some (.getfield 10, 3, 10, 0) := rfl
theorem xf_83_14 : xcode 83 14 = some (.getfield 69, 3, 6, 0) := rfl
theorem xf_83_17 : xcode 83 17 = some (.getfield 214, 3, 2, 0) := rfl
theorem xf_83_20 : xcode 83 20 = some (.iconst 1, 1, 0, 0) := rfl
theorem xf_83_21 : xcode 83 21 = some (.iadd, 1, 0, 0) := rfl
theorem xf_83_22 : xcode 83 22 = some (.imul, 1, 0, 0) := rfl
theorem xf_83_23 : xcode 83 23 = some (.iconst 1, 1, 0, 0) := rfl
theorem xf_83_24 : xcode 83 24 = some (.isub, 1, 0, 0) := rfl
theorem xf_83_25 : xcode 83 25 = some (.istore_n 2, 1, 0, 0) := rfl
theorem xf_83_26 : xcode 83 26 = some (.iload_n 1, 1, 0, 0) := rfl
theorem xf_83_27 : xcode 83 27 = some (.iconst (-1), 1, 0, 0) := rfl
theorem xf_83_28 : xcode 83 28 = some (.if_icmp .lt 8, 3, 36, 0) := rfl
theorem xf_83_31 : xcode 83 31 = some (.iload_n 1, 1, 0, 0) := rfl
theorem xf_83_32 : xcode 83 32 = some (.iload_n 2, 1, 0, 0) := rfl
theorem xf_83_33 : xcode 83 33 = some (.if_icmp .lt 13, 3, 46, 0) := rfl
theorem xf_83_36 : xcode 83 36 = some (.new 182, 3, 2, 9) := rfl
theorem xf_83_46 : xcode 83 46 = some (.iload_n 1, 1, 0, 0) := rfl
theorem xf_83_47 : xcode 83 47 = some (.iconst (-1), 1, 0, 0) := rfl
theorem xf_83_48 : xcode 83 48 = some (.if_icmp .ne 7, 3, 55, 0) := rfl
theorem xf_83_51 : xcode 83 51 = some (.iload_n 2, 1, 0, 0) := rfl
theorem xf_83_52 : xcode 83 52 = some (.goto 14, 3, 66, 0) := rfl
theorem xf_83_55 : xcode 83 55 = some (.aload_n 0, 1, 0, 0) := rfl
theorem xf_83_56 : xcode 83 56 = some (.getfield 10, 3, 10, 0) := rfl
theorem xf_83_59 : xcode 83 59 = some (.getfield 69, 3, 6, 0) := rfl
theorem xf_83_62 : xcode 83 62 = some (.iload_n 1, 1, 0, 0) := rfl
theorem xf_83_63 : xcode 83 63 = some (.invokestatic 219, 3, 35, 0) := rfl
theorem xf_83_66 : xcode 83 66 = some (.ireturn, 1, 0, 0) := rfl
theorem xf_84_0 : xcode 84 0 = some (.aload_n 0, 1, 0, 0) := rfl
theorem xf_84_1 : xcode 84 1 = some (.getfield 26, 3, 10, 3) := rfl
theorem xf_84_4 : xcode 84 4 = some (.aload_n 0, 1, 0, 0) := rfl
theorem xf_84_5 : xcode 84 5 = some (.getfield 10, 3, 10, 0) := rfl
theorem xf_84_8 : xcode 84 8 = some (.invokevirtual 114, 3, 1, 0) := rfl
theorem xf_84_11 : xcode 84 11 = some (.aload_n 0, 1, 0, 0) := rfl
theorem xf_84_12 : xcode 84 12 = some (.invokevirtual 130, 3, 112, 0) := rfl
theorem xf_84_15 : xcode 84 15 = some (.aload_n 0, 1, 0, 0) := rfl
theorem xf_84_16 : xcode 84 16 = some (.getfield 10, 3, 10, 0) := rfl
theorem xf_84_19 : xcode 84 19 = some (.getfield 69, 3, 6, 0) := rfl
theorem xf_84_22 : xcode 84 22 = some (.invokevirtual 133, 3, 19, 0) := rfl
theorem xf_84_25 : xcode 84 25 = some (.ireturn, 1, 0, 0) := rfl
theorem xf_85_0 : xcode 85 0 = some (.aload_n 0, 1, 0, 0) := rfl
theorem xf_85_1 : xcode 85 1 = some (.iload_n 1, 1, 0, 0) := rfl
theorem xf_85_2 : xcode 85 2 = some (.invokevirtual 136, 3, 116, 0) := rfl
theorem xf_85_5 : xcode 85 5 = some (.aload_n 0, 1, 0, 0) := rfl
theorem xf_85_6 : xcode 85 6 = some (.iload_n 1, 1, 0, 0) := rfl
theorem xf_85_7 : xcode 85 7 = some (.invokevirtual 154, 3, 117, 0) := rfl
theorem xf_85_10 : xcode 85 10 = some (.aload_n 0, 1, 0, 0) := rfl
theorem xf_85_11 : xcode 85 11 = some (.getfield 26, 3, 10, 3) := rfl
theorem xf_85_14 : xcode 85 14 = some (.aload_n 0, 1, 0, 0) := rfl
theorem xf_85_15 : xcode 85 15 = some (.getfield 10, 3, 10, 0) := rfl
theorem xf_85_18 : xcode 85 18 = some (.invokevirtual 114, 3, 1, 0) := rfl
theorem xf_85_21 : xcode 85 21 = some (.aload_n 0, 1, 0, 0) := rfl
theorem xf_85_22 : xcode 85 22 = some (.getfield 10, 3, 10, 0) := rfl
theorem xf_85_25 : xcode 85 25 = some (.getfield 73, 3, 6, 3) := rfl
theorem xf_85_28 : xcode 85 28 = some (.iload_n 1, 1, 0, 0) := rfl
theorem xf_85_29 : xcode 85 29 = some (.iaload, 1, 0, 0) := rfl
theorem xf_85_30 : xcode 85 30 = some (.istore_n 2, 1, 0, 0) := rfl
theorem xf_85_31 : xcode 85 31 = some (.iconst 0, 1, 0, 0) := rfl
theorem xf_85_32 : xcode 85 32 = some (.istore_n 3, 1, 0, 0) := rfl
theorem xf_85_33 : xcode 85 33 = some (.iload_n 3, 1, 0, 0) := rfl
theorem xf_85_34 : xcode 85 34 = some (.bipush 36, 2, 0, 0) := rfl
theorem xf_85_36 : xcode 85 36 = some (.if_icmp .ge 19, 3, 55, 0) := rfl
theorem xf_85_39 : xcode 85 39 = some (.aload_n 0, 1, 0, 0) := rfl
theorem xf_85_40 : xcode 85 40 = some (.getfield 10, 3, 10, 0) := rfl
theorem xf_85_43 : xcode 85 43 = some (.getfield 73, 3, 6, 3) := rfl
theorem xf_85_46 : xcode 85 46 = some (.iload_n 3, 1, 0, 0) := rfl
theorem xf_85_47 : xcode 85 47 = some (.iconst 0, 1, 0, 0) := rfl
theorem xf_85_48 : xcode 85 48 = some (.iastore, 1, 0, 0) := rfl
theorem xf_85_49 : xcode 85 49 = some (.iinc 3 1, 3, 0, 0) := rfl
theorem xf_85_52 : xcode 85 52 = some (.goto (-19), 3, 33, 0) := rfl
theorem xf_85_55 : xcode 85 55 = some (.aload_n 0, 1, 0, 0) := rfl
theorem xf_85_56 : xcode 85 56 = some (.getfield 10, 3, 10, 0) := rfl
theorem xf_85_59 : xcode 85 59 = some (.getfield 73, 3, 6, 3) := rfl
theorem xf_85_62 : xcode 85 62 = some (.iload_n 1, 1, 0, 0) := rfl
theorem xf_85_63 : xcode 85 63 = some (.ldc 223, 2, 3, 0) := rfl
theorem xf_85_65 : xcode 85 65 = some (.iastore, 1, 0, 0) := rfl
theorem xf_85_66 : xcode 85 66 = some (.aload_n 0, 1, 0, 0) := rfl
theorem xf_85_67 : xcode 85 67 = some (.getfield 10, 3, 10, 0) := rfl
theorem xf_85_70 : xcode 85 70 = some (.getfield 224, 3, 6, 2) := rfl
theorem xf_85_73 : xcode 85 73 = some (.iload_n 1, 1, 0, 0) := rfl
theorem xf_85_74 : xcode 85 74 = some (.invokevirtual 228, 3, 59, 0) := rfl
theorem xf_85_77 : xcode 85 77 = some (.iload_n 2, 1, 0, 0) := rfl
theorem xf_85_78 : xcode 85 78 = some (.ireturn, 1, 0, 0) := rfl
theorem xf_86_0 : xcode 86 0 = some (.iload_n 1, 1, 0, 0) := rfl
theorem xf_86_1 : xcode 86 1 = some (.invokestatic 204, 3, 122, 0) := rfl
theorem xf_86_4 : xcode 86 4 = some (.aload_n 0, 1, 0, 0) := rfl
theorem xf_86_5 : xcode 86 5 = some (.getfield 26, 3, 10, 3) := rfl
theorem xf_86_8 : xcode 86 8 = some (.aload_n 0, 1, 0, 0) := rfl
theorem xf_86_9 : xcode 86 9 = some (.getfield 10, 3, 10, 0) := rfl
theorem xf_86_12 : xcode 86 12 = some (.invokevirtual 114, 3, 1, 0) := rfl
theorem xf_86_15 : xcode 86 15 = some (.aload_n 0, 1, 0, 0) := rfl
theorem xf_86_16 : xcode 86 16 = some (.iload_n 1, 1, 0, 0) := rfl
theorem xf_86_17 : xcode 86 17 = some (.invokevirtual 233, 3, 113, 0) := rfl
theorem xf_86_20 : xcode 86 20 = some (.aload_n 0, 1, 0, 0) := rfl
theorem xf_86_21 : xcode 86 21 = some (.getfield 10, 3, 10, 0) := rfl
theorem xf_86_24 : xcode 86 24 = some (.invokevirtual 236, 3, 50, 0) := rfl
theorem xf_86_27 : xcode 86 27 = some (.ireturn, 1, 0, 0) := rfl
theorem xf_87_0 : xcode 87 0 = some (.iload_n 1, 1, 0, 0) := rfl
theorem xf_87_1 : xcode 87 1 = some (.invokestatic 151, 3, 121, 0) := rfl
theorem xf_87_4 : xcode 87 4 = some (.aload_n 0, 1, 0, 0) := rfl
theorem xf_87_5 : xcode 87 5 = some (.getfield 44, 3, 10, 6) := rfl
theorem xf_87_8 : xcode 87 8 = some (.aload_n 0, 1, 0, 0) := rfl
theorem xf_87_9 : xcode 87 9 = some (.getfield 10, 3, 10, 0) := rfl
theorem xf_87_12 : xcode 87 12 = some (.iload_n 1, 1, 0, 0) := rfl
theorem xf_87_13 : xcode 87 13 = some (.invokevirtual 239, 3, 9, 0) := rfl
theorem xf_87_16 : xcode 87 16 = some (.istore_n 2, 1, 0, 0) := rfl
theorem xf_87_17 : xcode 87 17 = some (.iload_n 2, 1, 0, 0) := rfl
theorem xf_87_18 : xcode 87 18 = some (.ifCond .ne 13, 3, 31, 0) := rfl
theorem xf_87_21 : xcode 87 21 = some (.new 99, 3, 1, 10) := rfl
theorem xf_87_31 : xcode 87 31 = some (.aload_n 0, 1, 0, 0) := rfl
theorem xf_87_32 : xcode 87 32 = some (.getfield 26, 3, 10, 3) := rfl
theorem xf_87_35 : xcode 87 35 = some (.aload_n 0, 1, 0, 0) := rfl
theorem xf_87_36 : xcode 87 36 = some (.getfield 10, 3, 10, 0) := rfl
theorem xf_87_39 : xcode 87 39 = some (.invokevirtual 114, 3, 1, 0) := rfl
theorem xf_87_42 : xcode 87 42 = some (.aload_n 0, 1, 0, 0) := rfl
theorem xf_87_43 : xcode 87 43 = some (.iload_n 1, 1, 0, 0) := rfl
theorem xf_87_44 : xcode 87 44 = some (.iload_n 2, 1, 0, 0) := rfl
theorem xf_87_45 : xcode 87 45 = some (.invokevirtual 245, 3, 114, 0) := rfl
theorem xf_87_48 : xcode 87 48 = some (.iload_n 2, 1, 0, 0) := rfl
theorem xf_87_49 : xcode 87 49 = some (.iconst 2, 1, 0, 0) := rfl
theorem xf_87_50 : xcode 87 50 = some (.if_icmp .ne 7, 3, 57, 0) := rfl
theorem xf_87_53 : xcode 87 53 = some (.iconst 1, 1, 0, 0) := rfl
theorem xf_87_54 : xcode 87 54 = some (.goto 4, 3, 58, 0) := rfl
theorem xf_87_57 : xcode 87 57 = some (.iconst 0, 1, 0, 0) := rfl
theorem xf_87_58 : xcode 87 58 = some (.ireturn, 1, 0, 0) := rfl
theorem xf_88_0 : xcode 88 0 = some (.aload_n 0, 1, 0, 0) := rfl
theorem xf_88_1 : xcode 88 1 = some (.iload_n 1, 1, 0, 0) := rfl
theorem xf_88_2 : xcode 88 2 = some (.invokevirtual 136, 3, 116, 0) := rfl
theorem xf_88_5 : xcode 88 5 = some (.aload_n 0, 1, 0, 0) := rfl
theorem xf_88_6 : xcode 88 6 = some (.getfield 10, 3, 10, 0) := rfl
theorem xf_88_9 : xcode 88 9 = some (.getfield 73, 3, 6, 3) := rfl
theorem xf_88_12 : xcode 88 12 = some (.iload_n 1, 1, 0, 0) := rfl
theorem xf_88_13 : xcode 88 13 = some (.iaload, 1, 0, 0) := rfl
theorem xf_88_14 : xcode 88 14 = some (.ireturn, 1, 0, 0) := rfl
theorem xf_89_0 : xcode 89 0 = some (.aload_n 0, 1, 0, 0) := rfl
theorem xf_89_1 : xcode 89 1 = some (.iload_n 1, 1, 0, 0) := rfl
theorem xf_89_2 : xcode 89 2 = some (.invokevirtual 136, 3, 116, 0) := rfl
theorem xf_89_5 : xcode 89 5 = some (.aload_n 0, 1, 0, 0) := rfl
theorem xf_89_6 : xcode 89 6 = some (.getfield 51, 3, 10, 7) := rfl
theorem xf_89_9 : xcode 89 9 = some (.aload_n 0, 1, 0, 0) := rfl
theorem xf_89_10 : xcode 89 10 = some (.getfield 10, 3, 10, 0) := rfl
theorem xf_89_13 : xcode 89 13 = some (.invokevirtual 248, 3, 37, 0) := rfl
theorem xf_89_16 : xcode 89 16 = some (.aload_n 0, 1, 0, 0) := rfl
theorem xf_89_17 : xcode 89 17 = some (.getfield 51, 3, 10, 7) := rfl
theorem xf_89_20 : xcode 89 20 = some (.getfield 251, 3, 4, 0) := rfl
theorem xf_89_23 : xcode 89 23 = some (.iload_n 1, 1, 0, 0) := rfl
theorem xf_89_24 : xcode 89 24 = some (.iaload, 1, 0, 0) := rfl
theorem xf_89_25 : xcode 89 25 = some (.ireturn, 1, 0, 0) := rfl
theorem xf_90_0 : xcode 90 0 = some (.iload_n 1, 1, 0, 0) := rfl
theorem xf_90_1 : xcode 90 1 = some (.iconst 1, 1, 0, 0) := rfl
theorem xf_90_2 : xcode 90 2 = some (.invokestatic 187, 3, 124, 0) := rfl
theorem xf_90_5 : xcode 90 5 = some (.aload_n 0, 1, 0, 0) := rfl
theorem xf_90_6 : xcode 90 6 = some (.getfield 51, 3, 10, 7) := rfl
theorem xf_90_9 : xcode 90 9 = some (.aload_n 0, 1, 0, 0) := rfl
theorem xf_90_10 : xcode 90 10 = some (.getfield 10, 3, 10, 0) := rfl
theorem xf_90_13 : xcode 90 13 = some (.invokevirtual 248, 3, 37, 0) := rfl
theorem xf_90_16 : xcode 90 16 = some (.aload_n 0, 1, 0, 0) := rfl
theorem xf_90_17 : xcode 90 17 = some (.getfield 10, 3, 10, 0) := rfl
theorem xf_90_20 : xcode 90 20 = some (.getfield 69, 3, 6, 0) := rfl
theorem xf_90_23 : xcode 90 23 = some (.invokevirtual 254, 3, 15, 0) := rfl
theorem xf_90_26 : xcode 90 26 = some (.istore_n 2, 1, 0, 0) := rfl
theorem xf_90_27 : xcode 90 27 = some (.iconst 0, 1, 0, 0) := rfl
theorem xf_90_28 : xcode 90 28 = some (.istore_n 3, 1, 0, 0) := rfl
theorem xf_90_29 : xcode 90 29 = some (.iconst 0, 1, 0, 0) := rfl
theorem xf_90_30 : xcode 90 30 = some (.istore 4, 2, 0, 0) := rfl
theorem xf_90_32 : xcode 90 32 = some (.iload 4, 2, 0, 0) := rfl
theorem xf_90_34 : xcode 90 34 = some (.iload_n 2, 1, 0, 0) := rfl
theorem xf_90_35 : xcode 90 35 = some (.if_icmp .ge 31, 3, 66, 0) := rfl
theorem xf_90_38 : xcode 90 38 = some (.iload_n 3, 1, 0, 0) := rfl
theorem xf_90_39 : xcode 90 39 = some (.iload_n 1, 1, 0, 0) := rfl
theorem xf_90_40 : xcode 90 40 = some (.sipush 10000, 3, 0, 0) := rfl
theorem xf_90_43 : xcode 90 43 = some (.imul, 1, 0, 0) := rfl
theorem xf_90_44 : xcode 90 44 = some (.if_icmp .ge 22, 3, 66, 0) := rfl
theorem xf_90_47 : xcode 90 47 = some (.iload_n 3, 1, 0, 0) := rfl
theorem xf_90_48 : xcode 90 48 = some (.aload_n 0, 1, 0, 0) := rfl
theorem xf_90_49 : xcode 90 49 = some (.getfield 51, 3, 10, 7) := rfl
theorem xf_90_52 : xcode 90 52 = some (.getfield 257, 3, 4, 1) := rfl
theorem xf_90_55 : xcode 90 55 = some (.iload 4, 2, 0, 0) := rfl
theorem xf_90_57 : xcode 90 57 = some (.iaload, 1, 0, 0) := rfl
theorem xf_90_58 : xcode 90 58 = some (.iadd, 1, 0, 0) := rfl
theorem xf_90_59 : xcode 90 59 = some (.istore_n 3, 1, 0, 0) := rfl
theorem xf_90_60 : xcode 90 60 = some (.iinc 4 1, 3, 0, 0) := rfl
theorem xf_90_63 : xcode 90 63 = some (.goto (-31), 3, 32, 0) := rfl
theorem xf_90_66 : xcode 90 66 = some (.iload 4, 2, 0, 0) := rfl
theorem xf_90_68 : xcode 90 68 = some (.ireturn, 1, 0, 0) := rfl
theorem xf_91_0 : xcode 91 0 = some (.dconst 0, 1, 0, 0) := rfl
theorem xf_91_1 : xcode 91 1 = some (.dstore_n 1, 1, 0, 0) := rfl
theorem xf_91_2 : xcode 91 2 = some (.aload_n 0, 1, 0, 0) := rfl
theorem xf_91_3 : xcode 91 3 = some (.getfield 10, 3, 10, 0) := rfl
theorem xf_91_6 : xcode 91 6 = some (.getfield 69, 3, 6, 0) := rfl
theorem xf_91_9 : xcode 91 9 = some (.invokevirtual 254, 3, 15, 0) := rfl
theorem xf_91_12 : xcode 91 12 = some (.istore_n 3, 1, 0, 0) := rfl
theorem xf_91_13 : xcode 91 13 = some (.iconst 0, 1, 0, 0) := rfl
theorem xf_91_14 : xcode 91 14 = some (.istore 4, 2, 0, 0) := rfl
theorem xf_91_16 : xcode 91 16 = some (.iload 4, 2, 0, 0) := rfl
theorem xf_91_18 : xcode 91 18 = some (.iload_n 3, 1, 0, 0) := rfl
theorem xf_91_19 : xcode 91 19 = some (.if_icmp .ge 34, 3, 53, 0) := rfl
theorem xf_91_22 : xcode 91 22 = some (.aload_n 0, 1, 0, 0) := rfl
theorem xf_91_23 : xcode 91 23 = some (.getfield 10, 3, 10, 0) := rfl
theorem xf_91_26 : xcode 91 26 = some (.getfield 73, 3, 6, 3) := rfl
theorem xf_91_29 : xcode 91 29 = some (.iload 4, 2, 0, 0) := rfl
theorem xf_91_31 : xcode 91 31 = some (.iaload, 1, 0, 0) := rfl
theorem xf_91_32 : xcode 91 32 = some (.i2d, 1, 0, 0) := rfl
theorem xf_91_33 : xcode 91 33 = some (.ldc2_w 258, 3, 5, 0) := rfl
theorem xf_91_36 : xcode 91 36 = some (.ddiv, 1, 0, 0) := rfl
theorem xf_91_37 : xcode 91 37 = some (.dstore 5, 2, 0, 0) := rfl
theorem xf_91_39 : xcode 91 39 = some (.dload_n 1, 1, 0, 0) := rfl
theorem xf_91_40 : xcode 91 40 = some (.dload 5, 2, 0, 0) := rfl
theorem xf_91_42 : xcode 91 42 = some (.dload 5, 2, 0, 0) := rfl
theorem xf_91_44 : xcode 91 44 = some (.dmul, 1, 0, 0) := rfl
theorem xf_91_45 : xcode 91 45 = some (.dadd, 1, 0, 0) := rfl
theorem xf_91_46 : xcode 91 46 = some (.dstore_n 1, 1, 0, 0) := rfl
theorem xf_91_47 : xcode 91 47 = some (.iinc 4 1, 3, 0, 0) := rfl
theorem xf_91_50 : xcode 91 50 = some (.goto (-34), 3, 16, 0) := rfl
theorem xf_91_53 : xcode 91 53 = some (.dconst 1, 1, 0, 0) := rfl
theorem xf_91_54 : xcode 91 54 = some (.dload_n 1, 1, 0, 0) := rfl
theorem xf_91_55 : xcode 91 55 = some (.dsub, 1, 0, 0) := rfl
theorem xf_91_56 : xcode 91 56 = some (.invokestatic 260, 3, 127, 0) := rfl
theorem xf_91_59 : xcode 91 59 = some (.lreturn, 1, 0, 0) := rfl
theorem xf_92_0 : xcode 92 0 = some (.aload_n 0, 1, 0, 0) := rfl
theorem xf_92_1 : xcode 92 1 = some (.getfield 10, 3, 10, 0) := rfl
theorem xf_92_4 : xcode 92 4 = some (.invokevirtual 236, 3, 50, 0) := rfl
theorem xf_92_7 : xcode 92 7 = some (.i2f, 1, 0, 0) := rfl
theorem xf_92_8 : xcode 92 8 = some (.ldc_w 264, 3, 6, 0) := rfl
theorem xf_92_11 : xcode 92 11 = some (.fdiv, 1, 0, 0) := rfl
theorem xf_92_12 : xcode 92 12 = some (.invokestatic 265, 3, 128, 0) := rfl
theorem xf_92_15 : xcode 92 15 = some (.ireturn, 1, 0, 0) := rfl
theorem xf_93_0 : xcode 93 0 = some (.iconst 0, 1, 0, 0) := rfl
theorem xf_93_1 : xcode 93 1 = some (.istore_n 1, 1, 0, 0) := rfl
theorem xf_93_2 : xcode 93 2 = some (.ldc2_w 269, 3, 4, 0) := rfl
theorem xf_93_5 : xcode 93 5 = some (.lstore_n 2, 1, 0, 0) := rfl
theorem xf_93_6 : xcode 93 6 = some (.iconst 0, 1, 0, 0) := rfl
theorem xf_93_7 : xcode 93 7 = some (.istore 4, 2, 0, 0) := rfl
theorem xf_93_9 : xcode 93 9 = some (.iload 4, 2, 0, 0) := rfl
theorem xf_93_11 : xcode 93 11 = some (.iconst 4, 1, 0, 0) := rfl
theorem xf_93_12 : xcode 93 12 = some (.if_icmp .ge 37, 3, 49, 0) := rfl
theorem xf_93_15 : xcode 93 15 = some (.aload_n 0, 1, 0, 0) := rfl
theorem xf_93_16 : xcode 93 16 = some (.getfield 44, 3, 10, 6) := rfl
theorem xf_93_19 : xcode 93 19 = some (.aload_n 0, 1, 0, 0) := rfl
theorem xf_93_20 : xcode 93 20 = some (.getfield 10, 3, 10, 0) := rfl
theorem xf_93_23 : xcode 93 23 = some (.iload 4, 2, 0, 0) := rfl
theorem xf_93_25 : xcode 93 25 = some (.invokevirtual 271, 3, 10, 0) := rfl
theorem xf_93_28 : xcode 93 28 = some (.lstore 5, 2, 0, 0) := rfl
theorem xf_93_30 : xcode 93 30 = some (.lload 5, 2, 0, 0) := rfl
theorem xf_93_32 : xcode 93 32 = some (.lload_n 2, 1, 0, 0) := rfl
theorem xf_93_33 : xcode 93 33 = some (.lcmp, 1, 0, 0) := rfl
theorem xf_93_34 : xcode 93 34 = some (.ifCond .le 9, 3, 43, 0) := rfl
theorem xf_93_37 : xcode 93 37 = some (.lload 5, 2, 0, 0) := rfl
theorem xf_93_39 : xcode 93 39 = some (.lstore_n 2, 1, 0, 0) := rfl
theorem xf_93_40 : xcode 93 40 = some (.iload 4, 2, 0, 0) := rfl
theorem xf_93_42 : xcode 93 42 = some (.istore_n 1, 1, 0, 0) := rfl
theorem xf_93_43 : xcode 93 43 = some (.iinc 4 1, 3, 0, 0) := rfl
theorem xf_93_46 : xcode 93 46 = some (.goto (-37), 3, 9, 0) := rfl
theorem xf_93_49 : xcode 93 49 = some (.iload_n 1, 1, 0, 0) := rfl
theorem xf_93_50 : xcode 93 50 = some (.ireturn, 1, 0, 0) := rfl
theorem xf_94_0 : xcode 94 0 = some (.iload_n 1, 1, 0, 0) := rfl
theorem xf_94_1 : xcode 94 1 = some (.tableswitch 60 0 2 #[27, 38, 49], 27, 0, 0) := rfl
theorem xf_94_28 : xcode 94 28 = some (.aload_n 0, 1, 0, 0) := rfl
theorem xf_94_29 : xcode 94 29 = some (.getfield 10, 3, 10, 0) := rfl
theorem xf_94_32 : xcode 94 32 = some (.getfield 224, 3, 6, 2) := rfl
theorem xf_94_35 : xcode 94 35 = some (.invokevirtual 275, 3, 58, 0) := rfl
theorem xf_94_38 : xcode 94 38 = some (.ireturn, 1, 0, 0) := rfl
theorem xf_94_39 : xcode 94 39 = some (.aload_n 0, 1, 0, 0) := rfl
theorem xf_94_40 : xcode 94 40 = some (.getfield 10, 3, 10, 0) := rfl
theorem xf_94_43 : xcode 94 43 = some (.getfield 224, 3, 6, 2) := rfl
theorem xf_94_46 : xcode 94 46 = some (.getfield 278, 3, 8, 1) := rfl
theorem xf_94_49 : xcode 94 49 = some (.ireturn, 1, 0, 0) := rfl
theorem xf_94_50 : xcode 94 50 = some (.aload_n 0, 1, 0, 0) := rfl
theorem xf_94_51 : xcode 94 51 = some (.getfield 10, 3, 10, 0) := rfl
theorem xf_94_54 : xcode 94 54 = some (.getfield 224, 3, 6, 2) := rfl
theorem xf_94_57 : xcode 94 57 = some (.getfield 281, 3, 8, 2) := rfl
theorem xf_94_60 : xcode 94 60 = some (.ireturn, 1, 0, 0) := rfl
theorem xf_94_61 : xcode 94 61 = some (.new 85, 3, 0, 11) := rfl
theorem xf_95_0 : xcode 95 0 = some (.aload_n 0, 1, 0, 0) := rfl
theorem xf_95_1 : xcode 95 1 = some (.getfield 10, 3, 10, 0) := rfl
theorem xf_95_4 : xcode 95 4 = some (.getfield 224, 3, 6, 2) := rfl
theorem xf_95_7 : xcode 95 7 = some (.invokevirtual 275, 3, 58, 0) := rfl
theorem xf_95_10 : xcode 95 10 = some (.istore_n 2, 1, 0, 0) := rfl
theorem xf_95_11 : xcode 95 11 = some (.iload_n 1, 1, 0, 0) := rfl
theorem xf_95_12 : xcode 95 12 = some (.ifCond .lt 14, 3, 26, 0) := rfl
theorem xf_95_15 : xcode 95 15 = some (.iload_n 1, 1, 0, 0) := rfl
theorem xf_95_16 : xcode 95 16 = some (.iload_n 2, 1, 0, 0) := rfl
theorem xf_95_17 : xcode 95 17 = some (.if_icmp .ge 9, 3, 26, 0) := rfl
theorem xf_95_20 : xcode 95 20 = some (.iload_n 2, 1, 0, 0) := rfl
theorem xf_95_21 : xcode 95 21 = some (.bipush 8, 2, 0, 0) := rfl
theorem xf_95_23 : xcode 95 23 = some (.if_icmp .le 14, 3, 37, 0) := rfl
theorem xf_95_26 : xcode 95 26 = some (.new 286, 3, 3, 12) := rfl
theorem xf_95_37 : xcode 95 37 = some (.aload_n 0, 1, 0, 0) := rfl
theorem xf_95_38 : xcode 95 38 = some (.getfield 10, 3, 10, 0) := rfl
theorem xf_95_41 : xcode 95 41 = some (.getfield 224, 3, 6, 2) := rfl
theorem xf_95_44 : xcode 95 44 = some (.getfield 291, 3, 8, 3) := rfl
theorem xf_95_47 : xcode 95 47 = some (.iload_n 1, 1, 0, 0) := rfl
theorem xf_95_48 : xcode 95 48 = some (.iaload, 1, 0, 0) := rfl
theorem xf_95_49 : xcode 95 49 = some (.ireturn, 1, 0, 0) := rfl
theorem xf_96_0 : xcode 96 0 = some (.aload_n 0, 1, 0, 0) := rfl
theorem xf_96_1 : xcode 96 1 = some (.iload_n 1, 1, 0, 0) := rfl
theorem xf_96_2 : xcode 96 2 = some (.invokevirtual 136, 3, 116, 0) := rfl
theorem xf_96_5 : xcode 96 5 = some (.aload_n 0, 1, 0, 0) := rfl
theorem xf_96_6 : xcode 96 6 = some (.invokevirtual 294, 3, 119, 0) := rfl
theorem xf_96_9 : xcode 96 9 = some (.aload_n 0, 1, 0, 0) := rfl
theorem xf_96_10 : xcode 96 10 = some (.getfield 58, 3, 10, 8) := rfl
theorem xf_96_13 : xcode 96 13 = some (.aload_n 0, 1, 0, 0) := rfl
theorem xf_96_14 : xcode 96 14 = some (.getfield 10, 3, 10, 0) := rfl
theorem xf_96_17 : xcode 96 17 = some (.invokevirtual 297, 3, 39, 0) := rfl
theorem xf_96_20 : xcode 96 20 = some (.aload_n 0, 1, 0, 0) := rfl
theorem xf_96_21 : xcode 96 21 = some (.getfield 58, 3, 10, 8) := rfl
theorem xf_96_24 : xcode 96 24 = some (.getfield 300, 3, 5, 0) := rfl
theorem xf_96_27 : xcode 96 27 = some (.iload_n 1, 1, 0, 0) := rfl
theorem xf_96_28 : xcode 96 28 = some (.laload, 1, 0, 0) := rfl
theorem xf_96_29 : xcode 96 29 = some (.lreturn, 1, 0, 0) := rfl
theorem xf_97_0 : xcode 97 0 = some (.aload_n 0, 1, 0, 0) := rfl
theorem xf_97_1 : xcode 97 1 = some (.invokevirtual 294, 3, 119, 0) := rfl
theorem xf_97_4 : xcode 97 4 = some (.aload_n 0, 1, 0, 0) := rfl
theorem xf_97_5 : xcode 97 5 = some (.getfield 58, 3, 10, 8) := rfl
theorem xf_97_8 : xcode 97 8 = some (.aload_n 0, 1, 0, 0) := rfl
theorem xf_97_9 : xcode 97 9 = some (.getfield 10, 3, 10, 0) := rfl
theorem xf_97_12 : xcode 97 12 = some (.invokevirtual 297, 3, 39, 0) := rfl
theorem xf_97_15 : xcode 97 15 = some (.aload_n 0, 1, 0, 0) := rfl
theorem xf_97_16 : xcode 97 16 = some (.getfield 10, 3, 10, 0) := rfl
theorem xf_97_19 : xcode 97 19 = some (.getfield 69, 3, 6, 0) := rfl
theorem xf_97_22 : xcode 97 22 = some (.invokevirtual 254, 3, 15, 0) := rfl
theorem xf_97_25 : xcode 97 25 = some (.istore_n 1, 1, 0, 0) := rfl
theorem xf_97_26 : xcode 97 26 = some (.iconst 0, 1, 0, 0) := rfl
theorem xf_97_27 : xcode 97 27 = some (.istore_n 2, 1, 0, 0) := rfl
theorem xf_97_28 : xcode 97 28 = some (.iconst 1, 1, 0, 0) := rfl
theorem xf_97_29 : xcode 97 29 = some (.istore_n 3, 1, 0, 0) := rfl
theorem xf_97_30 : xcode 97 30 = some (.iload_n 3, 1, 0, 0) := rfl
theorem xf_97_31 : xcode 97 31 = some (.iload_n 1, 1, 0, 0) := rfl
theorem xf_97_32 : xcode 97 32 = some (.if_icmp .ge 33, 3, 65, 0) := rfl
theorem xf_97_35 : xcode 97 35 = some (.aload_n 0, 1, 0, 0) := rfl
theorem xf_97_36 : xcode 97 36 = some (.getfield 58, 3, 10, 8) := rfl
theorem xf_97_39 : xcode 97 39 = some (.getfield 300, 3, 5, 0) := rfl
theorem xf_97_42 : xcode 97 42 = some (.iload_n 3, 1, 0, 0) := rfl
theorem xf_97_43 : xcode 97 43 = some (.laload, 1, 0, 0) := rfl
theorem xf_97_44 : xcode 97 44 = some (.aload_n 0, 1, 0, 0) := rfl
theorem xf_97_45 : xcode 97 45 = some (.getfield 58, 3, 10, 8) := rfl
theorem xf_97_48 : xcode 97 48 = some (.getfield 300, 3, 5, 0) := rfl
theorem xf_97_51 : xcode 97 51 = some (.iload_n 2, 1, 0, 0) := rfl
theorem xf_97_52 : xcode 97 52 = some (.laload, 1, 0, 0) := rfl
theorem xf_97_53 : xcode 97 53 = some (.lcmp, 1, 0, 0) := rfl
theorem xf_97_54 : xcode 97 54 = some (.ifCond .le 5, 3, 59, 0) := rfl
theorem xf_97_57 : xcode 97 57 = some (.iload_n 3, 1, 0, 0) := rfl
theorem xf_97_58 : xcode 97 58 = some (.istore_n 2, 1, 0, 0) := rfl
theorem xf_97_59 : xcode 97 59 = some (.iinc 3 1, 3, 0, 0) := rfl
theorem xf_97_62 : xcode 97 62 = some (.goto (-32), 3, 30, 0) := rfl
theorem xf_97_65 : xcode 97 65 = some (.iload_n 2, 1, 0, 0) := rfl
theorem xf_97_66 : xcode 97 66 = some (.ireturn, 1, 0, 0) := rfl
theorem xf_98_0 : xcode 98 0 = some (.aload_n 0, 1, 0, 0) := rfl
theorem xf_98_1 : xcode 98 1 = some (.invokevirtual 294, 3, 119, 0) := rfl
theorem xf_98_4 : xcode 98 4 = some (.iload_n 1, 1, 0, 0) := rfl
theorem xf_98_5 : xcode 98 5 = some (.ifCond .lt 17, 3, 22, 0) := rfl
theorem xf_98_8 : xcode 98 8 = some (.iload_n 1, 1, 0, 0) := rfl
theorem xf_98_9 : xcode 98 9 = some (.aload_n 0, 1, 0, 0) := rfl
theorem xf_98_10 : xcode 98 10 = some (.getfield 10, 3, 10, 0) := rfl
theorem xf_98_13 : xcode 98 13 = some (.getfield 224, 3, 6, 2) := rfl
theorem xf_98_16 : xcode 98 16 = some (.invokevirtual 275, 3, 58, 0) := rfl
theorem xf_98_19 : xcode 98 19 = some (.if_icmp .le 14, 3, 33, 0) := rfl
theorem xf_98_22 : xcode 98 22 = some (.new 182, 3, 2, 13) := rfl
theorem xf_98_33 : xcode 98 33 = some (.aload_n 0, 1, 0, 0) := rfl
theorem xf_98_34 : xcode 98 34 = some (.getfield 58, 3, 10, 8) := rfl
theorem xf_98_37 : xcode 98 37 = some (.aload_n 0, 1, 0, 0) := rfl
theorem xf_98_38 : xcode 98 38 = some (.getfield 10, 3, 10, 0) := rfl
theorem xf_98_41 : xcode 98 41 = some (.invokevirtual 306, 3, 42, 0) := rfl
theorem xf_98_44 : xcode 98 44 = some (.pop2, 1, 0, 0) := rfl
theorem xf_98_45 : xcode 98 45 = some (.aload_n 0, 1, 0, 0) := rfl
theorem xf_98_46 : xcode 98 46 = some (.getfield 58, 3, 10, 8) := rfl
theorem xf_98_49 : xcode 98 49 = some (.getfield 310, 3, 5, 3) := rfl
theorem xf_98_52 : xcode 98 52 = some (.iload_n 1, 1, 0, 0) := rfl
theorem xf_98_53 : xcode 98 53 = some (.iaload, 1, 0, 0) := rfl
theorem xf_98_54 : xcode 98 54 = some (.ireturn, 1, 0, 0) := rfl
theorem xf_99_0 : xcode 99 0 = some (.aload_n 0, 1, 0, 0) := rfl
theorem xf_99_1 : xcode 99 1 = some (.invokevirtual 294, 3, 119, 0) := rfl
theorem xf_99_4 : xcode 99 4 = some (.aload_n 0, 1, 0, 0) := rfl
theorem xf_99_5 : xcode 99 5 = some (.getfield 58, 3, 10, 8) := rfl
theorem xf_99_8 : xcode 99 8 = some (.aload_n 0, 1, 0, 0) := rfl
theorem xf_99_9 : xcode 99 9 = some (.getfield 10, 3, 10, 0) := rfl
theorem xf_99_12 : xcode 99 12 = some (.invokevirtual 306, 3, 42, 0) := rfl
theorem xf_99_15 : xcode 99 15 = some (.lreturn, 1, 0, 0) := rfl
theorem xf_100_0 : xcode 100 0 = some (.aload_n 0, 1, 0, 0) := rfl
theorem xf_100_1 : xcode 100 1 = some (.iload_n 1, 1, 0, 0) := rfl
theorem xf_100_2 : xcode 100 2 = some (.iload_n 2, 1, 0, 0) := rfl
theorem xf_100_3 : xcode 100 3 = some (.invokevirtual 313, 3, 118, 0) := rfl
theorem xf_100_6 : xcode 100 6 = some (.aload_n 0, 1, 0, 0) := rfl
theorem xf_100_7 : xcode 100 7 = some (.getfield 65, 3, 10, 9) := rfl
theorem xf_100_10 : xcode 100 10 = some (.getfield 316, 3, 9, 0) := rfl
theorem xf_100_13 : xcode 100 13 = some (.iload_n 1, 1, 0, 0) := rfl
theorem xf_100_14 : xcode 100 14 = some (.iaload, 1, 0, 0) := rfl
theorem xf_100_15 : xcode 100 15 = some (.ireturn, 1, 0, 0) := rfl
theorem xf_101_0 : xcode 101 0 = some (.aload_n 0, 1, 0, 0) := rfl
theorem xf_101_1 : xcode 101 1 = some (.iload_n 1, 1, 0, 0) := rfl
theorem xf_101_2 : xcode 101 2 = some (.iload_n 2, 1, 0, 0) := rfl
theorem xf_101_3 : xcode 101 3 = some (.invokevirtual 313, 3, 118, 0) := rfl
theorem xf_101_6 : xcode 101 6 = some (.iload_n 1, 1, 0, 0) := rfl
theorem xf_101_7 : xcode 101 7 = some (.iload_n 2, 1, 0, 0) := rfl
theorem xf_101_8 : xcode 101 8 = some (.if_icmp .ne 14, 3, 22, 0) := rfl
theorem xf_101_11 : xcode 101 11 = some (.new 286, 3, 3, 14) := rfl
theorem xf_101_22 : xcode 101 22 = some (.aload_n 0, 1, 0, 0) := rfl
theorem xf_101_23 : xcode 101 23 = some (.getfield 65, 3, 10, 9) := rfl
theorem xf_101_26 : xcode 101 26 = some (.aload_n 0, 1, 0, 0) := rfl
theorem xf_101_27 : xcode 101 27 = some (.getfield 10, 3, 10, 0) := rfl
theorem xf_101_30 : xcode 101 30 = some (.getfield 69, 3, 6, 0) := rfl
theorem xf_101_33 : xcode 101 33 = some (.iload_n 1, 1, 0, 0) := rfl
theorem xf_101_34 : xcode 101 34 = some (.invokevirtual 319, 3, 69, 0) := rfl
theorem xf_101_37 : xcode 101 37 = some (.ireturn, 1, 0, 0) := rfl
theorem xf_102_0 : xcode 102 0 = some (.aload_n 0, 1, 0, 0) := rfl
theorem xf_102_1 : xcode 102 1 = some (.iload_n 1, 1, 0, 0) := rfl
theorem xf_102_2 : xcode 102 2 = some (.invokevirtual 136, 3, 116, 0) := rfl
theorem xf_102_5 : xcode 102 5 = some (.aload_n 0, 1, 0, 0) := rfl
theorem xf_102_6 : xcode 102 6 = some (.iload_n 1, 1, 0, 0) := rfl
theorem xf_102_7 : xcode 102 7 = some (.invokevirtual 154, 3, 117, 0) := rfl
theorem xf_102_10 : xcode 102 10 = some (.aload_n 0, 1, 0, 0) := rfl
theorem xf_102_11 : xcode 102 11 = some (.getfield 65, 3, 10, 9) := rfl
theorem xf_102_14 : xcode 102 14 = some (.aload_n 0, 1, 0, 0) := rfl
theorem xf_102_15 : xcode 102 15 = some (.getfield 10, 3, 10, 0) := rfl
theorem xf_102_18 : xcode 102 18 = some (.getfield 69, 3, 6, 0) := rfl
theorem xf_102_21 : xcode 102 21 = some (.iload_n 1, 1, 0, 0) := rfl
theorem xf_102_22 : xcode 102 22 = some (.invokevirtual 322, 3, 66, 0) := rfl
theorem xf_102_25 : xcode 102 25 = some (.lconst 0, 1, 0, 0) := rfl
theorem xf_102_26 : xcode 102 26 = some (.lstore_n 2, 1, 0, 0) := rfl
theorem xf_102_27 : xcode 102 27 = some (.aload_n 0, 1, 0, 0) := rfl
theorem xf_102_28 : xcode 102 28 = some (.getfield 10, 3, 10, 0) := rfl
theorem xf_102_31 : xcode 102 31 = some (.getfield 69, 3, 6, 0) := rfl
theorem xf_102_34 : xcode 102 34 = some (.invokevirtual 254, 3, 15, 0) := rfl
theorem xf_102_37 : xcode 102 37 = some (.istore 4, 2, 0, 0) := rfl
theorem xf_102_39 : xcode 102 39 = some (.iconst 0, 1, 0, 0) := rfl
theorem xf_102_40 : xcode 102 40 = some (.istore 5, 2, 0, 0) := rfl
theorem xf_102_42 : xcode 102 42 = some (.iload 5, 2, 0, 0) := rfl
theorem xf_102_44 : xcode 102 44 = some (.iload 4, 2, 0, 0) := rfl
theorem xf_102_46 : xcode 102 46 = some (.if_icmp .ge 59, 3, 105, 0) := rfl
theorem xf_102_49 : xcode 102 49 = some (.aload_n 0, 1, 0, 0) := rfl
theorem xf_102_50 : xcode 102 50 = some (.getfield 65, 3, 10, 9) := rfl
theorem xf_102_53 : xcode 102 53 = some (.getfield 316, 3, 9, 0) := rfl
theorem xf_102_56 : xcode 102 56 = some (.iload 5, 2, 0, 0) := rfl
theorem xf_102_58 : xcode 102 58 = some (.iaload, 1, 0, 0) := rfl
theorem xf_102_59 : xcode 102 59 = some (.ldc 223, 2, 3, 0) := rfl
theorem xf_102_61 : xcode 102 61 = some (.if_icmp .ge 16, 3, 77, 0) := rfl
theorem xf_102_64 : xcode 102 64 = some (.aload_n 0, 1, 0, 0) := rfl
theorem xf_102_65 : xcode 102 65 = some (.getfield 65, 3, 10, 9) := rfl
theorem xf_102_68 : xcode 102 68 = some (.getfield 316, 3, 9, 0) := rfl
theorem xf_102_71 : xcode 102 71 = some (.iload 5, 2, 0, 0) := rfl
theorem xf_102_73 : xcode 102 73 = some (.iaload, 1, 0, 0) := rfl
theorem xf_102_74 : xcode 102 74 = some (.goto 5, 3, 79, 0) := rfl
theorem xf_102_77 : xcode 102 77 = some (.bipush 100, 2, 0, 0) := rfl
theorem xf_102_79 : xcode 102 79 = some (.istore 6, 2, 0, 0) := rfl
theorem xf_102_81 : xcode 102 81 = some (.lload_n 2, 1, 0, 0) := rfl
theorem xf_102_82 : xcode 102 82 = some (.aload_n 0, 1, 0, 0) := rfl
theorem xf_102_83 : xcode 102 83 = some (.getfield 10, 3, 10, 0) := rfl
theorem xf_102_86 : xcode 102 86 = some (.getfield 73, 3, 6, 3) := rfl
theorem xf_102_89 : xcode 102 89 = some (.iload 5, 2, 0, 0) := rfl
theorem xf_102_91 : xcode 102 91 = some (.iaload, 1, 0, 0) := rfl
theorem xf_102_92 : xcode 102 92 = some (.i2l, 1, 0, 0) := rfl
theorem xf_102_93 : xcode 102 93 = some (.iload 6, 2, 0, 0) := rfl
theorem xf_102_95 : xcode 102 95 = some (.i2l, 1, 0, 0) := rfl
theorem xf_102_96 : xcode 102 96 = some (.lmul, 1, 0, 0) := rfl
theorem xf_102_97 : xcode 102 97 = some (.ladd, 1, 0, 0) := rfl
theorem xf_102_98 : xcode 102 98 = some (.lstore_n 2, 1, 0, 0) := rfl
theorem xf_102_99 : xcode 102 99 = some (.iinc 5 1, 3, 0, 0) := rfl
theorem xf_102_102 : xcode 102 102 = some (.goto (-60), 3, 42, 0) := rfl
theorem xf_102_105 : xcode 102 105 = some (.lload_n 2, 1, 0, 0) := rfl
theorem xf_102_106 : xcode 102 106 = some (.ldc2_w 326, 3, 2, 0) := rfl
theorem xf_102_109 : xcode 102 109 = some (.ldiv, 1, 0, 0) := rfl
theorem xf_102_110 : xcode 102 110 = some (.l2i, 1, 0, 0) := rfl
theorem xf_102_111 : xcode 102 111 = some (.ireturn, 1, 0, 0) := rfl
theorem xf_103_0 : xcode 103 0 = some (.aload_n 0, 1, 0, 0) := rfl
theorem xf_103_1 : xcode 103 1 = some (.getfield 26, 3, 10, 3) := rfl
theorem xf_103_4 : xcode 103 4 = some (.aload_n 0, 1, 0, 0) := rfl
theorem xf_103_5 : xcode 103 5 = some (.getfield 10, 3, 10, 0) := rfl
theorem xf_103_8 : xcode 103 8 = some (.invokevirtual 114, 3, 1, 0) := rfl
theorem xf_103_11 : xcode 103 11 = some (.aload_n 0, 1, 0, 0) := rfl
theorem xf_103_12 : xcode 103 12 = some (.getfield 10, 3, 10, 0) := rfl
theorem xf_103_15 : xcode 103 15 = some (.getfield 328, 3, 6, 5) := rfl
theorem xf_103_18 : xcode 103 18 = some (.istore_n 2, 1, 0, 0) := rfl
theorem xf_103_19 : xcode 103 19 = some (.aload_n 0, 1, 0, 0) := rfl
theorem xf_103_20 : xcode 103 20 = some (.getfield 10, 3, 10, 0) := rfl
theorem xf_103_23 : xcode 103 23 = some (.iload_n 1, 1, 0, 0) := rfl
theorem xf_103_24 : xcode 103 24 = some (.putfield 328, 3, 6, 5) := rfl
theorem xf_103_27 : xcode 103 27 = some (.iload_n 2, 1, 0, 0) := rfl
theorem xf_103_28 : xcode 103 28 = some (.ireturn, 1, 0, 0) := rfl
theorem xf_104_0 : xcode 104 0 = some (.iload_n 1, 1, 0, 0) := rfl
theorem xf_104_1 : xcode 104 1 = some (.invokestatic 204, 3, 122, 0) := rfl
theorem xf_104_4 : xcode 104 4 = some (.aload_n 0, 1, 0, 0) := rfl
theorem xf_104_5 : xcode 104 5 = some (.getfield 26, 3, 10, 3) := rfl
theorem xf_104_8 : xcode 104 8 = some (.aload_n 0, 1, 0, 0) := rfl
theorem xf_104_9 : xcode 104 9 = some (.getfield 10, 3, 10, 0) := rfl
theorem xf_104_12 : xcode 104 12 = some (.invokevirtual 114, 3, 1, 0) := rfl
theorem xf_104_15 : xcode 104 15 = some (.aload_n 0, 1, 0, 0) := rfl
theorem xf_104_16 : xcode 104 16 = some (.getfield 10, 3, 10, 0) := rfl
theorem xf_104_19 : xcode 104 19 = some (.aload_n 0, 1, 0, 0) := rfl
theorem xf_104_20 : xcode 104 20 = some (.getfield 10, 3, 10, 0) := rfl
theorem xf_104_23 : xcode 104 23 = some (.getfield 328, 3, 6, 5) := rfl
theorem xf_104_26 : xcode 104 26 = some (.invokestatic 331, 3, 125, 0) := rfl
theorem xf_104_29 : xcode 104 29 = some (.putfield 328, 3, 6, 5) := rfl
theorem xf_104_32 : xcode 104 32 = some (.aload_n 0, 1, 0, 0) := rfl
theorem xf_104_33 : xcode 104 33 = some (.getfield 10, 3, 10, 0) := rfl
theorem xf_104_36 : xcode 104 36 = some (.getfield 170, 3, 6, 1) := rfl
theorem xf_104_39 : xcode 104 39 = some (.aload_n 0, 1, 0, 0) := rfl
theorem xf_104_40 : xcode 104 40 = some (.getfield 10, 3, 10, 0) := rfl
theorem xf_104_43 : xcode 104 43 = some (.getfield 328, 3, 6, 5) := rfl
theorem xf_104_46 : xcode 104 46 = some (.bipush 16, 2, 0, 0) := rfl
theorem xf_104_48 : xcode 104 48 = some (.invokestatic 334, 3, 126, 0) := rfl
theorem xf_104_51 : xcode 104 51 = some (.invokevirtual 338, 3, 53, 0) := rfl
theorem xf_104_54 : xcode 104 54 = some (.istore_n 2, 1, 0, 0) := rfl
theorem xf_104_55 : xcode 104 55 = some (.aload_n 0, 1, 0, 0) := rfl
theorem xf_104_56 : xcode 104 56 = some (.getfield 10, 3, 10, 0) := rfl
theorem xf_104_59 : xcode 104 59 = some (.aload_n 0, 1, 0, 0) := rfl
theorem xf_104_60 : xcode 104 60 = some (.getfield 10, 3, 10, 0) := rfl
theorem xf_104_63 : xcode 104 63 = some (.getfield 69, 3, 6, 0) := rfl
theorem xf_104_66 : xcode 104 66 = some (.aload_n 0, 1, 0, 0) := rfl
theorem xf_104_67 : xcode 104 67 = some (.getfield 10, 3, 10, 0) := rfl
theorem xf_104_70 : xcode 104 70 = some (.getfield 127, 3, 6, 4) := rfl
theorem xf_104_73 : xcode 104 73 = some (.iload_n 1, 1, 0, 0) := rfl
theorem xf_104_74 : xcode 104 74 = some (.iload_n 2, 1, 0, 0) := rfl
theorem xf_104_75 : xcode 104 75 = some (.invokevirtual 207, 3, 25, 0) := rfl
theorem xf_104_78 : xcode 104 78 = some (.putfield 127, 3, 6, 4) := rfl
theorem xf_104_81 : xcode 104 81 = some (.aload_n 0, 1, 0, 0) := rfl
theorem xf_104_82 : xcode 104 82 = some (.iload_n 1, 1, 0, 0) := rfl
theorem xf_104_83 : xcode 104 83 = some (.invokevirtual 233, 3, 113, 0) := rfl
theorem xf_104_86 : xcode 104 86 = some (.aload_n 0, 1, 0, 0) := rfl
theorem xf_104_87 : xcode 104 87 = some (.invokevirtual 341, 3, 115, 0) := rfl
theorem xf_104_90 : xcode 104 90 = some (.aload_n 0, 1, 0, 0) := rfl
theorem xf_104_91 : xcode 104 91 = some (.getfield 10, 3, 10, 0) := rfl
theorem xf_104_94 : xcode 104 94 = some (.getfield 127, 3, 6, 4) := rfl
theorem xf_104_97 : xcode 104 97 = some (.ireturn, 1, 0, 0) := rfl
theorem xf_105_0 : xcode 105 0 = some (.aload_n 0, 1, 0, 0) := rfl
theorem xf_105_1 : xcode 105 1 = some (.getfield 10, 3, 10, 0) := rfl
theorem xf_105_4 : xcode 105 4 = some (.getfield 69, 3, 6, 0) := rfl
theorem xf_105_7 : xcode 105 7 = some (.aload_n 0, 1, 0, 0) := rfl
theorem xf_105_8 : xcode 105 8 = some (.getfield 10, 3, 10, 0) := rfl
theorem xf_105_11 : xcode 105 11 = some (.getfield 127, 3, 6, 4) := rfl
theorem xf_105_14 : xcode 105 14 = some (.invokevirtual 344, 3, 18, 0) := rfl
theorem xf_105_17 : xcode 105 17 = some (.istore_n 1, 1, 0, 0) := rfl
theorem xf_105_18 : xcode 105 18 = some (.aload_n 0, 1, 0, 0) := rfl
theorem xf_105_19 : xcode 105 19 = some (.getfield 10, 3, 10, 0) := rfl
theorem xf_105_22 : xcode 105 22 = some (.getfield 170, 3, 6, 1) := rfl
theorem xf_105_25 : xcode 105 25 = some (.iload_n 1, 1, 0, 0) := rfl
theorem xf_105_26 : xcode 105 26 = some (.invokevirtual 347, 3, 54, 0) := rfl
theorem xf_105_29 : xcode 105 29 = some (.istore_n 2, 1, 0, 0) := rfl
theorem xf_105_30 : xcode 105 30 = some (.aload_n 0, 1, 0, 0) := rfl
theorem xf_105_31 : xcode 105 31 = some (.getfield 10, 3, 10, 0) := rfl
theorem xf_105_34 : xcode 105 34 = some (.getfield 328, 3, 6, 5) := rfl
theorem xf_105_37 : xcode 105 37 = some (.istore_n 3, 1, 0, 0) := rfl
theorem xf_105_38 : xcode 105 38 = some (.iload_n 1, 1, 0, 0) := rfl
theorem xf_105_39 : xcode 105 39 = some (.istore 4, 2, 0, 0) := rfl
theorem xf_105_41 : xcode 105 41 = some (.iload_n 2, 1, 0, 0) := rfl
theorem xf_105_42 : xcode 105 42 = some (.ifCond .le 26, 3, 68, 0) := rfl
theorem xf_105_45 : xcode 105 45 = some (.iload_n 3, 1, 0, 0) := rfl
theorem xf_105_46 : xcode 105 46 = some (.invokestatic 331, 3, 125, 0) := rfl
theorem xf_105_49 : xcode 105 49 = some (.istore_n 3, 1, 0, 0) := rfl
theorem xf_105_50 : xcode 105 50 = some (.aload_n 0, 1, 0, 0) := rfl
theorem xf_105_51 : xcode 105 51 = some (.getfield 10, 3, 10, 0) := rfl
theorem xf_105_54 : xcode 105 54 = some (.getfield 170, 3, 6, 1) := rfl
theorem xf_105_57 : xcode 105 57 = some (.iload_n 1, 1, 0, 0) := rfl
theorem xf_105_58 : xcode 105 58 = some (.iload_n 3, 1, 0, 0) := rfl
theorem xf_105_59 : xcode 105 59 = some (.iload_n 2, 1, 0, 0) := rfl
theorem xf_105_60 : xcode 105 60 = some (.invokestatic 334, 3, 126, 0) := rfl
theorem xf_105_63 : xcode 105 63 = some (.invokevirtual 350, 3, 55, 0) := rfl
theorem xf_105_66 : xcode 105 66 = some (.istore 4, 2, 0, 0) := rfl
theorem xf_105_68 : xcode 105 68 = some (.aload_n 0, 1, 0, 0) := rfl
theorem xf_105_69 : xcode 105 69 = some (.getfield 44, 3, 10, 6) := rfl
theorem xf_105_72 : xcode 105 72 = some (.aload_n 0, 1, 0, 0) := rfl
theorem xf_105_73 : xcode 105 73 = some (.getfield 10, 3, 10, 0) := rfl
theorem xf_105_76 : xcode 105 76 = some (.iload 4, 2, 0, 0) := rfl
theorem xf_105_78 : xcode 105 78 = some (.invokevirtual 239, 3, 9, 0) := rfl
theorem xf_105_81 : xcode 105 81 = some (.istore 5, 2, 0, 0) := rfl
theorem xf_105_83 : xcode 105 83 = some (.iload 5, 2, 0, 0) := rfl
theorem xf_105_85 : xcode 105 85 = some (.ifCond .ne 13, 3, 98, 0) := rfl
theorem xf_105_88 : xcode 105 88 = some (.new 99, 3, 1, 10) := rfl
theorem xf_105_98 : xcode 105 98 = some (.aload_n 0, 1, 0, 0) := rfl
theorem xf_105_99 : xcode 105 99 = some (.getfield 26, 3, 10, 3) := rfl
theorem xf_105_102 : xcode 105 102 = some (.aload_n 0, 1, 0, 0) := rfl
theorem xf_105_103 : xcode 105 103 = some (.getfield 10, 3, 10, 0) := rfl
theorem xf_105_106 : xcode 105 106 = some (.invokevirtual 114, 3, 1, 0) := rfl
theorem xf_105_109 : xcode 105 109 = some (.aload_n 0, 1, 0, 0) := rfl
theorem xf_105_110 : xcode 105 110 = some (.getfield 10, 3, 10, 0) := rfl
theorem xf_105_113 : xcode 105 113 = some (.iload_n 3, 1, 0, 0) := rfl
theorem xf_105_114 : xcode 105 114 = some (.putfield 328, 3, 6, 5) := rfl
theorem xf_105_117 : xcode 105 117 = some (.aload_n 0, 1, 0, 0) := rfl
theorem xf_105_118 : xcode 105 118 = some (.iload 4, 2, 0, 0) := rfl
theorem xf_105_120 : xcode 105 120 = some (.iload 5, 2, 0, 0) := rfl
theorem xf_105_122 : xcode 105 122 = some (.invokevirtual 245, 3, 114, 0) := rfl
theorem xf_105_125 : xcode 105 125 = some (.aload_n 0, 1, 0, 0) := rfl
theorem xf_105_126 : xcode 105 126 = some (.invokevirtual 341, 3, 115, 0) := rfl
theorem xf_105_129 : xcode 105 129 = some (.iload 4, 2, 0, 0) := rfl
theorem xf_105_131 : xcode 105 131 = some (.ireturn, 1, 0, 0) := rfl
theorem xf_106_0 : xcode 106 0 = some (.aload_n 0, 1, 0, 0) := rfl
theorem xf_106_1 : xcode 106 1 = some (.iload_n 1, 1, 0, 0) := rfl
theorem xf_106_2 : xcode 106 2 = some (.invokevirtual 136, 3, 116, 0) := rfl
theorem xf_106_5 : xcode 106 5 = some (.aload_n 0, 1, 0, 0) := rfl
theorem xf_106_6 : xcode 106 6 = some (.iload_n 1, 1, 0, 0) := rfl
theorem xf_106_7 : xcode 106 7 = some (.invokevirtual 154, 3, 117, 0) := rfl
theorem xf_106_10 : xcode 106 10 = some (.aload_n 0, 1, 0, 0) := rfl
theorem xf_106_11 : xcode 106 11 = some (.getfield 26, 3, 10, 3) := rfl
theorem xf_106_14 : xcode 106 14 = some (.aload_n 0, 1, 0, 0) := rfl
theorem xf_106_15 : xcode 106 15 = some (.getfield 10, 3, 10, 0) := rfl
theorem xf_106_18 : xcode 106 18 = some (.invokevirtual 114, 3, 1, 0) := rfl
theorem xf_106_21 : xcode 106 21 = some (.aload_n 0, 1, 0, 0) := rfl
theorem xf_106_22 : xcode 106 22 = some (.getfield 10, 3, 10, 0) := rfl
theorem xf_106_25 : xcode 106 25 = some (.getfield 127, 3, 6, 4) := rfl
theorem xf_106_28 : xcode 106 28 = some (.istore_n 2, 1, 0, 0) := rfl
theorem xf_106_29 : xcode 106 29 = some (.aload_n 0, 1, 0, 0) := rfl
theorem xf_106_30 : xcode 106 30 = some (.getfield 10, 3, 10, 0) := rfl
theorem xf_106_33 : xcode 106 33 = some (.iload_n 1, 1, 0, 0) := rfl
theorem xf_106_34 : xcode 106 34 = some (.putfield 127, 3, 6, 4) := rfl
theorem xf_106_37 : xcode 106 37 = some (.iload_n 2, 1, 0, 0) := rfl
theorem xf_106_38 : xcode 106 38 = some (.ireturn, 1, 0, 0) := rfl
theorem xf_107_0 : xcode 107 0 = some (.aload_n 0, 1, 0, 0) := rfl
theorem xf_107_1 : xcode 107 1 = some (.getfield 10, 3, 10, 0) := rfl
theorem xf_107_4 : xcode 107 4 = some (.getfield 127, 3, 6, 4) := rfl
theorem xf_107_7 : xcode 107 7 = some (.ireturn, 1, 0, 0) := rfl
theorem xf_108_0 : xcode 108 0 = some (.iload_n 1, 1, 0, 0) := rfl
theorem xf_108_1 : xcode 108 1 = some (.tableswitch 108 0 6 #[43, 54, 65, 76, 84, 92, 100], 43, 0, 0) := rfl
theorem xf_108_44 : xcode 108 44 = some (.aload_n 0, 1, 0, 0) := rfl
theorem xf_108_45 : xcode 108 45 = some (.getfield 10, 3, 10, 0) := rfl
theorem xf_108_48 : xcode 108 48 = some (.getfield 69, 3, 6, 0) := rfl
theorem xf_108_51 : xcode 108 51 = some (.getfield 214, 3, 2, 0) := rfl
theorem xf_108_54 : xcode 108 54 = some (.ireturn, 1, 0, 0) := rfl
theorem xf_108_55 : xcode 108 55 = some (.aload_n 0, 1, 0, 0) := rfl
theorem xf_108_56 : xcode 108 56 = some (.getfield 10, 3, 10, 0) := rfl
theorem xf_108_59 : xcode 108 59 = some (.getfield 69, 3, 6, 0) := rfl
theorem xf_108_62 : xcode 108 62 = some (.getfield 211, 3, 2, 1) := rfl
theorem xf_108_65 : xcode 108 65 = some (.ireturn, 1, 0, 0) := rfl
theorem xf_108_66 : xcode 108 66 = some (.aload_n 0, 1, 0, 0) := rfl
theorem xf_108_67 : xcode 108 67 = some (.getfield 10, 3, 10, 0) := rfl
theorem xf_108_70 : xcode 108 70 = some (.getfield 69, 3, 6, 0) := rfl
theorem xf_108_73 : xcode 108 73 = some (.invokevirtual 133, 3, 19, 0) := rfl
theorem xf_108_76 : xcode 108 76 = some (.ireturn, 1, 0, 0) := rfl
theorem xf_108_77 : xcode 108 77 = some (.aload_n 0, 1, 0, 0) := rfl
theorem xf_108_78 : xcode 108 78 = some (.getfield 10, 3, 10, 0) := rfl
theorem xf_108_81 : xcode 108 81 = some (.getfield 353, 3, 6, 6) := rfl
theorem xf_108_84 : xcode 108 84 = some (.ireturn, 1, 0, 0) := rfl
theorem xf_108_85 : xcode 108 85 = some (.aload_n 0, 1, 0, 0) := rfl
theorem xf_108_86 : xcode 108 86 = some (.getfield 10, 3, 10, 0) := rfl
theorem xf_108_89 : xcode 108 89 = some (.getfield 356, 3, 6, 7) := rfl
theorem xf_108_92 : xcode 108 92 = some (.ireturn, 1, 0, 0) := rfl
theorem xf_108_93 : xcode 108 93 = some (.aload_n 0, 1, 0, 0) := rfl
theorem xf_108_94 : xcode 108 94 = some (.getfield 33, 3, 10, 4) := rfl
theorem xf_108_97 : xcode 108 97 = some (.getfield 92, 3, 3, 1) := rfl
theorem xf_108_100 : xcode 108 100 = some (.ireturn, 1, 0, 0) := rfl
theorem xf_108_101 : xcode 108 101 = some (.aload_n 0, 1, 0, 0) := rfl
theorem xf_108_102 : xcode 108 102 = some (.getfield 26, 3, 10, 3) := rfl
theorem xf_108_105 : xcode 108 105 = some (.getfield 359, 3, 0, 2) := rfl
theorem xf_108_108 : xcode 108 108 = some (.ireturn, 1, 0, 0) := rfl
theorem xf_108_109 : xcode 108 109 = some (.new 85, 3, 0, 15) := rfl
theorem xf_109_0 : xcode 109 0 = some (.aload_n 0, 1, 0, 0) := rfl
theorem xf_109_1 : xcode 109 1 = some (.getfield 26, 3, 10, 3) := rfl
theorem xf_109_4 : xcode 109 4 = some (.getfield 359, 3, 0, 2) := rfl
theorem xf_109_7 : xcode 109 7 = some (.ifCond .ne 14, 3, 21, 0) := rfl
theorem xf_109_10 : xcode 109 10 = some (.new 99, 3, 1, 16) := rfl
theorem xf_109_21 : xcode 109 21 = some (.aload_n 0, 1, 0, 0) := rfl
theorem xf_109_22 : xcode 109 22 = some (.getfield 26, 3, 10, 3) := rfl
theorem xf_109_25 : xcode 109 25 = some (.aload_n 0, 1, 0, 0) := rfl
theorem xf_109_26 : xcode 109 26 = some (.getfield 10, 3, 10, 0) := rfl
theorem xf_109_29 : xcode 109 29 = some (.invokevirtual 366, 3, 2, 0) := rfl
theorem xf_109_32 : xcode 109 32 = some (.aload_n 0, 1, 0, 0) := rfl
theorem xf_109_33 : xcode 109 33 = some (.getfield 26, 3, 10, 3) := rfl
theorem xf_109_36 : xcode 109 36 = some (.getfield 359, 3, 0, 2) := rfl
theorem xf_109_39 : xcode 109 39 = some (.ireturn, 1, 0, 0) := rfl
theorem xf_110_0 : xcode 110 0 = some (.aload_n 0, 1, 0, 0) := rfl
theorem xf_110_1 : xcode 110 1 = some (.getfield 16, 3, 10, 1) := rfl
theorem xf_110_4 : xcode 110 4 = some (.aload_n 0, 1, 0, 0) := rfl
theorem xf_110_5 : xcode 110 5 = some (.getfield 10, 3, 10, 0) := rfl
theorem xf_110_8 : xcode 110 8 = some (.invokevirtual 369, 3, 49, 0) := rfl
theorem xf_110_11 : xcode 110 11 = some (.aload_n 0, 1, 0, 0) := rfl
theorem xf_110_12 : xcode 110 12 = some (.iconst 1, 1, 0, 0) := rfl
theorem xf_110_13 : xcode 110 13 = some (.putfield 19, 3, 10, 2) := rfl
theorem xf_110_16 : xcode 110 16 = some (.aload_n 0, 1, 0, 0) := rfl
theorem xf_110_17 : xcode 110 17 = some (.getfield 10, 3, 10, 0) := rfl
theorem xf_110_20 : xcode 110 20 = some (.getfield 69, 3, 6, 0) := rfl
theorem xf_110_23 : xcode 110 23 = some (.invokevirtual 133, 3, 19, 0) := rfl
theorem xf_110_26 : xcode 110 26 = some (.ireturn, 1, 0, 0) := rfl
theorem xf_111_0 : xcode 111 0 = some (.aload_n 0, 1, 0, 0) := rfl
theorem xf_111_1 : xcode 111 1 = some (.getfield 19, 3, 10, 2) := rfl
theorem xf_111_4 : xcode 111 4 = some (.ifCond .ne 14, 3, 18, 0) := rfl
theorem xf_111_7 : xcode 111 7 = some (.new 99, 3, 1, 17) := rfl
theorem xf_111_18 : xcode 111 18 = some (.aload_n 0, 1, 0, 0) := rfl
theorem xf_111_19 : xcode 111 19 = some (.getfield 26, 3, 10, 3) := rfl
theorem xf_111_22 : xcode 111 22 = some (.aload_n 0, 1, 0, 0) := rfl
theorem xf_111_23 : xcode 111 23 = some (.getfield 10, 3, 10, 0) := rfl
theorem xf_111_26 : xcode 111 26 = some (.invokevirtual 114, 3, 1, 0) := rfl
theorem xf_111_29 : xcode 111 29 = some (.aload_n 0, 1, 0, 0) := rfl
theorem xf_111_30 : xcode 111 30 = some (.getfield 10, 3, 10, 0) := rfl
theorem xf_111_33 : xcode 111 33 = some (.aload_n 0, 1, 0, 0) := rfl
theorem xf_111_34 : xcode 111 34 = some (.getfield 16, 3, 10, 1) := rfl
theorem xf_111_37 : xcode 111 37 = some (.invokevirtual 369, 3, 49, 0) := rfl
theorem xf_111_40 : xcode 111 40 = some (.aload_n 0, 1, 0, 0) := rfl
theorem xf_111_41 : xcode 111 41 = some (.getfield 10, 3, 10, 0) := rfl
theorem xf_111_44 : xcode 111 44 = some (.getfield 69, 3, 6, 0) := rfl
theorem xf_111_47 : xcode 111 47 = some (.invokevirtual 133, 3, 19, 0) := rfl
theorem xf_111_50 : xcode 111 50 = some (.ireturn, 1, 0, 0) := rfl
theorem xf_112_0 : xcode 112 0 = some (.aload_n 0, 1, 0, 0) := rfl
theorem xf_112_1 : xcode 112 1 = some (.getfield 44, 3, 10, 6) := rfl
theorem xf_112_4 : xcode 112 4 = some (.aload_n 0, 1, 0, 0) := rfl
theorem xf_112_5 : xcode 112 5 = some (.getfield 10, 3, 10, 0) := rfl
theorem xf_112_8 : xcode 112 8 = some (.getfield 69, 3, 6, 0) := rfl
theorem xf_112_11 : xcode 112 11 = some (.aload_n 0, 1, 0, 0) := rfl
theorem xf_112_12 : xcode 112 12 = some (.getfield 10, 3, 10, 0) := rfl
theorem xf_112_15 : xcode 112 15 = some (.getfield 73, 3, 6, 3) := rfl
theorem xf_112_18 : xcode 112 18 = some (.invokevirtual 77, 3, 4, 0) := rfl
theorem xf_112_21 : xcode 112 21 = some (.aload_n 0, 1, 0, 0) := rfl
theorem xf_112_22 : xcode 112 22 = some (.getfield 10, 3, 10, 0) := rfl
theorem xf_112_25 : xcode 112 25 = some (.getfield 224, 3, 6, 2) := rfl
theorem xf_112_28 : xcode 112 28 = some (.iconst (-1), 1, 0, 0) := rfl
theorem xf_112_29 : xcode 112 29 = some (.invokevirtual 228, 3, 59, 0) := rfl
theorem xf_112_32 : xcode 112 32 = some (.return_, 1, 0, 0) := rfl
theorem xf_113_0 : xcode 113 0 = some (.aload_n 0, 1, 0, 0) := rfl
theorem xf_113_1 : xcode 113 1 = some (.getfield 44, 3, 10, 6) := rfl
theorem xf_113_4 : xcode 113 4 = some (.aload_n 0, 1, 0, 0) := rfl
theorem xf_113_5 : xcode 113 5 = some (.getfield 10, 3, 10, 0) := rfl
theorem xf_113_8 : xcode 113 8 = some (.iload_n 1, 1, 0, 0) := rfl
theorem xf_113_9 : xcode 113 9 = some (.aload_n 0, 1, 0, 0) := rfl
theorem xf_113_10 : xcode 113 10 = some (.getfield 10, 3, 10, 0) := rfl
theorem xf_113_13 : xcode 113 13 = some (.getfield 73, 3, 6, 3) := rfl
theorem xf_113_16 : xcode 113 16 = some (.invokevirtual 374, 3, 5, 0) := rfl
theorem xf_113_19 : xcode 113 19 = some (.aload_n 0, 1, 0, 0) := rfl
theorem xf_113_20 : xcode 113 20 = some (.getfield 10, 3, 10, 0) := rfl
theorem xf_113_23 : xcode 113 23 = some (.getfield 224, 3, 6, 2) := rfl
theorem xf_113_26 : xcode 113 26 = some (.iload_n 1, 1, 0, 0) := rfl
theorem xf_113_27 : xcode 113 27 = some (.aload_n 0, 1, 0, 0) := rfl
theorem xf_113_28 : xcode 113 28 = some (.getfield 10, 3, 10, 0) := rfl
theorem xf_113_31 : xcode 113 31 = some (.getfield 170, 3, 6, 1) := rfl
theorem xf_113_34 : xcode 113 34 = some (.invokevirtual 378, 3, 60, 0) := rfl
theorem xf_113_37 : xcode 113 37 = some (.return_, 1, 0, 0) := rfl
theorem xf_114_0 : xcode 114 0 = some (.aload_n 0, 1, 0, 0) := rfl
theorem xf_114_1 : xcode 114 1 = some (.getfield 44, 3, 10, 6) := rfl
theorem xf_114_4 : xcode 114 4 = some (.aload_n 0, 1, 0, 0) := rfl
theorem xf_114_5 : xcode 114 5 = some (.getfield 10, 3, 10, 0) := rfl
theorem xf_114_8 : xcode 114 8 = some (.getfield 73, 3, 6, 3) := rfl
theorem xf_114_11 : xcode 114 11 = some (.aload_n 0, 1, 0, 0) := rfl
theorem xf_114_12 : xcode 114 12 = some (.getfield 10, 3, 10, 0) := rfl
theorem xf_114_15 : xcode 114 15 = some (.getfield 69, 3, 6, 0) := rfl
theorem xf_114_18 : xcode 114 18 = some (.invokevirtual 254, 3, 15, 0) := rfl
theorem xf_114_21 : xcode 114 21 = some (.invokevirtual 382, 3, 11, 0) := rfl
theorem xf_114_24 : xcode 114 24 = some (.iload_n 2, 1, 0, 0) := rfl
theorem xf_114_25 : xcode 114 25 = some (.iconst 2, 1, 0, 0) := rfl
theorem xf_114_26 : xcode 114 26 = some (.if_icmp .ne 27, 3, 53, 0) := rfl
theorem xf_114_29 : xcode 114 29 = some (.aload_n 0, 1, 0, 0) := rfl
theorem xf_114_30 : xcode 114 30 = some (.getfield 10, 3, 10, 0) := rfl
theorem xf_114_33 : xcode 114 33 = some (.dup, 1, 0, 0) := rfl
theorem xf_114_34 : xcode 114 34 = some (.getfield 353, 3, 6, 6) := rfl
theorem xf_114_37 : xcode 114 37 = some (.iconst 1, 1, 0, 0) := rfl
theorem xf_114_38 : xcode 114 38 = some (.iadd, 1, 0, 0) := rfl
theorem xf_114_39 : xcode 114 39 = some (.putfield 353, 3, 6, 6) := rfl
theorem xf_114_42 : xcode 114 42 = some (.aload_n 0, 1, 0, 0) := rfl
theorem xf_114_43 : xcode 114 43 = some (.getfield 10, 3, 10, 0) := rfl
theorem xf_114_46 : xcode 114 46 = some (.getfield 224, 3, 6, 2) := rfl
theorem xf_114_49 : xcode 114 49 = some (.iconst (-1), 1, 0, 0) := rfl
theorem xf_114_50 : xcode 114 50 = some (.invokevirtual 228, 3, 59, 0) := rfl
theorem xf_114_53 : xcode 114 53 = some (.aload_n 0, 1, 0, 0) := rfl
theorem xf_114_54 : xcode 114 54 = some (.getfield 10, 3, 10, 0) := rfl
theorem xf_114_57 : xcode 114 57 = some (.getfield 224, 3, 6, 2) := rfl
theorem xf_114_60 : xcode 114 60 = some (.iload_n 1, 1, 0, 0) := rfl
theorem xf_114_61 : xcode 114 61 = some (.aload_n 0, 1, 0, 0) := rfl
theorem xf_114_62 : xcode 114 62 = some (.getfield 10, 3, 10, 0) := rfl
theorem xf_114_65 : xcode 114 65 = some (.getfield 69, 3, 6, 0) := rfl
theorem xf_114_68 : xcode 114 68 = some (.aload_n 0, 1, 0, 0) := rfl
theorem xf_114_69 : xcode 114 69 = some (.getfield 10, 3, 10, 0) := rfl
theorem xf_114_72 : xcode 114 72 = some (.getfield 170, 3, 6, 1) := rfl
theorem xf_114_75 : xcode 114 75 = some (.invokevirtual 386, 3, 61, 0) := rfl
theorem xf_114_78 : xcode 114 78 = some (.return_, 1, 0, 0) := rfl
theorem xf_115_0 : xcode 115 0 = some (.aload_n 0, 1, 0, 0) := rfl
theorem xf_115_1 : xcode 115 1 = some (.getfield 51, 3, 10, 7) := rfl
theorem xf_115_4 : xcode 115 4 = some (.aload_n 0, 1, 0, 0) := rfl
theorem xf_115_5 : xcode 115 5 = some (.getfield 10, 3, 10, 0) := rfl
theorem xf_115_8 : xcode 115 8 = some (.invokevirtual 248, 3, 37, 0) := rfl
theorem xf_115_11 : xcode 115 11 = some (.aload_n 0, 1, 0, 0) := rfl
theorem xf_115_12 : xcode 115 12 = some (.getfield 51, 3, 10, 7) := rfl
theorem xf_115_15 : xcode 115 15 = some (.getfield 251, 3, 4, 0) := rfl
theorem xf_115_18 : xcode 115 18 = some (.iconst 0, 1, 0, 0) := rfl
theorem xf_115_19 : xcode 115 19 = some (.iaload, 1, 0, 0) := rfl
theorem xf_115_20 : xcode 115 20 = some (.aload_n 0, 1, 0, 0) := rfl
theorem xf_115_21 : xcode 115 21 = some (.getfield 10, 3, 10, 0) := rfl
theorem xf_115_24 : xcode 115 24 = some (.getfield 127, 3, 6, 4) := rfl
theorem xf_115_27 : xcode 115 27 = some (.if_icmp .ne 16, 3, 43, 0) := rfl
theorem xf_115_30 : xcode 115 30 = some (.aload_n 0, 1, 0, 0) := rfl
theorem xf_115_31 : xcode 115 31 = some (.getfield 10, 3, 10, 0) := rfl
theorem xf_115_34 : xcode 115 34 = some (.dup, 1, 0, 0) := rfl
theorem xf_115_35 : xcode 115 35 = some (.getfield 356, 3, 6, 7) := rfl
theorem xf_115_38 : xcode 115 38 = some (.iconst 1, 1, 0, 0) := rfl
theorem xf_115_39 : xcode 115 39 = some (.iadd, 1, 0, 0) := rfl
theorem xf_115_40 : xcode 115 40 = some (.putfield 356, 3, 6, 7) := rfl
theorem xf_115_43 : xcode 115 43 = some (.return_, 1, 0, 0) := rfl
theorem xf_116_0 : xcode 116 0 = some (.aload_n 0, 1, 0, 0) := rfl
theorem xf_116_1 : xcode 116 1 = some (.getfield 10, 3, 10, 0) := rfl
theorem xf_116_4 : xcode 116 4 = some (.getfield 69, 3, 6, 0) := rfl
theorem xf_116_7 : xcode 116 7 = some (.iload_n 1, 1, 0, 0) := rfl
theorem xf_116_8 : xcode 116 8 = some (.invokevirtual 390, 3, 16, 0) := rfl
theorem xf_116_11 : xcode 116 11 = some (.ifCond .ne 14, 3, 25, 0) := rfl
theorem xf_116_14 : xcode 116 14 = some (.new 182, 3, 2, 18) := rfl
theorem xf_116_25 : xcode 116 25 = some (.return_, 1, 0, 0) := rfl
theorem xf_117_0 : xcode 117 0 = some (.aload_n 0, 1, 0, 0) := rfl
theorem xf_117_1 : xcode 117 1 = some (.getfield 10, 3, 10, 0) := rfl
theorem xf_117_4 : xcode 117 4 = some (.getfield 69, 3, 6, 0) := rfl
theorem xf_117_7 : xcode 117 7 = some (.iload_n 1, 1, 0, 0) := rfl
theorem xf_117_8 : xcode 117 8 = some (.invokevirtual 139, 3, 17, 0) := rfl
theorem xf_117_11 : xcode 117 11 = some (.ifCond .ne 14, 3, 25, 0) := rfl
theorem xf_117_14 : xcode 117 14 = some (.new 99, 3, 1, 19) := rfl
theorem xf_117_25 : xcode 117 25 = some (.return_, 1, 0, 0) := rfl
theorem xf_118_0 : xcode 118 0 = some (.aload_n 0, 1, 0, 0) := rfl
theorem xf_118_1 : xcode 118 1 = some (.iload_n 1, 1, 0, 0) := rfl
theorem xf_118_2 : xcode 118 2 = some (.invokevirtual 136, 3, 116, 0) := rfl
theorem xf_118_5 : xcode 118 5 = some (.aload_n 0, 1, 0, 0) := rfl
theorem xf_118_6 : xcode 118 6 = some (.iload_n 2, 1, 0, 0) := rfl
theorem xf_118_7 : xcode 118 7 = some (.invokevirtual 136, 3, 116, 0) := rfl
theorem xf_118_10 : xcode 118 10 = some (.aload_n 0, 1, 0, 0) := rfl
theorem xf_118_11 : xcode 118 11 = some (.iload_n 1, 1, 0, 0) := rfl
theorem xf_118_12 : xcode 118 12 = some (.invokevirtual 154, 3, 117, 0) := rfl
theorem xf_118_15 : xcode 118 15 = some (.aload_n 0, 1, 0, 0) := rfl
theorem xf_118_16 : xcode 118 16 = some (.iload_n 2, 1, 0, 0) := rfl
theorem xf_118_17 : xcode 118 17 = some (.invokevirtual 154, 3, 117, 0) := rfl
theorem xf_118_20 : xcode 118 20 = some (.aload_n 0, 1, 0, 0) := rfl
theorem xf_118_21 : xcode 118 21 = some (.getfield 65, 3, 10, 9) := rfl
theorem xf_118_24 : xcode 118 24 = some (.aload_n 0, 1, 0, 0) := rfl
theorem xf_118_25 : xcode 118 25 = some (.getfield 10, 3, 10, 0) := rfl
theorem xf_118_28 : xcode 118 28 = some (.getfield 69, 3, 6, 0) := rfl
theorem xf_118_31 : xcode 118 31 = some (.iload_n 2, 1, 0, 0) := rfl
theorem xf_118_32 : xcode 118 32 = some (.invokevirtual 322, 3, 66, 0) := rfl
theorem xf_118_35 : xcode 118 35 = some (.aload_n 0, 1, 0, 0) := rfl
theorem xf_118_36 : xcode 118 36 = some (.getfield 65, 3, 10, 9) := rfl
theorem xf_118_39 : xcode 118 39 = some (.getfield 316, 3, 9, 0) := rfl
theorem xf_118_42 : xcode 118 42 = some (.iload_n 1, 1, 0, 0) := rfl
theorem xf_118_43 : xcode 118 43 = some (.iaload, 1, 0, 0) := rfl
theorem xf_118_44 : xcode 118 44 = some (.ldc 223, 2, 3, 0) := rfl
theorem xf_118_46 : xcode 118 46 = some (.if_icmp .lt 14, 3, 60, 0) := rfl
theorem xf_118_49 : xcode 118 49 = some (.new 286, 3, 3, 20) := rfl
theorem xf_118_60 : xcode 118 60 = some (.return_, 1, 0, 0) := rfl
theorem xf_119_0 : xcode 119 0 = some (.aload_n 0, 1, 0, 0) := rfl
theorem xf_119_1 : xcode 119 1 = some (.getfield 10, 3, 10, 0) := rfl
theorem xf_119_4 : xcode 119 4 = some (.getfield 224, 3, 6, 2) := rfl
theorem xf_119_7 : xcode 119 7 = some (.invokevirtual 275, 3, 58, 0) := rfl
theorem xf_119_10 : xcode 119 10 = some (.bipush 8, 2, 0, 0) := rfl
theorem xf_119_12 : xcode 119 12 = some (.if_icmp .le 14, 3, 26, 0) := rfl
theorem xf_119_15 : xcode 119 15 = some (.new 99, 3, 1, 21) := rfl
theorem xf_119_26 : xcode 119 26 = some (.return_, 1, 0, 0) := rfl
theorem xf_120_0 : xcode 120 0 = some (.iload_n 0, 1, 0, 0) := rfl
theorem xf_120_1 : xcode 120 1 = some (.ifCond .lt 12, 3, 13, 0) := rfl
theorem xf_120_4 : xcode 120 4 = some (.iload_n 0, 1, 0, 0) := rfl
theorem xf_120_5 : xcode 120 5 = some (.iconst 4, 1, 0, 0) := rfl
theorem xf_120_6 : xcode 120 6 = some (.if_icmp .ge 7, 3, 13, 0) := rfl
theorem xf_120_9 : xcode 120 9 = some (.iconst 1, 1, 0, 0) := rfl
theorem xf_120_10 : xcode 120 10 = some (.goto 4, 3, 14, 0) := rfl
theorem xf_120_13 : xcode 120 13 = some (.iconst 0, 1, 0, 0) := rfl
theorem xf_120_14 : xcode 120 14 = some (.ireturn, 1, 0, 0) := rfl
theorem xf_121_0 : xcode 121 0 = some (.iload_n 0, 1, 0, 0) := rfl
theorem xf_121_1 : xcode 121 1 = some (.invokestatic 179, 3, 120, 0) := rfl
theorem xf_121_4 : xcode 121 4 = some (.ifCond .ne 13, 3, 17, 0) := rfl
theorem xf_121_7 : xcode 121 7 = some (.new 85, 3, 0, 22) := rfl
theorem xf_121_17 : xcode 121 17 = some (.return_, 1, 0, 0) := rfl
theorem xf_122_0 : xcode 122 0 = some (.iload_n 0, 1, 0, 0) := rfl
theorem xf_122_1 : xcode 122 1 = some (.ifCond .lt 8, 3, 9, 0) := rfl
theorem xf_122_4 : xcode 122 4 = some (.iload_n 0, 1, 0, 0) := rfl
theorem xf_122_5 : xcode 122 5 = some (.iconst 4, 1, 0, 0) := rfl
theorem xf_122_6 : xcode 122 6 = some (.if_icmp .lt 14, 3, 20, 0) := rfl
theorem xf_122_9 : xcode 122 9 = some (.new 85, 3, 0, 23) := rfl
theorem xf_122_20 : xcode 122 20 = some (.return_, 1, 0, 0) := rfl
theorem xf_123_0 : xcode 123 0 = some (.iload_n 0, 1, 0, 0) := rfl
theorem xf_123_1 : xcode 123 1 = some (.ifCond .lt 9, 3, 10, 0) := rfl
theorem xf_123_4 : xcode 123 4 = some (.iload_n 0, 1, 0, 0) := rfl
theorem xf_123_5 : xcode 123 5 = some (.bipush 16, 2, 0, 0) := rfl
theorem xf_123_7 : xcode 123 7 = some (.if_icmp .le 14, 3, 21, 0) := rfl
theorem xf_123_10 : xcode 123 10 = some (.new 85, 3, 0, 24) := rfl
theorem xf_123_21 : xcode 123 21 = some (.return_, 1, 0, 0) := rfl
theorem xf_124_0 : xcode 124 0 = some (.iload_n 0, 1, 0, 0) := rfl
theorem xf_124_1 : xcode 124 1 = some (.iload_n 1, 1, 0, 0) := rfl
theorem xf_124_2 : xcode 124 2 = some (.if_icmp .lt 9, 3, 11, 0) := rfl
theorem xf_124_5 : xcode 124 5 = some (.iload_n 0, 1, 0, 0) := rfl
theorem xf_124_6 : xcode 124 6 = some (.bipush 100, 2, 0, 0) := rfl
theorem xf_124_8 : xcode 124 8 = some (.if_icmp .le 14, 3, 22, 0) := rfl
theorem xf_124_11 : xcode 124 11 = some (.new 85, 3, 0, 25) := rfl
theorem xf_124_22 : xcode 124 22 = some (.return_, 1, 0, 0) := rfl
theorem xf_125_0 : xcode 125 0 = some (.iload_n 0, 1, 0, 0) := rfl
theorem xf_125_1 : xcode 125 1 = some (.ldc_w 407, 3, 7, 0) := rfl
theorem xf_125_4 : xcode 125 4 = some (.imul, 1, 0, 0) := rfl
theorem xf_125_5 : xcode 125 5 = some (.sipush 12345, 3, 0, 0) := rfl
theorem xf_125_8 : xcode 125 8 = some (.iadd, 1, 0, 0) := rfl
theorem xf_125_9 : xcode 125 9 = some (.ireturn, 1, 0, 0) := rfl
theorem xf_126_0 : xcode 126 0 = some (.iload_n 1, 1, 0, 0) := rfl
theorem xf_126_1 : xcode 126 1 = some (.ifCond .le 12, 3, 13, 0) := rfl
theorem xf_126_4 : xcode 126 4 = some (.iload_n 0, 1, 0, 0) := rfl
theorem xf_126_5 : xcode 126 5 = some (.bipush 16, 2, 0, 0) := rfl
theorem xf_126_7 : xcode 126 7 = some (.iushr, 1, 0, 0) := rfl
theorem xf_126_8 : xcode 126 8 = some (.iload_n 1, 1, 0, 0) := rfl
theorem xf_126_9 : xcode 126 9 = some (.irem, 1, 0, 0) := rfl
theorem xf_126_10 : xcode 126 10 = some (.goto 4, 3, 14, 0) := rfl
theorem xf_126_13 : xcode 126 13 = some (.iconst 0, 1, 0, 0) := rfl
theorem xf_126_14 : xcode 126 14 = some (.ireturn, 1, 0, 0) := rfl
theorem xf_127_0 : xcode 127 0 = some (.dload_n 0, 1, 0, 0) := rfl
theorem xf_127_1 : xcode 127 1 = some (.dconst 0, 1, 0, 0) := rfl
theorem xf_127_2 : xcode 127 2 = some (.dcmp .g, 1, 0, 0) := rfl
theorem xf_127_3 : xcode 127 3 = some (.ifCond .gt 5, 3, 8, 0) := rfl
theorem xf_127_6 : xcode 127 6 = some (.lconst 0, 1, 0, 0) := rfl
theorem xf_127_7 : xcode 127 7 = some (.lreturn, 1, 0, 0) := rfl
theorem xf_127_8 : xcode 127 8 = some (.dload_n 0, 1, 0, 0) := rfl
theorem xf_127_9 : xcode 127 9 = some (.dstore_n 2, 1, 0, 0) := rfl
theorem xf_127_10 : xcode 127 10 = some (.ldc2_w 408, 3, 8, 0) := rfl
theorem xf_127_13 : xcode 127 13 = some (.lstore 4, 2, 0, 0) := rfl
theorem xf_127_15 : xcode 127 15 = some (.dload_n 2, 1, 0, 0) := rfl
theorem xf_127_16 : xcode 127 16 = some (.dconst 1, 1, 0, 0) := rfl
theorem xf_127_17 : xcode 127 17 = some (.dcmp .g, 1, 0, 0) := rfl
theorem xf_127_18 : xcode 127 18 = some (.ifCond .ge 25, 3, 43, 0) := rfl
theorem xf_127_21 : xcode 127 21 = some (.lload 4, 2, 0, 0) := rfl
theorem xf_127_23 : xcode 127 23 = some (.lconst 1, 1, 0, 0) := rfl
theorem xf_127_24 : xcode 127 24 = some (.lcmp, 1, 0, 0) := rfl
theorem xf_127_25 : xcode 127 25 = some (.ifCond .le 18, 3, 43, 0) := rfl
theorem xf_127_28 : xcode 127 28 = some (.dload_n 2, 1, 0, 0) := rfl
theorem xf_127_29 : xcode 127 29 = some (.ldc2_w 410, 3, 9, 0) := rfl
theorem xf_127_32 : xcode 127 32 = some (.dmul, 1, 0, 0) := rfl
theorem xf_127_33 : xcode 127 33 = some (.dstore_n 2, 1, 0, 0) := rfl
theorem xf_127_34 : xcode 127 34 = some (.lload 4, 2, 0, 0) := rfl
theorem xf_127_36 : xcode 127 36 = some (.lconst 1, 1, 0, 0) := rfl
theorem xf_127_37 : xcode 127 37 = some (.lsub, 1, 0, 0) := rfl
theorem xf_127_38 : xcode 127 38 = some (.lstore 4, 2, 0, 0) := rfl
theorem xf_127_40 : xcode 127 40 = some (.goto (-25), 3, 15, 0) := rfl
theorem xf_127_43 : xcode 127 43 = some (.lload 4, 2, 0, 0) := rfl
theorem xf_127_45 : xcode 127 45 = some (.bipush 52, 2, 0, 0) := rfl
theorem xf_127_47 : xcode 127 47 = some (.lshl, 1, 0, 0) := rfl
theorem xf_127_48 : xcode 127 48 = some (.dload_n 2, 1, 0, 0) := rfl
theorem xf_127_49 : xcode 127 49 = some (.dconst 1, 1, 0, 0) := rfl
theorem xf_127_50 : xcode 127 50 = some (.dsub, 1, 0, 0) := rfl
theorem xf_127_51 : xcode 127 51 = some (.ldc2_w 412, 3, 10, 0) := rfl
theorem xf_127_54 : xcode 127 54 = some (.dmul, 1, 0, 0) := rfl
theorem xf_127_55 : xcode 127 55 = some (.d2l, 1, 0, 0) := rfl
theorem xf_127_56 : xcode 127 56 = some (.lor, 1, 0, 0) := rfl
theorem xf_127_57 : xcode 127 57 = some (.lreturn, 1, 0, 0) := rfl
theorem xf_128_0 : xcode 128 0 = some (.fload_n 0, 1, 0, 0) := rfl
theorem xf_128_1 : xcode 128 1 = some (.fconst 0, 1, 0, 0) := rfl
theorem xf_128_2 : xcode 128 2 = some (.fcmp .g, 1, 0, 0) := rfl
theorem xf_128_3 : xcode 128 3 = some (.ifCond .gt 5, 3, 8, 0) := rfl
theorem xf_128_6 : xcode 128 6 = some (.iconst 0, 1, 0, 0) := rfl
theorem xf_128_7 : xcode 128 7 = some (.ireturn, 1, 0, 0) := rfl
theorem xf_128_8 : xcode 128 8 = some (.fload_n 0, 1, 0, 0) := rfl
theorem xf_128_9 : xcode 128 9 = some (.fstore_n 1, 1, 0, 0) := rfl
theorem xf_128_10 : xcode 128 10 = some (.bipush 127, 2, 0, 0) := rfl
theorem xf_128_12 : xcode 128 12 = some (.istore_n 2, 1, 0, 0) := rfl
theorem xf_128_13 : xcode 128 13 = some (.fload_n 1, 1, 0, 0) := rfl
theorem xf_128_14 : xcode 128 14 = some (.fconst 1, 1, 0, 0) := rfl
theorem xf_128_15 : xcode 128 15 = some (.fcmp .g, 1, 0, 0) := rfl
theorem xf_128_16 : xcode 128 16 = some (.ifCond .ge 18, 3, 34, 0) := rfl
theorem xf_128_19 : xcode 128 19 = some (.iload_n 2, 1, 0, 0) := rfl
theorem xf_128_20 : xcode 128 20 = some (.iconst 1, 1, 0, 0) := rfl
theorem xf_128_21 : xcode 128 21 = some (.if_icmp .le 13, 3, 34, 0) := rfl
theorem xf_128_24 : xcode 128 24 = some (.fload_n 1, 1, 0, 0) := rfl
theorem xf_128_25 : xcode 128 25 = some (.fconst 2, 1, 0, 0) := rfl
theorem xf_128_26 : xcode 128 26 = some (.fmul, 1, 0, 0) := rfl
theorem xf_128_27 : xcode 128 27 = some (.fstore_n 1, 1, 0, 0) := rfl
theorem xf_128_28 : xcode 128 28 = some (.iinc 2 (-1), 3, 0, 0) := rfl
theorem xf_128_31 : xcode 128 31 = some (.goto (-18), 3, 13, 0) := rfl
theorem xf_128_34 : xcode 128 34 = some (.iload_n 2, 1, 0, 0) := rfl
theorem xf_128_35 : xcode 128 35 = some (.bipush 23, 2, 0, 0) := rfl
theorem xf_128_37 : xcode 128 37 = some (.ishl, 1, 0, 0) := rfl
theorem xf_128_38 : xcode 128 38 = some (.fload_n 1, 1, 0, 0) := rfl
theorem xf_128_39 : xcode 128 39 = some (.fconst 1, 1, 0, 0) := rfl
theorem xf_128_40 : xcode 128 40 = some (.fsub, 1, 0, 0) := rfl
theorem xf_128_41 : xcode 128 41 = some (.ldc_w 414, 3, 11, 0) := rfl
theorem xf_128_44 : xcode 128 44 = some (.fmul, 1, 0, 0) := rfl
theorem xf_128_45 : xcode 128 45 = some (.f2i, 1, 0, 0) := rfl
theorem xf_128_46 : xcode 128 46 = some (.ior, 1, 0, 0) := rfl
theorem xf_128_47 : xcode 128 47 = some (.ireturn, 1, 0, 0) := rfl
theorem xf_129_0 : xcode 129 0 = some (.aload_n 0, 1, 0, 0) := rfl
theorem xf_129_1 : xcode 129 1 = some (.invokespecial 1, 3, 0, 2) := rfl
theorem xf_129_4 : xcode 129 4 = some (.aload_n 0, 1, 0, 0) := rfl
theorem xf_129_5 : xcode 129 5 = some (.bipush 36, 2, 0, 0) := rfl
theorem xf_129_7 : xcode 129 7 = some (.newarray .int, 2, 100, 0) := rfl
theorem xf_129_9 : xcode 129 9 = some (.putfield 7, 3, 11, 1) := rfl
theorem xf_129_12 : xcode 129 12 = some (.aload_n 0, 1, 0, 0) := rfl
theorem xf_129_13 : xcode 129 13 = some (.bipush 36, 2, 0, 0) := rfl
theorem xf_129_15 : xcode 129 15 = some (.newarray .int, 2, 100, 0) := rfl
theorem xf_129_17 : xcode 129 17 = some (.putfield 13, 3, 11, 2) := rfl
theorem xf_129_20 : xcode 129 20 = some (.aload_n 0, 1, 0, 0) := rfl
theorem xf_129_21 : xcode 129 21 = some (.iconst 4, 1, 0, 0) := rfl
theorem xf_129_22 : xcode 129 22 = some (.newarray .int, 2, 100, 0) := rfl
theorem xf_129_24 : xcode 129 24 = some (.putfield 16, 3, 11, 3) := rfl
theorem xf_129_27 : xcode 129 27 = some (.aload_n 0, 1, 0, 0) := rfl
theorem xf_129_28 : xcode 129 28 = some (.bipush 16, 2, 0, 0) := rfl
theorem xf_129_30 : xcode 129 30 = some (.newarray .int, 2, 100, 0) := rfl
theorem xf_129_32 : xcode 129 32 = some (.putfield 19, 3, 11, 4) := rfl
theorem xf_129_35 : xcode 129 35 = some (.aload_n 0, 1, 0, 0) := rfl
theorem xf_129_36 : xcode 129 36 = some (.bipush 36, 2, 0, 0) := rfl
theorem xf_129_38 : xcode 129 38 = some (.newarray .int, 2, 100, 0) := rfl
theorem xf_129_40 : xcode 129 40 = some (.putfield 22, 3, 11, 5) := rfl
theorem xf_129_43 : xcode 129 43 = some (.aload_n 0, 1, 0, 0) := rfl
theorem xf_129_44 : xcode 129 44 = some (.iconst 4, 1, 0, 0) := rfl
theorem xf_129_45 : xcode 129 45 = some (.putfield 25, 3, 11, 6) := rfl
theorem xf_129_48 : xcode 129 48 = some (.aload_n 0, 1, 0, 0) := rfl
theorem xf_129_49 : xcode 129 49 = some (.iconst 3, 1, 0, 0) := rfl
theorem xf_129_50 : xcode 129 50 = some (.putfield 29, 3, 11, 7) := rfl
theorem xf_129_53 : xcode 129 53 = some (.aload_n 0, 1, 0, 0) := rfl
theorem xf_129_54 : xcode 129 54 = some (.iconst 1, 1, 0, 0) := rfl
theorem xf_129_55 : xcode 129 55 = some (.putfield 32, 3, 11, 11) := rfl
theorem xf_129_58 : xcode 129 58 = some (.aload_n 0, 1, 0, 0) := rfl
theorem xf_129_59 : xcode 129 59 = some (.bipush 36, 2, 0, 0) := rfl
theorem xf_129_61 : xcode 129 61 = some (.newarray .long, 2, 101, 0) := rfl
theorem xf_129_63 : xcode 129 63 = some (.putfield 35, 3, 11, 14) := rfl
theorem xf_129_66 : xcode 129 66 = some (.aload_n 0, 1, 0, 0) := rfl
theorem xf_129_67 : xcode 129 67 = some (.bipush 36, 2, 0, 0) := rfl
theorem xf_129_69 : xcode 129 69 = some (.newarray .long, 2, 101, 0) := rfl
theorem xf_129_71 : xcode 129 71 = some (.putfield 39, 3, 11, 15) := rfl
theorem xf_129_74 : xcode 129 74 = some (.aload_n 0, 1, 0, 0) := rfl
theorem xf_129_75 : xcode 129 75 = some (.bipush 8, 2, 0, 0) := rfl
theorem xf_129_77 : xcode 129 77 = some (.newarray .int, 2, 100, 0) := rfl
theorem xf_129_79 : xcode 129 79 = some (.putfield 42, 3, 11, 16) := rfl
theorem xf_129_82 : xcode 129 82 = some (.aload_n 0, 1, 0, 0) := rfl
theorem xf_129_83 : xcode 129 83 = some (.bipush 32, 2, 0, 0) := rfl
theorem xf_129_85 : xcode 129 85 = some (.newarray .int, 2, 100, 0) := rfl
theorem xf_129_87 : xcode 129 87 = some (.putfield 45, 3, 11, 17) := rfl
theorem xf_129_90 : xcode 129 90 = some (.aload_n 0, 1, 0, 0) := rfl
theorem xf_129_91 : xcode 129 91 = some (.sipush 288, 3, 0, 0) := rfl
theorem xf_129_94 : xcode 129 94 = some (.newarray .int, 2, 100, 0) := rfl
theorem xf_129_96 : xcode 129 96 = some (.putfield 48, 3, 11, 18) := rfl
theorem xf_129_99 : xcode 129 99 = some (.aload_n 0, 1, 0, 0) := rfl
theorem xf_129_100 : xcode 129 100 = some (.iconst (-1), 1, 0, 0) := rfl
theorem xf_129_101 : xcode 129 101 = some (.putfield 51, 3, 11, 21) := rfl
theorem xf_129_104 : xcode 129 104 = some (.aload_n 0, 1, 0, 0) := rfl
theorem xf_129_105 : xcode 129 105 = some (.bipush 36, 2, 0, 0) := rfl
theorem xf_129_107 : xcode 129 107 = some (.newarray .int, 2, 100, 0) := rfl
theorem xf_129_109 : xcode 129 109 = some (.putfield 54, 3, 11, 22) := rfl
theorem xf_129_112 : xcode 129 112 = some (.aload_n 0, 1, 0, 0) := rfl
theorem xf_129_113 : xcode 129 113 = some (.bipush 45, 2, 0, 0) := rfl
theorem xf_129_115 : xcode 129 115 = some (.newarray .int, 2, 100, 0) := rfl
theorem xf_129_117 : xcode 129 117 = some (.putfield 57, 3, 11, 24) := rfl
theorem xf_129_120 : xcode 129 120 = some (.aload_n 0, 1, 0, 0) := rfl
theorem xf_129_121 : xcode 129 121 = some (.bipush 36, 2, 0, 0) := rfl
theorem xf_129_123 : xcode 129 123 = some (.newarray .int, 2, 100, 0) := rfl
theorem xf_129_125 : xcode 129 125 = some (.putfield 60, 3, 11, 25) := rfl
theorem xf_129_128 : xcode 129 128 = some (.aload_n 0, 1, 0, 0) := rfl
theorem xf_129_129 : xcode 129 129 = some (.iconst (-1), 1, 0, 0) := rfl
theorem xf_129_130 : xcode 129 130 = some (.putfield 63, 3, 11, 30) := rfl
theorem xf_129_133 : xcode 129 133 = some (.aload_n 0, 1, 0, 0) := rfl
theorem xf_129_134 : xcode 129 134 = some (.bipush 36, 2, 0, 0) := rfl
theorem xf_129_136 : xcode 129 136 = some (.newarray .int, 2, 100, 0) := rfl
theorem xf_129_138 : xcode 129 138 = some (.putfield 66, 3, 11, 31) := rfl
theorem xf_129_141 : xcode 129 141 = some (.aload_n 0, 1, 0, 0) := rfl
theorem xf_129_142 : xcode 129 142 = some (.bipush 36, 2, 0, 0) := rfl
theorem xf_129_144 : xcode 129 144 = some (.newarray .long, 2, 101, 0) := rfl
theorem xf_129_146 : xcode 129 146 = some (.putfield 69, 3, 11, 32) := rfl
theorem xf_129_149 : xcode 129 149 = some (.aload_n 0, 1, 0, 0) := rfl
theorem xf_129_150 : xcode 129 150 = some (.bipush 36, 2, 0, 0) := rfl
theorem xf_129_152 : xcode 129 152 = some (.newarray .long, 2, 101, 0) := rfl
theorem xf_129_154 : xcode 129 154 = some (.putfield 72, 3, 11, 33) := rfl
theorem xf_129_157 : xcode 129 157 = some (.aload_n 0, 1, 0, 0) := rfl
theorem xf_129_158 : xcode 129 158 = some (.sipush 324, 3, 0, 0) := rfl
theorem xf_129_161 : xcode 129 161 = some (.newarray .long, 2, 101, 0) := rfl
theorem xf_129_163 : xcode 129 163 = some (.putfield 75, 3, 11, 34) := rfl
theorem xf_129_166 : xcode 129 166 = some (.aload_n 0, 1, 0, 0) := rfl
theorem xf_129_167 : xcode 129 167 = some (.bipush 9, 2, 0, 0) := rfl
theorem xf_129_169 : xcode 129 169 = some (.newarray .int, 2, 100, 0) := rfl
theorem xf_129_171 : xcode 129 171 = some (.putfield 78, 3, 11, 35) := rfl
theorem xf_129_174 : xcode 129 174 = some (.aload_n 0, 1, 0, 0) := rfl
theorem xf_129_175 : xcode 129 175 = some (.bipush 36, 2, 0, 0) := rfl
theorem xf_129_177 : xcode 129 177 = some (.newarray .int, 2, 100, 0) := rfl
theorem xf_129_179 : xcode 129 179 = some (.putfield 81, 3, 11, 36) := rfl
theorem xf_129_182 : xcode 129 182 = some (.aload_n 0, 1, 0, 0) := rfl
theorem xf_129_183 : xcode 129 183 = some (.sipush 3072, 3, 0, 0) := rfl
theorem xf_129_186 : xcode 129 186 = some (.newarray .int, 2, 100, 0) := rfl
theorem xf_129_188 : xcode 129 188 = some (.putfield 84, 3, 11, 37) := rfl
theorem xf_129_191 : xcode 129 191 = some (.aload_n 0, 1, 0, 0) := rfl
theorem xf_129_192 : xcode 129 192 = some (.sipush 512, 3, 0, 0) := rfl
theorem xf_129_195 : xcode 129 195 = some (.newarray .int, 2, 100, 0) := rfl
theorem xf_129_197 : xcode 129 197 = some (.putfield 87, 3, 11, 38) := rfl
theorem xf_129_200 : xcode 129 200 = some (.iconst 0, 1, 0, 0) := rfl
theorem xf_129_201 : xcode 129 201 = some (.istore_n 1, 1, 0, 0) := rfl
theorem xf_129_202 : xcode 129 202 = some (.iload_n 1, 1, 0, 0) := rfl
theorem xf_129_203 : xcode 129 203 = some (.bipush 36, 2, 0, 0) := rfl
theorem xf_129_205 : xcode 129 205 = some (.if_icmp .ge 16, 3, 221, 0) := rfl
theorem xf_129_208 : xcode 129 208 = some (.aload_n 0, 1, 0, 0) := rfl
theorem xf_129_209 : xcode 129 209 = some (.getfield 13, 3, 11, 2) := rfl
theorem xf_129_212 : xcode 129 212 = some (.iload_n 1, 1, 0, 0) := rfl
theorem xf_129_213 : xcode 129 213 = some (.iconst 1, 1, 0, 0) := rfl
theorem xf_129_214 : xcode 129 214 = some (.iastore, 1, 0, 0) := rfl
theorem xf_129_215 : xcode 129 215 = some (.iinc 1 1, 3, 0, 0) := rfl
theorem xf_129_218 : xcode 129 218 = some (.goto (-16), 3, 202, 0) := rfl
theorem xf_129_221 : xcode 129 221 = some (.aload_n 0, 1, 0, 0) := rfl
theorem xf_129_222 : xcode 129 222 = some (.getfield 16, 3, 11, 3) := rfl
theorem xf_129_225 : xcode 129 225 = some (.iconst 0, 1, 0, 0) := rfl
theorem xf_129_226 : xcode 129 226 = some (.bipush 16, 2, 0, 0) := rfl
theorem xf_129_228 : xcode 129 228 = some (.iastore, 1, 0, 0) := rfl
theorem xf_129_229 : xcode 129 229 = some (.iconst 0, 1, 0, 0) := rfl
theorem xf_129_230 : xcode 129 230 = some (.istore_n 1, 1, 0, 0) := rfl
theorem xf_129_231 : xcode 129 231 = some (.iload_n 1, 1, 0, 0) := rfl
theorem xf_129_232 : xcode 129 232 = some (.iconst 4, 1, 0, 0) := rfl
theorem xf_129_233 : xcode 129 233 = some (.if_icmp .ge 21, 3, 254, 0) := rfl
theorem xf_129_236 : xcode 129 236 = some (.aload_n 0, 1, 0, 0) := rfl
theorem xf_129_237 : xcode 129 237 = some (.getfield 19, 3, 11, 4) := rfl
theorem xf_129_240 : xcode 129 240 = some (.iconst 4, 1, 0, 0) := rfl
theorem xf_129_241 : xcode 129 241 = some (.iload_n 1, 1, 0, 0) := rfl
theorem xf_129_242 : xcode 129 242 = some (.imul, 1, 0, 0) := rfl
theorem xf_129_243 : xcode 129 243 = some (.iload_n 1, 1, 0, 0) := rfl
theorem xf_129_244 : xcode 129 244 = some (.iadd, 1, 0, 0) := rfl
theorem xf_129_245 : xcode 129 245 = some (.bipush 100, 2, 0, 0) := rfl
theorem xf_129_247 : xcode 129 247 = some (.iastore, 1, 0, 0) := rfl
theorem xf_129_248 : xcode 129 248 = some (.iinc 1 1, 3, 0, 0) := rfl
theorem xf_129_251 : xcode 129 251 = some (.goto (-20), 3, 231, 0) := rfl
theorem xf_129_254 : xcode 129 254 = some (.aload_n 0, 1, 0, 0) := rfl
theorem xf_129_255 : xcode 129 255 = some (.invokevirtual 90, 3, 147, 0) := rfl
theorem xf_129_258 : xcode 129 258 = some (.return_, 1, 0, 0) := rfl
theorem xf_130_0 : xcode 130 0 = some (.aload_n 0, 1, 0, 0) := rfl
theorem xf_130_1 : xcode 130 1 = some (.getfield 93, 3, 11, 0) := rfl
theorem xf_130_4 : xcode 130 4 = some (.ireturn, 1, 0, 0) := rfl
theorem xf_131_0 : xcode 131 0 = some (.aload_n 0, 1, 0, 0) := rfl
theorem xf_131_1 : xcode 131 1 = some (.iload_n 1, 1, 0, 0) := rfl
theorem xf_131_2 : xcode 131 2 = some (.putfield 93, 3, 11, 0) := rfl
theorem xf_131_5 : xcode 131 5 = some (.iconst 0, 1, 0, 0) := rfl
theorem xf_131_6 : xcode 131 6 = some (.ireturn, 1, 0, 0) := rfl
theorem xf_132_0 : xcode 132 0 = some (.aload_n 0, 1, 0, 0) := rfl
theorem xf_132_1 : xcode 132 1 = some (.iload_n 1, 1, 0, 0) := rfl
theorem xf_132_2 : xcode 132 2 = some (.putfield 93, 3, 11, 0) := rfl
theorem xf_132_5 : xcode 132 5 = some (.iconst 0, 1, 0, 0) := rfl
theorem xf_132_6 : xcode 132 6 = some (.ireturn, 1, 0, 0) := rfl
theorem xf_133_0 : xcode 133 0 = some (.iload_n 0, 1, 0, 0) := rfl
theorem xf_133_1 : xcode 133 1 = some (.iload_n 1, 1, 0, 0) := rfl
theorem xf_133_2 : xcode 133 2 = some (.if_icmp .lt 12, 3, 14, 0) := rfl
theorem xf_133_5 : xcode 133 5 = some (.iload_n 0, 1, 0, 0) := rfl
theorem xf_133_6 : xcode 133 6 = some (.iload_n 2, 1, 0, 0) := rfl
theorem xf_133_7 : xcode 133 7 = some (.if_icmp .gt 7, 3, 14, 0) := rfl
theorem xf_133_10 : xcode 133 10 = some (.iconst 1, 1, 0, 0) := rfl
theorem xf_133_11 : xcode 133 11 = some (.goto 4, 3, 15, 0) := rfl
theorem xf_133_14 : xcode 133 14 = some (.iconst 0, 1, 0, 0) := rfl
theorem xf_133_15 : xcode 133 15 = some (.ireturn, 1, 0, 0) := rfl
theorem xf_134_0 : xcode 134 0 = some (.aload_n 0, 1, 0, 0) := rfl
theorem xf_134_1 : xcode 134 1 = some (.getfield 25, 3, 11, 6) := rfl
theorem xf_134_4 : xcode 134 4 = some (.aload_n 0, 1, 0, 0) := rfl
theorem xf_134_5 : xcode 134 5 = some (.getfield 29, 3, 11, 7) := rfl
theorem xf_134_8 : xcode 134 8 = some (.imul, 1, 0, 0) := rfl
theorem xf_134_9 : xcode 134 9 = some (.ireturn, 1, 0, 0) := rfl
theorem xf_135_0 : xcode 135 0 = some (.iload_n 1, 1, 0, 0) := rfl
theorem xf_135_1 : xcode 135 1 = some (.ifCond .lt 15, 3, 16, 0) := rfl
theorem xf_135_4 : xcode 135 4 = some (.iload_n 1, 1, 0, 0) := rfl
theorem xf_135_5 : xcode 135 5 = some (.aload_n 0, 1, 0, 0) := rfl
theorem xf_135_6 : xcode 135 6 = some (.invokevirtual 96, 3, 134, 0) := rfl
theorem xf_135_9 : xcode 135 9 = some (.if_icmp .ge 7, 3, 16, 0) := rfl
theorem xf_135_12 : xcode 135 12 = some (.iconst 1, 1, 0, 0) := rfl
theorem xf_135_13 : xcode 135 13 = some (.goto 4, 3, 17, 0) := rfl
theorem xf_135_16 : xcode 135 16 = some (.iconst 0, 1, 0, 0) := rfl
theorem xf_135_17 : xcode 135 17 = some (.ireturn, 1, 0, 0) := rfl
theorem xf_136_0 : xcode 136 0 = some (.aload_n 0, 1, 0, 0) := rfl
theorem xf_136_1 : xcode 136 1 = some (.getfield 7, 3, 11, 1) := rfl
theorem xf_136_4 : xcode 136 4 = some (.iload_n 1, 1, 0, 0) := rfl
theorem xf_136_5 : xcode 136 5 = some (.iaload, 1, 0, 0) := rfl
theorem xf_136_6 : xcode 136 6 = some (.iconst (-1), 1, 0, 0) := rfl
theorem xf_136_7 : xcode 136 7 = some (.if_icmp .eq 7, 3, 14, 0) := rfl
theorem xf_136_10 : xcode 136 10 = some (.iconst 1, 1, 0, 0) := rfl
theorem xf_136_11 : xcode 136 11 = some (.goto 4, 3, 15, 0) := rfl
theorem xf_136_14 : xcode 136 14 = some (.iconst 0, 1, 0, 0) := rfl
theorem xf_136_15 : xcode 136 15 = some (.ireturn, 1, 0, 0) := rfl
theorem xf_137_0 : xcode 137 0 = some (.iload_n 0, 1, 0, 0) := rfl
theorem xf_137_1 : xcode 137 1 = some (.ifCond .lt 12, 3, 13, 0) := rfl
theorem xf_137_4 : xcode 137 4 = some (.iload_n 0, 1, 0, 0) := rfl
theorem xf_137_5 : xcode 137 5 = some (.iconst 4, 1, 0, 0) := rfl
theorem xf_137_6 : xcode 137 6 = some (.if_icmp .ge 7, 3, 13, 0) := rfl
theorem xf_137_9 : xcode 137 9 = some (.iconst 1, 1, 0, 0) := rfl
theorem xf_137_10 : xcode 137 10 = some (.goto 4, 3, 14, 0) := rfl
theorem xf_137_13 : xcode 137 13 = some (.iconst 0, 1, 0, 0) := rfl
theorem xf_137_14 : xcode 137 14 = some (.ireturn, 1, 0, 0) := rfl
theorem xf_138_0 : xcode 138 0 = some (.iload_n 0, 1, 0, 0) := rfl
theorem xf_138_1 : xcode 138 1 = some (.ifCond .lt 12, 3, 13, 0) := rfl
theorem xf_138_4 : xcode 138 4 = some (.iload_n 0, 1, 0, 0) := rfl
theorem xf_138_5 : xcode 138 5 = some (.iconst 4, 1, 0, 0) := rfl
theorem xf_138_6 : xcode 138 6 = some (.if_icmp .ge 7, 3, 13, 0) := rfl
theorem xf_138_9 : xcode 138 9 = some (.iconst 1, 1, 0, 0) := rfl
theorem xf_138_10 : xcode 138 10 = some (.goto 4, 3, 14, 0) := rfl
theorem xf_138_13 : xcode 138 13 = some (.iconst 0, 1, 0, 0) := rfl
theorem xf_138_14 : xcode 138 14 = some (.ireturn, 1, 0, 0) := rfl
theorem xf_139_0 : xcode 139 0 = some (.iconst 0, 1, 0, 0) := rfl
theorem xf_139_1 : xcode 139 1 = some (.istore_n 1, 1, 0, 0) := rfl
theorem xf_139_2 : xcode 139 2 = some (.iconst 0, 1, 0, 0) := rfl
theorem xf_139_3 : xcode 139 3 = some (.istore_n 2, 1, 0, 0) := rfl
theorem xf_139_4 : xcode 139 4 = some (.iload_n 2, 1, 0, 0) := rfl
theorem xf_139_5 : xcode 139 5 = some (.aload_n 0, 1, 0, 0) := rfl
theorem xf_139_6 : xcode 139 6 = some (.invokevirtual 96, 3, 134, 0) := rfl
theorem xf_139_9 : xcode 139 9 = some (.if_icmp .ge 25, 3, 34, 0) := rfl
theorem xf_139_12 : xcode 139 12 = some (.iload_n 1, 1, 0, 0) := rfl
theorem xf_139_13 : xcode 139 13 = some (.aload_n 0, 1, 0, 0) := rfl
theorem xf_139_14 : xcode 139 14 = some (.iload_n 2, 1, 0, 0) := rfl
theorem xf_139_15 : xcode 139 15 = some (.invokevirtual 100, 3, 136, 0) := rfl
theorem xf_139_18 : xcode 139 18 = some (.ifCond .eq 7, 3, 25, 0) := rfl
theorem xf_139_21 : xcode 139 21 = some (.iconst 1, 1, 0, 0) := rfl
theorem xf_139_22 : xcode 139 22 = some (.goto 4, 3, 26, 0) := rfl
theorem xf_139_25 : xcode 139 25 = some (.iconst 0, 1, 0, 0) := rfl
theorem xf_139_26 : xcode 139 26 = some (.iadd, 1, 0, 0) := rfl
theorem xf_139_27 : xcode 139 27 = some (.istore_n 1, 1, 0, 0) := rfl
theorem xf_139_28 : xcode 139 28 = some (.iinc 2 1, 3, 0, 0) := rfl
theorem xf_139_31 : xcode 139 31 = some (.goto (-27), 3, 4, 0) := rfl
theorem xf_139_34 : xcode 139 34 = some (.iload_n 1, 1, 0, 0) := rfl
theorem xf_139_35 : xcode 139 35 = some (.ireturn, 1, 0, 0) := rfl
theorem xf_140_0 : xcode 140 0 = some (.iconst 0, 1, 0, 0) := rfl
theorem xf_140_1 : xcode 140 1 = some (.istore_n 1, 1, 0, 0) := rfl
theorem xf_140_2 : xcode 140 2 = some (.aload_n 0, 1, 0, 0) := rfl
theorem xf_140_3 : xcode 140 3 = some (.iload_n 1, 1, 0, 0) := rfl
theorem xf_140_4 : xcode 140 4 = some (.invokevirtual 100, 3, 136, 0) := rfl
theorem xf_140_7 : xcode 140 7 = some (.ifCond .ne 9, 3, 16, 0) := rfl
theorem xf_140_10 : xcode 140 10 = some (.iinc 1 1, 3, 0, 0) := rfl
theorem xf_140_13 : xcode 140 13 = some (.goto (-11), 3, 2, 0) := rfl
theorem xf_140_16 : xcode 140 16 = some (.iload_n 1, 1, 0, 0) := rfl
theorem xf_140_17 : xcode 140 17 = some (.ireturn, 1, 0, 0) := rfl
theorem xf_141_0 : xcode 141 0 = some (.iload_n 1, 1, 0, 0) := rfl
theorem xf_141_1 : xcode 141 1 = some (.aload_n 0, 1, 0, 0) := rfl
theorem xf_141_2 : xcode 141 2 = some (.getfield 25, 3, 11, 6) := rfl
theorem xf_141_5 : xcode 141 5 = some (.irem, 1, 0, 0) := rfl
theorem xf_141_6 : xcode 141 6 = some (.iload_n 2, 1, 0, 0) := rfl
theorem xf_141_7 : xcode 141 7 = some (.iconst 1, 1, 0, 0) := rfl
theorem xf_141_8 : xcode 141 8 = some (.if_icmp .ne 7, 3, 15, 0) := rfl
theorem xf_141_11 : xcode 141 11 = some (.iconst 1, 1, 0, 0) := rfl
theorem xf_141_12 : xcode 141 12 = some (.goto 13, 3, 25, 0) := rfl
theorem xf_141_15 : xcode 141 15 = some (.iload_n 2, 1, 0, 0) := rfl
theorem xf_141_16 : xcode 141 16 = some (.iconst 3, 1, 0, 0) := rfl
theorem xf_141_17 : xcode 141 17 = some (.if_icmp .ne 7, 3, 24, 0) := rfl
theorem xf_141_20 : xcode 141 20 = some (.iconst (-1), 1, 0, 0) := rfl
theorem xf_141_21 : xcode 141 21 = some (.goto 4, 3, 25, 0) := rfl
theorem xf_141_24 : xcode 141 24 = some (.iconst 0, 1, 0, 0) := rfl
theorem xf_141_25 : xcode 141 25 = some (.iadd, 1, 0, 0) := rfl
theorem xf_141_26 : xcode 141 26 = some (.istore_n 3, 1, 0, 0) := rfl
theorem xf_141_27 : xcode 141 27 = some (.iload_n 1, 1, 0, 0) := rfl
theorem xf_141_28 : xcode 141 28 = some (.aload_n 0, 1, 0, 0) := rfl
theorem xf_141_29 : xcode 141 29 = some (.getfield 25, 3, 11, 6) := rfl
theorem xf_141_32 : xcode 141 32 = some (.idiv, 1, 0, 0) := rfl
theorem xf_141_33 : xcode 141 33 = some (.iload_n 2, 1, 0, 0) := rfl
theorem xf_141_34 : xcode 141 34 = some (.iconst 2, 1, 0, 0) := rfl
theorem xf_141_35 : xcode 141 35 = some (.if_icmp .ne 7, 3, 42, 0) := rfl
theorem xf_141_38 : xcode 141 38 = some (.iconst 1, 1, 0, 0) := rfl
theorem xf_141_39 : xcode 141 39 = some (.goto 12, 3, 51, 0) := rfl
theorem xf_141_42 : xcode 141 42 = some (.iload_n 2, 1, 0, 0) := rfl
theorem xf_141_43 : xcode 141 43 = some (.ifCond .ne 7, 3, 50, 0) := rfl
theorem xf_141_46 : xcode 141 46 = some (.iconst (-1), 1, 0, 0) := rfl
theorem xf_141_47 : xcode 141 47 = some (.goto 4, 3, 51, 0) := rfl
theorem xf_141_50 : xcode 141 50 = some (.iconst 0, 1, 0, 0) := rfl
theorem xf_141_51 : xcode 141 51 = some (.iadd, 1, 0, 0) := rfl
theorem xf_141_52 : xcode 141 52 = some (.istore 4, 2, 0, 0) := rfl
theorem xf_141_54 : xcode 141 54 = some (.iload_n 3, 1, 0, 0) := rfl
theorem xf_141_55 : xcode 141 55 = some (.ifCond .lt 25, 3, 80, 0) := rfl
theorem xf_141_58 : xcode 141 58 = some (.iload_n 3, 1, 0, 0) := rfl
theorem xf_141_59 : xcode 141 59 = some (.aload_n 0, 1, 0, 0) := rfl
theorem xf_141_60 : xcode 141 60 = some (.getfield 25, 3, 11, 6) := rfl
theorem xf_141_63 : xcode 141 63 = some (.if_icmp .ge 17, 3, 80, 0) := rfl
theorem xf_141_66 : xcode 141 66 = some (.iload 4, 2, 0, 0) := rfl
theorem xf_141_68 : xcode 141 68 = some (.ifCond .lt 12, 3, 80, 0) := rfl
theorem xf_141_71 : xcode 141 71 = some (.iload 4, 2, 0, 0) := rfl
theorem xf_141_73 : xcode 141 73 = some (.aload_n 0, 1, 0, 0) := rfl
theorem xf_141_74 : xcode 141 74 = some (.getfield 29, 3, 11, 7) := rfl
theorem xf_141_77 : xcode 141 77 = some (.if_icmp .lt 5, 3, 82, 0) := rfl
theorem xf_141_80 : xcode 141 80 = some (.iload_n 1, 1, 0, 0) := rfl
theorem xf_141_81 : xcode 141 81 = some (.ireturn, 1, 0, 0) := rfl
theorem xf_141_82 : xcode 141 82 = some (.aload_n 0, 1, 0, 0) := rfl
theorem xf_141_83 : xcode 141 83 = some (.aload_n 0, 1, 0, 0) := rfl
theorem xf_141_84 : xcode 141 84 = some (.getfield 25, 3, 11, 6) := rfl
theorem xf_141_87 : xcode 141 87 = some (.iload 4, 2, 0, 0) := rfl
theorem xf_141_89 : xcode 141 89 = some (.imul, 1, 0, 0) := rfl
theorem xf_141_90 : xcode 141 90 = some (.iload_n 3, 1, 0, 0) := rfl
theorem xf_141_91 : xcode 141 91 = some (.iadd, 1, 0, 0) := rfl
theorem xf_141_92 : xcode 141 92 = some (.invokevirtual 100, 3, 136, 0) := rfl
theorem xf_141_95 : xcode 141 95 = some (.ifCond .eq 15, 3, 110, 0) := rfl
theorem xf_141_98 : xcode 141 98 = some (.aload_n 0, 1, 0, 0) := rfl
theorem xf_141_99 : xcode 141 99 = some (.getfield 25, 3, 11, 6) := rfl
theorem xf_141_102 : xcode 141 102 = some (.iload 4, 2, 0, 0) := rfl
theorem xf_141_104 : xcode 141 104 = some (.imul, 1, 0, 0) := rfl
theorem xf_141_105 : xcode 141 105 = some (.iload_n 3, 1, 0, 0) := rfl
theorem xf_141_106 : xcode 141 106 = some (.iadd, 1, 0, 0) := rfl
theorem xf_141_107 : xcode 141 107 = some (.goto 4, 3, 111, 0) := rfl
theorem xf_141_110 : xcode 141 110 = some (.iload_n 1, 1, 0, 0) := rfl
theorem xf_141_111 : xcode 141 111 = some (.ireturn, 1, 0, 0) := rfl
theorem xf_142_0 : xcode 142 0 = some (.iload_n 3, 1, 0, 0) := rfl
theorem xf_142_1 : xcode 142 1 = some (.iconst 3, 1, 0, 0) := rfl
theorem xf_142_2 : xcode 142 2 = some (.if_icmp .ne 7, 3, 9, 0) := rfl
theorem xf_142_5 : xcode 142 5 = some (.iload_n 1, 1, 0, 0) := rfl
theorem xf_142_6 : xcode 142 6 = some (.goto 34, 3, 40, 0) := rfl
theorem xf_142_9 : xcode 142 9 = some (.aload_n 0, 1, 0, 0) := rfl
theorem xf_142_10 : xcode 142 10 = some (.iload_n 1, 1, 0, 0) := rfl
theorem xf_142_11 : xcode 142 11 = some (.iload_n 3, 1, 0, 0) := rfl
theorem xf_142_12 : xcode 142 12 = some (.ifCond .ne 7, 3, 19, 0) := rfl
theorem xf_142_15 : xcode 142 15 = some (.iload_n 2, 1, 0, 0) := rfl
theorem xf_142_16 : xcode 142 16 = some (.goto 21, 3, 37, 0) := rfl
theorem xf_142_19 : xcode 142 19 = some (.iload_n 3, 1, 0, 0) := rfl
theorem xf_142_20 : xcode 142 20 = some (.iconst 1, 1, 0, 0) := rfl
theorem xf_142_21 : xcode 142 21 = some (.if_icmp .ne 11, 3, 32, 0) := rfl
theorem xf_142_24 : xcode 142 24 = some (.iload_n 2, 1, 0, 0) := rfl
theorem xf_142_25 : xcode 142 25 = some (.iconst 3, 1, 0, 0) := rfl
theorem xf_142_26 : xcode 142 26 = some (.iadd, 1, 0, 0) := rfl
theorem xf_142_27 : xcode 142 27 = some (.iconst 4, 1, 0, 0) := rfl
theorem xf_142_28 : xcode 142 28 = some (.irem, 1, 0, 0) := rfl
theorem xf_142_29 : xcode 142 29 = some (.goto 8, 3, 37, 0) := rfl
theorem xf_142_32 : xcode 142 32 = some (.iload_n 2, 1, 0, 0) := rfl
theorem xf_142_33 : xcode 142 33 = some (.iconst 1, 1, 0, 0) := rfl
theorem xf_142_34 : xcode 142 34 = some (.iadd, 1, 0, 0) := rfl
theorem xf_142_35 : xcode 142 35 = some (.iconst 4, 1, 0, 0) := rfl
theorem xf_142_36 : xcode 142 36 = some (.irem, 1, 0, 0) := rfl
theorem xf_142_37 : xcode 142 37 = some (.invokevirtual 104, 3, 141, 0) := rfl
theorem xf_142_40 : xcode 142 40 = some (.ireturn, 1, 0, 0) := rfl
theorem xf_143_0 : xcode 143 0 = some (.iconst 0, 1, 0, 0) := rfl
theorem xf_143_1 : xcode 143 1 = some (.istore 6, 2, 0, 0) := rfl
theorem xf_143_3 : xcode 143 3 = some (.iconst 0, 1, 0, 0) := rfl
theorem xf_143_4 : xcode 143 4 = some (.istore 7, 2, 0, 0) := rfl
theorem xf_143_6 : xcode 143 6 = some (.iload 7, 2, 0, 0) := rfl
theorem xf_143_8 : xcode 143 8 = some (.iconst 4, 1, 0, 0) := rfl
theorem xf_143_9 : xcode 143 9 = some (.if_icmp .ge 38, 3, 47, 0) := rfl
theorem xf_143_12 : xcode 143 12 = some (.iload 6, 2, 0, 0) := rfl
theorem xf_143_14 : xcode 143 14 = some (.aload_n 0, 1, 0, 0) := rfl
theorem xf_143_15 : xcode 143 15 = some (.iload_n 3, 1, 0, 0) := rfl
theorem xf_143_16 : xcode 143 16 = some (.iload 5, 2, 0, 0) := rfl
theorem xf_143_18 : xcode 143 18 = some (.iload 7, 2, 0, 0) := rfl
theorem xf_143_20 : xcode 143 20 = some (.invokevirtual 108, 3, 142, 0) := rfl
theorem xf_143_23 : xcode 143 23 = some (.iload 4, 2, 0, 0) := rfl
theorem xf_143_25 : xcode 143 25 = some (.if_icmp .ne 12, 3, 37, 0) := rfl
theorem xf_143_28 : xcode 143 28 = some (.aload_n 1, 1, 0, 0) := rfl
theorem xf_143_29 : xcode 143 29 = some (.iload_n 2, 1, 0, 0) := rfl
theorem xf_143_30 : xcode 143 30 = some (.iload 7, 2, 0, 0) := rfl
theorem xf_143_32 : xcode 143 32 = some (.iadd, 1, 0, 0) := rfl
theorem xf_143_33 : xcode 143 33 = some (.iaload, 1, 0, 0) := rfl
theorem xf_143_34 : xcode 143 34 = some (.goto 4, 3, 38, 0) := rfl
theorem xf_143_37 : xcode 143 37 = some (.iconst 0, 1, 0, 0) := rfl
theorem xf_143_38 : xcode 143 38 = some (.iadd, 1, 0, 0) := rfl
theorem xf_143_39 : xcode 143 39 = some (.istore 6, 2, 0, 0) := rfl
theorem xf_143_41 : xcode 143 41 = some (.iinc 7 1, 3, 0, 0) := rfl
theorem xf_143_44 : xcode 143 44 = some (.goto (-38), 3, 6, 0) := rfl
theorem xf_143_47 : xcode 143 47 = some (.iload 6, 2, 0, 0) := rfl
theorem xf_143_49 : xcode 143 49 = some (.ireturn, 1, 0, 0) := rfl
theorem xf_144_0 : xcode 144 0 = some (.lconst 0, 1, 0, 0) := rfl
theorem xf_144_1 : xcode 144 1 = some (.lstore_n 1, 1, 0, 0) := rfl
theorem xf_144_2 : xcode 144 2 = some (.iconst 0, 1, 0, 0) := rfl
theorem xf_144_3 : xcode 144 3 = some (.istore_n 3, 1, 0, 0) := rfl
theorem xf_144_4 : xcode 144 4 = some (.iload_n 3, 1, 0, 0) := rfl
theorem xf_144_5 : xcode 144 5 = some (.aload_n 0, 1, 0, 0) := rfl
theorem xf_144_6 : xcode 144 6 = some (.invokevirtual 96, 3, 134, 0) := rfl
theorem xf_144_9 : xcode 144 9 = some (.if_icmp .ge 18, 3, 27, 0) := rfl
theorem xf_144_12 : xcode 144 12 = some (.lload_n 1, 1, 0, 0) := rfl
theorem xf_144_13 : xcode 144 13 = some (.aload_n 0, 1, 0, 0) := rfl
theorem xf_144_14 : xcode 144 14 = some (.getfield 35, 3, 11, 14) := rfl
theorem xf_144_17 : xcode 144 17 = some (.iload_n 3, 1, 0, 0) := rfl
theorem xf_144_18 : xcode 144 18 = some (.laload, 1, 0, 0) := rfl
theorem xf_144_19 : xcode 144 19 = some (.ladd, 1, 0, 0) := rfl
theorem xf_144_20 : xcode 144 20 = some (.lstore_n 1, 1, 0, 0) := rfl
theorem xf_144_21 : xcode 144 21 = some (.iinc 3 1, 3, 0, 0) := rfl
theorem xf_144_24 : xcode 144 24 = some (.goto (-20), 3, 4, 0) := rfl
theorem xf_144_27 : xcode 144 27 = some (.lload_n 1, 1, 0, 0) := rfl
theorem xf_144_28 : xcode 144 28 = some (.lreturn, 1, 0, 0) := rfl
theorem xf_145_0 : xcode 145 0 = some (.aload_n 0, 1, 0, 0) := rfl
theorem xf_145_1 : xcode 145 1 = some (.invokevirtual 112, 3, 144, 0) := rfl
theorem xf_145_4 : xcode 145 4 = some (.lstore_n 2, 1, 0, 0) := rfl
theorem xf_145_5 : xcode 145 5 = some (.iconst 0, 1, 0, 0) := rfl
theorem xf_145_6 : xcode 145 6 = some (.istore 4, 2, 0, 0) := rfl
theorem xf_145_8 : xcode 145 8 = some (.iconst 0, 1, 0, 0) := rfl
theorem xf_145_9 : xcode 145 9 = some (.istore 5, 2, 0, 0) := rfl
theorem xf_145_11 : xcode 145 11 = some (.iload 5, 2, 0, 0) := rfl
theorem xf_145_13 : xcode 145 13 = some (.bipush 36, 2, 0, 0) := rfl
theorem xf_145_15 : xcode 145 15 = some (.if_icmp .ge 14, 3, 29, 0) := rfl
theorem xf_145_18 : xcode 145 18 = some (.aload_n 1, 1, 0, 0) := rfl
theorem xf_145_19 : xcode 145 19 = some (.iload 5, 2, 0, 0) := rfl
theorem xf_145_21 : xcode 145 21 = some (.iconst 0, 1, 0, 0) := rfl
theorem xf_145_22 : xcode 145 22 = some (.iastore, 1, 0, 0) := rfl
theorem xf_145_23 : xcode 145 23 = some (.iinc 5 1, 3, 0, 0) := rfl
theorem xf_145_26 : xcode 145 26 = some (.goto (-15), 3, 11, 0) := rfl
theorem xf_145_29 : xcode 145 29 = some (.iconst 0, 1, 0, 0) := rfl
theorem xf_145_30 : xcode 145 30 = some (.istore 5, 2, 0, 0) := rfl
theorem xf_145_32 : xcode 145 32 = some (.iload 5, 2, 0, 0) := rfl
theorem xf_145_34 : xcode 145 34 = some (.aload_n 0, 1, 0, 0) := rfl
theorem xf_145_35 : xcode 145 35 = some (.invokevirtual 96, 3, 134, 0) := rfl
theorem xf_145_38 : xcode 145 38 = some (.if_icmp .ge 56, 3, 94, 0) := rfl
theorem xf_145_41 : xcode 145 41 = some (.aload_n 1, 1, 0, 0) := rfl
theorem xf_145_42 : xcode 145 42 = some (.iload 5, 2, 0, 0) := rfl
theorem xf_145_44 : xcode 145 44 = some (.aload_n 0, 1, 0, 0) := rfl
theorem xf_145_45 : xcode 145 45 = some (.getfield 35, 3, 11, 14) := rfl
theorem xf_145_48 : xcode 145 48 = some (.iload 5, 2, 0, 0) := rfl
theorem xf_145_50 : xcode 145 50 = some (.laload, 1, 0, 0) := rfl
theorem xf_145_51 : xcode 145 51 = some (.ldc2_w 116, 3, 2, 0) := rfl
theorem xf_145_54 : xcode 145 54 = some (.lmul, 1, 0, 0) := rfl
theorem xf_145_55 : xcode 145 55 = some (.lload_n 2, 1, 0, 0) := rfl
theorem xf_145_56 : xcode 145 56 = some (.ldiv, 1, 0, 0) := rfl
theorem xf_145_57 : xcode 145 57 = some (.l2i, 1, 0, 0) := rfl
theorem xf_145_58 : xcode 145 58 = some (.iastore, 1, 0, 0) := rfl
theorem xf_145_59 : xcode 145 59 = some (.aload_n 0, 1, 0, 0) := rfl
theorem xf_145_60 : xcode 145 60 = some (.getfield 39, 3, 11, 15) := rfl
theorem xf_145_63 : xcode 145 63 = some (.iload 5, 2, 0, 0) := rfl
theorem xf_145_65 : xcode 145 65 = some (.aload_n 0, 1, 0, 0) := rfl
theorem xf_145_66 : xcode 145 66 = some (.getfield 35, 3, 11, 14) := rfl
theorem xf_145_69 : xcode 145 69 = some (.iload 5, 2, 0, 0) := rfl
theorem xf_145_71 : xcode 145 71 = some (.laload, 1, 0, 0) := rfl
theorem xf_145_72 : xcode 145 72 = some (.ldc2_w 116, 3, 2, 0) := rfl
theorem xf_145_75 : xcode 145 75 = some (.lmul, 1, 0, 0) := rfl
theorem xf_145_76 : xcode 145 76 = some (.lload_n 2, 1, 0, 0) := rfl
theorem xf_145_77 : xcode 145 77 = some (.lrem, 1, 0, 0) := rfl
theorem xf_145_78 : xcode 145 78 = some (.lastore, 1, 0, 0) := rfl
theorem xf_145_79 : xcode 145 79 = some (.iload 4, 2, 0, 0) := rfl
theorem xf_145_81 : xcode 145 81 = some (.aload_n 1, 1, 0, 0) := rfl
theorem xf_145_82 : xcode 145 82 = some (.iload 5, 2, 0, 0) := rfl
theorem xf_145_84 : xcode 145 84 = some (.iaload, 1, 0, 0) := rfl
theorem xf_145_85 : xcode 145 85 = some (.iadd, 1, 0, 0) := rfl
theorem xf_145_86 : xcode 145 86 = some (.istore 4, 2, 0, 0) := rfl
theorem xf_145_88 : xcode 145 88 = some (.iinc 5 1, 3, 0, 0) := rfl
theorem xf_145_91 : xcode 145 91 = some (.goto (-59), 3, 32, 0) := rfl
theorem xf_145_94 : xcode 145 94 = some (.iload 4, 2, 0, 0) := rfl
theorem xf_145_96 : xcode 145 96 = some (.ldc 118, 2, 3, 0) := rfl
theorem xf_145_98 : xcode 145 98 = some (.if_icmp .ge 75, 3, 173, 0) := rfl
theorem xf_145_101 : xcode 145 101 = some (.iconst 0, 1, 0, 0) := rfl
theorem xf_145_102 : xcode 145 102 = some (.istore 5, 2, 0, 0) := rfl
theorem xf_145_104 : xcode 145 104 = some (.iconst 1, 1, 0, 0) := rfl
theorem xf_145_105 : xcode 145 105 = some (.istore 6, 2, 0, 0) := rfl
theorem xf_145_107 : xcode 145 107 = some (.iload 6, 2, 0, 0) := rfl
theorem xf_145_109 : xcode 145 109 = some (.aload_n 0, 1, 0, 0) := rfl
theorem xf_145_110 : xcode 145 110 = some (.invokevirtual 96, 3, 134, 0) := rfl
theorem xf_145_113 : xcode 145 113 = some (.if_icmp .ge 36, 3, 149, 0) := rfl
theorem xf_145_116 : xcode 145 116 = some (.aload_n 0, 1, 0, 0) := rfl
theorem xf_145_117 : xcode 145 117 = some (.getfield 39, 3, 11, 15) := rfl
theorem xf_145_120 : xcode 145 120 = some (.iload 6, 2, 0, 0) := rfl
theorem xf_145_122 : xcode 145 122 = some (.laload, 1, 0, 0) := rfl
theorem xf_145_123 : xcode 145 123 = some (.aload_n 0, 1, 0, 0) := rfl
theorem xf_145_124 : xcode 145 124 = some (.getfield 39, 3, 11, 15) := rfl
theorem xf_145_127 : xcode 145 127 = some (.iload 5, 2, 0, 0) := rfl
theorem xf_145_129 : xcode 145 129 = some (.laload, 1, 0, 0) := rfl
theorem xf_145_130 : xcode 145 130 = some (.lcmp, 1, 0, 0) := rfl
theorem xf_145_131 : xcode 145 131 = some (.ifCond .le 8, 3, 139, 0) := rfl
theorem xf_145_134 : xcode 145 134 = some (.iload 6, 2, 0, 0) := rfl
theorem xf_145_136 : xcode 145 136 = some (.goto 5, 3, 141, 0) := rfl
theorem xf_145_139 : xcode 145 139 = some (.iload 5, 2, 0, 0) := rfl
theorem xf_145_141 : xcode 145 141 = some (.istore 5, 2, 0, 0) := rfl
theorem xf_145_143 : xcode 145 143 = some (.iinc 6 1, 3, 0, 0) := rfl
theorem xf_145_146 : xcode 145 146 = some (.goto (-39), 3, 107, 0) := rfl
theorem xf_145_149 : xcode 145 149 = some (.aload_n 1, 1, 0, 0) := rfl
theorem xf_145_150 : xcode 145 150 = some (.iload 5, 2, 0, 0) := rfl
theorem xf_145_152 : xcode 145 152 = some (.dup2, 1, 0, 0) := rfl
theorem xf_145_153 : xcode 145 153 = some (.iaload, 1, 0, 0) := rfl
theorem xf_145_154 : xcode 145 154 = some (.iconst 1, 1, 0, 0) := rfl
theorem xf_145_155 : xcode 145 155 = some (.iadd, 1, 0, 0) := rfl
theorem xf_145_156 : xcode 145 156 = some (.iastore, 1, 0, 0) := rfl
theorem xf_145_157 : xcode 145 157 = some (.aload_n 0, 1, 0, 0) := rfl
theorem xf_145_158 : xcode 145 158 = some (.getfield 39, 3, 11, 15) := rfl
theorem xf_145_161 : xcode 145 161 = some (.iload 5, 2, 0, 0) := rfl
theorem xf_145_163 : xcode 145 163 = some (.ldc2_w 119, 3, 4, 0) := rfl
theorem xf_145_166 : xcode 145 166 = some (.lastore, 1, 0, 0) := rfl
theorem xf_145_167 : xcode 145 167 = some (.iinc 4 1, 3, 0, 0) := rfl
theorem xf_145_170 : xcode 145 170 = some (.goto (-76), 3, 94, 0) := rfl
theorem xf_145_173 : xcode 145 173 = some (.return_, 1, 0, 0) := rfl
theorem xf_146_0 : xcode 146 0 = some (.iconst 0, 1, 0, 0) := rfl
theorem xf_146_1 : xcode 146 1 = some (.istore_n 1, 1, 0, 0) := rfl
theorem xf_146_2 : xcode 146 2 = some (.iload_n 1, 1, 0, 0) := rfl
theorem xf_146_3 : xcode 146 3 = some (.aload_n 0, 1, 0, 0) := rfl
theorem xf_146_4 : xcode 146 4 = some (.invokevirtual 96, 3, 134, 0) := rfl
theorem xf_146_7 : xcode 146 7 = some (.if_icmp .ge 28, 3, 35, 0) := rfl
theorem xf_146_10 : xcode 146 10 = some (.aload_n 0, 1, 0, 0) := rfl
theorem xf_146_11 : xcode 146 11 = some (.getfield 35, 3, 11, 14) := rfl
theorem xf_146_14 : xcode 146 14 = some (.iload_n 1, 1, 0, 0) := rfl
theorem xf_146_15 : xcode 146 15 = some (.aload_n 0, 1, 0, 0) := rfl
theorem xf_146_16 : xcode 146 16 = some (.iload_n 1, 1, 0, 0) := rfl
theorem xf_146_17 : xcode 146 17 = some (.invokevirtual 100, 3, 136, 0) := rfl
theorem xf_146_20 : xcode 146 20 = some (.ifCond .eq 7, 3, 27, 0) := rfl
theorem xf_146_23 : xcode 146 23 = some (.lconst 1, 1, 0, 0) := rfl
theorem xf_146_24 : xcode 146 24 = some (.goto 4, 3, 28, 0) := rfl
theorem xf_146_27 : xcode 146 27 = some (.lconst 0, 1, 0, 0) := rfl
theorem xf_146_28 : xcode 146 28 = some (.lastore, 1, 0, 0) := rfl
theorem xf_146_29 : xcode 146 29 = some (.iinc 1 1, 3, 0, 0) := rfl
theorem xf_146_32 : xcode 146 32 = some (.goto (-30), 3, 2, 0) := rfl
theorem xf_146_35 : xcode 146 35 = some (.return_, 1, 0, 0) := rfl
theorem xf_147_0 : xcode 147 0 = some (.aload_n 0, 1, 0, 0) := rfl
theorem xf_147_1 : xcode 147 1 = some (.invokevirtual 121, 3, 146, 0) := rfl
theorem xf_147_4 : xcode 147 4 = some (.aload_n 0, 1, 0, 0) := rfl
theorem xf_147_5 : xcode 147 5 = some (.aload_n 0, 1, 0, 0) := rfl
theorem xf_147_6 : xcode 147 6 = some (.getfield 22, 3, 11, 5) := rfl
theorem xf_147_9 : xcode 147 9 = some (.invokevirtual 124, 3, 145, 0) := rfl
theorem xf_147_12 : xcode 147 12 = some (.aload_n 0, 1, 0, 0) := rfl
theorem xf_147_13 : xcode 147 13 = some (.iconst (-1), 1, 0, 0) := rfl
theorem xf_147_14 : xcode 147 14 = some (.invokevirtual 128, 3, 151, 0) := rfl
theorem xf_147_17 : xcode 147 17 = some (.return_, 1, 0, 0) := rfl
theorem xf_148_0 : xcode 148 0 = some (.aload_n 0, 1, 0, 0) := rfl
theorem xf_148_1 : xcode 148 1 = some (.invokevirtual 132, 3, 139, 0) := rfl
theorem xf_148_4 : xcode 148 4 = some (.istore_n 2, 1, 0, 0) := rfl
theorem xf_148_5 : xcode 148 5 = some (.iconst 0, 1, 0, 0) := rfl
theorem xf_148_6 : xcode 148 6 = some (.istore_n 3, 1, 0, 0) := rfl
theorem xf_148_7 : xcode 148 7 = some (.iload_n 3, 1, 0, 0) := rfl
theorem xf_148_8 : xcode 148 8 = some (.aload_n 0, 1, 0, 0) := rfl
theorem xf_148_9 : xcode 148 9 = some (.invokevirtual 96, 3, 134, 0) := rfl
theorem xf_148_12 : xcode 148 12 = some (.if_icmp .ge 135, 3, 147, 0) := rfl
theorem xf_148_15 : xcode 148 15 = some (.aload_n 0, 1, 0, 0) := rfl
theorem xf_148_16 : xcode 148 16 = some (.getfield 35, 3, 11, 14) := rfl
theorem xf_148_19 : xcode 148 19 = some (.iload_n 3, 1, 0, 0) := rfl
theorem xf_148_20 : xcode 148 20 = some (.lconst 0, 1, 0, 0) := rfl
theorem xf_148_21 : xcode 148 21 = some (.lastore, 1, 0, 0) := rfl
theorem xf_148_22 : xcode 148 22 = some (.aload_n 0, 1, 0, 0) := rfl
theorem xf_148_23 : xcode 148 23 = some (.iload_n 3, 1, 0, 0) := rfl
theorem xf_148_24 : xcode 148 24 = some (.invokevirtual 100, 3, 136, 0) := rfl
theorem xf_148_27 : xcode 148 27 = some (.ifCond .ne 6, 3, 33, 0) := rfl
theorem xf_148_30 : xcode 148 30 = some (.goto 111, 3, 141, 0) := rfl
theorem xf_148_33 : xcode 148 33 = some (.iconst 0, 1, 0, 0) := rfl
theorem xf_148_34 : xcode 148 34 = some (.istore 4, 2, 0, 0) := rfl
theorem xf_148_36 : xcode 148 36 = some (.iload 4, 2, 0, 0) := rfl
theorem xf_148_38 : xcode 148 38 = some (.aload_n 0, 1, 0, 0) := rfl
theorem xf_148_39 : xcode 148 39 = some (.invokevirtual 96, 3, 134, 0) := rfl
theorem xf_148_42 : xcode 148 42 = some (.if_icmp .ge 64, 3, 106, 0) := rfl
theorem xf_148_45 : xcode 148 45 = some (.aload_n 0, 1, 0, 0) := rfl
theorem xf_148_46 : xcode 148 46 = some (.getfield 35, 3, 11, 14) := rfl
theorem xf_148_49 : xcode 148 49 = some (.iload_n 3, 1, 0, 0) := rfl
theorem xf_148_50 : xcode 148 50 = some (.dup2, 1, 0, 0) := rfl
theorem xf_148_51 : xcode 148 51 = some (.laload, 1, 0, 0) := rfl
theorem xf_148_52 : xcode 148 52 = some (.aload_n 0, 1, 0, 0) := rfl
theorem xf_148_53 : xcode 148 53 = some (.iload 4, 2, 0, 0) := rfl
theorem xf_148_55 : xcode 148 55 = some (.invokevirtual 100, 3, 136, 0) := rfl
theorem xf_148_58 : xcode 148 58 = some (.ifCond .eq 39, 3, 97, 0) := rfl
theorem xf_148_61 : xcode 148 61 = some (.aload_n 0, 1, 0, 0) := rfl
theorem xf_148_62 : xcode 148 62 = some (.getfield 22, 3, 11, 5) := rfl
theorem xf_148_65 : xcode 148 65 = some (.iload 4, 2, 0, 0) := rfl
theorem xf_148_67 : xcode 148 67 = some (.iaload, 1, 0, 0) := rfl
theorem xf_148_68 : xcode 148 68 = some (.ifCond .le 29, 3, 97, 0) := rfl
theorem xf_148_71 : xcode 148 71 = some (.aload_n 0, 1, 0, 0) := rfl
theorem xf_148_72 : xcode 148 72 = some (.getfield 22, 3, 11, 5) := rfl
theorem xf_148_75 : xcode 148 75 = some (.iload 4, 2, 0, 0) := rfl
theorem xf_148_77 : xcode 148 77 = some (.iaload, 1, 0, 0) := rfl
theorem xf_148_78 : xcode 148 78 = some (.i2l, 1, 0, 0) := rfl
theorem xf_148_79 : xcode 148 79 = some (.aload_n 0, 1, 0, 0) := rfl
theorem xf_148_80 : xcode 148 80 = some (.aload_n 0, 1, 0, 0) := rfl
theorem xf_148_81 : xcode 148 81 = some (.getfield 16, 3, 11, 3) := rfl
theorem xf_148_84 : xcode 148 84 = some (.iconst 0, 1, 0, 0) := rfl
theorem xf_148_85 : xcode 148 85 = some (.iload 4, 2, 0, 0) := rfl
theorem xf_148_87 : xcode 148 87 = some (.iload_n 3, 1, 0, 0) := rfl
theorem xf_148_88 : xcode 148 88 = some (.iload_n 1, 1, 0, 0) := rfl
theorem xf_148_89 : xcode 148 89 = some (.invokevirtual 135, 3, 143, 0) := rfl
theorem xf_148_92 : xcode 148 92 = some (.i2l, 1, 0, 0) := rfl
theorem xf_148_93 : xcode 148 93 = some (.lmul, 1, 0, 0) := rfl
theorem xf_148_94 : xcode 148 94 = some (.goto 4, 3, 98, 0) := rfl
theorem xf_148_97 : xcode 148 97 = some (.lconst 0, 1, 0, 0) := rfl
theorem xf_148_98 : xcode 148 98 = some (.ladd, 1, 0, 0) := rfl
theorem xf_148_99 : xcode 148 99 = some (.lastore, 1, 0, 0) := rfl
theorem xf_148_100 : xcode 148 100 = some (.iinc 4 1, 3, 0, 0) := rfl
theorem xf_148_103 : xcode 148 103 = some (.goto (-67), 3, 36, 0) := rfl
theorem xf_148_106 : xcode 148 106 = some (.aload_n 0, 1, 0, 0) := rfl
theorem xf_148_107 : xcode 148 107 = some (.getfield 35, 3, 11, 14) := rfl
theorem xf_148_110 : xcode 148 110 = some (.iload_n 3, 1, 0, 0) := rfl
theorem xf_148_111 : xcode 148 111 = some (.ldc2_w 139, 3, 0, 0) := rfl
theorem xf_148_114 : xcode 148 114 = some (.aload_n 0, 1, 0, 0) := rfl
theorem xf_148_115 : xcode 148 115 = some (.getfield 141, 3, 11, 8) := rfl
theorem xf_148_118 : xcode 148 118 = some (.i2l, 1, 0, 0) := rfl
theorem xf_148_119 : xcode 148 119 = some (.lsub, 1, 0, 0) := rfl
theorem xf_148_120 : xcode 148 120 = some (.iload_n 2, 1, 0, 0) := rfl
theorem xf_148_121 : xcode 148 121 = some (.i2l, 1, 0, 0) := rfl
theorem xf_148_122 : xcode 148 122 = some (.lmul, 1, 0, 0) := rfl
theorem xf_148_123 : xcode 148 123 = some (.aload_n 0, 1, 0, 0) := rfl
theorem xf_148_124 : xcode 148 124 = some (.getfield 35, 3, 11, 14) := rfl
theorem xf_148_127 : xcode 148 127 = some (.iload_n 3, 1, 0, 0) := rfl
theorem xf_148_128 : xcode 148 128 = some (.laload, 1, 0, 0) := rfl
theorem xf_148_129 : xcode 148 129 = some (.lmul, 1, 0, 0) := rfl
theorem xf_148_130 : xcode 148 130 = some (.aload_n 0, 1, 0, 0) := rfl
theorem xf_148_131 : xcode 148 131 = some (.getfield 141, 3, 11, 8) := rfl
theorem xf_148_134 : xcode 148 134 = some (.i2l, 1, 0, 0) := rfl
theorem xf_148_135 : xcode 148 135 = some (.ldc2_w 144, 3, 12, 0) := rfl
theorem xf_148_138 : xcode 148 138 = some (.lmul, 1, 0, 0) := rfl
theorem xf_148_139 : xcode 148 139 = some (.ladd, 1, 0, 0) := rfl
theorem xf_148_140 : xcode 148 140 = some (.lastore, 1, 0, 0) := rfl
theorem xf_148_141 : xcode 148 141 = some (.iinc 3 1, 3, 0, 0) := rfl
theorem xf_148_144 : xcode 148 144 = some (.goto (-137), 3, 7, 0) := rfl
theorem xf_148_147 : xcode 148 147 = some (.return_, 1, 0, 0) := rfl
theorem xf_149_0 : xcode 149 0 = some (.iconst 0, 1, 0, 0) := rfl
theorem xf_149_1 : xcode 149 1 = some (.istore_n 3, 1, 0, 0) := rfl
theorem xf_149_2 : xcode 149 2 = some (.iload_n 3, 1, 0, 0) := rfl
theorem xf_149_3 : xcode 149 3 = some (.aload_n 0, 1, 0, 0) := rfl
theorem xf_149_4 : xcode 149 4 = some (.invokevirtual 96, 3, 134, 0) := rfl
theorem xf_149_7 : xcode 149 7 = some (.if_icmp .ge 48, 3, 55, 0) := rfl
theorem xf_149_10 : xcode 149 10 = some (.aload_n 0, 1, 0, 0) := rfl
theorem xf_149_11 : xcode 149 11 = some (.getfield 35, 3, 11, 14) := rfl
theorem xf_149_14 : xcode 149 14 = some (.iload_n 3, 1, 0, 0) := rfl
theorem xf_149_15 : xcode 149 15 = some (.aload_n 0, 1, 0, 0) := rfl
theorem xf_149_16 : xcode 149 16 = some (.iload_n 3, 1, 0, 0) := rfl
theorem xf_149_17 : xcode 149 17 = some (.invokevirtual 100, 3, 136, 0) := rfl
theorem xf_149_20 : xcode 149 20 = some (.ifCond .eq 27, 3, 47, 0) := rfl
theorem xf_149_23 : xcode 149 23 = some (.aload_n 1, 1, 0, 0) := rfl
theorem xf_149_24 : xcode 149 24 = some (.iload_n 3, 1, 0, 0) := rfl
theorem xf_149_25 : xcode 149 25 = some (.iaload, 1, 0, 0) := rfl
theorem xf_149_26 : xcode 149 26 = some (.i2l, 1, 0, 0) := rfl
theorem xf_149_27 : xcode 149 27 = some (.aload_n 0, 1, 0, 0) := rfl
theorem xf_149_28 : xcode 149 28 = some (.getfield 19, 3, 11, 4) := rfl
theorem xf_149_31 : xcode 149 31 = some (.iconst 4, 1, 0, 0) := rfl
theorem xf_149_32 : xcode 149 32 = some (.aload_n 0, 1, 0, 0) := rfl
theorem xf_149_33 : xcode 149 33 = some (.getfield 7, 3, 11, 1) := rfl
theorem xf_149_36 : xcode 149 36 = some (.iload_n 3, 1, 0, 0) := rfl
theorem xf_149_37 : xcode 149 37 = some (.iaload, 1, 0, 0) := rfl
theorem xf_149_38 : xcode 149 38 = some (.imul, 1, 0, 0) := rfl
theorem xf_149_39 : xcode 149 39 = some (.iload_n 2, 1, 0, 0) := rfl
theorem xf_149_40 : xcode 149 40 = some (.iadd, 1, 0, 0) := rfl
theorem xf_149_41 : xcode 149 41 = some (.iaload, 1, 0, 0) := rfl
theorem xf_149_42 : xcode 149 42 = some (.i2l, 1, 0, 0) := rfl
theorem xf_149_43 : xcode 149 43 = some (.lmul, 1, 0, 0) := rfl
theorem xf_149_44 : xcode 149 44 = some (.goto 4, 3, 48, 0) := rfl
theorem xf_149_47 : xcode 149 47 = some (.lconst 0, 1, 0, 0) := rfl
theorem xf_149_48 : xcode 149 48 = some (.lastore, 1, 0, 0) := rfl
theorem xf_149_49 : xcode 149 49 = some (.iinc 3 1, 3, 0, 0) := rfl
theorem xf_149_52 : xcode 149 52 = some (.goto (-50), 3, 2, 0) := rfl
theorem xf_149_55 : xcode 149 55 = some (.return_, 1, 0, 0) := rfl
theorem xf_150_0 : xcode 150 0 = some (.iconst 0, 1, 0, 0) := rfl
theorem xf_150_1 : xcode 150 1 = some (.istore_n 1, 1, 0, 0) := rfl
theorem xf_150_2 : xcode 150 2 = some (.iconst 1, 1, 0, 0) := rfl
theorem xf_150_3 : xcode 150 3 = some (.istore_n 2, 1, 0, 0) := rfl
theorem xf_150_4 : xcode 150 4 = some (.iload_n 2, 1, 0, 0) := rfl
theorem xf_150_5 : xcode 150 5 = some (.aload_n 0, 1, 0, 0) := rfl
theorem xf_150_6 : xcode 150 6 = some (.invokevirtual 96, 3, 134, 0) := rfl
theorem xf_150_9 : xcode 150 9 = some (.if_icmp .ge 30, 3, 39, 0) := rfl
theorem xf_150_12 : xcode 150 12 = some (.aload_n 0, 1, 0, 0) := rfl
theorem xf_150_13 : xcode 150 13 = some (.getfield 22, 3, 11, 5) := rfl
theorem xf_150_16 : xcode 150 16 = some (.iload_n 2, 1, 0, 0) := rfl
theorem xf_150_17 : xcode 150 17 = some (.iaload, 1, 0, 0) := rfl
theorem xf_150_18 : xcode 150 18 = some (.aload_n 0, 1, 0, 0) := rfl
theorem xf_150_19 : xcode 150 19 = some (.getfield 22, 3, 11, 5) := rfl
theorem xf_150_22 : xcode 150 22 = some (.iload_n 1, 1, 0, 0) := rfl
theorem xf_150_23 : xcode 150 23 = some (.iaload, 1, 0, 0) := rfl
theorem xf_150_24 : xcode 150 24 = some (.if_icmp .le 7, 3, 31, 0) := rfl
theorem xf_150_27 : xcode 150 27 = some (.iload_n 2, 1, 0, 0) := rfl
theorem xf_150_28 : xcode 150 28 = some (.goto 4, 3, 32, 0) := rfl
theorem xf_150_31 : xcode 150 31 = some (.iload_n 1, 1, 0, 0) := rfl
theorem xf_150_32 : xcode 150 32 = some (.istore_n 1, 1, 0, 0) := rfl
theorem xf_150_33 : xcode 150 33 = some (.iinc 2 1, 3, 0, 0) := rfl
theorem xf_150_36 : xcode 150 36 = some (.goto (-32), 3, 4, 0) := rfl
theorem xf_150_39 : xcode 150 39 = some (.iload_n 1, 1, 0, 0) := rfl
theorem xf_150_40 : xcode 150 40 = some (.ireturn, 1, 0, 0) := rfl
theorem xf_151_0 : xcode 151 0 = some (.aload_n 0, 1, 0, 0) := rfl
theorem xf_151_1 : xcode 151 1 = some (.iconst 0, 1, 0, 0) := rfl
theorem xf_151_2 : xcode 151 2 = some (.putfield 146, 3, 11, 19) := rfl
theorem xf_151_5 : xcode 151 5 = some (.aload_n 0, 1, 0, 0) := rfl
theorem xf_151_6 : xcode 151 6 = some (.iconst 0, 1, 0, 0) := rfl
theorem xf_151_7 : xcode 151 7 = some (.putfield 149, 3, 11, 20) := rfl
theorem xf_151_10 : xcode 151 10 = some (.aload_n 0, 1, 0, 0) := rfl
theorem xf_151_11 : xcode 151 11 = some (.iload_n 1, 1, 0, 0) := rfl
theorem xf_151_12 : xcode 151 12 = some (.putfield 51, 3, 11, 21) := rfl
theorem xf_151_15 : xcode 151 15 = some (.return_, 1, 0, 0) := rfl
theorem xf_152_0 : xcode 152 0 = some (.aload_n 0, 1, 0, 0) := rfl
theorem xf_152_1 : xcode 152 1 = some (.getfield 146, 3, 11, 19) := rfl
theorem xf_152_4 : xcode 152 4 = some (.aload_n 0, 1, 0, 0) := rfl
theorem xf_152_5 : xcode 152 5 = some (.getfield 149, 3, 11, 20) := rfl
theorem xf_152_8 : xcode 152 8 = some (.iadd, 1, 0, 0) := rfl
theorem xf_152_9 : xcode 152 9 = some (.istore_n 2, 1, 0, 0) := rfl
theorem xf_152_10 : xcode 152 10 = some (.aload_n 0, 1, 0, 0) := rfl
theorem xf_152_11 : xcode 152 11 = some (.dup, 1, 0, 0) := rfl
theorem xf_152_12 : xcode 152 12 = some (.getfield 146, 3, 11, 19) := rfl
theorem xf_152_15 : xcode 152 15 = some (.iconst 1, 1, 0, 0) := rfl
theorem xf_152_16 : xcode 152 16 = some (.iadd, 1, 0, 0) := rfl
theorem xf_152_17 : xcode 152 17 = some (.putfield 146, 3, 11, 19) := rfl
theorem xf_152_20 : xcode 152 20 = some (.iload_n 2, 1, 0, 0) := rfl
theorem xf_152_21 : xcode 152 21 = some (.bipush 8, 2, 0, 0) := rfl
theorem xf_152_23 : xcode 152 23 = some (.if_icmp .lt 4, 3, 27, 0) := rfl
theorem xf_152_26 : xcode 152 26 = some (.return_, 1, 0, 0) := rfl
theorem xf_152_27 : xcode 152 27 = some (.aload_n 0, 1, 0, 0) := rfl
theorem xf_152_28 : xcode 152 28 = some (.getfield 42, 3, 11, 16) := rfl
theorem xf_152_31 : xcode 152 31 = some (.iload_n 2, 1, 0, 0) := rfl
theorem xf_152_32 : xcode 152 32 = some (.iload_n 1, 1, 0, 0) := rfl
theorem xf_152_33 : xcode 152 33 = some (.iastore, 1, 0, 0) := rfl
theorem xf_152_34 : xcode 152 34 = some (.iconst 0, 1, 0, 0) := rfl
theorem xf_152_35 : xcode 152 35 = some (.istore_n 3, 1, 0, 0) := rfl
theorem xf_152_36 : xcode 152 36 = some (.iload_n 3, 1, 0, 0) := rfl
theorem xf_152_37 : xcode 152 37 = some (.iconst 4, 1, 0, 0) := rfl
theorem xf_152_38 : xcode 152 38 = some (.if_icmp .ge 25, 3, 63, 0) := rfl
theorem xf_152_41 : xcode 152 41 = some (.aload_n 0, 1, 0, 0) := rfl
theorem xf_152_42 : xcode 152 42 = some (.getfield 45, 3, 11, 17) := rfl
theorem xf_152_45 : xcode 152 45 = some (.iconst 4, 1, 0, 0) := rfl
theorem xf_152_46 : xcode 152 46 = some (.iload_n 2, 1, 0, 0) := rfl
theorem xf_152_47 : xcode 152 47 = some (.imul, 1, 0, 0) := rfl
theorem xf_152_48 : xcode 152 48 = some (.iload_n 3, 1, 0, 0) := rfl
theorem xf_152_49 : xcode 152 49 = some (.iadd, 1, 0, 0) := rfl
theorem xf_152_50 : xcode 152 50 = some (.aload_n 0, 1, 0, 0) := rfl
theorem xf_152_51 : xcode 152 51 = some (.getfield 16, 3, 11, 3) := rfl
theorem xf_152_54 : xcode 152 54 = some (.iload_n 3, 1, 0, 0) := rfl
theorem xf_152_55 : xcode 152 55 = some (.iaload, 1, 0, 0) := rfl
theorem xf_152_56 : xcode 152 56 = some (.iastore, 1, 0, 0) := rfl
theorem xf_152_57 : xcode 152 57 = some (.iinc 3 1, 3, 0, 0) := rfl
theorem xf_152_60 : xcode 152 60 = some (.goto (-24), 3, 36, 0) := rfl
theorem xf_152_63 : xcode 152 63 = some (.return_, 1, 0, 0) := rfl
theorem xf_153_0 : xcode 153 0 = some (.aload_n 0, 1, 0, 0) := rfl
theorem xf_153_1 : xcode 153 1 = some (.getfield 146, 3, 11, 19) := rfl
theorem xf_153_4 : xcode 153 4 = some (.aload_n 0, 1, 0, 0) := rfl
theorem xf_153_5 : xcode 153 5 = some (.getfield 149, 3, 11, 20) := rfl
theorem xf_153_8 : xcode 153 8 = some (.iadd, 1, 0, 0) := rfl
theorem xf_153_9 : xcode 153 9 = some (.istore_n 2, 1, 0, 0) := rfl
theorem xf_153_10 : xcode 153 10 = some (.aload_n 0, 1, 0, 0) := rfl
theorem xf_153_11 : xcode 153 11 = some (.dup, 1, 0, 0) := rfl
theorem xf_153_12 : xcode 153 12 = some (.getfield 149, 3, 11, 20) := rfl
theorem xf_153_15 : xcode 153 15 = some (.iconst 1, 1, 0, 0) := rfl
theorem xf_153_16 : xcode 153 16 = some (.iadd, 1, 0, 0) := rfl
theorem xf_153_17 : xcode 153 17 = some (.putfield 149, 3, 11, 20) := rfl
theorem xf_153_20 : xcode 153 20 = some (.iload_n 2, 1, 0, 0) := rfl
theorem xf_153_21 : xcode 153 21 = some (.bipush 8, 2, 0, 0) := rfl
theorem xf_153_23 : xcode 153 23 = some (.if_icmp .lt 4, 3, 27, 0) := rfl
theorem xf_153_26 : xcode 153 26 = some (.return_, 1, 0, 0) := rfl
theorem xf_153_27 : xcode 153 27 = some (.aload_n 0, 1, 0, 0) := rfl
theorem xf_153_28 : xcode 153 28 = some (.getfield 42, 3, 11, 16) := rfl
theorem xf_153_31 : xcode 153 31 = some (.iload_n 2, 1, 0, 0) := rfl
theorem xf_153_32 : xcode 153 32 = some (.bipush 10, 2, 0, 0) := rfl
theorem xf_153_34 : xcode 153 34 = some (.iload_n 1, 1, 0, 0) := rfl
theorem xf_153_35 : xcode 153 35 = some (.iadd, 1, 0, 0) := rfl
theorem xf_153_36 : xcode 153 36 = some (.iastore, 1, 0, 0) := rfl
theorem xf_153_37 : xcode 153 37 = some (.iconst 0, 1, 0, 0) := rfl
theorem xf_153_38 : xcode 153 38 = some (.istore_n 3, 1, 0, 0) := rfl
theorem xf_153_39 : xcode 153 39 = some (.iload_n 3, 1, 0, 0) := rfl
theorem xf_153_40 : xcode 153 40 = some (.aload_n 0, 1, 0, 0) := rfl
theorem xf_153_41 : xcode 153 41 = some (.invokevirtual 96, 3, 134, 0) := rfl
theorem xf_153_44 : xcode 153 44 = some (.if_icmp .ge 47, 3, 91, 0) := rfl
theorem xf_153_47 : xcode 153 47 = some (.aload_n 0, 1, 0, 0) := rfl
theorem xf_153_48 : xcode 153 48 = some (.getfield 48, 3, 11, 18) := rfl
theorem xf_153_51 : xcode 153 51 = some (.bipush 36, 2, 0, 0) := rfl
theorem xf_153_53 : xcode 153 53 = some (.iload_n 2, 1, 0, 0) := rfl
theorem xf_153_54 : xcode 153 54 = some (.imul, 1, 0, 0) := rfl
theorem xf_153_55 : xcode 153 55 = some (.iload_n 3, 1, 0, 0) := rfl
theorem xf_153_56 : xcode 153 56 = some (.iadd, 1, 0, 0) := rfl
theorem xf_153_57 : xcode 153 57 = some (.aload_n 0, 1, 0, 0) := rfl
theorem xf_153_58 : xcode 153 58 = some (.iload_n 3, 1, 0, 0) := rfl
theorem xf_153_59 : xcode 153 59 = some (.invokevirtual 100, 3, 136, 0) := rfl
theorem xf_153_62 : xcode 153 62 = some (.ifCond .eq 21, 3, 83, 0) := rfl
theorem xf_153_65 : xcode 153 65 = some (.aload_n 0, 1, 0, 0) := rfl
theorem xf_153_66 : xcode 153 66 = some (.getfield 19, 3, 11, 4) := rfl
theorem xf_153_69 : xcode 153 69 = some (.iconst 4, 1, 0, 0) := rfl
theorem xf_153_70 : xcode 153 70 = some (.aload_n 0, 1, 0, 0) := rfl
theorem xf_153_71 : xcode 153 71 = some (.getfield 7, 3, 11, 1) := rfl
theorem xf_153_74 : xcode 153 74 = some (.iload_n 3, 1, 0, 0) := rfl
theorem xf_153_75 : xcode 153 75 = some (.iaload, 1, 0, 0) := rfl
theorem xf_153_76 : xcode 153 76 = some (.imul, 1, 0, 0) := rfl
theorem xf_153_77 : xcode 153 77 = some (.iload_n 1, 1, 0, 0) := rfl
theorem xf_153_78 : xcode 153 78 = some (.iadd, 1, 0, 0) := rfl
theorem xf_153_79 : xcode 153 79 = some (.iaload, 1, 0, 0) := rfl
theorem xf_153_80 : xcode 153 80 = some (.goto 4, 3, 84, 0) := rfl
theorem xf_153_83 : xcode 153 83 = some (.iconst 0, 1, 0, 0) := rfl
theorem xf_153_84 : xcode 153 84 = some (.iastore, 1, 0, 0) := rfl
theorem xf_153_85 : xcode 153 85 = some (.iinc 3 1, 3, 0, 0) := rfl
theorem xf_153_88 : xcode 153 88 = some (.goto (-49), 3, 39, 0) := rfl
theorem xf_153_91 : xcode 153 91 = some (.return_, 1, 0, 0) := rfl
theorem xf_154_0 : xcode 154 0 = some (.aload_n 0, 1, 0, 0) := rfl
theorem xf_154_1 : xcode 154 1 = some (.iload_n 1, 1, 0, 0) := rfl
theorem xf_154_2 : xcode 154 2 = some (.invokevirtual 152, 3, 148, 0) := rfl
theorem xf_154_5 : xcode 154 5 = some (.aload_n 0, 1, 0, 0) := rfl
theorem xf_154_6 : xcode 154 6 = some (.aload_n 0, 1, 0, 0) := rfl
theorem xf_154_7 : xcode 154 7 = some (.getfield 22, 3, 11, 5) := rfl
theorem xf_154_10 : xcode 154 10 = some (.invokevirtual 124, 3, 145, 0) := rfl
theorem xf_154_13 : xcode 154 13 = some (.aload_n 0, 1, 0, 0) := rfl
theorem xf_154_14 : xcode 154 14 = some (.iload_n 1, 1, 0, 0) := rfl
theorem xf_154_15 : xcode 154 15 = some (.invokevirtual 155, 3, 152, 0) := rfl
theorem xf_154_18 : xcode 154 18 = some (.return_, 1, 0, 0) := rfl
theorem xf_155_0 : xcode 155 0 = some (.aload_n 0, 1, 0, 0) := rfl
theorem xf_155_1 : xcode 155 1 = some (.aload_n 0, 1, 0, 0) := rfl
theorem xf_155_2 : xcode 155 2 = some (.getfield 22, 3, 11, 5) := rfl
theorem xf_155_5 : xcode 155 5 = some (.iload_n 1, 1, 0, 0) := rfl
theorem xf_155_6 : xcode 155 6 = some (.invokevirtual 158, 3, 149, 0) := rfl
theorem xf_155_9 : xcode 155 9 = some (.aload_n 0, 1, 0, 0) := rfl
theorem xf_155_10 : xcode 155 10 = some (.invokevirtual 112, 3, 144, 0) := rfl
theorem xf_155_13 : xcode 155 13 = some (.lstore_n 2, 1, 0, 0) := rfl
theorem xf_155_14 : xcode 155 14 = some (.aload_n 0, 1, 0, 0) := rfl
theorem xf_155_15 : xcode 155 15 = some (.lload_n 2, 1, 0, 0) := rfl
theorem xf_155_16 : xcode 155 16 = some (.lconst 0, 1, 0, 0) := rfl
theorem xf_155_17 : xcode 155 17 = some (.lcmp, 1, 0, 0) := rfl
theorem xf_155_18 : xcode 155 18 = some (.ifCond .eq 17, 3, 35, 0) := rfl
theorem xf_155_21 : xcode 155 21 = some (.lload_n 2, 1, 0, 0) := rfl
theorem xf_155_22 : xcode 155 22 = some (.ldc2_w 116, 3, 2, 0) := rfl
theorem xf_155_25 : xcode 155 25 = some (.aload_n 0, 1, 0, 0) := rfl
theorem xf_155_26 : xcode 155 26 = some (.getfield 162, 3, 11, 9) := rfl
theorem xf_155_29 : xcode 155 29 = some (.i2l, 1, 0, 0) := rfl
theorem xf_155_30 : xcode 155 30 = some (.lmul, 1, 0, 0) := rfl
theorem xf_155_31 : xcode 155 31 = some (.lcmp, 1, 0, 0) := rfl
theorem xf_155_32 : xcode 155 32 = some (.ifCond .ge 7, 3, 39, 0) := rfl
theorem xf_155_35 : xcode 155 35 = some (.iconst 1, 1, 0, 0) := rfl
theorem xf_155_36 : xcode 155 36 = some (.goto 4, 3, 40, 0) := rfl
theorem xf_155_39 : xcode 155 39 = some (.iconst 0, 1, 0, 0) := rfl
theorem xf_155_40 : xcode 155 40 = some (.putfield 165, 3, 11, 23) := rfl
theorem xf_155_43 : xcode 155 43 = some (.aload_n 0, 1, 0, 0) := rfl
theorem xf_155_44 : xcode 155 44 = some (.getfield 165, 3, 11, 23) := rfl
theorem xf_155_47 : xcode 155 47 = some (.ifCond .ne 5, 3, 52, 0) := rfl
theorem xf_155_50 : xcode 155 50 = some (.iconst 1, 1, 0, 0) := rfl
theorem xf_155_51 : xcode 155 51 = some (.ireturn, 1, 0, 0) := rfl
theorem xf_155_52 : xcode 155 52 = some (.aload_n 0, 1, 0, 0) := rfl
theorem xf_155_53 : xcode 155 53 = some (.invokevirtual 121, 3, 146, 0) := rfl
theorem xf_155_56 : xcode 155 56 = some (.aload_n 0, 1, 0, 0) := rfl
theorem xf_155_57 : xcode 155 57 = some (.aload_n 0, 1, 0, 0) := rfl
theorem xf_155_58 : xcode 155 58 = some (.getfield 54, 3, 11, 22) := rfl
theorem xf_155_61 : xcode 155 61 = some (.invokevirtual 124, 3, 145, 0) := rfl
theorem xf_155_64 : xcode 155 64 = some (.aload_n 0, 1, 0, 0) := rfl
theorem xf_155_65 : xcode 155 65 = some (.aload_n 0, 1, 0, 0) := rfl
theorem xf_155_66 : xcode 155 66 = some (.getfield 54, 3, 11, 22) := rfl
theorem xf_155_69 : xcode 155 69 = some (.iload_n 1, 1, 0, 0) := rfl
theorem xf_155_70 : xcode 155 70 = some (.invokevirtual 158, 3, 149, 0) := rfl
theorem xf_155_73 : xcode 155 73 = some (.aload_n 0, 1, 0, 0) := rfl
theorem xf_155_74 : xcode 155 74 = some (.invokevirtual 112, 3, 144, 0) := rfl
theorem xf_155_77 : xcode 155 77 = some (.lconst 0, 1, 0, 0) := rfl
theorem xf_155_78 : xcode 155 78 = some (.lcmp, 1, 0, 0) := rfl
theorem xf_155_79 : xcode 155 79 = some (.ifCond .le 7, 3, 86, 0) := rfl
theorem xf_155_82 : xcode 155 82 = some (.iconst 1, 1, 0, 0) := rfl
theorem xf_155_83 : xcode 155 83 = some (.goto 4, 3, 87, 0) := rfl
theorem xf_155_86 : xcode 155 86 = some (.iconst 0, 1, 0, 0) := rfl
theorem xf_155_87 : xcode 155 87 = some (.ireturn, 1, 0, 0) := rfl
theorem xf_156_0 : xcode 156 0 = some (.aload_n 0, 1, 0, 0) := rfl
theorem xf_156_1 : xcode 156 1 = some (.aload_n 0, 1, 0, 0) := rfl
theorem xf_156_2 : xcode 156 2 = some (.getfield 22, 3, 11, 5) := rfl
theorem xf_156_5 : xcode 156 5 = some (.invokevirtual 124, 3, 145, 0) := rfl
theorem xf_156_8 : xcode 156 8 = some (.aload_n 0, 1, 0, 0) := rfl
theorem xf_156_9 : xcode 156 9 = some (.getfield 165, 3, 11, 23) := rfl
theorem xf_156_12 : xcode 156 12 = some (.ifCond .eq 18, 3, 30, 0) := rfl
theorem xf_156_15 : xcode 156 15 = some (.aload_n 0, 1, 0, 0) := rfl
theorem xf_156_16 : xcode 156 16 = some (.dup, 1, 0, 0) := rfl
theorem xf_156_17 : xcode 156 17 = some (.getfield 169, 3, 11, 12) := rfl
theorem xf_156_20 : xcode 156 20 = some (.iconst 1, 1, 0, 0) := rfl
theorem xf_156_21 : xcode 156 21 = some (.iadd, 1, 0, 0) := rfl
theorem xf_156_22 : xcode 156 22 = some (.putfield 169, 3, 11, 12) := rfl
theorem xf_156_25 : xcode 156 25 = some (.aload_n 0, 1, 0, 0) := rfl
theorem xf_156_26 : xcode 156 26 = some (.iconst (-1), 1, 0, 0) := rfl
theorem xf_156_27 : xcode 156 27 = some (.invokevirtual 128, 3, 151, 0) := rfl
theorem xf_156_30 : xcode 156 30 = some (.aload_n 0, 1, 0, 0) := rfl
theorem xf_156_31 : xcode 156 31 = some (.iload_n 1, 1, 0, 0) := rfl
theorem xf_156_32 : xcode 156 32 = some (.invokevirtual 172, 3, 153, 0) := rfl
theorem xf_156_35 : xcode 156 35 = some (.return_, 1, 0, 0) := rfl
theorem xf_157_0 : xcode 157 0 = some (.iconst 0, 1, 0, 0) := rfl
theorem xf_157_1 : xcode 157 1 = some (.istore_n 2, 1, 0, 0) := rfl
theorem xf_157_2 : xcode 157 2 = some (.bipush 24, 2, 0, 0) := rfl
theorem xf_157_4 : xcode 157 4 = some (.istore_n 3, 1, 0, 0) := rfl
theorem xf_157_5 : xcode 157 5 = some (.iload_n 3, 1, 0, 0) := rfl
theorem xf_157_6 : xcode 157 6 = some (.ifCond .lt 54, 3, 60, 0) := rfl
theorem xf_157_9 : xcode 157 9 = some (.iload_n 1, 1, 0, 0) := rfl
theorem xf_157_10 : xcode 157 10 = some (.iload_n 3, 1, 0, 0) := rfl
theorem xf_157_11 : xcode 157 11 = some (.iushr, 1, 0, 0) := rfl
theorem xf_157_12 : xcode 157 12 = some (.sipush 255, 3, 0, 0) := rfl
theorem xf_157_15 : xcode 157 15 = some (.iand, 1, 0, 0) := rfl
theorem xf_157_16 : xcode 157 16 = some (.istore 4, 2, 0, 0) := rfl
theorem xf_157_18 : xcode 157 18 = some (.iload 4, 2, 0, 0) := rfl
theorem xf_157_20 : xcode 157 20 = some (.ifCond .eq 21, 3, 41, 0) := rfl
theorem xf_157_23 : xcode 157 23 = some (.iload 4, 2, 0, 0) := rfl
theorem xf_157_25 : xcode 157 25 = some (.bipush 33, 2, 0, 0) := rfl
theorem xf_157_27 : xcode 157 27 = some (.bipush 126, 2, 0, 0) := rfl
theorem xf_157_29 : xcode 157 29 = some (.invokestatic 175, 3, 133, 0) := rfl
theorem xf_157_32 : xcode 157 32 = some (.ifCond .ne 9, 3, 41, 0) := rfl
theorem xf_157_35 : xcode 157 35 = some (.aload_n 0, 1, 0, 0) := rfl
theorem xf_157_36 : xcode 157 36 = some (.iconst 1, 1, 0, 0) := rfl
theorem xf_157_37 : xcode 157 37 = some (.invokevirtual 179, 3, 131, 0) := rfl
theorem xf_157_40 : xcode 157 40 = some (.ireturn, 1, 0, 0) := rfl
theorem xf_157_41 : xcode 157 41 = some (.iload_n 2, 1, 0, 0) := rfl
theorem xf_157_42 : xcode 157 42 = some (.iload 4, 2, 0, 0) := rfl
theorem xf_157_44 : xcode 157 44 = some (.ifCond .eq 7, 3, 51, 0) := rfl
theorem xf_157_47 : xcode 157 47 = some (.iconst 1, 1, 0, 0) := rfl
theorem xf_157_48 : xcode 157 48 = some (.goto 4, 3, 52, 0) := rfl
theorem xf_157_51 : xcode 157 51 = some (.iconst 0, 1, 0, 0) := rfl
theorem xf_157_52 : xcode 157 52 = some (.iadd, 1, 0, 0) := rfl
theorem xf_157_53 : xcode 157 53 = some (.istore_n 2, 1, 0, 0) := rfl
theorem xf_157_54 : xcode 157 54 = some (.iinc 3 (-8), 3, 0, 0) := rfl
theorem xf_157_57 : xcode 157 57 = some (.goto (-52), 3, 5, 0) := rfl
theorem xf_157_60 : xcode 157 60 = some (.aload_n 0, 1, 0, 0) := rfl
theorem xf_157_61 : xcode 157 61 = some (.getfield 183, 3, 11, 26) := rfl
theorem xf_157_64 : xcode 157 64 = some (.iload_n 2, 1, 0, 0) := rfl
theorem xf_157_65 : xcode 157 65 = some (.iadd, 1, 0, 0) := rfl
theorem xf_157_66 : xcode 157 66 = some (.bipush 45, 2, 0, 0) := rfl
theorem xf_157_68 : xcode 157 68 = some (.if_icmp .le 9, 3, 77, 0) := rfl
theorem xf_157_71 : xcode 157 71 = some (.aload_n 0, 1, 0, 0) := rfl
theorem xf_157_72 : xcode 157 72 = some (.iconst 2, 1, 0, 0) := rfl
theorem xf_157_73 : xcode 157 73 = some (.invokevirtual 179, 3, 131, 0) := rfl
theorem xf_157_76 : xcode 157 76 = some (.ireturn, 1, 0, 0) := rfl
theorem xf_157_77 : xcode 157 77 = some (.aload_n 0, 1, 0, 0) := rfl
theorem xf_157_78 : xcode 157 78 = some (.iconst 0, 1, 0, 0) := rfl
theorem xf_157_79 : xcode 157 79 = some (.putfield 93, 3, 11, 0) := rfl
theorem xf_157_82 : xcode 157 82 = some (.bipush 24, 2, 0, 0) := rfl
theorem xf_157_84 : xcode 157 84 = some (.istore_n 3, 1, 0, 0) := rfl
theorem xf_157_85 : xcode 157 85 = some (.iload_n 3, 1, 0, 0) := rfl
theorem xf_157_86 : xcode 157 86 = some (.ifCond .lt 47, 3, 133, 0) := rfl
theorem xf_157_89 : xcode 157 89 = some (.iload_n 1, 1, 0, 0) := rfl
theorem xf_157_90 : xcode 157 90 = some (.iload_n 3, 1, 0, 0) := rfl
theorem xf_157_91 : xcode 157 91 = some (.iushr, 1, 0, 0) := rfl
theorem xf_157_92 : xcode 157 92 = some (.sipush 255, 3, 0, 0) := rfl
theorem xf_157_95 : xcode 157 95 = some (.iand, 1, 0, 0) := rfl
theorem xf_157_96 : xcode 157 96 = some (.istore 4, 2, 0, 0) := rfl
theorem xf_157_98 : xcode 157 98 = some (.iload 4, 2, 0, 0) := rfl
theorem xf_157_100 : xcode 157 100 = some (.ifCond .ne 6, 3, 106, 0) := rfl
theorem xf_157_103 : xcode 157 103 = some (.goto 24, 3, 127, 0) := rfl
theorem xf_157_106 : xcode 157 106 = some (.aload_n 0, 1, 0, 0) := rfl
theorem xf_157_107 : xcode 157 107 = some (.getfield 57, 3, 11, 24) := rfl
theorem xf_157_110 : xcode 157 110 = some (.aload_n 0, 1, 0, 0) := rfl
theorem xf_157_111 : xcode 157 111 = some (.getfield 183, 3, 11, 26) := rfl
theorem xf_157_114 : xcode 157 114 = some (.iload 4, 2, 0, 0) := rfl
theorem xf_157_116 : xcode 157 116 = some (.iastore, 1, 0, 0) := rfl
theorem xf_157_117 : xcode 157 117 = some (.aload_n 0, 1, 0, 0) := rfl
theorem xf_157_118 : xcode 157 118 = some (.dup, 1, 0, 0) := rfl
theorem xf_157_119 : xcode 157 119 = some (.getfield 183, 3, 11, 26) := rfl
theorem xf_157_122 : xcode 157 122 = some (.iconst 1, 1, 0, 0) := rfl
theorem xf_157_123 : xcode 157 123 = some (.iadd, 1, 0, 0) := rfl
theorem xf_157_124 : xcode 157 124 = some (.putfield 183, 3, 11, 26) := rfl
theorem xf_157_127 : xcode 157 127 = some (.iinc 3 (-8), 3, 0, 0) := rfl
theorem xf_157_130 : xcode 157 130 = some (.goto (-45), 3, 85, 0) := rfl
theorem xf_157_133 : xcode 157 133 = some (.aload_n 0, 1, 0, 0) := rfl
theorem xf_157_134 : xcode 157 134 = some (.getfield 183, 3, 11, 26) := rfl
theorem xf_157_137 : xcode 157 137 = some (.ireturn, 1, 0, 0) := rfl
theorem xf_158_0 : xcode 158 0 = some (.iload_n 0, 1, 0, 0) := rfl
theorem xf_158_1 : xcode 158 1 = some (.bipush 35, 2, 0, 0) := rfl
theorem xf_158_3 : xcode 158 3 = some (.if_icmp .ne 7, 3, 10, 0) := rfl
theorem xf_158_6 : xcode 158 6 = some (.iconst (-1), 1, 0, 0) := rfl
theorem xf_158_7 : xcode 158 7 = some (.goto 34, 3, 41, 0) := rfl
theorem xf_158_10 : xcode 158 10 = some (.iload_n 0, 1, 0, 0) := rfl
theorem xf_158_11 : xcode 158 11 = some (.bipush 46, 2, 0, 0) := rfl
theorem xf_158_13 : xcode 158 13 = some (.if_icmp .ne 7, 3, 20, 0) := rfl
theorem xf_158_16 : xcode 158 16 = some (.iconst 0, 1, 0, 0) := rfl
theorem xf_158_17 : xcode 158 17 = some (.goto 24, 3, 41, 0) := rfl
theorem xf_158_20 : xcode 158 20 = some (.iload_n 0, 1, 0, 0) := rfl
theorem xf_158_21 : xcode 158 21 = some (.bipush 97, 2, 0, 0) := rfl
theorem xf_158_23 : xcode 158 23 = some (.if_icmp .lt 16, 3, 39, 0) := rfl
theorem xf_158_26 : xcode 158 26 = some (.iload_n 0, 1, 0, 0) := rfl
theorem xf_158_27 : xcode 158 27 = some (.bipush 100, 2, 0, 0) := rfl
theorem xf_158_29 : xcode 158 29 = some (.if_icmp .gt 10, 3, 39, 0) := rfl
theorem xf_158_32 : xcode 158 32 = some (.iload_n 0, 1, 0, 0) := rfl
theorem xf_158_33 : xcode 158 33 = some (.bipush 97, 2, 0, 0) := rfl
theorem xf_158_35 : xcode 158 35 = some (.isub, 1, 0, 0) := rfl
theorem xf_158_36 : xcode 158 36 = some (.goto 5, 3, 41, 0) := rfl
theorem xf_158_39 : xcode 158 39 = some (.bipush (-2), 2, 0, 0) := rfl
theorem xf_158_41 : xcode 158 41 = some (.ireturn, 1, 0, 0) := rfl
theorem xf_159_0 : xcode 159 0 = some (.aload_n 0, 1, 0, 0) := rfl
theorem xf_159_1 : xcode 159 1 = some (.iconst 0, 1, 0, 0) := rfl
theorem xf_159_2 : xcode 159 2 = some (.putfield 186, 3, 11, 27) := rfl
theorem xf_159_5 : xcode 159 5 = some (.aload_n 0, 1, 0, 0) := rfl
theorem xf_159_6 : xcode 159 6 = some (.bipush 6, 2, 0, 0) := rfl
theorem xf_159_8 : xcode 159 8 = some (.putfield 189, 3, 11, 28) := rfl
theorem xf_159_11 : xcode 159 11 = some (.aload_n 0, 1, 0, 0) := rfl
theorem xf_159_12 : xcode 159 12 = some (.iconst 0, 1, 0, 0) := rfl
theorem xf_159_13 : xcode 159 13 = some (.putfield 192, 3, 11, 29) := rfl
theorem xf_159_16 : xcode 159 16 = some (.iconst 0, 1, 0, 0) := rfl
theorem xf_159_17 : xcode 159 17 = some (.istore_n 1, 1, 0, 0) := rfl
theorem xf_159_18 : xcode 159 18 = some (.iconst 0, 1, 0, 0) := rfl
theorem xf_159_19 : xcode 159 19 = some (.istore_n 2, 1, 0, 0) := rfl
theorem xf_159_20 : xcode 159 20 = some (.aload_n 0, 1, 0, 0) := rfl
theorem xf_159_21 : xcode 159 21 = some (.getfield 186, 3, 11, 27) := rfl
theorem xf_159_24 : xcode 159 24 = some (.aload_n 0, 1, 0, 0) := rfl
theorem xf_159_25 : xcode 159 25 = some (.getfield 183, 3, 11, 26) := rfl
theorem xf_159_28 : xcode 159 28 = some (.if_icmp .ge 137, 3, 165, 0) := rfl
theorem xf_159_31 : xcode 159 31 = some (.aload_n 0, 1, 0, 0) := rfl
theorem xf_159_32 : xcode 159 32 = some (.getfield 57, 3, 11, 24) := rfl
theorem xf_159_35 : xcode 159 35 = some (.aload_n 0, 1, 0, 0) := rfl
theorem xf_159_36 : xcode 159 36 = some (.getfield 186, 3, 11, 27) := rfl
theorem xf_159_39 : xcode 159 39 = some (.iaload, 1, 0, 0) := rfl
theorem xf_159_40 : xcode 159 40 = some (.istore_n 3, 1, 0, 0) := rfl
theorem xf_159_41 : xcode 159 41 = some (.iload_n 3, 1, 0, 0) := rfl
theorem xf_159_42 : xcode 159 42 = some (.bipush 47, 2, 0, 0) := rfl
theorem xf_159_44 : xcode 159 44 = some (.if_icmp .ne 52, 3, 96, 0) := rfl
theorem xf_159_47 : xcode 159 47 = some (.iload_n 2, 1, 0, 0) := rfl
theorem xf_159_48 : xcode 159 48 = some (.ifCond .eq 26, 3, 74, 0) := rfl
theorem xf_159_51 : xcode 159 51 = some (.aload_n 0, 1, 0, 0) := rfl
theorem xf_159_52 : xcode 159 52 = some (.getfield 192, 3, 11, 29) := rfl
theorem xf_159_55 : xcode 159 55 = some (.ifCond .le 11, 3, 66, 0) := rfl
theorem xf_159_58 : xcode 159 58 = some (.iload_n 2, 1, 0, 0) := rfl
theorem xf_159_59 : xcode 159 59 = some (.aload_n 0, 1, 0, 0) := rfl
theorem xf_159_60 : xcode 159 60 = some (.getfield 189, 3, 11, 28) := rfl
theorem xf_159_63 : xcode 159 63 = some (.if_icmp .lt 11, 3, 74, 0) := rfl
theorem xf_159_66 : xcode 159 66 = some (.aload_n 0, 1, 0, 0) := rfl
theorem xf_159_67 : xcode 159 67 = some (.getfield 192, 3, 11, 29) := rfl
theorem xf_159_70 : xcode 159 70 = some (.iconst 5, 1, 0, 0) := rfl
theorem xf_159_71 : xcode 159 71 = some (.if_icmp .ne 5, 3, 76, 0) := rfl
theorem xf_159_74 : xcode 159 74 = some (.iconst 0, 1, 0, 0) := rfl
theorem xf_159_75 : xcode 159 75 = some (.ireturn, 1, 0, 0) := rfl
theorem xf_159_76 : xcode 159 76 = some (.aload_n 0, 1, 0, 0) := rfl
theorem xf_159_77 : xcode 159 77 = some (.iload_n 2, 1, 0, 0) := rfl
theorem xf_159_78 : xcode 159 78 = some (.putfield 189, 3, 11, 28) := rfl
theorem xf_159_81 : xcode 159 81 = some (.aload_n 0, 1, 0, 0) := rfl
theorem xf_159_82 : xcode 159 82 = some (.dup, 1, 0, 0) := rfl
theorem xf_159_83 : xcode 159 83 = some (.getfield 192, 3, 11, 29) := rfl
theorem xf_159_86 : xcode 159 86 = some (.iconst 1, 1, 0, 0) := rfl
theorem xf_159_87 : xcode 159 87 = some (.iadd, 1, 0, 0) := rfl
theorem xf_159_88 : xcode 159 88 = some (.putfield 192, 3, 11, 29) := rfl
theorem xf_159_91 : xcode 159 91 = some (.iconst 0, 1, 0, 0) := rfl
theorem xf_159_92 : xcode 159 92 = some (.istore_n 2, 1, 0, 0) := rfl
theorem xf_159_93 : xcode 159 93 = some (.goto 59, 3, 152, 0) := rfl
theorem xf_159_96 : xcode 159 96 = some (.iload_n 3, 1, 0, 0) := rfl
theorem xf_159_97 : xcode 159 97 = some (.invokestatic 195, 3, 158, 0) := rfl
theorem xf_159_100 : xcode 159 100 = some (.bipush (-2), 2, 0, 0) := rfl
theorem xf_159_102 : xcode 159 102 = some (.if_icmp .eq 11, 3, 113, 0) := rfl
theorem xf_159_105 : xcode 159 105 = some (.iload_n 2, 1, 0, 0) := rfl
theorem xf_159_106 : xcode 159 106 = some (.aload_n 0, 1, 0, 0) := rfl
theorem xf_159_107 : xcode 159 107 = some (.getfield 189, 3, 11, 28) := rfl
theorem xf_159_110 : xcode 159 110 = some (.if_icmp .ne 5, 3, 115, 0) := rfl
theorem xf_159_113 : xcode 159 113 = some (.iconst 0, 1, 0, 0) := rfl
theorem xf_159_114 : xcode 159 114 = some (.ireturn, 1, 0, 0) := rfl
theorem xf_159_115 : xcode 159 115 = some (.aload_n 0, 1, 0, 0) := rfl
theorem xf_159_116 : xcode 159 116 = some (.getfield 60, 3, 11, 25) := rfl
theorem xf_159_119 : xcode 159 119 = some (.bipush 6, 2, 0, 0) := rfl
theorem xf_159_121 : xcode 159 121 = some (.aload_n 0, 1, 0, 0) := rfl
theorem xf_159_122 : xcode 159 122 = some (.getfield 192, 3, 11, 29) := rfl
theorem xf_159_125 : xcode 159 125 = some (.imul, 1, 0, 0) := rfl
theorem xf_159_126 : xcode 159 126 = some (.iload_n 2, 1, 0, 0) := rfl
theorem xf_159_127 : xcode 159 127 = some (.iadd, 1, 0, 0) := rfl
theorem xf_159_128 : xcode 159 128 = some (.iload_n 3, 1, 0, 0) := rfl
theorem xf_159_129 : xcode 159 129 = some (.invokestatic 195, 3, 158, 0) := rfl
theorem xf_159_132 : xcode 159 132 = some (.iastore, 1, 0, 0) := rfl
theorem xf_159_133 : xcode 159 133 = some (.iload_n 1, 1, 0, 0) := rfl
theorem xf_159_134 : xcode 159 134 = some (.ifCond .ne 9, 3, 143, 0) := rfl
theorem xf_159_137 : xcode 159 137 = some (.iload_n 3, 1, 0, 0) := rfl
theorem xf_159_138 : xcode 159 138 = some (.bipush 35, 2, 0, 0) := rfl
theorem xf_159_140 : xcode 159 140 = some (.if_icmp .eq 7, 3, 147, 0) := rfl
theorem xf_159_143 : xcode 159 143 = some (.iconst 1, 1, 0, 0) := rfl
theorem xf_159_144 : xcode 159 144 = some (.goto 4, 3, 148, 0) := rfl
theorem xf_159_147 : xcode 159 147 = some (.iconst 0, 1, 0, 0) := rfl
theorem xf_159_148 : xcode 159 148 = some (.istore_n 1, 1, 0, 0) := rfl
theorem xf_159_149 : xcode 159 149 = some (.iinc 2 1, 3, 0, 0) := rfl
theorem xf_159_152 : xcode 159 152 = some (.aload_n 0, 1, 0, 0) := rfl
theorem xf_159_153 : xcode 159 153 = some (.dup, 1, 0, 0) := rfl
theorem xf_159_154 : xcode 159 154 = some (.getfield 186, 3, 11, 27) := rfl
theorem xf_159_157 : xcode 159 157 = some (.iconst 1, 1, 0, 0) := rfl
theorem xf_159_158 : xcode 159 158 = some (.iadd, 1, 0, 0) := rfl
theorem xf_159_159 : xcode 159 159 = some (.putfield 186, 3, 11, 27) := rfl
theorem xf_159_162 : xcode 159 162 = some (.goto (-142), 3, 20, 0) := rfl
theorem xf_159_165 : xcode 159 165 = some (.iload_n 2, 1, 0, 0) := rfl
theorem xf_159_166 : xcode 159 166 = some (.ifCond .eq 22, 3, 188, 0) := rfl
theorem xf_159_169 : xcode 159 169 = some (.aload_n 0, 1, 0, 0) := rfl
theorem xf_159_170 : xcode 159 170 = some (.getfield 192, 3, 11, 29) := rfl
theorem xf_159_173 : xcode 159 173 = some (.ifCond .le 11, 3, 184, 0) := rfl
theorem xf_159_176 : xcode 159 176 = some (.iload_n 2, 1, 0, 0) := rfl
theorem xf_159_177 : xcode 159 177 = some (.aload_n 0, 1, 0, 0) := rfl
theorem xf_159_178 : xcode 159 178 = some (.getfield 189, 3, 11, 28) := rfl
theorem xf_159_181 : xcode 159 181 = some (.if_icmp .lt 7, 3, 188, 0) := rfl
theorem xf_159_184 : xcode 159 184 = some (.iload_n 1, 1, 0, 0) := rfl
theorem xf_159_185 : xcode 159 185 = some (.ifCond .ne 5, 3, 190, 0) := rfl
theorem xf_159_188 : xcode 159 188 = some (.iconst 0, 1, 0, 0) := rfl
theorem xf_159_189 : xcode 159 189 = some (.ireturn, 1, 0, 0) := rfl
theorem xf_159_190 : xcode 159 190 = some (.aload_n 0, 1, 0, 0) := rfl
theorem xf_159_191 : xcode 159 191 = some (.iload_n 2, 1, 0, 0) := rfl
theorem xf_159_192 : xcode 159 192 = some (.putfield 189, 3, 11, 28) := rfl
theorem xf_159_195 : xcode 159 195 = some (.aload_n 0, 1, 0, 0) := rfl
theorem xf_159_196 : xcode 159 196 = some (.dup, 1, 0, 0) := rfl
theorem xf_159_197 : xcode 159 197 = some (.getfield 192, 3, 11, 29) := rfl
theorem xf_159_200 : xcode 159 200 = some (.iconst 1, 1, 0, 0) := rfl
theorem xf_159_201 : xcode 159 201 = some (.iadd, 1, 0, 0) := rfl
theorem xf_159_202 : xcode 159 202 = some (.putfield 192, 3, 11, 29) := rfl
theorem xf_159_205 : xcode 159 205 = some (.iconst 1, 1, 0, 0) := rfl
theorem xf_159_206 : xcode 159 206 = some (.ireturn, 1, 0, 0) := rfl
theorem xf_160_0 : xcode 160 0 = some (.aload_n 0, 1, 0, 0) := rfl
theorem xf_160_1 : xcode 160 1 = some (.invokevirtual 198, 3, 159, 0) := rfl
theorem xf_160_4 : xcode 160 4 = some (.istore_n 1, 1, 0, 0) := rfl
theorem xf_160_5 : xcode 160 5 = some (.aload_n 0, 1, 0, 0) := rfl
theorem xf_160_6 : xcode 160 6 = some (.iconst 0, 1, 0, 0) := rfl
theorem xf_160_7 : xcode 160 7 = some (.putfield 183, 3, 11, 26) := rfl
theorem xf_160_10 : xcode 160 10 = some (.aload_n 0, 1, 0, 0) := rfl
theorem xf_160_11 : xcode 160 11 = some (.iload_n 1, 1, 0, 0) := rfl
theorem xf_160_12 : xcode 160 12 = some (.ifCond .eq 7, 3, 19, 0) := rfl
theorem xf_160_15 : xcode 160 15 = some (.iconst (-1), 1, 0, 0) := rfl
theorem xf_160_16 : xcode 160 16 = some (.goto 7, 3, 23, 0) := rfl
theorem xf_160_19 : xcode 160 19 = some (.aload_n 0, 1, 0, 0) := rfl
theorem xf_160_20 : xcode 160 20 = some (.getfield 186, 3, 11, 27) := rfl
theorem xf_160_23 : xcode 160 23 = some (.putfield 63, 3, 11, 30) := rfl
theorem xf_160_26 : xcode 160 26 = some (.iload_n 1, 1, 0, 0) := rfl
theorem xf_160_27 : xcode 160 27 = some (.ifCond .ne 9, 3, 36, 0) := rfl
theorem xf_160_30 : xcode 160 30 = some (.aload_n 0, 1, 0, 0) := rfl
theorem xf_160_31 : xcode 160 31 = some (.iconst 1, 1, 0, 0) := rfl
theorem xf_160_32 : xcode 160 32 = some (.invokevirtual 179, 3, 131, 0) := rfl
theorem xf_160_35 : xcode 160 35 = some (.ireturn, 1, 0, 0) := rfl
theorem xf_160_36 : xcode 160 36 = some (.aload_n 0, 1, 0, 0) := rfl
theorem xf_160_37 : xcode 160 37 = some (.iconst 0, 1, 0, 0) := rfl
theorem xf_160_38 : xcode 160 38 = some (.putfield 93, 3, 11, 0) := rfl
theorem xf_160_41 : xcode 160 41 = some (.aload_n 0, 1, 0, 0) := rfl
theorem xf_160_42 : xcode 160 42 = some (.invokevirtual 202, 3, 212, 0) := rfl
theorem xf_160_45 : xcode 160 45 = some (.aload_n 0, 1, 0, 0) := rfl
theorem xf_160_46 : xcode 160 46 = some (.aload_n 0, 1, 0, 0) := rfl
theorem xf_160_47 : xcode 160 47 = some (.getfield 189, 3, 11, 28) := rfl
theorem xf_160_50 : xcode 160 50 = some (.putfield 25, 3, 11, 6) := rfl
theorem xf_160_53 : xcode 160 53 = some (.aload_n 0, 1, 0, 0) := rfl
theorem xf_160_54 : xcode 160 54 = some (.aload_n 0, 1, 0, 0) := rfl
theorem xf_160_55 : xcode 160 55 = some (.getfield 192, 3, 11, 29) := rfl
theorem xf_160_58 : xcode 160 58 = some (.putfield 29, 3, 11, 7) := rfl
theorem xf_160_61 : xcode 160 61 = some (.iconst 0, 1, 0, 0) := rfl
theorem xf_160_62 : xcode 160 62 = some (.istore_n 2, 1, 0, 0) := rfl
theorem xf_160_63 : xcode 160 63 = some (.iload_n 2, 1, 0, 0) := rfl
theorem xf_160_64 : xcode 160 64 = some (.aload_n 0, 1, 0, 0) := rfl
theorem xf_160_65 : xcode 160 65 = some (.invokevirtual 96, 3, 134, 0) := rfl
theorem xf_160_68 : xcode 160 68 = some (.if_icmp .ge 43, 3, 111, 0) := rfl
theorem xf_160_71 : xcode 160 71 = some (.aload_n 0, 1, 0, 0) := rfl
theorem xf_160_72 : xcode 160 72 = some (.getfield 7, 3, 11, 1) := rfl
theorem xf_160_75 : xcode 160 75 = some (.iload_n 2, 1, 0, 0) := rfl
theorem xf_160_76 : xcode 160 76 = some (.aload_n 0, 1, 0, 0) := rfl
theorem xf_160_77 : xcode 160 77 = some (.getfield 60, 3, 11, 25) := rfl
theorem xf_160_80 : xcode 160 80 = some (.bipush 6, 2, 0, 0) := rfl
theorem xf_160_82 : xcode 160 82 = some (.iload_n 2, 1, 0, 0) := rfl
theorem xf_160_83 : xcode 160 83 = some (.aload_n 0, 1, 0, 0) := rfl
theorem xf_160_84 : xcode 160 84 = some (.getfield 25, 3, 11, 6) := rfl
theorem xf_160_87 : xcode 160 87 = some (.idiv, 1, 0, 0) := rfl
theorem xf_160_88 : xcode 160 88 = some (.imul, 1, 0, 0) := rfl
theorem xf_160_89 : xcode 160 89 = some (.iload_n 2, 1, 0, 0) := rfl
theorem xf_160_90 : xcode 160 90 = some (.aload_n 0, 1, 0, 0) := rfl
theorem xf_160_91 : xcode 160 91 = some (.getfield 25, 3, 11, 6) := rfl
theorem xf_160_94 : xcode 160 94 = some (.irem, 1, 0, 0) := rfl
theorem xf_160_95 : xcode 160 95 = some (.iadd, 1, 0, 0) := rfl
theorem xf_160_96 : xcode 160 96 = some (.iaload, 1, 0, 0) := rfl
theorem xf_160_97 : xcode 160 97 = some (.iastore, 1, 0, 0) := rfl
theorem xf_160_98 : xcode 160 98 = some (.aload_n 0, 1, 0, 0) := rfl
theorem xf_160_99 : xcode 160 99 = some (.getfield 13, 3, 11, 2) := rfl
theorem xf_160_102 : xcode 160 102 = some (.iload_n 2, 1, 0, 0) := rfl
theorem xf_160_103 : xcode 160 103 = some (.iconst 1, 1, 0, 0) := rfl
theorem xf_160_104 : xcode 160 104 = some (.iastore, 1, 0, 0) := rfl
theorem xf_160_105 : xcode 160 105 = some (.iinc 2 1, 3, 0, 0) := rfl
theorem xf_160_108 : xcode 160 108 = some (.goto (-45), 3, 63, 0) := rfl
theorem xf_160_111 : xcode 160 111 = some (.aload_n 0, 1, 0, 0) := rfl
theorem xf_160_112 : xcode 160 112 = some (.invokevirtual 90, 3, 147, 0) := rfl
theorem xf_160_115 : xcode 160 115 = some (.aload_n 0, 1, 0, 0) := rfl
theorem xf_160_116 : xcode 160 116 = some (.aload_n 0, 1, 0, 0) := rfl
theorem xf_160_117 : xcode 160 117 = some (.invokevirtual 205, 3, 140, 0) := rfl
theorem xf_160_120 : xcode 160 120 = some (.putfield 208, 3, 11, 10) := rfl
theorem xf_160_123 : xcode 160 123 = some (.aload_n 0, 1, 0, 0) := rfl
theorem xf_160_124 : xcode 160 124 = some (.invokevirtual 132, 3, 139, 0) := rfl
theorem xf_160_127 : xcode 160 127 = some (.ireturn, 1, 0, 0) := rfl
theorem xf_161_0 : xcode 161 0 = some (.aload_n 0, 1, 0, 0) := rfl
theorem xf_161_1 : xcode 161 1 = some (.iconst 0, 1, 0, 0) := rfl
theorem xf_161_2 : xcode 161 2 = some (.putfield 93, 3, 11, 0) := rfl
theorem xf_161_5 : xcode 161 5 = some (.aload_n 0, 1, 0, 0) := rfl
theorem xf_161_6 : xcode 161 6 = some (.getfield 63, 3, 11, 30) := rfl
theorem xf_161_9 : xcode 161 9 = some (.ireturn, 1, 0, 0) := rfl
theorem xf_162_0 : xcode 162 0 = some (.aload_n 0, 1, 0, 0) := rfl
theorem xf_162_1 : xcode 162 1 = some (.iload_n 1, 1, 0, 0) := rfl
theorem xf_162_2 : xcode 162 2 = some (.invokevirtual 211, 3, 135, 0) := rfl
theorem xf_162_5 : xcode 162 5 = some (.ifCond .ne 9, 3, 14, 0) := rfl
theorem xf_162_8 : xcode 162 8 = some (.aload_n 0, 1, 0, 0) := rfl
theorem xf_162_9 : xcode 162 9 = some (.iconst 1, 1, 0, 0) := rfl
theorem xf_162_10 : xcode 162 10 = some (.invokevirtual 214, 3, 132, 0) := rfl
theorem xf_162_13 : xcode 162 13 = some (.ireturn, 1, 0, 0) := rfl
theorem xf_162_14 : xcode 162 14 = some (.aload_n 0, 1, 0, 0) := rfl
theorem xf_162_15 : xcode 162 15 = some (.iload_n 1, 1, 0, 0) := rfl
theorem xf_162_16 : xcode 162 16 = some (.invokevirtual 100, 3, 136, 0) := rfl
theorem xf_162_19 : xcode 162 19 = some (.ifCond .ne 7, 3, 26, 0) := rfl
theorem xf_162_22 : xcode 162 22 = some (.iconst 1, 1, 0, 0) := rfl
theorem xf_162_23 : xcode 162 23 = some (.goto 4, 3, 27, 0) := rfl
theorem xf_162_26 : xcode 162 26 = some (.iconst 0, 1, 0, 0) := rfl
theorem xf_162_27 : xcode 162 27 = some (.istore_n 3, 1, 0, 0) := rfl
theorem xf_162_28 : xcode 162 28 = some (.iload_n 2, 1, 0, 0) := rfl
theorem xf_162_29 : xcode 162 29 = some (.ifCond .eq 29, 3, 58, 0) := rfl
theorem xf_162_32 : xcode 162 32 = some (.iload_n 3, 1, 0, 0) := rfl
theorem xf_162_33 : xcode 162 33 = some (.ifCond .ne 25, 3, 58, 0) := rfl
theorem xf_162_36 : xcode 162 36 = some (.aload_n 0, 1, 0, 0) := rfl
theorem xf_162_37 : xcode 162 37 = some (.invokevirtual 132, 3, 139, 0) := rfl
theorem xf_162_40 : xcode 162 40 = some (.iconst 1, 1, 0, 0) := rfl
theorem xf_162_41 : xcode 162 41 = some (.if_icmp .eq 11, 3, 52, 0) := rfl
theorem xf_162_44 : xcode 162 44 = some (.aload_n 0, 1, 0, 0) := rfl
theorem xf_162_45 : xcode 162 45 = some (.getfield 208, 3, 11, 10) := rfl
theorem xf_162_48 : xcode 162 48 = some (.iload_n 1, 1, 0, 0) := rfl
theorem xf_162_49 : xcode 162 49 = some (.if_icmp .ne 9, 3, 58, 0) := rfl
theorem xf_162_52 : xcode 162 52 = some (.aload_n 0, 1, 0, 0) := rfl
theorem xf_162_53 : xcode 162 53 = some (.iconst 2, 1, 0, 0) := rfl
theorem xf_162_54 : xcode 162 54 = some (.invokevirtual 214, 3, 132, 0) := rfl
theorem xf_162_57 : xcode 162 57 = some (.ireturn, 1, 0, 0) := rfl
theorem xf_162_58 : xcode 162 58 = some (.aload_n 0, 1, 0, 0) := rfl
theorem xf_162_59 : xcode 162 59 = some (.iconst 0, 1, 0, 0) := rfl
theorem xf_162_60 : xcode 162 60 = some (.putfield 93, 3, 11, 0) := rfl
theorem xf_162_63 : xcode 162 63 = some (.aload_n 0, 1, 0, 0) := rfl
theorem xf_162_64 : xcode 162 64 = some (.invokevirtual 202, 3, 212, 0) := rfl
theorem xf_162_67 : xcode 162 67 = some (.iload_n 2, 1, 0, 0) := rfl
theorem xf_162_68 : xcode 162 68 = some (.iload_n 3, 1, 0, 0) := rfl
theorem xf_162_69 : xcode 162 69 = some (.if_icmp .ne 5, 3, 74, 0) := rfl
theorem xf_162_72 : xcode 162 72 = some (.iload_n 3, 1, 0, 0) := rfl
theorem xf_162_73 : xcode 162 73 = some (.ireturn, 1, 0, 0) := rfl
theorem xf_162_74 : xcode 162 74 = some (.aload_n 0, 1, 0, 0) := rfl
theorem xf_162_75 : xcode 162 75 = some (.getfield 7, 3, 11, 1) := rfl
theorem xf_162_78 : xcode 162 78 = some (.iload_n 1, 1, 0, 0) := rfl
theorem xf_162_79 : xcode 162 79 = some (.iload_n 2, 1, 0, 0) := rfl
theorem xf_162_80 : xcode 162 80 = some (.ifCond .eq 7, 3, 87, 0) := rfl
theorem xf_162_83 : xcode 162 83 = some (.iconst (-1), 1, 0, 0) := rfl
theorem xf_162_84 : xcode 162 84 = some (.goto 4, 3, 88, 0) := rfl
theorem xf_162_87 : xcode 162 87 = some (.iconst 0, 1, 0, 0) := rfl
theorem xf_162_88 : xcode 162 88 = some (.iastore, 1, 0, 0) := rfl
theorem xf_162_89 : xcode 162 89 = some (.aload_n 0, 1, 0, 0) := rfl
theorem xf_162_90 : xcode 162 90 = some (.getfield 13, 3, 11, 2) := rfl
theorem xf_162_93 : xcode 162 93 = some (.iload_n 1, 1, 0, 0) := rfl
theorem xf_162_94 : xcode 162 94 = some (.iconst 1, 1, 0, 0) := rfl
theorem xf_162_95 : xcode 162 95 = some (.iastore, 1, 0, 0) := rfl
theorem xf_162_96 : xcode 162 96 = some (.aload_n 0, 1, 0, 0) := rfl
theorem xf_162_97 : xcode 162 97 = some (.invokevirtual 90, 3, 147, 0) := rfl
theorem xf_162_100 : xcode 162 100 = some (.iload_n 3, 1, 0, 0) := rfl
theorem xf_162_101 : xcode 162 101 = some (.ireturn, 1, 0, 0) := rfl
theorem xf_163_0 : xcode 163 0 = some (.aload_n 0, 1, 0, 0) := rfl
theorem xf_163_1 : xcode 163 1 = some (.iload_n 1, 1, 0, 0) := rfl
theorem xf_163_2 : xcode 163 2 = some (.invokevirtual 211, 3, 135, 0) := rfl
theorem xf_163_5 : xcode 163 5 = some (.ifCond .ne 9, 3, 14, 0) := rfl
theorem xf_163_8 : xcode 163 8 = some (.aload_n 0, 1, 0, 0) := rfl
theorem xf_163_9 : xcode 163 9 = some (.iconst 1, 1, 0, 0) := rfl
theorem xf_163_10 : xcode 163 10 = some (.invokevirtual 179, 3, 131, 0) := rfl
theorem xf_163_13 : xcode 163 13 = some (.ireturn, 1, 0, 0) := rfl
theorem xf_163_14 : xcode 163 14 = some (.iload_n 2, 1, 0, 0) := rfl
theorem xf_163_15 : xcode 163 15 = some (.invokestatic 217, 3, 138, 0) := rfl
theorem xf_163_18 : xcode 163 18 = some (.ifCond .ne 9, 3, 27, 0) := rfl
theorem xf_163_21 : xcode 163 21 = some (.aload_n 0, 1, 0, 0) := rfl
theorem xf_163_22 : xcode 163 22 = some (.iconst 2, 1, 0, 0) := rfl
theorem xf_163_23 : xcode 163 23 = some (.invokevirtual 179, 3, 131, 0) := rfl
theorem xf_163_26 : xcode 163 26 = some (.ireturn, 1, 0, 0) := rfl
theorem xf_163_27 : xcode 163 27 = some (.aload_n 0, 1, 0, 0) := rfl
theorem xf_163_28 : xcode 163 28 = some (.iload_n 1, 1, 0, 0) := rfl
theorem xf_163_29 : xcode 163 29 = some (.invokevirtual 100, 3, 136, 0) := rfl
theorem xf_163_32 : xcode 163 32 = some (.ifCond .ne 9, 3, 41, 0) := rfl
theorem xf_163_35 : xcode 163 35 = some (.aload_n 0, 1, 0, 0) := rfl
theorem xf_163_36 : xcode 163 36 = some (.iconst 3, 1, 0, 0) := rfl
theorem xf_163_37 : xcode 163 37 = some (.invokevirtual 179, 3, 131, 0) := rfl
theorem xf_163_40 : xcode 163 40 = some (.ireturn, 1, 0, 0) := rfl
theorem xf_163_41 : xcode 163 41 = some (.aload_n 0, 1, 0, 0) := rfl
theorem xf_163_42 : xcode 163 42 = some (.iconst 0, 1, 0, 0) := rfl
theorem xf_163_43 : xcode 163 43 = some (.putfield 93, 3, 11, 0) := rfl
theorem xf_163_46 : xcode 163 46 = some (.aload_n 0, 1, 0, 0) := rfl
theorem xf_163_47 : xcode 163 47 = some (.invokevirtual 202, 3, 212, 0) := rfl
theorem xf_163_50 : xcode 163 50 = some (.aload_n 0, 1, 0, 0) := rfl
theorem xf_163_51 : xcode 163 51 = some (.getfield 7, 3, 11, 1) := rfl
theorem xf_163_54 : xcode 163 54 = some (.iload_n 1, 1, 0, 0) := rfl
theorem xf_163_55 : xcode 163 55 = some (.iaload, 1, 0, 0) := rfl
theorem xf_163_56 : xcode 163 56 = some (.istore_n 3, 1, 0, 0) := rfl
theorem xf_163_57 : xcode 163 57 = some (.aload_n 0, 1, 0, 0) := rfl
theorem xf_163_58 : xcode 163 58 = some (.getfield 7, 3, 11, 1) := rfl
theorem xf_163_61 : xcode 163 61 = some (.iload_n 1, 1, 0, 0) := rfl
theorem xf_163_62 : xcode 163 62 = some (.iload_n 2, 1, 0, 0) := rfl
theorem xf_163_63 : xcode 163 63 = some (.iastore, 1, 0, 0) := rfl
theorem xf_163_64 : xcode 163 64 = some (.iload_n 3, 1, 0, 0) := rfl
theorem xf_163_65 : xcode 163 65 = some (.ireturn, 1, 0, 0) := rfl
theorem xf_164_0 : xcode 164 0 = some (.aload_n 0, 1, 0, 0) := rfl
theorem xf_164_1 : xcode 164 1 = some (.iload_n 1, 1, 0, 0) := rfl
theorem xf_164_2 : xcode 164 2 = some (.invokevirtual 211, 3, 135, 0) := rfl
theorem xf_164_5 : xcode 164 5 = some (.ifCond .ne 9, 3, 14, 0) := rfl
theorem xf_164_8 : xcode 164 8 = some (.aload_n 0, 1, 0, 0) := rfl
theorem xf_164_9 : xcode 164 9 = some (.iconst 1, 1, 0, 0) := rfl
theorem xf_164_10 : xcode 164 10 = some (.invokevirtual 179, 3, 131, 0) := rfl
theorem xf_164_13 : xcode 164 13 = some (.ireturn, 1, 0, 0) := rfl
theorem xf_164_14 : xcode 164 14 = some (.iload_n 2, 1, 0, 0) := rfl
theorem xf_164_15 : xcode 164 15 = some (.iconst 1, 1, 0, 0) := rfl
theorem xf_164_16 : xcode 164 16 = some (.bipush 9, 2, 0, 0) := rfl
theorem xf_164_18 : xcode 164 18 = some (.invokestatic 175, 3, 133, 0) := rfl
theorem xf_164_21 : xcode 164 21 = some (.ifCond .ne 9, 3, 30, 0) := rfl
theorem xf_164_24 : xcode 164 24 = some (.aload_n 0, 1, 0, 0) := rfl
theorem xf_164_25 : xcode 164 25 = some (.iconst 2, 1, 0, 0) := rfl
theorem xf_164_26 : xcode 164 26 = some (.invokevirtual 179, 3, 131, 0) := rfl
theorem xf_164_29 : xcode 164 29 = some (.ireturn, 1, 0, 0) := rfl
theorem xf_164_30 : xcode 164 30 = some (.aload_n 0, 1, 0, 0) := rfl
theorem xf_164_31 : xcode 164 31 = some (.iload_n 1, 1, 0, 0) := rfl
theorem xf_164_32 : xcode 164 32 = some (.invokevirtual 100, 3, 136, 0) := rfl
theorem xf_164_35 : xcode 164 35 = some (.ifCond .ne 9, 3, 44, 0) := rfl
theorem xf_164_38 : xcode 164 38 = some (.aload_n 0, 1, 0, 0) := rfl
theorem xf_164_39 : xcode 164 39 = some (.iconst 3, 1, 0, 0) := rfl
theorem xf_164_40 : xcode 164 40 = some (.invokevirtual 179, 3, 131, 0) := rfl
theorem xf_164_43 : xcode 164 43 = some (.ireturn, 1, 0, 0) := rfl
theorem xf_164_44 : xcode 164 44 = some (.aload_n 0, 1, 0, 0) := rfl
theorem xf_164_45 : xcode 164 45 = some (.iconst 0, 1, 0, 0) := rfl
theorem xf_164_46 : xcode 164 46 = some (.putfield 93, 3, 11, 0) := rfl
theorem xf_164_49 : xcode 164 49 = some (.aload_n 0, 1, 0, 0) := rfl
theorem xf_164_50 : xcode 164 50 = some (.invokevirtual 202, 3, 212, 0) := rfl
theorem xf_164_53 : xcode 164 53 = some (.aload_n 0, 1, 0, 0) := rfl
theorem xf_164_54 : xcode 164 54 = some (.getfield 13, 3, 11, 2) := rfl
theorem xf_164_57 : xcode 164 57 = some (.iload_n 1, 1, 0, 0) := rfl
theorem xf_164_58 : xcode 164 58 = some (.iaload, 1, 0, 0) := rfl
theorem xf_164_59 : xcode 164 59 = some (.istore_n 3, 1, 0, 0) := rfl
theorem xf_164_60 : xcode 164 60 = some (.aload_n 0, 1, 0, 0) := rfl
theorem xf_164_61 : xcode 164 61 = some (.getfield 13, 3, 11, 2) := rfl
theorem xf_164_64 : xcode 164 64 = some (.iload_n 1, 1, 0, 0) := rfl
theorem xf_164_65 : xcode 164 65 = some (.iload_n 2, 1, 0, 0) := rfl
theorem xf_164_66 : xcode 164 66 = some (.iastore, 1, 0, 0) := rfl
theorem xf_164_67 : xcode 164 67 = some (.iload_n 3, 1, 0, 0) := rfl
theorem xf_164_68 : xcode 164 68 = some (.ireturn, 1, 0, 0) := rfl
theorem xf_165_0 : xcode 165 0 = some (.iload_n 1, 1, 0, 0) := rfl
theorem xf_165_1 : xcode 165 1 = some (.iconst 0, 1, 0, 0) := rfl
theorem xf_165_2 : xcode 165 2 = some (.bipush 16, 2, 0, 0) := rfl
theorem xf_165_4 : xcode 165 4 = some (.invokestatic 175, 3, 133, 0) := rfl
theorem xf_165_7 : xcode 165 7 = some (.ifCond .eq 33, 3, 40, 0) := rfl
theorem xf_165_10 : xcode 165 10 = some (.iload_n 2, 1, 0, 0) := rfl
theorem xf_165_11 : xcode 165 11 = some (.iconst 0, 1, 0, 0) := rfl
theorem xf_165_12 : xcode 165 12 = some (.bipush 16, 2, 0, 0) := rfl
theorem xf_165_14 : xcode 165 14 = some (.invokestatic 175, 3, 133, 0) := rfl
theorem xf_165_17 : xcode 165 17 = some (.ifCond .eq 23, 3, 40, 0) := rfl
theorem xf_165_20 : xcode 165 20 = some (.iload_n 3, 1, 0, 0) := rfl
theorem xf_165_21 : xcode 165 21 = some (.iconst 0, 1, 0, 0) := rfl
theorem xf_165_22 : xcode 165 22 = some (.bipush 16, 2, 0, 0) := rfl
theorem xf_165_24 : xcode 165 24 = some (.invokestatic 175, 3, 133, 0) := rfl
theorem xf_165_27 : xcode 165 27 = some (.ifCond .eq 13, 3, 40, 0) := rfl
theorem xf_165_30 : xcode 165 30 = some (.iload_n 1, 1, 0, 0) := rfl
theorem xf_165_31 : xcode 165 31 = some (.iload_n 2, 1, 0, 0) := rfl
theorem xf_165_32 : xcode 165 32 = some (.iadd, 1, 0, 0) := rfl
theorem xf_165_33 : xcode 165 33 = some (.iload_n 3, 1, 0, 0) := rfl
theorem xf_165_34 : xcode 165 34 = some (.iadd, 1, 0, 0) := rfl
theorem xf_165_35 : xcode 165 35 = some (.bipush 16, 2, 0, 0) := rfl
theorem xf_165_37 : xcode 165 37 = some (.if_icmp .le 9, 3, 46, 0) := rfl
theorem xf_165_40 : xcode 165 40 = some (.aload_n 0, 1, 0, 0) := rfl
theorem xf_165_41 : xcode 165 41 = some (.iconst 1, 1, 0, 0) := rfl
theorem xf_165_42 : xcode 165 42 = some (.invokevirtual 179, 3, 131, 0) := rfl
theorem xf_165_45 : xcode 165 45 = some (.ireturn, 1, 0, 0) := rfl
theorem xf_165_46 : xcode 165 46 = some (.aload_n 0, 1, 0, 0) := rfl
theorem xf_165_47 : xcode 165 47 = some (.iconst 0, 1, 0, 0) := rfl
theorem xf_165_48 : xcode 165 48 = some (.putfield 93, 3, 11, 0) := rfl
theorem xf_165_51 : xcode 165 51 = some (.aload_n 0, 1, 0, 0) := rfl
theorem xf_165_52 : xcode 165 52 = some (.invokevirtual 202, 3, 212, 0) := rfl
theorem xf_165_55 : xcode 165 55 = some (.aload_n 0, 1, 0, 0) := rfl
theorem xf_165_56 : xcode 165 56 = some (.getfield 16, 3, 11, 3) := rfl
theorem xf_165_59 : xcode 165 59 = some (.iconst 0, 1, 0, 0) := rfl
theorem xf_165_60 : xcode 165 60 = some (.iload_n 1, 1, 0, 0) := rfl
theorem xf_165_61 : xcode 165 61 = some (.iastore, 1, 0, 0) := rfl
theorem xf_165_62 : xcode 165 62 = some (.aload_n 0, 1, 0, 0) := rfl
theorem xf_165_63 : xcode 165 63 = some (.getfield 16, 3, 11, 3) := rfl
theorem xf_165_66 : xcode 165 66 = some (.iconst 1, 1, 0, 0) := rfl
theorem xf_165_67 : xcode 165 67 = some (.iload_n 2, 1, 0, 0) := rfl
theorem xf_165_68 : xcode 165 68 = some (.iastore, 1, 0, 0) := rfl
theorem xf_165_69 : xcode 165 69 = some (.aload_n 0, 1, 0, 0) := rfl
theorem xf_165_70 : xcode 165 70 = some (.getfield 16, 3, 11, 3) := rfl
theorem xf_165_73 : xcode 165 73 = some (.iconst 2, 1, 0, 0) := rfl
theorem xf_165_74 : xcode 165 74 = some (.iload_n 3, 1, 0, 0) := rfl
theorem xf_165_75 : xcode 165 75 = some (.iastore, 1, 0, 0) := rfl
theorem xf_165_76 : xcode 165 76 = some (.aload_n 0, 1, 0, 0) := rfl
theorem xf_165_77 : xcode 165 77 = some (.getfield 16, 3, 11, 3) := rfl
theorem xf_165_80 : xcode 165 80 = some (.iconst 3, 1, 0, 0) := rfl
theorem xf_165_81 : xcode 165 81 = some (.bipush 16, 2, 0, 0) := rfl
theorem xf_165_83 : xcode 165 83 = some (.iload_n 1, 1, 0, 0) := rfl
theorem xf_165_84 : xcode 165 84 = some (.isub, 1, 0, 0) := rfl
theorem xf_165_85 : xcode 165 85 = some (.iload_n 2, 1, 0, 0) := rfl
theorem xf_165_86 : xcode 165 86 = some (.isub, 1, 0, 0) := rfl
theorem xf_165_87 : xcode 165 87 = some (.iload_n 3, 1, 0, 0) := rfl
theorem xf_165_88 : xcode 165 88 = some (.isub, 1, 0, 0) := rfl
theorem xf_165_89 : xcode 165 89 = some (.iastore, 1, 0, 0) := rfl
theorem xf_165_90 : xcode 165 90 = some (.aload_n 0, 1, 0, 0) := rfl
theorem xf_165_91 : xcode 165 91 = some (.getfield 16, 3, 11, 3) := rfl
theorem xf_165_94 : xcode 165 94 = some (.iconst 3, 1, 0, 0) := rfl
theorem xf_165_95 : xcode 165 95 = some (.iaload, 1, 0, 0) := rfl
theorem xf_165_96 : xcode 165 96 = some (.ireturn, 1, 0, 0) := rfl
theorem xf_166_0 : xcode 166 0 = some (.iload_n 1, 1, 0, 0) := rfl
theorem xf_166_1 : xcode 166 1 = some (.invokestatic 217, 3, 138, 0) := rfl
theorem xf_166_4 : xcode 166 4 = some (.ifCond .eq 10, 3, 14, 0) := rfl
theorem xf_166_7 : xcode 166 7 = some (.iload_n 2, 1, 0, 0) := rfl
theorem xf_166_8 : xcode 166 8 = some (.invokestatic 217, 3, 138, 0) := rfl
theorem xf_166_11 : xcode 166 11 = some (.ifCond .ne 9, 3, 20, 0) := rfl
theorem xf_166_14 : xcode 166 14 = some (.aload_n 0, 1, 0, 0) := rfl
theorem xf_166_15 : xcode 166 15 = some (.iconst 1, 1, 0, 0) := rfl
theorem xf_166_16 : xcode 166 16 = some (.invokevirtual 179, 3, 131, 0) := rfl
theorem xf_166_19 : xcode 166 19 = some (.ireturn, 1, 0, 0) := rfl
theorem xf_166_20 : xcode 166 20 = some (.iload_n 3, 1, 0, 0) := rfl
theorem xf_166_21 : xcode 166 21 = some (.iconst 0, 1, 0, 0) := rfl
theorem xf_166_22 : xcode 166 22 = some (.bipush 100, 2, 0, 0) := rfl
theorem xf_166_24 : xcode 166 24 = some (.invokestatic 175, 3, 133, 0) := rfl
theorem xf_166_27 : xcode 166 27 = some (.ifCond .ne 9, 3, 36, 0) := rfl
theorem xf_166_30 : xcode 166 30 = some (.aload_n 0, 1, 0, 0) := rfl
theorem xf_166_31 : xcode 166 31 = some (.iconst 2, 1, 0, 0) := rfl
theorem xf_166_32 : xcode 166 32 = some (.invokevirtual 179, 3, 131, 0) := rfl
theorem xf_166_35 : xcode 166 35 = some (.ireturn, 1, 0, 0) := rfl
theorem xf_166_36 : xcode 166 36 = some (.aload_n 0, 1, 0, 0) := rfl
theorem xf_166_37 : xcode 166 37 = some (.iconst 0, 1, 0, 0) := rfl
theorem xf_166_38 : xcode 166 38 = some (.putfield 93, 3, 11, 0) := rfl
theorem xf_166_41 : xcode 166 41 = some (.aload_n 0, 1, 0, 0) := rfl
theorem xf_166_42 : xcode 166 42 = some (.invokevirtual 202, 3, 212, 0) := rfl
theorem xf_166_45 : xcode 166 45 = some (.aload_n 0, 1, 0, 0) := rfl
theorem xf_166_46 : xcode 166 46 = some (.getfield 19, 3, 11, 4) := rfl
theorem xf_166_49 : xcode 166 49 = some (.iconst 4, 1, 0, 0) := rfl
theorem xf_166_50 : xcode 166 50 = some (.iload_n 1, 1, 0, 0) := rfl
theorem xf_166_51 : xcode 166 51 = some (.imul, 1, 0, 0) := rfl
theorem xf_166_52 : xcode 166 52 = some (.iload_n 2, 1, 0, 0) := rfl
theorem xf_166_53 : xcode 166 53 = some (.iadd, 1, 0, 0) := rfl
theorem xf_166_54 : xcode 166 54 = some (.iaload, 1, 0, 0) := rfl
theorem xf_166_55 : xcode 166 55 = some (.istore 4, 2, 0, 0) := rfl
theorem xf_166_57 : xcode 166 57 = some (.aload_n 0, 1, 0, 0) := rfl
theorem xf_166_58 : xcode 166 58 = some (.getfield 19, 3, 11, 4) := rfl
theorem xf_166_61 : xcode 166 61 = some (.iconst 4, 1, 0, 0) := rfl
theorem xf_166_62 : xcode 166 62 = some (.iload_n 1, 1, 0, 0) := rfl
theorem xf_166_63 : xcode 166 63 = some (.imul, 1, 0, 0) := rfl
theorem xf_166_64 : xcode 166 64 = some (.iload_n 2, 1, 0, 0) := rfl
theorem xf_166_65 : xcode 166 65 = some (.iadd, 1, 0, 0) := rfl
theorem xf_166_66 : xcode 166 66 = some (.iload_n 3, 1, 0, 0) := rfl
theorem xf_166_67 : xcode 166 67 = some (.iastore, 1, 0, 0) := rfl
theorem xf_166_68 : xcode 166 68 = some (.iload 4, 2, 0, 0) := rfl
theorem xf_166_70 : xcode 166 70 = some (.ireturn, 1, 0, 0) := rfl
theorem xf_167_0 : xcode 167 0 = some (.iload_n 1, 1, 0, 0) := rfl
theorem xf_167_1 : xcode 167 1 = some (.iconst 0, 1, 0, 0) := rfl
theorem xf_167_2 : xcode 167 2 = some (.bipush 100, 2, 0, 0) := rfl
theorem xf_167_4 : xcode 167 4 = some (.invokestatic 175, 3, 133, 0) := rfl
theorem xf_167_7 : xcode 167 7 = some (.ifCond .ne 9, 3, 16, 0) := rfl
theorem xf_167_10 : xcode 167 10 = some (.aload_n 0, 1, 0, 0) := rfl
theorem xf_167_11 : xcode 167 11 = some (.iconst 1, 1, 0, 0) := rfl
theorem xf_167_12 : xcode 167 12 = some (.invokevirtual 179, 3, 131, 0) := rfl
theorem xf_167_15 : xcode 167 15 = some (.ireturn, 1, 0, 0) := rfl
theorem xf_167_16 : xcode 167 16 = some (.aload_n 0, 1, 0, 0) := rfl
theorem xf_167_17 : xcode 167 17 = some (.iconst 0, 1, 0, 0) := rfl
theorem xf_167_18 : xcode 167 18 = some (.putfield 93, 3, 11, 0) := rfl
theorem xf_167_21 : xcode 167 21 = some (.aload_n 0, 1, 0, 0) := rfl
theorem xf_167_22 : xcode 167 22 = some (.invokevirtual 202, 3, 212, 0) := rfl
theorem xf_167_25 : xcode 167 25 = some (.aload_n 0, 1, 0, 0) := rfl
theorem xf_167_26 : xcode 167 26 = some (.getfield 141, 3, 11, 8) := rfl
theorem xf_167_29 : xcode 167 29 = some (.istore_n 2, 1, 0, 0) := rfl
theorem xf_167_30 : xcode 167 30 = some (.aload_n 0, 1, 0, 0) := rfl
theorem xf_167_31 : xcode 167 31 = some (.iload_n 1, 1, 0, 0) := rfl
theorem xf_167_32 : xcode 167 32 = some (.putfield 141, 3, 11, 8) := rfl
theorem xf_167_35 : xcode 167 35 = some (.iload_n 2, 1, 0, 0) := rfl
theorem xf_167_36 : xcode 167 36 = some (.ireturn, 1, 0, 0) := rfl
theorem xf_168_0 : xcode 168 0 = some (.iload_n 1, 1, 0, 0) := rfl
theorem xf_168_1 : xcode 168 1 = some (.iconst 0, 1, 0, 0) := rfl
theorem xf_168_2 : xcode 168 2 = some (.bipush 100, 2, 0, 0) := rfl
theorem xf_168_4 : xcode 168 4 = some (.invokestatic 175, 3, 133, 0) := rfl
theorem xf_168_7 : xcode 168 7 = some (.ifCond .ne 9, 3, 16, 0) := rfl
theorem xf_168_10 : xcode 168 10 = some (.aload_n 0, 1, 0, 0) := rfl
theorem xf_168_11 : xcode 168 11 = some (.iconst 1, 1, 0, 0) := rfl
theorem xf_168_12 : xcode 168 12 = some (.invokevirtual 179, 3, 131, 0) := rfl
theorem xf_168_15 : xcode 168 15 = some (.ireturn, 1, 0, 0) := rfl
theorem xf_168_16 : xcode 168 16 = some (.aload_n 0, 1, 0, 0) := rfl
theorem xf_168_17 : xcode 168 17 = some (.iconst 0, 1, 0, 0) := rfl
theorem xf_168_18 : xcode 168 18 = some (.putfield 93, 3, 11, 0) := rfl
theorem xf_168_21 : xcode 168 21 = some (.aload_n 0, 1, 0, 0) := rfl
theorem xf_168_22 : xcode 168 22 = some (.invokevirtual 202, 3, 212, 0) := rfl
theorem xf_168_25 : xcode 168 25 = some (.aload_n 0, 1, 0, 0) := rfl
theorem xf_168_26 : xcode 168 26 = some (.getfield 162, 3, 11, 9) := rfl
theorem xf_168_29 : xcode 168 29 = some (.istore_n 2, 1, 0, 0) := rfl
theorem xf_168_30 : xcode 168 30 = some (.aload_n 0, 1, 0, 0) := rfl
theorem xf_168_31 : xcode 168 31 = some (.iload_n 1, 1, 0, 0) := rfl
theorem xf_168_32 : xcode 168 32 = some (.putfield 162, 3, 11, 9) := rfl
theorem xf_168_35 : xcode 168 35 = some (.iload_n 2, 1, 0, 0) := rfl
theorem xf_168_36 : xcode 168 36 = some (.ireturn, 1, 0, 0) := rfl
theorem xf_169_0 : xcode 169 0 = some (.aload_n 0, 1, 0, 0) := rfl
theorem xf_169_1 : xcode 169 1 = some (.iload_n 1, 1, 0, 0) := rfl
theorem xf_169_2 : xcode 169 2 = some (.invokevirtual 211, 3, 135, 0) := rfl
theorem xf_169_5 : xcode 169 5 = some (.ifCond .ne 9, 3, 14, 0) := rfl
theorem xf_169_8 : xcode 169 8 = some (.aload_n 0, 1, 0, 0) := rfl
theorem xf_169_9 : xcode 169 9 = some (.iconst 1, 1, 0, 0) := rfl
theorem xf_169_10 : xcode 169 10 = some (.invokevirtual 179, 3, 131, 0) := rfl
theorem xf_169_13 : xcode 169 13 = some (.ireturn, 1, 0, 0) := rfl
theorem xf_169_14 : xcode 169 14 = some (.iload_n 2, 1, 0, 0) := rfl
theorem xf_169_15 : xcode 169 15 = some (.iconst 0, 1, 0, 0) := rfl
theorem xf_169_16 : xcode 169 16 = some (.iconst 3, 1, 0, 0) := rfl
theorem xf_169_17 : xcode 169 17 = some (.invokestatic 175, 3, 133, 0) := rfl
theorem xf_169_20 : xcode 169 20 = some (.ifCond .ne 9, 3, 29, 0) := rfl
theorem xf_169_23 : xcode 169 23 = some (.aload_n 0, 1, 0, 0) := rfl
theorem xf_169_24 : xcode 169 24 = some (.iconst 2, 1, 0, 0) := rfl
theorem xf_169_25 : xcode 169 25 = some (.invokevirtual 179, 3, 131, 0) := rfl
theorem xf_169_28 : xcode 169 28 = some (.ireturn, 1, 0, 0) := rfl
theorem xf_169_29 : xcode 169 29 = some (.aload_n 0, 1, 0, 0) := rfl
theorem xf_169_30 : xcode 169 30 = some (.iconst 0, 1, 0, 0) := rfl
theorem xf_169_31 : xcode 169 31 = some (.putfield 93, 3, 11, 0) := rfl
theorem xf_169_34 : xcode 169 34 = some (.aload_n 0, 1, 0, 0) := rfl
theorem xf_169_35 : xcode 169 35 = some (.iload_n 1, 1, 0, 0) := rfl
theorem xf_169_36 : xcode 169 36 = some (.invokevirtual 100, 3, 136, 0) := rfl
theorem xf_169_39 : xcode 169 39 = some (.ifCond .ne 13, 3, 52, 0) := rfl
theorem xf_169_42 : xcode 169 42 = some (.iload_n 2, 1, 0, 0) := rfl
theorem xf_169_43 : xcode 169 43 = some (.ifCond .ne 7, 3, 50, 0) := rfl
theorem xf_169_46 : xcode 169 46 = some (.iconst 1, 1, 0, 0) := rfl
theorem xf_169_47 : xcode 169 47 = some (.goto 4, 3, 51, 0) := rfl
theorem xf_169_50 : xcode 169 50 = some (.iconst 0, 1, 0, 0) := rfl
theorem xf_169_51 : xcode 169 51 = some (.ireturn, 1, 0, 0) := rfl
theorem xf_169_52 : xcode 169 52 = some (.iconst 0, 1, 0, 0) := rfl
theorem xf_169_53 : xcode 169 53 = some (.istore_n 3, 1, 0, 0) := rfl
theorem xf_169_54 : xcode 169 54 = some (.iconst 0, 1, 0, 0) := rfl
theorem xf_169_55 : xcode 169 55 = some (.istore 4, 2, 0, 0) := rfl
theorem xf_169_57 : xcode 169 57 = some (.iload 4, 2, 0, 0) := rfl
theorem xf_169_59 : xcode 169 59 = some (.iconst 4, 1, 0, 0) := rfl
theorem xf_169_60 : xcode 169 60 = some (.if_icmp .ge 28, 3, 88, 0) := rfl
theorem xf_169_63 : xcode 169 63 = some (.iload_n 3, 1, 0, 0) := rfl
theorem xf_169_64 : xcode 169 64 = some (.aload_n 0, 1, 0, 0) := rfl
theorem xf_169_65 : xcode 169 65 = some (.iload_n 1, 1, 0, 0) := rfl
theorem xf_169_66 : xcode 169 66 = some (.iload 4, 2, 0, 0) := rfl
theorem xf_169_68 : xcode 169 68 = some (.invokevirtual 104, 3, 141, 0) := rfl
theorem xf_169_71 : xcode 169 71 = some (.iload_n 1, 1, 0, 0) := rfl
theorem xf_169_72 : xcode 169 72 = some (.if_icmp .eq 7, 3, 79, 0) := rfl
theorem xf_169_75 : xcode 169 75 = some (.iconst 1, 1, 0, 0) := rfl
theorem xf_169_76 : xcode 169 76 = some (.goto 4, 3, 80, 0) := rfl
theorem xf_169_79 : xcode 169 79 = some (.iconst 0, 1, 0, 0) := rfl
theorem xf_169_80 : xcode 169 80 = some (.iadd, 1, 0, 0) := rfl
theorem xf_169_81 : xcode 169 81 = some (.istore_n 3, 1, 0, 0) := rfl
theorem xf_169_82 : xcode 169 82 = some (.iinc 4 1, 3, 0, 0) := rfl
theorem xf_169_85 : xcode 169 85 = some (.goto (-28), 3, 57, 0) := rfl
theorem xf_169_88 : xcode 169 88 = some (.iload_n 2, 1, 0, 0) := rfl
theorem xf_169_89 : xcode 169 89 = some (.ifCond .ne 7, 3, 96, 0) := rfl
theorem xf_169_92 : xcode 169 92 = some (.iconst 0, 1, 0, 0) := rfl
theorem xf_169_93 : xcode 169 93 = some (.goto 32, 3, 125, 0) := rfl
theorem xf_169_96 : xcode 169 96 = some (.iload_n 2, 1, 0, 0) := rfl
theorem xf_169_97 : xcode 169 97 = some (.iconst 1, 1, 0, 0) := rfl
theorem xf_169_98 : xcode 169 98 = some (.if_icmp .ne 12, 3, 110, 0) := rfl
theorem xf_169_101 : xcode 169 101 = some (.aload_n 0, 1, 0, 0) := rfl
theorem xf_169_102 : xcode 169 102 = some (.getfield 7, 3, 11, 1) := rfl
theorem xf_169_105 : xcode 169 105 = some (.iload_n 1, 1, 0, 0) := rfl
theorem xf_169_106 : xcode 169 106 = some (.iaload, 1, 0, 0) := rfl
theorem xf_169_107 : xcode 169 107 = some (.goto 18, 3, 125, 0) := rfl
theorem xf_169_110 : xcode 169 110 = some (.iload_n 2, 1, 0, 0) := rfl
theorem xf_169_111 : xcode 169 111 = some (.iconst 2, 1, 0, 0) := rfl
theorem xf_169_112 : xcode 169 112 = some (.if_icmp .ne 12, 3, 124, 0) := rfl
theorem xf_169_115 : xcode 169 115 = some (.aload_n 0, 1, 0, 0) := rfl
theorem xf_169_116 : xcode 169 116 = some (.getfield 13, 3, 11, 2) := rfl
theorem xf_169_119 : xcode 169 119 = some (.iload_n 1, 1, 0, 0) := rfl
theorem xf_169_120 : xcode 169 120 = some (.iaload, 1, 0, 0) := rfl
theorem xf_169_121 : xcode 169 121 = some (.goto 4, 3, 125, 0) := rfl
theorem xf_169_124 : xcode 169 124 = some (.iload_n 3, 1, 0, 0) := rfl
theorem xf_169_125 : xcode 169 125 = some (.ireturn, 1, 0, 0) := rfl
theorem xf_170_0 : xcode 170 0 = some (.aload_n 0, 1, 0, 0) := rfl
theorem xf_170_1 : xcode 170 1 = some (.iload_n 1, 1, 0, 0) := rfl
theorem xf_170_2 : xcode 170 2 = some (.invokevirtual 211, 3, 135, 0) := rfl
theorem xf_170_5 : xcode 170 5 = some (.ifCond .eq 11, 3, 16, 0) := rfl
theorem xf_170_8 : xcode 170 8 = some (.aload_n 0, 1, 0, 0) := rfl
theorem xf_170_9 : xcode 170 9 = some (.iload_n 2, 1, 0, 0) := rfl
theorem xf_170_10 : xcode 170 10 = some (.invokevirtual 211, 3, 135, 0) := rfl
theorem xf_170_13 : xcode 170 13 = some (.ifCond .ne 9, 3, 22, 0) := rfl
theorem xf_170_16 : xcode 170 16 = some (.aload_n 0, 1, 0, 0) := rfl
theorem xf_170_17 : xcode 170 17 = some (.iconst 1, 1, 0, 0) := rfl
theorem xf_170_18 : xcode 170 18 = some (.invokevirtual 179, 3, 131, 0) := rfl
theorem xf_170_21 : xcode 170 21 = some (.ireturn, 1, 0, 0) := rfl
theorem xf_170_22 : xcode 170 22 = some (.iload_n 3, 1, 0, 0) := rfl
theorem xf_170_23 : xcode 170 23 = some (.invokestatic 220, 3, 137, 0) := rfl
theorem xf_170_26 : xcode 170 26 = some (.ifCond .ne 9, 3, 35, 0) := rfl
theorem xf_170_29 : xcode 170 29 = some (.aload_n 0, 1, 0, 0) := rfl
theorem xf_170_30 : xcode 170 30 = some (.iconst 2, 1, 0, 0) := rfl
theorem xf_170_31 : xcode 170 31 = some (.invokevirtual 179, 3, 131, 0) := rfl
theorem xf_170_34 : xcode 170 34 = some (.ireturn, 1, 0, 0) := rfl
theorem xf_170_35 : xcode 170 35 = some (.aload_n 0, 1, 0, 0) := rfl
theorem xf_170_36 : xcode 170 36 = some (.iconst 0, 1, 0, 0) := rfl
theorem xf_170_37 : xcode 170 37 = some (.putfield 93, 3, 11, 0) := rfl
theorem xf_170_40 : xcode 170 40 = some (.aload_n 0, 1, 0, 0) := rfl
theorem xf_170_41 : xcode 170 41 = some (.iload_n 1, 1, 0, 0) := rfl
theorem xf_170_42 : xcode 170 42 = some (.invokevirtual 100, 3, 136, 0) := rfl
theorem xf_170_45 : xcode 170 45 = some (.ifCond .eq 26, 3, 71, 0) := rfl
theorem xf_170_48 : xcode 170 48 = some (.aload_n 0, 1, 0, 0) := rfl
theorem xf_170_49 : xcode 170 49 = some (.iload_n 2, 1, 0, 0) := rfl
theorem xf_170_50 : xcode 170 50 = some (.invokevirtual 100, 3, 136, 0) := rfl
theorem xf_170_53 : xcode 170 53 = some (.ifCond .eq 18, 3, 71, 0) := rfl
theorem xf_170_56 : xcode 170 56 = some (.aload_n 0, 1, 0, 0) := rfl
theorem xf_170_57 : xcode 170 57 = some (.aload_n 0, 1, 0, 0) := rfl
theorem xf_170_58 : xcode 170 58 = some (.getfield 16, 3, 11, 3) := rfl
theorem xf_170_61 : xcode 170 61 = some (.iconst 0, 1, 0, 0) := rfl
theorem xf_170_62 : xcode 170 62 = some (.iload_n 1, 1, 0, 0) := rfl
theorem xf_170_63 : xcode 170 63 = some (.iload_n 2, 1, 0, 0) := rfl
theorem xf_170_64 : xcode 170 64 = some (.iload_n 3, 1, 0, 0) := rfl
theorem xf_170_65 : xcode 170 65 = some (.invokevirtual 135, 3, 143, 0) := rfl
theorem xf_170_68 : xcode 170 68 = some (.goto 4, 3, 72, 0) := rfl
theorem xf_170_71 : xcode 170 71 = some (.iconst 0, 1, 0, 0) := rfl
theorem xf_170_72 : xcode 170 72 = some (.ireturn, 1, 0, 0) := rfl
theorem xf_171_0 : xcode 171 0 = some (.aload_n 0, 1, 0, 0) := rfl
theorem xf_171_1 : xcode 171 1 = some (.getfield 29, 3, 11, 7) := rfl
theorem xf_171_4 : xcode 171 4 = some (.aload_n 0, 1, 0, 0) := rfl
theorem xf_171_5 : xcode 171 5 = some (.getfield 25, 3, 11, 6) := rfl
theorem xf_171_8 : xcode 171 8 = some (.iconst 1, 1, 0, 0) := rfl
theorem xf_171_9 : xcode 171 9 = some (.iadd, 1, 0, 0) := rfl
theorem xf_171_10 : xcode 171 10 = some (.imul, 1, 0, 0) := rfl
theorem xf_171_11 : xcode 171 11 = some (.iconst 1, 1, 0, 0) := rfl
theorem xf_171_12 : xcode 171 12 = some (.isub, 1, 0, 0) := rfl
theorem xf_171_13 : xcode 171 13 = some (.istore_n 2, 1, 0, 0) := rfl
theorem xf_171_14 : xcode 171 14 = some (.iload_n 1, 1, 0, 0) := rfl
theorem xf_171_15 : xcode 171 15 = some (.iconst (-1), 1, 0, 0) := rfl
theorem xf_171_16 : xcode 171 16 = some (.iload_n 2, 1, 0, 0) := rfl
theorem xf_171_17 : xcode 171 17 = some (.iconst 1, 1, 0, 0) := rfl
theorem xf_171_18 : xcode 171 18 = some (.isub, 1, 0, 0) := rfl
theorem xf_171_19 : xcode 171 19 = some (.invokestatic 175, 3, 133, 0) := rfl
theorem xf_171_22 : xcode 171 22 = some (.ifCond .ne 9, 3, 31, 0) := rfl
theorem xf_171_25 : xcode 171 25 = some (.aload_n 0, 1, 0, 0) := rfl
theorem xf_171_26 : xcode 171 26 = some (.iconst 1, 1, 0, 0) := rfl
theorem xf_171_27 : xcode 171 27 = some (.invokevirtual 179, 3, 131, 0) := rfl
theorem xf_171_30 : xcode 171 30 = some (.ireturn, 1, 0, 0) := rfl
theorem xf_171_31 : xcode 171 31 = some (.aload_n 0, 1, 0, 0) := rfl
theorem xf_171_32 : xcode 171 32 = some (.iconst 0, 1, 0, 0) := rfl
theorem xf_171_33 : xcode 171 33 = some (.putfield 93, 3, 11, 0) := rfl
theorem xf_171_36 : xcode 171 36 = some (.iload_n 1, 1, 0, 0) := rfl
theorem xf_171_37 : xcode 171 37 = some (.ifCond .ge 5, 3, 42, 0) := rfl
theorem xf_171_40 : xcode 171 40 = some (.iload_n 2, 1, 0, 0) := rfl
theorem xf_171_41 : xcode 171 41 = some (.ireturn, 1, 0, 0) := rfl
theorem xf_171_42 : xcode 171 42 = some (.iload_n 1, 1, 0, 0) := rfl
theorem xf_171_43 : xcode 171 43 = some (.aload_n 0, 1, 0, 0) := rfl
theorem xf_171_44 : xcode 171 44 = some (.getfield 25, 3, 11, 6) := rfl
theorem xf_171_47 : xcode 171 47 = some (.iconst 1, 1, 0, 0) := rfl
theorem xf_171_48 : xcode 171 48 = some (.iadd, 1, 0, 0) := rfl
theorem xf_171_49 : xcode 171 49 = some (.irem, 1, 0, 0) := rfl
theorem xf_171_50 : xcode 171 50 = some (.istore_n 3, 1, 0, 0) := rfl
theorem xf_171_51 : xcode 171 51 = some (.iload_n 3, 1, 0, 0) := rfl
theorem xf_171_52 : xcode 171 52 = some (.aload_n 0, 1, 0, 0) := rfl
theorem xf_171_53 : xcode 171 53 = some (.getfield 25, 3, 11, 6) := rfl
theorem xf_171_56 : xcode 171 56 = some (.if_icmp .ne 6, 3, 62, 0) := rfl
theorem xf_171_59 : xcode 171 59 = some (.bipush 47, 2, 0, 0) := rfl
theorem xf_171_61 : xcode 171 61 = some (.ireturn, 1, 0, 0) := rfl
theorem xf_171_62 : xcode 171 62 = some (.aload_n 0, 1, 0, 0) := rfl
theorem xf_171_63 : xcode 171 63 = some (.getfield 7, 3, 11, 1) := rfl
theorem xf_171_66 : xcode 171 66 = some (.aload_n 0, 1, 0, 0) := rfl
theorem xf_171_67 : xcode 171 67 = some (.getfield 25, 3, 11, 6) := rfl
theorem xf_171_70 : xcode 171 70 = some (.iload_n 1, 1, 0, 0) := rfl
theorem xf_171_71 : xcode 171 71 = some (.aload_n 0, 1, 0, 0) := rfl
theorem xf_171_72 : xcode 171 72 = some (.getfield 25, 3, 11, 6) := rfl
theorem xf_171_75 : xcode 171 75 = some (.iconst 1, 1, 0, 0) := rfl
theorem xf_171_76 : xcode 171 76 = some (.iadd, 1, 0, 0) := rfl
theorem xf_171_77 : xcode 171 77 = some (.idiv, 1, 0, 0) := rfl
theorem xf_171_78 : xcode 171 78 = some (.imul, 1, 0, 0) := rfl
theorem xf_171_79 : xcode 171 79 = some (.iload_n 3, 1, 0, 0) := rfl
theorem xf_171_80 : xcode 171 80 = some (.iadd, 1, 0, 0) := rfl
theorem xf_171_81 : xcode 171 81 = some (.iaload, 1, 0, 0) := rfl
theorem xf_171_82 : xcode 171 82 = some (.istore 4, 2, 0, 0) := rfl
theorem xf_171_84 : xcode 171 84 = some (.iload 4, 2, 0, 0) := rfl
theorem xf_171_86 : xcode 171 86 = some (.iconst (-1), 1, 0, 0) := rfl
theorem xf_171_87 : xcode 171 87 = some (.if_icmp .ne 8, 3, 95, 0) := rfl
theorem xf_171_90 : xcode 171 90 = some (.bipush 35, 2, 0, 0) := rfl
theorem xf_171_92 : xcode 171 92 = some (.goto 18, 3, 110, 0) := rfl
theorem xf_171_95 : xcode 171 95 = some (.iload 4, 2, 0, 0) := rfl
theorem xf_171_97 : xcode 171 97 = some (.ifCond .ne 8, 3, 105, 0) := rfl
theorem xf_171_100 : xcode 171 100 = some (.bipush 46, 2, 0, 0) := rfl
theorem xf_171_102 : xcode 171 102 = some (.goto 8, 3, 110, 0) := rfl
theorem xf_171_105 : xcode 171 105 = some (.bipush 97, 2, 0, 0) := rfl
theorem xf_171_107 : xcode 171 107 = some (.iload 4, 2, 0, 0) := rfl
theorem xf_171_109 : xcode 171 109 = some (.iadd, 1, 0, 0) := rfl
theorem xf_171_110 : xcode 171 110 = some (.ireturn, 1, 0, 0) := rfl
theorem xf_172_0 : xcode 172 0 = some (.aload_n 0, 1, 0, 0) := rfl
theorem xf_172_1 : xcode 172 1 = some (.iconst 0, 1, 0, 0) := rfl
theorem xf_172_2 : xcode 172 2 = some (.putfield 93, 3, 11, 0) := rfl
theorem xf_172_5 : xcode 172 5 = some (.aload_n 0, 1, 0, 0) := rfl
theorem xf_172_6 : xcode 172 6 = some (.invokevirtual 202, 3, 212, 0) := rfl
theorem xf_172_9 : xcode 172 9 = some (.aload_n 0, 1, 0, 0) := rfl
theorem xf_172_10 : xcode 172 10 = some (.invokevirtual 90, 3, 147, 0) := rfl
theorem xf_172_13 : xcode 172 13 = some (.aload_n 0, 1, 0, 0) := rfl
theorem xf_172_14 : xcode 172 14 = some (.invokevirtual 132, 3, 139, 0) := rfl
theorem xf_172_17 : xcode 172 17 = some (.ireturn, 1, 0, 0) := rfl
theorem xf_173_0 : xcode 173 0 = some (.aload_n 0, 1, 0, 0) := rfl
theorem xf_173_1 : xcode 173 1 = some (.iload_n 1, 1, 0, 0) := rfl
theorem xf_173_2 : xcode 173 2 = some (.invokevirtual 211, 3, 135, 0) := rfl
theorem xf_173_5 : xcode 173 5 = some (.ifCond .ne 9, 3, 14, 0) := rfl
theorem xf_173_8 : xcode 173 8 = some (.aload_n 0, 1, 0, 0) := rfl
theorem xf_173_9 : xcode 173 9 = some (.iconst 1, 1, 0, 0) := rfl
theorem xf_173_10 : xcode 173 10 = some (.invokevirtual 179, 3, 131, 0) := rfl
theorem xf_173_13 : xcode 173 13 = some (.ireturn, 1, 0, 0) := rfl
theorem xf_173_14 : xcode 173 14 = some (.aload_n 0, 1, 0, 0) := rfl
theorem xf_173_15 : xcode 173 15 = some (.iload_n 1, 1, 0, 0) := rfl
theorem xf_173_16 : xcode 173 16 = some (.invokevirtual 100, 3, 136, 0) := rfl
theorem xf_173_19 : xcode 173 19 = some (.ifCond .ne 9, 3, 28, 0) := rfl
theorem xf_173_22 : xcode 173 22 = some (.aload_n 0, 1, 0, 0) := rfl
theorem xf_173_23 : xcode 173 23 = some (.iconst 2, 1, 0, 0) := rfl
theorem xf_173_24 : xcode 173 24 = some (.invokevirtual 179, 3, 131, 0) := rfl
theorem xf_173_27 : xcode 173 27 = some (.ireturn, 1, 0, 0) := rfl
theorem xf_173_28 : xcode 173 28 = some (.aload_n 0, 1, 0, 0) := rfl
theorem xf_173_29 : xcode 173 29 = some (.iconst 0, 1, 0, 0) := rfl
theorem xf_173_30 : xcode 173 30 = some (.putfield 93, 3, 11, 0) := rfl
theorem xf_173_33 : xcode 173 33 = some (.aload_n 0, 1, 0, 0) := rfl
theorem xf_173_34 : xcode 173 34 = some (.invokevirtual 202, 3, 212, 0) := rfl
theorem xf_173_37 : xcode 173 37 = some (.aload_n 0, 1, 0, 0) := rfl
theorem xf_173_38 : xcode 173 38 = some (.getfield 22, 3, 11, 5) := rfl
theorem xf_173_41 : xcode 173 41 = some (.iload_n 1, 1, 0, 0) := rfl
theorem xf_173_42 : xcode 173 42 = some (.iaload, 1, 0, 0) := rfl
theorem xf_173_43 : xcode 173 43 = some (.istore_n 2, 1, 0, 0) := rfl
theorem xf_173_44 : xcode 173 44 = some (.iconst 0, 1, 0, 0) := rfl
theorem xf_173_45 : xcode 173 45 = some (.istore_n 3, 1, 0, 0) := rfl
theorem xf_173_46 : xcode 173 46 = some (.iload_n 3, 1, 0, 0) := rfl
theorem xf_173_47 : xcode 173 47 = some (.bipush 36, 2, 0, 0) := rfl
theorem xf_173_49 : xcode 173 49 = some (.if_icmp .ge 26, 3, 75, 0) := rfl
theorem xf_173_52 : xcode 173 52 = some (.aload_n 0, 1, 0, 0) := rfl
theorem xf_173_53 : xcode 173 53 = some (.getfield 22, 3, 11, 5) := rfl
theorem xf_173_56 : xcode 173 56 = some (.iload_n 3, 1, 0, 0) := rfl
theorem xf_173_57 : xcode 173 57 = some (.iload_n 3, 1, 0, 0) := rfl
theorem xf_173_58 : xcode 173 58 = some (.iload_n 1, 1, 0, 0) := rfl
theorem xf_173_59 : xcode 173 59 = some (.if_icmp .ne 8, 3, 67, 0) := rfl
theorem xf_173_62 : xcode 173 62 = some (.ldc 118, 2, 3, 0) := rfl
theorem xf_173_64 : xcode 173 64 = some (.goto 4, 3, 68, 0) := rfl
theorem xf_173_67 : xcode 173 67 = some (.iconst 0, 1, 0, 0) := rfl
theorem xf_173_68 : xcode 173 68 = some (.iastore, 1, 0, 0) := rfl
theorem xf_173_69 : xcode 173 69 = some (.iinc 3 1, 3, 0, 0) := rfl
theorem xf_173_72 : xcode 173 72 = some (.goto (-26), 3, 46, 0) := rfl
theorem xf_173_75 : xcode 173 75 = some (.aload_n 0, 1, 0, 0) := rfl
theorem xf_173_76 : xcode 173 76 = some (.iload_n 1, 1, 0, 0) := rfl
theorem xf_173_77 : xcode 173 77 = some (.invokevirtual 128, 3, 151, 0) := rfl
theorem xf_173_80 : xcode 173 80 = some (.iload_n 2, 1, 0, 0) := rfl
theorem xf_173_81 : xcode 173 81 = some (.ireturn, 1, 0, 0) := rfl
theorem xf_174_0 : xcode 174 0 = some (.iload_n 1, 1, 0, 0) := rfl
theorem xf_174_1 : xcode 174 1 = some (.invokestatic 220, 3, 137, 0) := rfl
theorem xf_174_4 : xcode 174 4 = some (.ifCond .ne 9, 3, 13, 0) := rfl
theorem xf_174_7 : xcode 174 7 = some (.aload_n 0, 1, 0, 0) := rfl
theorem xf_174_8 : xcode 174 8 = some (.iconst 1, 1, 0, 0) := rfl
theorem xf_174_9 : xcode 174 9 = some (.invokevirtual 179, 3, 131, 0) := rfl
theorem xf_174_12 : xcode 174 12 = some (.ireturn, 1, 0, 0) := rfl
theorem xf_174_13 : xcode 174 13 = some (.aload_n 0, 1, 0, 0) := rfl
theorem xf_174_14 : xcode 174 14 = some (.iconst 0, 1, 0, 0) := rfl
theorem xf_174_15 : xcode 174 15 = some (.putfield 93, 3, 11, 0) := rfl
theorem xf_174_18 : xcode 174 18 = some (.aload_n 0, 1, 0, 0) := rfl
theorem xf_174_19 : xcode 174 19 = some (.invokevirtual 202, 3, 212, 0) := rfl
theorem xf_174_22 : xcode 174 22 = some (.aload_n 0, 1, 0, 0) := rfl
theorem xf_174_23 : xcode 174 23 = some (.iload_n 1, 1, 0, 0) := rfl
theorem xf_174_24 : xcode 174 24 = some (.invokevirtual 223, 3, 154, 0) := rfl
theorem xf_174_27 : xcode 174 27 = some (.aload_n 0, 1, 0, 0) := rfl
theorem xf_174_28 : xcode 174 28 = some (.getfield 22, 3, 11, 5) := rfl
theorem xf_174_31 : xcode 174 31 = some (.aload_n 0, 1, 0, 0) := rfl
theorem xf_174_32 : xcode 174 32 = some (.invokevirtual 225, 3, 150, 0) := rfl
theorem xf_174_35 : xcode 174 35 = some (.iaload, 1, 0, 0) := rfl
theorem xf_174_36 : xcode 174 36 = some (.ireturn, 1, 0, 0) := rfl
theorem xf_175_0 : xcode 175 0 = some (.iload_n 1, 1, 0, 0) := rfl
theorem xf_175_1 : xcode 175 1 = some (.invokestatic 217, 3, 138, 0) := rfl
theorem xf_175_4 : xcode 175 4 = some (.ifCond .ne 9, 3, 13, 0) := rfl
theorem xf_175_7 : xcode 175 7 = some (.aload_n 0, 1, 0, 0) := rfl
theorem xf_175_8 : xcode 175 8 = some (.iconst 1, 1, 0, 0) := rfl
theorem xf_175_9 : xcode 175 9 = some (.invokevirtual 214, 3, 132, 0) := rfl
theorem xf_175_12 : xcode 175 12 = some (.ireturn, 1, 0, 0) := rfl
theorem xf_175_13 : xcode 175 13 = some (.aload_n 0, 1, 0, 0) := rfl
theorem xf_175_14 : xcode 175 14 = some (.iload_n 1, 1, 0, 0) := rfl
theorem xf_175_15 : xcode 175 15 = some (.invokevirtual 228, 3, 155, 0) := rfl
theorem xf_175_18 : xcode 175 18 = some (.ifCond .ne 9, 3, 27, 0) := rfl
theorem xf_175_21 : xcode 175 21 = some (.aload_n 0, 1, 0, 0) := rfl
theorem xf_175_22 : xcode 175 22 = some (.iconst 2, 1, 0, 0) := rfl
theorem xf_175_23 : xcode 175 23 = some (.invokevirtual 214, 3, 132, 0) := rfl
theorem xf_175_26 : xcode 175 26 = some (.ireturn, 1, 0, 0) := rfl
theorem xf_175_27 : xcode 175 27 = some (.aload_n 0, 1, 0, 0) := rfl
theorem xf_175_28 : xcode 175 28 = some (.iconst 0, 1, 0, 0) := rfl
theorem xf_175_29 : xcode 175 29 = some (.putfield 93, 3, 11, 0) := rfl
theorem xf_175_32 : xcode 175 32 = some (.aload_n 0, 1, 0, 0) := rfl
theorem xf_175_33 : xcode 175 33 = some (.invokevirtual 202, 3, 212, 0) := rfl
theorem xf_175_36 : xcode 175 36 = some (.aload_n 0, 1, 0, 0) := rfl
theorem xf_175_37 : xcode 175 37 = some (.iload_n 1, 1, 0, 0) := rfl
theorem xf_175_38 : xcode 175 38 = some (.invokevirtual 231, 3, 156, 0) := rfl
theorem xf_175_41 : xcode 175 41 = some (.aload_n 0, 1, 0, 0) := rfl
theorem xf_175_42 : xcode 175 42 = some (.getfield 165, 3, 11, 23) := rfl
theorem xf_175_45 : xcode 175 45 = some (.ireturn, 1, 0, 0) := rfl
theorem xf_176_0 : xcode 176 0 = some (.aload_n 0, 1, 0, 0) := rfl
theorem xf_176_1 : xcode 176 1 = some (.iload_n 1, 1, 0, 0) := rfl
theorem xf_176_2 : xcode 176 2 = some (.invokevirtual 211, 3, 135, 0) := rfl
theorem xf_176_5 : xcode 176 5 = some (.ifCond .ne 9, 3, 14, 0) := rfl
theorem xf_176_8 : xcode 176 8 = some (.aload_n 0, 1, 0, 0) := rfl
theorem xf_176_9 : xcode 176 9 = some (.iconst 1, 1, 0, 0) := rfl
theorem xf_176_10 : xcode 176 10 = some (.invokevirtual 179, 3, 131, 0) := rfl
theorem xf_176_13 : xcode 176 13 = some (.ireturn, 1, 0, 0) := rfl
theorem xf_176_14 : xcode 176 14 = some (.aload_n 0, 1, 0, 0) := rfl
theorem xf_176_15 : xcode 176 15 = some (.iconst 0, 1, 0, 0) := rfl
theorem xf_176_16 : xcode 176 16 = some (.putfield 93, 3, 11, 0) := rfl
theorem xf_176_19 : xcode 176 19 = some (.aload_n 0, 1, 0, 0) := rfl
theorem xf_176_20 : xcode 176 20 = some (.getfield 22, 3, 11, 5) := rfl
theorem xf_176_23 : xcode 176 23 = some (.iload_n 1, 1, 0, 0) := rfl
theorem xf_176_24 : xcode 176 24 = some (.iaload, 1, 0, 0) := rfl
theorem xf_176_25 : xcode 176 25 = some (.ireturn, 1, 0, 0) := rfl
theorem xf_177_0 : xcode 177 0 = some (.iconst 0, 1, 0, 0) := rfl
theorem xf_177_1 : xcode 177 1 = some (.istore_n 2, 1, 0, 0) := rfl
theorem xf_177_2 : xcode 177 2 = some (.iconst 0, 1, 0, 0) := rfl
theorem xf_177_3 : xcode 177 3 = some (.istore_n 3, 1, 0, 0) := rfl
theorem xf_177_4 : xcode 177 4 = some (.iload_n 3, 1, 0, 0) := rfl
theorem xf_177_5 : xcode 177 5 = some (.aload_n 0, 1, 0, 0) := rfl
theorem xf_177_6 : xcode 177 6 = some (.invokevirtual 96, 3, 134, 0) := rfl
theorem xf_177_9 : xcode 177 9 = some (.if_icmp .ge 52, 3, 61, 0) := rfl
theorem xf_177_12 : xcode 177 12 = some (.iload_n 2, 1, 0, 0) := rfl
theorem xf_177_13 : xcode 177 13 = some (.aload_n 0, 1, 0, 0) := rfl
theorem xf_177_14 : xcode 177 14 = some (.getfield 22, 3, 11, 5) := rfl
theorem xf_177_17 : xcode 177 17 = some (.iload_n 3, 1, 0, 0) := rfl
theorem xf_177_18 : xcode 177 18 = some (.iaload, 1, 0, 0) := rfl
theorem xf_177_19 : xcode 177 19 = some (.aload_n 0, 1, 0, 0) := rfl
theorem xf_177_20 : xcode 177 20 = some (.getfield 22, 3, 11, 5) := rfl
theorem xf_177_23 : xcode 177 23 = some (.iload_n 1, 1, 0, 0) := rfl
theorem xf_177_24 : xcode 177 24 = some (.iaload, 1, 0, 0) := rfl
theorem xf_177_25 : xcode 177 25 = some (.if_icmp .gt 23, 3, 48, 0) := rfl
theorem xf_177_28 : xcode 177 28 = some (.aload_n 0, 1, 0, 0) := rfl
theorem xf_177_29 : xcode 177 29 = some (.getfield 22, 3, 11, 5) := rfl
theorem xf_177_32 : xcode 177 32 = some (.iload_n 3, 1, 0, 0) := rfl
theorem xf_177_33 : xcode 177 33 = some (.iaload, 1, 0, 0) := rfl
theorem xf_177_34 : xcode 177 34 = some (.aload_n 0, 1, 0, 0) := rfl
theorem xf_177_35 : xcode 177 35 = some (.getfield 22, 3, 11, 5) := rfl
theorem xf_177_38 : xcode 177 38 = some (.iload_n 1, 1, 0, 0) := rfl
theorem xf_177_39 : xcode 177 39 = some (.iaload, 1, 0, 0) := rfl
theorem xf_177_40 : xcode 177 40 = some (.if_icmp .ne 12, 3, 52, 0) := rfl
theorem xf_177_43 : xcode 177 43 = some (.iload_n 3, 1, 0, 0) := rfl
theorem xf_177_44 : xcode 177 44 = some (.iload_n 1, 1, 0, 0) := rfl
theorem xf_177_45 : xcode 177 45 = some (.if_icmp .ge 7, 3, 52, 0) := rfl
theorem xf_177_48 : xcode 177 48 = some (.iconst 1, 1, 0, 0) := rfl
theorem xf_177_49 : xcode 177 49 = some (.goto 4, 3, 53, 0) := rfl
theorem xf_177_52 : xcode 177 52 = some (.iconst 0, 1, 0, 0) := rfl
theorem xf_177_53 : xcode 177 53 = some (.iadd, 1, 0, 0) := rfl
theorem xf_177_54 : xcode 177 54 = some (.istore_n 2, 1, 0, 0) := rfl
theorem xf_177_55 : xcode 177 55 = some (.iinc 3 1, 3, 0, 0) := rfl
theorem xf_177_58 : xcode 177 58 = some (.goto (-54), 3, 4, 0) := rfl
theorem xf_177_61 : xcode 177 61 = some (.iload_n 2, 1, 0, 0) := rfl
theorem xf_177_62 : xcode 177 62 = some (.ireturn, 1, 0, 0) := rfl
theorem xf_178_0 : xcode 178 0 = some (.iconst 0, 1, 0, 0) := rfl
theorem xf_178_1 : xcode 178 1 = some (.istore_n 2, 1, 0, 0) := rfl
theorem xf_178_2 : xcode 178 2 = some (.aload_n 0, 1, 0, 0) := rfl
theorem xf_178_3 : xcode 178 3 = some (.iload_n 2, 1, 0, 0) := rfl
theorem xf_178_4 : xcode 178 4 = some (.invokevirtual 234, 3, 177, 0) := rfl
theorem xf_178_7 : xcode 178 7 = some (.iload_n 1, 1, 0, 0) := rfl
theorem xf_178_8 : xcode 178 8 = some (.if_icmp .eq 9, 3, 17, 0) := rfl
theorem xf_178_11 : xcode 178 11 = some (.iinc 2 1, 3, 0, 0) := rfl
theorem xf_178_14 : xcode 178 14 = some (.goto (-12), 3, 2, 0) := rfl
theorem xf_178_17 : xcode 178 17 = some (.iload_n 2, 1, 0, 0) := rfl
theorem xf_178_18 : xcode 178 18 = some (.ireturn, 1, 0, 0) := rfl
theorem xf_179_0 : xcode 179 0 = some (.iload_n 1, 1, 0, 0) := rfl
theorem xf_179_1 : xcode 179 1 = some (.iconst 0, 1, 0, 0) := rfl
theorem xf_179_2 : xcode 179 2 = some (.aload_n 0, 1, 0, 0) := rfl
theorem xf_179_3 : xcode 179 3 = some (.invokevirtual 96, 3, 134, 0) := rfl
theorem xf_179_6 : xcode 179 6 = some (.iconst 1, 1, 0, 0) := rfl
theorem xf_179_7 : xcode 179 7 = some (.isub, 1, 0, 0) := rfl
theorem xf_179_8 : xcode 179 8 = some (.invokestatic 175, 3, 133, 0) := rfl
theorem xf_179_11 : xcode 179 11 = some (.ifCond .ne 9, 3, 20, 0) := rfl
theorem xf_179_14 : xcode 179 14 = some (.aload_n 0, 1, 0, 0) := rfl
theorem xf_179_15 : xcode 179 15 = some (.iconst 1, 1, 0, 0) := rfl
theorem xf_179_16 : xcode 179 16 = some (.invokevirtual 179, 3, 131, 0) := rfl
theorem xf_179_19 : xcode 179 19 = some (.ireturn, 1, 0, 0) := rfl
theorem xf_179_20 : xcode 179 20 = some (.aload_n 0, 1, 0, 0) := rfl
theorem xf_179_21 : xcode 179 21 = some (.iconst 0, 1, 0, 0) := rfl
theorem xf_179_22 : xcode 179 22 = some (.putfield 93, 3, 11, 0) := rfl
theorem xf_179_25 : xcode 179 25 = some (.aload_n 0, 1, 0, 0) := rfl
theorem xf_179_26 : xcode 179 26 = some (.iload_n 1, 1, 0, 0) := rfl
theorem xf_179_27 : xcode 179 27 = some (.invokevirtual 237, 3, 178, 0) := rfl
theorem xf_179_30 : xcode 179 30 = some (.ireturn, 1, 0, 0) := rfl
theorem xf_180_0 : xcode 180 0 = some (.iload_n 1, 1, 0, 0) := rfl
theorem xf_180_1 : xcode 180 1 = some (.iconst 1, 1, 0, 0) := rfl
theorem xf_180_2 : xcode 180 2 = some (.bipush 100, 2, 0, 0) := rfl
theorem xf_180_4 : xcode 180 4 = some (.invokestatic 175, 3, 133, 0) := rfl
theorem xf_180_7 : xcode 180 7 = some (.ifCond .ne 9, 3, 16, 0) := rfl
theorem xf_180_10 : xcode 180 10 = some (.aload_n 0, 1, 0, 0) := rfl
theorem xf_180_11 : xcode 180 11 = some (.iconst 1, 1, 0, 0) := rfl
theorem xf_180_12 : xcode 180 12 = some (.invokevirtual 179, 3, 131, 0) := rfl
theorem xf_180_15 : xcode 180 15 = some (.ireturn, 1, 0, 0) := rfl
theorem xf_180_16 : xcode 180 16 = some (.aload_n 0, 1, 0, 0) := rfl
theorem xf_180_17 : xcode 180 17 = some (.iconst 0, 1, 0, 0) := rfl
theorem xf_180_18 : xcode 180 18 = some (.putfield 93, 3, 11, 0) := rfl
theorem xf_180_21 : xcode 180 21 = some (.lconst 0, 1, 0, 0) := rfl
theorem xf_180_22 : xcode 180 22 = some (.lstore_n 2, 1, 0, 0) := rfl
theorem xf_180_23 : xcode 180 23 = some (.iconst 0, 1, 0, 0) := rfl
theorem xf_180_24 : xcode 180 24 = some (.istore 4, 2, 0, 0) := rfl
theorem xf_180_26 : xcode 180 26 = some (.ldc2_w 139, 3, 0, 0) := rfl
theorem xf_180_29 : xcode 180 29 = some (.lload_n 2, 1, 0, 0) := rfl
theorem xf_180_30 : xcode 180 30 = some (.lmul, 1, 0, 0) := rfl
theorem xf_180_31 : xcode 180 31 = some (.iload_n 1, 1, 0, 0) := rfl
theorem xf_180_32 : xcode 180 32 = some (.i2l, 1, 0, 0) := rfl
theorem xf_180_33 : xcode 180 33 = some (.ldc2_w 116, 3, 2, 0) := rfl
theorem xf_180_36 : xcode 180 36 = some (.lmul, 1, 0, 0) := rfl
theorem xf_180_37 : xcode 180 37 = some (.lcmp, 1, 0, 0) := rfl
theorem xf_180_38 : xcode 180 38 = some (.ifCond .ge 24, 3, 62, 0) := rfl
theorem xf_180_41 : xcode 180 41 = some (.lload_n 2, 1, 0, 0) := rfl
theorem xf_180_42 : xcode 180 42 = some (.aload_n 0, 1, 0, 0) := rfl
theorem xf_180_43 : xcode 180 43 = some (.getfield 22, 3, 11, 5) := rfl
theorem xf_180_46 : xcode 180 46 = some (.aload_n 0, 1, 0, 0) := rfl
theorem xf_180_47 : xcode 180 47 = some (.iload 4, 2, 0, 0) := rfl
theorem xf_180_49 : xcode 180 49 = some (.invokevirtual 237, 3, 178, 0) := rfl
theorem xf_180_52 : xcode 180 52 = some (.iaload, 1, 0, 0) := rfl
theorem xf_180_53 : xcode 180 53 = some (.i2l, 1, 0, 0) := rfl
theorem xf_180_54 : xcode 180 54 = some (.ladd, 1, 0, 0) := rfl
theorem xf_180_55 : xcode 180 55 = some (.lstore_n 2, 1, 0, 0) := rfl
theorem xf_180_56 : xcode 180 56 = some (.iinc 4 1, 3, 0, 0) := rfl
theorem xf_180_59 : xcode 180 59 = some (.goto (-33), 3, 26, 0) := rfl
theorem xf_180_62 : xcode 180 62 = some (.iload 4, 2, 0, 0) := rfl
theorem xf_180_64 : xcode 180 64 = some (.ireturn, 1, 0, 0) := rfl
theorem xf_181_0 : xcode 181 0 = some (.aload_n 0, 1, 0, 0) := rfl
theorem xf_181_1 : xcode 181 1 = some (.iconst 0, 1, 0, 0) := rfl
theorem xf_181_2 : xcode 181 2 = some (.putfield 93, 3, 11, 0) := rfl
theorem xf_181_5 : xcode 181 5 = some (.dconst 0, 1, 0, 0) := rfl
theorem xf_181_6 : xcode 181 6 = some (.dstore_n 1, 1, 0, 0) := rfl
theorem xf_181_7 : xcode 181 7 = some (.iconst 0, 1, 0, 0) := rfl
theorem xf_181_8 : xcode 181 8 = some (.istore_n 3, 1, 0, 0) := rfl
theorem xf_181_9 : xcode 181 9 = some (.iload_n 3, 1, 0, 0) := rfl
theorem xf_181_10 : xcode 181 10 = some (.aload_n 0, 1, 0, 0) := rfl
theorem xf_181_11 : xcode 181 11 = some (.invokevirtual 96, 3, 134, 0) := rfl
theorem xf_181_14 : xcode 181 14 = some (.if_icmp .ge 30, 3, 44, 0) := rfl
theorem xf_181_17 : xcode 181 17 = some (.aload_n 0, 1, 0, 0) := rfl
theorem xf_181_18 : xcode 181 18 = some (.getfield 22, 3, 11, 5) := rfl
theorem xf_181_21 : xcode 181 21 = some (.iload_n 3, 1, 0, 0) := rfl
theorem xf_181_22 : xcode 181 22 = some (.iaload, 1, 0, 0) := rfl
theorem xf_181_23 : xcode 181 23 = some (.i2d, 1, 0, 0) := rfl
theorem xf_181_24 : xcode 181 24 = some (.ldc2_w 240, 3, 5, 0) := rfl
theorem xf_181_27 : xcode 181 27 = some (.ddiv, 1, 0, 0) := rfl
theorem xf_181_28 : xcode 181 28 = some (.dstore 4, 2, 0, 0) := rfl
theorem xf_181_30 : xcode 181 30 = some (.dload_n 1, 1, 0, 0) := rfl
theorem xf_181_31 : xcode 181 31 = some (.dload 4, 2, 0, 0) := rfl
theorem xf_181_33 : xcode 181 33 = some (.dload 4, 2, 0, 0) := rfl
theorem xf_181_35 : xcode 181 35 = some (.dmul, 1, 0, 0) := rfl
theorem xf_181_36 : xcode 181 36 = some (.dadd, 1, 0, 0) := rfl
theorem xf_181_37 : xcode 181 37 = some (.dstore_n 1, 1, 0, 0) := rfl
theorem xf_181_38 : xcode 181 38 = some (.iinc 3 1, 3, 0, 0) := rfl
theorem xf_181_41 : xcode 181 41 = some (.goto (-32), 3, 9, 0) := rfl
theorem xf_181_44 : xcode 181 44 = some (.dconst 1, 1, 0, 0) := rfl
theorem xf_181_45 : xcode 181 45 = some (.dload_n 1, 1, 0, 0) := rfl
theorem xf_181_46 : xcode 181 46 = some (.dsub, 1, 0, 0) := rfl
theorem xf_181_47 : xcode 181 47 = some (.invokestatic 242, 3, 217, 0) := rfl
theorem xf_181_50 : xcode 181 50 = some (.lreturn, 1, 0, 0) := rfl
theorem xf_182_0 : xcode 182 0 = some (.aload_n 0, 1, 0, 0) := rfl
theorem xf_182_1 : xcode 182 1 = some (.iconst 0, 1, 0, 0) := rfl
theorem xf_182_2 : xcode 182 2 = some (.putfield 93, 3, 11, 0) := rfl
theorem xf_182_5 : xcode 182 5 = some (.aload_n 0, 1, 0, 0) := rfl
theorem xf_182_6 : xcode 182 6 = some (.getfield 22, 3, 11, 5) := rfl
theorem xf_182_9 : xcode 182 9 = some (.aload_n 0, 1, 0, 0) := rfl
theorem xf_182_10 : xcode 182 10 = some (.invokevirtual 225, 3, 150, 0) := rfl
theorem xf_182_13 : xcode 182 13 = some (.iaload, 1, 0, 0) := rfl
theorem xf_182_14 : xcode 182 14 = some (.i2f, 1, 0, 0) := rfl
theorem xf_182_15 : xcode 182 15 = some (.ldc 248, 2, 6, 0) := rfl
theorem xf_182_17 : xcode 182 17 = some (.fdiv, 1, 0, 0) := rfl
theorem xf_182_18 : xcode 182 18 = some (.invokestatic 249, 3, 219, 0) := rfl
theorem xf_182_21 : xcode 182 21 = some (.ireturn, 1, 0, 0) := rfl
theorem xf_183_0 : xcode 183 0 = some (.aload_n 0, 1, 0, 0) := rfl
theorem xf_183_1 : xcode 183 1 = some (.iload_n 1, 1, 0, 0) := rfl
theorem xf_183_2 : xcode 183 2 = some (.invokevirtual 152, 3, 148, 0) := rfl
theorem xf_183_5 : xcode 183 5 = some (.aload_n 0, 1, 0, 0) := rfl
theorem xf_183_6 : xcode 183 6 = some (.aload_n 0, 1, 0, 0) := rfl
theorem xf_183_7 : xcode 183 7 = some (.getfield 66, 3, 11, 31) := rfl
theorem xf_183_10 : xcode 183 10 = some (.invokevirtual 124, 3, 145, 0) := rfl
theorem xf_183_13 : xcode 183 13 = some (.lconst 0, 1, 0, 0) := rfl
theorem xf_183_14 : xcode 183 14 = some (.lstore_n 2, 1, 0, 0) := rfl
theorem xf_183_15 : xcode 183 15 = some (.iconst 0, 1, 0, 0) := rfl
theorem xf_183_16 : xcode 183 16 = some (.istore 4, 2, 0, 0) := rfl
theorem xf_183_18 : xcode 183 18 = some (.iload 4, 2, 0, 0) := rfl
theorem xf_183_20 : xcode 183 20 = some (.iconst 4, 1, 0, 0) := rfl
theorem xf_183_21 : xcode 183 21 = some (.if_icmp .ge 72, 3, 93, 0) := rfl
theorem xf_183_24 : xcode 183 24 = some (.aload_n 0, 1, 0, 0) := rfl
theorem xf_183_25 : xcode 183 25 = some (.aload_n 0, 1, 0, 0) := rfl
theorem xf_183_26 : xcode 183 26 = some (.getfield 66, 3, 11, 31) := rfl
theorem xf_183_29 : xcode 183 29 = some (.iload 4, 2, 0, 0) := rfl
theorem xf_183_31 : xcode 183 31 = some (.invokevirtual 158, 3, 149, 0) := rfl
theorem xf_183_34 : xcode 183 34 = some (.lconst 0, 1, 0, 0) := rfl
theorem xf_183_35 : xcode 183 35 = some (.lstore 5, 2, 0, 0) := rfl
theorem xf_183_37 : xcode 183 37 = some (.iconst 0, 1, 0, 0) := rfl
theorem xf_183_38 : xcode 183 38 = some (.istore 7, 2, 0, 0) := rfl
theorem xf_183_40 : xcode 183 40 = some (.iload 7, 2, 0, 0) := rfl
theorem xf_183_42 : xcode 183 42 = some (.aload_n 0, 1, 0, 0) := rfl
theorem xf_183_43 : xcode 183 43 = some (.invokevirtual 96, 3, 134, 0) := rfl
theorem xf_183_46 : xcode 183 46 = some (.if_icmp .ge 36, 3, 82, 0) := rfl
theorem xf_183_49 : xcode 183 49 = some (.aload_n 0, 1, 0, 0) := rfl
theorem xf_183_50 : xcode 183 50 = some (.getfield 35, 3, 11, 14) := rfl
theorem xf_183_53 : xcode 183 53 = some (.iload 7, 2, 0, 0) := rfl
theorem xf_183_55 : xcode 183 55 = some (.laload, 1, 0, 0) := rfl
theorem xf_183_56 : xcode 183 56 = some (.lload 5, 2, 0, 0) := rfl
theorem xf_183_58 : xcode 183 58 = some (.lcmp, 1, 0, 0) := rfl
theorem xf_183_59 : xcode 183 59 = some (.ifCond .le 13, 3, 72, 0) := rfl
theorem xf_183_62 : xcode 183 62 = some (.aload_n 0, 1, 0, 0) := rfl
theorem xf_183_63 : xcode 183 63 = some (.getfield 35, 3, 11, 14) := rfl
theorem xf_183_66 : xcode 183 66 = some (.iload 7, 2, 0, 0) := rfl
theorem xf_183_68 : xcode 183 68 = some (.laload, 1, 0, 0) := rfl
theorem xf_183_69 : xcode 183 69 = some (.goto 5, 3, 74, 0) := rfl
theorem xf_183_72 : xcode 183 72 = some (.lload 5, 2, 0, 0) := rfl
theorem xf_183_74 : xcode 183 74 = some (.lstore 5, 2, 0, 0) := rfl
theorem xf_183_76 : xcode 183 76 = some (.iinc 7 1, 3, 0, 0) := rfl
theorem xf_183_79 : xcode 183 79 = some (.goto (-39), 3, 40, 0) := rfl
theorem xf_183_82 : xcode 183 82 = some (.lload_n 2, 1, 0, 0) := rfl
theorem xf_183_83 : xcode 183 83 = some (.lload 5, 2, 0, 0) := rfl
theorem xf_183_85 : xcode 183 85 = some (.ladd, 1, 0, 0) := rfl
theorem xf_183_86 : xcode 183 86 = some (.lstore_n 2, 1, 0, 0) := rfl
theorem xf_183_87 : xcode 183 87 = some (.iinc 4 1, 3, 0, 0) := rfl
theorem xf_183_90 : xcode 183 90 = some (.goto (-72), 3, 18, 0) := rfl
theorem xf_183_93 : xcode 183 93 = some (.lload_n 2, 1, 0, 0) := rfl
theorem xf_183_94 : xcode 183 94 = some (.lreturn, 1, 0, 0) := rfl
theorem xf_184_0 : xcode 184 0 = some (.aload_n 0, 1, 0, 0) := rfl
theorem xf_184_1 : xcode 184 1 = some (.iconst 0, 1, 0, 0) := rfl
theorem xf_184_2 : xcode 184 2 = some (.putfield 93, 3, 11, 0) := rfl
theorem xf_184_5 : xcode 184 5 = some (.iconst 0, 1, 0, 0) := rfl
theorem xf_184_6 : xcode 184 6 = some (.istore_n 1, 1, 0, 0) := rfl
theorem xf_184_7 : xcode 184 7 = some (.ldc2_w 119, 3, 4, 0) := rfl
theorem xf_184_10 : xcode 184 10 = some (.lstore_n 2, 1, 0, 0) := rfl
theorem xf_184_11 : xcode 184 11 = some (.iconst 0, 1, 0, 0) := rfl
theorem xf_184_12 : xcode 184 12 = some (.istore 4, 2, 0, 0) := rfl
theorem xf_184_14 : xcode 184 14 = some (.iload 4, 2, 0, 0) := rfl
theorem xf_184_16 : xcode 184 16 = some (.iconst 4, 1, 0, 0) := rfl
theorem xf_184_17 : xcode 184 17 = some (.if_icmp .ge 45, 3, 62, 0) := rfl
theorem xf_184_20 : xcode 184 20 = some (.aload_n 0, 1, 0, 0) := rfl
theorem xf_184_21 : xcode 184 21 = some (.iload 4, 2, 0, 0) := rfl
theorem xf_184_23 : xcode 184 23 = some (.invokevirtual 255, 3, 183, 0) := rfl
theorem xf_184_26 : xcode 184 26 = some (.lstore 5, 2, 0, 0) := rfl
theorem xf_184_28 : xcode 184 28 = some (.lload 5, 2, 0, 0) := rfl
theorem xf_184_30 : xcode 184 30 = some (.lload_n 2, 1, 0, 0) := rfl
theorem xf_184_31 : xcode 184 31 = some (.lcmp, 1, 0, 0) := rfl
theorem xf_184_32 : xcode 184 32 = some (.ifCond .le 8, 3, 40, 0) := rfl
theorem xf_184_35 : xcode 184 35 = some (.iload 4, 2, 0, 0) := rfl
theorem xf_184_37 : xcode 184 37 = some (.goto 4, 3, 41, 0) := rfl
theorem xf_184_40 : xcode 184 40 = some (.iload_n 1, 1, 0, 0) := rfl
theorem xf_184_41 : xcode 184 41 = some (.istore_n 1, 1, 0, 0) := rfl
theorem xf_184_42 : xcode 184 42 = some (.lload 5, 2, 0, 0) := rfl
theorem xf_184_44 : xcode 184 44 = some (.lload_n 2, 1, 0, 0) := rfl
theorem xf_184_45 : xcode 184 45 = some (.lcmp, 1, 0, 0) := rfl
theorem xf_184_46 : xcode 184 46 = some (.ifCond .le 8, 3, 54, 0) := rfl
theorem xf_184_49 : xcode 184 49 = some (.lload 5, 2, 0, 0) := rfl
theorem xf_184_51 : xcode 184 51 = some (.goto 4, 3, 55, 0) := rfl
theorem xf_184_54 : xcode 184 54 = some (.lload_n 2, 1, 0, 0) := rfl
theorem xf_184_55 : xcode 184 55 = some (.lstore_n 2, 1, 0, 0) := rfl
theorem xf_184_56 : xcode 184 56 = some (.iinc 4 1, 3, 0, 0) := rfl
theorem xf_184_59 : xcode 184 59 = some (.goto (-45), 3, 14, 0) := rfl
theorem xf_184_62 : xcode 184 62 = some (.iload_n 1, 1, 0, 0) := rfl
theorem xf_184_63 : xcode 184 63 = some (.ireturn, 1, 0, 0) := rfl
theorem xf_185_0 : xcode 185 0 = some (.iload_n 1, 1, 0, 0) := rfl
theorem xf_185_1 : xcode 185 1 = some (.iconst 0, 1, 0, 0) := rfl
theorem xf_185_2 : xcode 185 2 = some (.iconst 2, 1, 0, 0) := rfl
theorem xf_185_3 : xcode 185 3 = some (.invokestatic 175, 3, 133, 0) := rfl
theorem xf_185_6 : xcode 185 6 = some (.ifCond .ne 9, 3, 15, 0) := rfl
theorem xf_185_9 : xcode 185 9 = some (.aload_n 0, 1, 0, 0) := rfl
theorem xf_185_10 : xcode 185 10 = some (.iconst 1, 1, 0, 0) := rfl
theorem xf_185_11 : xcode 185 11 = some (.invokevirtual 179, 3, 131, 0) := rfl
theorem xf_185_14 : xcode 185 14 = some (.ireturn, 1, 0, 0) := rfl
theorem xf_185_15 : xcode 185 15 = some (.aload_n 0, 1, 0, 0) := rfl
theorem xf_185_16 : xcode 185 16 = some (.iconst 0, 1, 0, 0) := rfl
theorem xf_185_17 : xcode 185 17 = some (.putfield 93, 3, 11, 0) := rfl
theorem xf_185_20 : xcode 185 20 = some (.iload_n 1, 1, 0, 0) := rfl
theorem xf_185_21 : xcode 185 21 = some (.ifCond .ne 15, 3, 36, 0) := rfl
theorem xf_185_24 : xcode 185 24 = some (.aload_n 0, 1, 0, 0) := rfl
theorem xf_185_25 : xcode 185 25 = some (.getfield 146, 3, 11, 19) := rfl
theorem xf_185_28 : xcode 185 28 = some (.aload_n 0, 1, 0, 0) := rfl
theorem xf_185_29 : xcode 185 29 = some (.getfield 149, 3, 11, 20) := rfl
theorem xf_185_32 : xcode 185 32 = some (.iadd, 1, 0, 0) := rfl
theorem xf_185_33 : xcode 185 33 = some (.goto 19, 3, 52, 0) := rfl
theorem xf_185_36 : xcode 185 36 = some (.iload_n 1, 1, 0, 0) := rfl
theorem xf_185_37 : xcode 185 37 = some (.iconst 1, 1, 0, 0) := rfl
theorem xf_185_38 : xcode 185 38 = some (.if_icmp .ne 10, 3, 48, 0) := rfl
theorem xf_185_41 : xcode 185 41 = some (.aload_n 0, 1, 0, 0) := rfl
theorem xf_185_42 : xcode 185 42 = some (.getfield 146, 3, 11, 19) := rfl
theorem xf_185_45 : xcode 185 45 = some (.goto 7, 3, 52, 0) := rfl
theorem xf_185_48 : xcode 185 48 = some (.aload_n 0, 1, 0, 0) := rfl
theorem xf_185_49 : xcode 185 49 = some (.getfield 149, 3, 11, 20) := rfl
theorem xf_185_52 : xcode 185 52 = some (.ireturn, 1, 0, 0) := rfl
theorem xf_186_0 : xcode 186 0 = some (.aload_n 0, 1, 0, 0) := rfl
theorem xf_186_1 : xcode 186 1 = some (.getfield 146, 3, 11, 19) := rfl
theorem xf_186_4 : xcode 186 4 = some (.aload_n 0, 1, 0, 0) := rfl
theorem xf_186_5 : xcode 186 5 = some (.getfield 149, 3, 11, 20) := rfl
theorem xf_186_8 : xcode 186 8 = some (.iadd, 1, 0, 0) := rfl
theorem xf_186_9 : xcode 186 9 = some (.bipush 8, 2, 0, 0) := rfl
theorem xf_186_11 : xcode 186 11 = some (.if_icmp .gt 7, 3, 18, 0) := rfl
theorem xf_186_14 : xcode 186 14 = some (.iconst 1, 1, 0, 0) := rfl
theorem xf_186_15 : xcode 186 15 = some (.goto 4, 3, 19, 0) := rfl
theorem xf_186_18 : xcode 186 18 = some (.iconst 0, 1, 0, 0) := rfl
theorem xf_186_19 : xcode 186 19 = some (.ireturn, 1, 0, 0) := rfl
theorem xf_187_0 : xcode 187 0 = some (.aload_n 0, 1, 0, 0) := rfl
theorem xf_187_1 : xcode 187 1 = some (.invokevirtual 259, 3, 186, 0) := rfl
theorem xf_187_4 : xcode 187 4 = some (.ifCond .eq 22, 3, 26, 0) := rfl
theorem xf_187_7 : xcode 187 7 = some (.iload_n 1, 1, 0, 0) := rfl
theorem xf_187_8 : xcode 187 8 = some (.iconst 0, 1, 0, 0) := rfl
theorem xf_187_9 : xcode 187 9 = some (.aload_n 0, 1, 0, 0) := rfl
theorem xf_187_10 : xcode 187 10 = some (.getfield 146, 3, 11, 19) := rfl
theorem xf_187_13 : xcode 187 13 = some (.aload_n 0, 1, 0, 0) := rfl
theorem xf_187_14 : xcode 187 14 = some (.getfield 149, 3, 11, 20) := rfl
theorem xf_187_17 : xcode 187 17 = some (.iadd, 1, 0, 0) := rfl
theorem xf_187_18 : xcode 187 18 = some (.iconst 1, 1, 0, 0) := rfl
theorem xf_187_19 : xcode 187 19 = some (.isub, 1, 0, 0) := rfl
theorem xf_187_20 : xcode 187 20 = some (.invokestatic 175, 3, 133, 0) := rfl
theorem xf_187_23 : xcode 187 23 = some (.ifCond .ne 9, 3, 32, 0) := rfl
theorem xf_187_26 : xcode 187 26 = some (.aload_n 0, 1, 0, 0) := rfl
theorem xf_187_27 : xcode 187 27 = some (.iconst 1, 1, 0, 0) := rfl
theorem xf_187_28 : xcode 187 28 = some (.invokevirtual 179, 3, 131, 0) := rfl
theorem xf_187_31 : xcode 187 31 = some (.ireturn, 1, 0, 0) := rfl
theorem xf_187_32 : xcode 187 32 = some (.aload_n 0, 1, 0, 0) := rfl
theorem xf_187_33 : xcode 187 33 = some (.iconst 0, 1, 0, 0) := rfl
theorem xf_187_34 : xcode 187 34 = some (.putfield 93, 3, 11, 0) := rfl
theorem xf_187_37 : xcode 187 37 = some (.aload_n 0, 1, 0, 0) := rfl
theorem xf_187_38 : xcode 187 38 = some (.getfield 42, 3, 11, 16) := rfl
theorem xf_187_41 : xcode 187 41 = some (.iload_n 1, 1, 0, 0) := rfl
theorem xf_187_42 : xcode 187 42 = some (.iaload, 1, 0, 0) := rfl
theorem xf_187_43 : xcode 187 43 = some (.ireturn, 1, 0, 0) := rfl
theorem xf_188_0 : xcode 188 0 = some (.aload_n 0, 1, 0, 0) := rfl
theorem xf_188_1 : xcode 188 1 = some (.getfield 42, 3, 11, 16) := rfl
theorem xf_188_4 : xcode 188 4 = some (.iload_n 1, 1, 0, 0) := rfl
theorem xf_188_5 : xcode 188 5 = some (.iaload, 1, 0, 0) := rfl
theorem xf_188_6 : xcode 188 6 = some (.bipush 10, 2, 0, 0) := rfl
theorem xf_188_8 : xcode 188 8 = some (.if_icmp .ge 24, 3, 32, 0) := rfl
theorem xf_188_11 : xcode 188 11 = some (.aload_n 0, 1, 0, 0) := rfl
theorem xf_188_12 : xcode 188 12 = some (.aload_n 0, 1, 0, 0) := rfl
theorem xf_188_13 : xcode 188 13 = some (.getfield 45, 3, 11, 17) := rfl
theorem xf_188_16 : xcode 188 16 = some (.iconst 4, 1, 0, 0) := rfl
theorem xf_188_17 : xcode 188 17 = some (.iload_n 1, 1, 0, 0) := rfl
theorem xf_188_18 : xcode 188 18 = some (.imul, 1, 0, 0) := rfl
theorem xf_188_19 : xcode 188 19 = some (.iload_n 2, 1, 0, 0) := rfl
theorem xf_188_20 : xcode 188 20 = some (.iload_n 3, 1, 0, 0) := rfl
theorem xf_188_21 : xcode 188 21 = some (.aload_n 0, 1, 0, 0) := rfl
theorem xf_188_22 : xcode 188 22 = some (.getfield 42, 3, 11, 16) := rfl
theorem xf_188_25 : xcode 188 25 = some (.iload_n 1, 1, 0, 0) := rfl
theorem xf_188_26 : xcode 188 26 = some (.iaload, 1, 0, 0) := rfl
theorem xf_188_27 : xcode 188 27 = some (.invokevirtual 135, 3, 143, 0) := rfl
theorem xf_188_30 : xcode 188 30 = some (.i2l, 1, 0, 0) := rfl
theorem xf_188_31 : xcode 188 31 = some (.lreturn, 1, 0, 0) := rfl
theorem xf_188_32 : xcode 188 32 = some (.iload_n 2, 1, 0, 0) := rfl
theorem xf_188_33 : xcode 188 33 = some (.iload_n 3, 1, 0, 0) := rfl
theorem xf_188_34 : xcode 188 34 = some (.if_icmp .ne 18, 3, 52, 0) := rfl
theorem xf_188_37 : xcode 188 37 = some (.aload_n 0, 1, 0, 0) := rfl
theorem xf_188_38 : xcode 188 38 = some (.getfield 48, 3, 11, 18) := rfl
theorem xf_188_41 : xcode 188 41 = some (.bipush 36, 2, 0, 0) := rfl
theorem xf_188_43 : xcode 188 43 = some (.iload_n 1, 1, 0, 0) := rfl
theorem xf_188_44 : xcode 188 44 = some (.imul, 1, 0, 0) := rfl
theorem xf_188_45 : xcode 188 45 = some (.iload_n 2, 1, 0, 0) := rfl
theorem xf_188_46 : xcode 188 46 = some (.iadd, 1, 0, 0) := rfl
theorem xf_188_47 : xcode 188 47 = some (.iaload, 1, 0, 0) := rfl
theorem xf_188_48 : xcode 188 48 = some (.i2l, 1, 0, 0) := rfl
theorem xf_188_49 : xcode 188 49 = some (.goto 4, 3, 53, 0) := rfl
theorem xf_188_52 : xcode 188 52 = some (.lconst 0, 1, 0, 0) := rfl
theorem xf_188_53 : xcode 188 53 = some (.lreturn, 1, 0, 0) := rfl
theorem xf_189_0 : xcode 189 0 = some (.iconst 0, 1, 0, 0) := rfl
theorem xf_189_1 : xcode 189 1 = some (.istore_n 1, 1, 0, 0) := rfl
theorem xf_189_2 : xcode 189 2 = some (.iload_n 1, 1, 0, 0) := rfl
theorem xf_189_3 : xcode 189 3 = some (.bipush 36, 2, 0, 0) := rfl
theorem xf_189_5 : xcode 189 5 = some (.if_icmp .ge 51, 3, 56, 0) := rfl
theorem xf_189_8 : xcode 189 8 = some (.aload_n 0, 1, 0, 0) := rfl
theorem xf_189_9 : xcode 189 9 = some (.getfield 69, 3, 11, 32) := rfl
theorem xf_189_12 : xcode 189 12 = some (.iload_n 1, 1, 0, 0) := rfl
theorem xf_189_13 : xcode 189 13 = some (.iload_n 1, 1, 0, 0) := rfl
theorem xf_189_14 : xcode 189 14 = some (.aload_n 0, 1, 0, 0) := rfl
theorem xf_189_15 : xcode 189 15 = some (.invokevirtual 96, 3, 134, 0) := rfl
theorem xf_189_18 : xcode 189 18 = some (.if_icmp .ge 30, 3, 48, 0) := rfl
theorem xf_189_21 : xcode 189 21 = some (.aload_n 0, 1, 0, 0) := rfl
theorem xf_189_22 : xcode 189 22 = some (.iload_n 1, 1, 0, 0) := rfl
theorem xf_189_23 : xcode 189 23 = some (.invokevirtual 100, 3, 136, 0) := rfl
theorem xf_189_26 : xcode 189 26 = some (.ifCond .eq 22, 3, 48, 0) := rfl
theorem xf_189_29 : xcode 189 29 = some (.aload_n 0, 1, 0, 0) := rfl
theorem xf_189_30 : xcode 189 30 = some (.getfield 51, 3, 11, 21) := rfl
theorem xf_189_33 : xcode 189 33 = some (.ifCond .lt 11, 3, 44, 0) := rfl
theorem xf_189_36 : xcode 189 36 = some (.aload_n 0, 1, 0, 0) := rfl
theorem xf_189_37 : xcode 189 37 = some (.getfield 51, 3, 11, 21) := rfl
theorem xf_189_40 : xcode 189 40 = some (.iload_n 1, 1, 0, 0) := rfl
theorem xf_189_41 : xcode 189 41 = some (.if_icmp .ne 7, 3, 48, 0) := rfl
theorem xf_189_44 : xcode 189 44 = some (.lconst 1, 1, 0, 0) := rfl
theorem xf_189_45 : xcode 189 45 = some (.goto 4, 3, 49, 0) := rfl
theorem xf_189_48 : xcode 189 48 = some (.lconst 0, 1, 0, 0) := rfl
theorem xf_189_49 : xcode 189 49 = some (.lastore, 1, 0, 0) := rfl
theorem xf_189_50 : xcode 189 50 = some (.iinc 1 1, 3, 0, 0) := rfl
theorem xf_189_53 : xcode 189 53 = some (.goto (-51), 3, 2, 0) := rfl
theorem xf_189_56 : xcode 189 56 = some (.iconst 0, 1, 0, 0) := rfl
theorem xf_189_57 : xcode 189 57 = some (.istore_n 1, 1, 0, 0) := rfl
theorem xf_189_58 : xcode 189 58 = some (.iload_n 1, 1, 0, 0) := rfl
theorem xf_189_59 : xcode 189 59 = some (.aload_n 0, 1, 0, 0) := rfl
theorem xf_189_60 : xcode 189 60 = some (.getfield 146, 3, 11, 19) := rfl
theorem xf_189_63 : xcode 189 63 = some (.aload_n 0, 1, 0, 0) := rfl
theorem xf_189_64 : xcode 189 64 = some (.getfield 149, 3, 11, 20) := rfl
theorem xf_189_67 : xcode 189 67 = some (.iadd, 1, 0, 0) := rfl
theorem xf_189_68 : xcode 189 68 = some (.if_icmp .ge 130, 3, 198, 0) := rfl
theorem xf_189_71 : xcode 189 71 = some (.iconst 0, 1, 0, 0) := rfl
theorem xf_189_72 : xcode 189 72 = some (.istore_n 2, 1, 0, 0) := rfl
theorem xf_189_73 : xcode 189 73 = some (.iload_n 2, 1, 0, 0) := rfl
theorem xf_189_74 : xcode 189 74 = some (.aload_n 0, 1, 0, 0) := rfl
theorem xf_189_75 : xcode 189 75 = some (.invokevirtual 96, 3, 134, 0) := rfl
theorem xf_189_78 : xcode 189 78 = some (.if_icmp .ge 86, 3, 164, 0) := rfl
theorem xf_189_81 : xcode 189 81 = some (.aload_n 0, 1, 0, 0) := rfl
theorem xf_189_82 : xcode 189 82 = some (.getfield 72, 3, 11, 33) := rfl
theorem xf_189_85 : xcode 189 85 = some (.iload_n 2, 1, 0, 0) := rfl
theorem xf_189_86 : xcode 189 86 = some (.lconst 0, 1, 0, 0) := rfl
theorem xf_189_87 : xcode 189 87 = some (.lastore, 1, 0, 0) := rfl
theorem xf_189_88 : xcode 189 88 = some (.iconst 0, 1, 0, 0) := rfl
theorem xf_189_89 : xcode 189 89 = some (.istore_n 3, 1, 0, 0) := rfl
theorem xf_189_90 : xcode 189 90 = some (.iload_n 3, 1, 0, 0) := rfl
theorem xf_189_91 : xcode 189 91 = some (.aload_n 0, 1, 0, 0) := rfl
theorem xf_189_92 : xcode 189 92 = some (.invokevirtual 96, 3, 134, 0) := rfl
theorem xf_189_95 : xcode 189 95 = some (.if_icmp .ge 63, 3, 158, 0) := rfl
theorem xf_189_98 : xcode 189 98 = some (.aload_n 0, 1, 0, 0) := rfl
theorem xf_189_99 : xcode 189 99 = some (.getfield 72, 3, 11, 33) := rfl
theorem xf_189_102 : xcode 189 102 = some (.iload_n 2, 1, 0, 0) := rfl
theorem xf_189_103 : xcode 189 103 = some (.dup2, 1, 0, 0) := rfl
theorem xf_189_104 : xcode 189 104 = some (.laload, 1, 0, 0) := rfl
theorem xf_189_105 : xcode 189 105 = some (.aload_n 0, 1, 0, 0) := rfl
theorem xf_189_106 : xcode 189 106 = some (.iload_n 3, 1, 0, 0) := rfl
theorem xf_189_107 : xcode 189 107 = some (.invokevirtual 100, 3, 136, 0) := rfl
theorem xf_189_110 : xcode 189 110 = some (.ifCond .eq 39, 3, 149, 0) := rfl
theorem xf_189_113 : xcode 189 113 = some (.aload_n 0, 1, 0, 0) := rfl
theorem xf_189_114 : xcode 189 114 = some (.iload_n 2, 1, 0, 0) := rfl
theorem xf_189_115 : xcode 189 115 = some (.invokevirtual 100, 3, 136, 0) := rfl
theorem xf_189_118 : xcode 189 118 = some (.ifCond .eq 31, 3, 149, 0) := rfl
theorem xf_189_121 : xcode 189 121 = some (.aload_n 0, 1, 0, 0) := rfl
theorem xf_189_122 : xcode 189 122 = some (.getfield 69, 3, 11, 32) := rfl
theorem xf_189_125 : xcode 189 125 = some (.iload_n 3, 1, 0, 0) := rfl
theorem xf_189_126 : xcode 189 126 = some (.laload, 1, 0, 0) := rfl
theorem xf_189_127 : xcode 189 127 = some (.lconst 0, 1, 0, 0) := rfl
theorem xf_189_128 : xcode 189 128 = some (.lcmp, 1, 0, 0) := rfl
theorem xf_189_129 : xcode 189 129 = some (.ifCond .le 20, 3, 149, 0) := rfl
theorem xf_189_132 : xcode 189 132 = some (.aload_n 0, 1, 0, 0) := rfl
theorem xf_189_133 : xcode 189 133 = some (.getfield 69, 3, 11, 32) := rfl
theorem xf_189_136 : xcode 189 136 = some (.iload_n 3, 1, 0, 0) := rfl
theorem xf_189_137 : xcode 189 137 = some (.laload, 1, 0, 0) := rfl
theorem xf_189_138 : xcode 189 138 = some (.aload_n 0, 1, 0, 0) := rfl
theorem xf_189_139 : xcode 189 139 = some (.iload_n 1, 1, 0, 0) := rfl
theorem xf_189_140 : xcode 189 140 = some (.iload_n 3, 1, 0, 0) := rfl
theorem xf_189_141 : xcode 189 141 = some (.iload_n 2, 1, 0, 0) := rfl
theorem xf_189_142 : xcode 189 142 = some (.invokevirtual 262, 3, 188, 0) := rfl
theorem xf_189_145 : xcode 189 145 = some (.lmul, 1, 0, 0) := rfl
theorem xf_189_146 : xcode 189 146 = some (.goto 4, 3, 150, 0) := rfl
theorem xf_189_149 : xcode 189 149 = some (.lconst 0, 1, 0, 0) := rfl
theorem xf_189_150 : xcode 189 150 = some (.ladd, 1, 0, 0) := rfl
theorem xf_189_151 : xcode 189 151 = some (.lastore, 1, 0, 0) := rfl
theorem xf_189_152 : xcode 189 152 = some (.iinc 3 1, 3, 0, 0) := rfl
theorem xf_189_155 : xcode 189 155 = some (.goto (-65), 3, 90, 0) := rfl
theorem xf_189_158 : xcode 189 158 = some (.iinc 2 1, 3, 0, 0) := rfl
theorem xf_189_161 : xcode 189 161 = some (.goto (-88), 3, 73, 0) := rfl
theorem xf_189_164 : xcode 189 164 = some (.iconst 0, 1, 0, 0) := rfl
theorem xf_189_165 : xcode 189 165 = some (.istore_n 2, 1, 0, 0) := rfl
theorem xf_189_166 : xcode 189 166 = some (.iload_n 2, 1, 0, 0) := rfl
theorem xf_189_167 : xcode 189 167 = some (.aload_n 0, 1, 0, 0) := rfl
theorem xf_189_168 : xcode 189 168 = some (.invokevirtual 96, 3, 134, 0) := rfl
theorem xf_189_171 : xcode 189 171 = some (.if_icmp .ge 21, 3, 192, 0) := rfl
theorem xf_189_174 : xcode 189 174 = some (.aload_n 0, 1, 0, 0) := rfl
theorem xf_189_175 : xcode 189 175 = some (.getfield 69, 3, 11, 32) := rfl
theorem xf_189_178 : xcode 189 178 = some (.iload_n 2, 1, 0, 0) := rfl
theorem xf_189_179 : xcode 189 179 = some (.aload_n 0, 1, 0, 0) := rfl
theorem xf_189_180 : xcode 189 180 = some (.getfield 72, 3, 11, 33) := rfl
theorem xf_189_183 : xcode 189 183 = some (.iload_n 2, 1, 0, 0) := rfl
theorem xf_189_184 : xcode 189 184 = some (.laload, 1, 0, 0) := rfl
theorem xf_189_185 : xcode 189 185 = some (.lastore, 1, 0, 0) := rfl
theorem xf_189_186 : xcode 189 186 = some (.iinc 2 1, 3, 0, 0) := rfl
theorem xf_189_189 : xcode 189 189 = some (.goto (-23), 3, 166, 0) := rfl
theorem xf_189_192 : xcode 189 192 = some (.iinc 1 1, 3, 0, 0) := rfl
theorem xf_189_195 : xcode 189 195 = some (.goto (-137), 3, 58, 0) := rfl
theorem xf_189_198 : xcode 189 198 = some (.return_, 1, 0, 0) := rfl
theorem xf_190_0 : xcode 190 0 = some (.aload_n 0, 1, 0, 0) := rfl
theorem xf_190_1 : xcode 190 1 = some (.iload_n 1, 1, 0, 0) := rfl
theorem xf_190_2 : xcode 190 2 = some (.invokevirtual 211, 3, 135, 0) := rfl
theorem xf_190_5 : xcode 190 5 = some (.ifCond .ne 10, 3, 15, 0) := rfl
theorem xf_190_8 : xcode 190 8 = some (.aload_n 0, 1, 0, 0) := rfl
theorem xf_190_9 : xcode 190 9 = some (.iconst 1, 1, 0, 0) := rfl
theorem xf_190_10 : xcode 190 10 = some (.invokevirtual 179, 3, 131, 0) := rfl
theorem xf_190_13 : xcode 190 13 = some (.i2l, 1, 0, 0) := rfl
theorem xf_190_14 : xcode 190 14 = some (.lreturn, 1, 0, 0) := rfl
theorem xf_190_15 : xcode 190 15 = some (.aload_n 0, 1, 0, 0) := rfl
theorem xf_190_16 : xcode 190 16 = some (.invokevirtual 259, 3, 186, 0) := rfl
theorem xf_190_19 : xcode 190 19 = some (.ifCond .ne 10, 3, 29, 0) := rfl
theorem xf_190_22 : xcode 190 22 = some (.aload_n 0, 1, 0, 0) := rfl
theorem xf_190_23 : xcode 190 23 = some (.iconst 2, 1, 0, 0) := rfl
theorem xf_190_24 : xcode 190 24 = some (.invokevirtual 179, 3, 131, 0) := rfl
theorem xf_190_27 : xcode 190 27 = some (.i2l, 1, 0, 0) := rfl
theorem xf_190_28 : xcode 190 28 = some (.lreturn, 1, 0, 0) := rfl
theorem xf_190_29 : xcode 190 29 = some (.aload_n 0, 1, 0, 0) := rfl
theorem xf_190_30 : xcode 190 30 = some (.iconst 0, 1, 0, 0) := rfl
theorem xf_190_31 : xcode 190 31 = some (.putfield 93, 3, 11, 0) := rfl
theorem xf_190_34 : xcode 190 34 = some (.aload_n 0, 1, 0, 0) := rfl
theorem xf_190_35 : xcode 190 35 = some (.invokevirtual 266, 3, 189, 0) := rfl
theorem xf_190_38 : xcode 190 38 = some (.aload_n 0, 1, 0, 0) := rfl
theorem xf_190_39 : xcode 190 39 = some (.getfield 69, 3, 11, 32) := rfl
theorem xf_190_42 : xcode 190 42 = some (.iload_n 1, 1, 0, 0) := rfl
theorem xf_190_43 : xcode 190 43 = some (.laload, 1, 0, 0) := rfl
theorem xf_190_44 : xcode 190 44 = some (.lreturn, 1, 0, 0) := rfl
theorem xf_191_0 : xcode 191 0 = some (.aload_n 0, 1, 0, 0) := rfl
theorem xf_191_1 : xcode 191 1 = some (.invokevirtual 259, 3, 186, 0) := rfl
theorem xf_191_4 : xcode 191 4 = some (.ifCond .ne 9, 3, 13, 0) := rfl
theorem xf_191_7 : xcode 191 7 = some (.aload_n 0, 1, 0, 0) := rfl
theorem xf_191_8 : xcode 191 8 = some (.iconst 1, 1, 0, 0) := rfl
theorem xf_191_9 : xcode 191 9 = some (.invokevirtual 179, 3, 131, 0) := rfl
theorem xf_191_12 : xcode 191 12 = some (.ireturn, 1, 0, 0) := rfl
theorem xf_191_13 : xcode 191 13 = some (.aload_n 0, 1, 0, 0) := rfl
theorem xf_191_14 : xcode 191 14 = some (.iconst 0, 1, 0, 0) := rfl
theorem xf_191_15 : xcode 191 15 = some (.putfield 93, 3, 11, 0) := rfl
theorem xf_191_18 : xcode 191 18 = some (.aload_n 0, 1, 0, 0) := rfl
theorem xf_191_19 : xcode 191 19 = some (.invokevirtual 266, 3, 189, 0) := rfl
theorem xf_191_22 : xcode 191 22 = some (.iconst 0, 1, 0, 0) := rfl
theorem xf_191_23 : xcode 191 23 = some (.istore_n 1, 1, 0, 0) := rfl
theorem xf_191_24 : xcode 191 24 = some (.iconst 1, 1, 0, 0) := rfl
theorem xf_191_25 : xcode 191 25 = some (.istore_n 2, 1, 0, 0) := rfl
theorem xf_191_26 : xcode 191 26 = some (.iload_n 2, 1, 0, 0) := rfl
theorem xf_191_27 : xcode 191 27 = some (.aload_n 0, 1, 0, 0) := rfl
theorem xf_191_28 : xcode 191 28 = some (.invokevirtual 96, 3, 134, 0) := rfl
theorem xf_191_31 : xcode 191 31 = some (.if_icmp .ge 31, 3, 62, 0) := rfl
theorem xf_191_34 : xcode 191 34 = some (.aload_n 0, 1, 0, 0) := rfl
theorem xf_191_35 : xcode 191 35 = some (.getfield 69, 3, 11, 32) := rfl
theorem xf_191_38 : xcode 191 38 = some (.iload_n 2, 1, 0, 0) := rfl
theorem xf_191_39 : xcode 191 39 = some (.laload, 1, 0, 0) := rfl
theorem xf_191_40 : xcode 191 40 = some (.aload_n 0, 1, 0, 0) := rfl
theorem xf_191_41 : xcode 191 41 = some (.getfield 69, 3, 11, 32) := rfl
theorem xf_191_44 : xcode 191 44 = some (.iload_n 1, 1, 0, 0) := rfl
theorem xf_191_45 : xcode 191 45 = some (.laload, 1, 0, 0) := rfl
theorem xf_191_46 : xcode 191 46 = some (.lcmp, 1, 0, 0) := rfl
theorem xf_191_47 : xcode 191 47 = some (.ifCond .le 7, 3, 54, 0) := rfl
theorem xf_191_50 : xcode 191 50 = some (.iload_n 2, 1, 0, 0) := rfl
theorem xf_191_51 : xcode 191 51 = some (.goto 4, 3, 55, 0) := rfl
theorem xf_191_54 : xcode 191 54 = some (.iload_n 1, 1, 0, 0) := rfl
theorem xf_191_55 : xcode 191 55 = some (.istore_n 1, 1, 0, 0) := rfl
theorem xf_191_56 : xcode 191 56 = some (.iinc 2 1, 3, 0, 0) := rfl
theorem xf_191_59 : xcode 191 59 = some (.goto (-33), 3, 26, 0) := rfl
theorem xf_191_62 : xcode 191 62 = some (.iload_n 1, 1, 0, 0) := rfl
theorem xf_191_63 : xcode 191 63 = some (.ireturn, 1, 0, 0) := rfl
theorem xf_192_0 : xcode 192 0 = some (.aload_n 0, 1, 0, 0) := rfl
theorem xf_192_1 : xcode 192 1 = some (.getfield 146, 3, 11, 19) := rfl
theorem xf_192_4 : xcode 192 4 = some (.aload_n 0, 1, 0, 0) := rfl
theorem xf_192_5 : xcode 192 5 = some (.getfield 149, 3, 11, 20) := rfl
theorem xf_192_8 : xcode 192 8 = some (.iadd, 1, 0, 0) := rfl
theorem xf_192_9 : xcode 192 9 = some (.istore_n 1, 1, 0, 0) := rfl
theorem xf_192_10 : xcode 192 10 = some (.iconst 0, 1, 0, 0) := rfl
theorem xf_192_11 : xcode 192 11 = some (.istore_n 2, 1, 0, 0) := rfl
theorem xf_192_12 : xcode 192 12 = some (.iload_n 2, 1, 0, 0) := rfl
theorem xf_192_13 : xcode 192 13 = some (.aload_n 0, 1, 0, 0) := rfl
theorem xf_192_14 : xcode 192 14 = some (.invokevirtual 96, 3, 134, 0) := rfl
theorem xf_192_17 : xcode 192 17 = some (.if_icmp .ge 21, 3, 38, 0) := rfl
theorem xf_192_20 : xcode 192 20 = some (.aload_n 0, 1, 0, 0) := rfl
theorem xf_192_21 : xcode 192 21 = some (.getfield 75, 3, 11, 34) := rfl
theorem xf_192_24 : xcode 192 24 = some (.bipush 36, 2, 0, 0) := rfl
theorem xf_192_26 : xcode 192 26 = some (.iload_n 1, 1, 0, 0) := rfl
theorem xf_192_27 : xcode 192 27 = some (.imul, 1, 0, 0) := rfl
theorem xf_192_28 : xcode 192 28 = some (.iload_n 2, 1, 0, 0) := rfl
theorem xf_192_29 : xcode 192 29 = some (.iadd, 1, 0, 0) := rfl
theorem xf_192_30 : xcode 192 30 = some (.lconst 1, 1, 0, 0) := rfl
theorem xf_192_31 : xcode 192 31 = some (.lastore, 1, 0, 0) := rfl
theorem xf_192_32 : xcode 192 32 = some (.iinc 2 1, 3, 0, 0) := rfl
theorem xf_192_35 : xcode 192 35 = some (.goto (-23), 3, 12, 0) := rfl
theorem xf_192_38 : xcode 192 38 = some (.iload_n 1, 1, 0, 0) := rfl
theorem xf_192_39 : xcode 192 39 = some (.iconst 1, 1, 0, 0) := rfl
theorem xf_192_40 : xcode 192 40 = some (.isub, 1, 0, 0) := rfl
theorem xf_192_41 : xcode 192 41 = some (.istore_n 2, 1, 0, 0) := rfl
theorem xf_192_42 : xcode 192 42 = some (.iload_n 2, 1, 0, 0) := rfl
theorem xf_192_43 : xcode 192 43 = some (.ifCond .lt 122, 3, 165, 0) := rfl
theorem xf_192_46 : xcode 192 46 = some (.iconst 0, 1, 0, 0) := rfl
theorem xf_192_47 : xcode 192 47 = some (.istore_n 3, 1, 0, 0) := rfl
theorem xf_192_48 : xcode 192 48 = some (.iload_n 3, 1, 0, 0) := rfl
theorem xf_192_49 : xcode 192 49 = some (.aload_n 0, 1, 0, 0) := rfl
theorem xf_192_50 : xcode 192 50 = some (.invokevirtual 96, 3, 134, 0) := rfl
theorem xf_192_53 : xcode 192 53 = some (.if_icmp .ge 106, 3, 159, 0) := rfl
theorem xf_192_56 : xcode 192 56 = some (.lconst 0, 1, 0, 0) := rfl
theorem xf_192_57 : xcode 192 57 = some (.lstore 4, 2, 0, 0) := rfl
theorem xf_192_59 : xcode 192 59 = some (.iconst 0, 1, 0, 0) := rfl
theorem xf_192_60 : xcode 192 60 = some (.istore 6, 2, 0, 0) := rfl
theorem xf_192_62 : xcode 192 62 = some (.iload 6, 2, 0, 0) := rfl
theorem xf_192_64 : xcode 192 64 = some (.aload_n 0, 1, 0, 0) := rfl
theorem xf_192_65 : xcode 192 65 = some (.invokevirtual 96, 3, 134, 0) := rfl
theorem xf_192_68 : xcode 192 68 = some (.if_icmp .ge 72, 3, 140, 0) := rfl
theorem xf_192_71 : xcode 192 71 = some (.aload_n 0, 1, 0, 0) := rfl
theorem xf_192_72 : xcode 192 72 = some (.iload_n 3, 1, 0, 0) := rfl
theorem xf_192_73 : xcode 192 73 = some (.invokevirtual 100, 3, 136, 0) := rfl
theorem xf_192_76 : xcode 192 76 = some (.ifCond .eq 64, 3, 140, 0) := rfl
theorem xf_192_79 : xcode 192 79 = some (.aload_n 0, 1, 0, 0) := rfl
theorem xf_192_80 : xcode 192 80 = some (.iload 6, 2, 0, 0) := rfl
theorem xf_192_82 : xcode 192 82 = some (.invokevirtual 100, 3, 136, 0) := rfl
theorem xf_192_85 : xcode 192 85 = some (.ifCond .eq 29, 3, 114, 0) := rfl
theorem xf_192_88 : xcode 192 88 = some (.aload_n 0, 1, 0, 0) := rfl
theorem xf_192_89 : xcode 192 89 = some (.iload_n 2, 1, 0, 0) := rfl
theorem xf_192_90 : xcode 192 90 = some (.iload_n 3, 1, 0, 0) := rfl
theorem xf_192_91 : xcode 192 91 = some (.iload 6, 2, 0, 0) := rfl
theorem xf_192_93 : xcode 192 93 = some (.invokevirtual 262, 3, 188, 0) := rfl
theorem xf_192_96 : xcode 192 96 = some (.aload_n 0, 1, 0, 0) := rfl
theorem xf_192_97 : xcode 192 97 = some (.getfield 75, 3, 11, 34) := rfl
theorem xf_192_100 : xcode 192 100 = some (.bipush 36, 2, 0, 0) := rfl
theorem xf_192_102 : xcode 192 102 = some (.iload_n 2, 1, 0, 0) := rfl
theorem xf_192_103 : xcode 192 103 = some (.iconst 1, 1, 0, 0) := rfl
theorem xf_192_104 : xcode 192 104 = some (.iadd, 1, 0, 0) := rfl
theorem xf_192_105 : xcode 192 105 = some (.imul, 1, 0, 0) := rfl
theorem xf_192_106 : xcode 192 106 = some (.iload 6, 2, 0, 0) := rfl
theorem xf_192_108 : xcode 192 108 = some (.iadd, 1, 0, 0) := rfl
theorem xf_192_109 : xcode 192 109 = some (.laload, 1, 0, 0) := rfl
theorem xf_192_110 : xcode 192 110 = some (.lmul, 1, 0, 0) := rfl
theorem xf_192_111 : xcode 192 111 = some (.goto 4, 3, 115, 0) := rfl
theorem xf_192_114 : xcode 192 114 = some (.lconst 0, 1, 0, 0) := rfl
theorem xf_192_115 : xcode 192 115 = some (.lstore 7, 2, 0, 0) := rfl
theorem xf_192_117 : xcode 192 117 = some (.lload 7, 2, 0, 0) := rfl
theorem xf_192_119 : xcode 192 119 = some (.lload 4, 2, 0, 0) := rfl
theorem xf_192_121 : xcode 192 121 = some (.lcmp, 1, 0, 0) := rfl
theorem xf_192_122 : xcode 192 122 = some (.ifCond .le 8, 3, 130, 0) := rfl
theorem xf_192_125 : xcode 192 125 = some (.lload 7, 2, 0, 0) := rfl
theorem xf_192_127 : xcode 192 127 = some (.goto 5, 3, 132, 0) := rfl
theorem xf_192_130 : xcode 192 130 = some (.lload 4, 2, 0, 0) := rfl
theorem xf_192_132 : xcode 192 132 = some (.lstore 4, 2, 0, 0) := rfl
theorem xf_192_134 : xcode 192 134 = some (.iinc 6 1, 3, 0, 0) := rfl
theorem xf_192_137 : xcode 192 137 = some (.goto (-75), 3, 62, 0) := rfl
theorem xf_192_140 : xcode 192 140 = some (.aload_n 0, 1, 0, 0) := rfl
theorem xf_192_141 : xcode 192 141 = some (.getfield 75, 3, 11, 34) := rfl
theorem xf_192_144 : xcode 192 144 = some (.bipush 36, 2, 0, 0) := rfl
theorem xf_192_146 : xcode 192 146 = some (.iload_n 2, 1, 0, 0) := rfl
theorem xf_192_147 : xcode 192 147 = some (.imul, 1, 0, 0) := rfl
theorem xf_192_148 : xcode 192 148 = some (.iload_n 3, 1, 0, 0) := rfl
theorem xf_192_149 : xcode 192 149 = some (.iadd, 1, 0, 0) := rfl
theorem xf_192_150 : xcode 192 150 = some (.lload 4, 2, 0, 0) := rfl
theorem xf_192_152 : xcode 192 152 = some (.lastore, 1, 0, 0) := rfl
theorem xf_192_153 : xcode 192 153 = some (.iinc 3 1, 3, 0, 0) := rfl
theorem xf_192_156 : xcode 192 156 = some (.goto (-108), 3, 48, 0) := rfl
theorem xf_192_159 : xcode 192 159 = some (.iinc 2 (-1), 3, 0, 0) := rfl
theorem xf_192_162 : xcode 192 162 = some (.goto (-120), 3, 42, 0) := rfl
theorem xf_192_165 : xcode 192 165 = some (.return_, 1, 0, 0) := rfl
theorem xf_193_0 : xcode 193 0 = some (.aload_n 0, 1, 0, 0) := rfl
theorem xf_193_1 : xcode 193 1 = some (.invokevirtual 269, 3, 192, 0) := rfl
theorem xf_193_4 : xcode 193 4 = some (.aload_n 0, 1, 0, 0) := rfl
theorem xf_193_5 : xcode 193 5 = some (.getfield 146, 3, 11, 19) := rfl
theorem xf_193_8 : xcode 193 8 = some (.aload_n 0, 1, 0, 0) := rfl
theorem xf_193_9 : xcode 193 9 = some (.getfield 149, 3, 11, 20) := rfl
theorem xf_193_12 : xcode 193 12 = some (.iadd, 1, 0, 0) := rfl
theorem xf_193_13 : xcode 193 13 = some (.istore_n 1, 1, 0, 0) := rfl
theorem xf_193_14 : xcode 193 14 = some (.aload_n 0, 1, 0, 0) := rfl
theorem xf_193_15 : xcode 193 15 = some (.getfield 51, 3, 11, 21) := rfl
theorem xf_193_18 : xcode 193 18 = some (.ifCond .ge 10, 3, 28, 0) := rfl
theorem xf_193_21 : xcode 193 21 = some (.aload_n 0, 1, 0, 0) := rfl
theorem xf_193_22 : xcode 193 22 = some (.invokevirtual 205, 3, 140, 0) := rfl
theorem xf_193_25 : xcode 193 25 = some (.goto 7, 3, 32, 0) := rfl
theorem xf_193_28 : xcode 193 28 = some (.aload_n 0, 1, 0, 0) := rfl
theorem xf_193_29 : xcode 193 29 = some (.getfield 51, 3, 11, 21) := rfl
theorem xf_193_32 : xcode 193 32 = some (.istore_n 2, 1, 0, 0) := rfl
theorem xf_193_33 : xcode 193 33 = some (.iconst 0, 1, 0, 0) := rfl
theorem xf_193_34 : xcode 193 34 = some (.istore_n 3, 1, 0, 0) := rfl
theorem xf_193_35 : xcode 193 35 = some (.iload_n 3, 1, 0, 0) := rfl
theorem xf_193_36 : xcode 193 36 = some (.aload_n 0, 1, 0, 0) := rfl
theorem xf_193_37 : xcode 193 37 = some (.invokevirtual 96, 3, 134, 0) := rfl
theorem xf_193_40 : xcode 193 40 = some (.if_icmp .ge 46, 3, 86, 0) := rfl
theorem xf_193_43 : xcode 193 43 = some (.aload_n 0, 1, 0, 0) := rfl
theorem xf_193_44 : xcode 193 44 = some (.getfield 51, 3, 11, 21) := rfl
theorem xf_193_47 : xcode 193 47 = some (.ifCond .ge 39, 3, 86, 0) := rfl
theorem xf_193_50 : xcode 193 50 = some (.aload_n 0, 1, 0, 0) := rfl
theorem xf_193_51 : xcode 193 51 = some (.iload_n 3, 1, 0, 0) := rfl
theorem xf_193_52 : xcode 193 52 = some (.invokevirtual 100, 3, 136, 0) := rfl
theorem xf_193_55 : xcode 193 55 = some (.ifCond .eq 23, 3, 78, 0) := rfl
theorem xf_193_58 : xcode 193 58 = some (.aload_n 0, 1, 0, 0) := rfl
theorem xf_193_59 : xcode 193 59 = some (.getfield 75, 3, 11, 34) := rfl
theorem xf_193_62 : xcode 193 62 = some (.iload_n 3, 1, 0, 0) := rfl
theorem xf_193_63 : xcode 193 63 = some (.laload, 1, 0, 0) := rfl
theorem xf_193_64 : xcode 193 64 = some (.aload_n 0, 1, 0, 0) := rfl
theorem xf_193_65 : xcode 193 65 = some (.getfield 75, 3, 11, 34) := rfl
theorem xf_193_68 : xcode 193 68 = some (.iload_n 2, 1, 0, 0) := rfl
theorem xf_193_69 : xcode 193 69 = some (.laload, 1, 0, 0) := rfl
theorem xf_193_70 : xcode 193 70 = some (.lcmp, 1, 0, 0) := rfl
theorem xf_193_71 : xcode 193 71 = some (.ifCond .le 7, 3, 78, 0) := rfl
theorem xf_193_74 : xcode 193 74 = some (.iload_n 3, 1, 0, 0) := rfl
theorem xf_193_75 : xcode 193 75 = some (.goto 4, 3, 79, 0) := rfl
theorem xf_193_78 : xcode 193 78 = some (.iload_n 2, 1, 0, 0) := rfl
theorem xf_193_79 : xcode 193 79 = some (.istore_n 2, 1, 0, 0) := rfl
theorem xf_193_80 : xcode 193 80 = some (.iinc 3 1, 3, 0, 0) := rfl
theorem xf_193_83 : xcode 193 83 = some (.goto (-48), 3, 35, 0) := rfl
theorem xf_193_86 : xcode 193 86 = some (.aload_n 0, 1, 0, 0) := rfl
theorem xf_193_87 : xcode 193 87 = some (.getfield 78, 3, 11, 35) := rfl
theorem xf_193_90 : xcode 193 90 = some (.iconst 0, 1, 0, 0) := rfl
theorem xf_193_91 : xcode 193 91 = some (.iload_n 2, 1, 0, 0) := rfl
theorem xf_193_92 : xcode 193 92 = some (.iastore, 1, 0, 0) := rfl
theorem xf_193_93 : xcode 193 93 = some (.iconst 0, 1, 0, 0) := rfl
theorem xf_193_94 : xcode 193 94 = some (.istore_n 3, 1, 0, 0) := rfl
theorem xf_193_95 : xcode 193 95 = some (.iload_n 3, 1, 0, 0) := rfl
theorem xf_193_96 : xcode 193 96 = some (.iload_n 1, 1, 0, 0) := rfl
theorem xf_193_97 : xcode 193 97 = some (.if_icmp .ge 85, 3, 182, 0) := rfl
theorem xf_193_100 : xcode 193 100 = some (.iconst 0, 1, 0, 0) := rfl
theorem xf_193_101 : xcode 193 101 = some (.istore 4, 2, 0, 0) := rfl
theorem xf_193_103 : xcode 193 103 = some (.aload_n 0, 1, 0, 0) := rfl
theorem xf_193_104 : xcode 193 104 = some (.iload 4, 2, 0, 0) := rfl
theorem xf_193_106 : xcode 193 106 = some (.invokevirtual 100, 3, 136, 0) := rfl
theorem xf_193_109 : xcode 193 109 = some (.ifCond .eq 51, 3, 160, 0) := rfl
theorem xf_193_112 : xcode 193 112 = some (.aload_n 0, 1, 0, 0) := rfl
theorem xf_193_113 : xcode 193 113 = some (.iload_n 3, 1, 0, 0) := rfl
theorem xf_193_114 : xcode 193 114 = some (.aload_n 0, 1, 0, 0) := rfl
theorem xf_193_115 : xcode 193 115 = some (.getfield 78, 3, 11, 35) := rfl
theorem xf_193_118 : xcode 193 118 = some (.iload_n 3, 1, 0, 0) := rfl
theorem xf_193_119 : xcode 193 119 = some (.iaload, 1, 0, 0) := rfl
theorem xf_193_120 : xcode 193 120 = some (.iload 4, 2, 0, 0) := rfl
theorem xf_193_122 : xcode 193 122 = some (.invokevirtual 262, 3, 188, 0) := rfl
theorem xf_193_125 : xcode 193 125 = some (.aload_n 0, 1, 0, 0) := rfl
theorem xf_193_126 : xcode 193 126 = some (.getfield 75, 3, 11, 34) := rfl
theorem xf_193_129 : xcode 193 129 = some (.bipush 36, 2, 0, 0) := rfl
theorem xf_193_131 : xcode 193 131 = some (.iload_n 3, 1, 0, 0) := rfl
theorem xf_193_132 : xcode 193 132 = some (.iconst 1, 1, 0, 0) := rfl
theorem xf_193_133 : xcode 193 133 = some (.iadd, 1, 0, 0) := rfl
theorem xf_193_134 : xcode 193 134 = some (.imul, 1, 0, 0) := rfl
theorem xf_193_135 : xcode 193 135 = some (.iload 4, 2, 0, 0) := rfl
theorem xf_193_137 : xcode 193 137 = some (.iadd, 1, 0, 0) := rfl
theorem xf_193_138 : xcode 193 138 = some (.laload, 1, 0, 0) := rfl
theorem xf_193_139 : xcode 193 139 = some (.lmul, 1, 0, 0) := rfl
theorem xf_193_140 : xcode 193 140 = some (.aload_n 0, 1, 0, 0) := rfl
theorem xf_193_141 : xcode 193 141 = some (.getfield 75, 3, 11, 34) := rfl
theorem xf_193_144 : xcode 193 144 = some (.bipush 36, 2, 0, 0) := rfl
theorem xf_193_146 : xcode 193 146 = some (.iload_n 3, 1, 0, 0) := rfl
theorem xf_193_147 : xcode 193 147 = some (.imul, 1, 0, 0) := rfl
theorem xf_193_148 : xcode 193 148 = some (.aload_n 0, 1, 0, 0) := rfl
theorem xf_193_149 : xcode 193 149 = some (.getfield 78, 3, 11, 35) := rfl
theorem xf_193_152 : xcode 193 152 = some (.iload_n 3, 1, 0, 0) := rfl
theorem xf_193_153 : xcode 193 153 = some (.iaload, 1, 0, 0) := rfl
theorem xf_193_154 : xcode 193 154 = some (.iadd, 1, 0, 0) := rfl
theorem xf_193_155 : xcode 193 155 = some (.laload, 1, 0, 0) := rfl
theorem xf_193_156 : xcode 193 156 = some (.lcmp, 1, 0, 0) := rfl
theorem xf_193_157 : xcode 193 157 = some (.ifCond .eq 9, 3, 166, 0) := rfl
theorem xf_193_160 : xcode 193 160 = some (.iinc 4 1, 3, 0, 0) := rfl
theorem xf_193_163 : xcode 193 163 = some (.goto (-60), 3, 103, 0) := rfl
theorem xf_193_166 : xcode 193 166 = some (.aload_n 0, 1, 0, 0) := rfl
theorem xf_193_167 : xcode 193 167 = some (.getfield 78, 3, 11, 35) := rfl
theorem xf_193_170 : xcode 193 170 = some (.iload_n 3, 1, 0, 0) := rfl
theorem xf_193_171 : xcode 193 171 = some (.iconst 1, 1, 0, 0) := rfl
theorem xf_193_172 : xcode 193 172 = some (.iadd, 1, 0, 0) := rfl
theorem xf_193_173 : xcode 193 173 = some (.iload 4, 2, 0, 0) := rfl
theorem xf_193_175 : xcode 193 175 = some (.iastore, 1, 0, 0) := rfl
theorem xf_193_176 : xcode 193 176 = some (.iinc 3 1, 3, 0, 0) := rfl
theorem xf_193_179 : xcode 193 179 = some (.goto (-84), 3, 95, 0) := rfl
theorem xf_193_182 : xcode 193 182 = some (.return_, 1, 0, 0) := rfl
theorem xf_194_0 : xcode 194 0 = some (.aload_n 0, 1, 0, 0) := rfl
theorem xf_194_1 : xcode 194 1 = some (.invokevirtual 259, 3, 186, 0) := rfl
theorem xf_194_4 : xcode 194 4 = some (.ifCond .ne 9, 3, 13, 0) := rfl
theorem xf_194_7 : xcode 194 7 = some (.aload_n 0, 1, 0, 0) := rfl
theorem xf_194_8 : xcode 194 8 = some (.iconst 1, 1, 0, 0) := rfl
theorem xf_194_9 : xcode 194 9 = some (.invokevirtual 179, 3, 131, 0) := rfl
theorem xf_194_12 : xcode 194 12 = some (.ireturn, 1, 0, 0) := rfl
theorem xf_194_13 : xcode 194 13 = some (.iload_n 1, 1, 0, 0) := rfl
theorem xf_194_14 : xcode 194 14 = some (.iconst 0, 1, 0, 0) := rfl
theorem xf_194_15 : xcode 194 15 = some (.aload_n 0, 1, 0, 0) := rfl
theorem xf_194_16 : xcode 194 16 = some (.getfield 146, 3, 11, 19) := rfl
theorem xf_194_19 : xcode 194 19 = some (.aload_n 0, 1, 0, 0) := rfl
theorem xf_194_20 : xcode 194 20 = some (.getfield 149, 3, 11, 20) := rfl
theorem xf_194_23 : xcode 194 23 = some (.iadd, 1, 0, 0) := rfl
theorem xf_194_24 : xcode 194 24 = some (.invokestatic 175, 3, 133, 0) := rfl
theorem xf_194_27 : xcode 194 27 = some (.ifCond .ne 9, 3, 36, 0) := rfl
theorem xf_194_30 : xcode 194 30 = some (.aload_n 0, 1, 0, 0) := rfl
theorem xf_194_31 : xcode 194 31 = some (.iconst 2, 1, 0, 0) := rfl
theorem xf_194_32 : xcode 194 32 = some (.invokevirtual 179, 3, 131, 0) := rfl
theorem xf_194_35 : xcode 194 35 = some (.ireturn, 1, 0, 0) := rfl
theorem xf_194_36 : xcode 194 36 = some (.aload_n 0, 1, 0, 0) := rfl
theorem xf_194_37 : xcode 194 37 = some (.iconst 0, 1, 0, 0) := rfl
theorem xf_194_38 : xcode 194 38 = some (.putfield 93, 3, 11, 0) := rfl
theorem xf_194_41 : xcode 194 41 = some (.aload_n 0, 1, 0, 0) := rfl
theorem xf_194_42 : xcode 194 42 = some (.invokevirtual 272, 3, 193, 0) := rfl
theorem xf_194_45 : xcode 194 45 = some (.aload_n 0, 1, 0, 0) := rfl
theorem xf_194_46 : xcode 194 46 = some (.getfield 78, 3, 11, 35) := rfl
theorem xf_194_49 : xcode 194 49 = some (.iload_n 1, 1, 0, 0) := rfl
theorem xf_194_50 : xcode 194 50 = some (.iaload, 1, 0, 0) := rfl
theorem xf_194_51 : xcode 194 51 = some (.ireturn, 1, 0, 0) := rfl
theorem xf_195_0 : xcode 195 0 = some (.aload_n 0, 1, 0, 0) := rfl
theorem xf_195_1 : xcode 195 1 = some (.invokevirtual 259, 3, 186, 0) := rfl
theorem xf_195_4 : xcode 195 4 = some (.ifCond .ne 10, 3, 14, 0) := rfl
theorem xf_195_7 : xcode 195 7 = some (.aload_n 0, 1, 0, 0) := rfl
theorem xf_195_8 : xcode 195 8 = some (.iconst 1, 1, 0, 0) := rfl
theorem xf_195_9 : xcode 195 9 = some (.invokevirtual 179, 3, 131, 0) := rfl
theorem xf_195_12 : xcode 195 12 = some (.i2l, 1, 0, 0) := rfl
theorem xf_195_13 : xcode 195 13 = some (.lreturn, 1, 0, 0) := rfl
theorem xf_195_14 : xcode 195 14 = some (.aload_n 0, 1, 0, 0) := rfl
theorem xf_195_15 : xcode 195 15 = some (.iconst 0, 1, 0, 0) := rfl
theorem xf_195_16 : xcode 195 16 = some (.putfield 93, 3, 11, 0) := rfl
theorem xf_195_19 : xcode 195 19 = some (.aload_n 0, 1, 0, 0) := rfl
theorem xf_195_20 : xcode 195 20 = some (.invokevirtual 272, 3, 193, 0) := rfl
theorem xf_195_23 : xcode 195 23 = some (.aload_n 0, 1, 0, 0) := rfl
theorem xf_195_24 : xcode 195 24 = some (.getfield 75, 3, 11, 34) := rfl
theorem xf_195_27 : xcode 195 27 = some (.aload_n 0, 1, 0, 0) := rfl
theorem xf_195_28 : xcode 195 28 = some (.getfield 78, 3, 11, 35) := rfl
theorem xf_195_31 : xcode 195 31 = some (.iconst 0, 1, 0, 0) := rfl
theorem xf_195_32 : xcode 195 32 = some (.iaload, 1, 0, 0) := rfl
theorem xf_195_33 : xcode 195 33 = some (.laload, 1, 0, 0) := rfl
theorem xf_195_34 : xcode 195 34 = some (.lreturn, 1, 0, 0) := rfl
theorem xf_196_0 : xcode 196 0 = some (.iconst 0, 1, 0, 0) := rfl
theorem xf_196_1 : xcode 196 1 = some (.istore_n 2, 1, 0, 0) := rfl
theorem xf_196_2 : xcode 196 2 = some (.iload_n 2, 1, 0, 0) := rfl
theorem xf_196_3 : xcode 196 3 = some (.aload_n 0, 1, 0, 0) := rfl
theorem xf_196_4 : xcode 196 4 = some (.invokevirtual 96, 3, 134, 0) := rfl
theorem xf_196_7 : xcode 196 7 = some (.if_icmp .ge 25, 3, 32, 0) := rfl
theorem xf_196_10 : xcode 196 10 = some (.aload_n 0, 1, 0, 0) := rfl
theorem xf_196_11 : xcode 196 11 = some (.getfield 81, 3, 11, 36) := rfl
theorem xf_196_14 : xcode 196 14 = some (.iload_n 2, 1, 0, 0) := rfl
theorem xf_196_15 : xcode 196 15 = some (.iload_n 2, 1, 0, 0) := rfl
theorem xf_196_16 : xcode 196 16 = some (.iload_n 1, 1, 0, 0) := rfl
theorem xf_196_17 : xcode 196 17 = some (.if_icmp .ne 7, 3, 24, 0) := rfl
theorem xf_196_20 : xcode 196 20 = some (.iconst 0, 1, 0, 0) := rfl
theorem xf_196_21 : xcode 196 21 = some (.goto 4, 3, 25, 0) := rfl
theorem xf_196_24 : xcode 196 24 = some (.iconst (-1), 1, 0, 0) := rfl
theorem xf_196_25 : xcode 196 25 = some (.iastore, 1, 0, 0) := rfl
theorem xf_196_26 : xcode 196 26 = some (.iinc 2 1, 3, 0, 0) := rfl
theorem xf_196_29 : xcode 196 29 = some (.goto (-27), 3, 2, 0) := rfl
theorem xf_196_32 : xcode 196 32 = some (.iconst 1, 1, 0, 0) := rfl
theorem xf_196_33 : xcode 196 33 = some (.istore_n 2, 1, 0, 0) := rfl
theorem xf_196_34 : xcode 196 34 = some (.iload_n 2, 1, 0, 0) := rfl
theorem xf_196_35 : xcode 196 35 = some (.ifCond .eq 131, 3, 166, 0) := rfl
theorem xf_196_38 : xcode 196 38 = some (.iconst 0, 1, 0, 0) := rfl
theorem xf_196_39 : xcode 196 39 = some (.istore_n 2, 1, 0, 0) := rfl
theorem xf_196_40 : xcode 196 40 = some (.iconst 0, 1, 0, 0) := rfl
theorem xf_196_41 : xcode 196 41 = some (.istore_n 3, 1, 0, 0) := rfl
theorem xf_196_42 : xcode 196 42 = some (.iload_n 3, 1, 0, 0) := rfl
theorem xf_196_43 : xcode 196 43 = some (.aload_n 0, 1, 0, 0) := rfl
theorem xf_196_44 : xcode 196 44 = some (.invokevirtual 96, 3, 134, 0) := rfl
theorem xf_196_47 : xcode 196 47 = some (.if_icmp .ge 116, 3, 163, 0) := rfl
theorem xf_196_50 : xcode 196 50 = some (.iconst 0, 1, 0, 0) := rfl
theorem xf_196_51 : xcode 196 51 = some (.istore 4, 2, 0, 0) := rfl
theorem xf_196_53 : xcode 196 53 = some (.iload 4, 2, 0, 0) := rfl
theorem xf_196_55 : xcode 196 55 = some (.iconst 4, 1, 0, 0) := rfl
theorem xf_196_56 : xcode 196 56 = some (.if_icmp .ge 101, 3, 157, 0) := rfl
theorem xf_196_59 : xcode 196 59 = some (.aload_n 0, 1, 0, 0) := rfl
theorem xf_196_60 : xcode 196 60 = some (.iload_n 3, 1, 0, 0) := rfl
theorem xf_196_61 : xcode 196 61 = some (.invokevirtual 100, 3, 136, 0) := rfl
theorem xf_196_64 : xcode 196 64 = some (.ifCond .eq 93, 3, 157, 0) := rfl
theorem xf_196_67 : xcode 196 67 = some (.aload_n 0, 1, 0, 0) := rfl
theorem xf_196_68 : xcode 196 68 = some (.iload_n 3, 1, 0, 0) := rfl
theorem xf_196_69 : xcode 196 69 = some (.iload 4, 2, 0, 0) := rfl
theorem xf_196_71 : xcode 196 71 = some (.invokevirtual 104, 3, 141, 0) := rfl
theorem xf_196_74 : xcode 196 74 = some (.istore 5, 2, 0, 0) := rfl
theorem xf_196_76 : xcode 196 76 = some (.iload 5, 2, 0, 0) := rfl
theorem xf_196_78 : xcode 196 78 = some (.iload_n 3, 1, 0, 0) := rfl
theorem xf_196_79 : xcode 196 79 = some (.if_icmp .eq 72, 3, 151, 0) := rfl
theorem xf_196_82 : xcode 196 82 = some (.aload_n 0, 1, 0, 0) := rfl
theorem xf_196_83 : xcode 196 83 = some (.getfield 81, 3, 11, 36) := rfl
theorem xf_196_86 : xcode 196 86 = some (.iload 5, 2, 0, 0) := rfl
theorem xf_196_88 : xcode 196 88 = some (.iaload, 1, 0, 0) := rfl
theorem xf_196_89 : xcode 196 89 = some (.ifCond .lt 62, 3, 151, 0) := rfl
theorem xf_196_92 : xcode 196 92 = some (.aload_n 0, 1, 0, 0) := rfl
theorem xf_196_93 : xcode 196 93 = some (.getfield 81, 3, 11, 36) := rfl
theorem xf_196_96 : xcode 196 96 = some (.iload_n 3, 1, 0, 0) := rfl
theorem xf_196_97 : xcode 196 97 = some (.iaload, 1, 0, 0) := rfl
theorem xf_196_98 : xcode 196 98 = some (.ifCond .lt 30, 3, 128, 0) := rfl
theorem xf_196_101 : xcode 196 101 = some (.aload_n 0, 1, 0, 0) := rfl
theorem xf_196_102 : xcode 196 102 = some (.getfield 81, 3, 11, 36) := rfl
theorem xf_196_105 : xcode 196 105 = some (.iload_n 3, 1, 0, 0) := rfl
theorem xf_196_106 : xcode 196 106 = some (.iaload, 1, 0, 0) := rfl
theorem xf_196_107 : xcode 196 107 = some (.aload_n 0, 1, 0, 0) := rfl
theorem xf_196_108 : xcode 196 108 = some (.getfield 81, 3, 11, 36) := rfl
theorem xf_196_111 : xcode 196 111 = some (.iload 5, 2, 0, 0) := rfl
theorem xf_196_113 : xcode 196 113 = some (.iaload, 1, 0, 0) := rfl
theorem xf_196_114 : xcode 196 114 = some (.aload_n 0, 1, 0, 0) := rfl
theorem xf_196_115 : xcode 196 115 = some (.getfield 13, 3, 11, 2) := rfl
theorem xf_196_118 : xcode 196 118 = some (.iload 5, 2, 0, 0) := rfl
theorem xf_196_120 : xcode 196 120 = some (.iaload, 1, 0, 0) := rfl
theorem xf_196_121 : xcode 196 121 = some (.iadd, 1, 0, 0) := rfl
theorem xf_196_122 : xcode 196 122 = some (.if_icmp .gt 6, 3, 128, 0) := rfl
theorem xf_196_125 : xcode 196 125 = some (.goto 26, 3, 151, 0) := rfl
theorem xf_196_128 : xcode 196 128 = some (.aload_n 0, 1, 0, 0) := rfl
theorem xf_196_129 : xcode 196 129 = some (.getfield 81, 3, 11, 36) := rfl
theorem xf_196_132 : xcode 196 132 = some (.iload_n 3, 1, 0, 0) := rfl
theorem xf_196_133 : xcode 196 133 = some (.aload_n 0, 1, 0, 0) := rfl
theorem xf_196_134 : xcode 196 134 = some (.getfield 81, 3, 11, 36) := rfl
theorem xf_196_137 : xcode 196 137 = some (.iload 5, 2, 0, 0) := rfl
theorem xf_196_139 : xcode 196 139 = some (.iaload, 1, 0, 0) := rfl
theorem xf_196_140 : xcode 196 140 = some (.aload_n 0, 1, 0, 0) := rfl
theorem xf_196_141 : xcode 196 141 = some (.getfield 13, 3, 11, 2) := rfl
theorem xf_196_144 : xcode 196 144 = some (.iload 5, 2, 0, 0) := rfl
theorem xf_196_146 : xcode 196 146 = some (.iaload, 1, 0, 0) := rfl
theorem xf_196_147 : xcode 196 147 = some (.iadd, 1, 0, 0) := rfl
theorem xf_196_148 : xcode 196 148 = some (.iastore, 1, 0, 0) := rfl
theorem xf_196_149 : xcode 196 149 = some (.iconst 1, 1, 0, 0) := rfl
theorem xf_196_150 : xcode 196 150 = some (.istore_n 2, 1, 0, 0) := rfl
theorem xf_196_151 : xcode 196 151 = some (.iinc 4 1, 3, 0, 0) := rfl
theorem xf_196_154 : xcode 196 154 = some (.goto (-101), 3, 53, 0) := rfl
theorem xf_196_157 : xcode 196 157 = some (.iinc 3 1, 3, 0, 0) := rfl
theorem xf_196_160 : xcode 196 160 = some (.goto (-118), 3, 42, 0) := rfl
theorem xf_196_163 : xcode 196 163 = some (.goto (-129), 3, 34, 0) := rfl
theorem xf_196_166 : xcode 196 166 = some (.return_, 1, 0, 0) := rfl
theorem xf_197_0 : xcode 197 0 = some (.aload_n 0, 1, 0, 0) := rfl
theorem xf_197_1 : xcode 197 1 = some (.iload_n 1, 1, 0, 0) := rfl
theorem xf_197_2 : xcode 197 2 = some (.invokevirtual 211, 3, 135, 0) := rfl
theorem xf_197_5 : xcode 197 5 = some (.ifCond .eq 11, 3, 16, 0) := rfl
theorem xf_197_8 : xcode 197 8 = some (.aload_n 0, 1, 0, 0) := rfl
theorem xf_197_9 : xcode 197 9 = some (.iload_n 2, 1, 0, 0) := rfl
theorem xf_197_10 : xcode 197 10 = some (.invokevirtual 211, 3, 135, 0) := rfl
theorem xf_197_13 : xcode 197 13 = some (.ifCond .ne 5, 3, 18, 0) := rfl
theorem xf_197_16 : xcode 197 16 = some (.iconst 1, 1, 0, 0) := rfl
theorem xf_197_17 : xcode 197 17 = some (.ireturn, 1, 0, 0) := rfl
theorem xf_197_18 : xcode 197 18 = some (.aload_n 0, 1, 0, 0) := rfl
theorem xf_197_19 : xcode 197 19 = some (.iload_n 1, 1, 0, 0) := rfl
theorem xf_197_20 : xcode 197 20 = some (.invokevirtual 100, 3, 136, 0) := rfl
theorem xf_197_23 : xcode 197 23 = some (.ifCond .eq 15, 3, 38, 0) := rfl
theorem xf_197_26 : xcode 197 26 = some (.aload_n 0, 1, 0, 0) := rfl
theorem xf_197_27 : xcode 197 27 = some (.iload_n 2, 1, 0, 0) := rfl
theorem xf_197_28 : xcode 197 28 = some (.invokevirtual 100, 3, 136, 0) := rfl
theorem xf_197_31 : xcode 197 31 = some (.ifCond .eq 7, 3, 38, 0) := rfl
theorem xf_197_34 : xcode 197 34 = some (.iconst 0, 1, 0, 0) := rfl
theorem xf_197_35 : xcode 197 35 = some (.goto 4, 3, 39, 0) := rfl
theorem xf_197_38 : xcode 197 38 = some (.iconst 2, 1, 0, 0) := rfl
theorem xf_197_39 : xcode 197 39 = some (.ireturn, 1, 0, 0) := rfl
theorem xf_198_0 : xcode 198 0 = some (.aload_n 0, 1, 0, 0) := rfl
theorem xf_198_1 : xcode 198 1 = some (.iload_n 1, 1, 0, 0) := rfl
theorem xf_198_2 : xcode 198 2 = some (.iload_n 2, 1, 0, 0) := rfl
theorem xf_198_3 : xcode 198 3 = some (.invokevirtual 275, 3, 197, 0) := rfl
theorem xf_198_6 : xcode 198 6 = some (.ifCond .le 14, 3, 20, 0) := rfl
theorem xf_198_9 : xcode 198 9 = some (.aload_n 0, 1, 0, 0) := rfl
theorem xf_198_10 : xcode 198 10 = some (.aload_n 0, 1, 0, 0) := rfl
theorem xf_198_11 : xcode 198 11 = some (.iload_n 1, 1, 0, 0) := rfl
theorem xf_198_12 : xcode 198 12 = some (.iload_n 2, 1, 0, 0) := rfl
theorem xf_198_13 : xcode 198 13 = some (.invokevirtual 275, 3, 197, 0) := rfl
theorem xf_198_16 : xcode 198 16 = some (.invokevirtual 179, 3, 131, 0) := rfl
theorem xf_198_19 : xcode 198 19 = some (.ireturn, 1, 0, 0) := rfl
theorem xf_198_20 : xcode 198 20 = some (.aload_n 0, 1, 0, 0) := rfl
theorem xf_198_21 : xcode 198 21 = some (.iload_n 2, 1, 0, 0) := rfl
theorem xf_198_22 : xcode 198 22 = some (.invokevirtual 278, 3, 196, 0) := rfl
theorem xf_198_25 : xcode 198 25 = some (.aload_n 0, 1, 0, 0) := rfl
theorem xf_198_26 : xcode 198 26 = some (.getfield 81, 3, 11, 36) := rfl
theorem xf_198_29 : xcode 198 29 = some (.iload_n 1, 1, 0, 0) := rfl
theorem xf_198_30 : xcode 198 30 = some (.iaload, 1, 0, 0) := rfl
theorem xf_198_31 : xcode 198 31 = some (.ifCond .ge 9, 3, 40, 0) := rfl
theorem xf_198_34 : xcode 198 34 = some (.aload_n 0, 1, 0, 0) := rfl
theorem xf_198_35 : xcode 198 35 = some (.iconst 3, 1, 0, 0) := rfl
theorem xf_198_36 : xcode 198 36 = some (.invokevirtual 179, 3, 131, 0) := rfl
theorem xf_198_39 : xcode 198 39 = some (.ireturn, 1, 0, 0) := rfl
theorem xf_198_40 : xcode 198 40 = some (.aload_n 0, 1, 0, 0) := rfl
theorem xf_198_41 : xcode 198 41 = some (.iconst 0, 1, 0, 0) := rfl
theorem xf_198_42 : xcode 198 42 = some (.putfield 93, 3, 11, 0) := rfl
theorem xf_198_45 : xcode 198 45 = some (.aload_n 0, 1, 0, 0) := rfl
theorem xf_198_46 : xcode 198 46 = some (.getfield 81, 3, 11, 36) := rfl
theorem xf_198_49 : xcode 198 49 = some (.iload_n 1, 1, 0, 0) := rfl
theorem xf_198_50 : xcode 198 50 = some (.iaload, 1, 0, 0) := rfl
theorem xf_198_51 : xcode 198 51 = some (.ireturn, 1, 0, 0) := rfl
theorem xf_199_0 : xcode 199 0 = some (.aload_n 0, 1, 0, 0) := rfl
theorem xf_199_1 : xcode 199 1 = some (.iload_n 1, 1, 0, 0) := rfl
theorem xf_199_2 : xcode 199 2 = some (.iload_n 2, 1, 0, 0) := rfl
theorem xf_199_3 : xcode 199 3 = some (.invokevirtual 275, 3, 197, 0) := rfl
theorem xf_199_6 : xcode 199 6 = some (.ifCond .le 14, 3, 20, 0) := rfl
theorem xf_199_9 : xcode 199 9 = some (.aload_n 0, 1, 0, 0) := rfl
theorem xf_199_10 : xcode 199 10 = some (.aload_n 0, 1, 0, 0) := rfl
theorem xf_199_11 : xcode 199 11 = some (.iload_n 1, 1, 0, 0) := rfl
theorem xf_199_12 : xcode 199 12 = some (.iload_n 2, 1, 0, 0) := rfl
theorem xf_199_13 : xcode 199 13 = some (.invokevirtual 275, 3, 197, 0) := rfl
theorem xf_199_16 : xcode 199 16 = some (.invokevirtual 179, 3, 131, 0) := rfl
theorem xf_199_19 : xcode 199 19 = some (.ireturn, 1, 0, 0) := rfl
theorem xf_199_20 : xcode 199 20 = some (.aload_n 0, 1, 0, 0) := rfl
theorem xf_199_21 : xcode 199 21 = some (.iload_n 2, 1, 0, 0) := rfl
theorem xf_199_22 : xcode 199 22 = some (.invokevirtual 278, 3, 196, 0) := rfl
theorem xf_199_25 : xcode 199 25 = some (.aload_n 0, 1, 0, 0) := rfl
theorem xf_199_26 : xcode 199 26 = some (.getfield 81, 3, 11, 36) := rfl
theorem xf_199_29 : xcode 199 29 = some (.iload_n 1, 1, 0, 0) := rfl
theorem xf_199_30 : xcode 199 30 = some (.iaload, 1, 0, 0) := rfl
theorem xf_199_31 : xcode 199 31 = some (.ifCond .lt 8, 3, 39, 0) := rfl
theorem xf_199_34 : xcode 199 34 = some (.iload_n 1, 1, 0, 0) := rfl
theorem xf_199_35 : xcode 199 35 = some (.iload_n 2, 1, 0, 0) := rfl
theorem xf_199_36 : xcode 199 36 = some (.if_icmp .ne 9, 3, 45, 0) := rfl
theorem xf_199_39 : xcode 199 39 = some (.aload_n 0, 1, 0, 0) := rfl
theorem xf_199_40 : xcode 199 40 = some (.iconst 3, 1, 0, 0) := rfl
theorem xf_199_41 : xcode 199 41 = some (.invokevirtual 179, 3, 131, 0) := rfl
theorem xf_199_44 : xcode 199 44 = some (.ireturn, 1, 0, 0) := rfl
theorem xf_199_45 : xcode 199 45 = some (.aload_n 0, 1, 0, 0) := rfl
theorem xf_199_46 : xcode 199 46 = some (.iconst 0, 1, 0, 0) := rfl
theorem xf_199_47 : xcode 199 47 = some (.putfield 93, 3, 11, 0) := rfl
theorem xf_199_50 : xcode 199 50 = some (.iconst 0, 1, 0, 0) := rfl
theorem xf_199_51 : xcode 199 51 = some (.istore_n 3, 1, 0, 0) := rfl
theorem xf_199_52 : xcode 199 52 = some (.aload_n 0, 1, 0, 0) := rfl
theorem xf_199_53 : xcode 199 53 = some (.iload_n 1, 1, 0, 0) := rfl
theorem xf_199_54 : xcode 199 54 = some (.iload_n 3, 1, 0, 0) := rfl
theorem xf_199_55 : xcode 199 55 = some (.invokevirtual 104, 3, 141, 0) := rfl
theorem xf_199_58 : xcode 199 58 = some (.iload_n 1, 1, 0, 0) := rfl
theorem xf_199_59 : xcode 199 59 = some (.if_icmp .eq 35, 3, 94, 0) := rfl
theorem xf_199_62 : xcode 199 62 = some (.aload_n 0, 1, 0, 0) := rfl
theorem xf_199_63 : xcode 199 63 = some (.getfield 81, 3, 11, 36) := rfl
theorem xf_199_66 : xcode 199 66 = some (.aload_n 0, 1, 0, 0) := rfl
theorem xf_199_67 : xcode 199 67 = some (.iload_n 1, 1, 0, 0) := rfl
theorem xf_199_68 : xcode 199 68 = some (.iload_n 3, 1, 0, 0) := rfl
theorem xf_199_69 : xcode 199 69 = some (.invokevirtual 104, 3, 141, 0) := rfl
theorem xf_199_72 : xcode 199 72 = some (.iaload, 1, 0, 0) := rfl
theorem xf_199_73 : xcode 199 73 = some (.aload_n 0, 1, 0, 0) := rfl
theorem xf_199_74 : xcode 199 74 = some (.getfield 13, 3, 11, 2) := rfl
theorem xf_199_77 : xcode 199 77 = some (.aload_n 0, 1, 0, 0) := rfl
theorem xf_199_78 : xcode 199 78 = some (.iload_n 1, 1, 0, 0) := rfl
theorem xf_199_79 : xcode 199 79 = some (.iload_n 3, 1, 0, 0) := rfl
theorem xf_199_80 : xcode 199 80 = some (.invokevirtual 104, 3, 141, 0) := rfl
theorem xf_199_83 : xcode 199 83 = some (.iaload, 1, 0, 0) := rfl
theorem xf_199_84 : xcode 199 84 = some (.iadd, 1, 0, 0) := rfl
theorem xf_199_85 : xcode 199 85 = some (.aload_n 0, 1, 0, 0) := rfl
theorem xf_199_86 : xcode 199 86 = some (.getfield 81, 3, 11, 36) := rfl
theorem xf_199_89 : xcode 199 89 = some (.iload_n 1, 1, 0, 0) := rfl
theorem xf_199_90 : xcode 199 90 = some (.iaload, 1, 0, 0) := rfl
theorem xf_199_91 : xcode 199 91 = some (.if_icmp .eq 9, 3, 100, 0) := rfl
theorem xf_199_94 : xcode 199 94 = some (.iinc 3 1, 3, 0, 0) := rfl
theorem xf_199_97 : xcode 199 97 = some (.goto (-45), 3, 52, 0) := rfl
theorem xf_199_100 : xcode 199 100 = some (.iload_n 3, 1, 0, 0) := rfl
theorem xf_199_101 : xcode 199 101 = some (.ireturn, 1, 0, 0) := rfl
theorem xf_200_0 : xcode 200 0 = some (.aload_n 0, 1, 0, 0) := rfl
theorem xf_200_1 : xcode 200 1 = some (.iload_n 1, 1, 0, 0) := rfl
theorem xf_200_2 : xcode 200 2 = some (.invokevirtual 211, 3, 135, 0) := rfl
theorem xf_200_5 : xcode 200 5 = some (.ifCond .ne 9, 3, 14, 0) := rfl
theorem xf_200_8 : xcode 200 8 = some (.aload_n 0, 1, 0, 0) := rfl
theorem xf_200_9 : xcode 200 9 = some (.iconst 1, 1, 0, 0) := rfl
theorem xf_200_10 : xcode 200 10 = some (.invokevirtual 179, 3, 131, 0) := rfl
theorem xf_200_13 : xcode 200 13 = some (.ireturn, 1, 0, 0) := rfl
theorem xf_200_14 : xcode 200 14 = some (.aload_n 0, 1, 0, 0) := rfl
theorem xf_200_15 : xcode 200 15 = some (.iload_n 1, 1, 0, 0) := rfl
theorem xf_200_16 : xcode 200 16 = some (.invokevirtual 100, 3, 136, 0) := rfl
theorem xf_200_19 : xcode 200 19 = some (.ifCond .ne 9, 3, 28, 0) := rfl
theorem xf_200_22 : xcode 200 22 = some (.aload_n 0, 1, 0, 0) := rfl
theorem xf_200_23 : xcode 200 23 = some (.iconst 2, 1, 0, 0) := rfl
theorem xf_200_24 : xcode 200 24 = some (.invokevirtual 179, 3, 131, 0) := rfl
theorem xf_200_27 : xcode 200 27 = some (.ireturn, 1, 0, 0) := rfl
theorem xf_200_28 : xcode 200 28 = some (.aload_n 0, 1, 0, 0) := rfl
theorem xf_200_29 : xcode 200 29 = some (.iconst 0, 1, 0, 0) := rfl
theorem xf_200_30 : xcode 200 30 = some (.putfield 93, 3, 11, 0) := rfl
theorem xf_200_33 : xcode 200 33 = some (.aload_n 0, 1, 0, 0) := rfl
theorem xf_200_34 : xcode 200 34 = some (.iload_n 1, 1, 0, 0) := rfl
theorem xf_200_35 : xcode 200 35 = some (.invokevirtual 278, 3, 196, 0) := rfl
theorem xf_200_38 : xcode 200 38 = some (.lconst 0, 1, 0, 0) := rfl
theorem xf_200_39 : xcode 200 39 = some (.lstore_n 2, 1, 0, 0) := rfl
theorem xf_200_40 : xcode 200 40 = some (.iconst 0, 1, 0, 0) := rfl
theorem xf_200_41 : xcode 200 41 = some (.istore 4, 2, 0, 0) := rfl
theorem xf_200_43 : xcode 200 43 = some (.iload 4, 2, 0, 0) := rfl
theorem xf_200_45 : xcode 200 45 = some (.aload_n 0, 1, 0, 0) := rfl
theorem xf_200_46 : xcode 200 46 = some (.invokevirtual 96, 3, 134, 0) := rfl
theorem xf_200_49 : xcode 200 49 = some (.if_icmp .ge 57, 3, 106, 0) := rfl
theorem xf_200_52 : xcode 200 52 = some (.lload_n 2, 1, 0, 0) := rfl
theorem xf_200_53 : xcode 200 53 = some (.aload_n 0, 1, 0, 0) := rfl
theorem xf_200_54 : xcode 200 54 = some (.iload 4, 2, 0, 0) := rfl
theorem xf_200_56 : xcode 200 56 = some (.invokevirtual 100, 3, 136, 0) := rfl
theorem xf_200_59 : xcode 200 59 = some (.ifCond .eq 38, 3, 97, 0) := rfl
theorem xf_200_62 : xcode 200 62 = some (.aload_n 0, 1, 0, 0) := rfl
theorem xf_200_63 : xcode 200 63 = some (.getfield 22, 3, 11, 5) := rfl
theorem xf_200_66 : xcode 200 66 = some (.iload 4, 2, 0, 0) := rfl
theorem xf_200_68 : xcode 200 68 = some (.iaload, 1, 0, 0) := rfl
theorem xf_200_69 : xcode 200 69 = some (.i2l, 1, 0, 0) := rfl
theorem xf_200_70 : xcode 200 70 = some (.aload_n 0, 1, 0, 0) := rfl
theorem xf_200_71 : xcode 200 71 = some (.getfield 81, 3, 11, 36) := rfl
theorem xf_200_74 : xcode 200 74 = some (.iload 4, 2, 0, 0) := rfl
theorem xf_200_76 : xcode 200 76 = some (.iaload, 1, 0, 0) := rfl
theorem xf_200_77 : xcode 200 77 = some (.ifCond .ge 8, 3, 85, 0) := rfl
theorem xf_200_80 : xcode 200 80 = some (.bipush 100, 2, 0, 0) := rfl
theorem xf_200_82 : xcode 200 82 = some (.goto 10, 3, 92, 0) := rfl
theorem xf_200_85 : xcode 200 85 = some (.aload_n 0, 1, 0, 0) := rfl
theorem xf_200_86 : xcode 200 86 = some (.getfield 81, 3, 11, 36) := rfl
theorem xf_200_89 : xcode 200 89 = some (.iload 4, 2, 0, 0) := rfl
theorem xf_200_91 : xcode 200 91 = some (.iaload, 1, 0, 0) := rfl
theorem xf_200_92 : xcode 200 92 = some (.i2l, 1, 0, 0) := rfl
theorem xf_200_93 : xcode 200 93 = some (.lmul, 1, 0, 0) := rfl
theorem xf_200_94 : xcode 200 94 = some (.goto 4, 3, 98, 0) := rfl
theorem xf_200_97 : xcode 200 97 = some (.lconst 0, 1, 0, 0) := rfl
theorem xf_200_98 : xcode 200 98 = some (.ladd, 1, 0, 0) := rfl
theorem xf_200_99 : xcode 200 99 = some (.lstore_n 2, 1, 0, 0) := rfl
theorem xf_200_100 : xcode 200 100 = some (.iinc 4 1, 3, 0, 0) := rfl
theorem xf_200_103 : xcode 200 103 = some (.goto (-60), 3, 43, 0) := rfl
theorem xf_200_106 : xcode 200 106 = some (.lload_n 2, 1, 0, 0) := rfl
theorem xf_200_107 : xcode 200 107 = some (.ldc2_w 116, 3, 2, 0) := rfl
theorem xf_200_110 : xcode 200 110 = some (.ldiv, 1, 0, 0) := rfl
theorem xf_200_111 : xcode 200 111 = some (.l2i, 1, 0, 0) := rfl
theorem xf_200_112 : xcode 200 112 = some (.ireturn, 1, 0, 0) := rfl
theorem xf_201_0 : xcode 201 0 = some (.aload_n 0, 1, 0, 0) := rfl
theorem xf_201_1 : xcode 201 1 = some (.iconst 0, 1, 0, 0) := rfl
theorem xf_201_2 : xcode 201 2 = some (.putfield 93, 3, 11, 0) := rfl
theorem xf_201_5 : xcode 201 5 = some (.aload_n 0, 1, 0, 0) := rfl
theorem xf_201_6 : xcode 201 6 = some (.invokevirtual 202, 3, 212, 0) := rfl
theorem xf_201_9 : xcode 201 9 = some (.aload_n 0, 1, 0, 0) := rfl
theorem xf_201_10 : xcode 201 10 = some (.getfield 32, 3, 11, 11) := rfl
theorem xf_201_13 : xcode 201 13 = some (.istore_n 2, 1, 0, 0) := rfl
theorem xf_201_14 : xcode 201 14 = some (.aload_n 0, 1, 0, 0) := rfl
theorem xf_201_15 : xcode 201 15 = some (.iload_n 1, 1, 0, 0) := rfl
theorem xf_201_16 : xcode 201 16 = some (.putfield 32, 3, 11, 11) := rfl
theorem xf_201_19 : xcode 201 19 = some (.iload_n 2, 1, 0, 0) := rfl
theorem xf_201_20 : xcode 201 20 = some (.ireturn, 1, 0, 0) := rfl
theorem xf_202_0 : xcode 202 0 = some (.aload_n 0, 1, 0, 0) := rfl
theorem xf_202_1 : xcode 202 1 = some (.aload_n 0, 1, 0, 0) := rfl
theorem xf_202_2 : xcode 202 2 = some (.getfield 32, 3, 11, 11) := rfl
theorem xf_202_5 : xcode 202 5 = some (.ldc_w 281, 3, 7, 0) := rfl
theorem xf_202_8 : xcode 202 8 = some (.imul, 1, 0, 0) := rfl
theorem xf_202_9 : xcode 202 9 = some (.sipush 12345, 3, 0, 0) := rfl
theorem xf_202_12 : xcode 202 12 = some (.iadd, 1, 0, 0) := rfl
theorem xf_202_13 : xcode 202 13 = some (.putfield 32, 3, 11, 11) := rfl
theorem xf_202_16 : xcode 202 16 = some (.aload_n 0, 1, 0, 0) := rfl
theorem xf_202_17 : xcode 202 17 = some (.getfield 32, 3, 11, 11) := rfl
theorem xf_202_20 : xcode 202 20 = some (.bipush 16, 2, 0, 0) := rfl
theorem xf_202_22 : xcode 202 22 = some (.iushr, 1, 0, 0) := rfl
theorem xf_202_23 : xcode 202 23 = some (.iload_n 1, 1, 0, 0) := rfl
theorem xf_202_24 : xcode 202 24 = some (.irem, 1, 0, 0) := rfl
theorem xf_202_25 : xcode 202 25 = some (.ireturn, 1, 0, 0) := rfl
theorem xf_203_0 : xcode 203 0 = some (.aload_n 0, 1, 0, 0) := rfl
theorem xf_203_1 : xcode 203 1 = some (.dup, 1, 0, 0) := rfl
theorem xf_203_2 : xcode 203 2 = some (.getfield 282, 3, 11, 13) := rfl
theorem xf_203_5 : xcode 203 5 = some (.aload_n 0, 1, 0, 0) := rfl
theorem xf_203_6 : xcode 203 6 = some (.iconst 0, 1, 0, 0) := rfl
theorem xf_203_7 : xcode 203 7 = some (.invokevirtual 237, 3, 178, 0) := rfl
theorem xf_203_10 : xcode 203 10 = some (.aload_n 0, 1, 0, 0) := rfl
theorem xf_203_11 : xcode 203 11 = some (.getfield 208, 3, 11, 10) := rfl
theorem xf_203_14 : xcode 203 14 = some (.if_icmp .ne 7, 3, 21, 0) := rfl
theorem xf_203_17 : xcode 203 17 = some (.iconst 1, 1, 0, 0) := rfl
theorem xf_203_18 : xcode 203 18 = some (.goto 4, 3, 22, 0) := rfl
theorem xf_203_21 : xcode 203 21 = some (.iconst 0, 1, 0, 0) := rfl
theorem xf_203_22 : xcode 203 22 = some (.iadd, 1, 0, 0) := rfl
theorem xf_203_23 : xcode 203 23 = some (.putfield 282, 3, 11, 13) := rfl
theorem xf_203_26 : xcode 203 26 = some (.return_, 1, 0, 0) := rfl
theorem xf_204_0 : xcode 204 0 = some (.iload_n 1, 1, 0, 0) := rfl
theorem xf_204_1 : xcode 204 1 = some (.invokestatic 220, 3, 137, 0) := rfl
theorem xf_204_4 : xcode 204 4 = some (.ifCond .ne 9, 3, 13, 0) := rfl
theorem xf_204_7 : xcode 204 7 = some (.aload_n 0, 1, 0, 0) := rfl
theorem xf_204_8 : xcode 204 8 = some (.iconst 1, 1, 0, 0) := rfl
theorem xf_204_9 : xcode 204 9 = some (.invokevirtual 179, 3, 131, 0) := rfl
theorem xf_204_12 : xcode 204 12 = some (.ireturn, 1, 0, 0) := rfl
theorem xf_204_13 : xcode 204 13 = some (.aload_n 0, 1, 0, 0) := rfl
theorem xf_204_14 : xcode 204 14 = some (.iconst 0, 1, 0, 0) := rfl
theorem xf_204_15 : xcode 204 15 = some (.putfield 93, 3, 11, 0) := rfl
theorem xf_204_18 : xcode 204 18 = some (.aload_n 0, 1, 0, 0) := rfl
theorem xf_204_19 : xcode 204 19 = some (.invokevirtual 202, 3, 212, 0) := rfl
theorem xf_204_22 : xcode 204 22 = some (.aload_n 0, 1, 0, 0) := rfl
theorem xf_204_23 : xcode 204 23 = some (.bipush 16, 2, 0, 0) := rfl
theorem xf_204_25 : xcode 204 25 = some (.invokevirtual 285, 3, 202, 0) := rfl
theorem xf_204_28 : xcode 204 28 = some (.istore_n 2, 1, 0, 0) := rfl
theorem xf_204_29 : xcode 204 29 = some (.iconst 0, 1, 0, 0) := rfl
theorem xf_204_30 : xcode 204 30 = some (.istore_n 3, 1, 0, 0) := rfl
theorem xf_204_31 : xcode 204 31 = some (.aload_n 0, 1, 0, 0) := rfl
theorem xf_204_32 : xcode 204 32 = some (.getfield 16, 3, 11, 3) := rfl
theorem xf_204_35 : xcode 204 35 = some (.iconst 0, 1, 0, 0) := rfl
theorem xf_204_36 : xcode 204 36 = some (.iaload, 1, 0, 0) := rfl
theorem xf_204_37 : xcode 204 37 = some (.istore 4, 2, 0, 0) := rfl
theorem xf_204_39 : xcode 204 39 = some (.iload_n 3, 1, 0, 0) := rfl
theorem xf_204_40 : xcode 204 40 = some (.iconst 3, 1, 0, 0) := rfl
theorem xf_204_41 : xcode 204 41 = some (.if_icmp .ge 26, 3, 67, 0) := rfl
theorem xf_204_44 : xcode 204 44 = some (.iload 4, 2, 0, 0) := rfl
theorem xf_204_46 : xcode 204 46 = some (.iload_n 2, 1, 0, 0) := rfl
theorem xf_204_47 : xcode 204 47 = some (.if_icmp .gt 20, 3, 67, 0) := rfl
theorem xf_204_50 : xcode 204 50 = some (.iinc 3 1, 3, 0, 0) := rfl
theorem xf_204_53 : xcode 204 53 = some (.iload 4, 2, 0, 0) := rfl
theorem xf_204_55 : xcode 204 55 = some (.aload_n 0, 1, 0, 0) := rfl
theorem xf_204_56 : xcode 204 56 = some (.getfield 16, 3, 11, 3) := rfl
theorem xf_204_59 : xcode 204 59 = some (.iload_n 3, 1, 0, 0) := rfl
theorem xf_204_60 : xcode 204 60 = some (.iaload, 1, 0, 0) := rfl
theorem xf_204_61 : xcode 204 61 = some (.iadd, 1, 0, 0) := rfl
theorem xf_204_62 : xcode 204 62 = some (.istore 4, 2, 0, 0) := rfl
theorem xf_204_64 : xcode 204 64 = some (.goto (-25), 3, 39, 0) := rfl
theorem xf_204_67 : xcode 204 67 = some (.aload_n 0, 1, 0, 0) := rfl
theorem xf_204_68 : xcode 204 68 = some (.aload_n 0, 1, 0, 0) := rfl
theorem xf_204_69 : xcode 204 69 = some (.aload_n 0, 1, 0, 0) := rfl
theorem xf_204_70 : xcode 204 70 = some (.getfield 208, 3, 11, 10) := rfl
theorem xf_204_73 : xcode 204 73 = some (.iload_n 1, 1, 0, 0) := rfl
theorem xf_204_74 : xcode 204 74 = some (.iload_n 3, 1, 0, 0) := rfl
theorem xf_204_75 : xcode 204 75 = some (.invokevirtual 108, 3, 142, 0) := rfl
theorem xf_204_78 : xcode 204 78 = some (.putfield 208, 3, 11, 10) := rfl
theorem xf_204_81 : xcode 204 81 = some (.aload_n 0, 1, 0, 0) := rfl
theorem xf_204_82 : xcode 204 82 = some (.iload_n 1, 1, 0, 0) := rfl
theorem xf_204_83 : xcode 204 83 = some (.invokevirtual 223, 3, 154, 0) := rfl
theorem xf_204_86 : xcode 204 86 = some (.aload_n 0, 1, 0, 0) := rfl
theorem xf_204_87 : xcode 204 87 = some (.invokevirtual 288, 3, 203, 0) := rfl
theorem xf_204_90 : xcode 204 90 = some (.aload_n 0, 1, 0, 0) := rfl
theorem xf_204_91 : xcode 204 91 = some (.getfield 208, 3, 11, 10) := rfl
theorem xf_204_94 : xcode 204 94 = some (.ireturn, 1, 0, 0) := rfl
theorem xf_205_0 : xcode 205 0 = some (.aload_n 0, 1, 0, 0) := rfl
theorem xf_205_1 : xcode 205 1 = some (.getfield 7, 3, 11, 1) := rfl
theorem xf_205_4 : xcode 205 4 = some (.aload_n 0, 1, 0, 0) := rfl
theorem xf_205_5 : xcode 205 5 = some (.getfield 208, 3, 11, 10) := rfl
theorem xf_205_8 : xcode 205 8 = some (.iaload, 1, 0, 0) := rfl
theorem xf_205_9 : xcode 205 9 = some (.istore_n 1, 1, 0, 0) := rfl
theorem xf_205_10 : xcode 205 10 = some (.iconst 0, 1, 0, 0) := rfl
theorem xf_205_11 : xcode 205 11 = some (.istore_n 2, 1, 0, 0) := rfl
theorem xf_205_12 : xcode 205 12 = some (.iconst 0, 1, 0, 0) := rfl
theorem xf_205_13 : xcode 205 13 = some (.istore_n 3, 1, 0, 0) := rfl
theorem xf_205_14 : xcode 205 14 = some (.iload_n 3, 1, 0, 0) := rfl
theorem xf_205_15 : xcode 205 15 = some (.iconst 4, 1, 0, 0) := rfl
theorem xf_205_16 : xcode 205 16 = some (.if_icmp .ge 22, 3, 38, 0) := rfl
theorem xf_205_19 : xcode 205 19 = some (.iload_n 2, 1, 0, 0) := rfl
theorem xf_205_20 : xcode 205 20 = some (.aload_n 0, 1, 0, 0) := rfl
theorem xf_205_21 : xcode 205 21 = some (.getfield 19, 3, 11, 4) := rfl
theorem xf_205_24 : xcode 205 24 = some (.iconst 4, 1, 0, 0) := rfl
theorem xf_205_25 : xcode 205 25 = some (.iload_n 1, 1, 0, 0) := rfl
theorem xf_205_26 : xcode 205 26 = some (.imul, 1, 0, 0) := rfl
theorem xf_205_27 : xcode 205 27 = some (.iload_n 3, 1, 0, 0) := rfl
theorem xf_205_28 : xcode 205 28 = some (.iadd, 1, 0, 0) := rfl
theorem xf_205_29 : xcode 205 29 = some (.iaload, 1, 0, 0) := rfl
theorem xf_205_30 : xcode 205 30 = some (.iadd, 1, 0, 0) := rfl
theorem xf_205_31 : xcode 205 31 = some (.istore_n 2, 1, 0, 0) := rfl
theorem xf_205_32 : xcode 205 32 = some (.iinc 3 1, 3, 0, 0) := rfl
theorem xf_205_35 : xcode 205 35 = some (.goto (-21), 3, 14, 0) := rfl
theorem xf_205_38 : xcode 205 38 = some (.aload_n 0, 1, 0, 0) := rfl
theorem xf_205_39 : xcode 205 39 = some (.getfield 32, 3, 11, 11) := rfl
theorem xf_205_42 : xcode 205 42 = some (.ldc_w 281, 3, 7, 0) := rfl
theorem xf_205_45 : xcode 205 45 = some (.imul, 1, 0, 0) := rfl
theorem xf_205_46 : xcode 205 46 = some (.sipush 12345, 3, 0, 0) := rfl
theorem xf_205_49 : xcode 205 49 = some (.iadd, 1, 0, 0) := rfl
theorem xf_205_50 : xcode 205 50 = some (.istore_n 3, 1, 0, 0) := rfl
theorem xf_205_51 : xcode 205 51 = some (.iload_n 1, 1, 0, 0) := rfl
theorem xf_205_52 : xcode 205 52 = some (.istore 4, 2, 0, 0) := rfl
theorem xf_205_54 : xcode 205 54 = some (.iload_n 2, 1, 0, 0) := rfl
theorem xf_205_55 : xcode 205 55 = some (.ifCond .le 53, 3, 108, 0) := rfl
theorem xf_205_58 : xcode 205 58 = some (.iload_n 3, 1, 0, 0) := rfl
theorem xf_205_59 : xcode 205 59 = some (.bipush 16, 2, 0, 0) := rfl
theorem xf_205_61 : xcode 205 61 = some (.iushr, 1, 0, 0) := rfl
theorem xf_205_62 : xcode 205 62 = some (.iload_n 2, 1, 0, 0) := rfl
theorem xf_205_63 : xcode 205 63 = some (.irem, 1, 0, 0) := rfl
theorem xf_205_64 : xcode 205 64 = some (.istore 5, 2, 0, 0) := rfl
theorem xf_205_66 : xcode 205 66 = some (.iconst 0, 1, 0, 0) := rfl
theorem xf_205_67 : xcode 205 67 = some (.istore 4, 2, 0, 0) := rfl
theorem xf_205_69 : xcode 205 69 = some (.aload_n 0, 1, 0, 0) := rfl
theorem xf_205_70 : xcode 205 70 = some (.getfield 19, 3, 11, 4) := rfl
theorem xf_205_73 : xcode 205 73 = some (.iconst 4, 1, 0, 0) := rfl
theorem xf_205_74 : xcode 205 74 = some (.iload_n 1, 1, 0, 0) := rfl
theorem xf_205_75 : xcode 205 75 = some (.imul, 1, 0, 0) := rfl
theorem xf_205_76 : xcode 205 76 = some (.iaload, 1, 0, 0) := rfl
theorem xf_205_77 : xcode 205 77 = some (.istore 6, 2, 0, 0) := rfl
theorem xf_205_79 : xcode 205 79 = some (.iload 6, 2, 0, 0) := rfl
theorem xf_205_81 : xcode 205 81 = some (.iload 5, 2, 0, 0) := rfl
theorem xf_205_83 : xcode 205 83 = some (.if_icmp .gt 25, 3, 108, 0) := rfl
theorem xf_205_86 : xcode 205 86 = some (.iinc 4 1, 3, 0, 0) := rfl
theorem xf_205_89 : xcode 205 89 = some (.iload 6, 2, 0, 0) := rfl
theorem xf_205_91 : xcode 205 91 = some (.aload_n 0, 1, 0, 0) := rfl
theorem xf_205_92 : xcode 205 92 = some (.getfield 19, 3, 11, 4) := rfl
theorem xf_205_95 : xcode 205 95 = some (.iconst 4, 1, 0, 0) := rfl
theorem xf_205_96 : xcode 205 96 = some (.iload_n 1, 1, 0, 0) := rfl
theorem xf_205_97 : xcode 205 97 = some (.imul, 1, 0, 0) := rfl
theorem xf_205_98 : xcode 205 98 = some (.iload 4, 2, 0, 0) := rfl
theorem xf_205_100 : xcode 205 100 = some (.iadd, 1, 0, 0) := rfl
theorem xf_205_101 : xcode 205 101 = some (.iaload, 1, 0, 0) := rfl
theorem xf_205_102 : xcode 205 102 = some (.iadd, 1, 0, 0) := rfl
theorem xf_205_103 : xcode 205 103 = some (.istore 6, 2, 0, 0) := rfl
theorem xf_205_105 : xcode 205 105 = some (.goto (-26), 3, 79, 0) := rfl
theorem xf_205_108 : xcode 205 108 = some (.aload_n 0, 1, 0, 0) := rfl
theorem xf_205_109 : xcode 205 109 = some (.iload 4, 2, 0, 0) := rfl
theorem xf_205_111 : xcode 205 111 = some (.invokevirtual 228, 3, 155, 0) := rfl
theorem xf_205_114 : xcode 205 114 = some (.ifCond .ne 9, 3, 123, 0) := rfl
theorem xf_205_117 : xcode 205 117 = some (.aload_n 0, 1, 0, 0) := rfl
theorem xf_205_118 : xcode 205 118 = some (.iconst 1, 1, 0, 0) := rfl
theorem xf_205_119 : xcode 205 119 = some (.invokevirtual 179, 3, 131, 0) := rfl
theorem xf_205_122 : xcode 205 122 = some (.ireturn, 1, 0, 0) := rfl
theorem xf_205_123 : xcode 205 123 = some (.aload_n 0, 1, 0, 0) := rfl
theorem xf_205_124 : xcode 205 124 = some (.iconst 0, 1, 0, 0) := rfl
theorem xf_205_125 : xcode 205 125 = some (.putfield 93, 3, 11, 0) := rfl
theorem xf_205_128 : xcode 205 128 = some (.aload_n 0, 1, 0, 0) := rfl
theorem xf_205_129 : xcode 205 129 = some (.invokevirtual 202, 3, 212, 0) := rfl
theorem xf_205_132 : xcode 205 132 = some (.aload_n 0, 1, 0, 0) := rfl
theorem xf_205_133 : xcode 205 133 = some (.iload_n 2, 1, 0, 0) := rfl
theorem xf_205_134 : xcode 205 134 = some (.ifCond .le 7, 3, 141, 0) := rfl
theorem xf_205_137 : xcode 205 137 = some (.iload_n 3, 1, 0, 0) := rfl
theorem xf_205_138 : xcode 205 138 = some (.goto 7, 3, 145, 0) := rfl
theorem xf_205_141 : xcode 205 141 = some (.aload_n 0, 1, 0, 0) := rfl
theorem xf_205_142 : xcode 205 142 = some (.getfield 32, 3, 11, 11) := rfl
theorem xf_205_145 : xcode 205 145 = some (.putfield 32, 3, 11, 11) := rfl
theorem xf_205_148 : xcode 205 148 = some (.aload_n 0, 1, 0, 0) := rfl
theorem xf_205_149 : xcode 205 149 = some (.iload 4, 2, 0, 0) := rfl
theorem xf_205_151 : xcode 205 151 = some (.invokevirtual 231, 3, 156, 0) := rfl
theorem xf_205_154 : xcode 205 154 = some (.aload_n 0, 1, 0, 0) := rfl
theorem xf_205_155 : xcode 205 155 = some (.invokevirtual 288, 3, 203, 0) := rfl
theorem xf_205_158 : xcode 205 158 = some (.iload 4, 2, 0, 0) := rfl
theorem xf_205_160 : xcode 205 160 = some (.ireturn, 1, 0, 0) := rfl
theorem xf_206_0 : xcode 206 0 = some (.aload_n 0, 1, 0, 0) := rfl
theorem xf_206_1 : xcode 206 1 = some (.iload_n 1, 1, 0, 0) := rfl
theorem xf_206_2 : xcode 206 2 = some (.invokevirtual 211, 3, 135, 0) := rfl
theorem xf_206_5 : xcode 206 5 = some (.ifCond .ne 9, 3, 14, 0) := rfl
theorem xf_206_8 : xcode 206 8 = some (.aload_n 0, 1, 0, 0) := rfl
theorem xf_206_9 : xcode 206 9 = some (.iconst 1, 1, 0, 0) := rfl
theorem xf_206_10 : xcode 206 10 = some (.invokevirtual 179, 3, 131, 0) := rfl
theorem xf_206_13 : xcode 206 13 = some (.ireturn, 1, 0, 0) := rfl
theorem xf_206_14 : xcode 206 14 = some (.aload_n 0, 1, 0, 0) := rfl
theorem xf_206_15 : xcode 206 15 = some (.iload_n 1, 1, 0, 0) := rfl
theorem xf_206_16 : xcode 206 16 = some (.invokevirtual 100, 3, 136, 0) := rfl
theorem xf_206_19 : xcode 206 19 = some (.ifCond .ne 9, 3, 28, 0) := rfl
theorem xf_206_22 : xcode 206 22 = some (.aload_n 0, 1, 0, 0) := rfl
theorem xf_206_23 : xcode 206 23 = some (.iconst 2, 1, 0, 0) := rfl
theorem xf_206_24 : xcode 206 24 = some (.invokevirtual 179, 3, 131, 0) := rfl
theorem xf_206_27 : xcode 206 27 = some (.ireturn, 1, 0, 0) := rfl
theorem xf_206_28 : xcode 206 28 = some (.aload_n 0, 1, 0, 0) := rfl
theorem xf_206_29 : xcode 206 29 = some (.iconst 0, 1, 0, 0) := rfl
theorem xf_206_30 : xcode 206 30 = some (.putfield 93, 3, 11, 0) := rfl
theorem xf_206_33 : xcode 206 33 = some (.aload_n 0, 1, 0, 0) := rfl
theorem xf_206_34 : xcode 206 34 = some (.invokevirtual 202, 3, 212, 0) := rfl
theorem xf_206_37 : xcode 206 37 = some (.aload_n 0, 1, 0, 0) := rfl
theorem xf_206_38 : xcode 206 38 = some (.getfield 208, 3, 11, 10) := rfl
theorem xf_206_41 : xcode 206 41 = some (.istore_n 2, 1, 0, 0) := rfl
theorem xf_206_42 : xcode 206 42 = some (.aload_n 0, 1, 0, 0) := rfl
theorem xf_206_43 : xcode 206 43 = some (.iload_n 1, 1, 0, 0) := rfl
theorem xf_206_44 : xcode 206 44 = some (.putfield 208, 3, 11, 10) := rfl
theorem xf_206_47 : xcode 206 47 = some (.iload_n 2, 1, 0, 0) := rfl
theorem xf_206_48 : xcode 206 48 = some (.ireturn, 1, 0, 0) := rfl
theorem xf_207_0 : xcode 207 0 = some (.aload_n 0, 1, 0, 0) := rfl
theorem xf_207_1 : xcode 207 1 = some (.iconst 0, 1, 0, 0) := rfl
theorem xf_207_2 : xcode 207 2 = some (.putfield 93, 3, 11, 0) := rfl
theorem xf_207_5 : xcode 207 5 = some (.aload_n 0, 1, 0, 0) := rfl
theorem xf_207_6 : xcode 207 6 = some (.getfield 208, 3, 11, 10) := rfl
theorem xf_207_9 : xcode 207 9 = some (.ireturn, 1, 0, 0) := rfl
theorem xf_208_0 : xcode 208 0 = some (.iload_n 1, 1, 0, 0) := rfl
theorem xf_208_1 : xcode 208 1 = some (.iconst 0, 1, 0, 0) := rfl
theorem xf_208_2 : xcode 208 2 = some (.bipush 6, 2, 0, 0) := rfl
theorem xf_208_4 : xcode 208 4 = some (.invokestatic 175, 3, 133, 0) := rfl
theorem xf_208_7 : xcode 208 7 = some (.ifCond .ne 9, 3, 16, 0) := rfl
theorem xf_208_10 : xcode 208 10 = some (.aload_n 0, 1, 0, 0) := rfl
theorem xf_208_11 : xcode 208 11 = some (.iconst 1, 1, 0, 0) := rfl
theorem xf_208_12 : xcode 208 12 = some (.invokevirtual 179, 3, 131, 0) := rfl
theorem xf_208_15 : xcode 208 15 = some (.ireturn, 1, 0, 0) := rfl
theorem xf_208_16 : xcode 208 16 = some (.aload_n 0, 1, 0, 0) := rfl
theorem xf_208_17 : xcode 208 17 = some (.iconst 0, 1, 0, 0) := rfl
theorem xf_208_18 : xcode 208 18 = some (.putfield 93, 3, 11, 0) := rfl
theorem xf_208_21 : xcode 208 21 = some (.iload_n 1, 1, 0, 0) := rfl
theorem xf_208_22 : xcode 208 22 = some (.tableswitch 68 0 5 #[38, 43, 48, 53, 58, 63], 38, 0, 0) := rfl
theorem xf_208_60 : xcode 208 60 = some (.aload_n 0, 1, 0, 0) := rfl
theorem xf_208_61 : xcode 208 61 = some (.getfield 25, 3, 11, 6) := rfl
theorem xf_208_64 : xcode 208 64 = some (.ireturn, 1, 0, 0) := rfl
theorem xf_208_65 : xcode 208 65 = some (.aload_n 0, 1, 0, 0) := rfl
theorem xf_208_66 : xcode 208 66 = some (.getfield 29, 3, 11, 7) := rfl
theorem xf_208_69 : xcode 208 69 = some (.ireturn, 1, 0, 0) := rfl
theorem xf_208_70 : xcode 208 70 = some (.aload_n 0, 1, 0, 0) := rfl
theorem xf_208_71 : xcode 208 71 = some (.invokevirtual 132, 3, 139, 0) := rfl
theorem xf_208_74 : xcode 208 74 = some (.ireturn, 1, 0, 0) := rfl
theorem xf_208_75 : xcode 208 75 = some (.aload_n 0, 1, 0, 0) := rfl
theorem xf_208_76 : xcode 208 76 = some (.getfield 169, 3, 11, 12) := rfl
theorem xf_208_79 : xcode 208 79 = some (.ireturn, 1, 0, 0) := rfl
theorem xf_208_80 : xcode 208 80 = some (.aload_n 0, 1, 0, 0) := rfl
theorem xf_208_81 : xcode 208 81 = some (.getfield 282, 3, 11, 13) := rfl
theorem xf_208_84 : xcode 208 84 = some (.ireturn, 1, 0, 0) := rfl
theorem xf_208_85 : xcode 208 85 = some (.aload_n 0, 1, 0, 0) := rfl
theorem xf_208_86 : xcode 208 86 = some (.getfield 183, 3, 11, 26) := rfl
theorem xf_208_89 : xcode 208 89 = some (.ireturn, 1, 0, 0) := rfl
theorem xf_208_90 : xcode 208 90 = some (.aload_n 0, 1, 0, 0) := rfl
theorem xf_208_91 : xcode 208 91 = some (.getfield 291, 3, 11, 39) := rfl
theorem xf_208_94 : xcode 208 94 = some (.ireturn, 1, 0, 0) := rfl
theorem xf_209_0 : xcode 209 0 = some (.iconst 0, 1, 0, 0) := rfl
theorem xf_209_1 : xcode 209 1 = some (.istore_n 3, 1, 0, 0) := rfl
theorem xf_209_2 : xcode 209 2 = some (.iload_n 3, 1, 0, 0) := rfl
theorem xf_209_3 : xcode 209 3 = some (.aload_n 1, 1, 0, 0) := rfl
theorem xf_209_4 : xcode 209 4 = some (.arraylength, 1, 0, 0) := rfl
theorem xf_209_5 : xcode 209 5 = some (.if_icmp .ge 47, 3, 52, 0) := rfl
theorem xf_209_8 : xcode 209 8 = some (.aload_n 0, 1, 0, 0) := rfl
theorem xf_209_9 : xcode 209 9 = some (.getfield 294, 3, 11, 42) := rfl
theorem xf_209_12 : xcode 209 12 = some (.ifCond .eq 15, 3, 27, 0) := rfl
theorem xf_209_15 : xcode 209 15 = some (.aload_n 2, 1, 0, 0) := rfl
theorem xf_209_16 : xcode 209 16 = some (.aload_n 0, 1, 0, 0) := rfl
theorem xf_209_17 : xcode 209 17 = some (.getfield 297, 3, 11, 40) := rfl
theorem xf_209_20 : xcode 209 20 = some (.aload_n 1, 1, 0, 0) := rfl
theorem xf_209_21 : xcode 209 21 = some (.iload_n 3, 1, 0, 0) := rfl
theorem xf_209_22 : xcode 209 22 = some (.iaload, 1, 0, 0) := rfl
theorem xf_209_23 : xcode 209 23 = some (.iastore, 1, 0, 0) := rfl
theorem xf_209_24 : xcode 209 24 = some (.goto 12, 3, 36, 0) := rfl
theorem xf_209_27 : xcode 209 27 = some (.aload_n 1, 1, 0, 0) := rfl
theorem xf_209_28 : xcode 209 28 = some (.iload_n 3, 1, 0, 0) := rfl
theorem xf_209_29 : xcode 209 29 = some (.aload_n 2, 1, 0, 0) := rfl
theorem xf_209_30 : xcode 209 30 = some (.aload_n 0, 1, 0, 0) := rfl
theorem xf_209_31 : xcode 209 31 = some (.getfield 297, 3, 11, 40) := rfl
theorem xf_209_34 : xcode 209 34 = some (.iaload, 1, 0, 0) := rfl
theorem xf_209_35 : xcode 209 35 = some (.iastore, 1, 0, 0) := rfl
theorem xf_209_36 : xcode 209 36 = some (.aload_n 0, 1, 0, 0) := rfl
theorem xf_209_37 : xcode 209 37 = some (.dup, 1, 0, 0) := rfl
theorem xf_209_38 : xcode 209 38 = some (.getfield 297, 3, 11, 40) := rfl
theorem xf_209_41 : xcode 209 41 = some (.iconst 1, 1, 0, 0) := rfl
theorem xf_209_42 : xcode 209 42 = some (.iadd, 1, 0, 0) := rfl
theorem xf_209_43 : xcode 209 43 = some (.putfield 297, 3, 11, 40) := rfl
theorem xf_209_46 : xcode 209 46 = some (.iinc 3 1, 3, 0, 0) := rfl
theorem xf_209_49 : xcode 209 49 = some (.goto (-47), 3, 2, 0) := rfl
theorem xf_209_52 : xcode 209 52 = some (.return_, 1, 0, 0) := rfl
theorem xf_210_0 : xcode 210 0 = some (.aload_n 0, 1, 0, 0) := rfl
theorem xf_210_1 : xcode 210 1 = some (.getfield 294, 3, 11, 42) := rfl
theorem xf_210_4 : xcode 210 4 = some (.ifCond .eq 7, 3, 11, 0) := rfl
theorem xf_210_7 : xcode 210 7 = some (.iload_n 1, 1, 0, 0) := rfl
theorem xf_210_8 : xcode 210 8 = some (.goto 9, 3, 17, 0) := rfl
theorem xf_210_11 : xcode 210 11 = some (.aload_n 2, 1, 0, 0) := rfl
theorem xf_210_12 : xcode 210 12 = some (.aload_n 0, 1, 0, 0) := rfl
theorem xf_210_13 : xcode 210 13 = some (.getfield 297, 3, 11, 40) := rfl
theorem xf_210_16 : xcode 210 16 = some (.iaload, 1, 0, 0) := rfl
theorem xf_210_17 : xcode 210 17 = some (.istore_n 3, 1, 0, 0) := rfl
theorem xf_210_18 : xcode 210 18 = some (.aload_n 2, 1, 0, 0) := rfl
theorem xf_210_19 : xcode 210 19 = some (.aload_n 0, 1, 0, 0) := rfl
theorem xf_210_20 : xcode 210 20 = some (.getfield 297, 3, 11, 40) := rfl
theorem xf_210_23 : xcode 210 23 = some (.iload_n 3, 1, 0, 0) := rfl
theorem xf_210_24 : xcode 210 24 = some (.iastore, 1, 0, 0) := rfl
theorem xf_210_25 : xcode 210 25 = some (.aload_n 0, 1, 0, 0) := rfl
theorem xf_210_26 : xcode 210 26 = some (.dup, 1, 0, 0) := rfl
theorem xf_210_27 : xcode 210 27 = some (.getfield 297, 3, 11, 40) := rfl
theorem xf_210_30 : xcode 210 30 = some (.iconst 1, 1, 0, 0) := rfl
theorem xf_210_31 : xcode 210 31 = some (.iadd, 1, 0, 0) := rfl
theorem xf_210_32 : xcode 210 32 = some (.putfield 297, 3, 11, 40) := rfl
theorem xf_210_35 : xcode 210 35 = some (.iload_n 3, 1, 0, 0) := rfl
theorem xf_210_36 : xcode 210 36 = some (.ireturn, 1, 0, 0) := rfl
theorem xf_211_0 : xcode 211 0 = some (.aload_n 0, 1, 0, 0) := rfl
theorem xf_211_1 : xcode 211 1 = some (.iload_n 3, 1, 0, 0) := rfl
theorem xf_211_2 : xcode 211 2 = some (.putfield 294, 3, 11, 42) := rfl
theorem xf_211_5 : xcode 211 5 = some (.aload_n 0, 1, 0, 0) := rfl
theorem xf_211_6 : xcode 211 6 = some (.iload_n 2, 1, 0, 0) := rfl
theorem xf_211_7 : xcode 211 7 = some (.putfield 297, 3, 11, 40) := rfl
theorem xf_211_10 : xcode 211 10 = some (.aload_n 0, 1, 0, 0) := rfl
theorem xf_211_11 : xcode 211 11 = some (.aload_n 0, 1, 0, 0) := rfl
theorem xf_211_12 : xcode 211 12 = some (.getfield 7, 3, 11, 1) := rfl
theorem xf_211_15 : xcode 211 15 = some (.aload_n 1, 1, 0, 0) := rfl
theorem xf_211_16 : xcode 211 16 = some (.invokevirtual 300, 3, 209, 0) := rfl
theorem xf_211_19 : xcode 211 19 = some (.aload_n 0, 1, 0, 0) := rfl
theorem xf_211_20 : xcode 211 20 = some (.aload_n 0, 1, 0, 0) := rfl
theorem xf_211_21 : xcode 211 21 = some (.getfield 13, 3, 11, 2) := rfl
theorem xf_211_24 : xcode 211 24 = some (.aload_n 1, 1, 0, 0) := rfl
theorem xf_211_25 : xcode 211 25 = some (.invokevirtual 300, 3, 209, 0) := rfl
theorem xf_211_28 : xcode 211 28 = some (.aload_n 0, 1, 0, 0) := rfl
theorem xf_211_29 : xcode 211 29 = some (.aload_n 0, 1, 0, 0) := rfl
theorem xf_211_30 : xcode 211 30 = some (.getfield 16, 3, 11, 3) := rfl
theorem xf_211_33 : xcode 211 33 = some (.aload_n 1, 1, 0, 0) := rfl
theorem xf_211_34 : xcode 211 34 = some (.invokevirtual 300, 3, 209, 0) := rfl
theorem xf_211_37 : xcode 211 37 = some (.aload_n 0, 1, 0, 0) := rfl
theorem xf_211_38 : xcode 211 38 = some (.aload_n 0, 1, 0, 0) := rfl
theorem xf_211_39 : xcode 211 39 = some (.getfield 19, 3, 11, 4) := rfl
theorem xf_211_42 : xcode 211 42 = some (.aload_n 1, 1, 0, 0) := rfl
theorem xf_211_43 : xcode 211 43 = some (.invokevirtual 300, 3, 209, 0) := rfl
theorem xf_211_46 : xcode 211 46 = some (.aload_n 0, 1, 0, 0) := rfl
theorem xf_211_47 : xcode 211 47 = some (.aload_n 0, 1, 0, 0) := rfl
theorem xf_211_48 : xcode 211 48 = some (.getfield 22, 3, 11, 5) := rfl
theorem xf_211_51 : xcode 211 51 = some (.aload_n 1, 1, 0, 0) := rfl
theorem xf_211_52 : xcode 211 52 = some (.invokevirtual 300, 3, 209, 0) := rfl
theorem xf_211_55 : xcode 211 55 = some (.aload_n 0, 1, 0, 0) := rfl
theorem xf_211_56 : xcode 211 56 = some (.aload_n 0, 1, 0, 0) := rfl
theorem xf_211_57 : xcode 211 57 = some (.getfield 42, 3, 11, 16) := rfl
theorem xf_211_60 : xcode 211 60 = some (.aload_n 1, 1, 0, 0) := rfl
theorem xf_211_61 : xcode 211 61 = some (.invokevirtual 300, 3, 209, 0) := rfl
theorem xf_211_64 : xcode 211 64 = some (.aload_n 0, 1, 0, 0) := rfl
theorem xf_211_65 : xcode 211 65 = some (.aload_n 0, 1, 0, 0) := rfl
theorem xf_211_66 : xcode 211 66 = some (.getfield 45, 3, 11, 17) := rfl
theorem xf_211_69 : xcode 211 69 = some (.aload_n 1, 1, 0, 0) := rfl
theorem xf_211_70 : xcode 211 70 = some (.invokevirtual 300, 3, 209, 0) := rfl
theorem xf_211_73 : xcode 211 73 = some (.aload_n 0, 1, 0, 0) := rfl
theorem xf_211_74 : xcode 211 74 = some (.aload_n 0, 1, 0, 0) := rfl
theorem xf_211_75 : xcode 211 75 = some (.getfield 48, 3, 11, 18) := rfl
theorem xf_211_78 : xcode 211 78 = some (.aload_n 1, 1, 0, 0) := rfl
theorem xf_211_79 : xcode 211 79 = some (.invokevirtual 300, 3, 209, 0) := rfl
theorem xf_211_82 : xcode 211 82 = some (.aload_n 0, 1, 0, 0) := rfl
theorem xf_211_83 : xcode 211 83 = some (.aload_n 0, 1, 0, 0) := rfl
theorem xf_211_84 : xcode 211 84 = some (.aload_n 0, 1, 0, 0) := rfl
theorem xf_211_85 : xcode 211 85 = some (.getfield 25, 3, 11, 6) := rfl
theorem xf_211_88 : xcode 211 88 = some (.aload_n 1, 1, 0, 0) := rfl
theorem xf_211_89 : xcode 211 89 = some (.invokevirtual 304, 3, 210, 0) := rfl
theorem xf_211_92 : xcode 211 92 = some (.putfield 25, 3, 11, 6) := rfl
theorem xf_211_95 : xcode 211 95 = some (.aload_n 0, 1, 0, 0) := rfl
theorem xf_211_96 : xcode 211 96 = some (.aload_n 0, 1, 0, 0) := rfl
theorem xf_211_97 : xcode 211 97 = some (.aload_n 0, 1, 0, 0) := rfl
theorem xf_211_98 : xcode 211 98 = some (.getfield 29, 3, 11, 7) := rfl
theorem xf_211_101 : xcode 211 101 = some (.aload_n 1, 1, 0, 0) := rfl
theorem xf_211_102 : xcode 211 102 = some (.invokevirtual 304, 3, 210, 0) := rfl
theorem xf_211_105 : xcode 211 105 = some (.putfield 29, 3, 11, 7) := rfl
theorem xf_211_108 : xcode 211 108 = some (.aload_n 0, 1, 0, 0) := rfl
theorem xf_211_109 : xcode 211 109 = some (.aload_n 0, 1, 0, 0) := rfl
theorem xf_211_110 : xcode 211 110 = some (.aload_n 0, 1, 0, 0) := rfl
theorem xf_211_111 : xcode 211 111 = some (.getfield 141, 3, 11, 8) := rfl
theorem xf_211_114 : xcode 211 114 = some (.aload_n 1, 1, 0, 0) := rfl
theorem xf_211_115 : xcode 211 115 = some (.invokevirtual 304, 3, 210, 0) := rfl
theorem xf_211_118 : xcode 211 118 = some (.putfield 141, 3, 11, 8) := rfl
theorem xf_211_121 : xcode 211 121 = some (.aload_n 0, 1, 0, 0) := rfl
theorem xf_211_122 : xcode 211 122 = some (.aload_n 0, 1, 0, 0) := rfl
theorem xf_211_123 : xcode 211 123 = some (.aload_n 0, 1, 0, 0) := rfl
theorem xf_211_124 : xcode 211 124 = some (.getfield 162, 3, 11, 9) := rfl
theorem xf_211_127 : xcode 211 127 = some (.aload_n 1, 1, 0, 0) := rfl
theorem xf_211_128 : xcode 211 128 = some (.invokevirtual 304, 3, 210, 0) := rfl
theorem xf_211_131 : xcode 211 131 = some (.putfield 162, 3, 11, 9) := rfl
theorem xf_211_134 : xcode 211 134 = some (.aload_n 0, 1, 0, 0) := rfl
theorem xf_211_135 : xcode 211 135 = some (.aload_n 0, 1, 0, 0) := rfl
theorem xf_211_136 : xcode 211 136 = some (.aload_n 0, 1, 0, 0) := rfl
theorem xf_211_137 : xcode 211 137 = some (.getfield 208, 3, 11, 10) := rfl
theorem xf_211_140 : xcode 211 140 = some (.aload_n 1, 1, 0, 0) := rfl
theorem xf_211_141 : xcode 211 141 = some (.invokevirtual 304, 3, 210, 0) := rfl
theorem xf_211_144 : xcode 211 144 = some (.putfield 208, 3, 11, 10) := rfl
theorem xf_211_147 : xcode 211 147 = some (.aload_n 0, 1, 0, 0) := rfl
theorem xf_211_148 : xcode 211 148 = some (.aload_n 0, 1, 0, 0) := rfl
theorem xf_211_149 : xcode 211 149 = some (.aload_n 0, 1, 0, 0) := rfl
theorem xf_211_150 : xcode 211 150 = some (.getfield 32, 3, 11, 11) := rfl
theorem xf_211_153 : xcode 211 153 = some (.aload_n 1, 1, 0, 0) := rfl
theorem xf_211_154 : xcode 211 154 = some (.invokevirtual 304, 3, 210, 0) := rfl
theorem xf_211_157 : xcode 211 157 = some (.putfield 32, 3, 11, 11) := rfl
theorem xf_211_160 : xcode 211 160 = some (.aload_n 0, 1, 0, 0) := rfl
theorem xf_211_161 : xcode 211 161 = some (.aload_n 0, 1, 0, 0) := rfl
theorem xf_211_162 : xcode 211 162 = some (.aload_n 0, 1, 0, 0) := rfl
theorem xf_211_163 : xcode 211 163 = some (.getfield 169, 3, 11, 12) := rfl
theorem xf_211_166 : xcode 211 166 = some (.aload_n 1, 1, 0, 0) := rfl
theorem xf_211_167 : xcode 211 167 = some (.invokevirtual 304, 3, 210, 0) := rfl
theorem xf_211_170 : xcode 211 170 = some (.putfield 169, 3, 11, 12) := rfl
theorem xf_211_173 : xcode 211 173 = some (.aload_n 0, 1, 0, 0) := rfl
theorem xf_211_174 : xcode 211 174 = some (.aload_n 0, 1, 0, 0) := rfl
theorem xf_211_175 : xcode 211 175 = some (.aload_n 0, 1, 0, 0) := rfl
theorem xf_211_176 : xcode 211 176 = some (.getfield 282, 3, 11, 13) := rfl
theorem xf_211_179 : xcode 211 179 = some (.aload_n 1, 1, 0, 0) := rfl
theorem xf_211_180 : xcode 211 180 = some (.invokevirtual 304, 3, 210, 0) := rfl
theorem xf_211_183 : xcode 211 183 = some (.putfield 282, 3, 11, 13) := rfl
theorem xf_211_186 : xcode 211 186 = some (.aload_n 0, 1, 0, 0) := rfl
theorem xf_211_187 : xcode 211 187 = some (.aload_n 0, 1, 0, 0) := rfl
theorem xf_211_188 : xcode 211 188 = some (.aload_n 0, 1, 0, 0) := rfl
theorem xf_211_189 : xcode 211 189 = some (.getfield 146, 3, 11, 19) := rfl
theorem xf_211_192 : xcode 211 192 = some (.aload_n 1, 1, 0, 0) := rfl
theorem xf_211_193 : xcode 211 193 = some (.invokevirtual 304, 3, 210, 0) := rfl
theorem xf_211_196 : xcode 211 196 = some (.putfield 146, 3, 11, 19) := rfl
theorem xf_211_199 : xcode 211 199 = some (.aload_n 0, 1, 0, 0) := rfl
theorem xf_211_200 : xcode 211 200 = some (.aload_n 0, 1, 0, 0) := rfl
theorem xf_211_201 : xcode 211 201 = some (.aload_n 0, 1, 0, 0) := rfl
theorem xf_211_202 : xcode 211 202 = some (.getfield 149, 3, 11, 20) := rfl
theorem xf_211_205 : xcode 211 205 = some (.aload_n 1, 1, 0, 0) := rfl
theorem xf_211_206 : xcode 211 206 = some (.invokevirtual 304, 3, 210, 0) := rfl
theorem xf_211_209 : xcode 211 209 = some (.putfield 149, 3, 11, 20) := rfl
theorem xf_211_212 : xcode 211 212 = some (.aload_n 0, 1, 0, 0) := rfl
theorem xf_211_213 : xcode 211 213 = some (.aload_n 0, 1, 0, 0) := rfl
theorem xf_211_214 : xcode 211 214 = some (.aload_n 0, 1, 0, 0) := rfl
theorem xf_211_215 : xcode 211 215 = some (.getfield 51, 3, 11, 21) := rfl
theorem xf_211_218 : xcode 211 218 = some (.aload_n 1, 1, 0, 0) := rfl
theorem xf_211_219 : xcode 211 219 = some (.invokevirtual 304, 3, 210, 0) := rfl
theorem xf_211_222 : xcode 211 222 = some (.putfield 51, 3, 11, 21) := rfl
theorem xf_211_225 : xcode 211 225 = some (.return_, 1, 0, 0) := rfl
theorem xf_212_0 : xcode 212 0 = some (.aload_n 0, 1, 0, 0) := rfl
theorem xf_212_1 : xcode 212 1 = some (.getfield 291, 3, 11, 39) := rfl
theorem xf_212_4 : xcode 212 4 = some (.bipush 6, 2, 0, 0) := rfl
theorem xf_212_6 : xcode 212 6 = some (.if_icmp .ne 44, 3, 50, 0) := rfl
theorem xf_212_9 : xcode 212 9 = some (.iconst 0, 1, 0, 0) := rfl
theorem xf_212_10 : xcode 212 10 = some (.istore_n 1, 1, 0, 0) := rfl
theorem xf_212_11 : xcode 212 11 = some (.iload_n 1, 1, 0, 0) := rfl
theorem xf_212_12 : xcode 212 12 = some (.sipush 2560, 3, 0, 0) := rfl
theorem xf_212_15 : xcode 212 15 = some (.if_icmp .ge 25, 3, 40, 0) := rfl
theorem xf_212_18 : xcode 212 18 = some (.aload_n 0, 1, 0, 0) := rfl
theorem xf_212_19 : xcode 212 19 = some (.getfield 84, 3, 11, 37) := rfl
theorem xf_212_22 : xcode 212 22 = some (.iload_n 1, 1, 0, 0) := rfl
theorem xf_212_23 : xcode 212 23 = some (.aload_n 0, 1, 0, 0) := rfl
theorem xf_212_24 : xcode 212 24 = some (.getfield 84, 3, 11, 37) := rfl
theorem xf_212_27 : xcode 212 27 = some (.iload_n 1, 1, 0, 0) := rfl
theorem xf_212_28 : xcode 212 28 = some (.sipush 512, 3, 0, 0) := rfl
theorem xf_212_31 : xcode 212 31 = some (.iadd, 1, 0, 0) := rfl
theorem xf_212_32 : xcode 212 32 = some (.iaload, 1, 0, 0) := rfl
theorem xf_212_33 : xcode 212 33 = some (.iastore, 1, 0, 0) := rfl
theorem xf_212_34 : xcode 212 34 = some (.iinc 1 1, 3, 0, 0) := rfl
theorem xf_212_37 : xcode 212 37 = some (.goto (-26), 3, 11, 0) := rfl
theorem xf_212_40 : xcode 212 40 = some (.aload_n 0, 1, 0, 0) := rfl
theorem xf_212_41 : xcode 212 41 = some (.dup, 1, 0, 0) := rfl
theorem xf_212_42 : xcode 212 42 = some (.getfield 291, 3, 11, 39) := rfl
theorem xf_212_45 : xcode 212 45 = some (.iconst 1, 1, 0, 0) := rfl
theorem xf_212_46 : xcode 212 46 = some (.isub, 1, 0, 0) := rfl
theorem xf_212_47 : xcode 212 47 = some (.putfield 291, 3, 11, 39) := rfl
theorem xf_212_50 : xcode 212 50 = some (.aload_n 0, 1, 0, 0) := rfl
theorem xf_212_51 : xcode 212 51 = some (.aload_n 0, 1, 0, 0) := rfl
theorem xf_212_52 : xcode 212 52 = some (.getfield 84, 3, 11, 37) := rfl
theorem xf_212_55 : xcode 212 55 = some (.sipush 512, 3, 0, 0) := rfl
theorem xf_212_58 : xcode 212 58 = some (.aload_n 0, 1, 0, 0) := rfl
theorem xf_212_59 : xcode 212 59 = some (.getfield 291, 3, 11, 39) := rfl
theorem xf_212_62 : xcode 212 62 = some (.imul, 1, 0, 0) := rfl
theorem xf_212_63 : xcode 212 63 = some (.iconst 1, 1, 0, 0) := rfl
theorem xf_212_64 : xcode 212 64 = some (.invokevirtual 308, 3, 211, 0) := rfl
theorem xf_212_67 : xcode 212 67 = some (.aload_n 0, 1, 0, 0) := rfl
theorem xf_212_68 : xcode 212 68 = some (.dup, 1, 0, 0) := rfl
theorem xf_212_69 : xcode 212 69 = some (.getfield 291, 3, 11, 39) := rfl
theorem xf_212_72 : xcode 212 72 = some (.iconst 1, 1, 0, 0) := rfl
theorem xf_212_73 : xcode 212 73 = some (.iadd, 1, 0, 0) := rfl
theorem xf_212_74 : xcode 212 74 = some (.putfield 291, 3, 11, 39) := rfl
theorem xf_212_77 : xcode 212 77 = some (.return_, 1, 0, 0) := rfl
theorem xf_213_0 : xcode 213 0 = some (.aload_n 0, 1, 0, 0) := rfl
theorem xf_213_1 : xcode 213 1 = some (.getfield 291, 3, 11, 39) := rfl
theorem xf_213_4 : xcode 213 4 = some (.ifCond .ne 9, 3, 13, 0) := rfl
theorem xf_213_7 : xcode 213 7 = some (.aload_n 0, 1, 0, 0) := rfl
theorem xf_213_8 : xcode 213 8 = some (.iconst 1, 1, 0, 0) := rfl
theorem xf_213_9 : xcode 213 9 = some (.invokevirtual 179, 3, 131, 0) := rfl
theorem xf_213_12 : xcode 213 12 = some (.ireturn, 1, 0, 0) := rfl
theorem xf_213_13 : xcode 213 13 = some (.aload_n 0, 1, 0, 0) := rfl
theorem xf_213_14 : xcode 213 14 = some (.iconst 0, 1, 0, 0) := rfl
theorem xf_213_15 : xcode 213 15 = some (.putfield 93, 3, 11, 0) := rfl
theorem xf_213_18 : xcode 213 18 = some (.aload_n 0, 1, 0, 0) := rfl
theorem xf_213_19 : xcode 213 19 = some (.dup, 1, 0, 0) := rfl
theorem xf_213_20 : xcode 213 20 = some (.getfield 291, 3, 11, 39) := rfl
theorem xf_213_23 : xcode 213 23 = some (.iconst 1, 1, 0, 0) := rfl
theorem xf_213_24 : xcode 213 24 = some (.isub, 1, 0, 0) := rfl
theorem xf_213_25 : xcode 213 25 = some (.putfield 291, 3, 11, 39) := rfl
theorem xf_213_28 : xcode 213 28 = some (.aload_n 0, 1, 0, 0) := rfl
theorem xf_213_29 : xcode 213 29 = some (.aload_n 0, 1, 0, 0) := rfl
theorem xf_213_30 : xcode 213 30 = some (.getfield 84, 3, 11, 37) := rfl
theorem xf_213_33 : xcode 213 33 = some (.sipush 512, 3, 0, 0) := rfl
theorem xf_213_36 : xcode 213 36 = some (.aload_n 0, 1, 0, 0) := rfl
theorem xf_213_37 : xcode 213 37 = some (.getfield 291, 3, 11, 39) := rfl
theorem xf_213_40 : xcode 213 40 = some (.imul, 1, 0, 0) := rfl
theorem xf_213_41 : xcode 213 41 = some (.iconst 0, 1, 0, 0) := rfl
theorem xf_213_42 : xcode 213 42 = some (.invokevirtual 308, 3, 211, 0) := rfl
theorem xf_213_45 : xcode 213 45 = some (.aload_n 0, 1, 0, 0) := rfl
theorem xf_213_46 : xcode 213 46 = some (.getfield 291, 3, 11, 39) := rfl
theorem xf_213_49 : xcode 213 49 = some (.ireturn, 1, 0, 0) := rfl
theorem xf_214_0 : xcode 214 0 = some (.aload_n 0, 1, 0, 0) := rfl
theorem xf_214_1 : xcode 214 1 = some (.iconst 0, 1, 0, 0) := rfl
theorem xf_214_2 : xcode 214 2 = some (.putfield 93, 3, 11, 0) := rfl
theorem xf_214_5 : xcode 214 5 = some (.aload_n 0, 1, 0, 0) := rfl
theorem xf_214_6 : xcode 214 6 = some (.iconst 1, 1, 0, 0) := rfl
theorem xf_214_7 : xcode 214 7 = some (.putfield 312, 3, 11, 41) := rfl
theorem xf_214_10 : xcode 214 10 = some (.aload_n 0, 1, 0, 0) := rfl
theorem xf_214_11 : xcode 214 11 = some (.aload_n 0, 1, 0, 0) := rfl
theorem xf_214_12 : xcode 214 12 = some (.getfield 87, 3, 11, 38) := rfl
theorem xf_214_15 : xcode 214 15 = some (.iconst 0, 1, 0, 0) := rfl
theorem xf_214_16 : xcode 214 16 = some (.iconst 1, 1, 0, 0) := rfl
theorem xf_214_17 : xcode 214 17 = some (.invokevirtual 308, 3, 211, 0) := rfl
theorem xf_214_20 : xcode 214 20 = some (.aload_n 0, 1, 0, 0) := rfl
theorem xf_214_21 : xcode 214 21 = some (.invokevirtual 132, 3, 139, 0) := rfl
theorem xf_214_24 : xcode 214 24 = some (.ireturn, 1, 0, 0) := rfl
theorem xf_215_0 : xcode 215 0 = some (.aload_n 0, 1, 0, 0) := rfl
theorem xf_215_1 : xcode 215 1 = some (.getfield 312, 3, 11, 41) := rfl
theorem xf_215_4 : xcode 215 4 = some (.ifCond .ne 9, 3, 13, 0) := rfl
theorem xf_215_7 : xcode 215 7 = some (.aload_n 0, 1, 0, 0) := rfl
theorem xf_215_8 : xcode 215 8 = some (.iconst 1, 1, 0, 0) := rfl
theorem xf_215_9 : xcode 215 9 = some (.invokevirtual 179, 3, 131, 0) := rfl
theorem xf_215_12 : xcode 215 12 = some (.ireturn, 1, 0, 0) := rfl
theorem xf_215_13 : xcode 215 13 = some (.aload_n 0, 1, 0, 0) := rfl
theorem xf_215_14 : xcode 215 14 = some (.iconst 0, 1, 0, 0) := rfl
theorem xf_215_15 : xcode 215 15 = some (.putfield 93, 3, 11, 0) := rfl
theorem xf_215_18 : xcode 215 18 = some (.aload_n 0, 1, 0, 0) := rfl
theorem xf_215_19 : xcode 215 19 = some (.invokevirtual 202, 3, 212, 0) := rfl
theorem xf_215_22 : xcode 215 22 = some (.aload_n 0, 1, 0, 0) := rfl
theorem xf_215_23 : xcode 215 23 = some (.aload_n 0, 1, 0, 0) := rfl
theorem xf_215_24 : xcode 215 24 = some (.getfield 87, 3, 11, 38) := rfl
theorem xf_215_27 : xcode 215 27 = some (.iconst 0, 1, 0, 0) := rfl
theorem xf_215_28 : xcode 215 28 = some (.iconst 0, 1, 0, 0) := rfl
theorem xf_215_29 : xcode 215 29 = some (.invokevirtual 308, 3, 211, 0) := rfl
theorem xf_215_32 : xcode 215 32 = some (.aload_n 0, 1, 0, 0) := rfl
theorem xf_215_33 : xcode 215 33 = some (.invokevirtual 132, 3, 139, 0) := rfl
theorem xf_215_36 : xcode 215 36 = some (.ireturn, 1, 0, 0) := rfl
theorem xf_216_0 : xcode 216 0 = some (.dload_n 0, 1, 0, 0) := rfl
theorem xf_216_1 : xcode 216 1 = some (.dload_n 0, 1, 0, 0) := rfl
theorem xf_216_2 : xcode 216 2 = some (.dcmp .l, 1, 0, 0) := rfl
theorem xf_216_3 : xcode 216 3 = some (.ifCond .eq 7, 3, 10, 0) := rfl
theorem xf_216_6 : xcode 216 6 = some (.iconst 1, 1, 0, 0) := rfl
theorem xf_216_7 : xcode 216 7 = some (.goto 4, 3, 11, 0) := rfl
theorem xf_216_10 : xcode 216 10 = some (.iconst 0, 1, 0, 0) := rfl
theorem xf_216_11 : xcode 216 11 = some (.ireturn, 1, 0, 0) := rfl
theorem xf_217_0 : xcode 217 0 = some (.dload_n 0, 1, 0, 0) := rfl
theorem xf_217_1 : xcode 217 1 = some (.invokestatic 122, 3, 216, 0) := rfl
theorem xf_217_4 : xcode 217 4 = some (.ifCond .ne 8, 3, 12, 0) := rfl
theorem xf_217_7 : xcode 217 7 = some (.dload_n 0, 1, 0, 0) := rfl
theorem xf_217_8 : xcode 217 8 = some (.invokestatic 134, 3, 1, 1) := rfl
theorem xf_217_11 : xcode 217 11 = some (.lreturn, 1, 0, 0) := rfl
theorem xf_217_12 : xcode 217 12 = some (.ldc2_w 137, 3, 13, 0) := rfl
theorem xf_217_15 : xcode 217 15 = some (.lreturn, 1, 0, 0) := rfl
theorem xf_218_0 : xcode 218 0 = some (.fload_n 0, 1, 0, 0) := rfl
theorem xf_218_1 : xcode 218 1 = some (.fload_n 0, 1, 0, 0) := rfl
theorem xf_218_2 : xcode 218 2 = some (.fcmp .l, 1, 0, 0) := rfl
theorem xf_218_3 : xcode 218 3 = some (.ifCond .eq 7, 3, 10, 0) := rfl
theorem xf_218_6 : xcode 218 6 = some (.iconst 1, 1, 0, 0) := rfl
theorem xf_218_7 : xcode 218 7 = some (.goto 4, 3, 11, 0) := rfl
theorem xf_218_10 : xcode 218 10 = some (.iconst 0, 1, 0, 0) := rfl
theorem xf_218_11 : xcode 218 11 = some (.ireturn, 1, 0, 0) := rfl
theorem xf_219_0 : xcode 219 0 = some (.fload_n 0, 1, 0, 0) := rfl
theorem xf_219_1 : xcode 219 1 = some (.invokestatic 59, 3, 218, 0) := rfl
theorem xf_219_4 : xcode 219 4 = some (.ifCond .ne 8, 3, 12, 0) := rfl
theorem xf_219_7 : xcode 219 7 = some (.fload_n 0, 1, 0, 0) := rfl
theorem xf_219_8 : xcode 219 8 = some (.invokestatic 74, 3, 2, 1) := rfl
theorem xf_219_11 : xcode 219 11 = some (.ireturn, 1, 0, 0) := rfl
theorem xf_219_12 : xcode 219 12 = some (.ldc 77, 2, 14, 0) := rfl
theorem xf_219_14 : xcode 219 14 = some (.ireturn, 1, 0, 0) := rfl
theorem xf_220_0 : xcode 220 0 = some (.iload_n 0, 1, 0, 0) := rfl
theorem xf_220_1 : xcode 220 1 = some (.iload_n 1, 1, 0, 0) := rfl
theorem xf_220_2 : xcode 220 2 = some (.if_icmp .lt 7, 3, 9, 0) := rfl
theorem xf_220_5 : xcode 220 5 = some (.iload_n 0, 1, 0, 0) := rfl
theorem xf_220_6 : xcode 220 6 = some (.goto 4, 3, 10, 0) := rfl
theorem xf_220_9 : xcode 220 9 = some (.iload_n 1, 1, 0, 0) := rfl
theorem xf_220_10 : xcode 220 10 = some (.ireturn, 1, 0, 0) := rfl
theorem xf_221_0 : xcode 221 0 = some (.lload_n 0, 1, 0, 0) := rfl
theorem xf_221_1 : xcode 221 1 = some (.lload_n 2, 1, 0, 0) := rfl
theorem xf_221_2 : xcode 221 2 = some (.lcmp, 1, 0, 0) := rfl
theorem xf_221_3 : xcode 221 3 = some (.ifCond .lt 7, 3, 10, 0) := rfl
theorem xf_221_6 : xcode 221 6 = some (.lload_n 0, 1, 0, 0) := rfl
theorem xf_221_7 : xcode 221 7 = some (.goto 4, 3, 11, 0) := rfl
theorem xf_221_10 : xcode 221 10 = some (.lload_n 2, 1, 0, 0) := rfl
theorem xf_221_11 : xcode 221 11 = some (.lreturn, 1, 0, 0) := rfl
theorem xf_222_0 : xcode 222 0 = some (.iload_n 0, 1, 0, 0) := rfl
theorem xf_222_1 : xcode 222 1 = some (.iload_n 1, 1, 0, 0) := rfl
theorem xf_222_2 : xcode 222 2 = some (.if_icmp .gt 7, 3, 9, 0) := rfl
theorem xf_222_5 : xcode 222 5 = some (.iload_n 0, 1, 0, 0) := rfl
theorem xf_222_6 : xcode 222 6 = some (.goto 4, 3, 10, 0) := rfl
theorem xf_222_9 : xcode 222 9 = some (.iload_n 1, 1, 0, 0) := rfl
theorem xf_222_10 : xcode 222 10 = some (.ireturn, 1, 0, 0) := rfl
theorem xf_223_0 : xcode 223 0 = some (.aload_n 2, 1, 0, 0) := rfl
theorem xf_223_1 : xcode 223 1 = some (.iconst 0, 1, 0, 0) := rfl
theorem xf_223_2 : xcode 223 2 = some (.aload_n 0, 1, 0, 0) := rfl
theorem xf_223_3 : xcode 223 3 = some (.iload_n 1, 1, 0, 0) := rfl
theorem xf_223_4 : xcode 223 4 = some (.invokevirtual 7, 3, 71, 0) := rfl
theorem xf_223_7 : xcode 223 7 = some (.i2l, 1, 0, 0) := rfl
theorem xf_223_8 : xcode 223 8 = some (.lastore, 1, 0, 0) := rfl
theorem xf_223_9 : xcode 223 9 = some (.goto 9, 3, 18, 0) := rfl
theorem xf_223_12 : xcode 223 12 = some (.astore_n 3, 1, 0, 0) := rfl
theorem xf_223_13 : xcode 223 13 = some (.iconst 1, 1, 0, 0) := rfl
theorem xf_223_14 : xcode 223 14 = some (.ireturn, 1, 0, 0) := rfl
theorem xf_223_15 : xcode 223 15 = some (.astore_n 3, 1, 0, 0) := rfl
theorem xf_223_16 : xcode 223 16 = some (.iconst 2, 1, 0, 0) := rfl
theorem xf_223_17 : xcode 223 17 = some (.ireturn, 1, 0, 0) := rfl
theorem xf_223_18 : xcode 223 18 = some (.iconst 0, 1, 0, 0) := rfl
theorem xf_223_19 : xcode 223 19 = some (.ireturn, 1, 0, 0) := rfl
theorem xf_224_0 : xcode 224 0 = some (.aload_n 1, 1, 0, 0) := rfl
theorem xf_224_1 : xcode 224 1 = some (.iconst 0, 1, 0, 0) := rfl
theorem xf_224_2 : xcode 224 2 = some (.aload_n 0, 1, 0, 0) := rfl
theorem xf_224_3 : xcode 224 3 = some (.invokevirtual 17, 3, 72, 0) := rfl
theorem xf_224_6 : xcode 224 6 = some (.i2l, 1, 0, 0) := rfl
theorem xf_224_7 : xcode 224 7 = some (.lastore, 1, 0, 0) := rfl
theorem xf_224_8 : xcode 224 8 = some (.goto 6, 3, 14, 0) := rfl
theorem xf_224_11 : xcode 224 11 = some (.astore_n 2, 1, 0, 0) := rfl
theorem xf_224_12 : xcode 224 12 = some (.iconst 1, 1, 0, 0) := rfl
theorem xf_224_13 : xcode 224 13 = some (.ireturn, 1, 0, 0) := rfl
theorem xf_224_14 : xcode 224 14 = some (.iconst 0, 1, 0, 0) := rfl
theorem xf_224_15 : xcode 224 15 = some (.ireturn, 1, 0, 0) := rfl
theorem xf_225_0 : xcode 225 0 = some (.aload_n 3, 1, 0, 0) := rfl
theorem xf_225_1 : xcode 225 1 = some (.iconst 0, 1, 0, 0) := rfl
theorem xf_225_2 : xcode 225 2 = some (.aload_n 0, 1, 0, 0) := rfl
theorem xf_225_3 : xcode 225 3 = some (.iload_n 1, 1, 0, 0) := rfl
theorem xf_225_4 : xcode 225 4 = some (.iload_n 2, 1, 0, 0) := rfl
theorem xf_225_5 : xcode 225 5 = some (.invokevirtual 21, 3, 74, 0) := rfl
theorem xf_225_8 : xcode 225 8 = some (.ifCond .eq 7, 3, 15, 0) := rfl
theorem xf_225_11 : xcode 225 11 = some (.lconst 1, 1, 0, 0) := rfl
theorem xf_225_12 : xcode 225 12 = some (.goto 4, 3, 16, 0) := rfl
theorem xf_225_15 : xcode 225 15 = some (.lconst 0, 1, 0, 0) := rfl
theorem xf_225_16 : xcode 225 16 = some (.lastore, 1, 0, 0) := rfl
theorem xf_225_17 : xcode 225 17 = some (.goto 11, 3, 28, 0) := rfl
theorem xf_225_20 : xcode 225 20 = some (.astore 4, 2, 0, 0) := rfl
theorem xf_225_22 : xcode 225 22 = some (.iconst 1, 1, 0, 0) := rfl
theorem xf_225_23 : xcode 225 23 = some (.ireturn, 1, 0, 0) := rfl
theorem xf_225_24 : xcode 225 24 = some (.astore 4, 2, 0, 0) := rfl
theorem xf_225_26 : xcode 225 26 = some (.iconst 2, 1, 0, 0) := rfl
theorem xf_225_27 : xcode 225 27 = some (.ireturn, 1, 0, 0) := rfl
theorem xf_225_28 : xcode 225 28 = some (.iconst 0, 1, 0, 0) := rfl
theorem xf_225_29 : xcode 225 29 = some (.ireturn, 1, 0, 0) := rfl
theorem xf_226_0 : xcode 226 0 = some (.aload_n 3, 1, 0, 0) := rfl
theorem xf_226_1 : xcode 226 1 = some (.iconst 0, 1, 0, 0) := rfl
theorem xf_226_2 : xcode 226 2 = some (.aload_n 0, 1, 0, 0) := rfl
theorem xf_226_3 : xcode 226 3 = some (.iload_n 1, 1, 0, 0) := rfl
theorem xf_226_4 : xcode 226 4 = some (.iload_n 2, 1, 0, 0) := rfl
theorem xf_226_5 : xcode 226 5 = some (.invokevirtual 27, 3, 75, 0) := rfl
theorem xf_226_8 : xcode 226 8 = some (.i2l, 1, 0, 0) := rfl
theorem xf_226_9 : xcode 226 9 = some (.lastore, 1, 0, 0) := rfl
theorem xf_226_10 : xcode 226 10 = some (.goto 15, 3, 25, 0) := rfl
theorem xf_226_13 : xcode 226 13 = some (.astore 4, 2, 0, 0) := rfl
theorem xf_226_15 : xcode 226 15 = some (.iconst 1, 1, 0, 0) := rfl
theorem xf_226_16 : xcode 226 16 = some (.ireturn, 1, 0, 0) := rfl
theorem xf_226_17 : xcode 226 17 = some (.astore 4, 2, 0, 0) := rfl
theorem xf_226_19 : xcode 226 19 = some (.iconst 2, 1, 0, 0) := rfl
theorem xf_226_20 : xcode 226 20 = some (.ireturn, 1, 0, 0) := rfl
theorem xf_226_21 : xcode 226 21 = some (.astore 4, 2, 0, 0) := rfl
theorem xf_226_23 : xcode 226 23 = some (.iconst 3, 1, 0, 0) := rfl
theorem xf_226_24 : xcode 226 24 = some (.ireturn, 1, 0, 0) := rfl
theorem xf_226_25 : xcode 226 25 = some (.iconst 0, 1, 0, 0) := rfl
theorem xf_226_26 : xcode 226 26 = some (.ireturn, 1, 0, 0) := rfl
theorem xf_227_0 : xcode 227 0 = some (.aload_n 3, 1, 0, 0) := rfl
theorem xf_227_1 : xcode 227 1 = some (.iconst 0, 1, 0, 0) := rfl
theorem xf_227_2 : xcode 227 2 = some (.aload_n 0, 1, 0, 0) := rfl
theorem xf_227_3 : xcode 227 3 = some (.iload_n 1, 1, 0, 0) := rfl
theorem xf_227_4 : xcode 227 4 = some (.iload_n 2, 1, 0, 0) := rfl
theorem xf_227_5 : xcode 227 5 = some (.invokevirtual 31, 3, 76, 0) := rfl
theorem xf_227_8 : xcode 227 8 = some (.i2l, 1, 0, 0) := rfl
theorem xf_227_9 : xcode 227 9 = some (.lastore, 1, 0, 0) := rfl
theorem xf_227_10 : xcode 227 10 = some (.goto 15, 3, 25, 0) := rfl
theorem xf_227_13 : xcode 227 13 = some (.astore 4, 2, 0, 0) := rfl
theorem xf_227_15 : xcode 227 15 = some (.iconst 1, 1, 0, 0) := rfl
theorem xf_227_16 : xcode 227 16 = some (.ireturn, 1, 0, 0) := rfl
theorem xf_227_17 : xcode 227 17 = some (.astore 4, 2, 0, 0) := rfl
theorem xf_227_19 : xcode 227 19 = some (.iconst 2, 1, 0, 0) := rfl
theorem xf_227_20 : xcode 227 20 = some (.ireturn, 1, 0, 0) := rfl
theorem xf_227_21 : xcode 227 21 = some (.astore 4, 2, 0, 0) := rfl
theorem xf_227_23 : xcode 227 23 = some (.iconst 3, 1, 0, 0) := rfl
theorem xf_227_24 : xcode 227 24 = some (.ireturn, 1, 0, 0) := rfl
theorem xf_227_25 : xcode 227 25 = some (.iconst 0, 1, 0, 0) := rfl
theorem xf_227_26 : xcode 227 26 = some (.ireturn, 1, 0, 0) := rfl
theorem xf_228_0 : xcode 228 0 = some (.aload 4, 2, 0, 0) := rfl
theorem xf_228_2 : xcode 228 2 = some (.iconst 0, 1, 0, 0) := rfl
theorem xf_228_3 : xcode 228 3 = some (.aload_n 0, 1, 0, 0) := rfl
theorem xf_228_4 : xcode 228 4 = some (.iload_n 1, 1, 0, 0) := rfl
theorem xf_228_5 : xcode 228 5 = some (.iload_n 2, 1, 0, 0) := rfl
theorem xf_228_6 : xcode 228 6 = some (.iload_n 3, 1, 0, 0) := rfl
theorem xf_228_7 : xcode 228 7 = some (.invokevirtual 34, 3, 77, 0) := rfl
theorem xf_228_10 : xcode 228 10 = some (.i2l, 1, 0, 0) := rfl
theorem xf_228_11 : xcode 228 11 = some (.lastore, 1, 0, 0) := rfl
theorem xf_228_12 : xcode 228 12 = some (.goto 7, 3, 19, 0) := rfl
theorem xf_228_15 : xcode 228 15 = some (.astore 5, 2, 0, 0) := rfl
theorem xf_228_17 : xcode 228 17 = some (.iconst 1, 1, 0, 0) := rfl
theorem xf_228_18 : xcode 228 18 = some (.ireturn, 1, 0, 0) := rfl
theorem xf_228_19 : xcode 228 19 = some (.iconst 0, 1, 0, 0) := rfl
theorem xf_228_20 : xcode 228 20 = some (.ireturn, 1, 0, 0) := rfl
theorem xf_229_0 : xcode 229 0 = some (.aload 4, 2, 0, 0) := rfl
theorem xf_229_2 : xcode 229 2 = some (.iconst 0, 1, 0, 0) := rfl
theorem xf_229_3 : xcode 229 3 = some (.aload_n 0, 1, 0, 0) := rfl
theorem xf_229_4 : xcode 229 4 = some (.iload_n 1, 1, 0, 0) := rfl
theorem xf_229_5 : xcode 229 5 = some (.iload_n 2, 1, 0, 0) := rfl
theorem xf_229_6 : xcode 229 6 = some (.iload_n 3, 1, 0, 0) := rfl
theorem xf_229_7 : xcode 229 7 = some (.invokevirtual 38, 3, 78, 0) := rfl
theorem xf_229_10 : xcode 229 10 = some (.i2l, 1, 0, 0) := rfl
theorem xf_229_11 : xcode 229 11 = some (.lastore, 1, 0, 0) := rfl
theorem xf_229_12 : xcode 229 12 = some (.goto 11, 3, 23, 0) := rfl
theorem xf_229_15 : xcode 229 15 = some (.astore 5, 2, 0, 0) := rfl
theorem xf_229_17 : xcode 229 17 = some (.iconst 1, 1, 0, 0) := rfl
theorem xf_229_18 : xcode 229 18 = some (.ireturn, 1, 0, 0) := rfl
theorem xf_229_19 : xcode 229 19 = some (.astore 5, 2, 0, 0) := rfl
theorem xf_229_21 : xcode 229 21 = some (.iconst 2, 1, 0, 0) := rfl
theorem xf_229_22 : xcode 229 22 = some (.ireturn, 1, 0, 0) := rfl
theorem xf_229_23 : xcode 229 23 = some (.iconst 0, 1, 0, 0) := rfl
theorem xf_229_24 : xcode 229 24 = some (.ireturn, 1, 0, 0) := rfl
theorem xf_230_0 : xcode 230 0 = some (.aload_n 2, 1, 0, 0) := rfl
theorem xf_230_1 : xcode 230 1 = some (.iconst 0, 1, 0, 0) := rfl
theorem xf_230_2 : xcode 230 2 = some (.aload_n 0, 1, 0, 0) := rfl
theorem xf_230_3 : xcode 230 3 = some (.iload_n 1, 1, 0, 0) := rfl
theorem xf_230_4 : xcode 230 4 = some (.invokevirtual 41, 3, 79, 0) := rfl
theorem xf_230_7 : xcode 230 7 = some (.i2l, 1, 0, 0) := rfl
theorem xf_230_8 : xcode 230 8 = some (.lastore, 1, 0, 0) := rfl
theorem xf_230_9 : xcode 230 9 = some (.goto 6, 3, 15, 0) := rfl
theorem xf_230_12 : xcode 230 12 = some (.astore_n 3, 1, 0, 0) := rfl
theorem xf_230_13 : xcode 230 13 = some (.iconst 1, 1, 0, 0) := rfl
theorem xf_230_14 : xcode 230 14 = some (.ireturn, 1, 0, 0) := rfl
theorem xf_230_15 : xcode 230 15 = some (.iconst 0, 1, 0, 0) := rfl
theorem xf_230_16 : xcode 230 16 = some (.ireturn, 1, 0, 0) := rfl
theorem xf_231_0 : xcode 231 0 = some (.aload_n 2, 1, 0, 0) := rfl
theorem xf_231_1 : xcode 231 1 = some (.iconst 0, 1, 0, 0) := rfl
theorem xf_231_2 : xcode 231 2 = some (.aload_n 0, 1, 0, 0) := rfl
theorem xf_231_3 : xcode 231 3 = some (.iload_n 1, 1, 0, 0) := rfl
theorem xf_231_4 : xcode 231 4 = some (.invokevirtual 44, 3, 80, 0) := rfl
theorem xf_231_7 : xcode 231 7 = some (.i2l, 1, 0, 0) := rfl
theorem xf_231_8 : xcode 231 8 = some (.lastore, 1, 0, 0) := rfl
theorem xf_231_9 : xcode 231 9 = some (.goto 6, 3, 15, 0) := rfl
theorem xf_231_12 : xcode 231 12 = some (.astore_n 3, 1, 0, 0) := rfl
theorem xf_231_13 : xcode 231 13 = some (.iconst 1, 1, 0, 0) := rfl
theorem xf_231_14 : xcode 231 14 = some (.ireturn, 1, 0, 0) := rfl
theorem xf_231_15 : xcode 231 15 = some (.iconst 0, 1, 0, 0) := rfl
theorem xf_231_16 : xcode 231 16 = some (.ireturn, 1, 0, 0) := rfl
theorem xf_232_0 : xcode 232 0 = some (.aload_n 3, 1, 0, 0) := rfl
theorem xf_232_1 : xcode 232 1 = some (.iconst 0, 1, 0, 0) := rfl
theorem xf_232_2 : xcode 232 2 = some (.aload_n 0, 1, 0, 0) := rfl
theorem xf_232_3 : xcode 232 3 = some (.iload_n 1, 1, 0, 0) := rfl
theorem xf_232_4 : xcode 232 4 = some (.iload_n 2, 1, 0, 0) := rfl
theorem xf_232_5 : xcode 232 5 = some (.invokevirtual 47, 3, 81, 0) := rfl
theorem xf_232_8 : xcode 232 8 = some (.i2l, 1, 0, 0) := rfl
theorem xf_232_9 : xcode 232 9 = some (.lastore, 1, 0, 0) := rfl
theorem xf_232_10 : xcode 232 10 = some (.goto 11, 3, 21, 0) := rfl
theorem xf_232_13 : xcode 232 13 = some (.astore 4, 2, 0, 0) := rfl
theorem xf_232_15 : xcode 232 15 = some (.iconst 1, 1, 0, 0) := rfl
theorem xf_232_16 : xcode 232 16 = some (.ireturn, 1, 0, 0) := rfl
theorem xf_232_17 : xcode 232 17 = some (.astore 4, 2, 0, 0) := rfl
theorem xf_232_19 : xcode 232 19 = some (.iconst 2, 1, 0, 0) := rfl
theorem xf_232_20 : xcode 232 20 = some (.ireturn, 1, 0, 0) := rfl
theorem xf_232_21 : xcode 232 21 = some (.iconst 0, 1, 0, 0) := rfl
theorem xf_232_22 : xcode 232 22 = some (.ireturn, 1, 0, 0) := rfl
theorem xf_233_0 : xcode 233 0 = some (.aload 4, 2, 0, 0) := rfl
theorem xf_233_2 : xcode 233 2 = some (.iconst 0, 1, 0, 0) := rfl
theorem xf_233_3 : xcode 233 3 = some (.aload_n 0, 1, 0, 0) := rfl
theorem xf_233_4 : xcode 233 4 = some (.iload_n 1, 1, 0, 0) := rfl
theorem xf_233_5 : xcode 233 5 = some (.iload_n 2, 1, 0, 0) := rfl
theorem xf_233_6 : xcode 233 6 = some (.iload_n 3, 1, 0, 0) := rfl
theorem xf_233_7 : xcode 233 7 = some (.invokevirtual 50, 3, 82, 0) := rfl
theorem xf_233_10 : xcode 233 10 = some (.i2l, 1, 0, 0) := rfl
theorem xf_233_11 : xcode 233 11 = some (.lastore, 1, 0, 0) := rfl
theorem xf_233_12 : xcode 233 12 = some (.goto 11, 3, 23, 0) := rfl
theorem xf_233_15 : xcode 233 15 = some (.astore 5, 2, 0, 0) := rfl
theorem xf_233_17 : xcode 233 17 = some (.iconst 1, 1, 0, 0) := rfl
theorem xf_233_18 : xcode 233 18 = some (.ireturn, 1, 0, 0) := rfl
theorem xf_233_19 : xcode 233 19 = some (.astore 5, 2, 0, 0) := rfl
theorem xf_233_21 : xcode 233 21 = some (.iconst 2, 1, 0, 0) := rfl
theorem xf_233_22 : xcode 233 22 = some (.ireturn, 1, 0, 0) := rfl
theorem xf_233_23 : xcode 233 23 = some (.iconst 0, 1, 0, 0) := rfl
theorem xf_233_24 : xcode 233 24 = some (.ireturn, 1, 0, 0) := rfl
theorem xf_234_0 : xcode 234 0 = some (.aload_n 2, 1, 0, 0) := rfl
theorem xf_234_1 : xcode 234 1 = some (.iconst 0, 1, 0, 0) := rfl
theorem xf_234_2 : xcode 234 2 = some (.aload_n 0, 1, 0, 0) := rfl
theorem xf_234_3 : xcode 234 3 = some (.iload_n 1, 1, 0, 0) := rfl
theorem xf_234_4 : xcode 234 4 = some (.invokevirtual 53, 3, 83, 0) := rfl
theorem xf_234_7 : xcode 234 7 = some (.i2l, 1, 0, 0) := rfl
theorem xf_234_8 : xcode 234 8 = some (.lastore, 1, 0, 0) := rfl
theorem xf_234_9 : xcode 234 9 = some (.goto 6, 3, 15, 0) := rfl
theorem xf_234_12 : xcode 234 12 = some (.astore_n 3, 1, 0, 0) := rfl
theorem xf_234_13 : xcode 234 13 = some (.iconst 1, 1, 0, 0) := rfl
theorem xf_234_14 : xcode 234 14 = some (.ireturn, 1, 0, 0) := rfl
theorem xf_234_15 : xcode 234 15 = some (.iconst 0, 1, 0, 0) := rfl
theorem xf_234_16 : xcode 234 16 = some (.ireturn, 1, 0, 0) := rfl
theorem xf_235_0 : xcode 235 0 = some (.aload_n 2, 1, 0, 0) := rfl
theorem xf_235_1 : xcode 235 1 = some (.iconst 0, 1, 0, 0) := rfl
theorem xf_235_2 : xcode 235 2 = some (.aload_n 0, 1, 0, 0) := rfl
theorem xf_235_3 : xcode 235 3 = some (.iload_n 1, 1, 0, 0) := rfl
theorem xf_235_4 : xcode 235 4 = some (.invokevirtual 56, 3, 85, 0) := rfl
theorem xf_235_7 : xcode 235 7 = some (.i2l, 1, 0, 0) := rfl
theorem xf_235_8 : xcode 235 8 = some (.lastore, 1, 0, 0) := rfl
theorem xf_235_9 : xcode 235 9 = some (.goto 9, 3, 18, 0) := rfl
theorem xf_235_12 : xcode 235 12 = some (.astore_n 3, 1, 0, 0) := rfl
theorem xf_235_13 : xcode 235 13 = some (.iconst 1, 1, 0, 0) := rfl
theorem xf_235_14 : xcode 235 14 = some (.ireturn, 1, 0, 0) := rfl
theorem xf_235_15 : xcode 235 15 = some (.astore_n 3, 1, 0, 0) := rfl
theorem xf_235_16 : xcode 235 16 = some (.iconst 2, 1, 0, 0) := rfl
theorem xf_235_17 : xcode 235 17 = some (.ireturn, 1, 0, 0) := rfl
theorem xf_235_18 : xcode 235 18 = some (.iconst 0, 1, 0, 0) := rfl
theorem xf_235_19 : xcode 235 19 = some (.ireturn, 1, 0, 0) := rfl
theorem xf_236_0 : xcode 236 0 = some (.aload_n 2, 1, 0, 0) := rfl
theorem xf_236_1 : xcode 236 1 = some (.iconst 0, 1, 0, 0) := rfl
theorem xf_236_2 : xcode 236 2 = some (.aload_n 0, 1, 0, 0) := rfl
theorem xf_236_3 : xcode 236 3 = some (.iload_n 1, 1, 0, 0) := rfl
theorem xf_236_4 : xcode 236 4 = some (.invokevirtual 59, 3, 86, 0) := rfl
theorem xf_236_7 : xcode 236 7 = some (.i2l, 1, 0, 0) := rfl
theorem xf_236_8 : xcode 236 8 = some (.lastore, 1, 0, 0) := rfl
theorem xf_236_9 : xcode 236 9 = some (.goto 6, 3, 15, 0) := rfl
theorem xf_236_12 : xcode 236 12 = some (.astore_n 3, 1, 0, 0) := rfl
theorem xf_236_13 : xcode 236 13 = some (.iconst 1, 1, 0, 0) := rfl
theorem xf_236_14 : xcode 236 14 = some (.ireturn, 1, 0, 0) := rfl
theorem xf_236_15 : xcode 236 15 = some (.iconst 0, 1, 0, 0) := rfl
theorem xf_236_16 : xcode 236 16 = some (.ireturn, 1, 0, 0) := rfl
theorem xf_237_0 : xcode 237 0 = some (.aload_n 2, 1, 0, 0) := rfl
theorem xf_237_1 : xcode 237 1 = some (.iconst 0, 1, 0, 0) := rfl
theorem xf_237_2 : xcode 237 2 = some (.aload_n 0, 1, 0, 0) := rfl
theorem xf_237_3 : xcode 237 3 = some (.iload_n 1, 1, 0, 0) := rfl
theorem xf_237_4 : xcode 237 4 = some (.invokevirtual 62, 3, 87, 0) := rfl
theorem xf_237_7 : xcode 237 7 = some (.ifCond .eq 7, 3, 14, 0) := rfl
theorem xf_237_10 : xcode 237 10 = some (.lconst 1, 1, 0, 0) := rfl
theorem xf_237_11 : xcode 237 11 = some (.goto 4, 3, 15, 0) := rfl
theorem xf_237_14 : xcode 237 14 = some (.lconst 0, 1, 0, 0) := rfl
theorem xf_237_15 : xcode 237 15 = some (.lastore, 1, 0, 0) := rfl
theorem xf_237_16 : xcode 237 16 = some (.goto 9, 3, 25, 0) := rfl
theorem xf_237_19 : xcode 237 19 = some (.astore_n 3, 1, 0, 0) := rfl
theorem xf_237_20 : xcode 237 20 = some (.iconst 1, 1, 0, 0) := rfl
theorem xf_237_21 : xcode 237 21 = some (.ireturn, 1, 0, 0) := rfl
theorem xf_237_22 : xcode 237 22 = some (.astore_n 3, 1, 0, 0) := rfl
theorem xf_237_23 : xcode 237 23 = some (.iconst 2, 1, 0, 0) := rfl
theorem xf_237_24 : xcode 237 24 = some (.ireturn, 1, 0, 0) := rfl
theorem xf_237_25 : xcode 237 25 = some (.iconst 0, 1, 0, 0) := rfl
theorem xf_237_26 : xcode 237 26 = some (.ireturn, 1, 0, 0) := rfl
theorem xf_238_0 : xcode 238 0 = some (.aload_n 2, 1, 0, 0) := rfl
theorem xf_238_1 : xcode 238 1 = some (.iconst 0, 1, 0, 0) := rfl
theorem xf_238_2 : xcode 238 2 = some (.aload_n 0, 1, 0, 0) := rfl
theorem xf_238_3 : xcode 238 3 = some (.iload_n 1, 1, 0, 0) := rfl
theorem xf_238_4 : xcode 238 4 = some (.invokevirtual 66, 3, 88, 0) := rfl
theorem xf_238_7 : xcode 238 7 = some (.i2l, 1, 0, 0) := rfl
theorem xf_238_8 : xcode 238 8 = some (.lastore, 1, 0, 0) := rfl
theorem xf_238_9 : xcode 238 9 = some (.goto 6, 3, 15, 0) := rfl
theorem xf_238_12 : xcode 238 12 = some (.astore_n 3, 1, 0, 0) := rfl
theorem xf_238_13 : xcode 238 13 = some (.iconst 1, 1, 0, 0) := rfl
theorem xf_238_14 : xcode 238 14 = some (.ireturn, 1, 0, 0) := rfl
theorem xf_238_15 : xcode 238 15 = some (.iconst 0, 1, 0, 0) := rfl
theorem xf_238_16 : xcode 238 16 = some (.ireturn, 1, 0, 0) := rfl
theorem xf_239_0 : xcode 239 0 = some (.aload_n 2, 1, 0, 0) := rfl
theorem xf_239_1 : xcode 239 1 = some (.iconst 0, 1, 0, 0) := rfl
theorem xf_239_2 : xcode 239 2 = some (.aload_n 0, 1, 0, 0) := rfl
theorem xf_239_3 : xcode 239 3 = some (.iload_n 1, 1, 0, 0) := rfl
theorem xf_239_4 : xcode 239 4 = some (.invokevirtual 69, 3, 89, 0) := rfl
theorem xf_239_7 : xcode 239 7 = some (.i2l, 1, 0, 0) := rfl
theorem xf_239_8 : xcode 239 8 = some (.lastore, 1, 0, 0) := rfl
theorem xf_239_9 : xcode 239 9 = some (.goto 6, 3, 15, 0) := rfl
theorem xf_239_12 : xcode 239 12 = some (.astore_n 3, 1, 0, 0) := rfl
theorem xf_239_13 : xcode 239 13 = some (.iconst 1, 1, 0, 0) := rfl
theorem xf_239_14 : xcode 239 14 = some (.ireturn, 1, 0, 0) := rfl
theorem xf_239_15 : xcode 239 15 = some (.iconst 0, 1, 0, 0) := rfl
theorem xf_239_16 : xcode 239 16 = some (.ireturn, 1, 0, 0) := rfl
theorem xf_240_0 : xcode 240 0 = some (.aload_n 2, 1, 0, 0) := rfl
theorem xf_240_1 : xcode 240 1 = some (.iconst 0, 1, 0, 0) := rfl
theorem xf_240_2 : xcode 240 2 = some (.aload_n 0, 1, 0, 0) := rfl
theorem xf_240_3 : xcode 240 3 = some (.iload_n 1, 1, 0, 0) := rfl
theorem xf_240_4 : xcode 240 4 = some (.invokevirtual 72, 3, 90, 0) := rfl
theorem xf_240_7 : xcode 240 7 = some (.i2l, 1, 0, 0) := rfl
theorem xf_240_8 : xcode 240 8 = some (.lastore, 1, 0, 0) := rfl
theorem xf_240_9 : xcode 240 9 = some (.goto 6, 3, 15, 0) := rfl
theorem xf_240_12 : xcode 240 12 = some (.astore_n 3, 1, 0, 0) := rfl
theorem xf_240_13 : xcode 240 13 = some (.iconst 1, 1, 0, 0) := rfl
theorem xf_240_14 : xcode 240 14 = some (.ireturn, 1, 0, 0) := rfl
theorem xf_240_15 : xcode 240 15 = some (.iconst 0, 1, 0, 0) := rfl
theorem xf_240_16 : xcode 240 16 = some (.ireturn, 1, 0, 0) := rfl
theorem xf_241_0 : xcode 241 0 = some (.aload_n 2, 1, 0, 0) := rfl
theorem xf_241_1 : xcode 241 1 = some (.iconst 0, 1, 0, 0) := rfl
theorem xf_241_2 : xcode 241 2 = some (.aload_n 0, 1, 0, 0) := rfl
theorem xf_241_3 : xcode 241 3 = some (.iload_n 1, 1, 0, 0) := rfl
theorem xf_241_4 : xcode 241 4 = some (.invokevirtual 75, 3, 94, 0) := rfl
theorem xf_241_7 : xcode 241 7 = some (.i2l, 1, 0, 0) := rfl
theorem xf_241_8 : xcode 241 8 = some (.lastore, 1, 0, 0) := rfl
theorem xf_241_9 : xcode 241 9 = some (.goto 6, 3, 15, 0) := rfl
theorem xf_241_12 : xcode 241 12 = some (.astore_n 3, 1, 0, 0) := rfl
theorem xf_241_13 : xcode 241 13 = some (.iconst 1, 1, 0, 0) := rfl
theorem xf_241_14 : xcode 241 14 = some (.ireturn, 1, 0, 0) := rfl
theorem xf_241_15 : xcode 241 15 = some (.iconst 0, 1, 0, 0) := rfl
theorem xf_241_16 : xcode 241 16 = some (.ireturn, 1, 0, 0) := rfl
theorem xf_242_0 : xcode 242 0 = some (.aload_n 2, 1, 0, 0) := rfl
theorem xf_242_1 : xcode 242 1 = some (.iconst 0, 1, 0, 0) := rfl
theorem xf_242_2 : xcode 242 2 = some (.aload_n 0, 1, 0, 0) := rfl
theorem xf_242_3 : xcode 242 3 = some (.iload_n 1, 1, 0, 0) := rfl
theorem xf_242_4 : xcode 242 4 = some (.invokevirtual 78, 3, 95, 0) := rfl
theorem xf_242_7 : xcode 242 7 = some (.i2l, 1, 0, 0) := rfl
theorem xf_242_8 : xcode 242 8 = some (.lastore, 1, 0, 0) := rfl
theorem xf_242_9 : xcode 242 9 = some (.goto 6, 3, 15, 0) := rfl
theorem xf_242_12 : xcode 242 12 = some (.astore_n 3, 1, 0, 0) := rfl
theorem xf_242_13 : xcode 242 13 = some (.iconst 1, 1, 0, 0) := rfl
theorem xf_242_14 : xcode 242 14 = some (.ireturn, 1, 0, 0) := rfl
theorem xf_242_15 : xcode 242 15 = some (.iconst 0, 1, 0, 0) := rfl
theorem xf_242_16 : xcode 242 16 = some (.ireturn, 1, 0, 0) := rfl
theorem xf_243_0 : xcode 243 0 = some (.aload_n 2, 1, 0, 0) := rfl
theorem xf_243_1 : xcode 243 1 = some (.iconst 0, 1, 0, 0) := rfl
theorem xf_243_2 : xcode 243 2 = some (.aload_n 0, 1, 0, 0) := rfl
theorem xf_243_3 : xcode 243 3 = some (.iload_n 1, 1, 0, 0) := rfl
theorem xf_243_4 : xcode 243 4 = some (.invokevirtual 83, 3, 96, 0) := rfl
theorem xf_243_7 : xcode 243 7 = some (.lastore, 1, 0, 0) := rfl
theorem xf_243_8 : xcode 243 8 = some (.goto 9, 3, 17, 0) := rfl
theorem xf_243_11 : xcode 243 11 = some (.astore_n 3, 1, 0, 0) := rfl
theorem xf_243_12 : xcode 243 12 = some (.iconst 1, 1, 0, 0) := rfl
theorem xf_243_13 : xcode 243 13 = some (.ireturn, 1, 0, 0) := rfl
theorem xf_243_14 : xcode 243 14 = some (.astore_n 3, 1, 0, 0) := rfl
theorem xf_243_15 : xcode 243 15 = some (.iconst 2, 1, 0, 0) := rfl
theorem xf_243_16 : xcode 243 16 = some (.ireturn, 1, 0, 0) := rfl
theorem xf_243_17 : xcode 243 17 = some (.iconst 0, 1, 0, 0) := rfl
theorem xf_243_18 : xcode 243 18 = some (.ireturn, 1, 0, 0) := rfl
theorem xf_244_0 : xcode 244 0 = some (.aload_n 1, 1, 0, 0) := rfl
theorem xf_244_1 : xcode 244 1 = some (.iconst 0, 1, 0, 0) := rfl
theorem xf_244_2 : xcode 244 2 = some (.aload_n 0, 1, 0, 0) := rfl
theorem xf_244_3 : xcode 244 3 = some (.invokevirtual 87, 3, 97, 0) := rfl
theorem xf_244_6 : xcode 244 6 = some (.i2l, 1, 0, 0) := rfl
theorem xf_244_7 : xcode 244 7 = some (.lastore, 1, 0, 0) := rfl
theorem xf_244_8 : xcode 244 8 = some (.goto 6, 3, 14, 0) := rfl
theorem xf_244_11 : xcode 244 11 = some (.astore_n 2, 1, 0, 0) := rfl
theorem xf_244_12 : xcode 244 12 = some (.iconst 1, 1, 0, 0) := rfl
theorem xf_244_13 : xcode 244 13 = some (.ireturn, 1, 0, 0) := rfl
theorem xf_244_14 : xcode 244 14 = some (.iconst 0, 1, 0, 0) := rfl
theorem xf_244_15 : xcode 244 15 = some (.ireturn, 1, 0, 0) := rfl
theorem xf_245_0 : xcode 245 0 = some (.aload_n 2, 1, 0, 0) := rfl
theorem xf_245_1 : xcode 245 1 = some (.iconst 0, 1, 0, 0) := rfl
theorem xf_245_2 : xcode 245 2 = some (.aload_n 0, 1, 0, 0) := rfl
theorem xf_245_3 : xcode 245 3 = some (.iload_n 1, 1, 0, 0) := rfl
theorem xf_245_4 : xcode 245 4 = some (.invokevirtual 90, 3, 98, 0) := rfl
theorem xf_245_7 : xcode 245 7 = some (.i2l, 1, 0, 0) := rfl
theorem xf_245_8 : xcode 245 8 = some (.lastore, 1, 0, 0) := rfl
theorem xf_245_9 : xcode 245 9 = some (.goto 9, 3, 18, 0) := rfl
theorem xf_245_12 : xcode 245 12 = some (.astore_n 3, 1, 0, 0) := rfl
theorem xf_245_13 : xcode 245 13 = some (.iconst 1, 1, 0, 0) := rfl
theorem xf_245_14 : xcode 245 14 = some (.ireturn, 1, 0, 0) := rfl
theorem xf_245_15 : xcode 245 15 = some (.astore_n 3, 1, 0, 0) := rfl
theorem xf_245_16 : xcode 245 16 = some (.iconst 2, 1, 0, 0) := rfl
theorem xf_245_17 : xcode 245 17 = some (.ireturn, 1, 0, 0) := rfl
theorem xf_245_18 : xcode 245 18 = some (.iconst 0, 1, 0, 0) := rfl
theorem xf_245_19 : xcode 245 19 = some (.ireturn, 1, 0, 0) := rfl
theorem xf_246_0 : xcode 246 0 = some (.aload_n 1, 1, 0, 0) := rfl
theorem xf_246_1 : xcode 246 1 = some (.iconst 0, 1, 0, 0) := rfl
theorem xf_246_2 : xcode 246 2 = some (.aload_n 0, 1, 0, 0) := rfl
theorem xf_246_3 : xcode 246 3 = some (.invokevirtual 93, 3, 99, 0) := rfl
theorem xf_246_6 : xcode 246 6 = some (.lastore, 1, 0, 0) := rfl
theorem xf_246_7 : xcode 246 7 = some (.goto 6, 3, 13, 0) := rfl
theorem xf_246_10 : xcode 246 10 = some (.astore_n 2, 1, 0, 0) := rfl
theorem xf_246_11 : xcode 246 11 = some (.iconst 1, 1, 0, 0) := rfl
theorem xf_246_12 : xcode 246 12 = some (.ireturn, 1, 0, 0) := rfl
theorem xf_246_13 : xcode 246 13 = some (.iconst 0, 1, 0, 0) := rfl
theorem xf_246_14 : xcode 246 14 = some (.ireturn, 1, 0, 0) := rfl
theorem xf_247_0 : xcode 247 0 = some (.aload_n 3, 1, 0, 0) := rfl
theorem xf_247_1 : xcode 247 1 = some (.iconst 0, 1, 0, 0) := rfl
theorem xf_247_2 : xcode 247 2 = some (.aload_n 0, 1, 0, 0) := rfl
theorem xf_247_3 : xcode 247 3 = some (.iload_n 1, 1, 0, 0) := rfl
theorem xf_247_4 : xcode 247 4 = some (.iload_n 2, 1, 0, 0) := rfl
theorem xf_247_5 : xcode 247 5 = some (.invokevirtual 97, 3, 100, 0) := rfl
theorem xf_247_8 : xcode 247 8 = some (.i2l, 1, 0, 0) := rfl
theorem xf_247_9 : xcode 247 9 = some (.lastore, 1, 0, 0) := rfl
theorem xf_247_10 : xcode 247 10 = some (.goto 15, 3, 25, 0) := rfl
theorem xf_247_13 : xcode 247 13 = some (.astore 4, 2, 0, 0) := rfl
theorem xf_247_15 : xcode 247 15 = some (.iconst 1, 1, 0, 0) := rfl
theorem xf_247_16 : xcode 247 16 = some (.ireturn, 1, 0, 0) := rfl
theorem xf_247_17 : xcode 247 17 = some (.astore 4, 2, 0, 0) := rfl
theorem xf_247_19 : xcode 247 19 = some (.iconst 2, 1, 0, 0) := rfl
theorem xf_247_20 : xcode 247 20 = some (.ireturn, 1, 0, 0) := rfl
theorem xf_247_21 : xcode 247 21 = some (.astore 4, 2, 0, 0) := rfl
theorem xf_247_23 : xcode 247 23 = some (.iconst 3, 1, 0, 0) := rfl
theorem xf_247_24 : xcode 247 24 = some (.ireturn, 1, 0, 0) := rfl
theorem xf_247_25 : xcode 247 25 = some (.iconst 0, 1, 0, 0) := rfl
theorem xf_247_26 : xcode 247 26 = some (.ireturn, 1, 0, 0) := rfl
theorem xf_248_0 : xcode 248 0 = some (.aload_n 3, 1, 0, 0) := rfl
theorem xf_248_1 : xcode 248 1 = some (.iconst 0, 1, 0, 0) := rfl
theorem xf_248_2 : xcode 248 2 = some (.aload_n 0, 1, 0, 0) := rfl
theorem xf_248_3 : xcode 248 3 = some (.iload_n 1, 1, 0, 0) := rfl
theorem xf_248_4 : xcode 248 4 = some (.iload_n 2, 1, 0, 0) := rfl
theorem xf_248_5 : xcode 248 5 = some (.invokevirtual 100, 3, 101, 0) := rfl
theorem xf_248_8 : xcode 248 8 = some (.i2l, 1, 0, 0) := rfl
theorem xf_248_9 : xcode 248 9 = some (.lastore, 1, 0, 0) := rfl
theorem xf_248_10 : xcode 248 10 = some (.goto 15, 3, 25, 0) := rfl
theorem xf_248_13 : xcode 248 13 = some (.astore 4, 2, 0, 0) := rfl
theorem xf_248_15 : xcode 248 15 = some (.iconst 1, 1, 0, 0) := rfl
theorem xf_248_16 : xcode 248 16 = some (.ireturn, 1, 0, 0) := rfl
theorem xf_248_17 : xcode 248 17 = some (.astore 4, 2, 0, 0) := rfl
theorem xf_248_19 : xcode 248 19 = some (.iconst 2, 1, 0, 0) := rfl
theorem xf_248_20 : xcode 248 20 = some (.ireturn, 1, 0, 0) := rfl
theorem xf_248_21 : xcode 248 21 = some (.astore 4, 2, 0, 0) := rfl
theorem xf_248_23 : xcode 248 23 = some (.iconst 3, 1, 0, 0) := rfl
theorem xf_248_24 : xcode 248 24 = some (.ireturn, 1, 0, 0) := rfl
theorem xf_248_25 : xcode 248 25 = some (.iconst 0, 1, 0, 0) := rfl
theorem xf_248_26 : xcode 248 26 = some (.ireturn, 1, 0, 0) := rfl
theorem xf_249_0 : xcode 249 0 = some (.aload_n 2, 1, 0, 0) := rfl
theorem xf_249_1 : xcode 249 1 = some (.iconst 0, 1, 0, 0) := rfl
theorem xf_249_2 : xcode 249 2 = some (.aload_n 0, 1, 0, 0) := rfl
theorem xf_249_3 : xcode 249 3 = some (.iload_n 1, 1, 0, 0) := rfl
theorem xf_249_4 : xcode 249 4 = some (.invokevirtual 103, 3, 102, 0) := rfl
theorem xf_249_7 : xcode 249 7 = some (.i2l, 1, 0, 0) := rfl
theorem xf_249_8 : xcode 249 8 = some (.lastore, 1, 0, 0) := rfl
theorem xf_249_9 : xcode 249 9 = some (.goto 9, 3, 18, 0) := rfl
theorem xf_249_12 : xcode 249 12 = some (.astore_n 3, 1, 0, 0) := rfl
theorem xf_249_13 : xcode 249 13 = some (.iconst 1, 1, 0, 0) := rfl
theorem xf_249_14 : xcode 249 14 = some (.ireturn, 1, 0, 0) := rfl
theorem xf_249_15 : xcode 249 15 = some (.astore_n 3, 1, 0, 0) := rfl
theorem xf_249_16 : xcode 249 16 = some (.iconst 2, 1, 0, 0) := rfl
theorem xf_249_17 : xcode 249 17 = some (.ireturn, 1, 0, 0) := rfl
theorem xf_249_18 : xcode 249 18 = some (.iconst 0, 1, 0, 0) := rfl
theorem xf_249_19 : xcode 249 19 = some (.ireturn, 1, 0, 0) := rfl
theorem xf_250_0 : xcode 250 0 = some (.aload_n 2, 1, 0, 0) := rfl
theorem xf_250_1 : xcode 250 1 = some (.iconst 0, 1, 0, 0) := rfl
theorem xf_250_2 : xcode 250 2 = some (.aload_n 0, 1, 0, 0) := rfl
theorem xf_250_3 : xcode 250 3 = some (.iload_n 1, 1, 0, 0) := rfl
theorem xf_250_4 : xcode 250 4 = some (.invokevirtual 106, 3, 104, 0) := rfl
theorem xf_250_7 : xcode 250 7 = some (.i2l, 1, 0, 0) := rfl
theorem xf_250_8 : xcode 250 8 = some (.lastore, 1, 0, 0) := rfl
theorem xf_250_9 : xcode 250 9 = some (.goto 6, 3, 15, 0) := rfl
theorem xf_250_12 : xcode 250 12 = some (.astore_n 3, 1, 0, 0) := rfl
theorem xf_250_13 : xcode 250 13 = some (.iconst 1, 1, 0, 0) := rfl
theorem xf_250_14 : xcode 250 14 = some (.ireturn, 1, 0, 0) := rfl
theorem xf_250_15 : xcode 250 15 = some (.iconst 0, 1, 0, 0) := rfl
theorem xf_250_16 : xcode 250 16 = some (.ireturn, 1, 0, 0) := rfl
theorem xf_251_0 : xcode 251 0 = some (.aload_n 1, 1, 0, 0) := rfl
theorem xf_251_1 : xcode 251 1 = some (.iconst 0, 1, 0, 0) := rfl
theorem xf_251_2 : xcode 251 2 = some (.aload_n 0, 1, 0, 0) := rfl
theorem xf_251_3 : xcode 251 3 = some (.invokevirtual 109, 3, 105, 0) := rfl
theorem xf_251_6 : xcode 251 6 = some (.i2l, 1, 0, 0) := rfl
theorem xf_251_7 : xcode 251 7 = some (.lastore, 1, 0, 0) := rfl
theorem xf_251_8 : xcode 251 8 = some (.goto 6, 3, 14, 0) := rfl
theorem xf_251_11 : xcode 251 11 = some (.astore_n 2, 1, 0, 0) := rfl
theorem xf_251_12 : xcode 251 12 = some (.iconst 1, 1, 0, 0) := rfl
theorem xf_251_13 : xcode 251 13 = some (.ireturn, 1, 0, 0) := rfl
theorem xf_251_14 : xcode 251 14 = some (.iconst 0, 1, 0, 0) := rfl
theorem xf_251_15 : xcode 251 15 = some (.ireturn, 1, 0, 0) := rfl
theorem xf_252_0 : xcode 252 0 = some (.aload_n 2, 1, 0, 0) := rfl
theorem xf_252_1 : xcode 252 1 = some (.iconst 0, 1, 0, 0) := rfl
theorem xf_252_2 : xcode 252 2 = some (.aload_n 0, 1, 0, 0) := rfl
theorem xf_252_3 : xcode 252 3 = some (.iload_n 1, 1, 0, 0) := rfl
theorem xf_252_4 : xcode 252 4 = some (.invokevirtual 112, 3, 106, 0) := rfl
theorem xf_252_7 : xcode 252 7 = some (.i2l, 1, 0, 0) := rfl
theorem xf_252_8 : xcode 252 8 = some (.lastore, 1, 0, 0) := rfl
theorem xf_252_9 : xcode 252 9 = some (.goto 9, 3, 18, 0) := rfl
theorem xf_252_12 : xcode 252 12 = some (.astore_n 3, 1, 0, 0) := rfl
theorem xf_252_13 : xcode 252 13 = some (.iconst 1, 1, 0, 0) := rfl
theorem xf_252_14 : xcode 252 14 = some (.ireturn, 1, 0, 0) := rfl
theorem xf_252_15 : xcode 252 15 = some (.astore_n 3, 1, 0, 0) := rfl
theorem xf_252_16 : xcode 252 16 = some (.iconst 2, 1, 0, 0) := rfl
theorem xf_252_17 : xcode 252 17 = some (.ireturn, 1, 0, 0) := rfl
theorem xf_252_18 : xcode 252 18 = some (.iconst 0, 1, 0, 0) := rfl
theorem xf_252_19 : xcode 252 19 = some (.ireturn, 1, 0, 0) := rfl
theorem xf_253_0 : xcode 253 0 = some (.aload_n 2, 1, 0, 0) := rfl
theorem xf_253_1 : xcode 253 1 = some (.iconst 0, 1, 0, 0) := rfl
theorem xf_253_2 : xcode 253 2 = some (.aload_n 0, 1, 0, 0) := rfl
theorem xf_253_3 : xcode 253 3 = some (.iload_n 1, 1, 0, 0) := rfl
theorem xf_253_4 : xcode 253 4 = some (.invokevirtual 115, 3, 108, 0) := rfl
theorem xf_253_7 : xcode 253 7 = some (.i2l, 1, 0, 0) := rfl
theorem xf_253_8 : xcode 253 8 = some (.lastore, 1, 0, 0) := rfl
theorem xf_253_9 : xcode 253 9 = some (.goto 6, 3, 15, 0) := rfl
theorem xf_253_12 : xcode 253 12 = some (.astore_n 3, 1, 0, 0) := rfl
theorem xf_253_13 : xcode 253 13 = some (.iconst 1, 1, 0, 0) := rfl
theorem xf_253_14 : xcode 253 14 = some (.ireturn, 1, 0, 0) := rfl
theorem xf_253_15 : xcode 253 15 = some (.iconst 0, 1, 0, 0) := rfl
theorem xf_253_16 : xcode 253 16 = some (.ireturn, 1, 0, 0) := rfl
theorem xf_254_0 : xcode 254 0 = some (.aload_n 1, 1, 0, 0) := rfl
theorem xf_254_1 : xcode 254 1 = some (.iconst 0, 1, 0, 0) := rfl
theorem xf_254_2 : xcode 254 2 = some (.aload_n 0, 1, 0, 0) := rfl
theorem xf_254_3 : xcode 254 3 = some (.invokevirtual 118, 3, 109, 0) := rfl
theorem xf_254_6 : xcode 254 6 = some (.i2l, 1, 0, 0) := rfl
theorem xf_254_7 : xcode 254 7 = some (.lastore, 1, 0, 0) := rfl
theorem xf_254_8 : xcode 254 8 = some (.goto 6, 3, 14, 0) := rfl
theorem xf_254_11 : xcode 254 11 = some (.astore_n 2, 1, 0, 0) := rfl
theorem xf_254_12 : xcode 254 12 = some (.iconst 1, 1, 0, 0) := rfl
theorem xf_254_13 : xcode 254 13 = some (.ireturn, 1, 0, 0) := rfl
theorem xf_254_14 : xcode 254 14 = some (.iconst 0, 1, 0, 0) := rfl
theorem xf_254_15 : xcode 254 15 = some (.ireturn, 1, 0, 0) := rfl
theorem xf_255_0 : xcode 255 0 = some (.aload_n 1, 1, 0, 0) := rfl
theorem xf_255_1 : xcode 255 1 = some (.iconst 0, 1, 0, 0) := rfl
theorem xf_255_2 : xcode 255 2 = some (.aload_n 0, 1, 0, 0) := rfl
theorem xf_255_3 : xcode 255 3 = some (.invokevirtual 121, 3, 111, 0) := rfl
theorem xf_255_6 : xcode 255 6 = some (.i2l, 1, 0, 0) := rfl
theorem xf_255_7 : xcode 255 7 = some (.lastore, 1, 0, 0) := rfl
theorem xf_255_8 : xcode 255 8 = some (.goto 6, 3, 14, 0) := rfl
theorem xf_255_11 : xcode 255 11 = some (.astore_n 2, 1, 0, 0) := rfl
theorem xf_255_12 : xcode 255 12 = some (.iconst 1, 1, 0, 0) := rfl
theorem xf_255_13 : xcode 255 13 = some (.ireturn, 1, 0, 0) := rfl
theorem xf_255_14 : xcode 255 14 = some (.iconst 0, 1, 0, 0) := rfl
theorem xf_255_15 : xcode 255 15 = some (.ireturn, 1, 0, 0) := rfl
theorem xf_256_0 : xcode 256 0 = some (.new 8, 3, 10, 0) := rfl
theorem xf_256_3 : xcode 256 3 = some (.dup, 1, 0, 0) := rfl
theorem xf_256_4 : xcode 256 4 = some (.invokespecial 124, 3, 70, 0) := rfl
theorem xf_256_7 : xcode 256 7 = some (.astore_n 1, 1, 0, 0) := rfl
theorem xf_256_8 : xcode 256 8 = some (.new 125, 3, 11, 0) := rfl
theorem xf_256_11 : xcode 256 11 = some (.dup, 1, 0, 0) := rfl
theorem xf_256_12 : xcode 256 12 = some (.invokespecial 127, 3, 129, 0) := rfl
theorem xf_256_15 : xcode 256 15 = some (.astore_n 2, 1, 0, 0) := rfl
theorem xf_256_16 : xcode 256 16 = some (.iconst 1, 1, 0, 0) := rfl
theorem xf_256_17 : xcode 256 17 = some (.newarray .long, 2, 101, 0) := rfl
theorem xf_256_19 : xcode 256 19 = some (.astore_n 3, 1, 0, 0) := rfl
theorem xf_256_20 : xcode 256 20 = some (.iconst 0, 1, 0, 0) := rfl
theorem xf_256_21 : xcode 256 21 = some (.istore 4, 2, 0, 0) := rfl
theorem xf_256_23 : xcode 256 23 = some (.iload 4, 2, 0, 0) := rfl
theorem xf_256_25 : xcode 256 25 = some (.aload_n 0, 1, 0, 0) := rfl
theorem xf_256_26 : xcode 256 26 = some (.arraylength, 1, 0, 0) := rfl
theorem xf_256_27 : xcode 256 27 = some (.iconst 4, 1, 0, 0) := rfl
theorem xf_256_28 : xcode 256 28 = some (.isub, 1, 0, 0) := rfl
theorem xf_256_29 : xcode 256 29 = some (.if_icmp .gt 1349, 3, 1378, 0) := rfl
theorem xf_256_32 : xcode 256 32 = some (.aload_n 0, 1, 0, 0) := rfl
theorem xf_256_33 : xcode 256 33 = some (.iload 4, 2, 0, 0) := rfl
theorem xf_256_35 : xcode 256 35 = some (.iaload, 1, 0, 0) := rfl
theorem xf_256_36 : xcode 256 36 = some (.bipush 63, 2, 0, 0) := rfl
theorem xf_256_38 : xcode 256 38 = some (.iand, 1, 0, 0) := rfl
theorem xf_256_39 : xcode 256 39 = some (.tableswitch 1333 0 40 #[177, 205, 221, 234, 290, 330, 370, 422, 474, 502, 530, 570, 622, 650, 663, 691, 719, 747, 775, 803, 831, 844, 857, 870, 898, 926, 954, 998, 1026, 1042, 1082, 1122, 1150, 1175, 1203, 1219, 1247, 1260, 1288, 1304, 1317], 177, 0, 0) := rfl
theorem xf_256_216 : xcode 256 216 = some (.aload_n 1, 1, 0, 0) := rfl
theorem xf_256_217 : xcode 256 217 = some (.aload_n 0, 1, 0, 0) := rfl
theorem xf_256_218 : xcode 256 218 = some (.iload 4, 2, 0, 0) := rfl
theorem xf_256_220 : xcode 256 220 = some (.iconst 1, 1, 0, 0) := rfl
theorem xf_256_221 : xcode 256 221 = some (.iadd, 1, 0, 0) := rfl
theorem xf_256_222 : xcode 256 222 = some (.iaload, 1, 0, 0) := rfl
theorem xf_256_223 : xcode 256 223 = some (.aload_n 3, 1, 0, 0) := rfl
theorem xf_256_224 : xcode 256 224 = some (.invokestatic 128, 3, 223, 0) := rfl
theorem xf_256_227 : xcode 256 227 = some (.istore 5, 2, 0, 0) := rfl
theorem xf_256_229 : xcode 256 229 = some (.aload_n 2, 1, 0, 0) := rfl
theorem xf_256_230 : xcode 256 230 = some (.aload_n 0, 1, 0, 0) := rfl
theorem xf_256_231 : xcode 256 231 = some (.iload 4, 2, 0, 0) := rfl
theorem xf_256_233 : xcode 256 233 = some (.iconst 1, 1, 0, 0) := rfl
theorem xf_256_234 : xcode 256 234 = some (.iadd, 1, 0, 0) := rfl
theorem xf_256_235 : xcode 256 235 = some (.iaload, 1, 0, 0) := rfl
theorem xf_256_236 : xcode 256 236 = some (.invokevirtual 133, 3, 157, 0) := rfl
theorem xf_256_239 : xcode 256 239 = some (.istore 6, 2, 0, 0) := rfl
theorem xf_256_241 : xcode 256 241 = some (.goto 1131, 3, 1372, 0) := rfl
theorem xf_256_244 : xcode 256 244 = some (.aload_n 1, 1, 0, 0) := rfl
theorem xf_256_245 : xcode 256 245 = some (.aload_n 3, 1, 0, 0) := rfl
theorem xf_256_246 : xcode 256 246 = some (.invokestatic 134, 3, 224, 0) := rfl
theorem xf_256_249 : xcode 256 249 = some (.istore 5, 2, 0, 0) := rfl
theorem xf_256_251 : xcode 256 251 = some (.aload_n 2, 1, 0, 0) := rfl
theorem xf_256_252 : xcode 256 252 = some (.invokevirtual 137, 3, 160, 0) := rfl
theorem xf_256_255 : xcode 256 255 = some (.istore 6, 2, 0, 0) := rfl
theorem xf_256_257 : xcode 256 257 = some (.goto 1115, 3, 1372, 0) := rfl
theorem xf_256_260 : xcode 256 260 = some (.aload_n 1, 1, 0, 0) := rfl
theorem xf_256_261 : xcode 256 261 = some (.invokevirtual 138, 3, 73, 0) := rfl
theorem xf_256_264 : xcode 256 264 = some (.pop, 1, 0, 0) := rfl
theorem xf_256_265 : xcode 256 265 = some (.aload_n 2, 1, 0, 0) := rfl
theorem xf_256_266 : xcode 256 266 = some (.invokevirtual 141, 3, 161, 0) := rfl
theorem xf_256_269 : xcode 256 269 = some (.pop, 1, 0, 0) := rfl
theorem xf_256_270 : xcode 256 270 = some (.goto 1102, 3, 1372, 0) := rfl
theorem xf_256_273 : xcode 256 273 = some (.aload_n 1, 1, 0, 0) := rfl
theorem xf_256_274 : xcode 256 274 = some (.aload_n 0, 1, 0, 0) := rfl
theorem xf_256_275 : xcode 256 275 = some (.iload 4, 2, 0, 0) := rfl
theorem xf_256_277 : xcode 256 277 = some (.iconst 1, 1, 0, 0) := rfl
theorem xf_256_278 : xcode 256 278 = some (.iadd, 1, 0, 0) := rfl
theorem xf_256_279 : xcode 256 279 = some (.iaload, 1, 0, 0) := rfl
theorem xf_256_280 : xcode 256 280 = some (.aload_n 0, 1, 0, 0) := rfl
theorem xf_256_281 : xcode 256 281 = some (.iload 4, 2, 0, 0) := rfl
theorem xf_256_283 : xcode 256 283 = some (.iconst 2, 1, 0, 0) := rfl
theorem xf_256_284 : xcode 256 284 = some (.iadd, 1, 0, 0) := rfl
theorem xf_256_285 : xcode 256 285 = some (.iaload, 1, 0, 0) := rfl
theorem xf_256_286 : xcode 256 286 = some (.ifCond .eq 7, 3, 293, 0) := rfl
theorem xf_256_289 : xcode 256 289 = some (.iconst 1, 1, 0, 0) := rfl
theorem xf_256_290 : xcode 256 290 = some (.goto 4, 3, 294, 0) := rfl
theorem xf_256_293 : xcode 256 293 = some (.iconst 0, 1, 0, 0) := rfl
theorem xf_256_294 : xcode 256 294 = some (.aload_n 3, 1, 0, 0) := rfl
theorem xf_256_295 : xcode 256 295 = some (.invokestatic 142, 3, 225, 0) := rfl
theorem xf_256_298 : xcode 256 298 = some (.istore 5, 2, 0, 0) := rfl
theorem xf_256_300 : xcode 256 300 = some (.aload_n 2, 1, 0, 0) := rfl
theorem xf_256_301 : xcode 256 301 = some (.aload_n 0, 1, 0, 0) := rfl
theorem xf_256_302 : xcode 256 302 = some (.iload 4, 2, 0, 0) := rfl
theorem xf_256_304 : xcode 256 304 = some (.iconst 1, 1, 0, 0) := rfl
theorem xf_256_305 : xcode 256 305 = some (.iadd, 1, 0, 0) := rfl
theorem xf_256_306 : xcode 256 306 = some (.iaload, 1, 0, 0) := rfl
theorem xf_256_307 : xcode 256 307 = some (.aload_n 0, 1, 0, 0) := rfl
theorem xf_256_308 : xcode 256 308 = some (.iload 4, 2, 0, 0) := rfl
theorem xf_256_310 : xcode 256 310 = some (.iconst 2, 1, 0, 0) := rfl
theorem xf_256_311 : xcode 256 311 = some (.iadd, 1, 0, 0) := rfl
theorem xf_256_312 : xcode 256 312 = some (.iaload, 1, 0, 0) := rfl
theorem xf_256_313 : xcode 256 313 = some (.ifCond .eq 7, 3, 320, 0) := rfl
theorem xf_256_316 : xcode 256 316 = some (.iconst 1, 1, 0, 0) := rfl
theorem xf_256_317 : xcode 256 317 = some (.goto 4, 3, 321, 0) := rfl
theorem xf_256_320 : xcode 256 320 = some (.iconst 0, 1, 0, 0) := rfl
theorem xf_256_321 : xcode 256 321 = some (.invokevirtual 145, 3, 162, 0) := rfl
theorem xf_256_324 : xcode 256 324 = some (.istore 6, 2, 0, 0) := rfl
theorem xf_256_326 : xcode 256 326 = some (.goto 1046, 3, 1372, 0) := rfl
theorem xf_256_329 : xcode 256 329 = some (.aload_n 1, 1, 0, 0) := rfl
theorem xf_256_330 : xcode 256 330 = some (.aload_n 0, 1, 0, 0) := rfl
theorem xf_256_331 : xcode 256 331 = some (.iload 4, 2, 0, 0) := rfl
theorem xf_256_333 : xcode 256 333 = some (.iconst 1, 1, 0, 0) := rfl
theorem xf_256_334 : xcode 256 334 = some (.iadd, 1, 0, 0) := rfl
theorem xf_256_335 : xcode 256 335 = some (.iaload, 1, 0, 0) := rfl
theorem xf_256_336 : xcode 256 336 = some (.aload_n 0, 1, 0, 0) := rfl
theorem xf_256_337 : xcode 256 337 = some (.iload 4, 2, 0, 0) := rfl
theorem xf_256_339 : xcode 256 339 = some (.iconst 2, 1, 0, 0) := rfl
theorem xf_256_340 : xcode 256 340 = some (.iadd, 1, 0, 0) := rfl
theorem xf_256_341 : xcode 256 341 = some (.iaload, 1, 0, 0) := rfl
theorem xf_256_342 : xcode 256 342 = some (.aload_n 3, 1, 0, 0) := rfl
theorem xf_256_343 : xcode 256 343 = some (.invokestatic 146, 3, 226, 0) := rfl
theorem xf_256_346 : xcode 256 346 = some (.istore 5, 2, 0, 0) := rfl
theorem xf_256_348 : xcode 256 348 = some (.aload_n 2, 1, 0, 0) := rfl
theorem xf_256_349 : xcode 256 349 = some (.aload_n 0, 1, 0, 0) := rfl
theorem xf_256_350 : xcode 256 350 = some (.iload 4, 2, 0, 0) := rfl
theorem xf_256_352 : xcode 256 352 = some (.iconst 1, 1, 0, 0) := rfl
theorem xf_256_353 : xcode 256 353 = some (.iadd, 1, 0, 0) := rfl
theorem xf_256_354 : xcode 256 354 = some (.iaload, 1, 0, 0) := rfl
theorem xf_256_355 : xcode 256 355 = some (.aload_n 0, 1, 0, 0) := rfl
theorem xf_256_356 : xcode 256 356 = some (.iload 4, 2, 0, 0) := rfl
theorem xf_256_358 : xcode 256 358 = some (.iconst 2, 1, 0, 0) := rfl
theorem xf_256_359 : xcode 256 359 = some (.iadd, 1, 0, 0) := rfl
theorem xf_256_360 : xcode 256 360 = some (.iaload, 1, 0, 0) := rfl
theorem xf_256_361 : xcode 256 361 = some (.invokevirtual 149, 3, 163, 0) := rfl
theorem xf_256_364 : xcode 256 364 = some (.istore 6, 2, 0, 0) := rfl
theorem xf_256_366 : xcode 256 366 = some (.goto 1006, 3, 1372, 0) := rfl
theorem xf_256_369 : xcode 256 369 = some (.aload_n 1, 1, 0, 0) := rfl
theorem xf_256_370 : xcode 256 370 = some (.aload_n 0, 1, 0, 0) := rfl
theorem xf_256_371 : xcode 256 371 = some (.iload 4, 2, 0, 0) := rfl
theorem xf_256_373 : xcode 256 373 = some (.iconst 1, 1, 0, 0) := rfl
theorem xf_256_374 : xcode 256 374 = some (.iadd, 1, 0, 0) := rfl
theorem xf_256_375 : xcode 256 375 = some (.iaload, 1, 0, 0) := rfl
theorem xf_256_376 : xcode 256 376 = some (.aload_n 0, 1, 0, 0) := rfl
theorem xf_256_377 : xcode 256 377 = some (.iload 4, 2, 0, 0) := rfl
theorem xf_256_379 : xcode 256 379 = some (.iconst 2, 1, 0, 0) := rfl
theorem xf_256_380 : xcode 256 380 = some (.iadd, 1, 0, 0) := rfl
theorem xf_256_381 : xcode 256 381 = some (.iaload, 1, 0, 0) := rfl
theorem xf_256_382 : xcode 256 382 = some (.aload_n 3, 1, 0, 0) := rfl
theorem xf_256_383 : xcode 256 383 = some (.invokestatic 150, 3, 227, 0) := rfl
theorem xf_256_386 : xcode 256 386 = some (.istore 5, 2, 0, 0) := rfl
theorem xf_256_388 : xcode 256 388 = some (.aload_n 2, 1, 0, 0) := rfl
theorem xf_256_389 : xcode 256 389 = some (.aload_n 0, 1, 0, 0) := rfl
theorem xf_256_390 : xcode 256 390 = some (.iload 4, 2, 0, 0) := rfl
theorem xf_256_392 : xcode 256 392 = some (.iconst 1, 1, 0, 0) := rfl
theorem xf_256_393 : xcode 256 393 = some (.iadd, 1, 0, 0) := rfl
theorem xf_256_394 : xcode 256 394 = some (.iaload, 1, 0, 0) := rfl
theorem xf_256_395 : xcode 256 395 = some (.aload_n 0, 1, 0, 0) := rfl
theorem xf_256_396 : xcode 256 396 = some (.iload 4, 2, 0, 0) := rfl
theorem xf_256_398 : xcode 256 398 = some (.iconst 2, 1, 0, 0) := rfl
theorem xf_256_399 : xcode 256 399 = some (.iadd, 1, 0, 0) := rfl
theorem xf_256_400 : xcode 256 400 = some (.iaload, 1, 0, 0) := rfl
theorem xf_256_401 : xcode 256 401 = some (.invokevirtual 152, 3, 164, 0) := rfl
theorem xf_256_404 : xcode 256 404 = some (.istore 6, 2, 0, 0) := rfl
theorem xf_256_406 : xcode 256 406 = some (.goto 966, 3, 1372, 0) := rfl
theorem xf_256_409 : xcode 256 409 = some (.aload_n 1, 1, 0, 0) := rfl
theorem xf_256_410 : xcode 256 410 = some (.aload_n 0, 1, 0, 0) := rfl
theorem xf_256_411 : xcode 256 411 = some (.iload 4, 2, 0, 0) := rfl
theorem xf_256_413 : xcode 256 413 = some (.iconst 1, 1, 0, 0) := rfl
theorem xf_256_414 : xcode 256 414 = some (.iadd, 1, 0, 0) := rfl
theorem xf_256_415 : xcode 256 415 = some (.iaload, 1, 0, 0) := rfl
theorem xf_256_416 : xcode 256 416 = some (.aload_n 0, 1, 0, 0) := rfl
theorem xf_256_417 : xcode 256 417 = some (.iload 4, 2, 0, 0) := rfl
theorem xf_256_419 : xcode 256 419 = some (.iconst 2, 1, 0, 0) := rfl
theorem xf_256_420 : xcode 256 420 = some (.iadd, 1, 0, 0) := rfl
theorem xf_256_421 : xcode 256 421 = some (.iaload, 1, 0, 0) := rfl
theorem xf_256_422 : xcode 256 422 = some (.aload_n 0, 1, 0, 0) := rfl
theorem xf_256_423 : xcode 256 423 = some (.iload 4, 2, 0, 0) := rfl
theorem xf_256_425 : xcode 256 425 = some (.iconst 3, 1, 0, 0) := rfl
theorem xf_256_426 : xcode 256 426 = some (.iadd, 1, 0, 0) := rfl
theorem xf_256_427 : xcode 256 427 = some (.iaload, 1, 0, 0) := rfl
theorem xf_256_428 : xcode 256 428 = some (.aload_n 3, 1, 0, 0) := rfl
theorem xf_256_429 : xcode 256 429 = some (.invokestatic 153, 3, 228, 0) := rfl
theorem xf_256_432 : xcode 256 432 = some (.istore 5, 2, 0, 0) := rfl
theorem xf_256_434 : xcode 256 434 = some (.aload_n 2, 1, 0, 0) := rfl
theorem xf_256_435 : xcode 256 435 = some (.aload_n 0, 1, 0, 0) := rfl
theorem xf_256_436 : xcode 256 436 = some (.iload 4, 2, 0, 0) := rfl
theorem xf_256_438 : xcode 256 438 = some (.iconst 1, 1, 0, 0) := rfl
theorem xf_256_439 : xcode 256 439 = some (.iadd, 1, 0, 0) := rfl
theorem xf_256_440 : xcode 256 440 = some (.iaload, 1, 0, 0) := rfl
theorem xf_256_441 : xcode 256 441 = some (.aload_n 0, 1, 0, 0) := rfl
theorem xf_256_442 : xcode 256 442 = some (.iload 4, 2, 0, 0) := rfl
theorem xf_256_444 : xcode 256 444 = some (.iconst 2, 1, 0, 0) := rfl
theorem xf_256_445 : xcode 256 445 = some (.iadd, 1, 0, 0) := rfl
theorem xf_256_446 : xcode 256 446 = some (.iaload, 1, 0, 0) := rfl
theorem xf_256_447 : xcode 256 447 = some (.aload_n 0, 1, 0, 0) := rfl
theorem xf_256_448 : xcode 256 448 = some (.iload 4, 2, 0, 0) := rfl
theorem xf_256_450 : xcode 256 450 = some (.iconst 3, 1, 0, 0) := rfl
theorem xf_256_451 : xcode 256 451 = some (.iadd, 1, 0, 0) := rfl
theorem xf_256_452 : xcode 256 452 = some (.iaload, 1, 0, 0) := rfl
theorem xf_256_453 : xcode 256 453 = some (.invokevirtual 156, 3, 165, 0) := rfl
theorem xf_256_456 : xcode 256 456 = some (.istore 6, 2, 0, 0) := rfl
theorem xf_256_458 : xcode 256 458 = some (.goto 914, 3, 1372, 0) := rfl
theorem xf_256_461 : xcode 256 461 = some (.aload_n 1, 1, 0, 0) := rfl
theorem xf_256_462 : xcode 256 462 = some (.aload_n 0, 1, 0, 0) := rfl
theorem xf_256_463 : xcode 256 463 = some (.iload 4, 2, 0, 0) := rfl
theorem xf_256_465 : xcode 256 465 = some (.iconst 1, 1, 0, 0) := rfl
theorem xf_256_466 : xcode 256 466 = some (.iadd, 1, 0, 0) := rfl
theorem xf_256_467 : xcode 256 467 = some (.iaload, 1, 0, 0) := rfl
theorem xf_256_468 : xcode 256 468 = some (.aload_n 0, 1, 0, 0) := rfl
theorem xf_256_469 : xcode 256 469 = some (.iload 4, 2, 0, 0) := rfl
theorem xf_256_471 : xcode 256 471 = some (.iconst 2, 1, 0, 0) := rfl
theorem xf_256_472 : xcode 256 472 = some (.iadd, 1, 0, 0) := rfl
theorem xf_256_473 : xcode 256 473 = some (.iaload, 1, 0, 0) := rfl
theorem xf_256_474 : xcode 256 474 = some (.aload_n 0, 1, 0, 0) := rfl
theorem xf_256_475 : xcode 256 475 = some (.iload 4, 2, 0, 0) := rfl
theorem xf_256_477 : xcode 256 477 = some (.iconst 3, 1, 0, 0) := rfl
theorem xf_256_478 : xcode 256 478 = some (.iadd, 1, 0, 0) := rfl
theorem xf_256_479 : xcode 256 479 = some (.iaload, 1, 0, 0) := rfl
theorem xf_256_480 : xcode 256 480 = some (.aload_n 3, 1, 0, 0) := rfl
theorem xf_256_481 : xcode 256 481 = some (.invokestatic 157, 3, 229, 0) := rfl
theorem xf_256_484 : xcode 256 484 = some (.istore 5, 2, 0, 0) := rfl
theorem xf_256_486 : xcode 256 486 = some (.aload_n 2, 1, 0, 0) := rfl
theorem xf_256_487 : xcode 256 487 = some (.aload_n 0, 1, 0, 0) := rfl
theorem xf_256_488 : xcode 256 488 = some (.iload 4, 2, 0, 0) := rfl
theorem xf_256_490 : xcode 256 490 = some (.iconst 1, 1, 0, 0) := rfl
theorem xf_256_491 : xcode 256 491 = some (.iadd, 1, 0, 0) := rfl
theorem xf_256_492 : xcode 256 492 = some (.iaload, 1, 0, 0) := rfl
theorem xf_256_493 : xcode 256 493 = some (.aload_n 0, 1, 0, 0) := rfl
theorem xf_256_494 : xcode 256 494 = some (.iload 4, 2, 0, 0) := rfl
theorem xf_256_496 : xcode 256 496 = some (.iconst 2, 1, 0, 0) := rfl
theorem xf_256_497 : xcode 256 497 = some (.iadd, 1, 0, 0) := rfl
theorem xf_256_498 : xcode 256 498 = some (.iaload, 1, 0, 0) := rfl
theorem xf_256_499 : xcode 256 499 = some (.aload_n 0, 1, 0, 0) := rfl
theorem xf_256_500 : xcode 256 500 = some (.iload 4, 2, 0, 0) := rfl
theorem xf_256_502 : xcode 256 502 = some (.iconst 3, 1, 0, 0) := rfl
theorem xf_256_503 : xcode 256 503 = some (.iadd, 1, 0, 0) := rfl
theorem xf_256_504 : xcode 256 504 = some (.iaload, 1, 0, 0) := rfl
theorem xf_256_505 : xcode 256 505 = some (.invokevirtual 159, 3, 166, 0) := rfl
theorem xf_256_508 : xcode 256 508 = some (.istore 6, 2, 0, 0) := rfl
theorem xf_256_510 : xcode 256 510 = some (.goto 862, 3, 1372, 0) := rfl
theorem xf_256_513 : xcode 256 513 = some (.aload_n 1, 1, 0, 0) := rfl
theorem xf_256_514 : xcode 256 514 = some (.aload_n 0, 1, 0, 0) := rfl
theorem xf_256_515 : xcode 256 515 = some (.iload 4, 2, 0, 0) := rfl
theorem xf_256_517 : xcode 256 517 = some (.iconst 1, 1, 0, 0) := rfl
theorem xf_256_518 : xcode 256 518 = some (.iadd, 1, 0, 0) := rfl
theorem xf_256_519 : xcode 256 519 = some (.iaload, 1, 0, 0) := rfl
theorem xf_256_520 : xcode 256 520 = some (.aload_n 3, 1, 0, 0) := rfl
theorem xf_256_521 : xcode 256 521 = some (.invokestatic 160, 3, 230, 0) := rfl
theorem xf_256_524 : xcode 256 524 = some (.istore 5, 2, 0, 0) := rfl
theorem xf_256_526 : xcode 256 526 = some (.aload_n 2, 1, 0, 0) := rfl
theorem xf_256_527 : xcode 256 527 = some (.aload_n 0, 1, 0, 0) := rfl
theorem xf_256_528 : xcode 256 528 = some (.iload 4, 2, 0, 0) := rfl
theorem xf_256_530 : xcode 256 530 = some (.iconst 1, 1, 0, 0) := rfl
theorem xf_256_531 : xcode 256 531 = some (.iadd, 1, 0, 0) := rfl
theorem xf_256_532 : xcode 256 532 = some (.iaload, 1, 0, 0) := rfl
theorem xf_256_533 : xcode 256 533 = some (.invokevirtual 162, 3, 167, 0) := rfl
theorem xf_256_536 : xcode 256 536 = some (.istore 6, 2, 0, 0) := rfl
theorem xf_256_538 : xcode 256 538 = some (.goto 834, 3, 1372, 0) := rfl
theorem xf_256_541 : xcode 256 541 = some (.aload_n 1, 1, 0, 0) := rfl
theorem xf_256_542 : xcode 256 542 = some (.aload_n 0, 1, 0, 0) := rfl
theorem xf_256_543 : xcode 256 543 = some (.iload 4, 2, 0, 0) := rfl
theorem xf_256_545 : xcode 256 545 = some (.iconst 1, 1, 0, 0) := rfl
theorem xf_256_546 : xcode 256 546 = some (.iadd, 1, 0, 0) := rfl
theorem xf_256_547 : xcode 256 547 = some (.iaload, 1, 0, 0) := rfl
theorem xf_256_548 : xcode 256 548 = some (.aload_n 3, 1, 0, 0) := rfl
theorem xf_256_549 : xcode 256 549 = some (.invokestatic 163, 3, 231, 0) := rfl
theorem xf_256_552 : xcode 256 552 = some (.istore 5, 2, 0, 0) := rfl
theorem xf_256_554 : xcode 256 554 = some (.aload_n 2, 1, 0, 0) := rfl
theorem xf_256_555 : xcode 256 555 = some (.aload_n 0, 1, 0, 0) := rfl
theorem xf_256_556 : xcode 256 556 = some (.iload 4, 2, 0, 0) := rfl
theorem xf_256_558 : xcode 256 558 = some (.iconst 1, 1, 0, 0) := rfl
theorem xf_256_559 : xcode 256 559 = some (.iadd, 1, 0, 0) := rfl
theorem xf_256_560 : xcode 256 560 = some (.iaload, 1, 0, 0) := rfl
theorem xf_256_561 : xcode 256 561 = some (.invokevirtual 165, 3, 168, 0) := rfl
theorem xf_256_564 : xcode 256 564 = some (.istore 6, 2, 0, 0) := rfl
theorem xf_256_566 : xcode 256 566 = some (.goto 806, 3, 1372, 0) := rfl
theorem xf_256_569 : xcode 256 569 = some (.aload_n 1, 1, 0, 0) := rfl
theorem xf_256_570 : xcode 256 570 = some (.aload_n 0, 1, 0, 0) := rfl
theorem xf_256_571 : xcode 256 571 = some (.iload 4, 2, 0, 0) := rfl
theorem xf_256_573 : xcode 256 573 = some (.iconst 1, 1, 0, 0) := rfl
theorem xf_256_574 : xcode 256 574 = some (.iadd, 1, 0, 0) := rfl
theorem xf_256_575 : xcode 256 575 = some (.iaload, 1, 0, 0) := rfl
theorem xf_256_576 : xcode 256 576 = some (.aload_n 0, 1, 0, 0) := rfl
theorem xf_256_577 : xcode 256 577 = some (.iload 4, 2, 0, 0) := rfl
theorem xf_256_579 : xcode 256 579 = some (.iconst 2, 1, 0, 0) := rfl
theorem xf_256_580 : xcode 256 580 = some (.iadd, 1, 0, 0) := rfl
theorem xf_256_581 : xcode 256 581 = some (.iaload, 1, 0, 0) := rfl
theorem xf_256_582 : xcode 256 582 = some (.aload_n 3, 1, 0, 0) := rfl
theorem xf_256_583 : xcode 256 583 = some (.invokestatic 166, 3, 232, 0) := rfl
theorem xf_256_586 : xcode 256 586 = some (.istore 5, 2, 0, 0) := rfl
theorem xf_256_588 : xcode 256 588 = some (.aload_n 2, 1, 0, 0) := rfl
theorem xf_256_589 : xcode 256 589 = some (.aload_n 0, 1, 0, 0) := rfl
theorem xf_256_590 : xcode 256 590 = some (.iload 4, 2, 0, 0) := rfl
theorem xf_256_592 : xcode 256 592 = some (.iconst 1, 1, 0, 0) := rfl
theorem xf_256_593 : xcode 256 593 = some (.iadd, 1, 0, 0) := rfl
theorem xf_256_594 : xcode 256 594 = some (.iaload, 1, 0, 0) := rfl
theorem xf_256_595 : xcode 256 595 = some (.aload_n 0, 1, 0, 0) := rfl
theorem xf_256_596 : xcode 256 596 = some (.iload 4, 2, 0, 0) := rfl
theorem xf_256_598 : xcode 256 598 = some (.iconst 2, 1, 0, 0) := rfl
theorem xf_256_599 : xcode 256 599 = some (.iadd, 1, 0, 0) := rfl
theorem xf_256_600 : xcode 256 600 = some (.iaload, 1, 0, 0) := rfl
theorem xf_256_601 : xcode 256 601 = some (.invokevirtual 168, 3, 169, 0) := rfl
theorem xf_256_604 : xcode 256 604 = some (.istore 6, 2, 0, 0) := rfl
theorem xf_256_606 : xcode 256 606 = some (.goto 766, 3, 1372, 0) := rfl
theorem xf_256_609 : xcode 256 609 = some (.aload_n 1, 1, 0, 0) := rfl
theorem xf_256_610 : xcode 256 610 = some (.aload_n 0, 1, 0, 0) := rfl
theorem xf_256_611 : xcode 256 611 = some (.iload 4, 2, 0, 0) := rfl
theorem xf_256_613 : xcode 256 613 = some (.iconst 1, 1, 0, 0) := rfl
theorem xf_256_614 : xcode 256 614 = some (.iadd, 1, 0, 0) := rfl
theorem xf_256_615 : xcode 256 615 = some (.iaload, 1, 0, 0) := rfl
theorem xf_256_616 : xcode 256 616 = some (.aload_n 0, 1, 0, 0) := rfl
theorem xf_256_617 : xcode 256 617 = some (.iload 4, 2, 0, 0) := rfl
theorem xf_256_619 : xcode 256 619 = some (.iconst 2, 1, 0, 0) := rfl
theorem xf_256_620 : xcode 256 620 = some (.iadd, 1, 0, 0) := rfl
theorem xf_256_621 : xcode 256 621 = some (.iaload, 1, 0, 0) := rfl
theorem xf_256_622 : xcode 256 622 = some (.aload_n 0, 1, 0, 0) := rfl
theorem xf_256_623 : xcode 256 623 = some (.iload 4, 2, 0, 0) := rfl
theorem xf_256_625 : xcode 256 625 = some (.iconst 3, 1, 0, 0) := rfl
theorem xf_256_626 : xcode 256 626 = some (.iadd, 1, 0, 0) := rfl
theorem xf_256_627 : xcode 256 627 = some (.iaload, 1, 0, 0) := rfl
theorem xf_256_628 : xcode 256 628 = some (.aload_n 3, 1, 0, 0) := rfl
theorem xf_256_629 : xcode 256 629 = some (.invokestatic 169, 3, 233, 0) := rfl
theorem xf_256_632 : xcode 256 632 = some (.istore 5, 2, 0, 0) := rfl
theorem xf_256_634 : xcode 256 634 = some (.aload_n 2, 1, 0, 0) := rfl
theorem xf_256_635 : xcode 256 635 = some (.aload_n 0, 1, 0, 0) := rfl
theorem xf_256_636 : xcode 256 636 = some (.iload 4, 2, 0, 0) := rfl
theorem xf_256_638 : xcode 256 638 = some (.iconst 1, 1, 0, 0) := rfl
theorem xf_256_639 : xcode 256 639 = some (.iadd, 1, 0, 0) := rfl
theorem xf_256_640 : xcode 256 640 = some (.iaload, 1, 0, 0) := rfl
theorem xf_256_641 : xcode 256 641 = some (.aload_n 0, 1, 0, 0) := rfl
theorem xf_256_642 : xcode 256 642 = some (.iload 4, 2, 0, 0) := rfl
theorem xf_256_644 : xcode 256 644 = some (.iconst 2, 1, 0, 0) := rfl
theorem xf_256_645 : xcode 256 645 = some (.iadd, 1, 0, 0) := rfl
theorem xf_256_646 : xcode 256 646 = some (.iaload, 1, 0, 0) := rfl
theorem xf_256_647 : xcode 256 647 = some (.aload_n 0, 1, 0, 0) := rfl
theorem xf_256_648 : xcode 256 648 = some (.iload 4, 2, 0, 0) := rfl
theorem xf_256_650 : xcode 256 650 = some (.iconst 3, 1, 0, 0) := rfl
theorem xf_256_651 : xcode 256 651 = some (.iadd, 1, 0, 0) := rfl
theorem xf_256_652 : xcode 256 652 = some (.iaload, 1, 0, 0) := rfl
theorem xf_256_653 : xcode 256 653 = some (.invokevirtual 171, 3, 170, 0) := rfl
theorem xf_256_656 : xcode 256 656 = some (.istore 6, 2, 0, 0) := rfl
theorem xf_256_658 : xcode 256 658 = some (.goto 714, 3, 1372, 0) := rfl
theorem xf_256_661 : xcode 256 661 = some (.aload_n 1, 1, 0, 0) := rfl
theorem xf_256_662 : xcode 256 662 = some (.aload_n 0, 1, 0, 0) := rfl
theorem xf_256_663 : xcode 256 663 = some (.iload 4, 2, 0, 0) := rfl
theorem xf_256_665 : xcode 256 665 = some (.iconst 1, 1, 0, 0) := rfl
theorem xf_256_666 : xcode 256 666 = some (.iadd, 1, 0, 0) := rfl
theorem xf_256_667 : xcode 256 667 = some (.iaload, 1, 0, 0) := rfl
theorem xf_256_668 : xcode 256 668 = some (.aload_n 3, 1, 0, 0) := rfl
theorem xf_256_669 : xcode 256 669 = some (.invokestatic 172, 3, 234, 0) := rfl
theorem xf_256_672 : xcode 256 672 = some (.istore 5, 2, 0, 0) := rfl
theorem xf_256_674 : xcode 256 674 = some (.aload_n 2, 1, 0, 0) := rfl
theorem xf_256_675 : xcode 256 675 = some (.aload_n 0, 1, 0, 0) := rfl
theorem xf_256_676 : xcode 256 676 = some (.iload 4, 2, 0, 0) := rfl
theorem xf_256_678 : xcode 256 678 = some (.iconst 1, 1, 0, 0) := rfl
theorem xf_256_679 : xcode 256 679 = some (.iadd, 1, 0, 0) := rfl
theorem xf_256_680 : xcode 256 680 = some (.iaload, 1, 0, 0) := rfl
theorem xf_256_681 : xcode 256 681 = some (.invokevirtual 174, 3, 171, 0) := rfl
theorem xf_256_684 : xcode 256 684 = some (.istore 6, 2, 0, 0) := rfl
theorem xf_256_686 : xcode 256 686 = some (.goto 686, 3, 1372, 0) := rfl
theorem xf_256_689 : xcode 256 689 = some (.aload_n 1, 1, 0, 0) := rfl
theorem xf_256_690 : xcode 256 690 = some (.invokevirtual 175, 3, 84, 0) := rfl
theorem xf_256_693 : xcode 256 693 = some (.pop, 1, 0, 0) := rfl
theorem xf_256_694 : xcode 256 694 = some (.aload_n 2, 1, 0, 0) := rfl
theorem xf_256_695 : xcode 256 695 = some (.invokevirtual 178, 3, 172, 0) := rfl
theorem xf_256_698 : xcode 256 698 = some (.pop, 1, 0, 0) := rfl
theorem xf_256_699 : xcode 256 699 = some (.goto 673, 3, 1372, 0) := rfl
theorem xf_256_702 : xcode 256 702 = some (.aload_n 1, 1, 0, 0) := rfl
theorem xf_256_703 : xcode 256 703 = some (.aload_n 0, 1, 0, 0) := rfl
theorem xf_256_704 : xcode 256 704 = some (.iload 4, 2, 0, 0) := rfl
theorem xf_256_706 : xcode 256 706 = some (.iconst 1, 1, 0, 0) := rfl
theorem xf_256_707 : xcode 256 707 = some (.iadd, 1, 0, 0) := rfl
theorem xf_256_708 : xcode 256 708 = some (.iaload, 1, 0, 0) := rfl
theorem xf_256_709 : xcode 256 709 = some (.aload_n 3, 1, 0, 0) := rfl
theorem xf_256_710 : xcode 256 710 = some (.invokestatic 179, 3, 235, 0) := rfl
theorem xf_256_713 : xcode 256 713 = some (.istore 5, 2, 0, 0) := rfl
theorem xf_256_715 : xcode 256 715 = some (.aload_n 2, 1, 0, 0) := rfl
theorem xf_256_716 : xcode 256 716 = some (.aload_n 0, 1, 0, 0) := rfl
theorem xf_256_717 : xcode 256 717 = some (.iload 4, 2, 0, 0) := rfl
theorem xf_256_719 : xcode 256 719 = some (.iconst 1, 1, 0, 0) := rfl
theorem xf_256_720 : xcode 256 720 = some (.iadd, 1, 0, 0) := rfl
theorem xf_256_721 : xcode 256 721 = some (.iaload, 1, 0, 0) := rfl
theorem xf_256_722 : xcode 256 722 = some (.invokevirtual 181, 3, 173, 0) := rfl
theorem xf_256_725 : xcode 256 725 = some (.istore 6, 2, 0, 0) := rfl
theorem xf_256_727 : xcode 256 727 = some (.goto 645, 3, 1372, 0) := rfl
theorem xf_256_730 : xcode 256 730 = some (.aload_n 1, 1, 0, 0) := rfl
theorem xf_256_731 : xcode 256 731 = some (.aload_n 0, 1, 0, 0) := rfl
theorem xf_256_732 : xcode 256 732 = some (.iload 4, 2, 0, 0) := rfl
theorem xf_256_734 : xcode 256 734 = some (.iconst 1, 1, 0, 0) := rfl
theorem xf_256_735 : xcode 256 735 = some (.iadd, 1, 0, 0) := rfl
theorem xf_256_736 : xcode 256 736 = some (.iaload, 1, 0, 0) := rfl
theorem xf_256_737 : xcode 256 737 = some (.aload_n 3, 1, 0, 0) := rfl
theorem xf_256_738 : xcode 256 738 = some (.invokestatic 182, 3, 236, 0) := rfl
theorem xf_256_741 : xcode 256 741 = some (.istore 5, 2, 0, 0) := rfl
theorem xf_256_743 : xcode 256 743 = some (.aload_n 2, 1, 0, 0) := rfl
theorem xf_256_744 : xcode 256 744 = some (.aload_n 0, 1, 0, 0) := rfl
theorem xf_256_745 : xcode 256 745 = some (.iload 4, 2, 0, 0) := rfl
theorem xf_256_747 : xcode 256 747 = some (.iconst 1, 1, 0, 0) := rfl
theorem xf_256_748 : xcode 256 748 = some (.iadd, 1, 0, 0) := rfl
theorem xf_256_749 : xcode 256 749 = some (.iaload, 1, 0, 0) := rfl
theorem xf_256_750 : xcode 256 750 = some (.invokevirtual 184, 3, 174, 0) := rfl
theorem xf_256_753 : xcode 256 753 = some (.istore 6, 2, 0, 0) := rfl
theorem xf_256_755 : xcode 256 755 = some (.goto 617, 3, 1372, 0) := rfl
theorem xf_256_758 : xcode 256 758 = some (.aload_n 1, 1, 0, 0) := rfl
theorem xf_256_759 : xcode 256 759 = some (.aload_n 0, 1, 0, 0) := rfl
theorem xf_256_760 : xcode 256 760 = some (.iload 4, 2, 0, 0) := rfl
theorem xf_256_762 : xcode 256 762 = some (.iconst 1, 1, 0, 0) := rfl
theorem xf_256_763 : xcode 256 763 = some (.iadd, 1, 0, 0) := rfl
theorem xf_256_764 : xcode 256 764 = some (.iaload, 1, 0, 0) := rfl
theorem xf_256_765 : xcode 256 765 = some (.aload_n 3, 1, 0, 0) := rfl
theorem xf_256_766 : xcode 256 766 = some (.invokestatic 185, 3, 237, 0) := rfl
theorem xf_256_769 : xcode 256 769 = some (.istore 5, 2, 0, 0) := rfl
theorem xf_256_771 : xcode 256 771 = some (.aload_n 2, 1, 0, 0) := rfl
theorem xf_256_772 : xcode 256 772 = some (.aload_n 0, 1, 0, 0) := rfl
theorem xf_256_773 : xcode 256 773 = some (.iload 4, 2, 0, 0) := rfl
theorem xf_256_775 : xcode 256 775 = some (.iconst 1, 1, 0, 0) := rfl
theorem xf_256_776 : xcode 256 776 = some (.iadd, 1, 0, 0) := rfl
theorem xf_256_777 : xcode 256 777 = some (.iaload, 1, 0, 0) := rfl
theorem xf_256_778 : xcode 256 778 = some (.invokevirtual 187, 3, 175, 0) := rfl
theorem xf_256_781 : xcode 256 781 = some (.istore 6, 2, 0, 0) := rfl
theorem xf_256_783 : xcode 256 783 = some (.goto 589, 3, 1372, 0) := rfl
theorem xf_256_786 : xcode 256 786 = some (.aload_n 1, 1, 0, 0) := rfl
theorem xf_256_787 : xcode 256 787 = some (.aload_n 0, 1, 0, 0) := rfl
theorem xf_256_788 : xcode 256 788 = some (.iload 4, 2, 0, 0) := rfl
theorem xf_256_790 : xcode 256 790 = some (.iconst 1, 1, 0, 0) := rfl
theorem xf_256_791 : xcode 256 791 = some (.iadd, 1, 0, 0) := rfl
theorem xf_256_792 : xcode 256 792 = some (.iaload, 1, 0, 0) := rfl
theorem xf_256_793 : xcode 256 793 = some (.aload_n 3, 1, 0, 0) := rfl
theorem xf_256_794 : xcode 256 794 = some (.invokestatic 188, 3, 238, 0) := rfl
theorem xf_256_797 : xcode 256 797 = some (.istore 5, 2, 0, 0) := rfl
theorem xf_256_799 : xcode 256 799 = some (.aload_n 2, 1, 0, 0) := rfl
theorem xf_256_800 : xcode 256 800 = some (.aload_n 0, 1, 0, 0) := rfl
theorem xf_256_801 : xcode 256 801 = some (.iload 4, 2, 0, 0) := rfl
theorem xf_256_803 : xcode 256 803 = some (.iconst 1, 1, 0, 0) := rfl
theorem xf_256_804 : xcode 256 804 = some (.iadd, 1, 0, 0) := rfl
theorem xf_256_805 : xcode 256 805 = some (.iaload, 1, 0, 0) := rfl
theorem xf_256_806 : xcode 256 806 = some (.invokevirtual 190, 3, 176, 0) := rfl
theorem xf_256_809 : xcode 256 809 = some (.istore 6, 2, 0, 0) := rfl
theorem xf_256_811 : xcode 256 811 = some (.goto 561, 3, 1372, 0) := rfl
theorem xf_256_814 : xcode 256 814 = some (.aload_n 1, 1, 0, 0) := rfl
theorem xf_256_815 : xcode 256 815 = some (.aload_n 0, 1, 0, 0) := rfl
theorem xf_256_816 : xcode 256 816 = some (.iload 4, 2, 0, 0) := rfl
theorem xf_256_818 : xcode 256 818 = some (.iconst 1, 1, 0, 0) := rfl
theorem xf_256_819 : xcode 256 819 = some (.iadd, 1, 0, 0) := rfl
theorem xf_256_820 : xcode 256 820 = some (.iaload, 1, 0, 0) := rfl
theorem xf_256_821 : xcode 256 821 = some (.aload_n 3, 1, 0, 0) := rfl
theorem xf_256_822 : xcode 256 822 = some (.invokestatic 191, 3, 239, 0) := rfl
theorem xf_256_825 : xcode 256 825 = some (.istore 5, 2, 0, 0) := rfl
theorem xf_256_827 : xcode 256 827 = some (.aload_n 2, 1, 0, 0) := rfl
theorem xf_256_828 : xcode 256 828 = some (.aload_n 0, 1, 0, 0) := rfl
theorem xf_256_829 : xcode 256 829 = some (.iload 4, 2, 0, 0) := rfl
theorem xf_256_831 : xcode 256 831 = some (.iconst 1, 1, 0, 0) := rfl
theorem xf_256_832 : xcode 256 832 = some (.iadd, 1, 0, 0) := rfl
theorem xf_256_833 : xcode 256 833 = some (.iaload, 1, 0, 0) := rfl
theorem xf_256_834 : xcode 256 834 = some (.invokevirtual 193, 3, 179, 0) := rfl
theorem xf_256_837 : xcode 256 837 = some (.istore 6, 2, 0, 0) := rfl
theorem xf_256_839 : xcode 256 839 = some (.goto 533, 3, 1372, 0) := rfl
theorem xf_256_842 : xcode 256 842 = some (.aload_n 1, 1, 0, 0) := rfl
theorem xf_256_843 : xcode 256 843 = some (.aload_n 0, 1, 0, 0) := rfl
theorem xf_256_844 : xcode 256 844 = some (.iload 4, 2, 0, 0) := rfl
theorem xf_256_846 : xcode 256 846 = some (.iconst 1, 1, 0, 0) := rfl
theorem xf_256_847 : xcode 256 847 = some (.iadd, 1, 0, 0) := rfl
theorem xf_256_848 : xcode 256 848 = some (.iaload, 1, 0, 0) := rfl
theorem xf_256_849 : xcode 256 849 = some (.aload_n 3, 1, 0, 0) := rfl
theorem xf_256_850 : xcode 256 850 = some (.invokestatic 194, 3, 240, 0) := rfl
theorem xf_256_853 : xcode 256 853 = some (.istore 5, 2, 0, 0) := rfl
theorem xf_256_855 : xcode 256 855 = some (.aload_n 2, 1, 0, 0) := rfl
theorem xf_256_856 : xcode 256 856 = some (.aload_n 0, 1, 0, 0) := rfl
theorem xf_256_857 : xcode 256 857 = some (.iload 4, 2, 0, 0) := rfl
theorem xf_256_859 : xcode 256 859 = some (.iconst 1, 1, 0, 0) := rfl
theorem xf_256_860 : xcode 256 860 = some (.iadd, 1, 0, 0) := rfl
theorem xf_256_861 : xcode 256 861 = some (.iaload, 1, 0, 0) := rfl
theorem xf_256_862 : xcode 256 862 = some (.invokevirtual 196, 3, 180, 0) := rfl
theorem xf_256_865 : xcode 256 865 = some (.istore 6, 2, 0, 0) := rfl
theorem xf_256_867 : xcode 256 867 = some (.goto 505, 3, 1372, 0) := rfl
theorem xf_256_870 : xcode 256 870 = some (.aload_n 1, 1, 0, 0) := rfl
theorem xf_256_871 : xcode 256 871 = some (.invokevirtual 197, 3, 91, 0) := rfl
theorem xf_256_874 : xcode 256 874 = some (.pop2, 1, 0, 0) := rfl
theorem xf_256_875 : xcode 256 875 = some (.aload_n 2, 1, 0, 0) := rfl
theorem xf_256_876 : xcode 256 876 = some (.invokevirtual 200, 3, 181, 0) := rfl
theorem xf_256_879 : xcode 256 879 = some (.pop2, 1, 0, 0) := rfl
theorem xf_256_880 : xcode 256 880 = some (.goto 492, 3, 1372, 0) := rfl
theorem xf_256_883 : xcode 256 883 = some (.aload_n 1, 1, 0, 0) := rfl
theorem xf_256_884 : xcode 256 884 = some (.invokevirtual 201, 3, 92, 0) := rfl
theorem xf_256_887 : xcode 256 887 = some (.pop, 1, 0, 0) := rfl
theorem xf_256_888 : xcode 256 888 = some (.aload_n 2, 1, 0, 0) := rfl
theorem xf_256_889 : xcode 256 889 = some (.invokevirtual 204, 3, 182, 0) := rfl
theorem xf_256_892 : xcode 256 892 = some (.pop, 1, 0, 0) := rfl
theorem xf_256_893 : xcode 256 893 = some (.goto 479, 3, 1372, 0) := rfl
theorem xf_256_896 : xcode 256 896 = some (.aload_n 1, 1, 0, 0) := rfl
theorem xf_256_897 : xcode 256 897 = some (.invokevirtual 205, 3, 93, 0) := rfl
theorem xf_256_900 : xcode 256 900 = some (.pop, 1, 0, 0) := rfl
theorem xf_256_901 : xcode 256 901 = some (.aload_n 2, 1, 0, 0) := rfl
theorem xf_256_902 : xcode 256 902 = some (.invokevirtual 208, 3, 184, 0) := rfl
theorem xf_256_905 : xcode 256 905 = some (.pop, 1, 0, 0) := rfl
theorem xf_256_906 : xcode 256 906 = some (.goto 466, 3, 1372, 0) := rfl
theorem xf_256_909 : xcode 256 909 = some (.aload_n 1, 1, 0, 0) := rfl
theorem xf_256_910 : xcode 256 910 = some (.aload_n 0, 1, 0, 0) := rfl
theorem xf_256_911 : xcode 256 911 = some (.iload 4, 2, 0, 0) := rfl
theorem xf_256_913 : xcode 256 913 = some (.iconst 1, 1, 0, 0) := rfl
theorem xf_256_914 : xcode 256 914 = some (.iadd, 1, 0, 0) := rfl
theorem xf_256_915 : xcode 256 915 = some (.iaload, 1, 0, 0) := rfl
theorem xf_256_916 : xcode 256 916 = some (.aload_n 3, 1, 0, 0) := rfl
theorem xf_256_917 : xcode 256 917 = some (.invokestatic 209, 3, 241, 0) := rfl
theorem xf_256_920 : xcode 256 920 = some (.istore 5, 2, 0, 0) := rfl
theorem xf_256_922 : xcode 256 922 = some (.aload_n 2, 1, 0, 0) := rfl
theorem xf_256_923 : xcode 256 923 = some (.aload_n 0, 1, 0, 0) := rfl
theorem xf_256_924 : xcode 256 924 = some (.iload 4, 2, 0, 0) := rfl
theorem xf_256_926 : xcode 256 926 = some (.iconst 1, 1, 0, 0) := rfl
theorem xf_256_927 : xcode 256 927 = some (.iadd, 1, 0, 0) := rfl
theorem xf_256_928 : xcode 256 928 = some (.iaload, 1, 0, 0) := rfl
theorem xf_256_929 : xcode 256 929 = some (.invokevirtual 211, 3, 185, 0) := rfl
theorem xf_256_932 : xcode 256 932 = some (.istore 6, 2, 0, 0) := rfl
theorem xf_256_934 : xcode 256 934 = some (.goto 438, 3, 1372, 0) := rfl
theorem xf_256_937 : xcode 256 937 = some (.aload_n 1, 1, 0, 0) := rfl
theorem xf_256_938 : xcode 256 938 = some (.aload_n 0, 1, 0, 0) := rfl
theorem xf_256_939 : xcode 256 939 = some (.iload 4, 2, 0, 0) := rfl
theorem xf_256_941 : xcode 256 941 = some (.iconst 1, 1, 0, 0) := rfl
theorem xf_256_942 : xcode 256 942 = some (.iadd, 1, 0, 0) := rfl
theorem xf_256_943 : xcode 256 943 = some (.iaload, 1, 0, 0) := rfl
theorem xf_256_944 : xcode 256 944 = some (.aload_n 3, 1, 0, 0) := rfl
theorem xf_256_945 : xcode 256 945 = some (.invokestatic 212, 3, 242, 0) := rfl
theorem xf_256_948 : xcode 256 948 = some (.istore 5, 2, 0, 0) := rfl
theorem xf_256_950 : xcode 256 950 = some (.aload_n 2, 1, 0, 0) := rfl
theorem xf_256_951 : xcode 256 951 = some (.aload_n 0, 1, 0, 0) := rfl
theorem xf_256_952 : xcode 256 952 = some (.iload 4, 2, 0, 0) := rfl
theorem xf_256_954 : xcode 256 954 = some (.iconst 1, 1, 0, 0) := rfl
theorem xf_256_955 : xcode 256 955 = some (.iadd, 1, 0, 0) := rfl
theorem xf_256_956 : xcode 256 956 = some (.iaload, 1, 0, 0) := rfl
theorem xf_256_957 : xcode 256 957 = some (.invokevirtual 214, 3, 187, 0) := rfl
theorem xf_256_960 : xcode 256 960 = some (.istore 6, 2, 0, 0) := rfl
theorem xf_256_962 : xcode 256 962 = some (.goto 410, 3, 1372, 0) := rfl
theorem xf_256_965 : xcode 256 965 = some (.aload_n 1, 1, 0, 0) := rfl
theorem xf_256_966 : xcode 256 966 = some (.aload_n 0, 1, 0, 0) := rfl
theorem xf_256_967 : xcode 256 967 = some (.iload 4, 2, 0, 0) := rfl
theorem xf_256_969 : xcode 256 969 = some (.iconst 1, 1, 0, 0) := rfl
theorem xf_256_970 : xcode 256 970 = some (.iadd, 1, 0, 0) := rfl
theorem xf_256_971 : xcode 256 971 = some (.iaload, 1, 0, 0) := rfl
theorem xf_256_972 : xcode 256 972 = some (.aload_n 3, 1, 0, 0) := rfl
theorem xf_256_973 : xcode 256 973 = some (.invokestatic 215, 3, 243, 0) := rfl
theorem xf_256_976 : xcode 256 976 = some (.istore 5, 2, 0, 0) := rfl
theorem xf_256_978 : xcode 256 978 = some (.aload_n 2, 1, 0, 0) := rfl
theorem xf_256_979 : xcode 256 979 = some (.aload_n 0, 1, 0, 0) := rfl
theorem xf_256_980 : xcode 256 980 = some (.iload 4, 2, 0, 0) := rfl
theorem xf_256_982 : xcode 256 982 = some (.iconst 1, 1, 0, 0) := rfl
theorem xf_256_983 : xcode 256 983 = some (.iadd, 1, 0, 0) := rfl
theorem xf_256_984 : xcode 256 984 = some (.iaload, 1, 0, 0) := rfl
theorem xf_256_985 : xcode 256 985 = some (.invokevirtual 217, 3, 190, 0) := rfl
theorem xf_256_988 : xcode 256 988 = some (.lstore 6, 2, 0, 0) := rfl
theorem xf_256_990 : xcode 256 990 = some (.goto 382, 3, 1372, 0) := rfl
theorem xf_256_993 : xcode 256 993 = some (.aload_n 1, 1, 0, 0) := rfl
theorem xf_256_994 : xcode 256 994 = some (.aload_n 3, 1, 0, 0) := rfl
theorem xf_256_995 : xcode 256 995 = some (.invokestatic 218, 3, 244, 0) := rfl
theorem xf_256_998 : xcode 256 998 = some (.istore 5, 2, 0, 0) := rfl
theorem xf_256_1000 : xcode 256 1000 = some (.aload_n 2, 1, 0, 0) := rfl
theorem xf_256_1001 : xcode 256 1001 = some (.invokevirtual 220, 3, 191, 0) := rfl
theorem xf_256_1004 : xcode 256 1004 = some (.istore 6, 2, 0, 0) := rfl
theorem xf_256_1006 : xcode 256 1006 = some (.aload_n 2, 1, 0, 0) := rfl
theorem xf_256_1007 : xcode 256 1007 = some (.invokevirtual 221, 3, 130, 0) := rfl
theorem xf_256_1010 : xcode 256 1010 = some (.iload 5, 2, 0, 0) := rfl
theorem xf_256_1012 : xcode 256 1012 = some (.if_icmp .eq 5, 3, 1017, 0) := rfl
theorem xf_256_1015 : xcode 256 1015 = some (.iconst 0, 1, 0, 0) := rfl
theorem xf_256_1016 : xcode 256 1016 = some (.ireturn, 1, 0, 0) := rfl
theorem xf_256_1017 : xcode 256 1017 = some (.iload 5, 2, 0, 0) := rfl
theorem xf_256_1019 : xcode 256 1019 = some (.ifCond .ne 15, 3, 1034, 0) := rfl
theorem xf_256_1022 : xcode 256 1022 = some (.aload_n 3, 1, 0, 0) := rfl
theorem xf_256_1023 : xcode 256 1023 = some (.iconst 0, 1, 0, 0) := rfl
theorem xf_256_1024 : xcode 256 1024 = some (.laload, 1, 0, 0) := rfl
theorem xf_256_1025 : xcode 256 1025 = some (.iload 6, 2, 0, 0) := rfl
theorem xf_256_1027 : xcode 256 1027 = some (.i2l, 1, 0, 0) := rfl
theorem xf_256_1028 : xcode 256 1028 = some (.lcmp, 1, 0, 0) := rfl
theorem xf_256_1029 : xcode 256 1029 = some (.ifCond .eq 5, 3, 1034, 0) := rfl
theorem xf_256_1032 : xcode 256 1032 = some (.iconst 0, 1, 0, 0) := rfl
theorem xf_256_1033 : xcode 256 1033 = some (.ireturn, 1, 0, 0) := rfl
theorem xf_256_1034 : xcode 256 1034 = some (.goto 338, 3, 1372, 0) := rfl
theorem xf_256_1037 : xcode 256 1037 = some (.aload_n 1, 1, 0, 0) := rfl
theorem xf_256_1038 : xcode 256 1038 = some (.aload_n 0, 1, 0, 0) := rfl
theorem xf_256_1039 : xcode 256 1039 = some (.iload 4, 2, 0, 0) := rfl
theorem xf_256_1041 : xcode 256 1041 = some (.iconst 1, 1, 0, 0) := rfl
theorem xf_256_1042 : xcode 256 1042 = some (.iadd, 1, 0, 0) := rfl
theorem xf_256_1043 : xcode 256 1043 = some (.iaload, 1, 0, 0) := rfl
theorem xf_256_1044 : xcode 256 1044 = some (.aload_n 3, 1, 0, 0) := rfl
theorem xf_256_1045 : xcode 256 1045 = some (.invokestatic 224, 3, 245, 0) := rfl
theorem xf_256_1048 : xcode 256 1048 = some (.istore 5, 2, 0, 0) := rfl
theorem xf_256_1050 : xcode 256 1050 = some (.aload_n 2, 1, 0, 0) := rfl
theorem xf_256_1051 : xcode 256 1051 = some (.aload_n 0, 1, 0, 0) := rfl
theorem xf_256_1052 : xcode 256 1052 = some (.iload 4, 2, 0, 0) := rfl
theorem xf_256_1054 : xcode 256 1054 = some (.iconst 1, 1, 0, 0) := rfl
theorem xf_256_1055 : xcode 256 1055 = some (.iadd, 1, 0, 0) := rfl
theorem xf_256_1056 : xcode 256 1056 = some (.iaload, 1, 0, 0) := rfl
theorem xf_256_1057 : xcode 256 1057 = some (.invokevirtual 226, 3, 194, 0) := rfl
theorem xf_256_1060 : xcode 256 1060 = some (.istore 6, 2, 0, 0) := rfl
theorem xf_256_1062 : xcode 256 1062 = some (.goto 310, 3, 1372, 0) := rfl
theorem xf_256_1065 : xcode 256 1065 = some (.aload_n 1, 1, 0, 0) := rfl
theorem xf_256_1066 : xcode 256 1066 = some (.aload_n 3, 1, 0, 0) := rfl
theorem xf_256_1067 : xcode 256 1067 = some (.invokestatic 227, 3, 246, 0) := rfl
theorem xf_256_1070 : xcode 256 1070 = some (.istore 5, 2, 0, 0) := rfl
theorem xf_256_1072 : xcode 256 1072 = some (.aload_n 2, 1, 0, 0) := rfl
theorem xf_256_1073 : xcode 256 1073 = some (.invokevirtual 229, 3, 195, 0) := rfl
theorem xf_256_1076 : xcode 256 1076 = some (.lstore 6, 2, 0, 0) := rfl
theorem xf_256_1078 : xcode 256 1078 = some (.goto 294, 3, 1372, 0) := rfl
theorem xf_256_1081 : xcode 256 1081 = some (.aload_n 1, 1, 0, 0) := rfl
theorem xf_256_1082 : xcode 256 1082 = some (.aload_n 0, 1, 0, 0) := rfl
theorem xf_256_1083 : xcode 256 1083 = some (.iload 4, 2, 0, 0) := rfl
theorem xf_256_1085 : xcode 256 1085 = some (.iconst 1, 1, 0, 0) := rfl
theorem xf_256_1086 : xcode 256 1086 = some (.iadd, 1, 0, 0) := rfl
theorem xf_256_1087 : xcode 256 1087 = some (.iaload, 1, 0, 0) := rfl
theorem xf_256_1088 : xcode 256 1088 = some (.aload_n 0, 1, 0, 0) := rfl
theorem xf_256_1089 : xcode 256 1089 = some (.iload 4, 2, 0, 0) := rfl
theorem xf_256_1091 : xcode 256 1091 = some (.iconst 2, 1, 0, 0) := rfl
theorem xf_256_1092 : xcode 256 1092 = some (.iadd, 1, 0, 0) := rfl
theorem xf_256_1093 : xcode 256 1093 = some (.iaload, 1, 0, 0) := rfl
theorem xf_256_1094 : xcode 256 1094 = some (.aload_n 3, 1, 0, 0) := rfl
theorem xf_256_1095 : xcode 256 1095 = some (.invokestatic 230, 3, 247, 0) := rfl
theorem xf_256_1098 : xcode 256 1098 = some (.istore 5, 2, 0, 0) := rfl
theorem xf_256_1100 : xcode 256 1100 = some (.aload_n 2, 1, 0, 0) := rfl
theorem xf_256_1101 : xcode 256 1101 = some (.aload_n 0, 1, 0, 0) := rfl
theorem xf_256_1102 : xcode 256 1102 = some (.iload 4, 2, 0, 0) := rfl
theorem xf_256_1104 : xcode 256 1104 = some (.iconst 1, 1, 0, 0) := rfl
theorem xf_256_1105 : xcode 256 1105 = some (.iadd, 1, 0, 0) := rfl
theorem xf_256_1106 : xcode 256 1106 = some (.iaload, 1, 0, 0) := rfl
theorem xf_256_1107 : xcode 256 1107 = some (.aload_n 0, 1, 0, 0) := rfl
theorem xf_256_1108 : xcode 256 1108 = some (.iload 4, 2, 0, 0) := rfl
theorem xf_256_1110 : xcode 256 1110 = some (.iconst 2, 1, 0, 0) := rfl
theorem xf_256_1111 : xcode 256 1111 = some (.iadd, 1, 0, 0) := rfl
theorem xf_256_1112 : xcode 256 1112 = some (.iaload, 1, 0, 0) := rfl
theorem xf_256_1113 : xcode 256 1113 = some (.invokevirtual 232, 3, 198, 0) := rfl
theorem xf_256_1116 : xcode 256 1116 = some (.istore 6, 2, 0, 0) := rfl
theorem xf_256_1118 : xcode 256 1118 = some (.goto 254, 3, 1372, 0) := rfl
theorem xf_256_1121 : xcode 256 1121 = some (.aload_n 1, 1, 0, 0) := rfl
theorem xf_256_1122 : xcode 256 1122 = some (.aload_n 0, 1, 0, 0) := rfl
theorem xf_256_1123 : xcode 256 1123 = some (.iload 4, 2, 0, 0) := rfl
theorem xf_256_1125 : xcode 256 1125 = some (.iconst 1, 1, 0, 0) := rfl
theorem xf_256_1126 : xcode 256 1126 = some (.iadd, 1, 0, 0) := rfl
theorem xf_256_1127 : xcode 256 1127 = some (.iaload, 1, 0, 0) := rfl
theorem xf_256_1128 : xcode 256 1128 = some (.aload_n 0, 1, 0, 0) := rfl
theorem xf_256_1129 : xcode 256 1129 = some (.iload 4, 2, 0, 0) := rfl
theorem xf_256_1131 : xcode 256 1131 = some (.iconst 2, 1, 0, 0) := rfl
theorem xf_256_1132 : xcode 256 1132 = some (.iadd, 1, 0, 0) := rfl
theorem xf_256_1133 : xcode 256 1133 = some (.iaload, 1, 0, 0) := rfl
theorem xf_256_1134 : xcode 256 1134 = some (.aload_n 3, 1, 0, 0) := rfl
theorem xf_256_1135 : xcode 256 1135 = some (.invokestatic 233, 3, 248, 0) := rfl
theorem xf_256_1138 : xcode 256 1138 = some (.istore 5, 2, 0, 0) := rfl
theorem xf_256_1140 : xcode 256 1140 = some (.aload_n 2, 1, 0, 0) := rfl
theorem xf_256_1141 : xcode 256 1141 = some (.aload_n 0, 1, 0, 0) := rfl
theorem xf_256_1142 : xcode 256 1142 = some (.iload 4, 2, 0, 0) := rfl
theorem xf_256_1144 : xcode 256 1144 = some (.iconst 1, 1, 0, 0) := rfl
theorem xf_256_1145 : xcode 256 1145 = some (.iadd, 1, 0, 0) := rfl
theorem xf_256_1146 : xcode 256 1146 = some (.iaload, 1, 0, 0) := rfl
theorem xf_256_1147 : xcode 256 1147 = some (.aload_n 0, 1, 0, 0) := rfl
theorem xf_256_1148 : xcode 256 1148 = some (.iload 4, 2, 0, 0) := rfl
theorem xf_256_1150 : xcode 256 1150 = some (.iconst 2, 1, 0, 0) := rfl
theorem xf_256_1151 : xcode 256 1151 = some (.iadd, 1, 0, 0) := rfl
theorem xf_256_1152 : xcode 256 1152 = some (.iaload, 1, 0, 0) := rfl
theorem xf_256_1153 : xcode 256 1153 = some (.invokevirtual 235, 3, 199, 0) := rfl
theorem xf_256_1156 : xcode 256 1156 = some (.istore 6, 2, 0, 0) := rfl
theorem xf_256_1158 : xcode 256 1158 = some (.goto 214, 3, 1372, 0) := rfl
theorem xf_256_1161 : xcode 256 1161 = some (.aload_n 1, 1, 0, 0) := rfl
theorem xf_256_1162 : xcode 256 1162 = some (.aload_n 0, 1, 0, 0) := rfl
theorem xf_256_1163 : xcode 256 1163 = some (.iload 4, 2, 0, 0) := rfl
theorem xf_256_1165 : xcode 256 1165 = some (.iconst 1, 1, 0, 0) := rfl
theorem xf_256_1166 : xcode 256 1166 = some (.iadd, 1, 0, 0) := rfl
theorem xf_256_1167 : xcode 256 1167 = some (.iaload, 1, 0, 0) := rfl
theorem xf_256_1168 : xcode 256 1168 = some (.aload_n 3, 1, 0, 0) := rfl
theorem xf_256_1169 : xcode 256 1169 = some (.invokestatic 236, 3, 249, 0) := rfl
theorem xf_256_1172 : xcode 256 1172 = some (.istore 5, 2, 0, 0) := rfl
theorem xf_256_1174 : xcode 256 1174 = some (.aload_n 2, 1, 0, 0) := rfl
theorem xf_256_1175 : xcode 256 1175 = some (.aload_n 0, 1, 0, 0) := rfl
theorem xf_256_1176 : xcode 256 1176 = some (.iload 4, 2, 0, 0) := rfl
theorem xf_256_1178 : xcode 256 1178 = some (.iconst 1, 1, 0, 0) := rfl
theorem xf_256_1179 : xcode 256 1179 = some (.iadd, 1, 0, 0) := rfl
theorem xf_256_1180 : xcode 256 1180 = some (.iaload, 1, 0, 0) := rfl
theorem xf_256_1181 : xcode 256 1181 = some (.invokevirtual 238, 3, 200, 0) := rfl
theorem xf_256_1184 : xcode 256 1184 = some (.istore 6, 2, 0, 0) := rfl
theorem xf_256_1186 : xcode 256 1186 = some (.goto 186, 3, 1372, 0) := rfl
theorem xf_256_1189 : xcode 256 1189 = some (.aload_n 1, 1, 0, 0) := rfl
theorem xf_256_1190 : xcode 256 1190 = some (.aload_n 0, 1, 0, 0) := rfl
theorem xf_256_1191 : xcode 256 1191 = some (.iload 4, 2, 0, 0) := rfl
theorem xf_256_1193 : xcode 256 1193 = some (.iconst 1, 1, 0, 0) := rfl
theorem xf_256_1194 : xcode 256 1194 = some (.iadd, 1, 0, 0) := rfl
theorem xf_256_1195 : xcode 256 1195 = some (.iaload, 1, 0, 0) := rfl
theorem xf_256_1196 : xcode 256 1196 = some (.invokevirtual 239, 3, 103, 0) := rfl
theorem xf_256_1199 : xcode 256 1199 = some (.pop, 1, 0, 0) := rfl
theorem xf_256_1200 : xcode 256 1200 = some (.aload_n 2, 1, 0, 0) := rfl
theorem xf_256_1201 : xcode 256 1201 = some (.aload_n 0, 1, 0, 0) := rfl
theorem xf_256_1202 : xcode 256 1202 = some (.iload 4, 2, 0, 0) := rfl
theorem xf_256_1204 : xcode 256 1204 = some (.iconst 1, 1, 0, 0) := rfl
theorem xf_256_1205 : xcode 256 1205 = some (.iadd, 1, 0, 0) := rfl
theorem xf_256_1206 : xcode 256 1206 = some (.iaload, 1, 0, 0) := rfl
theorem xf_256_1207 : xcode 256 1207 = some (.invokevirtual 242, 3, 201, 0) := rfl
theorem xf_256_1210 : xcode 256 1210 = some (.pop, 1, 0, 0) := rfl
theorem xf_256_1211 : xcode 256 1211 = some (.goto 161, 3, 1372, 0) := rfl
theorem xf_256_1214 : xcode 256 1214 = some (.aload_n 1, 1, 0, 0) := rfl
theorem xf_256_1215 : xcode 256 1215 = some (.aload_n 0, 1, 0, 0) := rfl
theorem xf_256_1216 : xcode 256 1216 = some (.iload 4, 2, 0, 0) := rfl
theorem xf_256_1218 : xcode 256 1218 = some (.iconst 1, 1, 0, 0) := rfl
theorem xf_256_1219 : xcode 256 1219 = some (.iadd, 1, 0, 0) := rfl
theorem xf_256_1220 : xcode 256 1220 = some (.iaload, 1, 0, 0) := rfl
theorem xf_256_1221 : xcode 256 1221 = some (.aload_n 3, 1, 0, 0) := rfl
theorem xf_256_1222 : xcode 256 1222 = some (.invokestatic 243, 3, 250, 0) := rfl
theorem xf_256_1225 : xcode 256 1225 = some (.istore 5, 2, 0, 0) := rfl
theorem xf_256_1227 : xcode 256 1227 = some (.aload_n 2, 1, 0, 0) := rfl
theorem xf_256_1228 : xcode 256 1228 = some (.aload_n 0, 1, 0, 0) := rfl
theorem xf_256_1229 : xcode 256 1229 = some (.iload 4, 2, 0, 0) := rfl
theorem xf_256_1231 : xcode 256 1231 = some (.iconst 1, 1, 0, 0) := rfl
theorem xf_256_1232 : xcode 256 1232 = some (.iadd, 1, 0, 0) := rfl
theorem xf_256_1233 : xcode 256 1233 = some (.iaload, 1, 0, 0) := rfl
theorem xf_256_1234 : xcode 256 1234 = some (.invokevirtual 245, 3, 204, 0) := rfl
theorem xf_256_1237 : xcode 256 1237 = some (.istore 6, 2, 0, 0) := rfl
theorem xf_256_1239 : xcode 256 1239 = some (.goto 133, 3, 1372, 0) := rfl
theorem xf_256_1242 : xcode 256 1242 = some (.aload_n 1, 1, 0, 0) := rfl
theorem xf_256_1243 : xcode 256 1243 = some (.aload_n 3, 1, 0, 0) := rfl
theorem xf_256_1244 : xcode 256 1244 = some (.invokestatic 246, 3, 251, 0) := rfl
theorem xf_256_1247 : xcode 256 1247 = some (.istore 5, 2, 0, 0) := rfl
theorem xf_256_1249 : xcode 256 1249 = some (.aload_n 2, 1, 0, 0) := rfl
theorem xf_256_1250 : xcode 256 1250 = some (.invokevirtual 248, 3, 205, 0) := rfl
theorem xf_256_1253 : xcode 256 1253 = some (.istore 6, 2, 0, 0) := rfl
theorem xf_256_1255 : xcode 256 1255 = some (.goto 117, 3, 1372, 0) := rfl
theorem xf_256_1258 : xcode 256 1258 = some (.aload_n 1, 1, 0, 0) := rfl
theorem xf_256_1259 : xcode 256 1259 = some (.aload_n 0, 1, 0, 0) := rfl
theorem xf_256_1260 : xcode 256 1260 = some (.iload 4, 2, 0, 0) := rfl
theorem xf_256_1262 : xcode 256 1262 = some (.iconst 1, 1, 0, 0) := rfl
theorem xf_256_1263 : xcode 256 1263 = some (.iadd, 1, 0, 0) := rfl
theorem xf_256_1264 : xcode 256 1264 = some (.iaload, 1, 0, 0) := rfl
theorem xf_256_1265 : xcode 256 1265 = some (.aload_n 3, 1, 0, 0) := rfl
theorem xf_256_1266 : xcode 256 1266 = some (.invokestatic 249, 3, 252, 0) := rfl
theorem xf_256_1269 : xcode 256 1269 = some (.istore 5, 2, 0, 0) := rfl
theorem xf_256_1271 : xcode 256 1271 = some (.aload_n 2, 1, 0, 0) := rfl
theorem xf_256_1272 : xcode 256 1272 = some (.aload_n 0, 1, 0, 0) := rfl
theorem xf_256_1273 : xcode 256 1273 = some (.iload 4, 2, 0, 0) := rfl
theorem xf_256_1275 : xcode 256 1275 = some (.iconst 1, 1, 0, 0) := rfl
theorem xf_256_1276 : xcode 256 1276 = some (.iadd, 1, 0, 0) := rfl
theorem xf_256_1277 : xcode 256 1277 = some (.iaload, 1, 0, 0) := rfl
theorem xf_256_1278 : xcode 256 1278 = some (.invokevirtual 251, 3, 206, 0) := rfl
theorem xf_256_1281 : xcode 256 1281 = some (.istore 6, 2, 0, 0) := rfl
theorem xf_256_1283 : xcode 256 1283 = some (.goto 89, 3, 1372, 0) := rfl
theorem xf_256_1286 : xcode 256 1286 = some (.aload_n 1, 1, 0, 0) := rfl
theorem xf_256_1287 : xcode 256 1287 = some (.invokevirtual 252, 3, 107, 0) := rfl
theorem xf_256_1290 : xcode 256 1290 = some (.pop, 1, 0, 0) := rfl
theorem xf_256_1291 : xcode 256 1291 = some (.aload_n 2, 1, 0, 0) := rfl
theorem xf_256_1292 : xcode 256 1292 = some (.invokevirtual 255, 3, 207, 0) := rfl
theorem xf_256_1295 : xcode 256 1295 = some (.pop, 1, 0, 0) := rfl
theorem xf_256_1296 : xcode 256 1296 = some (.goto 76, 3, 1372, 0) := rfl
theorem xf_256_1299 : xcode 256 1299 = some (.aload_n 1, 1, 0, 0) := rfl
theorem xf_256_1300 : xcode 256 1300 = some (.aload_n 0, 1, 0, 0) := rfl
theorem xf_256_1301 : xcode 256 1301 = some (.iload 4, 2, 0, 0) := rfl
theorem xf_256_1303 : xcode 256 1303 = some (.iconst 1, 1, 0, 0) := rfl
theorem xf_256_1304 : xcode 256 1304 = some (.iadd, 1, 0, 0) := rfl
theorem xf_256_1305 : xcode 256 1305 = some (.iaload, 1, 0, 0) := rfl
theorem xf_256_1306 : xcode 256 1306 = some (.aload_n 3, 1, 0, 0) := rfl
theorem xf_256_1307 : xcode 256 1307 = some (.invokestatic 256, 3, 253, 0) := rfl
theorem xf_256_1310 : xcode 256 1310 = some (.istore 5, 2, 0, 0) := rfl
theorem xf_256_1312 : xcode 256 1312 = some (.aload_n 2, 1, 0, 0) := rfl
theorem xf_256_1313 : xcode 256 1313 = some (.aload_n 0, 1, 0, 0) := rfl
theorem xf_256_1314 : xcode 256 1314 = some (.iload 4, 2, 0, 0) := rfl
theorem xf_256_1316 : xcode 256 1316 = some (.iconst 1, 1, 0, 0) := rfl
theorem xf_256_1317 : xcode 256 1317 = some (.iadd, 1, 0, 0) := rfl
theorem xf_256_1318 : xcode 256 1318 = some (.iaload, 1, 0, 0) := rfl
theorem xf_256_1319 : xcode 256 1319 = some (.invokevirtual 258, 3, 208, 0) := rfl
theorem xf_256_1322 : xcode 256 1322 = some (.istore 6, 2, 0, 0) := rfl
theorem xf_256_1324 : xcode 256 1324 = some (.goto 48, 3, 1372, 0) := rfl
theorem xf_256_1327 : xcode 256 1327 = some (.aload_n 1, 1, 0, 0) := rfl
theorem xf_256_1328 : xcode 256 1328 = some (.aload_n 3, 1, 0, 0) := rfl
theorem xf_256_1329 : xcode 256 1329 = some (.invokestatic 259, 3, 254, 0) := rfl
theorem xf_256_1332 : xcode 256 1332 = some (.istore 5, 2, 0, 0) := rfl
theorem xf_256_1334 : xcode 256 1334 = some (.aload_n 2, 1, 0, 0) := rfl
theorem xf_256_1335 : xcode 256 1335 = some (.invokevirtual 261, 3, 213, 0) := rfl
theorem xf_256_1338 : xcode 256 1338 = some (.istore 6, 2, 0, 0) := rfl
theorem xf_256_1340 : xcode 256 1340 = some (.goto 32, 3, 1372, 0) := rfl
theorem xf_256_1343 : xcode 256 1343 = some (.aload_n 1, 1, 0, 0) := rfl
theorem xf_256_1344 : xcode 256 1344 = some (.invokevirtual 262, 3, 110, 0) := rfl
theorem xf_256_1347 : xcode 256 1347 = some (.pop, 1, 0, 0) := rfl
theorem xf_256_1348 : xcode 256 1348 = some (.aload_n 2, 1, 0, 0) := rfl
theorem xf_256_1349 : xcode 256 1349 = some (.invokevirtual 265, 3, 214, 0) := rfl
theorem xf_256_1352 : xcode 256 1352 = some (.pop, 1, 0, 0) := rfl
theorem xf_256_1353 : xcode 256 1353 = some (.goto 19, 3, 1372, 0) := rfl
theorem xf_256_1356 : xcode 256 1356 = some (.aload_n 1, 1, 0, 0) := rfl
theorem xf_256_1357 : xcode 256 1357 = some (.aload_n 3, 1, 0, 0) := rfl
theorem xf_256_1358 : xcode 256 1358 = some (.invokestatic 266, 3, 255, 0) := rfl
theorem xf_256_1361 : xcode 256 1361 = some (.istore 5, 2, 0, 0) := rfl
theorem xf_256_1363 : xcode 256 1363 = some (.aload_n 2, 1, 0, 0) := rfl
theorem xf_256_1364 : xcode 256 1364 = some (.invokevirtual 268, 3, 215, 0) := rfl
theorem xf_256_1367 : xcode 256 1367 = some (.istore 6, 2, 0, 0) := rfl
theorem xf_256_1369 : xcode 256 1369 = some (.goto 3, 3, 1372, 0) := rfl
theorem xf_256_1372 : xcode 256 1372 = some (.iinc 4 4, 3, 0, 0) := rfl
theorem xf_256_1375 : xcode 256 1375 = some (.goto (-1352), 3, 23, 0) := rfl
theorem xf_256_1378 : xcode 256 1378 = some (.iconst 1, 1, 0, 0) := rfl
theorem xf_256_1379 : xcode 256 1379 = some (.ireturn, 1, 0, 0) := rfl
end
