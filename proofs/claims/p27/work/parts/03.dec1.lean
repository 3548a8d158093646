theorem dX0_init_0 : decode cX0_init 0 = .ok (.aload_n 0, 1) := by decide +kernel
theorem dX0_init_1 : decode cX0_init 1 = .ok (.invokespecial 3, 3) := by decide +kernel
theorem dX0_init_4 : decode cX0_init 4 = .ok (.aload_n 0, 1) := by decide +kernel
theorem dX0_init_5 : decode cX0_init 5 = .ok (.new 9, 3) := by decide +kernel
theorem dX0_init_8 : decode cX0_init 8 = .ok (.dup, 1) := by decide +kernel
theorem dX0_init_9 : decode cX0_init 9 = .ok (.invokespecial 11, 3) := by decide +kernel
theorem dX0_init_12 : decode cX0_init 12 = .ok (.putfield 12, 3) := by decide +kernel
theorem dX0_init_15 : decode cX0_init 15 = .ok (.aload_n 0, 1) := by decide +kernel
theorem dX0_init_16 : decode cX0_init 16 = .ok (.bipush 10, 2) := by decide +kernel
theorem dX0_init_18 : decode cX0_init 18 = .ok (.newarray .int, 2) := by decide +kernel
theorem dX0_init_20 : decode cX0_init 20 = .ok (.putfield 18, 3) := by decide +kernel
theorem dX0_init_23 : decode cX0_init 23 = .ok (.aload_n 0, 1) := by decide +kernel
theorem dX0_init_24 : decode cX0_init 24 = .ok (.bipush 10, 2) := by decide +kernel
theorem dX0_init_26 : decode cX0_init 26 = .ok (.newarray .int, 2) := by decide +kernel
theorem dX0_init_28 : decode cX0_init 28 = .ok (.putfield 22, 3) := by decide +kernel
theorem dX0_init_31 : decode cX0_init 31 = .ok (.aload_n 0, 1) := by decide +kernel
theorem dX0_init_32 : decode cX0_init 32 = .ok (.iconst 4, 1) := by decide +kernel
theorem dX0_init_33 : decode cX0_init 33 = .ok (.newarray .int, 2) := by decide +kernel
theorem dX0_init_35 : decode cX0_init 35 = .ok (.putfield 25, 3) := by decide +kernel
theorem dX0_init_38 : decode cX0_init 38 = .ok (.iconst 0, 1) := by decide +kernel
theorem dX0_init_39 : decode cX0_init 39 = .ok (.istore_n 1, 1) := by decide +kernel
theorem dX0_init_40 : decode cX0_init 40 = .ok (.iload_n 1, 1) := by decide +kernel
theorem dX0_init_41 : decode cX0_init 41 = .ok (.iconst 4, 1) := by decide +kernel
theorem dX0_init_42 : decode cX0_init 42 = .ok (.if_icmp .ge 16, 3) := by decide +kernel
theorem dX0_init_45 : decode cX0_init 45 = .ok (.aload_n 0, 1) := by decide +kernel
theorem dX0_init_46 : decode cX0_init 46 = .ok (.getfield 25, 3) := by decide +kernel
theorem dX0_init_49 : decode cX0_init 49 = .ok (.iload_n 1, 1) := by decide +kernel
theorem dX0_init_50 : decode cX0_init 50 = .ok (.iconst (-1), 1) := by decide +kernel
theorem dX0_init_51 : decode cX0_init 51 = .ok (.iastore, 1) := by decide +kernel
theorem dX0_init_52 : decode cX0_init 52 = .ok (.iinc 1 1, 3) := by decide +kernel
theorem dX0_init_55 : decode cX0_init 55 = .ok (.goto (-15), 3) := by decide +kernel
theorem dX0_init_58 : decode cX0_init 58 = .ok (.aload_n 0, 1) := by decide +kernel
theorem dX0_init_59 : decode cX0_init 59 = .ok (.iconst 0, 1) := by decide +kernel
theorem dX0_init_60 : decode cX0_init 60 = .ok (.putfield 28, 3) := by decide +kernel
theorem dX0_init_63 : decode cX0_init 63 = .ok (.return_, 1) := by decide +kernel
theorem dX0_itemAt_0 : decode cX0_itemAt 0 = .ok (.iconst 0, 1) := by decide +kernel
theorem dX0_itemAt_1 : decode cX0_itemAt 1 = .ok (.istore_n 2, 1) := by decide +kernel
theorem dX0_itemAt_2 : decode cX0_itemAt 2 = .ok (.iload_n 2, 1) := by decide +kernel
theorem dX0_itemAt_3 : decode cX0_itemAt 3 = .ok (.aload_n 0, 1) := by decide +kernel
theorem dX0_itemAt_4 : decode cX0_itemAt 4 = .ok (.getfield 12, 3) := by decide +kernel
theorem dX0_itemAt_7 : decode cX0_itemAt 7 = .ok (.invokevirtual 32, 3) := by decide +kernel
theorem dX0_itemAt_10 : decode cX0_itemAt 10 = .ok (.if_icmp .ge 31, 3) := by decide +kernel
theorem dX0_itemAt_13 : decode cX0_itemAt 13 = .ok (.aload_n 0, 1) := by decide +kernel
theorem dX0_itemAt_14 : decode cX0_itemAt 14 = .ok (.getfield 12, 3) := by decide +kernel
theorem dX0_itemAt_17 : decode cX0_itemAt 17 = .ok (.iload_n 2, 1) := by decide +kernel
theorem dX0_itemAt_18 : decode cX0_itemAt 18 = .ok (.invokevirtual 36, 3) := by decide +kernel
theorem dX0_itemAt_21 : decode cX0_itemAt 21 = .ok (.checkcast 40, 3) := by decide +kernel
theorem dX0_itemAt_24 : decode cX0_itemAt 24 = .ok (.astore_n 3, 1) := by decide +kernel
theorem dX0_itemAt_25 : decode cX0_itemAt 25 = .ok (.aload_n 3, 1) := by decide +kernel
theorem dX0_itemAt_26 : decode cX0_itemAt 26 = .ok (.getfield 42, 3) := by decide +kernel
theorem dX0_itemAt_29 : decode cX0_itemAt 29 = .ok (.iload_n 1, 1) := by decide +kernel
theorem dX0_itemAt_30 : decode cX0_itemAt 30 = .ok (.if_icmp .ne 5, 3) := by decide +kernel
theorem dX0_itemAt_33 : decode cX0_itemAt 33 = .ok (.aload_n 3, 1) := by decide +kernel
theorem dX0_itemAt_34 : decode cX0_itemAt 34 = .ok (.areturn, 1) := by decide +kernel
theorem dX0_itemAt_35 : decode cX0_itemAt 35 = .ok (.iinc 2 1, 3) := by decide +kernel
theorem dX0_itemAt_38 : decode cX0_itemAt 38 = .ok (.goto (-36), 3) := by decide +kernel
theorem dX0_itemAt_41 : decode cX0_itemAt 41 = .ok (.aconst_null, 1) := by decide +kernel
theorem dX0_itemAt_42 : decode cX0_itemAt 42 = .ok (.areturn, 1) := by decide +kernel
theorem dX0_takeOut_0 : decode cX0_takeOut 0 = .ok (.aload_n 0, 1) := by decide +kernel
theorem dX0_takeOut_1 : decode cX0_takeOut 1 = .ok (.getfield 12, 3) := by decide +kernel
theorem dX0_takeOut_4 : decode cX0_takeOut 4 = .ok (.invokevirtual 32, 3) := by decide +kernel
theorem dX0_takeOut_7 : decode cX0_takeOut 7 = .ok (.iconst 1, 1) := by decide +kernel
theorem dX0_takeOut_8 : decode cX0_takeOut 8 = .ok (.isub, 1) := by decide +kernel
theorem dX0_takeOut_9 : decode cX0_takeOut 9 = .ok (.istore_n 2, 1) := by decide +kernel
theorem dX0_takeOut_10 : decode cX0_takeOut 10 = .ok (.iload_n 2, 1) := by decide +kernel
theorem dX0_takeOut_11 : decode cX0_takeOut 11 = .ok (.ifCond .lt 36, 3) := by decide +kernel
theorem dX0_takeOut_14 : decode cX0_takeOut 14 = .ok (.aload_n 0, 1) := by decide +kernel
theorem dX0_takeOut_15 : decode cX0_takeOut 15 = .ok (.getfield 12, 3) := by decide +kernel
theorem dX0_takeOut_18 : decode cX0_takeOut 18 = .ok (.iload_n 2, 1) := by decide +kernel
theorem dX0_takeOut_19 : decode cX0_takeOut 19 = .ok (.invokevirtual 36, 3) := by decide +kernel
theorem dX0_takeOut_22 : decode cX0_takeOut 22 = .ok (.checkcast 40, 3) := by decide +kernel
theorem dX0_takeOut_25 : decode cX0_takeOut 25 = .ok (.getfield 42, 3) := by decide +kernel
theorem dX0_takeOut_28 : decode cX0_takeOut 28 = .ok (.iload_n 1, 1) := by decide +kernel
theorem dX0_takeOut_29 : decode cX0_takeOut 29 = .ok (.if_icmp .ne 12, 3) := by decide +kernel
theorem dX0_takeOut_32 : decode cX0_takeOut 32 = .ok (.aload_n 0, 1) := by decide +kernel
theorem dX0_takeOut_33 : decode cX0_takeOut 33 = .ok (.getfield 12, 3) := by decide +kernel
theorem dX0_takeOut_36 : decode cX0_takeOut 36 = .ok (.iload_n 2, 1) := by decide +kernel
theorem dX0_takeOut_37 : decode cX0_takeOut 37 = .ok (.invokevirtual 45, 3) := by decide +kernel
theorem dX0_takeOut_40 : decode cX0_takeOut 40 = .ok (.pop, 1) := by decide +kernel
theorem dX0_takeOut_41 : decode cX0_takeOut 41 = .ok (.iinc 2 (-1), 3) := by decide +kernel
theorem dX0_takeOut_44 : decode cX0_takeOut 44 = .ok (.goto (-34), 3) := by decide +kernel
theorem dX0_takeOut_47 : decode cX0_takeOut 47 = .ok (.return_, 1) := by decide +kernel
theorem dX0_firstShownBehind_0 : decode cX0_firstShownBehind 0 = .ok (.aconst_null, 1) := by decide +kernel
theorem dX0_firstShownBehind_1 : decode cX0_firstShownBehind 1 = .ok (.astore_n 2, 1) := by decide +kernel
theorem dX0_firstShownBehind_2 : decode cX0_firstShownBehind 2 = .ok (.iconst 0, 1) := by decide +kernel
theorem dX0_firstShownBehind_3 : decode cX0_firstShownBehind 3 = .ok (.istore_n 3, 1) := by decide +kernel
theorem dX0_firstShownBehind_4 : decode cX0_firstShownBehind 4 = .ok (.iload_n 3, 1) := by decide +kernel
theorem dX0_firstShownBehind_5 : decode cX0_firstShownBehind 5 = .ok (.aload_n 0, 1) := by decide +kernel
theorem dX0_firstShownBehind_6 : decode cX0_firstShownBehind 6 = .ok (.getfield 12, 3) := by decide +kernel
theorem dX0_firstShownBehind_9 : decode cX0_firstShownBehind 9 = .ok (.invokevirtual 32, 3) := by decide +kernel
theorem dX0_firstShownBehind_12 : decode cX0_firstShownBehind 12 = .ok (.if_icmp .ge 74, 3) := by decide +kernel
theorem dX0_firstShownBehind_15 : decode cX0_firstShownBehind 15 = .ok (.aload_n 0, 1) := by decide +kernel
theorem dX0_firstShownBehind_16 : decode cX0_firstShownBehind 16 = .ok (.getfield 12, 3) := by decide +kernel
theorem dX0_firstShownBehind_19 : decode cX0_firstShownBehind 19 = .ok (.iload_n 3, 1) := by decide +kernel
theorem dX0_firstShownBehind_20 : decode cX0_firstShownBehind 20 = .ok (.invokevirtual 36, 3) := by decide +kernel
theorem dX0_firstShownBehind_23 : decode cX0_firstShownBehind 23 = .ok (.checkcast 40, 3) := by decide +kernel
theorem dX0_firstShownBehind_26 : decode cX0_firstShownBehind 26 = .ok (.astore 4, 2) := by decide +kernel
theorem dX0_firstShownBehind_28 : decode cX0_firstShownBehind 28 = .ok (.aload 4, 2) := by decide +kernel
theorem dX0_firstShownBehind_30 : decode cX0_firstShownBehind 30 = .ok (.getfield 42, 3) := by decide +kernel
theorem dX0_firstShownBehind_33 : decode cX0_firstShownBehind 33 = .ok (.iload_n 1, 1) := by decide +kernel
theorem dX0_firstShownBehind_34 : decode cX0_firstShownBehind 34 = .ok (.if_icmp .le 23, 3) := by decide +kernel
theorem dX0_firstShownBehind_37 : decode cX0_firstShownBehind 37 = .ok (.aload_n 2, 1) := by decide +kernel
theorem dX0_firstShownBehind_38 : decode cX0_firstShownBehind 38 = .ok (.ifnull 15, 3) := by decide +kernel
theorem dX0_firstShownBehind_41 : decode cX0_firstShownBehind 41 = .ok (.aload 4, 2) := by decide +kernel
theorem dX0_firstShownBehind_43 : decode cX0_firstShownBehind 43 = .ok (.getfield 42, 3) := by decide +kernel
theorem dX0_firstShownBehind_46 : decode cX0_firstShownBehind 46 = .ok (.aload_n 2, 1) := by decide +kernel
theorem dX0_firstShownBehind_47 : decode cX0_firstShownBehind 47 = .ok (.getfield 42, 3) := by decide +kernel
theorem dX0_firstShownBehind_50 : decode cX0_firstShownBehind 50 = .ok (.if_icmp .ge 7, 3) := by decide +kernel
theorem dX0_firstShownBehind_53 : decode cX0_firstShownBehind 53 = .ok (.iconst 1, 1) := by decide +kernel
theorem dX0_firstShownBehind_54 : decode cX0_firstShownBehind 54 = .ok (.goto 4, 3) := by decide +kernel
theorem dX0_firstShownBehind_57 : decode cX0_firstShownBehind 57 = .ok (.iconst 0, 1) := by decide +kernel
theorem dX0_firstShownBehind_58 : decode cX0_firstShownBehind 58 = .ok (.istore 5, 2) := by decide +kernel
theorem dX0_firstShownBehind_60 : decode cX0_firstShownBehind 60 = .ok (.iload 5, 2) := by decide +kernel
theorem dX0_firstShownBehind_62 : decode cX0_firstShownBehind 62 = .ok (.ifCond .eq 18, 3) := by decide +kernel
theorem dX0_firstShownBehind_65 : decode cX0_firstShownBehind 65 = .ok (.aload_n 0, 1) := by decide +kernel
theorem dX0_firstShownBehind_66 : decode cX0_firstShownBehind 66 = .ok (.aload 4, 2) := by decide +kernel
theorem dX0_firstShownBehind_68 : decode cX0_firstShownBehind 68 = .ok (.getfield 42, 3) := by decide +kernel
theorem dX0_firstShownBehind_71 : decode cX0_firstShownBehind 71 = .ok (.invokevirtual 48, 3) := by decide +kernel
theorem dX0_firstShownBehind_74 : decode cX0_firstShownBehind 74 = .ok (.ifCond .ne 6, 3) := by decide +kernel
theorem dX0_firstShownBehind_77 : decode cX0_firstShownBehind 77 = .ok (.aload 4, 2) := by decide +kernel
theorem dX0_firstShownBehind_79 : decode cX0_firstShownBehind 79 = .ok (.astore_n 2, 1) := by decide +kernel
theorem dX0_firstShownBehind_80 : decode cX0_firstShownBehind 80 = .ok (.iinc 3 1, 3) := by decide +kernel
theorem dX0_firstShownBehind_83 : decode cX0_firstShownBehind 83 = .ok (.goto (-79), 3) := by decide +kernel
theorem dX0_firstShownBehind_86 : decode cX0_firstShownBehind 86 = .ok (.aload_n 2, 1) := by decide +kernel
theorem dX0_firstShownBehind_87 : decode cX0_firstShownBehind 87 = .ok (.areturn, 1) := by decide +kernel
theorem dX0_countShown_0 : decode cX0_countShown 0 = .ok (.iconst 0, 1) := by decide +kernel
theorem dX0_countShown_1 : decode cX0_countShown 1 = .ok (.istore_n 1, 1) := by decide +kernel
theorem dX0_countShown_2 : decode cX0_countShown 2 = .ok (.iconst 0, 1) := by decide +kernel
theorem dX0_countShown_3 : decode cX0_countShown 3 = .ok (.istore_n 2, 1) := by decide +kernel
theorem dX0_countShown_4 : decode cX0_countShown 4 = .ok (.iload_n 2, 1) := by decide +kernel
theorem dX0_countShown_5 : decode cX0_countShown 5 = .ok (.aload_n 0, 1) := by decide +kernel
theorem dX0_countShown_6 : decode cX0_countShown 6 = .ok (.getfield 12, 3) := by decide +kernel
theorem dX0_countShown_9 : decode cX0_countShown 9 = .ok (.invokevirtual 32, 3) := by decide +kernel
theorem dX0_countShown_12 : decode cX0_countShown 12 = .ok (.if_icmp .ge 33, 3) := by decide +kernel
theorem dX0_countShown_15 : decode cX0_countShown 15 = .ok (.aload_n 0, 1) := by decide +kernel
theorem dX0_countShown_16 : decode cX0_countShown 16 = .ok (.aload_n 0, 1) := by decide +kernel
theorem dX0_countShown_17 : decode cX0_countShown 17 = .ok (.getfield 12, 3) := by decide +kernel
theorem dX0_countShown_20 : decode cX0_countShown 20 = .ok (.iload_n 2, 1) := by decide +kernel
theorem dX0_countShown_21 : decode cX0_countShown 21 = .ok (.invokevirtual 36, 3) := by decide +kernel
theorem dX0_countShown_24 : decode cX0_countShown 24 = .ok (.checkcast 40, 3) := by decide +kernel
theorem dX0_countShown_27 : decode cX0_countShown 27 = .ok (.getfield 42, 3) := by decide +kernel
theorem dX0_countShown_30 : decode cX0_countShown 30 = .ok (.invokevirtual 48, 3) := by decide +kernel
theorem dX0_countShown_33 : decode cX0_countShown 33 = .ok (.ifCond .ne 6, 3) := by decide +kernel
theorem dX0_countShown_36 : decode cX0_countShown 36 = .ok (.iinc 1 1, 3) := by decide +kernel
theorem dX0_countShown_39 : decode cX0_countShown 39 = .ok (.iinc 2 1, 3) := by decide +kernel
theorem dX0_countShown_42 : decode cX0_countShown 42 = .ok (.goto (-38), 3) := by decide +kernel
theorem dX0_countShown_45 : decode cX0_countShown 45 = .ok (.iload_n 1, 1) := by decide +kernel
theorem dX0_countShown_46 : decode cX0_countShown 46 = .ok (.ireturn, 1) := by decide +kernel
theorem dX0_hides_0 : decode cX0_hides 0 = .ok (.iconst 4, 1) := by decide +kernel
theorem dX0_hides_1 : decode cX0_hides 1 = .ok (.istore_n 2, 1) := by decide +kernel
theorem dX0_hides_2 : decode cX0_hides 2 = .ok (.iload_n 2, 1) := by decide +kernel
theorem dX0_hides_3 : decode cX0_hides 3 = .ok (.ifCond .lt 34, 3) := by decide +kernel
theorem dX0_hides_6 : decode cX0_hides 6 = .ok (.aload_n 0, 1) := by decide +kernel
theorem dX0_hides_7 : decode cX0_hides 7 = .ok (.iload_n 1, 1) := by decide +kernel
theorem dX0_hides_8 : decode cX0_hides 8 = .ok (.iload_n 2, 1) := by decide +kernel
theorem dX0_hides_9 : decode cX0_hides 9 = .ok (.invokestatic 52, 3) := by decide +kernel
theorem dX0_hides_12 : decode cX0_hides 12 = .ok (.invokevirtual 56, 3) := by decide +kernel
theorem dX0_hides_15 : decode cX0_hides 15 = .ok (.istore_n 3, 1) := by decide +kernel
theorem dX0_hides_16 : decode cX0_hides 16 = .ok (.iload_n 3, 1) := by decide +kernel
theorem dX0_hides_17 : decode cX0_hides 17 = .ok (.ifCond .eq 14, 3) := by decide +kernel
theorem dX0_hides_20 : decode cX0_hides 20 = .ok (.iload_n 3, 1) := by decide +kernel
theorem dX0_hides_21 : decode cX0_hides 21 = .ok (.iconst 1, 1) := by decide +kernel
theorem dX0_hides_22 : decode cX0_hides 22 = .ok (.if_icmp .ne 7, 3) := by decide +kernel
theorem dX0_hides_25 : decode cX0_hides 25 = .ok (.iconst 1, 1) := by decide +kernel
theorem dX0_hides_26 : decode cX0_hides 26 = .ok (.goto 4, 3) := by decide +kernel
theorem dX0_hides_29 : decode cX0_hides 29 = .ok (.iconst 0, 1) := by decide +kernel
theorem dX0_hides_30 : decode cX0_hides 30 = .ok (.ireturn, 1) := by decide +kernel
theorem dX0_hides_31 : decode cX0_hides 31 = .ok (.iinc 2 (-1), 3) := by decide +kernel
theorem dX0_hides_34 : decode cX0_hides 34 = .ok (.goto (-32), 3) := by decide +kernel
theorem dX0_hides_37 : decode cX0_hides 37 = .ok (.iconst 0, 1) := by decide +kernel
theorem dX0_hides_38 : decode cX0_hides 38 = .ok (.ireturn, 1) := by decide +kernel
theorem dX0_ruleOf_0 : decode cX0_ruleOf 0 = .ok (.iconst 0, 1) := by decide +kernel
theorem dX0_ruleOf_1 : decode cX0_ruleOf 1 = .ok (.istore_n 2, 1) := by decide +kernel
theorem dX0_ruleOf_2 : decode cX0_ruleOf 2 = .ok (.iload_n 2, 1) := by decide +kernel
theorem dX0_ruleOf_3 : decode cX0_ruleOf 3 = .ok (.bipush 10, 2) := by decide +kernel
theorem dX0_ruleOf_5 : decode cX0_ruleOf 5 = .ok (.if_icmp .ge 35, 3) := by decide +kernel
theorem dX0_ruleOf_8 : decode cX0_ruleOf 8 = .ok (.aload_n 0, 1) := by decide +kernel
theorem dX0_ruleOf_9 : decode cX0_ruleOf 9 = .ok (.getfield 22, 3) := by decide +kernel
theorem dX0_ruleOf_12 : decode cX0_ruleOf 12 = .ok (.iload_n 2, 1) := by decide +kernel
theorem dX0_ruleOf_13 : decode cX0_ruleOf 13 = .ok (.iaload, 1) := by decide +kernel
theorem dX0_ruleOf_14 : decode cX0_ruleOf 14 = .ok (.ifCond .eq 20, 3) := by decide +kernel
theorem dX0_ruleOf_17 : decode cX0_ruleOf 17 = .ok (.aload_n 0, 1) := by decide +kernel
theorem dX0_ruleOf_18 : decode cX0_ruleOf 18 = .ok (.getfield 18, 3) := by decide +kernel
theorem dX0_ruleOf_21 : decode cX0_ruleOf 21 = .ok (.iload_n 2, 1) := by decide +kernel
theorem dX0_ruleOf_22 : decode cX0_ruleOf 22 = .ok (.iaload, 1) := by decide +kernel
theorem dX0_ruleOf_23 : decode cX0_ruleOf 23 = .ok (.iload_n 1, 1) := by decide +kernel
theorem dX0_ruleOf_24 : decode cX0_ruleOf 24 = .ok (.if_icmp .ne 10, 3) := by decide +kernel
theorem dX0_ruleOf_27 : decode cX0_ruleOf 27 = .ok (.aload_n 0, 1) := by decide +kernel
theorem dX0_ruleOf_28 : decode cX0_ruleOf 28 = .ok (.getfield 22, 3) := by decide +kernel
theorem dX0_ruleOf_31 : decode cX0_ruleOf 31 = .ok (.iload_n 2, 1) := by decide +kernel
theorem dX0_ruleOf_32 : decode cX0_ruleOf 32 = .ok (.iaload, 1) := by decide +kernel
theorem dX0_ruleOf_33 : decode cX0_ruleOf 33 = .ok (.ireturn, 1) := by decide +kernel
theorem dX0_ruleOf_34 : decode cX0_ruleOf 34 = .ok (.iinc 2 1, 3) := by decide +kernel
theorem dX0_ruleOf_37 : decode cX0_ruleOf 37 = .ok (.goto (-35), 3) := by decide +kernel
theorem dX0_ruleOf_40 : decode cX0_ruleOf 40 = .ok (.iconst 0, 1) := by decide +kernel
theorem dX0_ruleOf_41 : decode cX0_ruleOf 41 = .ok (.ireturn, 1) := by decide +kernel
theorem dX0_countRules_0 : decode cX0_countRules 0 = .ok (.iconst 0, 1) := by decide +kernel
theorem dX0_countRules_1 : decode cX0_countRules 1 = .ok (.istore_n 1, 1) := by decide +kernel
theorem dX0_countRules_2 : decode cX0_countRules 2 = .ok (.iconst 0, 1) := by decide +kernel
theorem dX0_countRules_3 : decode cX0_countRules 3 = .ok (.istore_n 2, 1) := by decide +kernel
theorem dX0_countRules_4 : decode cX0_countRules 4 = .ok (.iload_n 2, 1) := by decide +kernel
theorem dX0_countRules_5 : decode cX0_countRules 5 = .ok (.bipush 10, 2) := by decide +kernel
theorem dX0_countRules_7 : decode cX0_countRules 7 = .ok (.if_icmp .ge 21, 3) := by decide +kernel
theorem dX0_countRules_10 : decode cX0_countRules 10 = .ok (.aload_n 0, 1) := by decide +kernel
theorem dX0_countRules_11 : decode cX0_countRules 11 = .ok (.getfield 22, 3) := by decide +kernel
theorem dX0_countRules_14 : decode cX0_countRules 14 = .ok (.iload_n 2, 1) := by decide +kernel
theorem dX0_countRules_15 : decode cX0_countRules 15 = .ok (.iaload, 1) := by decide +kernel
theorem dX0_countRules_16 : decode cX0_countRules 16 = .ok (.ifCond .eq 6, 3) := by decide +kernel
theorem dX0_countRules_19 : decode cX0_countRules 19 = .ok (.iinc 1 1, 3) := by decide +kernel
theorem dX0_countRules_22 : decode cX0_countRules 22 = .ok (.iinc 2 1, 3) := by decide +kernel
theorem dX0_countRules_25 : decode cX0_countRules 25 = .ok (.goto (-21), 3) := by decide +kernel
theorem dX0_countRules_28 : decode cX0_countRules 28 = .ok (.iload_n 1, 1) := by decide +kernel
theorem dX0_countRules_29 : decode cX0_countRules 29 = .ok (.ireturn, 1) := by decide +kernel
theorem dX0_setRule_0 : decode cX0_setRule 0 = .ok (.iconst (-1), 1) := by decide +kernel
theorem dX0_setRule_1 : decode cX0_setRule 1 = .ok (.istore_n 3, 1) := by decide +kernel
theorem dX0_setRule_2 : decode cX0_setRule 2 = .ok (.iconst 0, 1) := by decide +kernel
theorem dX0_setRule_3 : decode cX0_setRule 3 = .ok (.istore 4, 2) := by decide +kernel
theorem dX0_setRule_5 : decode cX0_setRule 5 = .ok (.iload 4, 2) := by decide +kernel
theorem dX0_setRule_7 : decode cX0_setRule 7 = .ok (.bipush 10, 2) := by decide +kernel
theorem dX0_setRule_9 : decode cX0_setRule 9 = .ok (.if_icmp .ge 51, 3) := by decide +kernel
theorem dX0_setRule_12 : decode cX0_setRule 12 = .ok (.aload_n 0, 1) := by decide +kernel
theorem dX0_setRule_13 : decode cX0_setRule 13 = .ok (.getfield 22, 3) := by decide +kernel
theorem dX0_setRule_16 : decode cX0_setRule 16 = .ok (.iload 4, 2) := by decide +kernel
theorem dX0_setRule_18 : decode cX0_setRule 18 = .ok (.iaload, 1) := by decide +kernel
theorem dX0_setRule_19 : decode cX0_setRule 19 = .ok (.ifCond .eq 22, 3) := by decide +kernel
theorem dX0_setRule_22 : decode cX0_setRule 22 = .ok (.aload_n 0, 1) := by decide +kernel
theorem dX0_setRule_23 : decode cX0_setRule 23 = .ok (.getfield 18, 3) := by decide +kernel
theorem dX0_setRule_26 : decode cX0_setRule 26 = .ok (.iload 4, 2) := by decide +kernel
theorem dX0_setRule_28 : decode cX0_setRule 28 = .ok (.iaload, 1) := by decide +kernel
theorem dX0_setRule_29 : decode cX0_setRule 29 = .ok (.iload_n 1, 1) := by decide +kernel
theorem dX0_setRule_30 : decode cX0_setRule 30 = .ok (.if_icmp .ne 11, 3) := by decide +kernel
theorem dX0_setRule_33 : decode cX0_setRule 33 = .ok (.aload_n 0, 1) := by decide +kernel
theorem dX0_setRule_34 : decode cX0_setRule 34 = .ok (.getfield 22, 3) := by decide +kernel
theorem dX0_setRule_37 : decode cX0_setRule 37 = .ok (.iload 4, 2) := by decide +kernel
theorem dX0_setRule_39 : decode cX0_setRule 39 = .ok (.iconst 0, 1) := by decide +kernel
theorem dX0_setRule_40 : decode cX0_setRule 40 = .ok (.iastore, 1) := by decide +kernel
theorem dX0_setRule_41 : decode cX0_setRule 41 = .ok (.aload_n 0, 1) := by decide +kernel
theorem dX0_setRule_42 : decode cX0_setRule 42 = .ok (.getfield 22, 3) := by decide +kernel
theorem dX0_setRule_45 : decode cX0_setRule 45 = .ok (.iload 4, 2) := by decide +kernel
theorem dX0_setRule_47 : decode cX0_setRule 47 = .ok (.iaload, 1) := by decide +kernel
theorem dX0_setRule_48 : decode cX0_setRule 48 = .ok (.ifCond .ne 6, 3) := by decide +kernel
theorem dX0_setRule_51 : decode cX0_setRule 51 = .ok (.iload 4, 2) := by decide +kernel
theorem dX0_setRule_53 : decode cX0_setRule 53 = .ok (.istore_n 3, 1) := by decide +kernel
theorem dX0_setRule_54 : decode cX0_setRule 54 = .ok (.iinc 4 1, 3) := by decide +kernel
theorem dX0_setRule_57 : decode cX0_setRule 57 = .ok (.goto (-52), 3) := by decide +kernel
theorem dX0_setRule_60 : decode cX0_setRule 60 = .ok (.iload_n 3, 1) := by decide +kernel
theorem dX0_setRule_61 : decode cX0_setRule 61 = .ok (.ifCond .lt 23, 3) := by decide +kernel
theorem dX0_setRule_64 : decode cX0_setRule 64 = .ok (.iload_n 3, 1) := by decide +kernel
theorem dX0_setRule_65 : decode cX0_setRule 65 = .ok (.bipush 10, 2) := by decide +kernel
theorem dX0_setRule_67 : decode cX0_setRule 67 = .ok (.if_icmp .ge 17, 3) := by decide +kernel
theorem dX0_setRule_70 : decode cX0_setRule 70 = .ok (.aload_n 0, 1) := by decide +kernel
theorem dX0_setRule_71 : decode cX0_setRule 71 = .ok (.getfield 18, 3) := by decide +kernel
theorem dX0_setRule_74 : decode cX0_setRule 74 = .ok (.iload_n 3, 1) := by decide +kernel
theorem dX0_setRule_75 : decode cX0_setRule 75 = .ok (.iload_n 1, 1) := by decide +kernel
theorem dX0_setRule_76 : decode cX0_setRule 76 = .ok (.iastore, 1) := by decide +kernel
theorem dX0_setRule_77 : decode cX0_setRule 77 = .ok (.aload_n 0, 1) := by decide +kernel
theorem dX0_setRule_78 : decode cX0_setRule 78 = .ok (.getfield 22, 3) := by decide +kernel
theorem dX0_setRule_81 : decode cX0_setRule 81 = .ok (.iload_n 3, 1) := by decide +kernel
theorem dX0_setRule_82 : decode cX0_setRule 82 = .ok (.iload_n 2, 1) := by decide +kernel
theorem dX0_setRule_83 : decode cX0_setRule 83 = .ok (.iastore, 1) := by decide +kernel
theorem dX0_setRule_84 : decode cX0_setRule 84 = .ok (.return_, 1) := by decide +kernel
theorem dX0_hasNeighbour_0 : decode cX0_hasNeighbour 0 = .ok (.iconst 0, 1) := by decide +kernel
theorem dX0_hasNeighbour_1 : decode cX0_hasNeighbour 1 = .ok (.istore_n 2, 1) := by decide +kernel
theorem dX0_hasNeighbour_2 : decode cX0_hasNeighbour 2 = .ok (.iload_n 2, 1) := by decide +kernel
theorem dX0_hasNeighbour_3 : decode cX0_hasNeighbour 3 = .ok (.iconst 4, 1) := by decide +kernel
theorem dX0_hasNeighbour_4 : decode cX0_hasNeighbour 4 = .ok (.if_icmp .ge 21, 3) := by decide +kernel
theorem dX0_hasNeighbour_7 : decode cX0_hasNeighbour 7 = .ok (.aload_n 0, 1) := by decide +kernel
theorem dX0_hasNeighbour_8 : decode cX0_hasNeighbour 8 = .ok (.getfield 25, 3) := by decide +kernel
theorem dX0_hasNeighbour_11 : decode cX0_hasNeighbour 11 = .ok (.iload_n 2, 1) := by decide +kernel
theorem dX0_hasNeighbour_12 : decode cX0_hasNeighbour 12 = .ok (.iaload, 1) := by decide +kernel
theorem dX0_hasNeighbour_13 : decode cX0_hasNeighbour 13 = .ok (.iload_n 1, 1) := by decide +kernel
theorem dX0_hasNeighbour_14 : decode cX0_hasNeighbour 14 = .ok (.if_icmp .ne 5, 3) := by decide +kernel
theorem dX0_hasNeighbour_17 : decode cX0_hasNeighbour 17 = .ok (.iconst 1, 1) := by decide +kernel
theorem dX0_hasNeighbour_18 : decode cX0_hasNeighbour 18 = .ok (.ireturn, 1) := by decide +kernel
theorem dX0_hasNeighbour_19 : decode cX0_hasNeighbour 19 = .ok (.iinc 2 1, 3) := by decide +kernel
theorem dX0_hasNeighbour_22 : decode cX0_hasNeighbour 22 = .ok (.goto (-20), 3) := by decide +kernel
theorem dX0_hasNeighbour_25 : decode cX0_hasNeighbour 25 = .ok (.iconst 0, 1) := by decide +kernel
theorem dX0_hasNeighbour_26 : decode cX0_hasNeighbour 26 = .ok (.ireturn, 1) := by decide +kernel
theorem dX1_init_0 : decode cX1_init 0 = .ok (.aload_n 0, 1) := by decide +kernel
theorem dX1_init_1 : decode cX1_init 1 = .ok (.invokespecial 1, 3) := by decide +kernel
theorem dX1_init_4 : decode cX1_init 4 = .ok (.aload_n 0, 1) := by decide +kernel
theorem dX1_init_5 : decode cX1_init 5 = .ok (.iload_n 1, 1) := by decide +kernel
theorem dX1_init_6 : decode cX1_init 6 = .ok (.putfield 7, 3) := by decide +kernel
theorem dX1_init_9 : decode cX1_init 9 = .ok (.aload_n 0, 1) := by decide +kernel
theorem dX1_init_10 : decode cX1_init 10 = .ok (.iload_n 2, 1) := by decide +kernel
theorem dX1_init_11 : decode cX1_init 11 = .ok (.putfield 13, 3) := by decide +kernel
theorem dX1_init_14 : decode cX1_init 14 = .ok (.aload_n 0, 1) := by decide +kernel
theorem dX1_init_15 : decode cX1_init 15 = .ok (.iload_n 3, 1) := by decide +kernel
theorem dX1_init_16 : decode cX1_init 16 = .ok (.putfield 16, 3) := by decide +kernel
theorem dX1_init_19 : decode cX1_init 19 = .ok (.aload_n 0, 1) := by decide +kernel
theorem dX1_init_20 : decode cX1_init 20 = .ok (.aconst_null, 1) := by decide +kernel
theorem dX1_init_21 : decode cX1_init 21 = .ok (.putfield 19, 3) := by decide +kernel
theorem dX1_init_24 : decode cX1_init 24 = .ok (.aload_n 0, 1) := by decide +kernel
theorem dX1_init_25 : decode cX1_init 25 = .ok (.aconst_null, 1) := by decide +kernel
theorem dX1_init_26 : decode cX1_init 26 = .ok (.putfield 23, 3) := by decide +kernel
theorem dX1_init_29 : decode cX1_init 29 = .ok (.aload_n 0, 1) := by decide +kernel
theorem dX1_init_30 : decode cX1_init 30 = .ok (.aconst_null, 1) := by decide +kernel
theorem dX1_init_31 : decode cX1_init 31 = .ok (.putfield 27, 3) := by decide +kernel
theorem dX1_init_34 : decode cX1_init 34 = .ok (.return_, 1) := by decide +kernel
theorem dX2_init_0 : decode cX2_init 0 = .ok (.aload_n 0, 1) := by decide +kernel
theorem dX2_init_1 : decode cX2_init 1 = .ok (.invokespecial 1, 3) := by decide +kernel
theorem dX2_init_4 : decode cX2_init 4 = .ok (.aload_n 0, 1) := by decide +kernel
theorem dX2_init_5 : decode cX2_init 5 = .ok (.iload_n 1, 1) := by decide +kernel
theorem dX2_init_6 : decode cX2_init 6 = .ok (.putfield 7, 3) := by decide +kernel
theorem dX2_init_9 : decode cX2_init 9 = .ok (.aload_n 0, 1) := by decide +kernel
theorem dX2_init_10 : decode cX2_init 10 = .ok (.iload_n 2, 1) := by decide +kernel
theorem dX2_init_11 : decode cX2_init 11 = .ok (.putfield 13, 3) := by decide +kernel
theorem dX2_init_14 : decode cX2_init 14 = .ok (.aload_n 0, 1) := by decide +kernel
theorem dX2_init_15 : decode cX2_init 15 = .ok (.iconst 1, 1) := by decide +kernel
theorem dX2_init_16 : decode cX2_init 16 = .ok (.putfield 16, 3) := by decide +kernel
theorem dX2_init_19 : decode cX2_init 19 = .ok (.return_, 1) := by decide +kernel
theorem dX2_fireAt_0 : decode cX2_fireAt 0 = .ok (.aload_n 0, 1) := by decide +kernel
theorem dX2_fireAt_1 : decode cX2_fireAt 1 = .ok (.getfield 16, 3) := by decide +kernel
theorem dX2_fireAt_4 : decode cX2_fireAt 4 = .ok (.ifCond .eq 18, 3) := by decide +kernel
theorem dX2_fireAt_7 : decode cX2_fireAt 7 = .ok (.iload_n 1, 1) := by decide +kernel
theorem dX2_fireAt_8 : decode cX2_fireAt 8 = .ok (.aload_n 0, 1) := by decide +kernel
theorem dX2_fireAt_9 : decode cX2_fireAt 9 = .ok (.getfield 13, 3) := by decide +kernel
theorem dX2_fireAt_12 : decode cX2_fireAt 12 = .ok (.if_icmp .lt 10, 3) := by decide +kernel
theorem dX2_fireAt_15 : decode cX2_fireAt 15 = .ok (.aload_n 0, 1) := by decide +kernel
theorem dX2_fireAt_16 : decode cX2_fireAt 16 = .ok (.iconst 0, 1) := by decide +kernel
theorem dX2_fireAt_17 : decode cX2_fireAt 17 = .ok (.putfield 16, 3) := by decide +kernel
theorem dX2_fireAt_20 : decode cX2_fireAt 20 = .ok (.iconst 1, 1) := by decide +kernel
theorem dX2_fireAt_21 : decode cX2_fireAt 21 = .ok (.ireturn, 1) := by decide +kernel
theorem dX2_fireAt_22 : decode cX2_fireAt 22 = .ok (.iload_n 1, 1) := by decide +kernel
theorem dX2_fireAt_23 : decode cX2_fireAt 23 = .ok (.aload_n 0, 1) := by decide +kernel
theorem dX2_fireAt_24 : decode cX2_fireAt 24 = .ok (.getfield 7, 3) := by decide +kernel
theorem dX2_fireAt_27 : decode cX2_fireAt 27 = .ok (.if_icmp .gt 8, 3) := by decide +kernel
theorem dX2_fireAt_30 : decode cX2_fireAt 30 = .ok (.aload_n 0, 1) := by decide +kernel
theorem dX2_fireAt_31 : decode cX2_fireAt 31 = .ok (.iconst 1, 1) := by decide +kernel
theorem dX2_fireAt_32 : decode cX2_fireAt 32 = .ok (.putfield 16, 3) := by decide +kernel
theorem dX2_fireAt_35 : decode cX2_fireAt 35 = .ok (.iconst 0, 1) := by decide +kernel
theorem dX2_fireAt_36 : decode cX2_fireAt 36 = .ok (.ireturn, 1) := by decide +kernel
theorem dX3_init_0 : decode cX3_init 0 = .ok (.aload_n 0, 1) := by decide +kernel
theorem dX3_init_1 : decode cX3_init 1 = .ok (.invokespecial 1, 3) := by decide +kernel
theorem dX3_init_4 : decode cX3_init 4 = .ok (.aload_n 0, 1) := by decide +kernel
theorem dX3_init_5 : decode cX3_init 5 = .ok (.iload_n 1, 1) := by decide +kernel
theorem dX3_init_6 : decode cX3_init 6 = .ok (.putfield 7, 3) := by decide +kernel
theorem dX3_init_9 : decode cX3_init 9 = .ok (.aload_n 0, 1) := by decide +kernel
theorem dX3_init_10 : decode cX3_init 10 = .ok (.iload_n 2, 1) := by decide +kernel
theorem dX3_init_11 : decode cX3_init 11 = .ok (.putfield 13, 3) := by decide +kernel
theorem dX3_init_14 : decode cX3_init 14 = .ok (.aload_n 0, 1) := by decide +kernel
theorem dX3_init_15 : decode cX3_init 15 = .ok (.iload_n 3, 1) := by decide +kernel
theorem dX3_init_16 : decode cX3_init 16 = .ok (.putfield 16, 3) := by decide +kernel
theorem dX3_init_19 : decode cX3_init 19 = .ok (.return_, 1) := by decide +kernel
theorem dX4_init_0 : decode cX4_init 0 = .ok (.aload_n 0, 1) := by decide +kernel
theorem dX4_init_1 : decode cX4_init 1 = .ok (.invokespecial 1, 3) := by decide +kernel
theorem dX4_init_4 : decode cX4_init 4 = .ok (.aload_n 0, 1) := by decide +kernel
theorem dX4_init_5 : decode cX4_init 5 = .ok (.iload_n 1, 1) := by decide +kernel
theorem dX4_init_6 : decode cX4_init 6 = .ok (.putfield 7, 3) := by decide +kernel
theorem dX4_init_9 : decode cX4_init 9 = .ok (.aload_n 0, 1) := by decide +kernel
theorem dX4_init_10 : decode cX4_init 10 = .ok (.iload_n 2, 1) := by decide +kernel
theorem dX4_init_11 : decode cX4_init 11 = .ok (.putfield 13, 3) := by decide +kernel
theorem dX4_init_14 : decode cX4_init 14 = .ok (.aload_n 0, 1) := by decide +kernel
theorem dX4_init_15 : decode cX4_init 15 = .ok (.iload_n 3, 1) := by decide +kernel
theorem dX4_init_16 : decode cX4_init 16 = .ok (.putfield 16, 3) := by decide +kernel
theorem dX4_init_19 : decode cX4_init 19 = .ok (.aload_n 0, 1) := by decide +kernel
theorem dX4_init_20 : decode cX4_init 20 = .ok (.iconst 0, 1) := by decide +kernel
theorem dX4_init_21 : decode cX4_init 21 = .ok (.putfield 19, 3) := by decide +kernel
theorem dX4_init_24 : decode cX4_init 24 = .ok (.return_, 1) := by decide +kernel
theorem dX5_init_0 : decode cX5_init 0 = .ok (.aload_n 0, 1) := by decide +kernel
theorem dX5_init_1 : decode cX5_init 1 = .ok (.invokespecial 1, 3) := by decide +kernel
theorem dX5_init_4 : decode cX5_init 4 = .ok (.aload_n 0, 1) := by decide +kernel
theorem dX5_init_5 : decode cX5_init 5 = .ok (.iconst 4, 1) := by decide +kernel
theorem dX5_init_6 : decode cX5_init 6 = .ok (.anewarray 9, 3) := by decide +kernel
theorem dX5_init_9 : decode cX5_init 9 = .ok (.putfield 11, 3) := by decide +kernel
theorem dX5_init_12 : decode cX5_init 12 = .ok (.iconst 0, 1) := by decide +kernel
theorem dX5_init_13 : decode cX5_init 13 = .ok (.istore_n 1, 1) := by decide +kernel
theorem dX5_init_14 : decode cX5_init 14 = .ok (.iload_n 1, 1) := by decide +kernel
theorem dX5_init_15 : decode cX5_init 15 = .ok (.iconst 4, 1) := by decide +kernel
theorem dX5_init_16 : decode cX5_init 16 = .ok (.if_icmp .ge 22, 3) := by decide +kernel
theorem dX5_init_19 : decode cX5_init 19 = .ok (.aload_n 0, 1) := by decide +kernel
theorem dX5_init_20 : decode cX5_init 20 = .ok (.getfield 11, 3) := by decide +kernel
theorem dX5_init_23 : decode cX5_init 23 = .ok (.iload_n 1, 1) := by decide +kernel
theorem dX5_init_24 : decode cX5_init 24 = .ok (.new 9, 3) := by decide +kernel
theorem dX5_init_27 : decode cX5_init 27 = .ok (.dup, 1) := by decide +kernel
theorem dX5_init_28 : decode cX5_init 28 = .ok (.invokespecial 15, 3) := by decide +kernel
theorem dX5_init_31 : decode cX5_init 31 = .ok (.aastore, 1) := by decide +kernel
theorem dX5_init_32 : decode cX5_init 32 = .ok (.iinc 1 1, 3) := by decide +kernel
theorem dX5_init_35 : decode cX5_init 35 = .ok (.goto (-21), 3) := by decide +kernel
theorem dX5_init_38 : decode cX5_init 38 = .ok (.aload_n 0, 1) := by decide +kernel
theorem dX5_init_39 : decode cX5_init 39 = .ok (.new 16, 3) := by decide +kernel
theorem dX5_init_42 : decode cX5_init 42 = .ok (.dup, 1) := by decide +kernel
theorem dX5_init_43 : decode cX5_init 43 = .ok (.invokespecial 18, 3) := by decide +kernel
theorem dX5_init_46 : decode cX5_init 46 = .ok (.putfield 19, 3) := by decide +kernel
theorem dX5_init_49 : decode cX5_init 49 = .ok (.aload_n 0, 1) := by decide +kernel
theorem dX5_init_50 : decode cX5_init 50 = .ok (.new 16, 3) := by decide +kernel
theorem dX5_init_53 : decode cX5_init 53 = .ok (.dup, 1) := by decide +kernel
theorem dX5_init_54 : decode cX5_init 54 = .ok (.invokespecial 18, 3) := by decide +kernel
theorem dX5_init_57 : decode cX5_init 57 = .ok (.putfield 23, 3) := by decide +kernel
theorem dX5_init_60 : decode cX5_init 60 = .ok (.aload_n 0, 1) := by decide +kernel
theorem dX5_init_61 : decode cX5_init 61 = .ok (.iconst 0, 1) := by decide +kernel
theorem dX5_init_62 : decode cX5_init 62 = .ok (.putfield 26, 3) := by decide +kernel
theorem dX5_init_65 : decode cX5_init 65 = .ok (.aload_n 0, 1) := by decide +kernel
theorem dX5_init_66 : decode cX5_init 66 = .ok (.iconst 0, 1) := by decide +kernel
theorem dX5_init_67 : decode cX5_init 67 = .ok (.putfield 30, 3) := by decide +kernel
theorem dX5_init_70 : decode cX5_init 70 = .ok (.return_, 1) := by decide +kernel
theorem dX5_write_0 : decode cX5_write 0 = .ok (.iload_n 1, 1) := by decide +kernel
theorem dX5_write_1 : decode cX5_write 1 = .ok (.ifCond .lt 9, 3) := by decide +kernel
theorem dX5_write_4 : decode cX5_write 4 = .ok (.iload_n 1, 1) := by decide +kernel
theorem dX5_write_5 : decode cX5_write 5 = .ok (.bipush 9, 2) := by decide +kernel
theorem dX5_write_7 : decode cX5_write 7 = .ok (.if_icmp .le 13, 3) := by decide +kernel
theorem dX5_write_10 : decode cX5_write 10 = .ok (.new 33, 3) := by decide +kernel
theorem dX5_write_13 : decode cX5_write 13 = .ok (.dup, 1) := by decide +kernel
theorem dX5_write_14 : decode cX5_write 14 = .ok (.ldc 35, 2) := by decide +kernel
theorem dX5_write_16 : decode cX5_write 16 = .ok (.invokespecial 37, 3) := by decide +kernel
theorem dX5_write_19 : decode cX5_write 19 = .ok (.athrow, 1) := by decide +kernel
theorem dX5_write_20 : decode cX5_write 20 = .ok (.aload_n 0, 1) := by decide +kernel
theorem dX5_write_21 : decode cX5_write 21 = .ok (.getfield 26, 3) := by decide +kernel
theorem dX5_write_24 : decode cX5_write 24 = .ok (.invokestatic 40, 3) := by decide +kernel
theorem dX5_write_27 : decode cX5_write 27 = .ok (.istore_n 2, 1) := by decide +kernel
theorem dX5_write_28 : decode cX5_write 28 = .ok (.iload_n 2, 1) := by decide +kernel
theorem dX5_write_29 : decode cX5_write 29 = .ok (.iconst 4, 1) := by decide +kernel
theorem dX5_write_30 : decode cX5_write 30 = .ok (.if_icmp .lt 13, 3) := by decide +kernel
theorem dX5_write_33 : decode cX5_write 33 = .ok (.new 44, 3) := by decide +kernel
theorem dX5_write_36 : decode cX5_write 36 = .ok (.dup, 1) := by decide +kernel
theorem dX5_write_37 : decode cX5_write 37 = .ok (.ldc 46, 2) := by decide +kernel
theorem dX5_write_39 : decode cX5_write 39 = .ok (.invokespecial 48, 3) := by decide +kernel
theorem dX5_write_42 : decode cX5_write 42 = .ok (.athrow, 1) := by decide +kernel
theorem dX5_write_43 : decode cX5_write 43 = .ok (.aload_n 0, 1) := by decide +kernel
theorem dX5_write_44 : decode cX5_write 44 = .ok (.dup, 1) := by decide +kernel
theorem dX5_write_45 : decode cX5_write 45 = .ok (.getfield 26, 3) := by decide +kernel
theorem dX5_write_48 : decode cX5_write 48 = .ok (.iload_n 1, 1) := by decide +kernel
theorem dX5_write_49 : decode cX5_write 49 = .ok (.iconst 1, 1) := by decide +kernel
theorem dX5_write_50 : decode cX5_write 50 = .ok (.iadd, 1) := by decide +kernel
theorem dX5_write_51 : decode cX5_write 51 = .ok (.iload_n 2, 1) := by decide +kernel
theorem dX5_write_52 : decode cX5_write 52 = .ok (.iconst 1, 1) := by decide +kernel
theorem dX5_write_53 : decode cX5_write 53 = .ok (.iadd, 1) := by decide +kernel
theorem dX5_write_54 : decode cX5_write 54 = .ok (.invokestatic 49, 3) := by decide +kernel
theorem dX5_write_57 : decode cX5_write 57 = .ok (.ishl, 1) := by decide +kernel
theorem dX5_write_58 : decode cX5_write 58 = .ok (.ior, 1) := by decide +kernel
theorem dX5_write_59 : decode cX5_write 59 = .ok (.putfield 26, 3) := by decide +kernel
theorem dX5_write_62 : decode cX5_write 62 = .ok (.iload_n 2, 1) := by decide +kernel
theorem dX5_write_63 : decode cX5_write 63 = .ok (.iconst 1, 1) := by decide +kernel
theorem dX5_write_64 : decode cX5_write 64 = .ok (.iadd, 1) := by decide +kernel
theorem dX5_write_65 : decode cX5_write 65 = .ok (.ireturn, 1) := by decide +kernel
theorem dX5_wipe_0 : decode cX5_wipe 0 = .ok (.aload_n 0, 1) := by decide +kernel
theorem dX5_wipe_1 : decode cX5_wipe 1 = .ok (.getfield 26, 3) := by decide +kernel
theorem dX5_wipe_4 : decode cX5_wipe 4 = .ok (.invokestatic 40, 3) := by decide +kernel
theorem dX5_wipe_7 : decode cX5_wipe 7 = .ok (.istore_n 1, 1) := by decide +kernel
theorem dX5_wipe_8 : decode cX5_wipe 8 = .ok (.aload_n 0, 1) := by decide +kernel
theorem dX5_wipe_9 : decode cX5_wipe 9 = .ok (.iconst 0, 1) := by decide +kernel
theorem dX5_wipe_10 : decode cX5_wipe 10 = .ok (.putfield 26, 3) := by decide +kernel
theorem dX5_wipe_13 : decode cX5_wipe 13 = .ok (.iload_n 1, 1) := by decide +kernel
theorem dX5_wipe_14 : decode cX5_wipe 14 = .ok (.ireturn, 1) := by decide +kernel
theorem dX5_numberAt_0 : decode cX5_numberAt 0 = .ok (.iload_n 1, 1) := by decide +kernel
theorem dX5_numberAt_1 : decode cX5_numberAt 1 = .ok (.ifCond .lt 8, 3) := by decide +kernel
theorem dX5_numberAt_4 : decode cX5_numberAt 4 = .ok (.iload_n 1, 1) := by decide +kernel
theorem dX5_numberAt_5 : decode cX5_numberAt 5 = .ok (.iconst 4, 1) := by decide +kernel
theorem dX5_numberAt_6 : decode cX5_numberAt 6 = .ok (.if_icmp .lt 13, 3) := by decide +kernel
theorem dX5_numberAt_9 : decode cX5_numberAt 9 = .ok (.new 52, 3) := by decide +kernel
theorem dX5_numberAt_12 : decode cX5_numberAt 12 = .ok (.dup, 1) := by decide +kernel
theorem dX5_numberAt_13 : decode cX5_numberAt 13 = .ok (.ldc 54, 2) := by decide +kernel
theorem dX5_numberAt_15 : decode cX5_numberAt 15 = .ok (.invokespecial 56, 3) := by decide +kernel
theorem dX5_numberAt_18 : decode cX5_numberAt 18 = .ok (.athrow, 1) := by decide +kernel
theorem dX5_numberAt_19 : decode cX5_numberAt 19 = .ok (.aload_n 0, 1) := by decide +kernel
theorem dX5_numberAt_20 : decode cX5_numberAt 20 = .ok (.getfield 26, 3) := by decide +kernel
theorem dX5_numberAt_23 : decode cX5_numberAt 23 = .ok (.iload_n 1, 1) := by decide +kernel
theorem dX5_numberAt_24 : decode cX5_numberAt 24 = .ok (.invokestatic 57, 3) := by decide +kernel
theorem dX5_numberAt_27 : decode cX5_numberAt 27 = .ok (.istore_n 2, 1) := by decide +kernel
theorem dX5_numberAt_28 : decode cX5_numberAt 28 = .ok (.iload_n 2, 1) := by decide +kernel
theorem dX5_numberAt_29 : decode cX5_numberAt 29 = .ok (.ifCond .ne 7, 3) := by decide +kernel
theorem dX5_numberAt_32 : decode cX5_numberAt 32 = .ok (.iconst (-1), 1) := by decide +kernel
theorem dX5_numberAt_33 : decode cX5_numberAt 33 = .ok (.goto 6, 3) := by decide +kernel
theorem dX5_numberAt_36 : decode cX5_numberAt 36 = .ok (.iload_n 2, 1) := by decide +kernel
theorem dX5_numberAt_37 : decode cX5_numberAt 37 = .ok (.iconst 1, 1) := by decide +kernel
theorem dX5_numberAt_38 : decode cX5_numberAt 38 = .ok (.isub, 1) := by decide +kernel
theorem dX5_numberAt_39 : decode cX5_numberAt 39 = .ok (.ireturn, 1) := by decide +kernel
theorem dX5_put_0 : decode cX5_put 0 = .ok (.aload_n 0, 1) := by decide +kernel
theorem dX5_put_1 : decode cX5_put 1 = .ok (.iload_n 1, 1) := by decide +kernel
theorem dX5_put_2 : decode cX5_put 2 = .ok (.invokevirtual 61, 3) := by decide +kernel
theorem dX5_put_5 : decode cX5_put 5 = .ok (.astore 4, 2) := by decide +kernel
theorem dX5_put_7 : decode cX5_put 7 = .ok (.iload_n 2, 1) := by decide +kernel
theorem dX5_put_8 : decode cX5_put 8 = .ok (.ifCond .eq 18, 3) := by decide +kernel
theorem dX5_put_11 : decode cX5_put 11 = .ok (.iload_n 2, 1) := by decide +kernel
theorem dX5_put_12 : decode cX5_put 12 = .ok (.iconst 1, 1) := by decide +kernel
theorem dX5_put_13 : decode cX5_put 13 = .ok (.if_icmp .eq 13, 3) := by decide +kernel
theorem dX5_put_16 : decode cX5_put 16 = .ok (.new 52, 3) := by decide +kernel
theorem dX5_put_19 : decode cX5_put 19 = .ok (.dup, 1) := by decide +kernel
theorem dX5_put_20 : decode cX5_put 20 = .ok (.ldc 65, 2) := by decide +kernel
theorem dX5_put_22 : decode cX5_put 22 = .ok (.invokespecial 56, 3) := by decide +kernel
theorem dX5_put_25 : decode cX5_put 25 = .ok (.athrow, 1) := by decide +kernel
theorem dX5_put_26 : decode cX5_put 26 = .ok (.iload_n 3, 1) := by decide +kernel
theorem dX5_put_27 : decode cX5_put 27 = .ok (.invokestatic 67, 3) := by decide +kernel
theorem dX5_put_30 : decode cX5_put 30 = .ok (.aload_n 0, 1) := by decide +kernel
theorem dX5_put_31 : decode cX5_put 31 = .ok (.getfield 26, 3) := by decide +kernel
theorem dX5_put_34 : decode cX5_put 34 = .ok (.ifCond .ne 13, 3) := by decide +kernel
theorem dX5_put_37 : decode cX5_put 37 = .ok (.new 44, 3) := by decide +kernel
theorem dX5_put_40 : decode cX5_put 40 = .ok (.dup, 1) := by decide +kernel
theorem dX5_put_41 : decode cX5_put 41 = .ok (.ldc 71, 2) := by decide +kernel
theorem dX5_put_43 : decode cX5_put 43 = .ok (.invokespecial 48, 3) := by decide +kernel
theorem dX5_put_46 : decode cX5_put 46 = .ok (.athrow, 1) := by decide +kernel
theorem dX5_put_47 : decode cX5_put 47 = .ok (.aload 4, 2) := by decide +kernel
theorem dX5_put_49 : decode cX5_put 49 = .ok (.aload_n 0, 1) := by decide +kernel
theorem dX5_put_50 : decode cX5_put 50 = .ok (.getfield 26, 3) := by decide +kernel
theorem dX5_put_53 : decode cX5_put 53 = .ok (.invokevirtual 73, 3) := by decide +kernel
theorem dX5_put_56 : decode cX5_put 56 = .ok (.astore 5, 2) := by decide +kernel
theorem dX5_put_58 : decode cX5_put 58 = .ok (.aload 5, 2) := by decide +kernel
theorem dX5_put_60 : decode cX5_put 60 = .ok (.ifnonnull 26, 3) := by decide +kernel
theorem dX5_put_63 : decode cX5_put 63 = .ok (.aload 4, 2) := by decide +kernel
theorem dX5_put_65 : decode cX5_put 65 = .ok (.getfield 77, 3) := by decide +kernel
theorem dX5_put_68 : decode cX5_put 68 = .ok (.invokevirtual 80, 3) := by decide +kernel
theorem dX5_put_71 : decode cX5_put 71 = .ok (.bipush 20, 2) := by decide +kernel
theorem dX5_put_73 : decode cX5_put 73 = .ok (.if_icmp .lt 13, 3) := by decide +kernel
theorem dX5_put_76 : decode cX5_put 76 = .ok (.new 44, 3) := by decide +kernel
theorem dX5_put_79 : decode cX5_put 79 = .ok (.dup, 1) := by decide +kernel
theorem dX5_put_80 : decode cX5_put 80 = .ok (.ldc 84, 2) := by decide +kernel
theorem dX5_put_82 : decode cX5_put 82 = .ok (.invokespecial 48, 3) := by decide +kernel
theorem dX5_put_85 : decode cX5_put 85 = .ok (.athrow, 1) := by decide +kernel
theorem dX5_put_86 : decode cX5_put 86 = .ok (.aload 4, 2) := by decide +kernel
theorem dX5_put_88 : decode cX5_put 88 = .ok (.aload_n 0, 1) := by decide +kernel
theorem dX5_put_89 : decode cX5_put 89 = .ok (.getfield 26, 3) := by decide +kernel
theorem dX5_put_92 : decode cX5_put 92 = .ok (.invokevirtual 86, 3) := by decide +kernel
theorem dX5_put_95 : decode cX5_put 95 = .ok (.aload 4, 2) := by decide +kernel
theorem dX5_put_97 : decode cX5_put 97 = .ok (.getfield 77, 3) := by decide +kernel
theorem dX5_put_100 : decode cX5_put 100 = .ok (.new 89, 3) := by decide +kernel
theorem dX5_put_103 : decode cX5_put 103 = .ok (.dup, 1) := by decide +kernel
theorem dX5_put_104 : decode cX5_put 104 = .ok (.aload_n 0, 1) := by decide +kernel
theorem dX5_put_105 : decode cX5_put 105 = .ok (.getfield 26, 3) := by decide +kernel
theorem dX5_put_108 : decode cX5_put 108 = .ok (.iload_n 2, 1) := by decide +kernel
theorem dX5_put_109 : decode cX5_put 109 = .ok (.iload_n 3, 1) := by decide +kernel
theorem dX5_put_110 : decode cX5_put 110 = .ok (.invokespecial 91, 3) := by decide +kernel
theorem dX5_put_113 : decode cX5_put 113 = .ok (.invokevirtual 94, 3) := by decide +kernel
theorem dX5_put_116 : decode cX5_put 116 = .ok (.pop, 1) := by decide +kernel
theorem dX5_put_117 : decode cX5_put 117 = .ok (.aload 5, 2) := by decide +kernel
theorem dX5_put_119 : decode cX5_put 119 = .ok (.invokestatic 98, 3) := by decide +kernel
theorem dX5_put_122 : decode cX5_put 122 = .ok (.ireturn, 1) := by decide +kernel
theorem dX5_remove_0 : decode cX5_remove 0 = .ok (.aload_n 0, 1) := by decide +kernel
theorem dX5_remove_1 : decode cX5_remove 1 = .ok (.iload_n 1, 1) := by decide +kernel
theorem dX5_remove_2 : decode cX5_remove 2 = .ok (.invokevirtual 61, 3) := by decide +kernel
theorem dX5_remove_5 : decode cX5_remove 5 = .ok (.astore_n 2, 1) := by decide +kernel
theorem dX5_remove_6 : decode cX5_remove 6 = .ok (.aload_n 2, 1) := by decide +kernel
theorem dX5_remove_7 : decode cX5_remove 7 = .ok (.aload_n 0, 1) := by decide +kernel
theorem dX5_remove_8 : decode cX5_remove 8 = .ok (.getfield 26, 3) := by decide +kernel
theorem dX5_remove_11 : decode cX5_remove 11 = .ok (.invokevirtual 73, 3) := by decide +kernel
theorem dX5_remove_14 : decode cX5_remove 14 = .ok (.astore_n 3, 1) := by decide +kernel
theorem dX5_remove_15 : decode cX5_remove 15 = .ok (.aload_n 2, 1) := by decide +kernel
theorem dX5_remove_16 : decode cX5_remove 16 = .ok (.aload_n 0, 1) := by decide +kernel
theorem dX5_remove_17 : decode cX5_remove 17 = .ok (.getfield 26, 3) := by decide +kernel
theorem dX5_remove_20 : decode cX5_remove 20 = .ok (.invokevirtual 86, 3) := by decide +kernel
theorem dX5_remove_23 : decode cX5_remove 23 = .ok (.aload_n 3, 1) := by decide +kernel
theorem dX5_remove_24 : decode cX5_remove 24 = .ok (.invokestatic 98, 3) := by decide +kernel
theorem dX5_remove_27 : decode cX5_remove 27 = .ok (.ireturn, 1) := by decide +kernel
theorem dX5_change_0 : decode cX5_change 0 = .ok (.aload_n 0, 1) := by decide +kernel
theorem dX5_change_1 : decode cX5_change 1 = .ok (.iload_n 1, 1) := by decide +kernel
theorem dX5_change_2 : decode cX5_change 2 = .ok (.invokevirtual 61, 3) := by decide +kernel
theorem dX5_change_5 : decode cX5_change 5 = .ok (.astore_n 3, 1) := by decide +kernel
theorem dX5_change_6 : decode cX5_change 6 = .ok (.iload_n 2, 1) := by decide +kernel
theorem dX5_change_7 : decode cX5_change 7 = .ok (.invokestatic 67, 3) := by decide +kernel
theorem dX5_change_10 : decode cX5_change 10 = .ok (.aload_n 0, 1) := by decide +kernel
theorem dX5_change_11 : decode cX5_change 11 = .ok (.aload_n 3, 1) := by decide +kernel
theorem dX5_change_12 : decode cX5_change 12 = .ok (.invokevirtual 102, 3) := by decide +kernel
theorem dX5_change_15 : decode cX5_change 15 = .ok (.astore 4, 2) := by decide +kernel
theorem dX5_change_17 : decode cX5_change 17 = .ok (.aload 4, 2) := by decide +kernel
theorem dX5_change_19 : decode cX5_change 19 = .ok (.getfield 106, 3) := by decide +kernel
theorem dX5_change_22 : decode cX5_change 22 = .ok (.iconst 1, 1) := by decide +kernel
theorem dX5_change_23 : decode cX5_change 23 = .ok (.if_icmp .ne 22, 3) := by decide +kernel
theorem dX5_change_26 : decode cX5_change 26 = .ok (.aload 4, 2) := by decide +kernel
theorem dX5_change_28 : decode cX5_change 28 = .ok (.aload 4, 2) := by decide +kernel
theorem dX5_change_30 : decode cX5_change 30 = .ok (.getfield 109, 3) := by decide +kernel
theorem dX5_change_33 : decode cX5_change 33 = .ok (.iload_n 2, 1) := by decide +kernel
theorem dX5_change_34 : decode cX5_change 34 = .ok (.iadd, 1) := by decide +kernel
theorem dX5_change_35 : decode cX5_change 35 = .ok (.sipush 1000, 3) := by decide +kernel
theorem dX5_change_38 : decode cX5_change 38 = .ok (.irem, 1) := by decide +kernel
theorem dX5_change_39 : decode cX5_change 39 = .ok (.putfield 109, 3) := by decide +kernel
theorem dX5_change_42 : decode cX5_change 42 = .ok (.goto 9, 3) := by decide +kernel
theorem dX5_change_45 : decode cX5_change 45 = .ok (.aload 4, 2) := by decide +kernel
theorem dX5_change_47 : decode cX5_change 47 = .ok (.iload_n 2, 1) := by decide +kernel
theorem dX5_change_48 : decode cX5_change 48 = .ok (.putfield 109, 3) := by decide +kernel
theorem dX5_change_51 : decode cX5_change 51 = .ok (.aload_n 0, 1) := by decide +kernel
theorem dX5_change_52 : decode cX5_change 52 = .ok (.iload_n 1, 1) := by decide +kernel
theorem dX5_change_53 : decode cX5_change 53 = .ok (.aload 4, 2) := by decide +kernel
theorem dX5_change_55 : decode cX5_change 55 = .ok (.invokevirtual 112, 3) := by decide +kernel
theorem dX5_change_58 : decode cX5_change 58 = .ok (.aload 4, 2) := by decide +kernel
theorem dX5_change_60 : decode cX5_change 60 = .ok (.getfield 109, 3) := by decide +kernel
theorem dX5_change_63 : decode cX5_change 63 = .ok (.ireturn, 1) := by decide +kernel
theorem dX5_get_0 : decode cX5_get 0 = .ok (.aload_n 0, 1) := by decide +kernel
theorem dX5_get_1 : decode cX5_get 1 = .ok (.iload_n 1, 1) := by decide +kernel
theorem dX5_get_2 : decode cX5_get 2 = .ok (.invokevirtual 61, 3) := by decide +kernel
theorem dX5_get_5 : decode cX5_get 5 = .ok (.astore_n 2, 1) := by decide +kernel
theorem dX5_get_6 : decode cX5_get 6 = .ok (.aload_n 2, 1) := by decide +kernel
theorem dX5_get_7 : decode cX5_get 7 = .ok (.aload_n 0, 1) := by decide +kernel
theorem dX5_get_8 : decode cX5_get 8 = .ok (.getfield 26, 3) := by decide +kernel
theorem dX5_get_11 : decode cX5_get 11 = .ok (.invokevirtual 116, 3) := by decide +kernel
theorem dX5_get_14 : decode cX5_get 14 = .ok (.ifCond .eq 7, 3) := by decide +kernel
theorem dX5_get_17 : decode cX5_get 17 = .ok (.iconst (-1), 1) := by decide +kernel
theorem dX5_get_18 : decode cX5_get 18 = .ok (.goto 14, 3) := by decide +kernel
theorem dX5_get_21 : decode cX5_get 21 = .ok (.aload_n 2, 1) := by decide +kernel
theorem dX5_get_22 : decode cX5_get 22 = .ok (.aload_n 0, 1) := by decide +kernel
theorem dX5_get_23 : decode cX5_get 23 = .ok (.getfield 26, 3) := by decide +kernel
theorem dX5_get_26 : decode cX5_get 26 = .ok (.invokevirtual 73, 3) := by decide +kernel
theorem dX5_get_29 : decode cX5_get 29 = .ok (.invokestatic 98, 3) := by decide +kernel
theorem dX5_get_32 : decode cX5_get 32 = .ok (.ireturn, 1) := by decide +kernel
theorem dX5_next_0 : decode cX5_next 0 = .ok (.aload_n 0, 1) := by decide +kernel
theorem dX5_next_1 : decode cX5_next 1 = .ok (.aload_n 0, 1) := by decide +kernel
theorem dX5_next_2 : decode cX5_next 2 = .ok (.iload_n 1, 1) := by decide +kernel
theorem dX5_next_3 : decode cX5_next 3 = .ok (.invokevirtual 61, 3) := by decide +kernel
theorem dX5_next_6 : decode cX5_next 6 = .ok (.invokevirtual 120, 3) := by decide +kernel
theorem dX5_next_9 : decode cX5_next 9 = .ok (.invokestatic 98, 3) := by decide +kernel
theorem dX5_next_12 : decode cX5_next 12 = .ok (.ireturn, 1) := by decide +kernel
theorem dX5_bulk_0 : decode cX5_bulk 0 = .ok (.aload_n 0, 1) := by decide +kernel
theorem dX5_bulk_1 : decode cX5_bulk 1 = .ok (.iload_n 1, 1) := by decide +kernel
theorem dX5_bulk_2 : decode cX5_bulk 2 = .ok (.invokevirtual 61, 3) := by decide +kernel
theorem dX5_bulk_5 : decode cX5_bulk 5 = .ok (.astore_n 3, 1) := by decide +kernel
theorem dX5_bulk_6 : decode cX5_bulk 6 = .ok (.iload_n 2, 1) := by decide +kernel
theorem dX5_bulk_7 : decode cX5_bulk 7 = .ok (.iconst 1, 1) := by decide +kernel
theorem dX5_bulk_8 : decode cX5_bulk 8 = .ok (.if_icmp .lt 9, 3) := by decide +kernel
theorem dX5_bulk_11 : decode cX5_bulk 11 = .ok (.iload_n 2, 1) := by decide +kernel
theorem dX5_bulk_12 : decode cX5_bulk 12 = .ok (.bipush 30, 2) := by decide +kernel
theorem dX5_bulk_14 : decode cX5_bulk 14 = .ok (.if_icmp .le 13, 3) := by decide +kernel
theorem dX5_bulk_17 : decode cX5_bulk 17 = .ok (.new 33, 3) := by decide +kernel
theorem dX5_bulk_20 : decode cX5_bulk 20 = .ok (.dup, 1) := by decide +kernel
theorem dX5_bulk_21 : decode cX5_bulk 21 = .ok (.ldc 123, 2) := by decide +kernel
theorem dX5_bulk_23 : decode cX5_bulk 23 = .ok (.invokespecial 37, 3) := by decide +kernel
theorem dX5_bulk_26 : decode cX5_bulk 26 = .ok (.athrow, 1) := by decide +kernel
theorem dX5_bulk_27 : decode cX5_bulk 27 = .ok (.iconst 0, 1) := by decide +kernel
theorem dX5_bulk_28 : decode cX5_bulk 28 = .ok (.istore 4, 2) := by decide +kernel
theorem dX5_bulk_30 : decode cX5_bulk 30 = .ok (.iload 4, 2) := by decide +kernel
theorem dX5_bulk_32 : decode cX5_bulk 32 = .ok (.iload_n 2, 1) := by decide +kernel
theorem dX5_bulk_33 : decode cX5_bulk 33 = .ok (.if_icmp .ge 17, 3) := by decide +kernel
theorem dX5_bulk_36 : decode cX5_bulk 36 = .ok (.aload_n 0, 1) := by decide +kernel
theorem dX5_bulk_37 : decode cX5_bulk 37 = .ok (.aload_n 3, 1) := by decide +kernel
theorem dX5_bulk_38 : decode cX5_bulk 38 = .ok (.invokevirtual 120, 3) := by decide +kernel
theorem dX5_bulk_41 : decode cX5_bulk 41 = .ok (.ifnull 9, 3) := by decide +kernel
theorem dX5_bulk_44 : decode cX5_bulk 44 = .ok (.iinc 4 1, 3) := by decide +kernel
theorem dX5_bulk_47 : decode cX5_bulk 47 = .ok (.goto (-17), 3) := by decide +kernel
theorem dX5_bulk_50 : decode cX5_bulk 50 = .ok (.iload 4, 2) := by decide +kernel
theorem dX5_bulk_52 : decode cX5_bulk 52 = .ok (.ireturn, 1) := by decide +kernel
theorem dX5_nextBySorting_0 : decode cX5_nextBySorting 0 = .ok (.aload_n 0, 1) := by decide +kernel
theorem dX5_nextBySorting_1 : decode cX5_nextBySorting 1 = .ok (.aload_n 0, 1) := by decide +kernel
theorem dX5_nextBySorting_2 : decode cX5_nextBySorting 2 = .ok (.iload_n 1, 1) := by decide +kernel
theorem dX5_nextBySorting_3 : decode cX5_nextBySorting 3 = .ok (.invokevirtual 61, 3) := by decide +kernel
theorem dX5_nextBySorting_6 : decode cX5_nextBySorting 6 = .ok (.invokevirtual 125, 3) := by decide +kernel
theorem dX5_nextBySorting_9 : decode cX5_nextBySorting 9 = .ok (.aload_n 0, 1) := by decide +kernel
theorem dX5_nextBySorting_10 : decode cX5_nextBySorting 10 = .ok (.aload_n 0, 1) := by decide +kernel
theorem dX5_nextBySorting_11 : decode cX5_nextBySorting 11 = .ok (.getfield 26, 3) := by decide +kernel
theorem dX5_nextBySorting_14 : decode cX5_nextBySorting 14 = .ok (.invokevirtual 129, 3) := by decide +kernel
theorem dX5_nextBySorting_17 : decode cX5_nextBySorting 17 = .ok (.invokestatic 98, 3) := by decide +kernel
theorem dX5_nextBySorting_20 : decode cX5_nextBySorting 20 = .ok (.ireturn, 1) := by decide +kernel
theorem dX5_hide_0 : decode cX5_hide 0 = .ok (.aload_n 0, 1) := by decide +kernel
theorem dX5_hide_1 : decode cX5_hide 1 = .ok (.iload_n 1, 1) := by decide +kernel
theorem dX5_hide_2 : decode cX5_hide 2 = .ok (.invokevirtual 61, 3) := by decide +kernel
theorem dX5_hide_5 : decode cX5_hide 5 = .ok (.astore_n 3, 1) := by decide +kernel
theorem dX5_hide_6 : decode cX5_hide 6 = .ok (.iload_n 2, 1) := by decide +kernel
theorem dX5_hide_7 : decode cX5_hide 7 = .ok (.ifCond .eq 23, 3) := by decide +kernel
theorem dX5_hide_10 : decode cX5_hide 10 = .ok (.iload_n 2, 1) := by decide +kernel
theorem dX5_hide_11 : decode cX5_hide 11 = .ok (.iconst 1, 1) := by decide +kernel
theorem dX5_hide_12 : decode cX5_hide 12 = .ok (.if_icmp .eq 18, 3) := by decide +kernel
theorem dX5_hide_15 : decode cX5_hide 15 = .ok (.iload_n 2, 1) := by decide +kernel
theorem dX5_hide_16 : decode cX5_hide 16 = .ok (.iconst 2, 1) := by decide +kernel
theorem dX5_hide_17 : decode cX5_hide 17 = .ok (.if_icmp .eq 13, 3) := by decide +kernel
theorem dX5_hide_20 : decode cX5_hide 20 = .ok (.new 52, 3) := by decide +kernel
theorem dX5_hide_23 : decode cX5_hide 23 = .ok (.dup, 1) := by decide +kernel
theorem dX5_hide_24 : decode cX5_hide 24 = .ok (.ldc 132, 2) := by decide +kernel
theorem dX5_hide_26 : decode cX5_hide 26 = .ok (.invokespecial 56, 3) := by decide +kernel
theorem dX5_hide_29 : decode cX5_hide 29 = .ok (.athrow, 1) := by decide +kernel
theorem dX5_hide_30 : decode cX5_hide 30 = .ok (.aload_n 3, 1) := by decide +kernel
theorem dX5_hide_31 : decode cX5_hide 31 = .ok (.aload_n 0, 1) := by decide +kernel
theorem dX5_hide_32 : decode cX5_hide 32 = .ok (.getfield 26, 3) := by decide +kernel
theorem dX5_hide_35 : decode cX5_hide 35 = .ok (.invokevirtual 134, 3) := by decide +kernel
theorem dX5_hide_38 : decode cX5_hide 38 = .ok (.istore 4, 2) := by decide +kernel
theorem dX5_hide_40 : decode cX5_hide 40 = .ok (.iload 4, 2) := by decide +kernel
theorem dX5_hide_42 : decode cX5_hide 42 = .ok (.ifCond .ne 26, 3) := by decide +kernel
theorem dX5_hide_45 : decode cX5_hide 45 = .ok (.iload_n 2, 1) := by decide +kernel
theorem dX5_hide_46 : decode cX5_hide 46 = .ok (.ifCond .eq 22, 3) := by decide +kernel
theorem dX5_hide_49 : decode cX5_hide 49 = .ok (.aload_n 3, 1) := by decide +kernel
theorem dX5_hide_50 : decode cX5_hide 50 = .ok (.invokevirtual 137, 3) := by decide +kernel
theorem dX5_hide_53 : decode cX5_hide 53 = .ok (.bipush 10, 2) := by decide +kernel
theorem dX5_hide_55 : decode cX5_hide 55 = .ok (.if_icmp .lt 13, 3) := by decide +kernel
theorem dX5_hide_58 : decode cX5_hide 58 = .ok (.new 44, 3) := by decide +kernel
theorem dX5_hide_61 : decode cX5_hide 61 = .ok (.dup, 1) := by decide +kernel
theorem dX5_hide_62 : decode cX5_hide 62 = .ok (.ldc 140, 2) := by decide +kernel
theorem dX5_hide_64 : decode cX5_hide 64 = .ok (.invokespecial 48, 3) := by decide +kernel
theorem dX5_hide_67 : decode cX5_hide 67 = .ok (.athrow, 1) := by decide +kernel
theorem dX5_hide_68 : decode cX5_hide 68 = .ok (.aload_n 3, 1) := by decide +kernel
theorem dX5_hide_69 : decode cX5_hide 69 = .ok (.aload_n 0, 1) := by decide +kernel
theorem dX5_hide_70 : decode cX5_hide 70 = .ok (.getfield 26, 3) := by decide +kernel
theorem dX5_hide_73 : decode cX5_hide 73 = .ok (.iload_n 2, 1) := by decide +kernel
theorem dX5_hide_74 : decode cX5_hide 74 = .ok (.invokevirtual 142, 3) := by decide +kernel
theorem dX5_hide_77 : decode cX5_hide 77 = .ok (.iload 4, 2) := by decide +kernel
theorem dX5_hide_79 : decode cX5_hide 79 = .ok (.ireturn, 1) := by decide +kernel
theorem dX5_seen_0 : decode cX5_seen 0 = .ok (.aload_n 0, 1) := by decide +kernel
theorem dX5_seen_1 : decode cX5_seen 1 = .ok (.iload_n 1, 1) := by decide +kernel
theorem dX5_seen_2 : decode cX5_seen 2 = .ok (.invokevirtual 61, 3) := by decide +kernel
theorem dX5_seen_5 : decode cX5_seen 5 = .ok (.invokevirtual 146, 3) := by decide +kernel
theorem dX5_seen_8 : decode cX5_seen 8 = .ok (.ireturn, 1) := by decide +kernel
theorem dX5_sample_0 : decode cX5_sample 0 = .ok (.aload_n 0, 1) := by decide +kernel
theorem dX5_sample_1 : decode cX5_sample 1 = .ok (.iload_n 1, 1) := by decide +kernel
theorem dX5_sample_2 : decode cX5_sample 2 = .ok (.invokevirtual 61, 3) := by decide +kernel
theorem dX5_sample_5 : decode cX5_sample 5 = .ok (.astore_n 2, 1) := by decide +kernel
theorem dX5_sample_6 : decode cX5_sample 6 = .ok (.aload_n 0, 1) := by decide +kernel
theorem dX5_sample_7 : decode cX5_sample 7 = .ok (.aload_n 2, 1) := by decide +kernel
theorem dX5_sample_8 : decode cX5_sample 8 = .ok (.invokevirtual 102, 3) := by decide +kernel
theorem dX5_sample_11 : decode cX5_sample 11 = .ok (.astore_n 3, 1) := by decide +kernel
theorem dX5_sample_12 : decode cX5_sample 12 = .ok (.aload_n 2, 1) := by decide +kernel
theorem dX5_sample_13 : decode cX5_sample 13 = .ok (.aload_n 0, 1) := by decide +kernel
theorem dX5_sample_14 : decode cX5_sample 14 = .ok (.getfield 26, 3) := by decide +kernel
theorem dX5_sample_17 : decode cX5_sample 17 = .ok (.invokevirtual 116, 3) := by decide +kernel
theorem dX5_sample_20 : decode cX5_sample 20 = .ok (.ifCond .eq 13, 3) := by decide +kernel
theorem dX5_sample_23 : decode cX5_sample 23 = .ok (.new 44, 3) := by decide +kernel
theorem dX5_sample_26 : decode cX5_sample 26 = .ok (.dup, 1) := by decide +kernel
theorem dX5_sample_27 : decode cX5_sample 27 = .ok (.ldc 149, 2) := by decide +kernel
theorem dX5_sample_29 : decode cX5_sample 29 = .ok (.invokespecial 48, 3) := by decide +kernel
theorem dX5_sample_32 : decode cX5_sample 32 = .ok (.athrow, 1) := by decide +kernel
theorem dX5_sample_33 : decode cX5_sample 33 = .ok (.aload_n 3, 1) := by decide +kernel
theorem dX5_sample_34 : decode cX5_sample 34 = .ok (.aload_n 3, 1) := by decide +kernel
theorem dX5_sample_35 : decode cX5_sample 35 = .ok (.getfield 151, 3) := by decide +kernel
theorem dX5_sample_38 : decode cX5_sample 38 = .ok (.putfield 155, 3) := by decide +kernel
theorem dX5_sample_41 : decode cX5_sample 41 = .ok (.aload_n 3, 1) := by decide +kernel
theorem dX5_sample_42 : decode cX5_sample 42 = .ok (.new 158, 3) := by decide +kernel
theorem dX5_sample_45 : decode cX5_sample 45 = .ok (.dup, 1) := by decide +kernel
theorem dX5_sample_46 : decode cX5_sample 46 = .ok (.aload_n 0, 1) := by decide +kernel
theorem dX5_sample_47 : decode cX5_sample 47 = .ok (.getfield 30, 3) := by decide +kernel
theorem dX5_sample_50 : decode cX5_sample 50 = .ok (.aload_n 3, 1) := by decide +kernel
theorem dX5_sample_51 : decode cX5_sample 51 = .ok (.getfield 109, 3) := by decide +kernel
theorem dX5_sample_54 : decode cX5_sample 54 = .ok (.aload_n 2, 1) := by decide +kernel
theorem dX5_sample_55 : decode cX5_sample 55 = .ok (.getfield 160, 3) := by decide +kernel
theorem dX5_sample_58 : decode cX5_sample 58 = .ok (.invokespecial 163, 3) := by decide +kernel
theorem dX5_sample_61 : decode cX5_sample 61 = .ok (.putfield 151, 3) := by decide +kernel
theorem dX5_sample_64 : decode cX5_sample 64 = .ok (.aload_n 3, 1) := by decide +kernel
theorem dX5_sample_65 : decode cX5_sample 65 = .ok (.getfield 109, 3) := by decide +kernel
theorem dX5_sample_68 : decode cX5_sample 68 = .ok (.ireturn, 1) := by decide +kernel
theorem dX5_setMarks_0 : decode cX5_setMarks 0 = .ok (.aload_n 0, 1) := by decide +kernel
theorem dX5_setMarks_1 : decode cX5_setMarks 1 = .ok (.iload_n 1, 1) := by decide +kernel
theorem dX5_setMarks_2 : decode cX5_setMarks 2 = .ok (.invokevirtual 61, 3) := by decide +kernel
theorem dX5_setMarks_5 : decode cX5_setMarks 5 = .ok (.astore 4, 2) := by decide +kernel
theorem dX5_setMarks_7 : decode cX5_setMarks 7 = .ok (.iload_n 2, 1) := by decide +kernel
theorem dX5_setMarks_8 : decode cX5_setMarks 8 = .ok (.ifCond .lt 22, 3) := by decide +kernel
theorem dX5_setMarks_11 : decode cX5_setMarks 11 = .ok (.iload_n 2, 1) := by decide +kernel
theorem dX5_setMarks_12 : decode cX5_setMarks 12 = .ok (.sipush 999, 3) := by decide +kernel
theorem dX5_setMarks_15 : decode cX5_setMarks 15 = .ok (.if_icmp .ge 15, 3) := by decide +kernel
theorem dX5_setMarks_18 : decode cX5_setMarks 18 = .ok (.iload_n 3, 1) := by decide +kernel
theorem dX5_setMarks_19 : decode cX5_setMarks 19 = .ok (.iload_n 2, 1) := by decide +kernel
theorem dX5_setMarks_20 : decode cX5_setMarks 20 = .ok (.if_icmp .le 10, 3) := by decide +kernel
theorem dX5_setMarks_23 : decode cX5_setMarks 23 = .ok (.iload_n 3, 1) := by decide +kernel
theorem dX5_setMarks_24 : decode cX5_setMarks 24 = .ok (.sipush 999, 3) := by decide +kernel
theorem dX5_setMarks_27 : decode cX5_setMarks 27 = .ok (.if_icmp .le 13, 3) := by decide +kernel
theorem dX5_setMarks_30 : decode cX5_setMarks 30 = .ok (.new 33, 3) := by decide +kernel
theorem dX5_setMarks_33 : decode cX5_setMarks 33 = .ok (.dup, 1) := by decide +kernel
theorem dX5_setMarks_34 : decode cX5_setMarks 34 = .ok (.ldc 168, 2) := by decide +kernel
theorem dX5_setMarks_36 : decode cX5_setMarks 36 = .ok (.invokespecial 37, 3) := by decide +kernel
theorem dX5_setMarks_39 : decode cX5_setMarks 39 = .ok (.athrow, 1) := by decide +kernel
theorem dX5_setMarks_40 : decode cX5_setMarks 40 = .ok (.aload_n 0, 1) := by decide +kernel
theorem dX5_setMarks_41 : decode cX5_setMarks 41 = .ok (.aload 4, 2) := by decide +kernel
theorem dX5_setMarks_43 : decode cX5_setMarks 43 = .ok (.invokevirtual 102, 3) := by decide +kernel
theorem dX5_setMarks_46 : decode cX5_setMarks 46 = .ok (.new 170, 3) := by decide +kernel
theorem dX5_setMarks_49 : decode cX5_setMarks 49 = .ok (.dup, 1) := by decide +kernel
theorem dX5_setMarks_50 : decode cX5_setMarks 50 = .ok (.iload_n 2, 1) := by decide +kernel
theorem dX5_setMarks_51 : decode cX5_setMarks 51 = .ok (.iload_n 3, 1) := by decide +kernel
theorem dX5_setMarks_52 : decode cX5_setMarks 52 = .ok (.invokespecial 172, 3) := by decide +kernel
theorem dX5_setMarks_55 : decode cX5_setMarks 55 = .ok (.putfield 174, 3) := by decide +kernel
theorem dX5_setMarks_58 : decode cX5_setMarks 58 = .ok (.return_, 1) := by decide +kernel
theorem dX5_restart_0 : decode cX5_restart 0 = .ok (.aload_n 0, 1) := by decide +kernel
theorem dX5_restart_1 : decode cX5_restart 1 = .ok (.iload_n 1, 1) := by decide +kernel
theorem dX5_restart_2 : decode cX5_restart 2 = .ok (.invokevirtual 61, 3) := by decide +kernel
theorem dX5_restart_5 : decode cX5_restart 5 = .ok (.astore_n 2, 1) := by decide +kernel
theorem dX5_restart_6 : decode cX5_restart 6 = .ok (.aload_n 2, 1) := by decide +kernel
theorem dX5_restart_7 : decode cX5_restart 7 = .ok (.dup, 1) := by decide +kernel
theorem dX5_restart_8 : decode cX5_restart 8 = .ok (.getfield 160, 3) := by decide +kernel
theorem dX5_restart_11 : decode cX5_restart 11 = .ok (.iconst 1, 1) := by decide +kernel
theorem dX5_restart_12 : decode cX5_restart 12 = .ok (.iadd, 1) := by decide +kernel
theorem dX5_restart_13 : decode cX5_restart 13 = .ok (.putfield 160, 3) := by decide +kernel
theorem dX5_restart_16 : decode cX5_restart 16 = .ok (.iconst 0, 1) := by decide +kernel
theorem dX5_restart_17 : decode cX5_restart 17 = .ok (.istore_n 3, 1) := by decide +kernel
theorem dX5_restart_18 : decode cX5_restart 18 = .ok (.iload_n 3, 1) := by decide +kernel
theorem dX5_restart_19 : decode cX5_restart 19 = .ok (.aload_n 2, 1) := by decide +kernel
theorem dX5_restart_20 : decode cX5_restart 20 = .ok (.getfield 77, 3) := by decide +kernel
theorem dX5_restart_23 : decode cX5_restart 23 = .ok (.invokevirtual 80, 3) := by decide +kernel
theorem dX5_restart_26 : decode cX5_restart 26 = .ok (.if_icmp .ge 44, 3) := by decide +kernel
theorem dX5_restart_29 : decode cX5_restart 29 = .ok (.aload_n 2, 1) := by decide +kernel
theorem dX5_restart_30 : decode cX5_restart 30 = .ok (.getfield 77, 3) := by decide +kernel
theorem dX5_restart_33 : decode cX5_restart 33 = .ok (.iload_n 3, 1) := by decide +kernel
theorem dX5_restart_34 : decode cX5_restart 34 = .ok (.invokevirtual 178, 3) := by decide +kernel
theorem dX5_restart_37 : decode cX5_restart 37 = .ok (.checkcast 89, 3) := by decide +kernel
theorem dX5_restart_40 : decode cX5_restart 40 = .ok (.astore 4, 2) := by decide +kernel
theorem dX5_restart_42 : decode cX5_restart 42 = .ok (.aload 4, 2) := by decide +kernel
theorem dX5_restart_44 : decode cX5_restart 44 = .ok (.getfield 106, 3) := by decide +kernel
theorem dX5_restart_47 : decode cX5_restart 47 = .ok (.iconst 1, 1) := by decide +kernel
theorem dX5_restart_48 : decode cX5_restart 48 = .ok (.if_icmp .ne 16, 3) := by decide +kernel
theorem dX5_restart_51 : decode cX5_restart 51 = .ok (.aload 4, 2) := by decide +kernel
theorem dX5_restart_53 : decode cX5_restart 53 = .ok (.iconst 0, 1) := by decide +kernel
theorem dX5_restart_54 : decode cX5_restart 54 = .ok (.putfield 109, 3) := by decide +kernel
theorem dX5_restart_57 : decode cX5_restart 57 = .ok (.aload_n 0, 1) := by decide +kernel
theorem dX5_restart_58 : decode cX5_restart 58 = .ok (.iload_n 1, 1) := by decide +kernel
theorem dX5_restart_59 : decode cX5_restart 59 = .ok (.aload 4, 2) := by decide +kernel
theorem dX5_restart_61 : decode cX5_restart 61 = .ok (.invokevirtual 112, 3) := by decide +kernel
theorem dX5_restart_64 : decode cX5_restart 64 = .ok (.iinc 3 1, 3) := by decide +kernel
theorem dX5_restart_67 : decode cX5_restart 67 = .ok (.goto (-49), 3) := by decide +kernel
theorem dX5_restart_70 : decode cX5_restart 70 = .ok (.aload_n 2, 1) := by decide +kernel
theorem dX5_restart_71 : decode cX5_restart 71 = .ok (.getfield 160, 3) := by decide +kernel
theorem dX5_restart_74 : decode cX5_restart 74 = .ok (.ireturn, 1) := by decide +kernel
theorem dX5_pass_0 : decode cX5_pass 0 = .ok (.iload_n 1, 1) := by decide +kernel
theorem dX5_pass_1 : decode cX5_pass 1 = .ok (.iconst 1, 1) := by decide +kernel
theorem dX5_pass_2 : decode cX5_pass 2 = .ok (.if_icmp .lt 10, 3) := by decide +kernel
theorem dX5_pass_5 : decode cX5_pass 5 = .ok (.iload_n 1, 1) := by decide +kernel
theorem dX5_pass_6 : decode cX5_pass 6 = .ok (.sipush 1000, 3) := by decide +kernel
theorem dX5_pass_9 : decode cX5_pass 9 = .ok (.if_icmp .le 13, 3) := by decide +kernel
theorem dX5_pass_12 : decode cX5_pass 12 = .ok (.new 33, 3) := by decide +kernel
theorem dX5_pass_15 : decode cX5_pass 15 = .ok (.dup, 1) := by decide +kernel
theorem dX5_pass_16 : decode cX5_pass 16 = .ok (.ldc 182, 2) := by decide +kernel
theorem dX5_pass_18 : decode cX5_pass 18 = .ok (.invokespecial 37, 3) := by decide +kernel
theorem dX5_pass_21 : decode cX5_pass 21 = .ok (.athrow, 1) := by decide +kernel
theorem dX5_pass_22 : decode cX5_pass 22 = .ok (.aload_n 0, 1) := by decide +kernel
theorem dX5_pass_23 : decode cX5_pass 23 = .ok (.getfield 30, 3) := by decide +kernel
theorem dX5_pass_26 : decode cX5_pass 26 = .ok (.iload_n 1, 1) := by decide +kernel
theorem dX5_pass_27 : decode cX5_pass 27 = .ok (.iadd, 1) := by decide +kernel
theorem dX5_pass_28 : decode cX5_pass 28 = .ok (.ldc 184, 2) := by decide +kernel
theorem dX5_pass_30 : decode cX5_pass 30 = .ok (.if_icmp .le 13, 3) := by decide +kernel
theorem dX5_pass_33 : decode cX5_pass 33 = .ok (.new 44, 3) := by decide +kernel
theorem dX5_pass_36 : decode cX5_pass 36 = .ok (.dup, 1) := by decide +kernel
theorem dX5_pass_37 : decode cX5_pass 37 = .ok (.ldc 185, 2) := by decide +kernel
theorem dX5_pass_39 : decode cX5_pass 39 = .ok (.invokespecial 48, 3) := by decide +kernel
theorem dX5_pass_42 : decode cX5_pass 42 = .ok (.athrow, 1) := by decide +kernel
theorem dX5_pass_43 : decode cX5_pass 43 = .ok (.aload_n 0, 1) := by decide +kernel
theorem dX5_pass_44 : decode cX5_pass 44 = .ok (.dup, 1) := by decide +kernel
theorem dX5_pass_45 : decode cX5_pass 45 = .ok (.getfield 30, 3) := by decide +kernel
theorem dX5_pass_48 : decode cX5_pass 48 = .ok (.iload_n 1, 1) := by decide +kernel
theorem dX5_pass_49 : decode cX5_pass 49 = .ok (.iadd, 1) := by decide +kernel
theorem dX5_pass_50 : decode cX5_pass 50 = .ok (.putfield 30, 3) := by decide +kernel
theorem dX5_pass_53 : decode cX5_pass 53 = .ok (.aload_n 0, 1) := by decide +kernel
theorem dX5_pass_54 : decode cX5_pass 54 = .ok (.getfield 30, 3) := by decide +kernel
theorem dX5_pass_57 : decode cX5_pass 57 = .ok (.ireturn, 1) := by decide +kernel
theorem dX5_traps_0 : decode cX5_traps 0 = .ok (.aload_n 0, 1) := by decide +kernel
theorem dX5_traps_1 : decode cX5_traps 1 = .ok (.getfield 19, 3) := by decide +kernel
theorem dX5_traps_4 : decode cX5_traps 4 = .ok (.invokevirtual 80, 3) := by decide +kernel
theorem dX5_traps_7 : decode cX5_traps 7 = .ok (.ireturn, 1) := by decide +kernel
theorem dX5_trapOf_0 : decode cX5_trapOf 0 = .ok (.aload_n 0, 1) := by decide +kernel
theorem dX5_trapOf_1 : decode cX5_trapOf 1 = .ok (.iload_n 1, 1) := by decide +kernel
theorem dX5_trapOf_2 : decode cX5_trapOf 2 = .ok (.invokevirtual 187, 3) := by decide +kernel
theorem dX5_trapOf_5 : decode cX5_trapOf 5 = .ok (.getfield 191, 3) := by decide +kernel
theorem dX5_trapOf_8 : decode cX5_trapOf 8 = .ok (.ireturn, 1) := by decide +kernel
theorem dX5_trapAt_0 : decode cX5_trapAt 0 = .ok (.aload_n 0, 1) := by decide +kernel
theorem dX5_trapAt_1 : decode cX5_trapAt 1 = .ok (.iload_n 1, 1) := by decide +kernel
theorem dX5_trapAt_2 : decode cX5_trapAt 2 = .ok (.invokevirtual 187, 3) := by decide +kernel
theorem dX5_trapAt_5 : decode cX5_trapAt 5 = .ok (.getfield 196, 3) := by decide +kernel
theorem dX5_trapAt_8 : decode cX5_trapAt 8 = .ok (.ireturn, 1) := by decide +kernel
theorem dX5_setNeighbour_0 : decode cX5_setNeighbour 0 = .ok (.aload_n 0, 1) := by decide +kernel
theorem dX5_setNeighbour_1 : decode cX5_setNeighbour 1 = .ok (.iload_n 1, 1) := by decide +kernel
theorem dX5_setNeighbour_2 : decode cX5_setNeighbour 2 = .ok (.invokevirtual 61, 3) := by decide +kernel
theorem dX5_setNeighbour_5 : decode cX5_setNeighbour 5 = .ok (.astore 4, 2) := by decide +kernel
theorem dX5_setNeighbour_7 : decode cX5_setNeighbour 7 = .ok (.iload_n 2, 1) := by decide +kernel
theorem dX5_setNeighbour_8 : decode cX5_setNeighbour 8 = .ok (.ifCond .lt 8, 3) := by decide +kernel
theorem dX5_setNeighbour_11 : decode cX5_setNeighbour 11 = .ok (.iload_n 2, 1) := by decide +kernel
theorem dX5_setNeighbour_12 : decode cX5_setNeighbour 12 = .ok (.iconst 4, 1) := by decide +kernel
theorem dX5_setNeighbour_13 : decode cX5_setNeighbour 13 = .ok (.if_icmp .lt 13, 3) := by decide +kernel
theorem dX5_setNeighbour_16 : decode cX5_setNeighbour 16 = .ok (.new 52, 3) := by decide +kernel
theorem dX5_setNeighbour_19 : decode cX5_setNeighbour 19 = .ok (.dup, 1) := by decide +kernel
theorem dX5_setNeighbour_20 : decode cX5_setNeighbour 20 = .ok (.ldc 202, 2) := by decide +kernel
theorem dX5_setNeighbour_22 : decode cX5_setNeighbour 22 = .ok (.invokespecial 56, 3) := by decide +kernel
theorem dX5_setNeighbour_25 : decode cX5_setNeighbour 25 = .ok (.athrow, 1) := by decide +kernel
theorem dX5_setNeighbour_26 : decode cX5_setNeighbour 26 = .ok (.iload_n 3, 1) := by decide +kernel
theorem dX5_setNeighbour_27 : decode cX5_setNeighbour 27 = .ok (.iconst (-1), 1) := by decide +kernel
theorem dX5_setNeighbour_28 : decode cX5_setNeighbour 28 = .ok (.if_icmp .eq 22, 3) := by decide +kernel
theorem dX5_setNeighbour_31 : decode cX5_setNeighbour 31 = .ok (.iload_n 3, 1) := by decide +kernel
theorem dX5_setNeighbour_32 : decode cX5_setNeighbour 32 = .ok (.ifCond .lt 8, 3) := by decide +kernel
theorem dX5_setNeighbour_35 : decode cX5_setNeighbour 35 = .ok (.iload_n 3, 1) := by decide +kernel
theorem dX5_setNeighbour_36 : decode cX5_setNeighbour 36 = .ok (.iconst 4, 1) := by decide +kernel
theorem dX5_setNeighbour_37 : decode cX5_setNeighbour 37 = .ok (.if_icmp .lt 13, 3) := by decide +kernel
theorem dX5_setNeighbour_40 : decode cX5_setNeighbour 40 = .ok (.new 52, 3) := by decide +kernel
theorem dX5_setNeighbour_43 : decode cX5_setNeighbour 43 = .ok (.dup, 1) := by decide +kernel
theorem dX5_setNeighbour_44 : decode cX5_setNeighbour 44 = .ok (.ldc 204, 2) := by decide +kernel
theorem dX5_setNeighbour_46 : decode cX5_setNeighbour 46 = .ok (.invokespecial 56, 3) := by decide +kernel
theorem dX5_setNeighbour_49 : decode cX5_setNeighbour 49 = .ok (.athrow, 1) := by decide +kernel
theorem dX5_setNeighbour_50 : decode cX5_setNeighbour 50 = .ok (.iload_n 1, 1) := by decide +kernel
theorem dX5_setNeighbour_51 : decode cX5_setNeighbour 51 = .ok (.iload_n 3, 1) := by decide +kernel
theorem dX5_setNeighbour_52 : decode cX5_setNeighbour 52 = .ok (.if_icmp .ne 13, 3) := by decide +kernel
theorem dX5_setNeighbour_55 : decode cX5_setNeighbour 55 = .ok (.new 33, 3) := by decide +kernel
theorem dX5_setNeighbour_58 : decode cX5_setNeighbour 58 = .ok (.dup, 1) := by decide +kernel
theorem dX5_setNeighbour_59 : decode cX5_setNeighbour 59 = .ok (.ldc 206, 2) := by decide +kernel
theorem dX5_setNeighbour_61 : decode cX5_setNeighbour 61 = .ok (.invokespecial 37, 3) := by decide +kernel
theorem dX5_setNeighbour_64 : decode cX5_setNeighbour 64 = .ok (.athrow, 1) := by decide +kernel
theorem dX5_setNeighbour_65 : decode cX5_setNeighbour 65 = .ok (.aload 4, 2) := by decide +kernel
theorem dX5_setNeighbour_67 : decode cX5_setNeighbour 67 = .ok (.getfield 208, 3) := by decide +kernel
theorem dX5_setNeighbour_70 : decode cX5_setNeighbour 70 = .ok (.iload_n 2, 1) := by decide +kernel
theorem dX5_setNeighbour_71 : decode cX5_setNeighbour 71 = .ok (.iaload, 1) := by decide +kernel
theorem dX5_setNeighbour_72 : decode cX5_setNeighbour 72 = .ok (.istore 5, 2) := by decide +kernel
theorem dX5_setNeighbour_74 : decode cX5_setNeighbour 74 = .ok (.aload 4, 2) := by decide +kernel
theorem dX5_setNeighbour_76 : decode cX5_setNeighbour 76 = .ok (.getfield 208, 3) := by decide +kernel
theorem dX5_setNeighbour_79 : decode cX5_setNeighbour 79 = .ok (.iload_n 2, 1) := by decide +kernel
theorem dX5_setNeighbour_80 : decode cX5_setNeighbour 80 = .ok (.iload_n 3, 1) := by decide +kernel
theorem dX5_setNeighbour_81 : decode cX5_setNeighbour 81 = .ok (.iastore, 1) := by decide +kernel
theorem dX5_setNeighbour_82 : decode cX5_setNeighbour 82 = .ok (.iload 5, 2) := by decide +kernel
theorem dX5_setNeighbour_84 : decode cX5_setNeighbour 84 = .ok (.ireturn, 1) := by decide +kernel
theorem dX5_reach_0 : decode cX5_reach 0 = .ok (.aload_n 0, 1) := by decide +kernel
theorem dX5_reach_1 : decode cX5_reach 1 = .ok (.iload_n 1, 1) := by decide +kernel
theorem dX5_reach_2 : decode cX5_reach 2 = .ok (.invokevirtual 61, 3) := by decide +kernel
theorem dX5_reach_5 : decode cX5_reach 5 = .ok (.pop, 1) := by decide +kernel
theorem dX5_reach_6 : decode cX5_reach 6 = .ok (.iconst 1, 1) := by decide +kernel
theorem dX5_reach_7 : decode cX5_reach 7 = .ok (.iload_n 1, 1) := by decide +kernel
theorem dX5_reach_8 : decode cX5_reach 8 = .ok (.ishl, 1) := by decide +kernel
theorem dX5_reach_9 : decode cX5_reach 9 = .ok (.istore_n 2, 1) := by decide +kernel
theorem dX5_reach_10 : decode cX5_reach 10 = .ok (.iconst 1, 1) := by decide +kernel
theorem dX5_reach_11 : decode cX5_reach 11 = .ok (.istore_n 3, 1) := by decide +kernel
theorem dX5_reach_12 : decode cX5_reach 12 = .ok (.iload_n 3, 1) := by decide +kernel
theorem dX5_reach_13 : decode cX5_reach 13 = .ok (.iconst 4, 1) := by decide +kernel
theorem dX5_reach_14 : decode cX5_reach 14 = .ok (.if_icmp .ge 15, 3) := by decide +kernel
theorem dX5_reach_17 : decode cX5_reach 17 = .ok (.aload_n 0, 1) := by decide +kernel
theorem dX5_reach_18 : decode cX5_reach 18 = .ok (.iload_n 2, 1) := by decide +kernel
theorem dX5_reach_19 : decode cX5_reach 19 = .ok (.invokevirtual 212, 3) := by decide +kernel
theorem dX5_reach_22 : decode cX5_reach 22 = .ok (.istore_n 2, 1) := by decide +kernel
theorem dX5_reach_23 : decode cX5_reach 23 = .ok (.iinc 3 1, 3) := by decide +kernel
theorem dX5_reach_26 : decode cX5_reach 26 = .ok (.goto (-14), 3) := by decide +kernel
theorem dX5_reach_29 : decode cX5_reach 29 = .ok (.iload_n 2, 1) := by decide +kernel
theorem dX5_reach_30 : decode cX5_reach 30 = .ok (.ireturn, 1) := by decide +kernel
theorem dX5_halves_0 : decode cX5_halves 0 = .ok (.iconst 0, 1) := by decide +kernel
theorem dX5_halves_1 : decode cX5_halves 1 = .ok (.istore_n 1, 1) := by decide +kernel
theorem dX5_halves_2 : decode cX5_halves 2 = .ok (.iconst 0, 1) := by decide +kernel
theorem dX5_halves_3 : decode cX5_halves 3 = .ok (.istore_n 2, 1) := by decide +kernel
theorem dX5_halves_4 : decode cX5_halves 4 = .ok (.iload_n 2, 1) := by decide +kernel
theorem dX5_halves_5 : decode cX5_halves 5 = .ok (.iconst 4, 1) := by decide +kernel
theorem dX5_halves_6 : decode cX5_halves 6 = .ok (.if_icmp .ge 42, 3) := by decide +kernel
theorem dX5_halves_9 : decode cX5_halves 9 = .ok (.iload_n 2, 1) := by decide +kernel
theorem dX5_halves_10 : decode cX5_halves 10 = .ok (.iconst 1, 1) := by decide +kernel
theorem dX5_halves_11 : decode cX5_halves 11 = .ok (.iadd, 1) := by decide +kernel
theorem dX5_halves_12 : decode cX5_halves 12 = .ok (.istore_n 3, 1) := by decide +kernel
theorem dX5_halves_13 : decode cX5_halves 13 = .ok (.iload_n 3, 1) := by decide +kernel
theorem dX5_halves_14 : decode cX5_halves 14 = .ok (.iconst 4, 1) := by decide +kernel
theorem dX5_halves_15 : decode cX5_halves 15 = .ok (.if_icmp .ge 27, 3) := by decide +kernel
theorem dX5_halves_18 : decode cX5_halves 18 = .ok (.aload_n 0, 1) := by decide +kernel
theorem dX5_halves_19 : decode cX5_halves 19 = .ok (.iload_n 2, 1) := by decide +kernel
theorem dX5_halves_20 : decode cX5_halves 20 = .ok (.iload_n 3, 1) := by decide +kernel
theorem dX5_halves_21 : decode cX5_halves 21 = .ok (.invokevirtual 215, 3) := by decide +kernel
theorem dX5_halves_24 : decode cX5_halves 24 = .ok (.aload_n 0, 1) := by decide +kernel
theorem dX5_halves_25 : decode cX5_halves 25 = .ok (.iload_n 3, 1) := by decide +kernel
theorem dX5_halves_26 : decode cX5_halves 26 = .ok (.iload_n 2, 1) := by decide +kernel
theorem dX5_halves_27 : decode cX5_halves 27 = .ok (.invokevirtual 215, 3) := by decide +kernel
theorem dX5_halves_30 : decode cX5_halves 30 = .ok (.if_icmp .eq 6, 3) := by decide +kernel
theorem dX5_halves_33 : decode cX5_halves 33 = .ok (.iinc 1 1, 3) := by decide +kernel
theorem dX5_halves_36 : decode cX5_halves 36 = .ok (.iinc 3 1, 3) := by decide +kernel
theorem dX5_halves_39 : decode cX5_halves 39 = .ok (.goto (-26), 3) := by decide +kernel
theorem dX5_halves_42 : decode cX5_halves 42 = .ok (.iinc 2 1, 3) := by decide +kernel
theorem dX5_halves_45 : decode cX5_halves 45 = .ok (.goto (-41), 3) := by decide +kernel
theorem dX5_halves_48 : decode cX5_halves 48 = .ok (.iload_n 1, 1) := by decide +kernel
theorem dX5_halves_49 : decode cX5_halves 49 = .ok (.ireturn, 1) := by decide +kernel
theorem dX5_agentNumbered_0 : decode cX5_agentNumbered 0 = .ok (.iload_n 1, 1) := by decide +kernel
theorem dX5_agentNumbered_1 : decode cX5_agentNumbered 1 = .ok (.ifCond .lt 8, 3) := by decide +kernel
theorem dX5_agentNumbered_4 : decode cX5_agentNumbered 4 = .ok (.iload_n 1, 1) := by decide +kernel
theorem dX5_agentNumbered_5 : decode cX5_agentNumbered 5 = .ok (.iconst 4, 1) := by decide +kernel
theorem dX5_agentNumbered_6 : decode cX5_agentNumbered 6 = .ok (.if_icmp .lt 13, 3) := by decide +kernel
theorem dX5_agentNumbered_9 : decode cX5_agentNumbered 9 = .ok (.new 52, 3) := by decide +kernel
theorem dX5_agentNumbered_12 : decode cX5_agentNumbered 12 = .ok (.dup, 1) := by decide +kernel
theorem dX5_agentNumbered_13 : decode cX5_agentNumbered 13 = .ok (.ldc 219, 2) := by decide +kernel
theorem dX5_agentNumbered_15 : decode cX5_agentNumbered 15 = .ok (.invokespecial 56, 3) := by decide +kernel
theorem dX5_agentNumbered_18 : decode cX5_agentNumbered 18 = .ok (.athrow, 1) := by decide +kernel
theorem dX5_agentNumbered_19 : decode cX5_agentNumbered 19 = .ok (.aload_n 0, 1) := by decide +kernel
theorem dX5_agentNumbered_20 : decode cX5_agentNumbered 20 = .ok (.getfield 11, 3) := by decide +kernel
theorem dX5_agentNumbered_23 : decode cX5_agentNumbered 23 = .ok (.iload_n 1, 1) := by decide +kernel
theorem dX5_agentNumbered_24 : decode cX5_agentNumbered 24 = .ok (.aaload, 1) := by decide +kernel
theorem dX5_agentNumbered_25 : decode cX5_agentNumbered 25 = .ok (.areturn, 1) := by decide +kernel
theorem dX5_trapNumbered_0 : decode cX5_trapNumbered 0 = .ok (.iload_n 1, 1) := by decide +kernel
theorem dX5_trapNumbered_1 : decode cX5_trapNumbered 1 = .ok (.ifCond .lt 14, 3) := by decide +kernel
theorem dX5_trapNumbered_4 : decode cX5_trapNumbered 4 = .ok (.iload_n 1, 1) := by decide +kernel
theorem dX5_trapNumbered_5 : decode cX5_trapNumbered 5 = .ok (.aload_n 0, 1) := by decide +kernel
theorem dX5_trapNumbered_6 : decode cX5_trapNumbered 6 = .ok (.getfield 19, 3) := by decide +kernel
theorem dX5_trapNumbered_9 : decode cX5_trapNumbered 9 = .ok (.invokevirtual 80, 3) := by decide +kernel
theorem dX5_trapNumbered_12 : decode cX5_trapNumbered 12 = .ok (.if_icmp .lt 13, 3) := by decide +kernel
theorem dX5_trapNumbered_15 : decode cX5_trapNumbered 15 = .ok (.new 52, 3) := by decide +kernel
theorem dX5_trapNumbered_18 : decode cX5_trapNumbered 18 = .ok (.dup, 1) := by decide +kernel
theorem dX5_trapNumbered_19 : decode cX5_trapNumbered 19 = .ok (.ldc 221, 2) := by decide +kernel
theorem dX5_trapNumbered_21 : decode cX5_trapNumbered 21 = .ok (.invokespecial 56, 3) := by decide +kernel
theorem dX5_trapNumbered_24 : decode cX5_trapNumbered 24 = .ok (.athrow, 1) := by decide +kernel
theorem dX5_trapNumbered_25 : decode cX5_trapNumbered 25 = .ok (.aload_n 0, 1) := by decide +kernel
theorem dX5_trapNumbered_26 : decode cX5_trapNumbered 26 = .ok (.getfield 19, 3) := by decide +kernel
theorem dX5_trapNumbered_29 : decode cX5_trapNumbered 29 = .ok (.iload_n 1, 1) := by decide +kernel
theorem dX5_trapNumbered_30 : decode cX5_trapNumbered 30 = .ok (.invokevirtual 178, 3) := by decide +kernel
theorem dX5_trapNumbered_33 : decode cX5_trapNumbered 33 = .ok (.checkcast 192, 3) := by decide +kernel
theorem dX5_trapNumbered_36 : decode cX5_trapNumbered 36 = .ok (.areturn, 1) := by decide +kernel
theorem dX5_itemNeeded_0 : decode cX5_itemNeeded 0 = .ok (.aload_n 1, 1) := by decide +kernel
theorem dX5_itemNeeded_1 : decode cX5_itemNeeded 1 = .ok (.aload_n 0, 1) := by decide +kernel
theorem dX5_itemNeeded_2 : decode cX5_itemNeeded 2 = .ok (.getfield 26, 3) := by decide +kernel
theorem dX5_itemNeeded_5 : decode cX5_itemNeeded 5 = .ok (.invokevirtual 73, 3) := by decide +kernel
theorem dX5_itemNeeded_8 : decode cX5_itemNeeded 8 = .ok (.astore_n 2, 1) := by decide +kernel
theorem dX5_itemNeeded_9 : decode cX5_itemNeeded 9 = .ok (.aload_n 2, 1) := by decide +kernel
theorem dX5_itemNeeded_10 : decode cX5_itemNeeded 10 = .ok (.ifnonnull 13, 3) := by decide +kernel
theorem dX5_itemNeeded_13 : decode cX5_itemNeeded 13 = .ok (.new 44, 3) := by decide +kernel
theorem dX5_itemNeeded_16 : decode cX5_itemNeeded 16 = .ok (.dup, 1) := by decide +kernel
theorem dX5_itemNeeded_17 : decode cX5_itemNeeded 17 = .ok (.ldc 223, 2) := by decide +kernel
theorem dX5_itemNeeded_19 : decode cX5_itemNeeded 19 = .ok (.invokespecial 48, 3) := by decide +kernel
theorem dX5_itemNeeded_22 : decode cX5_itemNeeded 22 = .ok (.athrow, 1) := by decide +kernel
theorem dX5_itemNeeded_23 : decode cX5_itemNeeded 23 = .ok (.aload_n 2, 1) := by decide +kernel
theorem dX5_itemNeeded_24 : decode cX5_itemNeeded 24 = .ok (.areturn, 1) := by decide +kernel
theorem dX5_checkValue_0 : decode cX5_checkValue 0 = .ok (.iload_n 0, 1) := by decide +kernel
theorem dX5_checkValue_1 : decode cX5_checkValue 1 = .ok (.ifCond .lt 10, 3) := by decide +kernel
theorem dX5_checkValue_4 : decode cX5_checkValue 4 = .ok (.iload_n 0, 1) := by decide +kernel
theorem dX5_checkValue_5 : decode cX5_checkValue 5 = .ok (.sipush 999, 3) := by decide +kernel
theorem dX5_checkValue_8 : decode cX5_checkValue 8 = .ok (.if_icmp .le 13, 3) := by decide +kernel
theorem dX5_checkValue_11 : decode cX5_checkValue 11 = .ok (.new 33, 3) := by decide +kernel
theorem dX5_checkValue_14 : decode cX5_checkValue 14 = .ok (.dup, 1) := by decide +kernel
theorem dX5_checkValue_15 : decode cX5_checkValue 15 = .ok (.ldc 225, 2) := by decide +kernel
theorem dX5_checkValue_17 : decode cX5_checkValue 17 = .ok (.invokespecial 37, 3) := by decide +kernel
theorem dX5_checkValue_20 : decode cX5_checkValue 20 = .ok (.athrow, 1) := by decide +kernel
theorem dX5_checkValue_21 : decode cX5_checkValue 21 = .ok (.return_, 1) := by decide +kernel
theorem dX5_valueOf_0 : decode cX5_valueOf 0 = .ok (.aload_n 0, 1) := by decide +kernel
theorem dX5_valueOf_1 : decode cX5_valueOf 1 = .ok (.ifnonnull 7, 3) := by decide +kernel
theorem dX5_valueOf_4 : decode cX5_valueOf 4 = .ok (.iconst (-1), 1) := by decide +kernel
theorem dX5_valueOf_5 : decode cX5_valueOf 5 = .ok (.goto 7, 3) := by decide +kernel
theorem dX5_valueOf_8 : decode cX5_valueOf 8 = .ok (.aload_n 0, 1) := by decide +kernel
theorem dX5_valueOf_9 : decode cX5_valueOf 9 = .ok (.getfield 109, 3) := by decide +kernel
theorem dX5_valueOf_12 : decode cX5_valueOf 12 = .ok (.ireturn, 1) := by decide +kernel
theorem dX5_bitsBehind_0 : decode cX5_bitsBehind 0 = .ok (.iconst 4, 1) := by decide +kernel
theorem dX5_bitsBehind_1 : decode cX5_bitsBehind 1 = .ok (.iconst 4, 1) := by decide +kernel
theorem dX5_bitsBehind_2 : decode cX5_bitsBehind 2 = .ok (.iload_n 0, 1) := by decide +kernel
theorem dX5_bitsBehind_3 : decode cX5_bitsBehind 3 = .ok (.isub, 1) := by decide +kernel
theorem dX5_bitsBehind_4 : decode cX5_bitsBehind 4 = .ok (.imul, 1) := by decide +kernel
theorem dX5_bitsBehind_5 : decode cX5_bitsBehind 5 = .ok (.ireturn, 1) := by decide +kernel
theorem dX5_heldAt_0 : decode cX5_heldAt 0 = .ok (.iload_n 0, 1) := by decide +kernel
theorem dX5_heldAt_1 : decode cX5_heldAt 1 = .ok (.iload_n 1, 1) := by decide +kernel
theorem dX5_heldAt_2 : decode cX5_heldAt 2 = .ok (.iconst 1, 1) := by decide +kernel
theorem dX5_heldAt_3 : decode cX5_heldAt 3 = .ok (.iadd, 1) := by decide +kernel
theorem dX5_heldAt_4 : decode cX5_heldAt 4 = .ok (.invokestatic 49, 3) := by decide +kernel
theorem dX5_heldAt_7 : decode cX5_heldAt 7 = .ok (.ishr, 1) := by decide +kernel
theorem dX5_heldAt_8 : decode cX5_heldAt 8 = .ok (.bipush 15, 2) := by decide +kernel
theorem dX5_heldAt_10 : decode cX5_heldAt 10 = .ok (.iand, 1) := by decide +kernel
theorem dX5_heldAt_11 : decode cX5_heldAt 11 = .ok (.ireturn, 1) := by decide +kernel
theorem dX5_lengthOf_0 : decode cX5_lengthOf 0 = .ok (.iconst 0, 1) := by decide +kernel
theorem dX5_lengthOf_1 : decode cX5_lengthOf 1 = .ok (.istore_n 1, 1) := by decide +kernel
theorem dX5_lengthOf_2 : decode cX5_lengthOf 2 = .ok (.iload_n 1, 1) := by decide +kernel
theorem dX5_lengthOf_3 : decode cX5_lengthOf 3 = .ok (.iconst 4, 1) := by decide +kernel
theorem dX5_lengthOf_4 : decode cX5_lengthOf 4 = .ok (.if_icmp .ge 17, 3) := by decide +kernel
theorem dX5_lengthOf_7 : decode cX5_lengthOf 7 = .ok (.iload_n 0, 1) := by decide +kernel
theorem dX5_lengthOf_8 : decode cX5_lengthOf 8 = .ok (.iload_n 1, 1) := by decide +kernel
theorem dX5_lengthOf_9 : decode cX5_lengthOf 9 = .ok (.invokestatic 57, 3) := by decide +kernel
theorem dX5_lengthOf_12 : decode cX5_lengthOf 12 = .ok (.ifCond .eq 9, 3) := by decide +kernel
theorem dX5_lengthOf_15 : decode cX5_lengthOf 15 = .ok (.iinc 1 1, 3) := by decide +kernel
theorem dX5_lengthOf_18 : decode cX5_lengthOf 18 = .ok (.goto (-16), 3) := by decide +kernel
theorem dX5_lengthOf_21 : decode cX5_lengthOf 21 = .ok (.iload_n 1, 1) := by decide +kernel
theorem dX5_lengthOf_22 : decode cX5_lengthOf 22 = .ok (.ireturn, 1) := by decide +kernel
theorem dX5_headOf_0 : decode cX5_headOf 0 = .ok (.iload_n 1, 1) := by decide +kernel
theorem dX5_headOf_1 : decode cX5_headOf 1 = .ok (.invokestatic 49, 3) := by decide +kernel
theorem dX5_headOf_4 : decode cX5_headOf 4 = .ok (.istore_n 2, 1) := by decide +kernel
theorem dX5_headOf_5 : decode cX5_headOf 5 = .ok (.iload_n 0, 1) := by decide +kernel
theorem dX5_headOf_6 : decode cX5_headOf 6 = .ok (.iload_n 2, 1) := by decide +kernel
theorem dX5_headOf_7 : decode cX5_headOf 7 = .ok (.ishr, 1) := by decide +kernel
theorem dX5_headOf_8 : decode cX5_headOf 8 = .ok (.iload_n 2, 1) := by decide +kernel
theorem dX5_headOf_9 : decode cX5_headOf 9 = .ok (.ishl, 1) := by decide +kernel
theorem dX5_headOf_10 : decode cX5_headOf 10 = .ok (.ireturn, 1) := by decide +kernel
theorem dX5_walkOn_0 : decode cX5_walkOn 0 = .ok (.aload_n 1, 1) := by decide +kernel
theorem dX5_walkOn_1 : decode cX5_walkOn 1 = .ok (.aload_n 0, 1) := by decide +kernel
theorem dX5_walkOn_2 : decode cX5_walkOn 2 = .ok (.getfield 26, 3) := by decide +kernel
theorem dX5_walkOn_5 : decode cX5_walkOn 5 = .ok (.invokevirtual 227, 3) := by decide +kernel
theorem dX5_walkOn_8 : decode cX5_walkOn 8 = .ok (.astore_n 2, 1) := by decide +kernel
theorem dX5_walkOn_9 : decode cX5_walkOn 9 = .ok (.aload_n 2, 1) := by decide +kernel
theorem dX5_walkOn_10 : decode cX5_walkOn 10 = .ok (.ifnull 11, 3) := by decide +kernel
theorem dX5_walkOn_13 : decode cX5_walkOn 13 = .ok (.aload_n 0, 1) := by decide +kernel
theorem dX5_walkOn_14 : decode cX5_walkOn 14 = .ok (.aload_n 2, 1) := by decide +kernel
theorem dX5_walkOn_15 : decode cX5_walkOn 15 = .ok (.getfield 230, 3) := by decide +kernel
theorem dX5_walkOn_18 : decode cX5_walkOn 18 = .ok (.putfield 26, 3) := by decide +kernel
theorem dX5_walkOn_21 : decode cX5_walkOn 21 = .ok (.aload_n 2, 1) := by decide +kernel
theorem dX5_walkOn_22 : decode cX5_walkOn 22 = .ok (.areturn, 1) := by decide +kernel
theorem dX5_sortShownOf_0 : decode cX5_sortShownOf 0 = .ok (.aload_n 0, 1) := by decide +kernel
theorem dX5_sortShownOf_1 : decode cX5_sortShownOf 1 = .ok (.getfield 23, 3) := by decide +kernel
theorem dX5_sortShownOf_4 : decode cX5_sortShownOf 4 = .ok (.invokevirtual 233, 3) := by decide +kernel
theorem dX5_sortShownOf_7 : decode cX5_sortShownOf 7 = .ok (.iconst 0, 1) := by decide +kernel
theorem dX5_sortShownOf_8 : decode cX5_sortShownOf 8 = .ok (.istore_n 2, 1) := by decide +kernel
theorem dX5_sortShownOf_9 : decode cX5_sortShownOf 9 = .ok (.iload_n 2, 1) := by decide +kernel
theorem dX5_sortShownOf_10 : decode cX5_sortShownOf 10 = .ok (.aload_n 1, 1) := by decide +kernel
theorem dX5_sortShownOf_11 : decode cX5_sortShownOf 11 = .ok (.getfield 77, 3) := by decide +kernel
theorem dX5_sortShownOf_14 : decode cX5_sortShownOf 14 = .ok (.invokevirtual 80, 3) := by decide +kernel
theorem dX5_sortShownOf_17 : decode cX5_sortShownOf 17 = .ok (.if_icmp .ge 48, 3) := by decide +kernel
theorem dX5_sortShownOf_20 : decode cX5_sortShownOf 20 = .ok (.aload_n 1, 1) := by decide +kernel
theorem dX5_sortShownOf_21 : decode cX5_sortShownOf 21 = .ok (.getfield 77, 3) := by decide +kernel
theorem dX5_sortShownOf_24 : decode cX5_sortShownOf 24 = .ok (.iload_n 2, 1) := by decide +kernel
theorem dX5_sortShownOf_25 : decode cX5_sortShownOf 25 = .ok (.invokevirtual 178, 3) := by decide +kernel
theorem dX5_sortShownOf_28 : decode cX5_sortShownOf 28 = .ok (.checkcast 89, 3) := by decide +kernel
theorem dX5_sortShownOf_31 : decode cX5_sortShownOf 31 = .ok (.astore_n 3, 1) := by decide +kernel
theorem dX5_sortShownOf_32 : decode cX5_sortShownOf 32 = .ok (.aload_n 1, 1) := by decide +kernel
theorem dX5_sortShownOf_33 : decode cX5_sortShownOf 33 = .ok (.aload_n 3, 1) := by decide +kernel
theorem dX5_sortShownOf_34 : decode cX5_sortShownOf 34 = .ok (.getfield 230, 3) := by decide +kernel
theorem dX5_sortShownOf_37 : decode cX5_sortShownOf 37 = .ok (.invokevirtual 116, 3) := by decide +kernel
theorem dX5_sortShownOf_40 : decode cX5_sortShownOf 40 = .ok (.ifCond .ne 19, 3) := by decide +kernel
theorem dX5_sortShownOf_43 : decode cX5_sortShownOf 43 = .ok (.aload_n 0, 1) := by decide +kernel
theorem dX5_sortShownOf_44 : decode cX5_sortShownOf 44 = .ok (.getfield 23, 3) := by decide +kernel
theorem dX5_sortShownOf_47 : decode cX5_sortShownOf 47 = .ok (.aload_n 0, 1) := by decide +kernel
theorem dX5_sortShownOf_48 : decode cX5_sortShownOf 48 = .ok (.aload_n 3, 1) := by decide +kernel
theorem dX5_sortShownOf_49 : decode cX5_sortShownOf 49 = .ok (.getfield 230, 3) := by decide +kernel
theorem dX5_sortShownOf_52 : decode cX5_sortShownOf 52 = .ok (.invokevirtual 236, 3) := by decide +kernel
theorem dX5_sortShownOf_55 : decode cX5_sortShownOf 55 = .ok (.aload_n 3, 1) := by decide +kernel
theorem dX5_sortShownOf_56 : decode cX5_sortShownOf 56 = .ok (.invokevirtual 239, 3) := by decide +kernel
theorem dX5_sortShownOf_59 : decode cX5_sortShownOf 59 = .ok (.iinc 2 1, 3) := by decide +kernel
theorem dX5_sortShownOf_62 : decode cX5_sortShownOf 62 = .ok (.goto (-53), 3) := by decide +kernel
theorem dX5_sortShownOf_65 : decode cX5_sortShownOf 65 = .ok (.return_, 1) := by decide +kernel
theorem dX5_countSortedAhead_0 : decode cX5_countSortedAhead 0 = .ok (.iconst 0, 1) := by decide +kernel
theorem dX5_countSortedAhead_1 : decode cX5_countSortedAhead 1 = .ok (.istore_n 2, 1) := by decide +kernel
theorem dX5_countSortedAhead_2 : decode cX5_countSortedAhead 2 = .ok (.iload_n 2, 1) := by decide +kernel
theorem dX5_countSortedAhead_3 : decode cX5_countSortedAhead 3 = .ok (.aload_n 0, 1) := by decide +kernel
theorem dX5_countSortedAhead_4 : decode cX5_countSortedAhead 4 = .ok (.getfield 23, 3) := by decide +kernel
theorem dX5_countSortedAhead_7 : decode cX5_countSortedAhead 7 = .ok (.invokevirtual 80, 3) := by decide +kernel
theorem dX5_countSortedAhead_10 : decode cX5_countSortedAhead 10 = .ok (.if_icmp .ge 27, 3) := by decide +kernel
theorem dX5_countSortedAhead_13 : decode cX5_countSortedAhead 13 = .ok (.aload_n 0, 1) := by decide +kernel
theorem dX5_countSortedAhead_14 : decode cX5_countSortedAhead 14 = .ok (.getfield 23, 3) := by decide +kernel
theorem dX5_countSortedAhead_17 : decode cX5_countSortedAhead 17 = .ok (.iload_n 2, 1) := by decide +kernel
theorem dX5_countSortedAhead_18 : decode cX5_countSortedAhead 18 = .ok (.invokevirtual 178, 3) := by decide +kernel
theorem dX5_countSortedAhead_21 : decode cX5_countSortedAhead 21 = .ok (.checkcast 89, 3) := by decide +kernel
theorem dX5_countSortedAhead_24 : decode cX5_countSortedAhead 24 = .ok (.getfield 230, 3) := by decide +kernel
theorem dX5_countSortedAhead_27 : decode cX5_countSortedAhead 27 = .ok (.iload_n 1, 1) := by decide +kernel
theorem dX5_countSortedAhead_28 : decode cX5_countSortedAhead 28 = .ok (.if_icmp .ge 9, 3) := by decide +kernel
theorem dX5_countSortedAhead_31 : decode cX5_countSortedAhead 31 = .ok (.iinc 2 1, 3) := by decide +kernel
theorem dX5_countSortedAhead_34 : decode cX5_countSortedAhead 34 = .ok (.goto (-32), 3) := by decide +kernel
theorem dX5_countSortedAhead_37 : decode cX5_countSortedAhead 37 = .ok (.iload_n 2, 1) := by decide +kernel
theorem dX5_countSortedAhead_38 : decode cX5_countSortedAhead 38 = .ok (.ireturn, 1) := by decide +kernel
theorem dX5_firstSortedBehind_0 : decode cX5_firstSortedBehind 0 = .ok (.iconst 0, 1) := by decide +kernel
theorem dX5_firstSortedBehind_1 : decode cX5_firstSortedBehind 1 = .ok (.istore_n 2, 1) := by decide +kernel
theorem dX5_firstSortedBehind_2 : decode cX5_firstSortedBehind 2 = .ok (.iload_n 2, 1) := by decide +kernel
theorem dX5_firstSortedBehind_3 : decode cX5_firstSortedBehind 3 = .ok (.aload_n 0, 1) := by decide +kernel
theorem dX5_firstSortedBehind_4 : decode cX5_firstSortedBehind 4 = .ok (.getfield 23, 3) := by decide +kernel
theorem dX5_firstSortedBehind_7 : decode cX5_firstSortedBehind 7 = .ok (.invokevirtual 80, 3) := by decide +kernel
theorem dX5_firstSortedBehind_10 : decode cX5_firstSortedBehind 10 = .ok (.if_icmp .ge 31, 3) := by decide +kernel
theorem dX5_firstSortedBehind_13 : decode cX5_firstSortedBehind 13 = .ok (.aload_n 0, 1) := by decide +kernel
theorem dX5_firstSortedBehind_14 : decode cX5_firstSortedBehind 14 = .ok (.getfield 23, 3) := by decide +kernel
theorem dX5_firstSortedBehind_17 : decode cX5_firstSortedBehind 17 = .ok (.iload_n 2, 1) := by decide +kernel
theorem dX5_firstSortedBehind_18 : decode cX5_firstSortedBehind 18 = .ok (.invokevirtual 178, 3) := by decide +kernel
theorem dX5_firstSortedBehind_21 : decode cX5_firstSortedBehind 21 = .ok (.checkcast 89, 3) := by decide +kernel
theorem dX5_firstSortedBehind_24 : decode cX5_firstSortedBehind 24 = .ok (.astore_n 3, 1) := by decide +kernel
theorem dX5_firstSortedBehind_25 : decode cX5_firstSortedBehind 25 = .ok (.aload_n 3, 1) := by decide +kernel
theorem dX5_firstSortedBehind_26 : decode cX5_firstSortedBehind 26 = .ok (.getfield 230, 3) := by decide +kernel
theorem dX5_firstSortedBehind_29 : decode cX5_firstSortedBehind 29 = .ok (.iload_n 1, 1) := by decide +kernel
theorem dX5_firstSortedBehind_30 : decode cX5_firstSortedBehind 30 = .ok (.if_icmp .le 5, 3) := by decide +kernel
theorem dX5_firstSortedBehind_33 : decode cX5_firstSortedBehind 33 = .ok (.aload_n 3, 1) := by decide +kernel
theorem dX5_firstSortedBehind_34 : decode cX5_firstSortedBehind 34 = .ok (.areturn, 1) := by decide +kernel
theorem dX5_firstSortedBehind_35 : decode cX5_firstSortedBehind 35 = .ok (.iinc 2 1, 3) := by decide +kernel
theorem dX5_firstSortedBehind_38 : decode cX5_firstSortedBehind 38 = .ok (.goto (-36), 3) := by decide +kernel
theorem dX5_firstSortedBehind_41 : decode cX5_firstSortedBehind 41 = .ok (.aconst_null, 1) := by decide +kernel
theorem dX5_firstSortedBehind_42 : decode cX5_firstSortedBehind 42 = .ok (.areturn, 1) := by decide +kernel
theorem dX5_compareWithMarks_0 : decode cX5_compareWithMarks 0 = .ok (.aload_n 2, 1) := by decide +kernel
theorem dX5_compareWithMarks_1 : decode cX5_compareWithMarks 1 = .ok (.getfield 174, 3) := by decide +kernel
theorem dX5_compareWithMarks_4 : decode cX5_compareWithMarks 4 = .ok (.ifnull 26, 3) := by decide +kernel
theorem dX5_compareWithMarks_7 : decode cX5_compareWithMarks 7 = .ok (.aload_n 2, 1) := by decide +kernel
theorem dX5_compareWithMarks_8 : decode cX5_compareWithMarks 8 = .ok (.getfield 174, 3) := by decide +kernel
theorem dX5_compareWithMarks_11 : decode cX5_compareWithMarks 11 = .ok (.aload_n 2, 1) := by decide +kernel
theorem dX5_compareWithMarks_12 : decode cX5_compareWithMarks 12 = .ok (.getfield 109, 3) := by decide +kernel
theorem dX5_compareWithMarks_15 : decode cX5_compareWithMarks 15 = .ok (.invokevirtual 245, 3) := by decide +kernel
theorem dX5_compareWithMarks_18 : decode cX5_compareWithMarks 18 = .ok (.ifCond .eq 12, 3) := by decide +kernel
theorem dX5_compareWithMarks_21 : decode cX5_compareWithMarks 21 = .ok (.aload_n 0, 1) := by decide +kernel
theorem dX5_compareWithMarks_22 : decode cX5_compareWithMarks 22 = .ok (.iload_n 1, 1) := by decide +kernel
theorem dX5_compareWithMarks_23 : decode cX5_compareWithMarks 23 = .ok (.aload_n 2, 1) := by decide +kernel
theorem dX5_compareWithMarks_24 : decode cX5_compareWithMarks 24 = .ok (.getfield 230, 3) := by decide +kernel
theorem dX5_compareWithMarks_27 : decode cX5_compareWithMarks 27 = .ok (.invokevirtual 248, 3) := by decide +kernel
theorem dX5_compareWithMarks_30 : decode cX5_compareWithMarks 30 = .ok (.return_, 1) := by decide +kernel
theorem dX5_sendOrRepeat_0 : decode cX5_sendOrRepeat 0 = .ok (.aload_n 0, 1) := by decide +kernel
theorem dX5_sendOrRepeat_1 : decode cX5_sendOrRepeat 1 = .ok (.iload_n 1, 1) := by decide +kernel
theorem dX5_sendOrRepeat_2 : decode cX5_sendOrRepeat 2 = .ok (.iload_n 2, 1) := by decide +kernel
theorem dX5_sendOrRepeat_3 : decode cX5_sendOrRepeat 3 = .ok (.invokevirtual 251, 3) := by decide +kernel
theorem dX5_sendOrRepeat_6 : decode cX5_sendOrRepeat 6 = .ok (.astore_n 3, 1) := by decide +kernel
theorem dX5_sendOrRepeat_7 : decode cX5_sendOrRepeat 7 = .ok (.aload_n 3, 1) := by decide +kernel
theorem dX5_sendOrRepeat_8 : decode cX5_sendOrRepeat 8 = .ok (.ifnull 30, 3) := by decide +kernel
theorem dX5_sendOrRepeat_11 : decode cX5_sendOrRepeat 11 = .ok (.aload_n 0, 1) := by decide +kernel
theorem dX5_sendOrRepeat_12 : decode cX5_sendOrRepeat 12 = .ok (.getfield 30, 3) := by decide +kernel
theorem dX5_sendOrRepeat_15 : decode cX5_sendOrRepeat 15 = .ok (.aload_n 3, 1) := by decide +kernel
theorem dX5_sendOrRepeat_16 : decode cX5_sendOrRepeat 16 = .ok (.getfield 196, 3) := by decide +kernel
theorem dX5_sendOrRepeat_19 : decode cX5_sendOrRepeat 19 = .ok (.isub, 1) := by decide +kernel
theorem dX5_sendOrRepeat_20 : decode cX5_sendOrRepeat 20 = .ok (.bipush 10, 2) := by decide +kernel
theorem dX5_sendOrRepeat_22 : decode cX5_sendOrRepeat 22 = .ok (.if_icmp .ge 16, 3) := by decide +kernel
theorem dX5_sendOrRepeat_25 : decode cX5_sendOrRepeat 25 = .ok (.aload_n 3, 1) := by decide +kernel
theorem dX5_sendOrRepeat_26 : decode cX5_sendOrRepeat 26 = .ok (.dup, 1) := by decide +kernel
theorem dX5_sendOrRepeat_27 : decode cX5_sendOrRepeat 27 = .ok (.getfield 199, 3) := by decide +kernel
theorem dX5_sendOrRepeat_30 : decode cX5_sendOrRepeat 30 = .ok (.iconst 1, 1) := by decide +kernel
theorem dX5_sendOrRepeat_31 : decode cX5_sendOrRepeat 31 = .ok (.iadd, 1) := by decide +kernel
theorem dX5_sendOrRepeat_32 : decode cX5_sendOrRepeat 32 = .ok (.putfield 199, 3) := by decide +kernel
theorem dX5_sendOrRepeat_35 : decode cX5_sendOrRepeat 35 = .ok (.goto 24, 3) := by decide +kernel
theorem dX5_sendOrRepeat_38 : decode cX5_sendOrRepeat 38 = .ok (.aload_n 0, 1) := by decide +kernel
theorem dX5_sendOrRepeat_39 : decode cX5_sendOrRepeat 39 = .ok (.getfield 19, 3) := by decide +kernel
theorem dX5_sendOrRepeat_42 : decode cX5_sendOrRepeat 42 = .ok (.new 192, 3) := by decide +kernel
theorem dX5_sendOrRepeat_45 : decode cX5_sendOrRepeat 45 = .ok (.dup, 1) := by decide +kernel
theorem dX5_sendOrRepeat_46 : decode cX5_sendOrRepeat 46 = .ok (.iload_n 1, 1) := by decide +kernel
theorem dX5_sendOrRepeat_47 : decode cX5_sendOrRepeat 47 = .ok (.iload_n 2, 1) := by decide +kernel
theorem dX5_sendOrRepeat_48 : decode cX5_sendOrRepeat 48 = .ok (.aload_n 0, 1) := by decide +kernel
theorem dX5_sendOrRepeat_49 : decode cX5_sendOrRepeat 49 = .ok (.getfield 30, 3) := by decide +kernel
theorem dX5_sendOrRepeat_52 : decode cX5_sendOrRepeat 52 = .ok (.invokespecial 255, 3) := by decide +kernel
theorem dX5_sendOrRepeat_55 : decode cX5_sendOrRepeat 55 = .ok (.invokevirtual 94, 3) := by decide +kernel
theorem dX5_sendOrRepeat_58 : decode cX5_sendOrRepeat 58 = .ok (.pop, 1) := by decide +kernel
theorem dX5_sendOrRepeat_59 : decode cX5_sendOrRepeat 59 = .ok (.return_, 1) := by decide +kernel
theorem dX5_lastTrapOf_0 : decode cX5_lastTrapOf 0 = .ok (.aload_n 0, 1) := by decide +kernel
theorem dX5_lastTrapOf_1 : decode cX5_lastTrapOf 1 = .ok (.getfield 19, 3) := by decide +kernel
theorem dX5_lastTrapOf_4 : decode cX5_lastTrapOf 4 = .ok (.invokevirtual 80, 3) := by decide +kernel
theorem dX5_lastTrapOf_7 : decode cX5_lastTrapOf 7 = .ok (.iconst 1, 1) := by decide +kernel
theorem dX5_lastTrapOf_8 : decode cX5_lastTrapOf 8 = .ok (.isub, 1) := by decide +kernel
theorem dX5_lastTrapOf_9 : decode cX5_lastTrapOf 9 = .ok (.istore_n 3, 1) := by decide +kernel
theorem dX5_lastTrapOf_10 : decode cX5_lastTrapOf 10 = .ok (.iload_n 3, 1) := by decide +kernel
theorem dX5_lastTrapOf_11 : decode cX5_lastTrapOf 11 = .ok (.ifCond .lt 43, 3) := by decide +kernel
theorem dX5_lastTrapOf_14 : decode cX5_lastTrapOf 14 = .ok (.aload_n 0, 1) := by decide +kernel
theorem dX5_lastTrapOf_15 : decode cX5_lastTrapOf 15 = .ok (.getfield 19, 3) := by decide +kernel
theorem dX5_lastTrapOf_18 : decode cX5_lastTrapOf 18 = .ok (.iload_n 3, 1) := by decide +kernel
theorem dX5_lastTrapOf_19 : decode cX5_lastTrapOf 19 = .ok (.invokevirtual 178, 3) := by decide +kernel
theorem dX5_lastTrapOf_22 : decode cX5_lastTrapOf 22 = .ok (.checkcast 192, 3) := by decide +kernel
theorem dX5_lastTrapOf_25 : decode cX5_lastTrapOf 25 = .ok (.astore 4, 2) := by decide +kernel
theorem dX5_lastTrapOf_27 : decode cX5_lastTrapOf 27 = .ok (.aload 4, 2) := by decide +kernel
theorem dX5_lastTrapOf_29 : decode cX5_lastTrapOf 29 = .ok (.getfield 191, 3) := by decide +kernel
theorem dX5_lastTrapOf_32 : decode cX5_lastTrapOf 32 = .ok (.iload_n 1, 1) := by decide +kernel
theorem dX5_lastTrapOf_33 : decode cX5_lastTrapOf 33 = .ok (.if_icmp .ne 15, 3) := by decide +kernel
theorem dX5_lastTrapOf_36 : decode cX5_lastTrapOf 36 = .ok (.aload 4, 2) := by decide +kernel
theorem dX5_lastTrapOf_38 : decode cX5_lastTrapOf 38 = .ok (.getfield 256, 3) := by decide +kernel
theorem dX5_lastTrapOf_41 : decode cX5_lastTrapOf 41 = .ok (.iload_n 2, 1) := by decide +kernel
theorem dX5_lastTrapOf_42 : decode cX5_lastTrapOf 42 = .ok (.if_icmp .ne 6, 3) := by decide +kernel
theorem dX5_lastTrapOf_45 : decode cX5_lastTrapOf 45 = .ok (.aload 4, 2) := by decide +kernel
theorem dX5_lastTrapOf_47 : decode cX5_lastTrapOf 47 = .ok (.areturn, 1) := by decide +kernel
theorem dX5_lastTrapOf_48 : decode cX5_lastTrapOf 48 = .ok (.iinc 3 (-1), 3) := by decide +kernel
theorem dX5_lastTrapOf_51 : decode cX5_lastTrapOf 51 = .ok (.goto (-41), 3) := by decide +kernel
theorem dX5_lastTrapOf_54 : decode cX5_lastTrapOf 54 = .ok (.aconst_null, 1) := by decide +kernel
theorem dX5_lastTrapOf_55 : decode cX5_lastTrapOf 55 = .ok (.areturn, 1) := by decide +kernel
theorem dX5_names_0 : decode cX5_names 0 = .ok (.aload_n 0, 1) := by decide +kernel
theorem dX5_names_1 : decode cX5_names 1 = .ok (.iload_n 1, 1) := by decide +kernel
theorem dX5_names_2 : decode cX5_names 2 = .ok (.invokevirtual 61, 3) := by decide +kernel
theorem dX5_names_5 : decode cX5_names 5 = .ok (.iload_n 2, 1) := by decide +kernel
theorem dX5_names_6 : decode cX5_names 6 = .ok (.invokevirtual 257, 3) := by decide +kernel
theorem dX5_names_9 : decode cX5_names 9 = .ok (.ireturn, 1) := by decide +kernel
theorem dX5_withLinksOf_0 : decode cX5_withLinksOf 0 = .ok (.iload_n 1, 1) := by decide +kernel
theorem dX5_withLinksOf_1 : decode cX5_withLinksOf 1 = .ok (.istore_n 2, 1) := by decide +kernel
theorem dX5_withLinksOf_2 : decode cX5_withLinksOf 2 = .ok (.iconst 0, 1) := by decide +kernel
theorem dX5_withLinksOf_3 : decode cX5_withLinksOf 3 = .ok (.istore_n 3, 1) := by decide +kernel
theorem dX5_withLinksOf_4 : decode cX5_withLinksOf 4 = .ok (.iload_n 3, 1) := by decide +kernel
theorem dX5_withLinksOf_5 : decode cX5_withLinksOf 5 = .ok (.iconst 4, 1) := by decide +kernel
theorem dX5_withLinksOf_6 : decode cX5_withLinksOf 6 = .ok (.if_icmp .ge 60, 3) := by decide +kernel
theorem dX5_withLinksOf_9 : decode cX5_withLinksOf 9 = .ok (.iconst 0, 1) := by decide +kernel
theorem dX5_withLinksOf_10 : decode cX5_withLinksOf 10 = .ok (.istore 4, 2) := by decide +kernel
theorem dX5_withLinksOf_12 : decode cX5_withLinksOf 12 = .ok (.iload 4, 2) := by decide +kernel
theorem dX5_withLinksOf_14 : decode cX5_withLinksOf 14 = .ok (.iconst 4, 1) := by decide +kernel
theorem dX5_withLinksOf_15 : decode cX5_withLinksOf 15 = .ok (.if_icmp .ge 45, 3) := by decide +kernel
theorem dX5_withLinksOf_18 : decode cX5_withLinksOf 18 = .ok (.iload_n 1, 1) := by decide +kernel
theorem dX5_withLinksOf_19 : decode cX5_withLinksOf 19 = .ok (.iload_n 3, 1) := by decide +kernel
theorem dX5_withLinksOf_20 : decode cX5_withLinksOf 20 = .ok (.ishr, 1) := by decide +kernel
theorem dX5_withLinksOf_21 : decode cX5_withLinksOf 21 = .ok (.iconst 1, 1) := by decide +kernel
theorem dX5_withLinksOf_22 : decode cX5_withLinksOf 22 = .ok (.iand, 1) := by decide +kernel
theorem dX5_withLinksOf_23 : decode cX5_withLinksOf 23 = .ok (.iconst 1, 1) := by decide +kernel
theorem dX5_withLinksOf_24 : decode cX5_withLinksOf 24 = .ok (.if_icmp .ne 30, 3) := by decide +kernel
theorem dX5_withLinksOf_27 : decode cX5_withLinksOf 27 = .ok (.aload_n 0, 1) := by decide +kernel
theorem dX5_withLinksOf_28 : decode cX5_withLinksOf 28 = .ok (.iload_n 3, 1) := by decide +kernel
theorem dX5_withLinksOf_29 : decode cX5_withLinksOf 29 = .ok (.iload 4, 2) := by decide +kernel
theorem dX5_withLinksOf_31 : decode cX5_withLinksOf 31 = .ok (.invokevirtual 215, 3) := by decide +kernel
theorem dX5_withLinksOf_34 : decode cX5_withLinksOf 34 = .ok (.ifCond .eq 20, 3) := by decide +kernel
theorem dX5_withLinksOf_37 : decode cX5_withLinksOf 37 = .ok (.aload_n 0, 1) := by decide +kernel
theorem dX5_withLinksOf_38 : decode cX5_withLinksOf 38 = .ok (.iload 4, 2) := by decide +kernel
theorem dX5_withLinksOf_40 : decode cX5_withLinksOf 40 = .ok (.iload_n 3, 1) := by decide +kernel
theorem dX5_withLinksOf_41 : decode cX5_withLinksOf 41 = .ok (.invokevirtual 215, 3) := by decide +kernel
theorem dX5_withLinksOf_44 : decode cX5_withLinksOf 44 = .ok (.ifCond .eq 10, 3) := by decide +kernel
theorem dX5_withLinksOf_47 : decode cX5_withLinksOf 47 = .ok (.iload_n 2, 1) := by decide +kernel
theorem dX5_withLinksOf_48 : decode cX5_withLinksOf 48 = .ok (.iconst 1, 1) := by decide +kernel
theorem dX5_withLinksOf_49 : decode cX5_withLinksOf 49 = .ok (.iload 4, 2) := by decide +kernel
theorem dX5_withLinksOf_51 : decode cX5_withLinksOf 51 = .ok (.ishl, 1) := by decide +kernel
theorem dX5_withLinksOf_52 : decode cX5_withLinksOf 52 = .ok (.ior, 1) := by decide +kernel
theorem dX5_withLinksOf_53 : decode cX5_withLinksOf 53 = .ok (.istore_n 2, 1) := by decide +kernel
theorem dX5_withLinksOf_54 : decode cX5_withLinksOf 54 = .ok (.iinc 4 1, 3) := by decide +kernel
theorem dX5_withLinksOf_57 : decode cX5_withLinksOf 57 = .ok (.goto (-45), 3) := by decide +kernel
theorem dX5_withLinksOf_60 : decode cX5_withLinksOf 60 = .ok (.iinc 3 1, 3) := by decide +kernel
theorem dX5_withLinksOf_63 : decode cX5_withLinksOf 63 = .ok (.goto (-59), 3) := by decide +kernel
theorem dX5_withLinksOf_66 : decode cX5_withLinksOf 66 = .ok (.iload_n 2, 1) := by decide +kernel
theorem dX5_withLinksOf_67 : decode cX5_withLinksOf 67 = .ok (.ireturn, 1) := by decide +kernel
theorem dJ9_max_7cf53_0 : decode cJ9_max_7cf53 0 = .ok (.iload_n 0, 1) := by decide +kernel
theorem dJ9_max_7cf53_1 : decode cJ9_max_7cf53 1 = .ok (.iload_n 1, 1) := by decide +kernel
theorem dJ9_max_7cf53_2 : decode cJ9_max_7cf53 2 = .ok (.if_icmp .lt 7, 3) := by decide +kernel
theorem dJ9_max_7cf53_5 : decode cJ9_max_7cf53 5 = .ok (.iload_n 0, 1) := by decide +kernel
theorem dJ9_max_7cf53_6 : decode cJ9_max_7cf53 6 = .ok (.goto 4, 3) := by decide +kernel
theorem dJ9_max_7cf53_9 : decode cJ9_max_7cf53 9 = .ok (.iload_n 1, 1) := by decide +kernel
theorem dJ9_max_7cf53_10 : decode cJ9_max_7cf53 10 = .ok (.ireturn, 1) := by decide +kernel
theorem dJ9_min_7cf53_0 : decode cJ9_min_7cf53 0 = .ok (.iload_n 0, 1) := by decide +kernel
theorem dJ9_min_7cf53_1 : decode cJ9_min_7cf53 1 = .ok (.iload_n 1, 1) := by decide +kernel
theorem dJ9_min_7cf53_2 : decode cJ9_min_7cf53 2 = .ok (.if_icmp .gt 7, 3) := by decide +kernel
theorem dJ9_min_7cf53_5 : decode cJ9_min_7cf53 5 = .ok (.iload_n 0, 1) := by decide +kernel
theorem dJ9_min_7cf53_6 : decode cJ9_min_7cf53 6 = .ok (.goto 4, 3) := by decide +kernel
theorem dJ9_min_7cf53_9 : decode cJ9_min_7cf53 9 = .ok (.iload_n 1, 1) := by decide +kernel
theorem dJ9_min_7cf53_10 : decode cJ9_min_7cf53 10 = .ok (.ireturn, 1) := by decide +kernel
theorem dJxa1e45_init_da8c8_0 : decode cJxa1e45_init_da8c8 0 = .ok (.aload_n 0, 1) := by decide +kernel
theorem dJxa1e45_init_da8c8_1 : decode cJxa1e45_init_da8c8 1 = .ok (.invokespecial 1, 3) := by decide +kernel
theorem dJxa1e45_init_da8c8_4 : decode cJxa1e45_init_da8c8 4 = .ok (.return_, 1) := by decide +kernel
theorem dJxc12de_init_da8c8_0 : decode cJxc12de_init_da8c8 0 = .ok (.aload_n 0, 1) := by decide +kernel
theorem dJxc12de_init_da8c8_1 : decode cJxc12de_init_da8c8 1 = .ok (.invokespecial 1, 3) := by decide +kernel
theorem dJxc12de_init_da8c8_4 : decode cJxc12de_init_da8c8 4 = .ok (.aload_n 0, 1) := by decide +kernel
theorem dJxc12de_init_da8c8_5 : decode cJxc12de_init_da8c8 5 = .ok (.iconst 0, 1) := by decide +kernel
theorem dJxc12de_init_da8c8_6 : decode cJxc12de_init_da8c8 6 = .ok (.putfield 7, 3) := by decide +kernel
theorem dJxc12de_init_da8c8_9 : decode cJxc12de_init_da8c8 9 = .ok (.return_, 1) := by decide +kernel
theorem dJx4a65c_init_da8c8_0 : decode cJx4a65c_init_da8c8 0 = .ok (.aload_n 0, 1) := by decide +kernel
theorem dJx4a65c_init_da8c8_1 : decode cJx4a65c_init_da8c8 1 = .ok (.invokespecial 1, 3) := by decide +kernel
theorem dJx4a65c_init_da8c8_4 : decode cJx4a65c_init_da8c8 4 = .ok (.aload_n 0, 1) := by decide +kernel
theorem dJx4a65c_init_da8c8_5 : decode cJx4a65c_init_da8c8 5 = .ok (.getstatic 39, 3) := by decide +kernel
theorem dJx4a65c_init_da8c8_8 : decode cJx4a65c_init_da8c8 8 = .ok (.putfield 9, 3) := by decide +kernel
theorem dJx4a65c_init_da8c8_11 : decode cJx4a65c_init_da8c8 11 = .ok (.return_, 1) := by decide +kernel
theorem dJx4a65c_grow_92f84_0 : decode cJx4a65c_grow_92f84 0 = .ok (.aload_n 0, 1) := by decide +kernel
theorem dJx4a65c_grow_92f84_1 : decode cJx4a65c_grow_92f84 1 = .ok (.getfield 9, 3) := by decide +kernel
theorem dJx4a65c_grow_92f84_4 : decode cJx4a65c_grow_92f84 4 = .ok (.arraylength, 1) := by decide +kernel
theorem dJx4a65c_grow_92f84_5 : decode cJx4a65c_grow_92f84 5 = .ok (.istore_n 2, 1) := by decide +kernel
theorem dJx4a65c_grow_92f84_6 : decode cJx4a65c_grow_92f84 6 = .ok (.iload_n 2, 1) := by decide +kernel
theorem dJx4a65c_grow_92f84_7 : decode cJx4a65c_grow_92f84 7 = .ok (.ifCond .gt 13, 3) := by decide +kernel
theorem dJx4a65c_grow_92f84_10 : decode cJx4a65c_grow_92f84 10 = .ok (.aload_n 0, 1) := by decide +kernel
theorem dJx4a65c_grow_92f84_11 : decode cJx4a65c_grow_92f84 11 = .ok (.getfield 9, 3) := by decide +kernel
theorem dJx4a65c_grow_92f84_14 : decode cJx4a65c_grow_92f84 14 = .ok (.getstatic 39, 3) := by decide +kernel
theorem dJx4a65c_grow_92f84_17 : decode cJx4a65c_grow_92f84 17 = .ok (.if_acmp .eq 28, 3) := by decide +kernel
theorem dJx4a65c_grow_92f84_20 : decode cJx4a65c_grow_92f84 20 = .ok (.iload_n 2, 1) := by decide +kernel
theorem dJx4a65c_grow_92f84_21 : decode cJx4a65c_grow_92f84 21 = .ok (.iload_n 1, 1) := by decide +kernel
theorem dJx4a65c_grow_92f84_22 : decode cJx4a65c_grow_92f84 22 = .ok (.iload_n 2, 1) := by decide +kernel
theorem dJx4a65c_grow_92f84_23 : decode cJx4a65c_grow_92f84 23 = .ok (.isub, 1) := by decide +kernel
theorem dJx4a65c_grow_92f84_24 : decode cJx4a65c_grow_92f84 24 = .ok (.iload_n 2, 1) := by decide +kernel
theorem dJx4a65c_grow_92f84_25 : decode cJx4a65c_grow_92f84 25 = .ok (.iconst 1, 1) := by decide +kernel
theorem dJx4a65c_grow_92f84_26 : decode cJx4a65c_grow_92f84 26 = .ok (.ishr, 1) := by decide +kernel
theorem dJx4a65c_grow_92f84_27 : decode cJx4a65c_grow_92f84 27 = .ok (.invokestatic 73, 3) := by decide +kernel
theorem dJx4a65c_grow_92f84_30 : decode cJx4a65c_grow_92f84 30 = .ok (.istore_n 3, 1) := by decide +kernel
theorem dJx4a65c_grow_92f84_31 : decode cJx4a65c_grow_92f84 31 = .ok (.aload_n 0, 1) := by decide +kernel
theorem dJx4a65c_grow_92f84_32 : decode cJx4a65c_grow_92f84 32 = .ok (.aload_n 0, 1) := by decide +kernel
theorem dJx4a65c_grow_92f84_33 : decode cJx4a65c_grow_92f84 33 = .ok (.getfield 9, 3) := by decide +kernel
theorem dJx4a65c_grow_92f84_36 : decode cJx4a65c_grow_92f84 36 = .ok (.iload_n 3, 1) := by decide +kernel
theorem dJx4a65c_grow_92f84_37 : decode cJx4a65c_grow_92f84 37 = .ok (.invokestatic 66, 3) := by decide +kernel
theorem dJx4a65c_grow_92f84_40 : decode cJx4a65c_grow_92f84 40 = .ok (.dup_x1, 1) := by decide +kernel
theorem dJx4a65c_grow_92f84_41 : decode cJx4a65c_grow_92f84 41 = .ok (.putfield 9, 3) := by decide +kernel
theorem dJx4a65c_grow_92f84_44 : decode cJx4a65c_grow_92f84 44 = .ok (.areturn, 1) := by decide +kernel
theorem dJx4a65c_grow_92f84_45 : decode cJx4a65c_grow_92f84 45 = .ok (.aload_n 0, 1) := by decide +kernel
theorem dJx4a65c_grow_92f84_46 : decode cJx4a65c_grow_92f84 46 = .ok (.bipush 10, 2) := by decide +kernel
theorem dJx4a65c_grow_92f84_48 : decode cJx4a65c_grow_92f84 48 = .ok (.iload_n 1, 1) := by decide +kernel
theorem dJx4a65c_grow_92f84_49 : decode cJx4a65c_grow_92f84 49 = .ok (.invokestatic 79, 3) := by decide +kernel
theorem dJx4a65c_grow_92f84_52 : decode cJx4a65c_grow_92f84 52 = .ok (.anewarray 7, 3) := by decide +kernel
theorem dJx4a65c_grow_92f84_55 : decode cJx4a65c_grow_92f84 55 = .ok (.dup_x1, 1) := by decide +kernel
theorem dJx4a65c_grow_92f84_56 : decode cJx4a65c_grow_92f84 56 = .ok (.putfield 9, 3) := by decide +kernel
theorem dJx4a65c_grow_92f84_59 : decode cJx4a65c_grow_92f84 59 = .ok (.areturn, 1) := by decide +kernel
theorem dJx4a65c_grow_d5877_0 : decode cJx4a65c_grow_d5877 0 = .ok (.aload_n 0, 1) := by decide +kernel
theorem dJx4a65c_grow_d5877_1 : decode cJx4a65c_grow_d5877 1 = .ok (.aload_n 0, 1) := by decide +kernel
theorem dJx4a65c_grow_d5877_2 : decode cJx4a65c_grow_d5877 2 = .ok (.getfield 48, 3) := by decide +kernel
theorem dJx4a65c_grow_d5877_5 : decode cJx4a65c_grow_d5877 5 = .ok (.iconst 1, 1) := by decide +kernel
theorem dJx4a65c_grow_d5877_6 : decode cJx4a65c_grow_d5877 6 = .ok (.iadd, 1) := by decide +kernel
theorem dJx4a65c_grow_d5877_7 : decode cJx4a65c_grow_d5877 7 = .ok (.invokevirtual 69, 3) := by decide +kernel
theorem dJx4a65c_grow_d5877_10 : decode cJx4a65c_grow_d5877 10 = .ok (.areturn, 1) := by decide +kernel
theorem dJx4a65c_size_8abf5_0 : decode cJx4a65c_size_8abf5 0 = .ok (.aload_n 0, 1) := by decide +kernel
theorem dJx4a65c_size_8abf5_1 : decode cJx4a65c_size_8abf5 1 = .ok (.getfield 48, 3) := by decide +kernel
theorem dJx4a65c_size_8abf5_4 : decode cJx4a65c_size_8abf5 4 = .ok (.ireturn, 1) := by decide +kernel
theorem dJx4a65c_elementData_915e3_0 : decode cJx4a65c_elementData_915e3 0 = .ok (.aload_n 0, 1) := by decide +kernel
theorem dJx4a65c_elementData_915e3_1 : decode cJx4a65c_elementData_915e3 1 = .ok (.getfield 9, 3) := by decide +kernel
theorem dJx4a65c_elementData_915e3_4 : decode cJx4a65c_elementData_915e3 4 = .ok (.iload_n 1, 1) := by decide +kernel
theorem dJx4a65c_elementData_915e3_5 : decode cJx4a65c_elementData_915e3 5 = .ok (.aaload, 1) := by decide +kernel
theorem dJx4a65c_elementData_915e3_6 : decode cJx4a65c_elementData_915e3 6 = .ok (.areturn, 1) := by decide +kernel
theorem dJx4a65c_get_915e3_0 : decode cJx4a65c_get_915e3 0 = .ok (.iload_n 1, 1) := by decide +kernel
theorem dJx4a65c_get_915e3_1 : decode cJx4a65c_get_915e3 1 = .ok (.aload_n 0, 1) := by decide +kernel
theorem dJx4a65c_get_915e3_2 : decode cJx4a65c_get_915e3 2 = .ok (.getfield 48, 3) := by decide +kernel
theorem dJx4a65c_get_915e3_5 : decode cJx4a65c_get_915e3 5 = .ok (.invokestatic 118, 3) := by decide +kernel
theorem dJx4a65c_get_915e3_8 : decode cJx4a65c_get_915e3 8 = .ok (.pop, 1) := by decide +kernel
theorem dJx4a65c_get_915e3_9 : decode cJx4a65c_get_915e3 9 = .ok (.aload_n 0, 1) := by decide +kernel
theorem dJx4a65c_get_915e3_10 : decode cJx4a65c_get_915e3 10 = .ok (.iload_n 1, 1) := by decide +kernel
theorem dJx4a65c_get_915e3_11 : decode cJx4a65c_get_915e3 11 = .ok (.invokevirtual 123, 3) := by decide +kernel
theorem dJx4a65c_get_915e3_14 : decode cJx4a65c_get_915e3 14 = .ok (.areturn, 1) := by decide +kernel
theorem dJx4a65c_add_72be8_0 : decode cJx4a65c_add_72be8 0 = .ok (.iload_n 3, 1) := by decide +kernel
theorem dJx4a65c_add_72be8_1 : decode cJx4a65c_add_72be8 1 = .ok (.aload_n 2, 1) := by decide +kernel
theorem dJx4a65c_add_72be8_2 : decode cJx4a65c_add_72be8 2 = .ok (.arraylength, 1) := by decide +kernel
theorem dJx4a65c_add_72be8_3 : decode cJx4a65c_add_72be8 3 = .ok (.if_icmp .ne 8, 3) := by decide +kernel
theorem dJx4a65c_add_72be8_6 : decode cJx4a65c_add_72be8 6 = .ok (.aload_n 0, 1) := by decide +kernel
theorem dJx4a65c_add_72be8_7 : decode cJx4a65c_add_72be8 7 = .ok (.invokevirtual 129, 3) := by decide +kernel
theorem dJx4a65c_add_72be8_10 : decode cJx4a65c_add_72be8 10 = .ok (.astore_n 2, 1) := by decide +kernel
theorem dJx4a65c_add_72be8_11 : decode cJx4a65c_add_72be8 11 = .ok (.aload_n 2, 1) := by decide +kernel
theorem dJx4a65c_add_72be8_12 : decode cJx4a65c_add_72be8 12 = .ok (.iload_n 3, 1) := by decide +kernel
theorem dJx4a65c_add_72be8_13 : decode cJx4a65c_add_72be8 13 = .ok (.aload_n 1, 1) := by decide +kernel
theorem dJx4a65c_add_72be8_14 : decode cJx4a65c_add_72be8 14 = .ok (.aastore, 1) := by decide +kernel
theorem dJx4a65c_add_72be8_15 : decode cJx4a65c_add_72be8 15 = .ok (.aload_n 0, 1) := by decide +kernel
theorem dJx4a65c_add_72be8_16 : decode cJx4a65c_add_72be8 16 = .ok (.iload_n 3, 1) := by decide +kernel
theorem dJx4a65c_add_72be8_17 : decode cJx4a65c_add_72be8 17 = .ok (.iconst 1, 1) := by decide +kernel
theorem dJx4a65c_add_72be8_18 : decode cJx4a65c_add_72be8 18 = .ok (.iadd, 1) := by decide +kernel
theorem dJx4a65c_add_72be8_19 : decode cJx4a65c_add_72be8 19 = .ok (.putfield 48, 3) := by decide +kernel
theorem dJx4a65c_add_72be8_22 : decode cJx4a65c_add_72be8 22 = .ok (.return_, 1) := by decide +kernel
theorem dJx4a65c_add_9ea2d_0 : decode cJx4a65c_add_9ea2d 0 = .ok (.aload_n 0, 1) := by decide +kernel
theorem dJx4a65c_add_9ea2d_1 : decode cJx4a65c_add_9ea2d 1 = .ok (.dup, 1) := by decide +kernel
theorem dJx4a65c_add_9ea2d_2 : decode cJx4a65c_add_9ea2d 2 = .ok (.getfield 63, 3) := by decide +kernel
theorem dJx4a65c_add_9ea2d_5 : decode cJx4a65c_add_9ea2d 5 = .ok (.iconst 1, 1) := by decide +kernel
theorem dJx4a65c_add_9ea2d_6 : decode cJx4a65c_add_9ea2d 6 = .ok (.iadd, 1) := by decide +kernel
theorem dJx4a65c_add_9ea2d_7 : decode cJx4a65c_add_9ea2d 7 = .ok (.putfield 63, 3) := by decide +kernel
theorem dJx4a65c_add_9ea2d_10 : decode cJx4a65c_add_9ea2d 10 = .ok (.aload_n 0, 1) := by decide +kernel
theorem dJx4a65c_add_9ea2d_11 : decode cJx4a65c_add_9ea2d 11 = .ok (.aload_n 1, 1) := by decide +kernel
theorem dJx4a65c_add_9ea2d_12 : decode cJx4a65c_add_9ea2d 12 = .ok (.aload_n 0, 1) := by decide +kernel
theorem dJx4a65c_add_9ea2d_13 : decode cJx4a65c_add_9ea2d 13 = .ok (.getfield 9, 3) := by decide +kernel
theorem dJx4a65c_add_9ea2d_16 : decode cJx4a65c_add_9ea2d 16 = .ok (.aload_n 0, 1) := by decide +kernel
theorem dJx4a65c_add_9ea2d_17 : decode cJx4a65c_add_9ea2d 17 = .ok (.getfield 48, 3) := by decide +kernel
theorem dJx4a65c_add_9ea2d_20 : decode cJx4a65c_add_9ea2d 20 = .ok (.invokevirtual 131, 3) := by decide +kernel
theorem dJx4a65c_add_9ea2d_23 : decode cJx4a65c_add_9ea2d 23 = .ok (.iconst 1, 1) := by decide +kernel
theorem dJx4a65c_add_9ea2d_24 : decode cJx4a65c_add_9ea2d 24 = .ok (.ireturn, 1) := by decide +kernel
theorem dJx4a65c_add_7a177_0 : decode cJx4a65c_add_7a177 0 = .ok (.aload_n 0, 1) := by decide +kernel
theorem dJx4a65c_add_7a177_1 : decode cJx4a65c_add_7a177 1 = .ok (.iload_n 1, 1) := by decide +kernel
theorem dJx4a65c_add_7a177_2 : decode cJx4a65c_add_7a177 2 = .ok (.invokevirtual 135, 3) := by decide +kernel
theorem dJx4a65c_add_7a177_5 : decode cJx4a65c_add_7a177 5 = .ok (.aload_n 0, 1) := by decide +kernel
theorem dJx4a65c_add_7a177_6 : decode cJx4a65c_add_7a177 6 = .ok (.dup, 1) := by decide +kernel
theorem dJx4a65c_add_7a177_7 : decode cJx4a65c_add_7a177 7 = .ok (.getfield 63, 3) := by decide +kernel
theorem dJx4a65c_add_7a177_10 : decode cJx4a65c_add_7a177 10 = .ok (.iconst 1, 1) := by decide +kernel
theorem dJx4a65c_add_7a177_11 : decode cJx4a65c_add_7a177 11 = .ok (.iadd, 1) := by decide +kernel
theorem dJx4a65c_add_7a177_12 : decode cJx4a65c_add_7a177 12 = .ok (.putfield 63, 3) := by decide +kernel
theorem dJx4a65c_add_7a177_15 : decode cJx4a65c_add_7a177 15 = .ok (.aload_n 0, 1) := by decide +kernel
theorem dJx4a65c_add_7a177_16 : decode cJx4a65c_add_7a177 16 = .ok (.getfield 48, 3) := by decide +kernel
theorem dJx4a65c_add_7a177_19 : decode cJx4a65c_add_7a177 19 = .ok (.dup, 1) := by decide +kernel
theorem dJx4a65c_add_7a177_20 : decode cJx4a65c_add_7a177 20 = .ok (.istore_n 3, 1) := by decide +kernel
theorem dJx4a65c_add_7a177_21 : decode cJx4a65c_add_7a177 21 = .ok (.aload_n 0, 1) := by decide +kernel
theorem dJx4a65c_add_7a177_22 : decode cJx4a65c_add_7a177 22 = .ok (.getfield 9, 3) := by decide +kernel
theorem dJx4a65c_add_7a177_25 : decode cJx4a65c_add_7a177 25 = .ok (.dup, 1) := by decide +kernel
theorem dJx4a65c_add_7a177_26 : decode cJx4a65c_add_7a177 26 = .ok (.astore 4, 2) := by decide +kernel
theorem dJx4a65c_add_7a177_28 : decode cJx4a65c_add_7a177 28 = .ok (.arraylength, 1) := by decide +kernel
theorem dJx4a65c_add_7a177_29 : decode cJx4a65c_add_7a177 29 = .ok (.if_icmp .ne 9, 3) := by decide +kernel
theorem dJx4a65c_add_7a177_32 : decode cJx4a65c_add_7a177 32 = .ok (.aload_n 0, 1) := by decide +kernel
theorem dJx4a65c_add_7a177_33 : decode cJx4a65c_add_7a177 33 = .ok (.invokevirtual 129, 3) := by decide +kernel
theorem dJx4a65c_add_7a177_36 : decode cJx4a65c_add_7a177 36 = .ok (.astore 4, 2) := by decide +kernel
theorem dJx4a65c_add_7a177_38 : decode cJx4a65c_add_7a177 38 = .ok (.aload 4, 2) := by decide +kernel
theorem dJx4a65c_add_7a177_40 : decode cJx4a65c_add_7a177 40 = .ok (.iload_n 1, 1) := by decide +kernel
theorem dJx4a65c_add_7a177_41 : decode cJx4a65c_add_7a177 41 = .ok (.aload 4, 2) := by decide +kernel
theorem dJx4a65c_add_7a177_43 : decode cJx4a65c_add_7a177 43 = .ok (.iload_n 1, 1) := by decide +kernel
theorem dJx4a65c_add_7a177_44 : decode cJx4a65c_add_7a177 44 = .ok (.iconst 1, 1) := by decide +kernel
theorem dJx4a65c_add_7a177_45 : decode cJx4a65c_add_7a177 45 = .ok (.iadd, 1) := by decide +kernel
theorem dJx4a65c_add_7a177_46 : decode cJx4a65c_add_7a177 46 = .ok (.iload_n 3, 1) := by decide +kernel
theorem dJx4a65c_add_7a177_47 : decode cJx4a65c_add_7a177 47 = .ok (.iload_n 1, 1) := by decide +kernel
theorem dJx4a65c_add_7a177_48 : decode cJx4a65c_add_7a177 48 = .ok (.isub, 1) := by decide +kernel
theorem dJx4a65c_add_7a177_49 : decode cJx4a65c_add_7a177 49 = .ok (.invokestatic 112, 3) := by decide +kernel
theorem dJx4a65c_add_7a177_52 : decode cJx4a65c_add_7a177 52 = .ok (.aload 4, 2) := by decide +kernel
theorem dJx4a65c_add_7a177_54 : decode cJx4a65c_add_7a177 54 = .ok (.iload_n 1, 1) := by decide +kernel
theorem dJx4a65c_add_7a177_55 : decode cJx4a65c_add_7a177 55 = .ok (.aload_n 2, 1) := by decide +kernel
theorem dJx4a65c_add_7a177_56 : decode cJx4a65c_add_7a177 56 = .ok (.aastore, 1) := by decide +kernel
theorem dJx4a65c_add_7a177_57 : decode cJx4a65c_add_7a177 57 = .ok (.aload_n 0, 1) := by decide +kernel
theorem dJx4a65c_add_7a177_58 : decode cJx4a65c_add_7a177 58 = .ok (.iload_n 3, 1) := by decide +kernel
theorem dJx4a65c_add_7a177_59 : decode cJx4a65c_add_7a177 59 = .ok (.iconst 1, 1) := by decide +kernel
theorem dJx4a65c_add_7a177_60 : decode cJx4a65c_add_7a177 60 = .ok (.iadd, 1) := by decide +kernel
theorem dJx4a65c_add_7a177_61 : decode cJx4a65c_add_7a177 61 = .ok (.putfield 48, 3) := by decide +kernel
theorem dJx4a65c_add_7a177_64 : decode cJx4a65c_add_7a177 64 = .ok (.return_, 1) := by decide +kernel
theorem dJx4a65c_remove_915e3_0 : decode cJx4a65c_remove_915e3 0 = .ok (.iload_n 1, 1) := by decide +kernel
theorem dJx4a65c_remove_915e3_1 : decode cJx4a65c_remove_915e3 1 = .ok (.aload_n 0, 1) := by decide +kernel
theorem dJx4a65c_remove_915e3_2 : decode cJx4a65c_remove_915e3 2 = .ok (.getfield 48, 3) := by decide +kernel
theorem dJx4a65c_remove_915e3_5 : decode cJx4a65c_remove_915e3 5 = .ok (.invokestatic 118, 3) := by decide +kernel
theorem dJx4a65c_remove_915e3_8 : decode cJx4a65c_remove_915e3 8 = .ok (.pop, 1) := by decide +kernel
theorem dJx4a65c_remove_915e3_9 : decode cJx4a65c_remove_915e3 9 = .ok (.aload_n 0, 1) := by decide +kernel
theorem dJx4a65c_remove_915e3_10 : decode cJx4a65c_remove_915e3 10 = .ok (.getfield 9, 3) := by decide +kernel
theorem dJx4a65c_remove_915e3_13 : decode cJx4a65c_remove_915e3 13 = .ok (.astore_n 2, 1) := by decide +kernel
theorem dJx4a65c_remove_915e3_14 : decode cJx4a65c_remove_915e3 14 = .ok (.aload_n 2, 1) := by decide +kernel
theorem dJx4a65c_remove_915e3_15 : decode cJx4a65c_remove_915e3 15 = .ok (.iload_n 1, 1) := by decide +kernel
theorem dJx4a65c_remove_915e3_16 : decode cJx4a65c_remove_915e3 16 = .ok (.aaload, 1) := by decide +kernel
theorem dJx4a65c_remove_915e3_17 : decode cJx4a65c_remove_915e3 17 = .ok (.astore_n 3, 1) := by decide +kernel
theorem dJx4a65c_remove_915e3_18 : decode cJx4a65c_remove_915e3 18 = .ok (.aload_n 0, 1) := by decide +kernel
theorem dJx4a65c_remove_915e3_19 : decode cJx4a65c_remove_915e3 19 = .ok (.aload_n 2, 1) := by decide +kernel
theorem dJx4a65c_remove_915e3_20 : decode cJx4a65c_remove_915e3 20 = .ok (.iload_n 1, 1) := by decide +kernel
theorem dJx4a65c_remove_915e3_21 : decode cJx4a65c_remove_915e3 21 = .ok (.invokevirtual 144, 3) := by decide +kernel
theorem dJx4a65c_remove_915e3_24 : decode cJx4a65c_remove_915e3 24 = .ok (.aload_n 3, 1) := by decide +kernel
theorem dJx4a65c_remove_915e3_25 : decode cJx4a65c_remove_915e3 25 = .ok (.areturn, 1) := by decide +kernel
theorem dJx4a65c_fastRemove_b59b0_0 : decode cJx4a65c_fastRemove_b59b0 0 = .ok (.aload_n 0, 1) := by decide +kernel
theorem dJx4a65c_fastRemove_b59b0_1 : decode cJx4a65c_fastRemove_b59b0 1 = .ok (.dup, 1) := by decide +kernel
theorem dJx4a65c_fastRemove_b59b0_2 : decode cJx4a65c_fastRemove_b59b0 2 = .ok (.getfield 63, 3) := by decide +kernel
theorem dJx4a65c_fastRemove_b59b0_5 : decode cJx4a65c_fastRemove_b59b0 5 = .ok (.iconst 1, 1) := by decide +kernel
theorem dJx4a65c_fastRemove_b59b0_6 : decode cJx4a65c_fastRemove_b59b0 6 = .ok (.iadd, 1) := by decide +kernel
theorem dJx4a65c_fastRemove_b59b0_7 : decode cJx4a65c_fastRemove_b59b0 7 = .ok (.putfield 63, 3) := by decide +kernel
theorem dJx4a65c_fastRemove_b59b0_10 : decode cJx4a65c_fastRemove_b59b0 10 = .ok (.aload_n 0, 1) := by decide +kernel
theorem dJx4a65c_fastRemove_b59b0_11 : decode cJx4a65c_fastRemove_b59b0 11 = .ok (.getfield 48, 3) := by decide +kernel
theorem dJx4a65c_fastRemove_b59b0_14 : decode cJx4a65c_fastRemove_b59b0 14 = .ok (.iconst 1, 1) := by decide +kernel
theorem dJx4a65c_fastRemove_b59b0_15 : decode cJx4a65c_fastRemove_b59b0 15 = .ok (.isub, 1) := by decide +kernel
theorem dJx4a65c_fastRemove_b59b0_16 : decode cJx4a65c_fastRemove_b59b0 16 = .ok (.dup, 1) := by decide +kernel
theorem dJx4a65c_fastRemove_b59b0_17 : decode cJx4a65c_fastRemove_b59b0 17 = .ok (.istore_n 3, 1) := by decide +kernel
theorem dJx4a65c_fastRemove_b59b0_18 : decode cJx4a65c_fastRemove_b59b0 18 = .ok (.iload_n 2, 1) := by decide +kernel
theorem dJx4a65c_fastRemove_b59b0_19 : decode cJx4a65c_fastRemove_b59b0 19 = .ok (.if_icmp .le 15, 3) := by decide +kernel
theorem dJx4a65c_fastRemove_b59b0_22 : decode cJx4a65c_fastRemove_b59b0 22 = .ok (.aload_n 1, 1) := by decide +kernel
theorem dJx4a65c_fastRemove_b59b0_23 : decode cJx4a65c_fastRemove_b59b0 23 = .ok (.iload_n 2, 1) := by decide +kernel
theorem dJx4a65c_fastRemove_b59b0_24 : decode cJx4a65c_fastRemove_b59b0 24 = .ok (.iconst 1, 1) := by decide +kernel
theorem dJx4a65c_fastRemove_b59b0_25 : decode cJx4a65c_fastRemove_b59b0 25 = .ok (.iadd, 1) := by decide +kernel
theorem dJx4a65c_fastRemove_b59b0_26 : decode cJx4a65c_fastRemove_b59b0 26 = .ok (.aload_n 1, 1) := by decide +kernel
theorem dJx4a65c_fastRemove_b59b0_27 : decode cJx4a65c_fastRemove_b59b0 27 = .ok (.iload_n 2, 1) := by decide +kernel
theorem dJx4a65c_fastRemove_b59b0_28 : decode cJx4a65c_fastRemove_b59b0 28 = .ok (.iload_n 3, 1) := by decide +kernel
theorem dJx4a65c_fastRemove_b59b0_29 : decode cJx4a65c_fastRemove_b59b0 29 = .ok (.iload_n 2, 1) := by decide +kernel
theorem dJx4a65c_fastRemove_b59b0_30 : decode cJx4a65c_fastRemove_b59b0 30 = .ok (.isub, 1) := by decide +kernel
theorem dJx4a65c_fastRemove_b59b0_31 : decode cJx4a65c_fastRemove_b59b0 31 = .ok (.invokestatic 112, 3) := by decide +kernel
theorem dJx4a65c_fastRemove_b59b0_34 : decode cJx4a65c_fastRemove_b59b0 34 = .ok (.aload_n 1, 1) := by decide +kernel
theorem dJx4a65c_fastRemove_b59b0_35 : decode cJx4a65c_fastRemove_b59b0 35 = .ok (.aload_n 0, 1) := by decide +kernel
theorem dJx4a65c_fastRemove_b59b0_36 : decode cJx4a65c_fastRemove_b59b0 36 = .ok (.iload_n 3, 1) := by decide +kernel
theorem dJx4a65c_fastRemove_b59b0_37 : decode cJx4a65c_fastRemove_b59b0 37 = .ok (.dup_x1, 1) := by decide +kernel
theorem dJx4a65c_fastRemove_b59b0_38 : decode cJx4a65c_fastRemove_b59b0 38 = .ok (.putfield 48, 3) := by decide +kernel
theorem dJx4a65c_fastRemove_b59b0_41 : decode cJx4a65c_fastRemove_b59b0 41 = .ok (.aconst_null, 1) := by decide +kernel
theorem dJx4a65c_fastRemove_b59b0_42 : decode cJx4a65c_fastRemove_b59b0 42 = .ok (.aastore, 1) := by decide +kernel
theorem dJx4a65c_fastRemove_b59b0_43 : decode cJx4a65c_fastRemove_b59b0 43 = .ok (.return_, 1) := by decide +kernel
theorem dJx4a65c_clear_da8c8_0 : decode cJx4a65c_clear_da8c8 0 = .ok (.aload_n 0, 1) := by decide +kernel
theorem dJx4a65c_clear_da8c8_1 : decode cJx4a65c_clear_da8c8 1 = .ok (.dup, 1) := by decide +kernel
theorem dJx4a65c_clear_da8c8_2 : decode cJx4a65c_clear_da8c8 2 = .ok (.getfield 63, 3) := by decide +kernel
theorem dJx4a65c_clear_da8c8_5 : decode cJx4a65c_clear_da8c8 5 = .ok (.iconst 1, 1) := by decide +kernel
theorem dJx4a65c_clear_da8c8_6 : decode cJx4a65c_clear_da8c8 6 = .ok (.iadd, 1) := by decide +kernel
theorem dJx4a65c_clear_da8c8_7 : decode cJx4a65c_clear_da8c8 7 = .ok (.putfield 63, 3) := by decide +kernel
theorem dJx4a65c_clear_da8c8_10 : decode cJx4a65c_clear_da8c8 10 = .ok (.aload_n 0, 1) := by decide +kernel
theorem dJx4a65c_clear_da8c8_11 : decode cJx4a65c_clear_da8c8 11 = .ok (.getfield 9, 3) := by decide +kernel
theorem dJx4a65c_clear_da8c8_14 : decode cJx4a65c_clear_da8c8 14 = .ok (.astore_n 1, 1) := by decide +kernel
theorem dJx4a65c_clear_da8c8_15 : decode cJx4a65c_clear_da8c8 15 = .ok (.aload_n 0, 1) := by decide +kernel
theorem dJx4a65c_clear_da8c8_16 : decode cJx4a65c_clear_da8c8 16 = .ok (.getfield 48, 3) := by decide +kernel
theorem dJx4a65c_clear_da8c8_19 : decode cJx4a65c_clear_da8c8 19 = .ok (.istore_n 2, 1) := by decide +kernel
theorem dJx4a65c_clear_da8c8_20 : decode cJx4a65c_clear_da8c8 20 = .ok (.aload_n 0, 1) := by decide +kernel
theorem dJx4a65c_clear_da8c8_21 : decode cJx4a65c_clear_da8c8 21 = .ok (.iconst 0, 1) := by decide +kernel
theorem dJx4a65c_clear_da8c8_22 : decode cJx4a65c_clear_da8c8 22 = .ok (.dup_x1, 1) := by decide +kernel
theorem dJx4a65c_clear_da8c8_23 : decode cJx4a65c_clear_da8c8 23 = .ok (.putfield 48, 3) := by decide +kernel
theorem dJx4a65c_clear_da8c8_26 : decode cJx4a65c_clear_da8c8 26 = .ok (.istore_n 3, 1) := by decide +kernel
theorem dJx4a65c_clear_da8c8_27 : decode cJx4a65c_clear_da8c8 27 = .ok (.iload_n 3, 1) := by decide +kernel
theorem dJx4a65c_clear_da8c8_28 : decode cJx4a65c_clear_da8c8 28 = .ok (.iload_n 2, 1) := by decide +kernel
theorem dJx4a65c_clear_da8c8_29 : decode cJx4a65c_clear_da8c8 29 = .ok (.if_icmp .ge 13, 3) := by decide +kernel
theorem dJx4a65c_clear_da8c8_32 : decode cJx4a65c_clear_da8c8 32 = .ok (.aload_n 1, 1) := by decide +kernel
theorem dJx4a65c_clear_da8c8_33 : decode cJx4a65c_clear_da8c8 33 = .ok (.iload_n 3, 1) := by decide +kernel
theorem dJx4a65c_clear_da8c8_34 : decode cJx4a65c_clear_da8c8 34 = .ok (.aconst_null, 1) := by decide +kernel
theorem dJx4a65c_clear_da8c8_35 : decode cJx4a65c_clear_da8c8 35 = .ok (.aastore, 1) := by decide +kernel
theorem dJx4a65c_clear_da8c8_36 : decode cJx4a65c_clear_da8c8 36 = .ok (.iinc 3 1, 3) := by decide +kernel
theorem dJx4a65c_clear_da8c8_39 : decode cJx4a65c_clear_da8c8 39 = .ok (.goto (-12), 3) := by decide +kernel
theorem dJx4a65c_clear_da8c8_42 : decode cJx4a65c_clear_da8c8 42 = .ok (.return_, 1) := by decide +kernel
theorem dJx4a65c_rangeCheckForAdd_d00df_0 : decode cJx4a65c_rangeCheckForAdd_d00df 0 = .ok (.iload_n 1, 1) := by decide +kernel
theorem dJx4a65c_rangeCheckForAdd_d00df_1 : decode cJx4a65c_rangeCheckForAdd_d00df 1 = .ok (.aload_n 0, 1) := by decide +kernel
theorem dJx4a65c_rangeCheckForAdd_d00df_2 : decode cJx4a65c_rangeCheckForAdd_d00df 2 = .ok (.getfield 48, 3) := by decide +kernel
theorem dJx4a65c_rangeCheckForAdd_d00df_5 : decode cJx4a65c_rangeCheckForAdd_d00df 5 = .ok (.if_icmp .gt 7, 3) := by decide +kernel
theorem dJx4a65c_rangeCheckForAdd_d00df_8 : decode cJx4a65c_rangeCheckForAdd_d00df 8 = .ok (.iload_n 1, 1) := by decide +kernel
theorem dJx4a65c_rangeCheckForAdd_d00df_9 : decode cJx4a65c_rangeCheckForAdd_d00df 9 = .ok (.ifCond .ge 16, 3) := by decide +kernel
theorem dJx4a65c_rangeCheckForAdd_d00df_12 : decode cJx4a65c_rangeCheckForAdd_d00df 12 = .ok (.new 187, 3) := by decide +kernel
theorem dJx4a65c_rangeCheckForAdd_d00df_15 : decode cJx4a65c_rangeCheckForAdd_d00df 15 = .ok (.dup, 1) := by decide +kernel
theorem dJx4a65c_rangeCheckForAdd_d00df_16 : decode cJx4a65c_rangeCheckForAdd_d00df 16 = .ok (.aload_n 0, 1) := by decide +kernel
theorem dJx4a65c_rangeCheckForAdd_d00df_17 : decode cJx4a65c_rangeCheckForAdd_d00df 17 = .ok (.iload_n 1, 1) := by decide +kernel
theorem dJx4a65c_rangeCheckForAdd_d00df_18 : decode cJx4a65c_rangeCheckForAdd_d00df 18 = .ok (.invokevirtual 198, 3) := by decide +kernel
theorem dJx4a65c_rangeCheckForAdd_d00df_21 : decode cJx4a65c_rangeCheckForAdd_d00df 21 = .ok (.invokespecial 193, 3) := by decide +kernel
theorem dJx4a65c_rangeCheckForAdd_d00df_24 : decode cJx4a65c_rangeCheckForAdd_d00df 24 = .ok (.athrow, 1) := by decide +kernel
theorem dJx4a65c_rangeCheckForAdd_d00df_25 : decode cJx4a65c_rangeCheckForAdd_d00df 25 = .ok (.return_, 1) := by decide +kernel
theorem dJ7_copyOf_1904c_0 : decode cJ7_copyOf_1904c 0 = .ok (.aload_n 0, 1) := by decide +kernel
theorem dJ7_copyOf_1904c_1 : decode cJ7_copyOf_1904c 1 = .ok (.iload_n 1, 1) := by decide +kernel
theorem dJ7_copyOf_1904c_2 : decode cJ7_copyOf_1904c 2 = .ok (.aload_n 0, 1) := by decide +kernel
theorem dJ7_copyOf_1904c_3 : decode cJ7_copyOf_1904c 3 = .ok (.invokevirtual 86, 3) := by decide +kernel
theorem dJ7_copyOf_1904c_6 : decode cJ7_copyOf_1904c 6 = .ok (.invokestatic 300, 3) := by decide +kernel
theorem dJ7_copyOf_1904c_9 : decode cJ7_copyOf_1904c 9 = .ok (.areturn, 1) := by decide +kernel
theorem dJ7_copyOf_6403c_0 : decode cJ7_copyOf_6403c 0 = .ok (.aload_n 2, 1) := by decide +kernel
theorem dJ7_copyOf_6403c_1 : decode cJ7_copyOf_6403c 1 = .ok (.ldc 110, 2) := by decide +kernel
theorem dJ7_copyOf_6403c_3 : decode cJ7_copyOf_6403c 3 = .ok (.if_acmp .ne 10, 3) := by decide +kernel
theorem dJ7_copyOf_6403c_6 : decode cJ7_copyOf_6403c 6 = .ok (.iload_n 1, 1) := by decide +kernel
theorem dJ7_copyOf_6403c_7 : decode cJ7_copyOf_6403c 7 = .ok (.anewarray 2, 3) := by decide +kernel
theorem dJ7_copyOf_6403c_10 : decode cJ7_copyOf_6403c 10 = .ok (.goto 14, 3) := by decide +kernel
theorem dJ7_copyOf_6403c_13 : decode cJ7_copyOf_6403c 13 = .ok (.aload_n 2, 1) := by decide +kernel
theorem dJ7_copyOf_6403c_14 : decode cJ7_copyOf_6403c 14 = .ok (.invokevirtual 90, 3) := by decide +kernel
theorem dJ7_copyOf_6403c_17 : decode cJ7_copyOf_6403c 17 = .ok (.iload_n 1, 1) := by decide +kernel
theorem dJ7_copyOf_6403c_18 : decode cJ7_copyOf_6403c 18 = .ok (.invokestatic 95, 3) := by decide +kernel
theorem dJ7_copyOf_6403c_21 : decode cJ7_copyOf_6403c 21 = .ok (.checkcast 110, 3) := by decide +kernel
theorem dJ7_copyOf_6403c_24 : decode cJ7_copyOf_6403c 24 = .ok (.astore_n 3, 1) := by decide +kernel
theorem dJ7_copyOf_6403c_25 : decode cJ7_copyOf_6403c 25 = .ok (.aload_n 0, 1) := by decide +kernel
theorem dJ7_copyOf_6403c_26 : decode cJ7_copyOf_6403c 26 = .ok (.iconst 0, 1) := by decide +kernel
theorem dJ7_copyOf_6403c_27 : decode cJ7_copyOf_6403c 27 = .ok (.aload_n 3, 1) := by decide +kernel
theorem dJ7_copyOf_6403c_28 : decode cJ7_copyOf_6403c 28 = .ok (.iconst 0, 1) := by decide +kernel
theorem dJ7_copyOf_6403c_29 : decode cJ7_copyOf_6403c 29 = .ok (.aload_n 0, 1) := by decide +kernel
theorem dJ7_copyOf_6403c_30 : decode cJ7_copyOf_6403c 30 = .ok (.arraylength, 1) := by decide +kernel
theorem dJ7_copyOf_6403c_31 : decode cJ7_copyOf_6403c 31 = .ok (.iload_n 1, 1) := by decide +kernel
theorem dJ7_copyOf_6403c_32 : decode cJ7_copyOf_6403c 32 = .ok (.invokestatic 304, 3) := by decide +kernel
theorem dJ7_copyOf_6403c_35 : decode cJ7_copyOf_6403c 35 = .ok (.invokestatic 150, 3) := by decide +kernel
theorem dJ7_copyOf_6403c_38 : decode cJ7_copyOf_6403c 38 = .ok (.aload_n 3, 1) := by decide +kernel
theorem dJ7_copyOf_6403c_39 : decode cJ7_copyOf_6403c 39 = .ok (.areturn, 1) := by decide +kernel
theorem dJ15_checkIndex_7cf53_0 : decode cJ15_checkIndex_7cf53 0 = .ok (.iload_n 0, 1) := by decide +kernel
theorem dJ15_checkIndex_7cf53_1 : decode cJ15_checkIndex_7cf53 1 = .ok (.iload_n 1, 1) := by decide +kernel
theorem dJ15_checkIndex_7cf53_2 : decode cJ15_checkIndex_7cf53 2 = .ok (.aconst_null, 1) := by decide +kernel
theorem dJ15_checkIndex_7cf53_3 : decode cJ15_checkIndex_7cf53 3 = .ok (.invokestatic 105, 3) := by decide +kernel
theorem dJ15_checkIndex_7cf53_6 : decode cJ15_checkIndex_7cf53 6 = .ok (.ireturn, 1) := by decide +kernel
theorem dJ8_newLength_cabcc_0 : decode cJ8_newLength_cabcc 0 = .ok (.iload_n 0, 1) := by decide +kernel
theorem dJ8_newLength_cabcc_1 : decode cJ8_newLength_cabcc 1 = .ok (.iload_n 1, 1) := by decide +kernel
theorem dJ8_newLength_cabcc_2 : decode cJ8_newLength_cabcc 2 = .ok (.iload_n 2, 1) := by decide +kernel
theorem dJ8_newLength_cabcc_3 : decode cJ8_newLength_cabcc 3 = .ok (.invokestatic 194, 3) := by decide +kernel
theorem dJ8_newLength_cabcc_6 : decode cJ8_newLength_cabcc 6 = .ok (.iadd, 1) := by decide +kernel
theorem dJ8_newLength_cabcc_7 : decode cJ8_newLength_cabcc 7 = .ok (.istore_n 3, 1) := by decide +kernel
theorem dJ8_newLength_cabcc_8 : decode cJ8_newLength_cabcc 8 = .ok (.iconst 0, 1) := by decide +kernel
theorem dJ8_newLength_cabcc_9 : decode cJ8_newLength_cabcc 9 = .ok (.iload_n 3, 1) := by decide +kernel
theorem dJ8_newLength_cabcc_10 : decode cJ8_newLength_cabcc 10 = .ok (.if_icmp .ge 11, 3) := by decide +kernel
theorem dJ8_newLength_cabcc_13 : decode cJ8_newLength_cabcc 13 = .ok (.iload_n 3, 1) := by decide +kernel
theorem dJ8_newLength_cabcc_14 : decode cJ8_newLength_cabcc 14 = .ok (.ldc 200, 2) := by decide +kernel
theorem dJ8_newLength_cabcc_16 : decode cJ8_newLength_cabcc 16 = .ok (.if_icmp .gt 5, 3) := by decide +kernel
theorem dJ8_newLength_cabcc_19 : decode cJ8_newLength_cabcc 19 = .ok (.iload_n 3, 1) := by decide +kernel
theorem dJ8_newLength_cabcc_20 : decode cJ8_newLength_cabcc 20 = .ok (.ireturn, 1) := by decide +kernel
theorem dJ8_newLength_cabcc_21 : decode cJ8_newLength_cabcc 21 = .ok (.iload_n 0, 1) := by decide +kernel
theorem dJ8_newLength_cabcc_22 : decode cJ8_newLength_cabcc 22 = .ok (.iload_n 1, 1) := by decide +kernel
theorem dJ8_newLength_cabcc_23 : decode cJ8_newLength_cabcc 23 = .ok (.invokestatic 201, 3) := by decide +kernel
theorem dJ8_newLength_cabcc_26 : decode cJ8_newLength_cabcc 26 = .ok (.ireturn, 1) := by decide +kernel
theorem dJ3_checkIndex_8e157_0 : decode cJ3_checkIndex_8e157 0 = .ok (.iload_n 0, 1) := by decide +kernel
theorem dJ3_checkIndex_8e157_1 : decode cJ3_checkIndex_8e157 1 = .ok (.ifCond .lt 8, 3) := by decide +kernel
theorem dJ3_checkIndex_8e157_4 : decode cJ3_checkIndex_8e157 4 = .ok (.iload_n 0, 1) := by decide +kernel
theorem dJ3_checkIndex_8e157_5 : decode cJ3_checkIndex_8e157 5 = .ok (.iload_n 1, 1) := by decide +kernel
theorem dJ3_checkIndex_8e157_6 : decode cJ3_checkIndex_8e157 6 = .ok (.if_icmp .lt 10, 3) := by decide +kernel
theorem dJ3_checkIndex_8e157_9 : decode cJ3_checkIndex_8e157 9 = .ok (.aload_n 2, 1) := by decide +kernel
theorem dJ3_checkIndex_8e157_10 : decode cJ3_checkIndex_8e157 10 = .ok (.iload_n 0, 1) := by decide +kernel
theorem dJ3_checkIndex_8e157_11 : decode cJ3_checkIndex_8e157 11 = .ok (.iload_n 1, 1) := by decide +kernel
theorem dJ3_checkIndex_8e157_12 : decode cJ3_checkIndex_8e157 12 = .ok (.invokestatic 95, 3) := by decide +kernel
theorem dJ3_checkIndex_8e157_15 : decode cJ3_checkIndex_8e157 15 = .ok (.athrow, 1) := by decide +kernel
theorem dJ3_checkIndex_8e157_16 : decode cJ3_checkIndex_8e157 16 = .ok (.iload_n 0, 1) := by decide +kernel
theorem dJ3_checkIndex_8e157_17 : decode cJ3_checkIndex_8e157 17 = .ok (.ireturn, 1) := by decide +kernel
