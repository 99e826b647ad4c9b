theorem dX0_init_0 : decode cX0_init 0 = .ok (.aload_n 0, 1) := by decide +kernel
theorem dX0_init_1 : decode cX0_init 1 = .ok (.invokespecial 3, 3) := by decide +kernel
theorem dX0_init_4 : decode cX0_init 4 = .ok (.aload_n 0, 1) := by decide +kernel
theorem dX0_init_5 : decode cX0_init 5 = .ok (.bipush 102, 2) := by decide +kernel
theorem dX0_init_7 : decode cX0_init 7 = .ok (.putfield 9, 3) := by decide +kernel
theorem dX0_init_10 : decode cX0_init 10 = .ok (.aload_n 0, 1) := by decide +kernel
theorem dX0_init_11 : decode cX0_init 11 = .ok (.iconst 0, 1) := by decide +kernel
theorem dX0_init_12 : decode cX0_init 12 = .ok (.putfield 15, 3) := by decide +kernel
theorem dX0_init_15 : decode cX0_init 15 = .ok (.aload_n 0, 1) := by decide +kernel
theorem dX0_init_16 : decode cX0_init 16 = .ok (.iconst 0, 1) := by decide +kernel
theorem dX0_init_17 : decode cX0_init 17 = .ok (.putfield 19, 3) := by decide +kernel
theorem dX0_init_20 : decode cX0_init 20 = .ok (.aload_n 0, 1) := by decide +kernel
theorem dX0_init_21 : decode cX0_init 21 = .ok (.aconst_null, 1) := by decide +kernel
theorem dX0_init_22 : decode cX0_init 22 = .ok (.putfield 22, 3) := by decide +kernel
theorem dX0_init_25 : decode cX0_init 25 = .ok (.aload_n 0, 1) := by decide +kernel
theorem dX0_init_26 : decode cX0_init 26 = .ok (.iload_n 1, 1) := by decide +kernel
theorem dX0_init_27 : decode cX0_init 27 = .ok (.putfield 26, 3) := by decide +kernel
theorem dX0_init_30 : decode cX0_init 30 = .ok (.aload_n 0, 1) := by decide +kernel
theorem dX0_init_31 : decode cX0_init 31 = .ok (.aload_n 2, 1) := by decide +kernel
theorem dX0_init_32 : decode cX0_init 32 = .ok (.putfield 29, 3) := by decide +kernel
theorem dX0_init_35 : decode cX0_init 35 = .ok (.aload_n 0, 1) := by decide +kernel
theorem dX0_init_36 : decode cX0_init 36 = .ok (.iload_n 3, 1) := by decide +kernel
theorem dX0_init_37 : decode cX0_init 37 = .ok (.putfield 33, 3) := by decide +kernel
theorem dX0_init_40 : decode cX0_init 40 = .ok (.return_, 1) := by decide +kernel
theorem dX0_isAtWork_0 : decode cX0_isAtWork 0 = .ok (.aload_n 0, 1) := by decide +kernel
theorem dX0_isAtWork_1 : decode cX0_isAtWork 1 = .ok (.getfield 9, 3) := by decide +kernel
theorem dX0_isAtWork_4 : decode cX0_isAtWork 4 = .ok (.bipush 102, 2) := by decide +kernel
theorem dX0_isAtWork_6 : decode cX0_isAtWork 6 = .ok (.if_icmp .eq 12, 3) := by decide +kernel
theorem dX0_isAtWork_9 : decode cX0_isAtWork 9 = .ok (.aload_n 0, 1) := by decide +kernel
theorem dX0_isAtWork_10 : decode cX0_isAtWork 10 = .ok (.getfield 9, 3) := by decide +kernel
theorem dX0_isAtWork_13 : decode cX0_isAtWork 13 = .ok (.bipush 109, 2) := by decide +kernel
theorem dX0_isAtWork_15 : decode cX0_isAtWork 15 = .ok (.if_icmp .ne 7, 3) := by decide +kernel
theorem dX0_isAtWork_18 : decode cX0_isAtWork 18 = .ok (.iconst 1, 1) := by decide +kernel
theorem dX0_isAtWork_19 : decode cX0_isAtWork 19 = .ok (.goto 4, 3) := by decide +kernel
theorem dX0_isAtWork_22 : decode cX0_isAtWork 22 = .ok (.iconst 0, 1) := by decide +kernel
theorem dX0_isAtWork_23 : decode cX0_isAtWork 23 = .ok (.ireturn, 1) := by decide +kernel
theorem dX0_holds_0 : decode cX0_holds 0 = .ok (.aload_n 0, 1) := by decide +kernel
theorem dX0_holds_1 : decode cX0_holds 1 = .ok (.getfield 9, 3) := by decide +kernel
theorem dX0_holds_4 : decode cX0_holds 4 = .ok (.bipush 114, 2) := by decide +kernel
theorem dX0_holds_6 : decode cX0_holds 6 = .ok (.if_icmp .ne 15, 3) := by decide +kernel
theorem dX0_holds_9 : decode cX0_holds 9 = .ok (.aload_n 0, 1) := by decide +kernel
theorem dX0_holds_10 : decode cX0_holds 10 = .ok (.getfield 29, 3) := by decide +kernel
theorem dX0_holds_13 : decode cX0_holds 13 = .ok (.aload_n 1, 1) := by decide +kernel
theorem dX0_holds_14 : decode cX0_holds 14 = .ok (.if_acmp .ne 7, 3) := by decide +kernel
theorem dX0_holds_17 : decode cX0_holds 17 = .ok (.iconst 1, 1) := by decide +kernel
theorem dX0_holds_18 : decode cX0_holds 18 = .ok (.goto 4, 3) := by decide +kernel
theorem dX0_holds_21 : decode cX0_holds 21 = .ok (.iconst 0, 1) := by decide +kernel
theorem dX0_holds_22 : decode cX0_holds 22 = .ok (.ireturn, 1) := by decide +kernel
theorem dX0_mature_0 : decode cX0_mature 0 = .ok (.aload_n 0, 1) := by decide +kernel
theorem dX0_mature_1 : decode cX0_mature 1 = .ok (.bipush 109, 2) := by decide +kernel
theorem dX0_mature_3 : decode cX0_mature 3 = .ok (.putfield 9, 3) := by decide +kernel
theorem dX0_mature_6 : decode cX0_mature 6 = .ok (.aload_n 0, 1) := by decide +kernel
theorem dX0_mature_7 : decode cX0_mature 7 = .ok (.aload_n 0, 1) := by decide +kernel
theorem dX0_mature_8 : decode cX0_mature 8 = .ok (.getfield 29, 3) := by decide +kernel
theorem dX0_mature_11 : decode cX0_mature 11 = .ok (.getfield 36, 3) := by decide +kernel
theorem dX0_mature_14 : decode cX0_mature 14 = .ok (.putfield 15, 3) := by decide +kernel
theorem dX0_mature_17 : decode cX0_mature 17 = .ok (.aload_n 0, 1) := by decide +kernel
theorem dX0_mature_18 : decode cX0_mature 18 = .ok (.getfield 15, 3) := by decide +kernel
theorem dX0_mature_21 : decode cX0_mature 21 = .ok (.ifCond .ne 7, 3) := by decide +kernel
theorem dX0_mature_24 : decode cX0_mature 24 = .ok (.aload_n 0, 1) := by decide +kernel
theorem dX0_mature_25 : decode cX0_mature 25 = .ok (.invokevirtual 41, 3) := by decide +kernel
theorem dX0_mature_28 : decode cX0_mature 28 = .ok (.return_, 1) := by decide +kernel
theorem dX0_becomeReady_0 : decode cX0_becomeReady 0 = .ok (.aload_n 0, 1) := by decide +kernel
theorem dX0_becomeReady_1 : decode cX0_becomeReady 1 = .ok (.bipush 114, 2) := by decide +kernel
theorem dX0_becomeReady_3 : decode cX0_becomeReady 3 = .ok (.putfield 9, 3) := by decide +kernel
theorem dX0_becomeReady_6 : decode cX0_becomeReady 6 = .ok (.aload_n 0, 1) := by decide +kernel
theorem dX0_becomeReady_7 : decode cX0_becomeReady 7 = .ok (.bipush 20, 2) := by decide +kernel
theorem dX0_becomeReady_9 : decode cX0_becomeReady 9 = .ok (.putfield 19, 3) := by decide +kernel
theorem dX0_becomeReady_12 : decode cX0_becomeReady 12 = .ok (.return_, 1) := by decide +kernel
theorem dX1_init_0 : decode cX1_init 0 = .ok (.aload_n 0, 1) := by decide +kernel
theorem dX1_init_1 : decode cX1_init 1 = .ok (.invokespecial 1, 3) := by decide +kernel
theorem dX1_init_4 : decode cX1_init 4 = .ok (.aload_n 0, 1) := by decide +kernel
theorem dX1_init_5 : decode cX1_init 5 = .ok (.aload_n 1, 1) := by decide +kernel
theorem dX1_init_6 : decode cX1_init 6 = .ok (.putfield 7, 3) := by decide +kernel
theorem dX1_init_9 : decode cX1_init 9 = .ok (.aload_n 0, 1) := by decide +kernel
theorem dX1_init_10 : decode cX1_init 10 = .ok (.aload_n 2, 1) := by decide +kernel
theorem dX1_init_11 : decode cX1_init 11 = .ok (.putfield 13, 3) := by decide +kernel
theorem dX1_init_14 : decode cX1_init 14 = .ok (.aload_n 0, 1) := by decide +kernel
theorem dX1_init_15 : decode cX1_init 15 = .ok (.iload_n 3, 1) := by decide +kernel
theorem dX1_init_16 : decode cX1_init 16 = .ok (.putfield 17, 3) := by decide +kernel
theorem dX1_init_19 : decode cX1_init 19 = .ok (.return_, 1) := by decide +kernel
theorem dX2_init_0 : decode cX2_init 0 = .ok (.aload_n 0, 1) := by decide +kernel
theorem dX2_init_1 : decode cX2_init 1 = .ok (.invokespecial 3, 3) := by decide +kernel
theorem dX2_init_4 : decode cX2_init 4 = .ok (.aload_n 0, 1) := by decide +kernel
theorem dX2_init_5 : decode cX2_init 5 = .ok (.new 9, 3) := by decide +kernel
theorem dX2_init_8 : decode cX2_init 8 = .ok (.dup, 1) := by decide +kernel
theorem dX2_init_9 : decode cX2_init 9 = .ok (.invokespecial 11, 3) := by decide +kernel
theorem dX2_init_12 : decode cX2_init 12 = .ok (.putfield 12, 3) := by decide +kernel
theorem dX2_init_15 : decode cX2_init 15 = .ok (.aload_n 0, 1) := by decide +kernel
theorem dX2_init_16 : decode cX2_init 16 = .ok (.bipush 111, 2) := by decide +kernel
theorem dX2_init_18 : decode cX2_init 18 = .ok (.putfield 18, 3) := by decide +kernel
theorem dX2_init_21 : decode cX2_init 21 = .ok (.aload_n 0, 1) := by decide +kernel
theorem dX2_init_22 : decode cX2_init 22 = .ok (.iconst 0, 1) := by decide +kernel
theorem dX2_init_23 : decode cX2_init 23 = .ok (.putfield 22, 3) := by decide +kernel
theorem dX2_init_26 : decode cX2_init 26 = .ok (.aload_n 0, 1) := by decide +kernel
theorem dX2_init_27 : decode cX2_init 27 = .ok (.iload_n 1, 1) := by decide +kernel
theorem dX2_init_28 : decode cX2_init 28 = .ok (.putfield 26, 3) := by decide +kernel
theorem dX2_init_31 : decode cX2_init 31 = .ok (.aload_n 0, 1) := by decide +kernel
theorem dX2_init_32 : decode cX2_init 32 = .ok (.iload_n 2, 1) := by decide +kernel
theorem dX2_init_33 : decode cX2_init 33 = .ok (.putfield 29, 3) := by decide +kernel
theorem dX2_init_36 : decode cX2_init 36 = .ok (.return_, 1) := by decide +kernel
theorem dX2_allUnits_0 : decode cX2_allUnits 0 = .ok (.iconst 0, 1) := by decide +kernel
theorem dX2_allUnits_1 : decode cX2_allUnits 1 = .ok (.istore_n 1, 1) := by decide +kernel
theorem dX2_allUnits_2 : decode cX2_allUnits 2 = .ok (.iconst 0, 1) := by decide +kernel
theorem dX2_allUnits_3 : decode cX2_allUnits 3 = .ok (.istore_n 2, 1) := by decide +kernel
theorem dX2_allUnits_4 : decode cX2_allUnits 4 = .ok (.iload_n 2, 1) := by decide +kernel
theorem dX2_allUnits_5 : decode cX2_allUnits 5 = .ok (.aload_n 0, 1) := by decide +kernel
theorem dX2_allUnits_6 : decode cX2_allUnits 6 = .ok (.getfield 12, 3) := by decide +kernel
theorem dX2_allUnits_9 : decode cX2_allUnits 9 = .ok (.invokeinterface 32 1, 5) := by decide +kernel
theorem dX2_allUnits_14 : decode cX2_allUnits 14 = .ok (.if_icmp .ge 28, 3) := by decide +kernel
theorem dX2_allUnits_17 : decode cX2_allUnits 17 = .ok (.iload_n 1, 1) := by decide +kernel
theorem dX2_allUnits_18 : decode cX2_allUnits 18 = .ok (.aload_n 0, 1) := by decide +kernel
theorem dX2_allUnits_19 : decode cX2_allUnits 19 = .ok (.getfield 12, 3) := by decide +kernel
theorem dX2_allUnits_22 : decode cX2_allUnits 22 = .ok (.iload_n 2, 1) := by decide +kernel
theorem dX2_allUnits_23 : decode cX2_allUnits 23 = .ok (.invokeinterface 38 2, 5) := by decide +kernel
theorem dX2_allUnits_28 : decode cX2_allUnits 28 = .ok (.checkcast 42, 3) := by decide +kernel
theorem dX2_allUnits_31 : decode cX2_allUnits 31 = .ok (.getfield 44, 3) := by decide +kernel
theorem dX2_allUnits_34 : decode cX2_allUnits 34 = .ok (.iadd, 1) := by decide +kernel
theorem dX2_allUnits_35 : decode cX2_allUnits 35 = .ok (.istore_n 1, 1) := by decide +kernel
theorem dX2_allUnits_36 : decode cX2_allUnits 36 = .ok (.iinc 2 1, 3) := by decide +kernel
theorem dX2_allUnits_39 : decode cX2_allUnits 39 = .ok (.goto (-35), 3) := by decide +kernel
theorem dX2_allUnits_42 : decode cX2_allUnits 42 = .ok (.iload_n 1, 1) := by decide +kernel
theorem dX2_allUnits_43 : decode cX2_allUnits 43 = .ok (.ireturn, 1) := by decide +kernel
theorem dX2_unitsOf_0 : decode cX2_unitsOf 0 = .ok (.iconst 0, 1) := by decide +kernel
theorem dX2_unitsOf_1 : decode cX2_unitsOf 1 = .ok (.istore_n 2, 1) := by decide +kernel
theorem dX2_unitsOf_2 : decode cX2_unitsOf 2 = .ok (.iconst 0, 1) := by decide +kernel
theorem dX2_unitsOf_3 : decode cX2_unitsOf 3 = .ok (.istore_n 3, 1) := by decide +kernel
theorem dX2_unitsOf_4 : decode cX2_unitsOf 4 = .ok (.iload_n 3, 1) := by decide +kernel
theorem dX2_unitsOf_5 : decode cX2_unitsOf 5 = .ok (.aload_n 0, 1) := by decide +kernel
theorem dX2_unitsOf_6 : decode cX2_unitsOf 6 = .ok (.getfield 12, 3) := by decide +kernel
theorem dX2_unitsOf_9 : decode cX2_unitsOf 9 = .ok (.invokeinterface 32 1, 5) := by decide +kernel
theorem dX2_unitsOf_14 : decode cX2_unitsOf 14 = .ok (.if_icmp .ge 45, 3) := by decide +kernel
theorem dX2_unitsOf_17 : decode cX2_unitsOf 17 = .ok (.aload_n 0, 1) := by decide +kernel
theorem dX2_unitsOf_18 : decode cX2_unitsOf 18 = .ok (.getfield 12, 3) := by decide +kernel
theorem dX2_unitsOf_21 : decode cX2_unitsOf 21 = .ok (.iload_n 3, 1) := by decide +kernel
theorem dX2_unitsOf_22 : decode cX2_unitsOf 22 = .ok (.invokeinterface 38 2, 5) := by decide +kernel
theorem dX2_unitsOf_27 : decode cX2_unitsOf 27 = .ok (.checkcast 42, 3) := by decide +kernel
theorem dX2_unitsOf_30 : decode cX2_unitsOf 30 = .ok (.astore 4, 2) := by decide +kernel
theorem dX2_unitsOf_32 : decode cX2_unitsOf 32 = .ok (.iload_n 2, 1) := by decide +kernel
theorem dX2_unitsOf_33 : decode cX2_unitsOf 33 = .ok (.aload 4, 2) := by decide +kernel
theorem dX2_unitsOf_35 : decode cX2_unitsOf 35 = .ok (.getfield 47, 3) := by decide +kernel
theorem dX2_unitsOf_38 : decode cX2_unitsOf 38 = .ok (.aload_n 1, 1) := by decide +kernel
theorem dX2_unitsOf_39 : decode cX2_unitsOf 39 = .ok (.if_acmp .ne 11, 3) := by decide +kernel
theorem dX2_unitsOf_42 : decode cX2_unitsOf 42 = .ok (.aload 4, 2) := by decide +kernel
theorem dX2_unitsOf_44 : decode cX2_unitsOf 44 = .ok (.getfield 44, 3) := by decide +kernel
theorem dX2_unitsOf_47 : decode cX2_unitsOf 47 = .ok (.goto 4, 3) := by decide +kernel
theorem dX2_unitsOf_50 : decode cX2_unitsOf 50 = .ok (.iconst 0, 1) := by decide +kernel
theorem dX2_unitsOf_51 : decode cX2_unitsOf 51 = .ok (.iadd, 1) := by decide +kernel
theorem dX2_unitsOf_52 : decode cX2_unitsOf 52 = .ok (.istore_n 2, 1) := by decide +kernel
theorem dX2_unitsOf_53 : decode cX2_unitsOf 53 = .ok (.iinc 3 1, 3) := by decide +kernel
theorem dX2_unitsOf_56 : decode cX2_unitsOf 56 = .ok (.goto (-52), 3) := by decide +kernel
theorem dX2_unitsOf_59 : decode cX2_unitsOf 59 = .ok (.iload_n 2, 1) := by decide +kernel
theorem dX2_unitsOf_60 : decode cX2_unitsOf 60 = .ok (.ireturn, 1) := by decide +kernel
theorem dX3_init_0 : decode cX3_init 0 = .ok (.aload_n 0, 1) := by decide +kernel
theorem dX3_init_1 : decode cX3_init 1 = .ok (.invokespecial 1, 3) := by decide +kernel
theorem dX3_init_4 : decode cX3_init 4 = .ok (.aload_n 0, 1) := by decide +kernel
theorem dX3_init_5 : decode cX3_init 5 = .ok (.aload_n 1, 1) := by decide +kernel
theorem dX3_init_6 : decode cX3_init 6 = .ok (.putfield 7, 3) := by decide +kernel
theorem dX3_init_9 : decode cX3_init 9 = .ok (.aload_n 0, 1) := by decide +kernel
theorem dX3_init_10 : decode cX3_init 10 = .ok (.iload_n 2, 1) := by decide +kernel
theorem dX3_init_11 : decode cX3_init 11 = .ok (.putfield 13, 3) := by decide +kernel
theorem dX3_init_14 : decode cX3_init 14 = .ok (.return_, 1) := by decide +kernel
theorem dX4_init_0 : decode cX4_init 0 = .ok (.aload_n 0, 1) := by decide +kernel
theorem dX4_init_1 : decode cX4_init 1 = .ok (.invokespecial 3, 3) := by decide +kernel
theorem dX4_init_4 : decode cX4_init 4 = .ok (.aload_n 0, 1) := by decide +kernel
theorem dX4_init_5 : decode cX4_init 5 = .ok (.iload_n 1, 1) := by decide +kernel
theorem dX4_init_6 : decode cX4_init 6 = .ok (.putfield 9, 3) := by decide +kernel
theorem dX4_init_9 : decode cX4_init 9 = .ok (.aload_n 0, 1) := by decide +kernel
theorem dX4_init_10 : decode cX4_init 10 = .ok (.iload_n 2, 1) := by decide +kernel
theorem dX4_init_11 : decode cX4_init 11 = .ok (.putfield 15, 3) := by decide +kernel
theorem dX4_init_14 : decode cX4_init 14 = .ok (.return_, 1) := by decide +kernel
theorem dX4_isUsable_0 : decode cX4_isUsable 0 = .ok (.iload_n 1, 1) := by decide +kernel
theorem dX4_isUsable_1 : decode cX4_isUsable 1 = .ok (.aload_n 0, 1) := by decide +kernel
theorem dX4_isUsable_2 : decode cX4_isUsable 2 = .ok (.getfield 15, 3) := by decide +kernel
theorem dX4_isUsable_5 : decode cX4_isUsable 5 = .ok (.bipush 10, 2) := by decide +kernel
theorem dX4_isUsable_7 : decode cX4_isUsable 7 = .ok (.iadd, 1) := by decide +kernel
theorem dX4_isUsable_8 : decode cX4_isUsable 8 = .ok (.if_icmp .gt 7, 3) := by decide +kernel
theorem dX4_isUsable_11 : decode cX4_isUsable 11 = .ok (.iconst 1, 1) := by decide +kernel
theorem dX4_isUsable_12 : decode cX4_isUsable 12 = .ok (.goto 4, 3) := by decide +kernel
theorem dX4_isUsable_15 : decode cX4_isUsable 15 = .ok (.iconst 0, 1) := by decide +kernel
theorem dX4_isUsable_16 : decode cX4_isUsable 16 = .ok (.ireturn, 1) := by decide +kernel
theorem dX5_init_0 : decode cX5_init 0 = .ok (.aload_n 0, 1) := by decide +kernel
theorem dX5_init_1 : decode cX5_init 1 = .ok (.invokespecial 3, 3) := by decide +kernel
theorem dX5_init_4 : decode cX5_init 4 = .ok (.aload_n 0, 1) := by decide +kernel
theorem dX5_init_5 : decode cX5_init 5 = .ok (.new 9, 3) := by decide +kernel
theorem dX5_init_8 : decode cX5_init 8 = .ok (.dup, 1) := by decide +kernel
theorem dX5_init_9 : decode cX5_init 9 = .ok (.invokespecial 11, 3) := by decide +kernel
theorem dX5_init_12 : decode cX5_init 12 = .ok (.putfield 12, 3) := by decide +kernel
theorem dX5_init_15 : decode cX5_init 15 = .ok (.aload_n 0, 1) := by decide +kernel
theorem dX5_init_16 : decode cX5_init 16 = .ok (.new 9, 3) := by decide +kernel
theorem dX5_init_19 : decode cX5_init 19 = .ok (.dup, 1) := by decide +kernel
theorem dX5_init_20 : decode cX5_init 20 = .ok (.invokespecial 11, 3) := by decide +kernel
theorem dX5_init_23 : decode cX5_init 23 = .ok (.putfield 18, 3) := by decide +kernel
theorem dX5_init_26 : decode cX5_init 26 = .ok (.aload_n 0, 1) := by decide +kernel
theorem dX5_init_27 : decode cX5_init 27 = .ok (.new 9, 3) := by decide +kernel
theorem dX5_init_30 : decode cX5_init 30 = .ok (.dup, 1) := by decide +kernel
theorem dX5_init_31 : decode cX5_init 31 = .ok (.invokespecial 11, 3) := by decide +kernel
theorem dX5_init_34 : decode cX5_init 34 = .ok (.putfield 21, 3) := by decide +kernel
theorem dX5_init_37 : decode cX5_init 37 = .ok (.aload_n 0, 1) := by decide +kernel
theorem dX5_init_38 : decode cX5_init 38 = .ok (.new 9, 3) := by decide +kernel
theorem dX5_init_41 : decode cX5_init 41 = .ok (.dup, 1) := by decide +kernel
theorem dX5_init_42 : decode cX5_init 42 = .ok (.invokespecial 11, 3) := by decide +kernel
theorem dX5_init_45 : decode cX5_init 45 = .ok (.putfield 24, 3) := by decide +kernel
theorem dX5_init_48 : decode cX5_init 48 = .ok (.aload_n 0, 1) := by decide +kernel
theorem dX5_init_49 : decode cX5_init 49 = .ok (.iconst 0, 1) := by decide +kernel
theorem dX5_init_50 : decode cX5_init 50 = .ok (.putfield 27, 3) := by decide +kernel
theorem dX5_init_53 : decode cX5_init 53 = .ok (.return_, 1) := by decide +kernel
theorem dX5_forecastOf_0 : decode cX5_forecastOf 0 = .ok (.aload_n 0, 1) := by decide +kernel
theorem dX5_forecastOf_1 : decode cX5_forecastOf 1 = .ok (.iload_n 2, 1) := by decide +kernel
theorem dX5_forecastOf_2 : decode cX5_forecastOf 2 = .ok (.invokevirtual 31, 3) := by decide +kernel
theorem dX5_forecastOf_5 : decode cX5_forecastOf 5 = .ok (.iload_n 2, 1) := by decide +kernel
theorem dX5_forecastOf_6 : decode cX5_forecastOf 6 = .ok (.istore_n 3, 1) := by decide +kernel
theorem dX5_forecastOf_7 : decode cX5_forecastOf 7 = .ok (.iconst 0, 1) := by decide +kernel
theorem dX5_forecastOf_8 : decode cX5_forecastOf 8 = .ok (.istore 4, 2) := by decide +kernel
theorem dX5_forecastOf_10 : decode cX5_forecastOf 10 = .ok (.iload 4, 2) := by decide +kernel
theorem dX5_forecastOf_12 : decode cX5_forecastOf 12 = .ok (.aload_n 1, 1) := by decide +kernel
theorem dX5_forecastOf_13 : decode cX5_forecastOf 13 = .ok (.invokeinterface 35 1, 5) := by decide +kernel
theorem dX5_forecastOf_18 : decode cX5_forecastOf 18 = .ok (.if_icmp .ge 41, 3) := by decide +kernel
theorem dX5_forecastOf_21 : decode cX5_forecastOf 21 = .ok (.aload_n 0, 1) := by decide +kernel
theorem dX5_forecastOf_22 : decode cX5_forecastOf 22 = .ok (.invokevirtual 41, 3) := by decide +kernel
theorem dX5_forecastOf_25 : decode cX5_forecastOf 25 = .ok (.astore 5, 2) := by decide +kernel
theorem dX5_forecastOf_27 : decode cX5_forecastOf 27 = .ok (.aload 5, 2) := by decide +kernel
theorem dX5_forecastOf_29 : decode cX5_forecastOf 29 = .ok (.ifnull 24, 3) := by decide +kernel
theorem dX5_forecastOf_32 : decode cX5_forecastOf 32 = .ok (.iload_n 3, 1) := by decide +kernel
theorem dX5_forecastOf_33 : decode cX5_forecastOf 33 = .ok (.aload 5, 2) := by decide +kernel
theorem dX5_forecastOf_35 : decode cX5_forecastOf 35 = .ok (.aload_n 1, 1) := by decide +kernel
theorem dX5_forecastOf_36 : decode cX5_forecastOf 36 = .ok (.iload 4, 2) := by decide +kernel
theorem dX5_forecastOf_38 : decode cX5_forecastOf 38 = .ok (.invokeinterface 45 2, 5) := by decide +kernel
theorem dX5_forecastOf_43 : decode cX5_forecastOf 43 = .ok (.checkcast 49, 3) := by decide +kernel
theorem dX5_forecastOf_46 : decode cX5_forecastOf 46 = .ok (.invokevirtual 51, 3) := by decide +kernel
theorem dX5_forecastOf_49 : decode cX5_forecastOf 49 = .ok (.invokestatic 57, 3) := by decide +kernel
theorem dX5_forecastOf_52 : decode cX5_forecastOf 52 = .ok (.istore_n 3, 1) := by decide +kernel
theorem dX5_forecastOf_53 : decode cX5_forecastOf 53 = .ok (.iinc 4 1, 3) := by decide +kernel
theorem dX5_forecastOf_56 : decode cX5_forecastOf 56 = .ok (.goto (-46), 3) := by decide +kernel
theorem dX5_forecastOf_59 : decode cX5_forecastOf 59 = .ok (.iload_n 3, 1) := by decide +kernel
theorem dX5_forecastOf_60 : decode cX5_forecastOf 60 = .ok (.ireturn, 1) := by decide +kernel
theorem dX5_findBest_0 : decode cX5_findBest 0 = .ok (.aload_n 0, 1) := by decide +kernel
theorem dX5_findBest_1 : decode cX5_findBest 1 = .ok (.aload_n 0, 1) := by decide +kernel
theorem dX5_findBest_2 : decode cX5_findBest 2 = .ok (.aload_n 1, 1) := by decide +kernel
theorem dX5_findBest_3 : decode cX5_findBest 3 = .ok (.iload_n 2, 1) := by decide +kernel
theorem dX5_findBest_4 : decode cX5_findBest 4 = .ok (.invokevirtual 63, 3) := by decide +kernel
theorem dX5_findBest_7 : decode cX5_findBest 7 = .ok (.iconst 1, 1) := by decide +kernel
theorem dX5_findBest_8 : decode cX5_findBest 8 = .ok (.iadd, 1) := by decide +kernel
theorem dX5_findBest_9 : decode cX5_findBest 9 = .ok (.putfield 27, 3) := by decide +kernel
theorem dX5_findBest_12 : decode cX5_findBest 12 = .ok (.aload_n 0, 1) := by decide +kernel
theorem dX5_findBest_13 : decode cX5_findBest 13 = .ok (.iload_n 2, 1) := by decide +kernel
theorem dX5_findBest_14 : decode cX5_findBest 14 = .ok (.invokevirtual 31, 3) := by decide +kernel
theorem dX5_findBest_17 : decode cX5_findBest 17 = .ok (.aload_n 1, 1) := by decide +kernel
theorem dX5_findBest_18 : decode cX5_findBest 18 = .ok (.aload_n 0, 1) := by decide +kernel
theorem dX5_findBest_19 : decode cX5_findBest 19 = .ok (.getfield 21, 3) := by decide +kernel
theorem dX5_findBest_22 : decode cX5_findBest 22 = .ok (.invokestatic 67, 3) := by decide +kernel
theorem dX5_findBest_25 : decode cX5_findBest 25 = .ok (.aload_n 0, 1) := by decide +kernel
theorem dX5_findBest_26 : decode cX5_findBest 26 = .ok (.getfield 24, 3) := by decide +kernel
theorem dX5_findBest_29 : decode cX5_findBest 29 = .ok (.invokeinterface 71 1, 5) := by decide +kernel
theorem dX5_findBest_34 : decode cX5_findBest 34 = .ok (.aload_n 0, 1) := by decide +kernel
theorem dX5_findBest_35 : decode cX5_findBest 35 = .ok (.iconst 0, 1) := by decide +kernel
theorem dX5_findBest_36 : decode cX5_findBest 36 = .ok (.iload_n 2, 1) := by decide +kernel
theorem dX5_findBest_37 : decode cX5_findBest 37 = .ok (.invokestatic 74, 3) := by decide +kernel
theorem dX5_findBest_40 : decode cX5_findBest 40 = .ok (.aload_n 0, 1) := by decide +kernel
theorem dX5_findBest_41 : decode cX5_findBest 41 = .ok (.getfield 27, 3) := by decide +kernel
theorem dX5_findBest_44 : decode cX5_findBest 44 = .ok (.ireturn, 1) := by decide +kernel
theorem dX5_tryAll_0 : decode cX5_tryAll 0 = .ok (.aload_n 1, 1) := by decide +kernel
theorem dX5_tryAll_1 : decode cX5_tryAll 1 = .ok (.aload_n 0, 1) := by decide +kernel
theorem dX5_tryAll_2 : decode cX5_tryAll 2 = .ok (.getfield 24, 3) := by decide +kernel
theorem dX5_tryAll_5 : decode cX5_tryAll 5 = .ok (.invokestatic 67, 3) := by decide +kernel
theorem dX5_tryAll_8 : decode cX5_tryAll 8 = .ok (.aload_n 0, 1) := by decide +kernel
theorem dX5_tryAll_9 : decode cX5_tryAll 9 = .ok (.aload_n 0, 1) := by decide +kernel
theorem dX5_tryAll_10 : decode cX5_tryAll 10 = .ok (.getfield 24, 3) := by decide +kernel
theorem dX5_tryAll_13 : decode cX5_tryAll 13 = .ok (.iload_n 2, 1) := by decide +kernel
theorem dX5_tryAll_14 : decode cX5_tryAll 14 = .ok (.invokevirtual 63, 3) := by decide +kernel
theorem dX5_tryAll_17 : decode cX5_tryAll 17 = .ok (.istore_n 3, 1) := by decide +kernel
theorem dX5_tryAll_18 : decode cX5_tryAll 18 = .ok (.iconst 1, 1) := by decide +kernel
theorem dX5_tryAll_19 : decode cX5_tryAll 19 = .ok (.istore 4, 2) := by decide +kernel
theorem dX5_tryAll_21 : decode cX5_tryAll 21 = .ok (.iload 4, 2) := by decide +kernel
theorem dX5_tryAll_23 : decode cX5_tryAll 23 = .ok (.sipush 720, 3) := by decide +kernel
theorem dX5_tryAll_26 : decode cX5_tryAll 26 = .ok (.if_icmp .ge 33, 3) := by decide +kernel
theorem dX5_tryAll_29 : decode cX5_tryAll 29 = .ok (.aload_n 0, 1) := by decide +kernel
theorem dX5_tryAll_30 : decode cX5_tryAll 30 = .ok (.getfield 24, 3) := by decide +kernel
theorem dX5_tryAll_33 : decode cX5_tryAll 33 = .ok (.invokestatic 78, 3) := by decide +kernel
theorem dX5_tryAll_36 : decode cX5_tryAll 36 = .ok (.ifCond .eq 23, 3) := by decide +kernel
theorem dX5_tryAll_39 : decode cX5_tryAll 39 = .ok (.iload_n 3, 1) := by decide +kernel
theorem dX5_tryAll_40 : decode cX5_tryAll 40 = .ok (.aload_n 0, 1) := by decide +kernel
theorem dX5_tryAll_41 : decode cX5_tryAll 41 = .ok (.aload_n 0, 1) := by decide +kernel
theorem dX5_tryAll_42 : decode cX5_tryAll 42 = .ok (.getfield 24, 3) := by decide +kernel
theorem dX5_tryAll_45 : decode cX5_tryAll 45 = .ok (.iload_n 2, 1) := by decide +kernel
theorem dX5_tryAll_46 : decode cX5_tryAll 46 = .ok (.invokevirtual 63, 3) := by decide +kernel
theorem dX5_tryAll_49 : decode cX5_tryAll 49 = .ok (.invokestatic 82, 3) := by decide +kernel
theorem dX5_tryAll_52 : decode cX5_tryAll 52 = .ok (.istore_n 3, 1) := by decide +kernel
theorem dX5_tryAll_53 : decode cX5_tryAll 53 = .ok (.iinc 4 1, 3) := by decide +kernel
theorem dX5_tryAll_56 : decode cX5_tryAll 56 = .ok (.goto (-35), 3) := by decide +kernel
theorem dX5_tryAll_59 : decode cX5_tryAll 59 = .ok (.iload_n 3, 1) := by decide +kernel
theorem dX5_tryAll_60 : decode cX5_tryAll 60 = .ok (.ireturn, 1) := by decide +kernel
theorem dX5_resetSlots_0 : decode cX5_resetSlots 0 = .ok (.iconst 0, 1) := by decide +kernel
theorem dX5_resetSlots_1 : decode cX5_resetSlots 1 = .ok (.istore_n 2, 1) := by decide +kernel
theorem dX5_resetSlots_2 : decode cX5_resetSlots 2 = .ok (.iload_n 2, 1) := by decide +kernel
theorem dX5_resetSlots_3 : decode cX5_resetSlots 3 = .ok (.aload_n 0, 1) := by decide +kernel
theorem dX5_resetSlots_4 : decode cX5_resetSlots 4 = .ok (.getfield 12, 3) := by decide +kernel
theorem dX5_resetSlots_7 : decode cX5_resetSlots 7 = .ok (.invokeinterface 35 1, 5) := by decide +kernel
theorem dX5_resetSlots_12 : decode cX5_resetSlots 12 = .ok (.if_icmp .ge 26, 3) := by decide +kernel
theorem dX5_resetSlots_15 : decode cX5_resetSlots 15 = .ok (.aload_n 0, 1) := by decide +kernel
theorem dX5_resetSlots_16 : decode cX5_resetSlots 16 = .ok (.getfield 12, 3) := by decide +kernel
theorem dX5_resetSlots_19 : decode cX5_resetSlots 19 = .ok (.iload_n 2, 1) := by decide +kernel
theorem dX5_resetSlots_20 : decode cX5_resetSlots 20 = .ok (.invokeinterface 45 2, 5) := by decide +kernel
theorem dX5_resetSlots_25 : decode cX5_resetSlots 25 = .ok (.checkcast 52, 3) := by decide +kernel
theorem dX5_resetSlots_28 : decode cX5_resetSlots 28 = .ok (.iload_n 1, 1) := by decide +kernel
theorem dX5_resetSlots_29 : decode cX5_resetSlots 29 = .ok (.invokevirtual 85, 3) := by decide +kernel
theorem dX5_resetSlots_32 : decode cX5_resetSlots 32 = .ok (.iinc 2 1, 3) := by decide +kernel
theorem dX5_resetSlots_35 : decode cX5_resetSlots 35 = .ok (.goto (-33), 3) := by decide +kernel
theorem dX5_resetSlots_38 : decode cX5_resetSlots 38 = .ok (.return_, 1) := by decide +kernel
theorem dX5_firstFree_0 : decode cX5_firstFree 0 = .ok (.aconst_null, 1) := by decide +kernel
theorem dX5_firstFree_1 : decode cX5_firstFree 1 = .ok (.astore_n 1, 1) := by decide +kernel
theorem dX5_firstFree_2 : decode cX5_firstFree 2 = .ok (.iconst 0, 1) := by decide +kernel
theorem dX5_firstFree_3 : decode cX5_firstFree 3 = .ok (.istore_n 2, 1) := by decide +kernel
theorem dX5_firstFree_4 : decode cX5_firstFree 4 = .ok (.iload_n 2, 1) := by decide +kernel
theorem dX5_firstFree_5 : decode cX5_firstFree 5 = .ok (.aload_n 0, 1) := by decide +kernel
theorem dX5_firstFree_6 : decode cX5_firstFree 6 = .ok (.getfield 12, 3) := by decide +kernel
theorem dX5_firstFree_9 : decode cX5_firstFree 9 = .ok (.invokeinterface 35 1, 5) := by decide +kernel
theorem dX5_firstFree_14 : decode cX5_firstFree 14 = .ok (.if_icmp .ge 40, 3) := by decide +kernel
theorem dX5_firstFree_17 : decode cX5_firstFree 17 = .ok (.aload_n 0, 1) := by decide +kernel
theorem dX5_firstFree_18 : decode cX5_firstFree 18 = .ok (.getfield 12, 3) := by decide +kernel
theorem dX5_firstFree_21 : decode cX5_firstFree 21 = .ok (.iload_n 2, 1) := by decide +kernel
theorem dX5_firstFree_22 : decode cX5_firstFree 22 = .ok (.invokeinterface 45 2, 5) := by decide +kernel
theorem dX5_firstFree_27 : decode cX5_firstFree 27 = .ok (.checkcast 52, 3) := by decide +kernel
theorem dX5_firstFree_30 : decode cX5_firstFree 30 = .ok (.astore_n 3, 1) := by decide +kernel
theorem dX5_firstFree_31 : decode cX5_firstFree 31 = .ok (.aload_n 1, 1) := by decide +kernel
theorem dX5_firstFree_32 : decode cX5_firstFree 32 = .ok (.ifnull 14, 3) := by decide +kernel
theorem dX5_firstFree_35 : decode cX5_firstFree 35 = .ok (.aload_n 3, 1) := by decide +kernel
theorem dX5_firstFree_36 : decode cX5_firstFree 36 = .ok (.getfield 88, 3) := by decide +kernel
theorem dX5_firstFree_39 : decode cX5_firstFree 39 = .ok (.aload_n 1, 1) := by decide +kernel
theorem dX5_firstFree_40 : decode cX5_firstFree 40 = .ok (.getfield 88, 3) := by decide +kernel
theorem dX5_firstFree_43 : decode cX5_firstFree 43 = .ok (.if_icmp .ge 5, 3) := by decide +kernel
theorem dX5_firstFree_46 : decode cX5_firstFree 46 = .ok (.aload_n 3, 1) := by decide +kernel
theorem dX5_firstFree_47 : decode cX5_firstFree 47 = .ok (.astore_n 1, 1) := by decide +kernel
theorem dX5_firstFree_48 : decode cX5_firstFree 48 = .ok (.iinc 2 1, 3) := by decide +kernel
theorem dX5_firstFree_51 : decode cX5_firstFree 51 = .ok (.goto (-47), 3) := by decide +kernel
theorem dX5_firstFree_54 : decode cX5_firstFree 54 = .ok (.aload_n 1, 1) := by decide +kernel
theorem dX5_firstFree_55 : decode cX5_firstFree 55 = .ok (.areturn, 1) := by decide +kernel
theorem dX5_search_0 : decode cX5_search 0 = .ok (.iload_n 2, 1) := by decide +kernel
theorem dX5_search_1 : decode cX5_search 1 = .ok (.aload_n 0, 1) := by decide +kernel
theorem dX5_search_2 : decode cX5_search 2 = .ok (.getfield 27, 3) := by decide +kernel
theorem dX5_search_5 : decode cX5_search 5 = .ok (.if_icmp .ge 9, 3) := by decide +kernel
theorem dX5_search_8 : decode cX5_search 8 = .ok (.iload_n 1, 1) := by decide +kernel
theorem dX5_search_9 : decode cX5_search 9 = .ok (.bipush 6, 2) := by decide +kernel
theorem dX5_search_11 : decode cX5_search 11 = .ok (.if_icmp .le 4, 3) := by decide +kernel
theorem dX5_search_14 : decode cX5_search 14 = .ok (.return_, 1) := by decide +kernel
theorem dX5_search_15 : decode cX5_search 15 = .ok (.aload_n 0, 1) := by decide +kernel
theorem dX5_search_16 : decode cX5_search 16 = .ok (.getfield 21, 3) := by decide +kernel
theorem dX5_search_19 : decode cX5_search 19 = .ok (.invokeinterface 91 1, 5) := by decide +kernel
theorem dX5_search_24 : decode cX5_search 24 = .ok (.ifCond .eq 20, 3) := by decide +kernel
theorem dX5_search_27 : decode cX5_search 27 = .ok (.aload_n 0, 1) := by decide +kernel
theorem dX5_search_28 : decode cX5_search 28 = .ok (.iload_n 2, 1) := by decide +kernel
theorem dX5_search_29 : decode cX5_search 29 = .ok (.putfield 27, 3) := by decide +kernel
theorem dX5_search_32 : decode cX5_search 32 = .ok (.aload_n 0, 1) := by decide +kernel
theorem dX5_search_33 : decode cX5_search 33 = .ok (.getfield 24, 3) := by decide +kernel
theorem dX5_search_36 : decode cX5_search 36 = .ok (.aload_n 0, 1) := by decide +kernel
theorem dX5_search_37 : decode cX5_search 37 = .ok (.getfield 18, 3) := by decide +kernel
theorem dX5_search_40 : decode cX5_search 40 = .ok (.invokestatic 95, 3) := by decide +kernel
theorem dX5_search_43 : decode cX5_search 43 = .ok (.return_, 1) := by decide +kernel
theorem dX5_search_44 : decode cX5_search 44 = .ok (.aload_n 0, 1) := by decide +kernel
theorem dX5_search_45 : decode cX5_search 45 = .ok (.invokevirtual 41, 3) := by decide +kernel
theorem dX5_search_48 : decode cX5_search 48 = .ok (.astore_n 3, 1) := by decide +kernel
theorem dX5_search_49 : decode cX5_search 49 = .ok (.aload_n 3, 1) := by decide +kernel
theorem dX5_search_50 : decode cX5_search 50 = .ok (.ifnonnull 4, 3) := by decide +kernel
theorem dX5_search_53 : decode cX5_search 53 = .ok (.return_, 1) := by decide +kernel
theorem dX5_search_54 : decode cX5_search 54 = .ok (.aload_n 3, 1) := by decide +kernel
theorem dX5_search_55 : decode cX5_search 55 = .ok (.getfield 88, 3) := by decide +kernel
theorem dX5_search_58 : decode cX5_search 58 = .ok (.istore 4, 2) := by decide +kernel
theorem dX5_search_60 : decode cX5_search 60 = .ok (.aload_n 3, 1) := by decide +kernel
theorem dX5_search_61 : decode cX5_search 61 = .ok (.getfield 98, 3) := by decide +kernel
theorem dX5_search_64 : decode cX5_search 64 = .ok (.istore 5, 2) := by decide +kernel
theorem dX5_search_66 : decode cX5_search 66 = .ok (.iconst 0, 1) := by decide +kernel
theorem dX5_search_67 : decode cX5_search 67 = .ok (.istore 6, 2) := by decide +kernel
theorem dX5_search_69 : decode cX5_search 69 = .ok (.iload 6, 2) := by decide +kernel
theorem dX5_search_71 : decode cX5_search 71 = .ok (.bipush 6, 2) := by decide +kernel
theorem dX5_search_73 : decode cX5_search 73 = .ok (.if_icmp .ge 120, 3) := by decide +kernel
theorem dX5_search_76 : decode cX5_search 76 = .ok (.iload 6, 2) := by decide +kernel
theorem dX5_search_78 : decode cX5_search 78 = .ok (.aload_n 0, 1) := by decide +kernel
theorem dX5_search_79 : decode cX5_search 79 = .ok (.getfield 21, 3) := by decide +kernel
theorem dX5_search_82 : decode cX5_search 82 = .ok (.invokeinterface 35 1, 5) := by decide +kernel
theorem dX5_search_87 : decode cX5_search 87 = .ok (.if_icmp .ge 106, 3) := by decide +kernel
theorem dX5_search_90 : decode cX5_search 90 = .ok (.iload 6, 2) := by decide +kernel
theorem dX5_search_92 : decode cX5_search 92 = .ok (.ifCond .eq 30, 3) := by decide +kernel
theorem dX5_search_95 : decode cX5_search 95 = .ok (.aload_n 0, 1) := by decide +kernel
theorem dX5_search_96 : decode cX5_search 96 = .ok (.getfield 21, 3) := by decide +kernel
theorem dX5_search_99 : decode cX5_search 99 = .ok (.iload 6, 2) := by decide +kernel
theorem dX5_search_101 : decode cX5_search 101 = .ok (.invokeinterface 45 2, 5) := by decide +kernel
theorem dX5_search_106 : decode cX5_search 106 = .ok (.aload_n 0, 1) := by decide +kernel
theorem dX5_search_107 : decode cX5_search 107 = .ok (.getfield 21, 3) := by decide +kernel
theorem dX5_search_110 : decode cX5_search 110 = .ok (.iload 6, 2) := by decide +kernel
theorem dX5_search_112 : decode cX5_search 112 = .ok (.iconst 1, 1) := by decide +kernel
theorem dX5_search_113 : decode cX5_search 113 = .ok (.isub, 1) := by decide +kernel
theorem dX5_search_114 : decode cX5_search 114 = .ok (.invokeinterface 45 2, 5) := by decide +kernel
theorem dX5_search_119 : decode cX5_search 119 = .ok (.if_acmp .eq 68, 3) := by decide +kernel
theorem dX5_search_122 : decode cX5_search 122 = .ok (.aload_n 0, 1) := by decide +kernel
theorem dX5_search_123 : decode cX5_search 123 = .ok (.getfield 21, 3) := by decide +kernel
theorem dX5_search_126 : decode cX5_search 126 = .ok (.iload 6, 2) := by decide +kernel
theorem dX5_search_128 : decode cX5_search 128 = .ok (.invokeinterface 101 2, 5) := by decide +kernel
theorem dX5_search_133 : decode cX5_search 133 = .ok (.checkcast 49, 3) := by decide +kernel
theorem dX5_search_136 : decode cX5_search 136 = .ok (.astore 7, 2) := by decide +kernel
theorem dX5_search_138 : decode cX5_search 138 = .ok (.aload_n 0, 1) := by decide +kernel
theorem dX5_search_139 : decode cX5_search 139 = .ok (.getfield 24, 3) := by decide +kernel
theorem dX5_search_142 : decode cX5_search 142 = .ok (.aload 7, 2) := by decide +kernel
theorem dX5_search_144 : decode cX5_search 144 = .ok (.invokeinterface 104 2, 5) := by decide +kernel
theorem dX5_search_149 : decode cX5_search 149 = .ok (.pop, 1) := by decide +kernel
theorem dX5_search_150 : decode cX5_search 150 = .ok (.aload_n 0, 1) := by decide +kernel
theorem dX5_search_151 : decode cX5_search 151 = .ok (.iload_n 1, 1) := by decide +kernel
theorem dX5_search_152 : decode cX5_search 152 = .ok (.iconst 1, 1) := by decide +kernel
theorem dX5_search_153 : decode cX5_search 153 = .ok (.iadd, 1) := by decide +kernel
theorem dX5_search_154 : decode cX5_search 154 = .ok (.iload_n 2, 1) := by decide +kernel
theorem dX5_search_155 : decode cX5_search 155 = .ok (.aload_n 3, 1) := by decide +kernel
theorem dX5_search_156 : decode cX5_search 156 = .ok (.aload 7, 2) := by decide +kernel
theorem dX5_search_158 : decode cX5_search 158 = .ok (.invokevirtual 51, 3) := by decide +kernel
theorem dX5_search_161 : decode cX5_search 161 = .ok (.invokestatic 57, 3) := by decide +kernel
theorem dX5_search_164 : decode cX5_search 164 = .ok (.invokestatic 74, 3) := by decide +kernel
theorem dX5_search_167 : decode cX5_search 167 = .ok (.aload_n 0, 1) := by decide +kernel
theorem dX5_search_168 : decode cX5_search 168 = .ok (.iload 6, 2) := by decide +kernel
theorem dX5_search_170 : decode cX5_search 170 = .ok (.aload 7, 2) := by decide +kernel
theorem dX5_search_172 : decode cX5_search 172 = .ok (.invokevirtual 108, 3) := by decide +kernel
theorem dX5_search_175 : decode cX5_search 175 = .ok (.aload_n 3, 1) := by decide +kernel
theorem dX5_search_176 : decode cX5_search 176 = .ok (.iload 4, 2) := by decide +kernel
theorem dX5_search_178 : decode cX5_search 178 = .ok (.putfield 88, 3) := by decide +kernel
theorem dX5_search_181 : decode cX5_search 181 = .ok (.aload_n 3, 1) := by decide +kernel
theorem dX5_search_182 : decode cX5_search 182 = .ok (.iload 5, 2) := by decide +kernel
theorem dX5_search_184 : decode cX5_search 184 = .ok (.putfield 98, 3) := by decide +kernel
theorem dX5_search_187 : decode cX5_search 187 = .ok (.iinc 6 1, 3) := by decide +kernel
theorem dX5_search_190 : decode cX5_search 190 = .ok (.goto (-121), 3) := by decide +kernel
theorem dX5_search_193 : decode cX5_search 193 = .ok (.return_, 1) := by decide +kernel
theorem dX5_undoLast_0 : decode cX5_undoLast 0 = .ok (.aload_n 0, 1) := by decide +kernel
theorem dX5_undoLast_1 : decode cX5_undoLast 1 = .ok (.getfield 24, 3) := by decide +kernel
theorem dX5_undoLast_4 : decode cX5_undoLast 4 = .ok (.invokeinterface 91 1, 5) := by decide +kernel
theorem dX5_undoLast_9 : decode cX5_undoLast 9 = .ok (.ifCond .ne 24, 3) := by decide +kernel
theorem dX5_undoLast_12 : decode cX5_undoLast 12 = .ok (.aload_n 0, 1) := by decide +kernel
theorem dX5_undoLast_13 : decode cX5_undoLast 13 = .ok (.getfield 24, 3) := by decide +kernel
theorem dX5_undoLast_16 : decode cX5_undoLast 16 = .ok (.aload_n 0, 1) := by decide +kernel
theorem dX5_undoLast_17 : decode cX5_undoLast 17 = .ok (.getfield 24, 3) := by decide +kernel
theorem dX5_undoLast_20 : decode cX5_undoLast 20 = .ok (.invokeinterface 35 1, 5) := by decide +kernel
theorem dX5_undoLast_25 : decode cX5_undoLast 25 = .ok (.iconst 1, 1) := by decide +kernel
theorem dX5_undoLast_26 : decode cX5_undoLast 26 = .ok (.isub, 1) := by decide +kernel
theorem dX5_undoLast_27 : decode cX5_undoLast 27 = .ok (.invokeinterface 101 2, 5) := by decide +kernel
theorem dX5_undoLast_32 : decode cX5_undoLast 32 = .ok (.pop, 1) := by decide +kernel
theorem dX5_undoLast_33 : decode cX5_undoLast 33 = .ok (.iload_n 1, 1) := by decide +kernel
theorem dX5_undoLast_34 : decode cX5_undoLast 34 = .ok (.ifCond .lt 27, 3) := by decide +kernel
theorem dX5_undoLast_37 : decode cX5_undoLast 37 = .ok (.iload_n 1, 1) := by decide +kernel
theorem dX5_undoLast_38 : decode cX5_undoLast 38 = .ok (.aload_n 0, 1) := by decide +kernel
theorem dX5_undoLast_39 : decode cX5_undoLast 39 = .ok (.getfield 21, 3) := by decide +kernel
theorem dX5_undoLast_42 : decode cX5_undoLast 42 = .ok (.invokeinterface 35 1, 5) := by decide +kernel
theorem dX5_undoLast_47 : decode cX5_undoLast 47 = .ok (.if_icmp .gt 14, 3) := by decide +kernel
theorem dX5_undoLast_50 : decode cX5_undoLast 50 = .ok (.aload_n 0, 1) := by decide +kernel
theorem dX5_undoLast_51 : decode cX5_undoLast 51 = .ok (.getfield 21, 3) := by decide +kernel
theorem dX5_undoLast_54 : decode cX5_undoLast 54 = .ok (.iload_n 1, 1) := by decide +kernel
theorem dX5_undoLast_55 : decode cX5_undoLast 55 = .ok (.aload_n 2, 1) := by decide +kernel
theorem dX5_undoLast_56 : decode cX5_undoLast 56 = .ok (.invokeinterface 112 3, 5) := by decide +kernel
theorem dX5_undoLast_61 : decode cX5_undoLast 61 = .ok (.return_, 1) := by decide +kernel
theorem dX5_copySorted_0 : decode cX5_copySorted 0 = .ok (.aload_n 1, 1) := by decide +kernel
theorem dX5_copySorted_1 : decode cX5_copySorted 1 = .ok (.invokeinterface 71 1, 5) := by decide +kernel
theorem dX5_copySorted_6 : decode cX5_copySorted 6 = .ok (.iconst 0, 1) := by decide +kernel
theorem dX5_copySorted_7 : decode cX5_copySorted 7 = .ok (.istore_n 2, 1) := by decide +kernel
theorem dX5_copySorted_8 : decode cX5_copySorted 8 = .ok (.iload_n 2, 1) := by decide +kernel
theorem dX5_copySorted_9 : decode cX5_copySorted 9 = .ok (.aload_n 0, 1) := by decide +kernel
theorem dX5_copySorted_10 : decode cX5_copySorted 10 = .ok (.invokeinterface 35 1, 5) := by decide +kernel
theorem dX5_copySorted_15 : decode cX5_copySorted 15 = .ok (.if_icmp .ge 71, 3) := by decide +kernel
theorem dX5_copySorted_18 : decode cX5_copySorted 18 = .ok (.aload_n 0, 1) := by decide +kernel
theorem dX5_copySorted_19 : decode cX5_copySorted 19 = .ok (.iload_n 2, 1) := by decide +kernel
theorem dX5_copySorted_20 : decode cX5_copySorted 20 = .ok (.invokeinterface 45 2, 5) := by decide +kernel
theorem dX5_copySorted_25 : decode cX5_copySorted 25 = .ok (.checkcast 49, 3) := by decide +kernel
theorem dX5_copySorted_28 : decode cX5_copySorted 28 = .ok (.astore_n 3, 1) := by decide +kernel
theorem dX5_copySorted_29 : decode cX5_copySorted 29 = .ok (.aload_n 1, 1) := by decide +kernel
theorem dX5_copySorted_30 : decode cX5_copySorted 30 = .ok (.invokeinterface 35 1, 5) := by decide +kernel
theorem dX5_copySorted_35 : decode cX5_copySorted 35 = .ok (.istore 4, 2) := by decide +kernel
theorem dX5_copySorted_37 : decode cX5_copySorted 37 = .ok (.iload 4, 2) := by decide +kernel
theorem dX5_copySorted_39 : decode cX5_copySorted 39 = .ok (.ifCond .le 32, 3) := by decide +kernel
theorem dX5_copySorted_42 : decode cX5_copySorted 42 = .ok (.aload_n 1, 1) := by decide +kernel
theorem dX5_copySorted_43 : decode cX5_copySorted 43 = .ok (.iload 4, 2) := by decide +kernel
theorem dX5_copySorted_45 : decode cX5_copySorted 45 = .ok (.iconst 1, 1) := by decide +kernel
theorem dX5_copySorted_46 : decode cX5_copySorted 46 = .ok (.isub, 1) := by decide +kernel
theorem dX5_copySorted_47 : decode cX5_copySorted 47 = .ok (.invokeinterface 45 2, 5) := by decide +kernel
theorem dX5_copySorted_52 : decode cX5_copySorted 52 = .ok (.checkcast 49, 3) := by decide +kernel
theorem dX5_copySorted_55 : decode cX5_copySorted 55 = .ok (.getfield 115, 3) := by decide +kernel
theorem dX5_copySorted_58 : decode cX5_copySorted 58 = .ok (.aload_n 3, 1) := by decide +kernel
theorem dX5_copySorted_59 : decode cX5_copySorted 59 = .ok (.getfield 115, 3) := by decide +kernel
theorem dX5_copySorted_62 : decode cX5_copySorted 62 = .ok (.if_icmp .le 9, 3) := by decide +kernel
theorem dX5_copySorted_65 : decode cX5_copySorted 65 = .ok (.iinc 4 (-1), 3) := by decide +kernel
theorem dX5_copySorted_68 : decode cX5_copySorted 68 = .ok (.goto (-31), 3) := by decide +kernel
theorem dX5_copySorted_71 : decode cX5_copySorted 71 = .ok (.aload_n 1, 1) := by decide +kernel
theorem dX5_copySorted_72 : decode cX5_copySorted 72 = .ok (.iload 4, 2) := by decide +kernel
theorem dX5_copySorted_74 : decode cX5_copySorted 74 = .ok (.aload_n 3, 1) := by decide +kernel
theorem dX5_copySorted_75 : decode cX5_copySorted 75 = .ok (.invokeinterface 112 3, 5) := by decide +kernel
theorem dX5_copySorted_80 : decode cX5_copySorted 80 = .ok (.iinc 2 1, 3) := by decide +kernel
theorem dX5_copySorted_83 : decode cX5_copySorted 83 = .ok (.goto (-75), 3) := by decide +kernel
theorem dX5_copySorted_86 : decode cX5_copySorted 86 = .ok (.return_, 1) := by decide +kernel
theorem dX5_goToNextOrder_0 : decode cX5_goToNextOrder 0 = .ok (.aload_n 0, 1) := by decide +kernel
theorem dX5_goToNextOrder_1 : decode cX5_goToNextOrder 1 = .ok (.invokeinterface 35 1, 5) := by decide +kernel
theorem dX5_goToNextOrder_6 : decode cX5_goToNextOrder 6 = .ok (.iconst 2, 1) := by decide +kernel
theorem dX5_goToNextOrder_7 : decode cX5_goToNextOrder 7 = .ok (.isub, 1) := by decide +kernel
theorem dX5_goToNextOrder_8 : decode cX5_goToNextOrder 8 = .ok (.istore_n 1, 1) := by decide +kernel
theorem dX5_goToNextOrder_9 : decode cX5_goToNextOrder 9 = .ok (.iload_n 1, 1) := by decide +kernel
theorem dX5_goToNextOrder_10 : decode cX5_goToNextOrder 10 = .ok (.ifCond .lt 40, 3) := by decide +kernel
theorem dX5_goToNextOrder_13 : decode cX5_goToNextOrder 13 = .ok (.aload_n 0, 1) := by decide +kernel
theorem dX5_goToNextOrder_14 : decode cX5_goToNextOrder 14 = .ok (.iload_n 1, 1) := by decide +kernel
theorem dX5_goToNextOrder_15 : decode cX5_goToNextOrder 15 = .ok (.invokeinterface 45 2, 5) := by decide +kernel
theorem dX5_goToNextOrder_20 : decode cX5_goToNextOrder 20 = .ok (.checkcast 49, 3) := by decide +kernel
theorem dX5_goToNextOrder_23 : decode cX5_goToNextOrder 23 = .ok (.getfield 115, 3) := by decide +kernel
theorem dX5_goToNextOrder_26 : decode cX5_goToNextOrder 26 = .ok (.aload_n 0, 1) := by decide +kernel
theorem dX5_goToNextOrder_27 : decode cX5_goToNextOrder 27 = .ok (.iload_n 1, 1) := by decide +kernel
theorem dX5_goToNextOrder_28 : decode cX5_goToNextOrder 28 = .ok (.iconst 1, 1) := by decide +kernel
theorem dX5_goToNextOrder_29 : decode cX5_goToNextOrder 29 = .ok (.iadd, 1) := by decide +kernel
theorem dX5_goToNextOrder_30 : decode cX5_goToNextOrder 30 = .ok (.invokeinterface 45 2, 5) := by decide +kernel
theorem dX5_goToNextOrder_35 : decode cX5_goToNextOrder 35 = .ok (.checkcast 49, 3) := by decide +kernel
theorem dX5_goToNextOrder_38 : decode cX5_goToNextOrder 38 = .ok (.getfield 115, 3) := by decide +kernel
theorem dX5_goToNextOrder_41 : decode cX5_goToNextOrder 41 = .ok (.if_icmp .lt 9, 3) := by decide +kernel
theorem dX5_goToNextOrder_44 : decode cX5_goToNextOrder 44 = .ok (.iinc 1 (-1), 3) := by decide +kernel
theorem dX5_goToNextOrder_47 : decode cX5_goToNextOrder 47 = .ok (.goto (-38), 3) := by decide +kernel
theorem dX5_goToNextOrder_50 : decode cX5_goToNextOrder 50 = .ok (.iload_n 1, 1) := by decide +kernel
theorem dX5_goToNextOrder_51 : decode cX5_goToNextOrder 51 = .ok (.ifCond .ge 5, 3) := by decide +kernel
theorem dX5_goToNextOrder_54 : decode cX5_goToNextOrder 54 = .ok (.iconst 0, 1) := by decide +kernel
theorem dX5_goToNextOrder_55 : decode cX5_goToNextOrder 55 = .ok (.ireturn, 1) := by decide +kernel
theorem dX5_goToNextOrder_56 : decode cX5_goToNextOrder 56 = .ok (.aload_n 0, 1) := by decide +kernel
theorem dX5_goToNextOrder_57 : decode cX5_goToNextOrder 57 = .ok (.invokeinterface 35 1, 5) := by decide +kernel
theorem dX5_goToNextOrder_62 : decode cX5_goToNextOrder 62 = .ok (.iconst 1, 1) := by decide +kernel
theorem dX5_goToNextOrder_63 : decode cX5_goToNextOrder 63 = .ok (.isub, 1) := by decide +kernel
theorem dX5_goToNextOrder_64 : decode cX5_goToNextOrder 64 = .ok (.istore_n 2, 1) := by decide +kernel
theorem dX5_goToNextOrder_65 : decode cX5_goToNextOrder 65 = .ok (.iload_n 2, 1) := by decide +kernel
theorem dX5_goToNextOrder_66 : decode cX5_goToNextOrder 66 = .ok (.iload_n 1, 1) := by decide +kernel
theorem dX5_goToNextOrder_67 : decode cX5_goToNextOrder 67 = .ok (.if_icmp .le 38, 3) := by decide +kernel
theorem dX5_goToNextOrder_70 : decode cX5_goToNextOrder 70 = .ok (.aload_n 0, 1) := by decide +kernel
theorem dX5_goToNextOrder_71 : decode cX5_goToNextOrder 71 = .ok (.iload_n 2, 1) := by decide +kernel
theorem dX5_goToNextOrder_72 : decode cX5_goToNextOrder 72 = .ok (.invokeinterface 45 2, 5) := by decide +kernel
theorem dX5_goToNextOrder_77 : decode cX5_goToNextOrder 77 = .ok (.checkcast 49, 3) := by decide +kernel
theorem dX5_goToNextOrder_80 : decode cX5_goToNextOrder 80 = .ok (.getfield 115, 3) := by decide +kernel
theorem dX5_goToNextOrder_83 : decode cX5_goToNextOrder 83 = .ok (.aload_n 0, 1) := by decide +kernel
theorem dX5_goToNextOrder_84 : decode cX5_goToNextOrder 84 = .ok (.iload_n 1, 1) := by decide +kernel
theorem dX5_goToNextOrder_85 : decode cX5_goToNextOrder 85 = .ok (.invokeinterface 45 2, 5) := by decide +kernel
theorem dX5_goToNextOrder_90 : decode cX5_goToNextOrder 90 = .ok (.checkcast 49, 3) := by decide +kernel
theorem dX5_goToNextOrder_93 : decode cX5_goToNextOrder 93 = .ok (.getfield 115, 3) := by decide +kernel
theorem dX5_goToNextOrder_96 : decode cX5_goToNextOrder 96 = .ok (.if_icmp .gt 9, 3) := by decide +kernel
theorem dX5_goToNextOrder_99 : decode cX5_goToNextOrder 99 = .ok (.iinc 2 (-1), 3) := by decide +kernel
theorem dX5_goToNextOrder_102 : decode cX5_goToNextOrder 102 = .ok (.goto (-37), 3) := by decide +kernel
theorem dX5_goToNextOrder_105 : decode cX5_goToNextOrder 105 = .ok (.aload_n 0, 1) := by decide +kernel
theorem dX5_goToNextOrder_106 : decode cX5_goToNextOrder 106 = .ok (.iload_n 1, 1) := by decide +kernel
theorem dX5_goToNextOrder_107 : decode cX5_goToNextOrder 107 = .ok (.iload_n 2, 1) := by decide +kernel
theorem dX5_goToNextOrder_108 : decode cX5_goToNextOrder 108 = .ok (.invokestatic 118, 3) := by decide +kernel
theorem dX5_goToNextOrder_111 : decode cX5_goToNextOrder 111 = .ok (.aload_n 0, 1) := by decide +kernel
theorem dX5_goToNextOrder_112 : decode cX5_goToNextOrder 112 = .ok (.invokeinterface 35 1, 5) := by decide +kernel
theorem dX5_goToNextOrder_117 : decode cX5_goToNextOrder 117 = .ok (.iconst 1, 1) := by decide +kernel
theorem dX5_goToNextOrder_118 : decode cX5_goToNextOrder 118 = .ok (.isub, 1) := by decide +kernel
theorem dX5_goToNextOrder_119 : decode cX5_goToNextOrder 119 = .ok (.istore_n 3, 1) := by decide +kernel
theorem dX5_goToNextOrder_120 : decode cX5_goToNextOrder 120 = .ok (.iload_n 1, 1) := by decide +kernel
theorem dX5_goToNextOrder_121 : decode cX5_goToNextOrder 121 = .ok (.iconst 1, 1) := by decide +kernel
theorem dX5_goToNextOrder_122 : decode cX5_goToNextOrder 122 = .ok (.iadd, 1) := by decide +kernel
theorem dX5_goToNextOrder_123 : decode cX5_goToNextOrder 123 = .ok (.istore 4, 2) := by decide +kernel
theorem dX5_goToNextOrder_125 : decode cX5_goToNextOrder 125 = .ok (.iload 4, 2) := by decide +kernel
theorem dX5_goToNextOrder_127 : decode cX5_goToNextOrder 127 = .ok (.iload_n 3, 1) := by decide +kernel
theorem dX5_goToNextOrder_128 : decode cX5_goToNextOrder 128 = .ok (.if_icmp .ge 19, 3) := by decide +kernel
theorem dX5_goToNextOrder_131 : decode cX5_goToNextOrder 131 = .ok (.aload_n 0, 1) := by decide +kernel
theorem dX5_goToNextOrder_132 : decode cX5_goToNextOrder 132 = .ok (.iload 4, 2) := by decide +kernel
theorem dX5_goToNextOrder_134 : decode cX5_goToNextOrder 134 = .ok (.iload_n 3, 1) := by decide +kernel
theorem dX5_goToNextOrder_135 : decode cX5_goToNextOrder 135 = .ok (.invokestatic 118, 3) := by decide +kernel
theorem dX5_goToNextOrder_138 : decode cX5_goToNextOrder 138 = .ok (.iinc 3 (-1), 3) := by decide +kernel
theorem dX5_goToNextOrder_141 : decode cX5_goToNextOrder 141 = .ok (.iinc 4 1, 3) := by decide +kernel
theorem dX5_goToNextOrder_144 : decode cX5_goToNextOrder 144 = .ok (.goto (-19), 3) := by decide +kernel
theorem dX5_goToNextOrder_147 : decode cX5_goToNextOrder 147 = .ok (.iconst 1, 1) := by decide +kernel
theorem dX5_goToNextOrder_148 : decode cX5_goToNextOrder 148 = .ok (.ireturn, 1) := by decide +kernel
theorem dX5_swap_0 : decode cX5_swap 0 = .ok (.aload_n 0, 1) := by decide +kernel
theorem dX5_swap_1 : decode cX5_swap 1 = .ok (.iload_n 1, 1) := by decide +kernel
theorem dX5_swap_2 : decode cX5_swap 2 = .ok (.invokeinterface 45 2, 5) := by decide +kernel
theorem dX5_swap_7 : decode cX5_swap 7 = .ok (.checkcast 49, 3) := by decide +kernel
theorem dX5_swap_10 : decode cX5_swap 10 = .ok (.astore_n 3, 1) := by decide +kernel
theorem dX5_swap_11 : decode cX5_swap 11 = .ok (.aload_n 0, 1) := by decide +kernel
theorem dX5_swap_12 : decode cX5_swap 12 = .ok (.iload_n 1, 1) := by decide +kernel
theorem dX5_swap_13 : decode cX5_swap 13 = .ok (.aload_n 0, 1) := by decide +kernel
theorem dX5_swap_14 : decode cX5_swap 14 = .ok (.iload_n 2, 1) := by decide +kernel
theorem dX5_swap_15 : decode cX5_swap 15 = .ok (.invokeinterface 45 2, 5) := by decide +kernel
theorem dX5_swap_20 : decode cX5_swap 20 = .ok (.checkcast 49, 3) := by decide +kernel
theorem dX5_swap_23 : decode cX5_swap 23 = .ok (.invokeinterface 122 3, 5) := by decide +kernel
theorem dX5_swap_28 : decode cX5_swap 28 = .ok (.pop, 1) := by decide +kernel
theorem dX5_swap_29 : decode cX5_swap 29 = .ok (.aload_n 0, 1) := by decide +kernel
theorem dX5_swap_30 : decode cX5_swap 30 = .ok (.iload_n 2, 1) := by decide +kernel
theorem dX5_swap_31 : decode cX5_swap 31 = .ok (.aload_n 3, 1) := by decide +kernel
theorem dX5_swap_32 : decode cX5_swap 32 = .ok (.invokeinterface 122 3, 5) := by decide +kernel
theorem dX5_swap_37 : decode cX5_swap 37 = .ok (.pop, 1) := by decide +kernel
theorem dX5_swap_38 : decode cX5_swap 38 = .ok (.return_, 1) := by decide +kernel
theorem dX6_init_0 : decode cX6_init 0 = .ok (.aload_n 0, 1) := by decide +kernel
theorem dX6_init_1 : decode cX6_init 1 = .ok (.invokespecial 3, 3) := by decide +kernel
theorem dX6_init_4 : decode cX6_init 4 = .ok (.aload_n 0, 1) := by decide +kernel
theorem dX6_init_5 : decode cX6_init 5 = .ok (.iload_n 1, 1) := by decide +kernel
theorem dX6_init_6 : decode cX6_init 6 = .ok (.putfield 9, 3) := by decide +kernel
theorem dX6_init_9 : decode cX6_init 9 = .ok (.aload_n 0, 1) := by decide +kernel
theorem dX6_init_10 : decode cX6_init 10 = .ok (.iload_n 2, 1) := by decide +kernel
theorem dX6_init_11 : decode cX6_init 11 = .ok (.putfield 15, 3) := by decide +kernel
theorem dX6_init_14 : decode cX6_init 14 = .ok (.aload_n 0, 1) := by decide +kernel
theorem dX6_init_15 : decode cX6_init 15 = .ok (.aload_n 3, 1) := by decide +kernel
theorem dX6_init_16 : decode cX6_init 16 = .ok (.putfield 18, 3) := by decide +kernel
theorem dX6_init_19 : decode cX6_init 19 = .ok (.aload_n 0, 1) := by decide +kernel
theorem dX6_init_20 : decode cX6_init 20 = .ok (.iload 4, 2) := by decide +kernel
theorem dX6_init_22 : decode cX6_init 22 = .ok (.putfield 22, 3) := by decide +kernel
theorem dX6_init_25 : decode cX6_init 25 = .ok (.aload_n 0, 1) := by decide +kernel
theorem dX6_init_26 : decode cX6_init 26 = .ok (.iload 5, 2) := by decide +kernel
theorem dX6_init_28 : decode cX6_init 28 = .ok (.putfield 25, 3) := by decide +kernel
theorem dX6_init_31 : decode cX6_init 31 = .ok (.return_, 1) := by decide +kernel
theorem dX6_fermentDaysAfter_0 : decode cX6_fermentDaysAfter 0 = .ok (.iload_n 1, 1) := by decide +kernel
theorem dX6_fermentDaysAfter_1 : decode cX6_fermentDaysAfter 1 = .ok (.iconst (-1), 1) := by decide +kernel
theorem dX6_fermentDaysAfter_2 : decode cX6_fermentDaysAfter 2 = .ok (.if_icmp .eq 15, 3) := by decide +kernel
theorem dX6_fermentDaysAfter_5 : decode cX6_fermentDaysAfter 5 = .ok (.iload_n 1, 1) := by decide +kernel
theorem dX6_fermentDaysAfter_6 : decode cX6_fermentDaysAfter 6 = .ok (.aload_n 0, 1) := by decide +kernel
theorem dX6_fermentDaysAfter_7 : decode cX6_fermentDaysAfter 7 = .ok (.getfield 15, 3) := by decide +kernel
theorem dX6_fermentDaysAfter_10 : decode cX6_fermentDaysAfter 10 = .ok (.if_icmp .eq 7, 3) := by decide +kernel
theorem dX6_fermentDaysAfter_13 : decode cX6_fermentDaysAfter 13 = .ok (.iconst 1, 1) := by decide +kernel
theorem dX6_fermentDaysAfter_14 : decode cX6_fermentDaysAfter 14 = .ok (.goto 4, 3) := by decide +kernel
theorem dX6_fermentDaysAfter_17 : decode cX6_fermentDaysAfter 17 = .ok (.iconst 0, 1) := by decide +kernel
theorem dX6_fermentDaysAfter_18 : decode cX6_fermentDaysAfter 18 = .ok (.istore_n 2, 1) := by decide +kernel
theorem dX6_fermentDaysAfter_19 : decode cX6_fermentDaysAfter 19 = .ok (.iload_n 2, 1) := by decide +kernel
theorem dX6_fermentDaysAfter_20 : decode cX6_fermentDaysAfter 20 = .ok (.ifCond .eq 12, 3) := by decide +kernel
theorem dX6_fermentDaysAfter_23 : decode cX6_fermentDaysAfter 23 = .ok (.aload_n 0, 1) := by decide +kernel
theorem dX6_fermentDaysAfter_24 : decode cX6_fermentDaysAfter 24 = .ok (.getfield 22, 3) := by decide +kernel
theorem dX6_fermentDaysAfter_27 : decode cX6_fermentDaysAfter 27 = .ok (.iconst 1, 1) := by decide +kernel
theorem dX6_fermentDaysAfter_28 : decode cX6_fermentDaysAfter 28 = .ok (.iadd, 1) := by decide +kernel
theorem dX6_fermentDaysAfter_29 : decode cX6_fermentDaysAfter 29 = .ok (.goto 7, 3) := by decide +kernel
theorem dX6_fermentDaysAfter_32 : decode cX6_fermentDaysAfter 32 = .ok (.aload_n 0, 1) := by decide +kernel
theorem dX6_fermentDaysAfter_33 : decode cX6_fermentDaysAfter 33 = .ok (.getfield 22, 3) := by decide +kernel
theorem dX6_fermentDaysAfter_36 : decode cX6_fermentDaysAfter 36 = .ok (.ireturn, 1) := by decide +kernel
theorem dX7_init_0 : decode cX7_init 0 = .ok (.aload_n 0, 1) := by decide +kernel
theorem dX7_init_1 : decode cX7_init 1 = .ok (.invokespecial 3, 3) := by decide +kernel
theorem dX7_init_4 : decode cX7_init 4 = .ok (.aload_n 0, 1) := by decide +kernel
theorem dX7_init_5 : decode cX7_init 5 = .ok (.iconst 0, 1) := by decide +kernel
theorem dX7_init_6 : decode cX7_init 6 = .ok (.putfield 9, 3) := by decide +kernel
theorem dX7_init_9 : decode cX7_init 9 = .ok (.aload_n 0, 1) := by decide +kernel
theorem dX7_init_10 : decode cX7_init 10 = .ok (.iconst (-1), 1) := by decide +kernel
theorem dX7_init_11 : decode cX7_init 11 = .ok (.putfield 15, 3) := by decide +kernel
theorem dX7_init_14 : decode cX7_init 14 = .ok (.aload_n 0, 1) := by decide +kernel
theorem dX7_init_15 : decode cX7_init 15 = .ok (.aload_n 1, 1) := by decide +kernel
theorem dX7_init_16 : decode cX7_init 16 = .ok (.putfield 18, 3) := by decide +kernel
theorem dX7_init_19 : decode cX7_init 19 = .ok (.return_, 1) := by decide +kernel
theorem dX7_reset_0 : decode cX7_reset 0 = .ok (.aload_n 0, 1) := by decide +kernel
theorem dX7_reset_1 : decode cX7_reset 1 = .ok (.iload_n 1, 1) := by decide +kernel
theorem dX7_reset_2 : decode cX7_reset 2 = .ok (.aload_n 0, 1) := by decide +kernel
theorem dX7_reset_3 : decode cX7_reset 3 = .ok (.getfield 18, 3) := by decide +kernel
theorem dX7_reset_6 : decode cX7_reset 6 = .ok (.invokevirtual 22, 3) := by decide +kernel
theorem dX7_reset_9 : decode cX7_reset 9 = .ok (.iadd, 1) := by decide +kernel
theorem dX7_reset_10 : decode cX7_reset 10 = .ok (.putfield 9, 3) := by decide +kernel
theorem dX7_reset_13 : decode cX7_reset 13 = .ok (.aload_n 0, 1) := by decide +kernel
theorem dX7_reset_14 : decode cX7_reset 14 = .ok (.aload_n 0, 1) := by decide +kernel
theorem dX7_reset_15 : decode cX7_reset 15 = .ok (.getfield 18, 3) := by decide +kernel
theorem dX7_reset_18 : decode cX7_reset 18 = .ok (.getfield 28, 3) := by decide +kernel
theorem dX7_reset_21 : decode cX7_reset 21 = .ok (.putfield 15, 3) := by decide +kernel
theorem dX7_reset_24 : decode cX7_reset 24 = .ok (.return_, 1) := by decide +kernel
theorem dX7_plan_0 : decode cX7_plan 0 = .ok (.aload_n 0, 1) := by decide +kernel
theorem dX7_plan_1 : decode cX7_plan 1 = .ok (.getfield 9, 3) := by decide +kernel
theorem dX7_plan_4 : decode cX7_plan 4 = .ok (.aload_n 1, 1) := by decide +kernel
theorem dX7_plan_5 : decode cX7_plan 5 = .ok (.aload_n 0, 1) := by decide +kernel
theorem dX7_plan_6 : decode cX7_plan 6 = .ok (.getfield 15, 3) := by decide +kernel
theorem dX7_plan_9 : decode cX7_plan 9 = .ok (.invokevirtual 29, 3) := by decide +kernel
theorem dX7_plan_12 : decode cX7_plan 12 = .ok (.iadd, 1) := by decide +kernel
theorem dX7_plan_13 : decode cX7_plan 13 = .ok (.istore_n 2, 1) := by decide +kernel
theorem dX7_plan_14 : decode cX7_plan 14 = .ok (.aload_n 0, 1) := by decide +kernel
theorem dX7_plan_15 : decode cX7_plan 15 = .ok (.aload_n 1, 1) := by decide +kernel
theorem dX7_plan_16 : decode cX7_plan 16 = .ok (.getfield 35, 3) := by decide +kernel
theorem dX7_plan_19 : decode cX7_plan 19 = .ok (.putfield 15, 3) := by decide +kernel
theorem dX7_plan_22 : decode cX7_plan 22 = .ok (.aload_n 0, 1) := by decide +kernel
theorem dX7_plan_23 : decode cX7_plan 23 = .ok (.iload_n 2, 1) := by decide +kernel
theorem dX7_plan_24 : decode cX7_plan 24 = .ok (.iconst 2, 1) := by decide +kernel
theorem dX7_plan_25 : decode cX7_plan 25 = .ok (.iadd, 1) := by decide +kernel
theorem dX7_plan_26 : decode cX7_plan 26 = .ok (.putfield 9, 3) := by decide +kernel
theorem dX7_plan_29 : decode cX7_plan 29 = .ok (.iload_n 2, 1) := by decide +kernel
theorem dX7_plan_30 : decode cX7_plan 30 = .ok (.ireturn, 1) := by decide +kernel
theorem dX8_init_0 : decode cX8_init 0 = .ok (.aload_n 0, 1) := by decide +kernel
theorem dX8_init_1 : decode cX8_init 1 = .ok (.invokespecial 3, 3) := by decide +kernel
theorem dX8_init_4 : decode cX8_init 4 = .ok (.aload_n 0, 1) := by decide +kernel
theorem dX8_init_5 : decode cX8_init 5 = .ok (.bipush 99, 2) := by decide +kernel
theorem dX8_init_7 : decode cX8_init 7 = .ok (.putfield 9, 3) := by decide +kernel
theorem dX8_init_10 : decode cX8_init 10 = .ok (.aload_n 0, 1) := by decide +kernel
theorem dX8_init_11 : decode cX8_init 11 = .ok (.iconst 0, 1) := by decide +kernel
theorem dX8_init_12 : decode cX8_init 12 = .ok (.putfield 15, 3) := by decide +kernel
theorem dX8_init_15 : decode cX8_init 15 = .ok (.aload_n 0, 1) := by decide +kernel
theorem dX8_init_16 : decode cX8_init 16 = .ok (.iconst (-1), 1) := by decide +kernel
theorem dX8_init_17 : decode cX8_init 17 = .ok (.putfield 19, 3) := by decide +kernel
theorem dX8_init_20 : decode cX8_init 20 = .ok (.aload_n 0, 1) := by decide +kernel
theorem dX8_init_21 : decode cX8_init 21 = .ok (.aconst_null, 1) := by decide +kernel
theorem dX8_init_22 : decode cX8_init 22 = .ok (.putfield 22, 3) := by decide +kernel
theorem dX8_init_25 : decode cX8_init 25 = .ok (.aload_n 0, 1) := by decide +kernel
theorem dX8_init_26 : decode cX8_init 26 = .ok (.iload_n 1, 1) := by decide +kernel
theorem dX8_init_27 : decode cX8_init 27 = .ok (.putfield 26, 3) := by decide +kernel
theorem dX8_init_30 : decode cX8_init 30 = .ok (.aload_n 0, 1) := by decide +kernel
theorem dX8_init_31 : decode cX8_init 31 = .ok (.iload_n 2, 1) := by decide +kernel
theorem dX8_init_32 : decode cX8_init 32 = .ok (.putfield 29, 3) := by decide +kernel
theorem dX8_init_35 : decode cX8_init 35 = .ok (.return_, 1) := by decide +kernel
theorem dX8_takeIn_0 : decode cX8_takeIn 0 = .ok (.aload_n 0, 1) := by decide +kernel
theorem dX8_takeIn_1 : decode cX8_takeIn 1 = .ok (.bipush 117, 2) := by decide +kernel
theorem dX8_takeIn_3 : decode cX8_takeIn 3 = .ok (.putfield 9, 3) := by decide +kernel
theorem dX8_takeIn_6 : decode cX8_takeIn 6 = .ok (.aload_n 0, 1) := by decide +kernel
theorem dX8_takeIn_7 : decode cX8_takeIn 7 = .ok (.aload_n 1, 1) := by decide +kernel
theorem dX8_takeIn_8 : decode cX8_takeIn 8 = .ok (.putfield 22, 3) := by decide +kernel
theorem dX8_takeIn_11 : decode cX8_takeIn 11 = .ok (.aload_n 1, 1) := by decide +kernel
theorem dX8_takeIn_12 : decode cX8_takeIn 12 = .ok (.aload_n 0, 1) := by decide +kernel
theorem dX8_takeIn_13 : decode cX8_takeIn 13 = .ok (.putfield 32, 3) := by decide +kernel
theorem dX8_takeIn_16 : decode cX8_takeIn 16 = .ok (.return_, 1) := by decide +kernel
theorem dX8_daysUntilFree_0 : decode cX8_daysUntilFree 0 = .ok (.aload_n 0, 1) := by decide +kernel
theorem dX8_daysUntilFree_1 : decode cX8_daysUntilFree 1 = .ok (.getfield 9, 3) := by decide +kernel
theorem dX8_daysUntilFree_4 : decode cX8_daysUntilFree 4 = .ok (.bipush 99, 2) := by decide +kernel
theorem dX8_daysUntilFree_6 : decode cX8_daysUntilFree 6 = .ok (.if_icmp .ne 5, 3) := by decide +kernel
theorem dX8_daysUntilFree_9 : decode cX8_daysUntilFree 9 = .ok (.iconst 0, 1) := by decide +kernel
theorem dX8_daysUntilFree_10 : decode cX8_daysUntilFree 10 = .ok (.ireturn, 1) := by decide +kernel
theorem dX8_daysUntilFree_11 : decode cX8_daysUntilFree 11 = .ok (.aload_n 0, 1) := by decide +kernel
theorem dX8_daysUntilFree_12 : decode cX8_daysUntilFree 12 = .ok (.getfield 9, 3) := by decide +kernel
theorem dX8_daysUntilFree_15 : decode cX8_daysUntilFree 15 = .ok (.bipush 103, 2) := by decide +kernel
theorem dX8_daysUntilFree_17 : decode cX8_daysUntilFree 17 = .ok (.if_icmp .ne 8, 3) := by decide +kernel
theorem dX8_daysUntilFree_20 : decode cX8_daysUntilFree 20 = .ok (.aload_n 0, 1) := by decide +kernel
theorem dX8_daysUntilFree_21 : decode cX8_daysUntilFree 21 = .ok (.getfield 15, 3) := by decide +kernel
theorem dX8_daysUntilFree_24 : decode cX8_daysUntilFree 24 = .ok (.ireturn, 1) := by decide +kernel
theorem dX8_daysUntilFree_25 : decode cX8_daysUntilFree 25 = .ok (.aload_n 0, 1) := by decide +kernel
theorem dX8_daysUntilFree_26 : decode cX8_daysUntilFree 26 = .ok (.getfield 22, 3) := by decide +kernel
theorem dX8_daysUntilFree_29 : decode cX8_daysUntilFree 29 = .ok (.ifnull 25, 3) := by decide +kernel
theorem dX8_daysUntilFree_32 : decode cX8_daysUntilFree 32 = .ok (.aload_n 0, 1) := by decide +kernel
theorem dX8_daysUntilFree_33 : decode cX8_daysUntilFree 33 = .ok (.getfield 22, 3) := by decide +kernel
theorem dX8_daysUntilFree_36 : decode cX8_daysUntilFree 36 = .ok (.getfield 38, 3) := by decide +kernel
theorem dX8_daysUntilFree_39 : decode cX8_daysUntilFree 39 = .ok (.bipush 102, 2) := by decide +kernel
theorem dX8_daysUntilFree_41 : decode cX8_daysUntilFree 41 = .ok (.if_icmp .ne 13, 3) := by decide +kernel
theorem dX8_daysUntilFree_44 : decode cX8_daysUntilFree 44 = .ok (.aload_n 0, 1) := by decide +kernel
theorem dX8_daysUntilFree_45 : decode cX8_daysUntilFree 45 = .ok (.getfield 22, 3) := by decide +kernel
theorem dX8_daysUntilFree_48 : decode cX8_daysUntilFree 48 = .ok (.getfield 41, 3) := by decide +kernel
theorem dX8_daysUntilFree_51 : decode cX8_daysUntilFree 51 = .ok (.iconst 2, 1) := by decide +kernel
theorem dX8_daysUntilFree_52 : decode cX8_daysUntilFree 52 = .ok (.iadd, 1) := by decide +kernel
theorem dX8_daysUntilFree_53 : decode cX8_daysUntilFree 53 = .ok (.ireturn, 1) := by decide +kernel
theorem dX8_daysUntilFree_54 : decode cX8_daysUntilFree 54 = .ok (.iconst 2, 1) := by decide +kernel
theorem dX8_daysUntilFree_55 : decode cX8_daysUntilFree 55 = .ok (.ireturn, 1) := by decide +kernel
theorem dX9_init_0 : decode cX9_init 0 = .ok (.aload_n 0, 1) := by decide +kernel
theorem dX9_init_1 : decode cX9_init 1 = .ok (.invokespecial 3, 3) := by decide +kernel
theorem dX9_init_4 : decode cX9_init 4 = .ok (.aload_n 0, 1) := by decide +kernel
theorem dX9_init_5 : decode cX9_init 5 = .ok (.iconst 0, 1) := by decide +kernel
theorem dX9_init_6 : decode cX9_init 6 = .ok (.putfield 9, 3) := by decide +kernel
theorem dX9_init_9 : decode cX9_init 9 = .ok (.aload_n 0, 1) := by decide +kernel
theorem dX9_init_10 : decode cX9_init 10 = .ok (.new 15, 3) := by decide +kernel
theorem dX9_init_13 : decode cX9_init 13 = .ok (.dup, 1) := by decide +kernel
theorem dX9_init_14 : decode cX9_init 14 = .ok (.invokespecial 17, 3) := by decide +kernel
theorem dX9_init_17 : decode cX9_init 17 = .ok (.putfield 18, 3) := by decide +kernel
theorem dX9_init_20 : decode cX9_init 20 = .ok (.return_, 1) := by decide +kernel
theorem dX9_firstUsable_0 : decode cX9_firstUsable 0 = .ok (.iconst 0, 1) := by decide +kernel
theorem dX9_firstUsable_1 : decode cX9_firstUsable 1 = .ok (.istore_n 2, 1) := by decide +kernel
theorem dX9_firstUsable_2 : decode cX9_firstUsable 2 = .ok (.iload_n 2, 1) := by decide +kernel
theorem dX9_firstUsable_3 : decode cX9_firstUsable 3 = .ok (.aload_n 0, 1) := by decide +kernel
theorem dX9_firstUsable_4 : decode cX9_firstUsable 4 = .ok (.getfield 18, 3) := by decide +kernel
theorem dX9_firstUsable_7 : decode cX9_firstUsable 7 = .ok (.invokeinterface 22 1, 5) := by decide +kernel
theorem dX9_firstUsable_12 : decode cX9_firstUsable 12 = .ok (.if_icmp .ge 31, 3) := by decide +kernel
theorem dX9_firstUsable_15 : decode cX9_firstUsable 15 = .ok (.aload_n 0, 1) := by decide +kernel
theorem dX9_firstUsable_16 : decode cX9_firstUsable 16 = .ok (.getfield 18, 3) := by decide +kernel
theorem dX9_firstUsable_19 : decode cX9_firstUsable 19 = .ok (.iload_n 2, 1) := by decide +kernel
theorem dX9_firstUsable_20 : decode cX9_firstUsable 20 = .ok (.invokeinterface 28 2, 5) := by decide +kernel
theorem dX9_firstUsable_25 : decode cX9_firstUsable 25 = .ok (.checkcast 32, 3) := by decide +kernel
theorem dX9_firstUsable_28 : decode cX9_firstUsable 28 = .ok (.iload_n 1, 1) := by decide +kernel
theorem dX9_firstUsable_29 : decode cX9_firstUsable 29 = .ok (.invokevirtual 34, 3) := by decide +kernel
theorem dX9_firstUsable_32 : decode cX9_firstUsable 32 = .ok (.ifCond .eq 5, 3) := by decide +kernel
theorem dX9_firstUsable_35 : decode cX9_firstUsable 35 = .ok (.iload_n 2, 1) := by decide +kernel
theorem dX9_firstUsable_36 : decode cX9_firstUsable 36 = .ok (.ireturn, 1) := by decide +kernel
theorem dX9_firstUsable_37 : decode cX9_firstUsable 37 = .ok (.iinc 2 1, 3) := by decide +kernel
theorem dX9_firstUsable_40 : decode cX9_firstUsable 40 = .ok (.goto (-38), 3) := by decide +kernel
theorem dX9_firstUsable_43 : decode cX9_firstUsable 43 = .ok (.iconst (-1), 1) := by decide +kernel
theorem dX9_firstUsable_44 : decode cX9_firstUsable 44 = .ok (.ireturn, 1) := by decide +kernel
theorem dX9_isThere_0 : decode cX9_isThere 0 = .ok (.aload_n 0, 1) := by decide +kernel
theorem dX9_isThere_1 : decode cX9_isThere 1 = .ok (.getfield 9, 3) := by decide +kernel
theorem dX9_isThere_4 : decode cX9_isThere 4 = .ok (.ifCond .gt 11, 3) := by decide +kernel
theorem dX9_isThere_7 : decode cX9_isThere 7 = .ok (.aload_n 0, 1) := by decide +kernel
theorem dX9_isThere_8 : decode cX9_isThere 8 = .ok (.iload_n 1, 1) := by decide +kernel
theorem dX9_isThere_9 : decode cX9_isThere 9 = .ok (.invokevirtual 38, 3) := by decide +kernel
theorem dX9_isThere_12 : decode cX9_isThere 12 = .ok (.ifCond .lt 7, 3) := by decide +kernel
theorem dX9_isThere_15 : decode cX9_isThere 15 = .ok (.iconst 1, 1) := by decide +kernel
theorem dX9_isThere_16 : decode cX9_isThere 16 = .ok (.goto 4, 3) := by decide +kernel
theorem dX9_isThere_19 : decode cX9_isThere 19 = .ok (.iconst 0, 1) := by decide +kernel
theorem dX9_isThere_20 : decode cX9_isThere 20 = .ok (.ireturn, 1) := by decide +kernel
theorem dX9_take_0 : decode cX9_take 0 = .ok (.aload_n 0, 1) := by decide +kernel
theorem dX9_take_1 : decode cX9_take 1 = .ok (.iload_n 1, 1) := by decide +kernel
theorem dX9_take_2 : decode cX9_take 2 = .ok (.invokevirtual 38, 3) := by decide +kernel
theorem dX9_take_5 : decode cX9_take 5 = .ok (.istore_n 2, 1) := by decide +kernel
theorem dX9_take_6 : decode cX9_take 6 = .ok (.iload_n 2, 1) := by decide +kernel
theorem dX9_take_7 : decode cX9_take 7 = .ok (.ifCond .lt 20, 3) := by decide +kernel
theorem dX9_take_10 : decode cX9_take 10 = .ok (.aload_n 0, 1) := by decide +kernel
theorem dX9_take_11 : decode cX9_take 11 = .ok (.getfield 18, 3) := by decide +kernel
theorem dX9_take_14 : decode cX9_take 14 = .ok (.iload_n 2, 1) := by decide +kernel
theorem dX9_take_15 : decode cX9_take 15 = .ok (.invokeinterface 45 2, 5) := by decide +kernel
theorem dX9_take_20 : decode cX9_take 20 = .ok (.checkcast 32, 3) := by decide +kernel
theorem dX9_take_23 : decode cX9_take 23 = .ok (.getfield 42, 3) := by decide +kernel
theorem dX9_take_26 : decode cX9_take 26 = .ok (.ireturn, 1) := by decide +kernel
theorem dX9_take_27 : decode cX9_take 27 = .ok (.aload_n 0, 1) := by decide +kernel
theorem dX9_take_28 : decode cX9_take 28 = .ok (.dup, 1) := by decide +kernel
theorem dX9_take_29 : decode cX9_take 29 = .ok (.getfield 9, 3) := by decide +kernel
theorem dX9_take_32 : decode cX9_take 32 = .ok (.iconst 1, 1) := by decide +kernel
theorem dX9_take_33 : decode cX9_take 33 = .ok (.isub, 1) := by decide +kernel
theorem dX9_take_34 : decode cX9_take 34 = .ok (.putfield 9, 3) := by decide +kernel
theorem dX9_take_37 : decode cX9_take 37 = .ok (.iconst 0, 1) := by decide +kernel
theorem dX9_take_38 : decode cX9_take 38 = .ok (.ireturn, 1) := by decide +kernel
theorem dX9_harvest_0 : decode cX9_harvest 0 = .ok (.iload_n 1, 1) := by decide +kernel
theorem dX9_harvest_1 : decode cX9_harvest 1 = .ok (.iconst 4, 1) := by decide +kernel
theorem dX9_harvest_2 : decode cX9_harvest 2 = .ok (.if_icmp .gt 35, 3) := by decide +kernel
theorem dX9_harvest_5 : decode cX9_harvest 5 = .ok (.iconst 0, 1) := by decide +kernel
theorem dX9_harvest_6 : decode cX9_harvest 6 = .ok (.istore_n 3, 1) := by decide +kernel
theorem dX9_harvest_7 : decode cX9_harvest 7 = .ok (.iload_n 3, 1) := by decide +kernel
theorem dX9_harvest_8 : decode cX9_harvest 8 = .ok (.iconst 2, 1) := by decide +kernel
theorem dX9_harvest_9 : decode cX9_harvest 9 = .ok (.if_icmp .ge 28, 3) := by decide +kernel
theorem dX9_harvest_12 : decode cX9_harvest 12 = .ok (.aload_n 0, 1) := by decide +kernel
theorem dX9_harvest_13 : decode cX9_harvest 13 = .ok (.getfield 18, 3) := by decide +kernel
theorem dX9_harvest_16 : decode cX9_harvest 16 = .ok (.new 32, 3) := by decide +kernel
theorem dX9_harvest_19 : decode cX9_harvest 19 = .ok (.dup, 1) := by decide +kernel
theorem dX9_harvest_20 : decode cX9_harvest 20 = .ok (.iload_n 1, 1) := by decide +kernel
theorem dX9_harvest_21 : decode cX9_harvest 21 = .ok (.iload_n 2, 1) := by decide +kernel
theorem dX9_harvest_22 : decode cX9_harvest 22 = .ok (.invokespecial 48, 3) := by decide +kernel
theorem dX9_harvest_25 : decode cX9_harvest 25 = .ok (.invokeinterface 51 2, 5) := by decide +kernel
theorem dX9_harvest_30 : decode cX9_harvest 30 = .ok (.pop, 1) := by decide +kernel
theorem dX9_harvest_31 : decode cX9_harvest 31 = .ok (.iinc 3 1, 3) := by decide +kernel
theorem dX9_harvest_34 : decode cX9_harvest 34 = .ok (.goto (-27), 3) := by decide +kernel
theorem dX9_harvest_37 : decode cX9_harvest 37 = .ok (.return_, 1) := by decide +kernel
theorem dX10_init_0 : decode cX10_init 0 = .ok (.aload_n 0, 1) := by decide +kernel
theorem dX10_init_1 : decode cX10_init 1 = .ok (.invokespecial 1, 3) := by decide +kernel
theorem dX10_init_4 : decode cX10_init 4 = .ok (.aload_n 0, 1) := by decide +kernel
theorem dX10_init_5 : decode cX10_init 5 = .ok (.new 7, 3) := by decide +kernel
theorem dX10_init_8 : decode cX10_init 8 = .ok (.dup, 1) := by decide +kernel
theorem dX10_init_9 : decode cX10_init 9 = .ok (.invokespecial 9, 3) := by decide +kernel
theorem dX10_init_12 : decode cX10_init 12 = .ok (.putfield 10, 3) := by decide +kernel
theorem dX10_init_15 : decode cX10_init 15 = .ok (.aload_n 0, 1) := by decide +kernel
theorem dX10_init_16 : decode cX10_init 16 = .ok (.new 7, 3) := by decide +kernel
theorem dX10_init_19 : decode cX10_init 19 = .ok (.dup, 1) := by decide +kernel
theorem dX10_init_20 : decode cX10_init 20 = .ok (.invokespecial 9, 3) := by decide +kernel
theorem dX10_init_23 : decode cX10_init 23 = .ok (.putfield 16, 3) := by decide +kernel
theorem dX10_init_26 : decode cX10_init 26 = .ok (.aload_n 0, 1) := by decide +kernel
theorem dX10_init_27 : decode cX10_init 27 = .ok (.new 7, 3) := by decide +kernel
theorem dX10_init_30 : decode cX10_init 30 = .ok (.dup, 1) := by decide +kernel
theorem dX10_init_31 : decode cX10_init 31 = .ok (.invokespecial 9, 3) := by decide +kernel
theorem dX10_init_34 : decode cX10_init 34 = .ok (.putfield 19, 3) := by decide +kernel
theorem dX10_init_37 : decode cX10_init 37 = .ok (.aload_n 0, 1) := by decide +kernel
theorem dX10_init_38 : decode cX10_init 38 = .ok (.new 7, 3) := by decide +kernel
theorem dX10_init_41 : decode cX10_init 41 = .ok (.dup, 1) := by decide +kernel
theorem dX10_init_42 : decode cX10_init 42 = .ok (.invokespecial 9, 3) := by decide +kernel
theorem dX10_init_45 : decode cX10_init 45 = .ok (.putfield 22, 3) := by decide +kernel
theorem dX10_init_48 : decode cX10_init 48 = .ok (.aload_n 0, 1) := by decide +kernel
theorem dX10_init_49 : decode cX10_init 49 = .ok (.new 7, 3) := by decide +kernel
theorem dX10_init_52 : decode cX10_init 52 = .ok (.dup, 1) := by decide +kernel
theorem dX10_init_53 : decode cX10_init 53 = .ok (.invokespecial 9, 3) := by decide +kernel
theorem dX10_init_56 : decode cX10_init 56 = .ok (.putfield 25, 3) := by decide +kernel
theorem dX10_init_59 : decode cX10_init 59 = .ok (.aload_n 0, 1) := by decide +kernel
theorem dX10_init_60 : decode cX10_init 60 = .ok (.new 7, 3) := by decide +kernel
theorem dX10_init_63 : decode cX10_init 63 = .ok (.dup, 1) := by decide +kernel
theorem dX10_init_64 : decode cX10_init 64 = .ok (.invokespecial 9, 3) := by decide +kernel
theorem dX10_init_67 : decode cX10_init 67 = .ok (.putfield 28, 3) := by decide +kernel
theorem dX10_init_70 : decode cX10_init 70 = .ok (.aload_n 0, 1) := by decide +kernel
theorem dX10_init_71 : decode cX10_init 71 = .ok (.new 7, 3) := by decide +kernel
theorem dX10_init_74 : decode cX10_init 74 = .ok (.dup, 1) := by decide +kernel
theorem dX10_init_75 : decode cX10_init 75 = .ok (.invokespecial 9, 3) := by decide +kernel
theorem dX10_init_78 : decode cX10_init 78 = .ok (.putfield 31, 3) := by decide +kernel
theorem dX10_init_81 : decode cX10_init 81 = .ok (.aload_n 0, 1) := by decide +kernel
theorem dX10_init_82 : decode cX10_init 82 = .ok (.new 7, 3) := by decide +kernel
theorem dX10_init_85 : decode cX10_init 85 = .ok (.dup, 1) := by decide +kernel
theorem dX10_init_86 : decode cX10_init 86 = .ok (.invokespecial 9, 3) := by decide +kernel
theorem dX10_init_89 : decode cX10_init 89 = .ok (.putfield 34, 3) := by decide +kernel
theorem dX10_init_92 : decode cX10_init 92 = .ok (.aload_n 0, 1) := by decide +kernel
theorem dX10_init_93 : decode cX10_init 93 = .ok (.new 7, 3) := by decide +kernel
theorem dX10_init_96 : decode cX10_init 96 = .ok (.dup, 1) := by decide +kernel
theorem dX10_init_97 : decode cX10_init 97 = .ok (.invokespecial 9, 3) := by decide +kernel
theorem dX10_init_100 : decode cX10_init 100 = .ok (.putfield 37, 3) := by decide +kernel
theorem dX10_init_103 : decode cX10_init 103 = .ok (.aload_n 0, 1) := by decide +kernel
theorem dX10_init_104 : decode cX10_init 104 = .ok (.new 40, 3) := by decide +kernel
theorem dX10_init_107 : decode cX10_init 107 = .ok (.dup, 1) := by decide +kernel
theorem dX10_init_108 : decode cX10_init 108 = .ok (.invokespecial 42, 3) := by decide +kernel
theorem dX10_init_111 : decode cX10_init 111 = .ok (.putfield 43, 3) := by decide +kernel
theorem dX10_init_114 : decode cX10_init 114 = .ok (.aload_n 0, 1) := by decide +kernel
theorem dX10_init_115 : decode cX10_init 115 = .ok (.iconst 1, 1) := by decide +kernel
theorem dX10_init_116 : decode cX10_init 116 = .ok (.putfield 47, 3) := by decide +kernel
theorem dX10_init_119 : decode cX10_init 119 = .ok (.aload_n 0, 1) := by decide +kernel
theorem dX10_init_120 : decode cX10_init 120 = .ok (.iconst 0, 1) := by decide +kernel
theorem dX10_init_121 : decode cX10_init 121 = .ok (.putfield 51, 3) := by decide +kernel
theorem dX10_init_124 : decode cX10_init 124 = .ok (.iconst 0, 1) := by decide +kernel
theorem dX10_init_125 : decode cX10_init 125 = .ok (.istore_n 1, 1) := by decide +kernel
theorem dX10_init_126 : decode cX10_init 126 = .ok (.iload_n 1, 1) := by decide +kernel
theorem dX10_init_127 : decode cX10_init 127 = .ok (.iconst 4, 1) := by decide +kernel
theorem dX10_init_128 : decode cX10_init 128 = .ok (.if_icmp .ge 26, 3) := by decide +kernel
theorem dX10_init_131 : decode cX10_init 131 = .ok (.aload_n 0, 1) := by decide +kernel
theorem dX10_init_132 : decode cX10_init 132 = .ok (.getfield 10, 3) := by decide +kernel
theorem dX10_init_135 : decode cX10_init 135 = .ok (.new 54, 3) := by decide +kernel
theorem dX10_init_138 : decode cX10_init 138 = .ok (.dup, 1) := by decide +kernel
theorem dX10_init_139 : decode cX10_init 139 = .ok (.invokespecial 56, 3) := by decide +kernel
theorem dX10_init_142 : decode cX10_init 142 = .ok (.invokeinterface 57 2, 5) := by decide +kernel
theorem dX10_init_147 : decode cX10_init 147 = .ok (.pop, 1) := by decide +kernel
theorem dX10_init_148 : decode cX10_init 148 = .ok (.iinc 1 1, 3) := by decide +kernel
theorem dX10_init_151 : decode cX10_init 151 = .ok (.goto (-25), 3) := by decide +kernel
theorem dX10_init_154 : decode cX10_init 154 = .ok (.return_, 1) := by decide +kernel
theorem dX10_addRecipe_0 : decode cX10_addRecipe 0 = .ok (.aload_n 0, 1) := by decide +kernel
theorem dX10_addRecipe_1 : decode cX10_addRecipe 1 = .ok (.iload_n 1, 1) := by decide +kernel
theorem dX10_addRecipe_2 : decode cX10_addRecipe 2 = .ok (.invokevirtual 63, 3) := by decide +kernel
theorem dX10_addRecipe_5 : decode cX10_addRecipe 5 = .ok (.astore 4, 2) := by decide +kernel
theorem dX10_addRecipe_7 : decode cX10_addRecipe 7 = .ok (.iload_n 2, 1) := by decide +kernel
theorem dX10_addRecipe_8 : decode cX10_addRecipe 8 = .ok (.iconst 1, 1) := by decide +kernel
theorem dX10_addRecipe_9 : decode cX10_addRecipe 9 = .ok (.bipush 14, 2) := by decide +kernel
theorem dX10_addRecipe_11 : decode cX10_addRecipe 11 = .ok (.invokestatic 67, 3) := by decide +kernel
theorem dX10_addRecipe_14 : decode cX10_addRecipe 14 = .ok (.ifCond .ne 13, 3) := by decide +kernel
theorem dX10_addRecipe_17 : decode cX10_addRecipe 17 = .ok (.iload_n 3, 1) := by decide +kernel
theorem dX10_addRecipe_18 : decode cX10_addRecipe 18 = .ok (.iconst 0, 1) := by decide +kernel
theorem dX10_addRecipe_19 : decode cX10_addRecipe 19 = .ok (.bipush 14, 2) := by decide +kernel
theorem dX10_addRecipe_21 : decode cX10_addRecipe 21 = .ok (.invokestatic 67, 3) := by decide +kernel
theorem dX10_addRecipe_24 : decode cX10_addRecipe 24 = .ok (.ifCond .eq 13, 3) := by decide +kernel
theorem dX10_addRecipe_27 : decode cX10_addRecipe 27 = .ok (.new 71, 3) := by decide +kernel
theorem dX10_addRecipe_30 : decode cX10_addRecipe 30 = .ok (.dup, 1) := by decide +kernel
theorem dX10_addRecipe_31 : decode cX10_addRecipe 31 = .ok (.ldc 73, 2) := by decide +kernel
theorem dX10_addRecipe_33 : decode cX10_addRecipe 33 = .ok (.invokespecial 75, 3) := by decide +kernel
theorem dX10_addRecipe_36 : decode cX10_addRecipe 36 = .ok (.athrow, 1) := by decide +kernel
theorem dX10_addRecipe_37 : decode cX10_addRecipe 37 = .ok (.aload_n 0, 1) := by decide +kernel
theorem dX10_addRecipe_38 : decode cX10_addRecipe 38 = .ok (.getfield 16, 3) := by decide +kernel
theorem dX10_addRecipe_41 : decode cX10_addRecipe 41 = .ok (.invokeinterface 78 1, 5) := by decide +kernel
theorem dX10_addRecipe_46 : decode cX10_addRecipe 46 = .ok (.iconst 5, 1) := by decide +kernel
theorem dX10_addRecipe_47 : decode cX10_addRecipe 47 = .ok (.if_icmp .lt 13, 3) := by decide +kernel
theorem dX10_addRecipe_50 : decode cX10_addRecipe 50 = .ok (.new 82, 3) := by decide +kernel
theorem dX10_addRecipe_53 : decode cX10_addRecipe 53 = .ok (.dup, 1) := by decide +kernel
theorem dX10_addRecipe_54 : decode cX10_addRecipe 54 = .ok (.ldc 84, 2) := by decide +kernel
theorem dX10_addRecipe_56 : decode cX10_addRecipe 56 = .ok (.invokespecial 86, 3) := by decide +kernel
theorem dX10_addRecipe_59 : decode cX10_addRecipe 59 = .ok (.athrow, 1) := by decide +kernel
theorem dX10_addRecipe_60 : decode cX10_addRecipe 60 = .ok (.new 87, 3) := by decide +kernel
theorem dX10_addRecipe_63 : decode cX10_addRecipe 63 = .ok (.dup, 1) := by decide +kernel
theorem dX10_addRecipe_64 : decode cX10_addRecipe 64 = .ok (.aload_n 0, 1) := by decide +kernel
theorem dX10_addRecipe_65 : decode cX10_addRecipe 65 = .ok (.getfield 16, 3) := by decide +kernel
theorem dX10_addRecipe_68 : decode cX10_addRecipe 68 = .ok (.invokeinterface 78 1, 5) := by decide +kernel
theorem dX10_addRecipe_73 : decode cX10_addRecipe 73 = .ok (.iload_n 1, 1) := by decide +kernel
theorem dX10_addRecipe_74 : decode cX10_addRecipe 74 = .ok (.aload 4, 2) := by decide +kernel
theorem dX10_addRecipe_76 : decode cX10_addRecipe 76 = .ok (.iload_n 2, 1) := by decide +kernel
theorem dX10_addRecipe_77 : decode cX10_addRecipe 77 = .ok (.iload_n 3, 1) := by decide +kernel
theorem dX10_addRecipe_78 : decode cX10_addRecipe 78 = .ok (.invokespecial 89, 3) := by decide +kernel
theorem dX10_addRecipe_81 : decode cX10_addRecipe 81 = .ok (.astore 5, 2) := by decide +kernel
theorem dX10_addRecipe_83 : decode cX10_addRecipe 83 = .ok (.aload_n 0, 1) := by decide +kernel
theorem dX10_addRecipe_84 : decode cX10_addRecipe 84 = .ok (.getfield 16, 3) := by decide +kernel
theorem dX10_addRecipe_87 : decode cX10_addRecipe 87 = .ok (.aload 5, 2) := by decide +kernel
theorem dX10_addRecipe_89 : decode cX10_addRecipe 89 = .ok (.invokeinterface 57 2, 5) := by decide +kernel
theorem dX10_addRecipe_94 : decode cX10_addRecipe 94 = .ok (.pop, 1) := by decide +kernel
theorem dX10_addRecipe_95 : decode cX10_addRecipe 95 = .ok (.aload 5, 2) := by decide +kernel
theorem dX10_addRecipe_97 : decode cX10_addRecipe 97 = .ok (.getfield 92, 3) := by decide +kernel
theorem dX10_addRecipe_100 : decode cX10_addRecipe 100 = .ok (.ireturn, 1) := by decide +kernel
theorem dX10_addVessel_0 : decode cX10_addVessel 0 = .ok (.iload_n 1, 1) := by decide +kernel
theorem dX10_addVessel_1 : decode cX10_addVessel 1 = .ok (.bipush 102, 2) := by decide +kernel
theorem dX10_addVessel_3 : decode cX10_addVessel 3 = .ok (.if_icmp .eq 19, 3) := by decide +kernel
theorem dX10_addVessel_6 : decode cX10_addVessel 6 = .ok (.iload_n 1, 1) := by decide +kernel
theorem dX10_addVessel_7 : decode cX10_addVessel 7 = .ok (.bipush 116, 2) := by decide +kernel
theorem dX10_addVessel_9 : decode cX10_addVessel 9 = .ok (.if_icmp .eq 13, 3) := by decide +kernel
theorem dX10_addVessel_12 : decode cX10_addVessel 12 = .ok (.new 71, 3) := by decide +kernel
theorem dX10_addVessel_15 : decode cX10_addVessel 15 = .ok (.dup, 1) := by decide +kernel
theorem dX10_addVessel_16 : decode cX10_addVessel 16 = .ok (.ldc 95, 2) := by decide +kernel
theorem dX10_addVessel_18 : decode cX10_addVessel 18 = .ok (.invokespecial 75, 3) := by decide +kernel
theorem dX10_addVessel_21 : decode cX10_addVessel 21 = .ok (.athrow, 1) := by decide +kernel
theorem dX10_addVessel_22 : decode cX10_addVessel 22 = .ok (.aload_n 0, 1) := by decide +kernel
theorem dX10_addVessel_23 : decode cX10_addVessel 23 = .ok (.getfield 19, 3) := by decide +kernel
theorem dX10_addVessel_26 : decode cX10_addVessel 26 = .ok (.invokeinterface 78 1, 5) := by decide +kernel
theorem dX10_addVessel_31 : decode cX10_addVessel 31 = .ok (.bipush 8, 2) := by decide +kernel
theorem dX10_addVessel_33 : decode cX10_addVessel 33 = .ok (.if_icmp .lt 13, 3) := by decide +kernel
theorem dX10_addVessel_36 : decode cX10_addVessel 36 = .ok (.new 82, 3) := by decide +kernel
theorem dX10_addVessel_39 : decode cX10_addVessel 39 = .ok (.dup, 1) := by decide +kernel
theorem dX10_addVessel_40 : decode cX10_addVessel 40 = .ok (.ldc 97, 2) := by decide +kernel
theorem dX10_addVessel_42 : decode cX10_addVessel 42 = .ok (.invokespecial 86, 3) := by decide +kernel
theorem dX10_addVessel_45 : decode cX10_addVessel 45 = .ok (.athrow, 1) := by decide +kernel
theorem dX10_addVessel_46 : decode cX10_addVessel 46 = .ok (.new 99, 3) := by decide +kernel
theorem dX10_addVessel_49 : decode cX10_addVessel 49 = .ok (.dup, 1) := by decide +kernel
theorem dX10_addVessel_50 : decode cX10_addVessel 50 = .ok (.aload_n 0, 1) := by decide +kernel
theorem dX10_addVessel_51 : decode cX10_addVessel 51 = .ok (.getfield 19, 3) := by decide +kernel
theorem dX10_addVessel_54 : decode cX10_addVessel 54 = .ok (.invokeinterface 78 1, 5) := by decide +kernel
theorem dX10_addVessel_59 : decode cX10_addVessel 59 = .ok (.iload_n 1, 1) := by decide +kernel
theorem dX10_addVessel_60 : decode cX10_addVessel 60 = .ok (.invokespecial 101, 3) := by decide +kernel
theorem dX10_addVessel_63 : decode cX10_addVessel 63 = .ok (.astore_n 2, 1) := by decide +kernel
theorem dX10_addVessel_64 : decode cX10_addVessel 64 = .ok (.aload_n 0, 1) := by decide +kernel
theorem dX10_addVessel_65 : decode cX10_addVessel 65 = .ok (.getfield 19, 3) := by decide +kernel
theorem dX10_addVessel_68 : decode cX10_addVessel 68 = .ok (.aload_n 2, 1) := by decide +kernel
theorem dX10_addVessel_69 : decode cX10_addVessel 69 = .ok (.invokeinterface 57 2, 5) := by decide +kernel
theorem dX10_addVessel_74 : decode cX10_addVessel 74 = .ok (.pop, 1) := by decide +kernel
theorem dX10_addVessel_75 : decode cX10_addVessel 75 = .ok (.iload_n 1, 1) := by decide +kernel
theorem dX10_addVessel_76 : decode cX10_addVessel 76 = .ok (.bipush 102, 2) := by decide +kernel
theorem dX10_addVessel_78 : decode cX10_addVessel 78 = .ok (.if_icmp .ne 24, 3) := by decide +kernel
theorem dX10_addVessel_81 : decode cX10_addVessel 81 = .ok (.aload_n 0, 1) := by decide +kernel
theorem dX10_addVessel_82 : decode cX10_addVessel 82 = .ok (.getfield 43, 3) := by decide +kernel
theorem dX10_addVessel_85 : decode cX10_addVessel 85 = .ok (.getfield 104, 3) := by decide +kernel
theorem dX10_addVessel_88 : decode cX10_addVessel 88 = .ok (.new 107, 3) := by decide +kernel
theorem dX10_addVessel_91 : decode cX10_addVessel 91 = .ok (.dup, 1) := by decide +kernel
theorem dX10_addVessel_92 : decode cX10_addVessel 92 = .ok (.aload_n 2, 1) := by decide +kernel
theorem dX10_addVessel_93 : decode cX10_addVessel 93 = .ok (.invokespecial 109, 3) := by decide +kernel
theorem dX10_addVessel_96 : decode cX10_addVessel 96 = .ok (.invokeinterface 57 2, 5) := by decide +kernel
theorem dX10_addVessel_101 : decode cX10_addVessel 101 = .ok (.pop, 1) := by decide +kernel
theorem dX10_addVessel_102 : decode cX10_addVessel 102 = .ok (.aload_n 2, 1) := by decide +kernel
theorem dX10_addVessel_103 : decode cX10_addVessel 103 = .ok (.getfield 112, 3) := by decide +kernel
theorem dX10_addVessel_106 : decode cX10_addVessel 106 = .ok (.ireturn, 1) := by decide +kernel
theorem dX10_setCrews_0 : decode cX10_setCrews 0 = .ok (.iload_n 1, 1) := by decide +kernel
theorem dX10_setCrews_1 : decode cX10_setCrews 1 = .ok (.iconst 0, 1) := by decide +kernel
theorem dX10_setCrews_2 : decode cX10_setCrews 2 = .ok (.iconst 3, 1) := by decide +kernel
theorem dX10_setCrews_3 : decode cX10_setCrews 3 = .ok (.invokestatic 67, 3) := by decide +kernel
theorem dX10_setCrews_6 : decode cX10_setCrews 6 = .ok (.ifCond .eq 13, 3) := by decide +kernel
theorem dX10_setCrews_9 : decode cX10_setCrews 9 = .ok (.new 71, 3) := by decide +kernel
theorem dX10_setCrews_12 : decode cX10_setCrews 12 = .ok (.dup, 1) := by decide +kernel
theorem dX10_setCrews_13 : decode cX10_setCrews 13 = .ok (.ldc 113, 2) := by decide +kernel
theorem dX10_setCrews_15 : decode cX10_setCrews 15 = .ok (.invokespecial 75, 3) := by decide +kernel
theorem dX10_setCrews_18 : decode cX10_setCrews 18 = .ok (.athrow, 1) := by decide +kernel
theorem dX10_setCrews_19 : decode cX10_setCrews 19 = .ok (.aload_n 0, 1) := by decide +kernel
theorem dX10_setCrews_20 : decode cX10_setCrews 20 = .ok (.getfield 47, 3) := by decide +kernel
theorem dX10_setCrews_23 : decode cX10_setCrews 23 = .ok (.istore_n 2, 1) := by decide +kernel
theorem dX10_setCrews_24 : decode cX10_setCrews 24 = .ok (.aload_n 0, 1) := by decide +kernel
theorem dX10_setCrews_25 : decode cX10_setCrews 25 = .ok (.iload_n 1, 1) := by decide +kernel
theorem dX10_setCrews_26 : decode cX10_setCrews 26 = .ok (.putfield 47, 3) := by decide +kernel
theorem dX10_setCrews_29 : decode cX10_setCrews 29 = .ok (.iload_n 2, 1) := by decide +kernel
theorem dX10_setCrews_30 : decode cX10_setCrews 30 = .ok (.ireturn, 1) := by decide +kernel
theorem dX10_addPacks_0 : decode cX10_addPacks 0 = .ok (.aload_n 0, 1) := by decide +kernel
theorem dX10_addPacks_1 : decode cX10_addPacks 1 = .ok (.iload_n 1, 1) := by decide +kernel
theorem dX10_addPacks_2 : decode cX10_addPacks 2 = .ok (.invokevirtual 63, 3) := by decide +kernel
theorem dX10_addPacks_5 : decode cX10_addPacks 5 = .ok (.astore_n 3, 1) := by decide +kernel
theorem dX10_addPacks_6 : decode cX10_addPacks 6 = .ok (.iload_n 2, 1) := by decide +kernel
theorem dX10_addPacks_7 : decode cX10_addPacks 7 = .ok (.iconst 1, 1) := by decide +kernel
theorem dX10_addPacks_8 : decode cX10_addPacks 8 = .ok (.bipush 9, 2) := by decide +kernel
theorem dX10_addPacks_10 : decode cX10_addPacks 10 = .ok (.invokestatic 67, 3) := by decide +kernel
theorem dX10_addPacks_13 : decode cX10_addPacks 13 = .ok (.ifCond .eq 13, 3) := by decide +kernel
theorem dX10_addPacks_16 : decode cX10_addPacks 16 = .ok (.new 71, 3) := by decide +kernel
theorem dX10_addPacks_19 : decode cX10_addPacks 19 = .ok (.dup, 1) := by decide +kernel
theorem dX10_addPacks_20 : decode cX10_addPacks 20 = .ok (.ldc 115, 2) := by decide +kernel
theorem dX10_addPacks_22 : decode cX10_addPacks 22 = .ok (.invokespecial 75, 3) := by decide +kernel
theorem dX10_addPacks_25 : decode cX10_addPacks 25 = .ok (.athrow, 1) := by decide +kernel
theorem dX10_addPacks_26 : decode cX10_addPacks 26 = .ok (.aload_n 3, 1) := by decide +kernel
theorem dX10_addPacks_27 : decode cX10_addPacks 27 = .ok (.dup, 1) := by decide +kernel
theorem dX10_addPacks_28 : decode cX10_addPacks 28 = .ok (.getfield 117, 3) := by decide +kernel
theorem dX10_addPacks_31 : decode cX10_addPacks 31 = .ok (.iload_n 2, 1) := by decide +kernel
theorem dX10_addPacks_32 : decode cX10_addPacks 32 = .ok (.iadd, 1) := by decide +kernel
theorem dX10_addPacks_33 : decode cX10_addPacks 33 = .ok (.putfield 117, 3) := by decide +kernel
theorem dX10_addPacks_36 : decode cX10_addPacks 36 = .ok (.aload_n 3, 1) := by decide +kernel
theorem dX10_addPacks_37 : decode cX10_addPacks 37 = .ok (.getfield 117, 3) := by decide +kernel
theorem dX10_addPacks_40 : decode cX10_addPacks 40 = .ok (.ireturn, 1) := by decide +kernel
theorem dX10_brew_0 : decode cX10_brew 0 = .ok (.aload_n 0, 1) := by decide +kernel
theorem dX10_brew_1 : decode cX10_brew 1 = .ok (.iload_n 1, 1) := by decide +kernel
theorem dX10_brew_2 : decode cX10_brew 2 = .ok (.invokevirtual 136, 3) := by decide +kernel
theorem dX10_brew_5 : decode cX10_brew 5 = .ok (.astore_n 3, 1) := by decide +kernel
theorem dX10_brew_6 : decode cX10_brew 6 = .ok (.aload_n 0, 1) := by decide +kernel
theorem dX10_brew_7 : decode cX10_brew 7 = .ok (.iload_n 2, 1) := by decide +kernel
theorem dX10_brew_8 : decode cX10_brew 8 = .ok (.invokevirtual 140, 3) := by decide +kernel
theorem dX10_brew_11 : decode cX10_brew 11 = .ok (.astore 4, 2) := by decide +kernel
theorem dX10_brew_13 : decode cX10_brew 13 = .ok (.aload 4, 2) := by decide +kernel
theorem dX10_brew_15 : decode cX10_brew 15 = .ok (.getfield 144, 3) := by decide +kernel
theorem dX10_brew_18 : decode cX10_brew 18 = .ok (.bipush 116, 2) := by decide +kernel
theorem dX10_brew_20 : decode cX10_brew 20 = .ok (.if_icmp .ne 13, 3) := by decide +kernel
theorem dX10_brew_23 : decode cX10_brew 23 = .ok (.new 148, 3) := by decide +kernel
theorem dX10_brew_26 : decode cX10_brew 26 = .ok (.dup, 1) := by decide +kernel
theorem dX10_brew_27 : decode cX10_brew 27 = .ok (.ldc 150, 2) := by decide +kernel
theorem dX10_brew_29 : decode cX10_brew 29 = .ok (.invokespecial 152, 3) := by decide +kernel
theorem dX10_brew_32 : decode cX10_brew 32 = .ok (.athrow, 1) := by decide +kernel
theorem dX10_brew_33 : decode cX10_brew 33 = .ok (.aload 4, 2) := by decide +kernel
theorem dX10_brew_35 : decode cX10_brew 35 = .ok (.getfield 153, 3) := by decide +kernel
theorem dX10_brew_38 : decode cX10_brew 38 = .ok (.bipush 99, 2) := by decide +kernel
theorem dX10_brew_40 : decode cX10_brew 40 = .ok (.if_icmp .ne 10, 3) := by decide +kernel
theorem dX10_brew_43 : decode cX10_brew 43 = .ok (.aload_n 0, 1) := by decide +kernel
theorem dX10_brew_44 : decode cX10_brew 44 = .ok (.invokevirtual 156, 3) := by decide +kernel
theorem dX10_brew_47 : decode cX10_brew 47 = .ok (.ifCond .eq 13, 3) := by decide +kernel
theorem dX10_brew_50 : decode cX10_brew 50 = .ok (.new 82, 3) := by decide +kernel
theorem dX10_brew_53 : decode cX10_brew 53 = .ok (.dup, 1) := by decide +kernel
theorem dX10_brew_54 : decode cX10_brew 54 = .ok (.ldc 160, 2) := by decide +kernel
theorem dX10_brew_56 : decode cX10_brew 56 = .ok (.invokespecial 86, 3) := by decide +kernel
theorem dX10_brew_59 : decode cX10_brew 59 = .ok (.athrow, 1) := by decide +kernel
theorem dX10_brew_60 : decode cX10_brew 60 = .ok (.aload_n 3, 1) := by decide +kernel
theorem dX10_brew_61 : decode cX10_brew 61 = .ok (.getfield 162, 3) := by decide +kernel
theorem dX10_brew_64 : decode cX10_brew 64 = .ok (.aload_n 0, 1) := by decide +kernel
theorem dX10_brew_65 : decode cX10_brew 65 = .ok (.getfield 51, 3) := by decide +kernel
theorem dX10_brew_68 : decode cX10_brew 68 = .ok (.invokevirtual 124, 3) := by decide +kernel
theorem dX10_brew_71 : decode cX10_brew 71 = .ok (.ifCond .ne 13, 3) := by decide +kernel
theorem dX10_brew_74 : decode cX10_brew 74 = .ok (.new 128, 3) := by decide +kernel
theorem dX10_brew_77 : decode cX10_brew 77 = .ok (.dup, 1) := by decide +kernel
theorem dX10_brew_78 : decode cX10_brew 78 = .ok (.ldc 130, 2) := by decide +kernel
theorem dX10_brew_80 : decode cX10_brew 80 = .ok (.invokespecial 132, 3) := by decide +kernel
theorem dX10_brew_83 : decode cX10_brew 83 = .ok (.athrow, 1) := by decide +kernel
theorem dX10_brew_84 : decode cX10_brew 84 = .ok (.aload_n 0, 1) := by decide +kernel
theorem dX10_brew_85 : decode cX10_brew 85 = .ok (.aload_n 3, 1) := by decide +kernel
theorem dX10_brew_86 : decode cX10_brew 86 = .ok (.aload 4, 2) := by decide +kernel
theorem dX10_brew_88 : decode cX10_brew 88 = .ok (.invokevirtual 166, 3) := by decide +kernel
theorem dX10_brew_91 : decode cX10_brew 91 = .ok (.ireturn, 1) := by decide +kernel
theorem dX10_enqueue_0 : decode cX10_enqueue 0 = .ok (.aload_n 0, 1) := by decide +kernel
theorem dX10_enqueue_1 : decode cX10_enqueue 1 = .ok (.iload_n 1, 1) := by decide +kernel
theorem dX10_enqueue_2 : decode cX10_enqueue 2 = .ok (.invokevirtual 136, 3) := by decide +kernel
theorem dX10_enqueue_5 : decode cX10_enqueue 5 = .ok (.astore_n 2, 1) := by decide +kernel
theorem dX10_enqueue_6 : decode cX10_enqueue 6 = .ok (.aload_n 0, 1) := by decide +kernel
theorem dX10_enqueue_7 : decode cX10_enqueue 7 = .ok (.getfield 25, 3) := by decide +kernel
theorem dX10_enqueue_10 : decode cX10_enqueue 10 = .ok (.invokeinterface 78 1, 5) := by decide +kernel
theorem dX10_enqueue_15 : decode cX10_enqueue 15 = .ok (.bipush 6, 2) := by decide +kernel
theorem dX10_enqueue_17 : decode cX10_enqueue 17 = .ok (.if_icmp .ge 10, 3) := by decide +kernel
theorem dX10_enqueue_20 : decode cX10_enqueue 20 = .ok (.aload_n 0, 1) := by decide +kernel
theorem dX10_enqueue_21 : decode cX10_enqueue 21 = .ok (.invokevirtual 156, 3) := by decide +kernel
theorem dX10_enqueue_24 : decode cX10_enqueue 24 = .ok (.ifCond .eq 13, 3) := by decide +kernel
theorem dX10_enqueue_27 : decode cX10_enqueue 27 = .ok (.new 82, 3) := by decide +kernel
theorem dX10_enqueue_30 : decode cX10_enqueue 30 = .ok (.dup, 1) := by decide +kernel
theorem dX10_enqueue_31 : decode cX10_enqueue 31 = .ok (.ldc 170, 2) := by decide +kernel
theorem dX10_enqueue_33 : decode cX10_enqueue 33 = .ok (.invokespecial 86, 3) := by decide +kernel
theorem dX10_enqueue_36 : decode cX10_enqueue 36 = .ok (.athrow, 1) := by decide +kernel
theorem dX10_enqueue_37 : decode cX10_enqueue 37 = .ok (.aload_n 0, 1) := by decide +kernel
theorem dX10_enqueue_38 : decode cX10_enqueue 38 = .ok (.getfield 25, 3) := by decide +kernel
theorem dX10_enqueue_41 : decode cX10_enqueue 41 = .ok (.aload_n 2, 1) := by decide +kernel
theorem dX10_enqueue_42 : decode cX10_enqueue 42 = .ok (.invokeinterface 57 2, 5) := by decide +kernel
theorem dX10_enqueue_47 : decode cX10_enqueue 47 = .ok (.pop, 1) := by decide +kernel
theorem dX10_enqueue_48 : decode cX10_enqueue 48 = .ok (.aload_n 0, 1) := by decide +kernel
theorem dX10_enqueue_49 : decode cX10_enqueue 49 = .ok (.getfield 25, 3) := by decide +kernel
theorem dX10_enqueue_52 : decode cX10_enqueue 52 = .ok (.invokeinterface 78 1, 5) := by decide +kernel
theorem dX10_enqueue_57 : decode cX10_enqueue 57 = .ok (.ireturn, 1) := by decide +kernel
theorem dX10_withdraw_0 : decode cX10_withdraw 0 = .ok (.aload_n 0, 1) := by decide +kernel
theorem dX10_withdraw_1 : decode cX10_withdraw 1 = .ok (.iload_n 1, 1) := by decide +kernel
theorem dX10_withdraw_2 : decode cX10_withdraw 2 = .ok (.invokevirtual 172, 3) := by decide +kernel
theorem dX10_withdraw_5 : decode cX10_withdraw 5 = .ok (.getfield 92, 3) := by decide +kernel
theorem dX10_withdraw_8 : decode cX10_withdraw 8 = .ok (.istore_n 2, 1) := by decide +kernel
theorem dX10_withdraw_9 : decode cX10_withdraw 9 = .ok (.aload_n 0, 1) := by decide +kernel
theorem dX10_withdraw_10 : decode cX10_withdraw 10 = .ok (.getfield 25, 3) := by decide +kernel
theorem dX10_withdraw_13 : decode cX10_withdraw 13 = .ok (.iload_n 1, 1) := by decide +kernel
theorem dX10_withdraw_14 : decode cX10_withdraw 14 = .ok (.invokeinterface 175 2, 5) := by decide +kernel
theorem dX10_withdraw_19 : decode cX10_withdraw 19 = .ok (.pop, 1) := by decide +kernel
theorem dX10_withdraw_20 : decode cX10_withdraw 20 = .ok (.iload_n 2, 1) := by decide +kernel
theorem dX10_withdraw_21 : decode cX10_withdraw 21 = .ok (.ireturn, 1) := by decide +kernel
theorem dX10_queued_0 : decode cX10_queued 0 = .ok (.aload_n 0, 1) := by decide +kernel
theorem dX10_queued_1 : decode cX10_queued 1 = .ok (.getfield 25, 3) := by decide +kernel
theorem dX10_queued_4 : decode cX10_queued 4 = .ok (.invokeinterface 78 1, 5) := by decide +kernel
theorem dX10_queued_9 : decode cX10_queued 9 = .ok (.ireturn, 1) := by decide +kernel
theorem dX10_queuedAt_0 : decode cX10_queuedAt 0 = .ok (.aload_n 0, 1) := by decide +kernel
theorem dX10_queuedAt_1 : decode cX10_queuedAt 1 = .ok (.iload_n 1, 1) := by decide +kernel
theorem dX10_queuedAt_2 : decode cX10_queuedAt 2 = .ok (.invokevirtual 172, 3) := by decide +kernel
theorem dX10_queuedAt_5 : decode cX10_queuedAt 5 = .ok (.getfield 92, 3) := by decide +kernel
theorem dX10_queuedAt_8 : decode cX10_queuedAt 8 = .ok (.ireturn, 1) := by decide +kernel
theorem dX10_forecast_0 : decode cX10_forecast 0 = .ok (.aload_n 0, 1) := by decide +kernel
theorem dX10_forecast_1 : decode cX10_forecast 1 = .ok (.invokevirtual 179, 3) := by decide +kernel
theorem dX10_forecast_4 : decode cX10_forecast 4 = .ok (.aload_n 0, 1) := by decide +kernel
theorem dX10_forecast_5 : decode cX10_forecast 5 = .ok (.getfield 43, 3) := by decide +kernel
theorem dX10_forecast_8 : decode cX10_forecast 8 = .ok (.aload_n 0, 1) := by decide +kernel
theorem dX10_forecast_9 : decode cX10_forecast 9 = .ok (.getfield 25, 3) := by decide +kernel
theorem dX10_forecast_12 : decode cX10_forecast 12 = .ok (.aload_n 0, 1) := by decide +kernel
theorem dX10_forecast_13 : decode cX10_forecast 13 = .ok (.getfield 51, 3) := by decide +kernel
theorem dX10_forecast_16 : decode cX10_forecast 16 = .ok (.invokevirtual 182, 3) := by decide +kernel
theorem dX10_forecast_19 : decode cX10_forecast 19 = .ok (.ireturn, 1) := by decide +kernel
theorem dX10_bestForecast_0 : decode cX10_bestForecast 0 = .ok (.aload_n 0, 1) := by decide +kernel
theorem dX10_bestForecast_1 : decode cX10_bestForecast 1 = .ok (.invokevirtual 179, 3) := by decide +kernel
theorem dX10_bestForecast_4 : decode cX10_bestForecast 4 = .ok (.aload_n 0, 1) := by decide +kernel
theorem dX10_bestForecast_5 : decode cX10_bestForecast 5 = .ok (.getfield 43, 3) := by decide +kernel
theorem dX10_bestForecast_8 : decode cX10_bestForecast 8 = .ok (.aload_n 0, 1) := by decide +kernel
theorem dX10_bestForecast_9 : decode cX10_bestForecast 9 = .ok (.getfield 25, 3) := by decide +kernel
theorem dX10_bestForecast_12 : decode cX10_bestForecast 12 = .ok (.aload_n 0, 1) := by decide +kernel
theorem dX10_bestForecast_13 : decode cX10_bestForecast 13 = .ok (.getfield 51, 3) := by decide +kernel
theorem dX10_bestForecast_16 : decode cX10_bestForecast 16 = .ok (.invokevirtual 186, 3) := by decide +kernel
theorem dX10_bestForecast_19 : decode cX10_bestForecast 19 = .ok (.ireturn, 1) := by decide +kernel
theorem dX10_bestForecastByTrying_0 : decode cX10_bestForecastByTrying 0 = .ok (.aload_n 0, 1) := by decide +kernel
theorem dX10_bestForecastByTrying_1 : decode cX10_bestForecastByTrying 1 = .ok (.invokevirtual 179, 3) := by decide +kernel
theorem dX10_bestForecastByTrying_4 : decode cX10_bestForecastByTrying 4 = .ok (.aload_n 0, 1) := by decide +kernel
theorem dX10_bestForecastByTrying_5 : decode cX10_bestForecastByTrying 5 = .ok (.getfield 43, 3) := by decide +kernel
theorem dX10_bestForecastByTrying_8 : decode cX10_bestForecastByTrying 8 = .ok (.aload_n 0, 1) := by decide +kernel
theorem dX10_bestForecastByTrying_9 : decode cX10_bestForecastByTrying 9 = .ok (.getfield 25, 3) := by decide +kernel
theorem dX10_bestForecastByTrying_12 : decode cX10_bestForecastByTrying 12 = .ok (.aload_n 0, 1) := by decide +kernel
theorem dX10_bestForecastByTrying_13 : decode cX10_bestForecastByTrying 13 = .ok (.getfield 51, 3) := by decide +kernel
theorem dX10_bestForecastByTrying_16 : decode cX10_bestForecastByTrying 16 = .ok (.invokevirtual 189, 3) := by decide +kernel
theorem dX10_bestForecastByTrying_19 : decode cX10_bestForecastByTrying 19 = .ok (.ireturn, 1) := by decide +kernel
theorem dX10_improve_0 : decode cX10_improve 0 = .ok (.aload_n 0, 1) := by decide +kernel
theorem dX10_improve_1 : decode cX10_improve 1 = .ok (.invokevirtual 179, 3) := by decide +kernel
theorem dX10_improve_4 : decode cX10_improve 4 = .ok (.aload_n 0, 1) := by decide +kernel
theorem dX10_improve_5 : decode cX10_improve 5 = .ok (.getfield 43, 3) := by decide +kernel
theorem dX10_improve_8 : decode cX10_improve 8 = .ok (.aload_n 0, 1) := by decide +kernel
theorem dX10_improve_9 : decode cX10_improve 9 = .ok (.getfield 25, 3) := by decide +kernel
theorem dX10_improve_12 : decode cX10_improve 12 = .ok (.aload_n 0, 1) := by decide +kernel
theorem dX10_improve_13 : decode cX10_improve 13 = .ok (.getfield 51, 3) := by decide +kernel
theorem dX10_improve_16 : decode cX10_improve 16 = .ok (.invokevirtual 182, 3) := by decide +kernel
theorem dX10_improve_19 : decode cX10_improve 19 = .ok (.istore_n 1, 1) := by decide +kernel
theorem dX10_improve_20 : decode cX10_improve 20 = .ok (.aload_n 0, 1) := by decide +kernel
theorem dX10_improve_21 : decode cX10_improve 21 = .ok (.getfield 43, 3) := by decide +kernel
theorem dX10_improve_24 : decode cX10_improve 24 = .ok (.aload_n 0, 1) := by decide +kernel
theorem dX10_improve_25 : decode cX10_improve 25 = .ok (.getfield 25, 3) := by decide +kernel
theorem dX10_improve_28 : decode cX10_improve 28 = .ok (.aload_n 0, 1) := by decide +kernel
theorem dX10_improve_29 : decode cX10_improve 29 = .ok (.getfield 51, 3) := by decide +kernel
theorem dX10_improve_32 : decode cX10_improve 32 = .ok (.invokevirtual 186, 3) := by decide +kernel
theorem dX10_improve_35 : decode cX10_improve 35 = .ok (.istore_n 2, 1) := by decide +kernel
theorem dX10_improve_36 : decode cX10_improve 36 = .ok (.aload_n 0, 1) := by decide +kernel
theorem dX10_improve_37 : decode cX10_improve 37 = .ok (.getfield 43, 3) := by decide +kernel
theorem dX10_improve_40 : decode cX10_improve 40 = .ok (.getfield 192, 3) := by decide +kernel
theorem dX10_improve_43 : decode cX10_improve 43 = .ok (.aload_n 0, 1) := by decide +kernel
theorem dX10_improve_44 : decode cX10_improve 44 = .ok (.getfield 25, 3) := by decide +kernel
theorem dX10_improve_47 : decode cX10_improve 47 = .ok (.invokestatic 195, 3) := by decide +kernel
theorem dX10_improve_50 : decode cX10_improve 50 = .ok (.iload_n 1, 1) := by decide +kernel
theorem dX10_improve_51 : decode cX10_improve 51 = .ok (.iload_n 2, 1) := by decide +kernel
theorem dX10_improve_52 : decode cX10_improve 52 = .ok (.isub, 1) := by decide +kernel
theorem dX10_improve_53 : decode cX10_improve 53 = .ok (.ireturn, 1) := by decide +kernel
theorem dX10_order_0 : decode cX10_order 0 = .ok (.aload_n 0, 1) := by decide +kernel
theorem dX10_order_1 : decode cX10_order 1 = .ok (.iload_n 1, 1) := by decide +kernel
theorem dX10_order_2 : decode cX10_order 2 = .ok (.invokevirtual 136, 3) := by decide +kernel
theorem dX10_order_5 : decode cX10_order 5 = .ok (.astore 4, 2) := by decide +kernel
theorem dX10_order_7 : decode cX10_order 7 = .ok (.iload_n 2, 1) := by decide +kernel
theorem dX10_order_8 : decode cX10_order 8 = .ok (.iconst 1, 1) := by decide +kernel
theorem dX10_order_9 : decode cX10_order 9 = .ok (.bipush 40, 2) := by decide +kernel
theorem dX10_order_11 : decode cX10_order 11 = .ok (.invokestatic 67, 3) := by decide +kernel
theorem dX10_order_14 : decode cX10_order 14 = .ok (.ifCond .ne 21, 3) := by decide +kernel
theorem dX10_order_17 : decode cX10_order 17 = .ok (.iload_n 3, 1) := by decide +kernel
theorem dX10_order_18 : decode cX10_order 18 = .ok (.aload_n 0, 1) := by decide +kernel
theorem dX10_order_19 : decode cX10_order 19 = .ok (.getfield 51, 3) := by decide +kernel
theorem dX10_order_22 : decode cX10_order 22 = .ok (.aload_n 0, 1) := by decide +kernel
theorem dX10_order_23 : decode cX10_order 23 = .ok (.getfield 51, 3) := by decide +kernel
theorem dX10_order_26 : decode cX10_order 26 = .ok (.bipush 99, 2) := by decide +kernel
theorem dX10_order_28 : decode cX10_order 28 = .ok (.iadd, 1) := by decide +kernel
theorem dX10_order_29 : decode cX10_order 29 = .ok (.invokestatic 67, 3) := by decide +kernel
theorem dX10_order_32 : decode cX10_order 32 = .ok (.ifCond .eq 13, 3) := by decide +kernel
theorem dX10_order_35 : decode cX10_order 35 = .ok (.new 71, 3) := by decide +kernel
theorem dX10_order_38 : decode cX10_order 38 = .ok (.dup, 1) := by decide +kernel
theorem dX10_order_39 : decode cX10_order 39 = .ok (.ldc 199, 2) := by decide +kernel
theorem dX10_order_41 : decode cX10_order 41 = .ok (.invokespecial 75, 3) := by decide +kernel
theorem dX10_order_44 : decode cX10_order 44 = .ok (.athrow, 1) := by decide +kernel
theorem dX10_order_45 : decode cX10_order 45 = .ok (.aload_n 0, 1) := by decide +kernel
theorem dX10_order_46 : decode cX10_order 46 = .ok (.getfield 28, 3) := by decide +kernel
theorem dX10_order_49 : decode cX10_order 49 = .ok (.invokeinterface 78 1, 5) := by decide +kernel
theorem dX10_order_54 : decode cX10_order 54 = .ok (.bipush 20, 2) := by decide +kernel
theorem dX10_order_56 : decode cX10_order 56 = .ok (.if_icmp .lt 13, 3) := by decide +kernel
theorem dX10_order_59 : decode cX10_order 59 = .ok (.new 82, 3) := by decide +kernel
theorem dX10_order_62 : decode cX10_order 62 = .ok (.dup, 1) := by decide +kernel
theorem dX10_order_63 : decode cX10_order 63 = .ok (.ldc 201, 2) := by decide +kernel
theorem dX10_order_65 : decode cX10_order 65 = .ok (.invokespecial 86, 3) := by decide +kernel
theorem dX10_order_68 : decode cX10_order 68 = .ok (.athrow, 1) := by decide +kernel
theorem dX10_order_69 : decode cX10_order 69 = .ok (.new 203, 3) := by decide +kernel
theorem dX10_order_72 : decode cX10_order 72 = .ok (.dup, 1) := by decide +kernel
theorem dX10_order_73 : decode cX10_order 73 = .ok (.aload_n 0, 1) := by decide +kernel
theorem dX10_order_74 : decode cX10_order 74 = .ok (.getfield 28, 3) := by decide +kernel
theorem dX10_order_77 : decode cX10_order 77 = .ok (.invokeinterface 78 1, 5) := by decide +kernel
theorem dX10_order_82 : decode cX10_order 82 = .ok (.iload_n 3, 1) := by decide +kernel
theorem dX10_order_83 : decode cX10_order 83 = .ok (.invokespecial 205, 3) := by decide +kernel
theorem dX10_order_86 : decode cX10_order 86 = .ok (.astore 5, 2) := by decide +kernel
theorem dX10_order_88 : decode cX10_order 88 = .ok (.aload 5, 2) := by decide +kernel
theorem dX10_order_90 : decode cX10_order 90 = .ok (.getfield 208, 3) := by decide +kernel
theorem dX10_order_93 : decode cX10_order 93 = .ok (.new 211, 3) := by decide +kernel
theorem dX10_order_96 : decode cX10_order 96 = .ok (.dup, 1) := by decide +kernel
theorem dX10_order_97 : decode cX10_order 97 = .ok (.aload 4, 2) := by decide +kernel
theorem dX10_order_99 : decode cX10_order 99 = .ok (.iload_n 2, 1) := by decide +kernel
theorem dX10_order_100 : decode cX10_order 100 = .ok (.invokespecial 213, 3) := by decide +kernel
theorem dX10_order_103 : decode cX10_order 103 = .ok (.invokeinterface 57 2, 5) := by decide +kernel
theorem dX10_order_108 : decode cX10_order 108 = .ok (.pop, 1) := by decide +kernel
theorem dX10_order_109 : decode cX10_order 109 = .ok (.aload_n 0, 1) := by decide +kernel
theorem dX10_order_110 : decode cX10_order 110 = .ok (.getfield 28, 3) := by decide +kernel
theorem dX10_order_113 : decode cX10_order 113 = .ok (.aload 5, 2) := by decide +kernel
theorem dX10_order_115 : decode cX10_order 115 = .ok (.invokeinterface 57 2, 5) := by decide +kernel
theorem dX10_order_120 : decode cX10_order 120 = .ok (.pop, 1) := by decide +kernel
theorem dX10_order_121 : decode cX10_order 121 = .ok (.aload_n 0, 1) := by decide +kernel
theorem dX10_order_122 : decode cX10_order 122 = .ok (.aload 5, 2) := by decide +kernel
theorem dX10_order_124 : decode cX10_order 124 = .ok (.invokevirtual 216, 3) := by decide +kernel
theorem dX10_order_127 : decode cX10_order 127 = .ok (.aload 5, 2) := by decide +kernel
theorem dX10_order_129 : decode cX10_order 129 = .ok (.getfield 220, 3) := by decide +kernel
theorem dX10_order_132 : decode cX10_order 132 = .ok (.ireturn, 1) := by decide +kernel
theorem dX10_blend_0 : decode cX10_blend 0 = .ok (.aload_n 0, 1) := by decide +kernel
theorem dX10_blend_1 : decode cX10_blend 1 = .ok (.iload_n 1, 1) := by decide +kernel
theorem dX10_blend_2 : decode cX10_blend 2 = .ok (.invokevirtual 221, 3) := by decide +kernel
theorem dX10_blend_5 : decode cX10_blend 5 = .ok (.astore 4, 2) := by decide +kernel
theorem dX10_blend_7 : decode cX10_blend 7 = .ok (.aload_n 0, 1) := by decide +kernel
theorem dX10_blend_8 : decode cX10_blend 8 = .ok (.iload_n 2, 1) := by decide +kernel
theorem dX10_blend_9 : decode cX10_blend 9 = .ok (.invokevirtual 136, 3) := by decide +kernel
theorem dX10_blend_12 : decode cX10_blend 12 = .ok (.astore 5, 2) := by decide +kernel
theorem dX10_blend_14 : decode cX10_blend 14 = .ok (.iload_n 3, 1) := by decide +kernel
theorem dX10_blend_15 : decode cX10_blend 15 = .ok (.iconst 1, 1) := by decide +kernel
theorem dX10_blend_16 : decode cX10_blend 16 = .ok (.bipush 40, 2) := by decide +kernel
theorem dX10_blend_18 : decode cX10_blend 18 = .ok (.invokestatic 67, 3) := by decide +kernel
theorem dX10_blend_21 : decode cX10_blend 21 = .ok (.ifCond .eq 13, 3) := by decide +kernel
theorem dX10_blend_24 : decode cX10_blend 24 = .ok (.new 71, 3) := by decide +kernel
theorem dX10_blend_27 : decode cX10_blend 27 = .ok (.dup, 1) := by decide +kernel
theorem dX10_blend_28 : decode cX10_blend 28 = .ok (.ldc 225, 2) := by decide +kernel
theorem dX10_blend_30 : decode cX10_blend 30 = .ok (.invokespecial 75, 3) := by decide +kernel
theorem dX10_blend_33 : decode cX10_blend 33 = .ok (.athrow, 1) := by decide +kernel
theorem dX10_blend_34 : decode cX10_blend 34 = .ok (.aload 4, 2) := by decide +kernel
theorem dX10_blend_36 : decode cX10_blend 36 = .ok (.getfield 227, 3) := by decide +kernel
theorem dX10_blend_39 : decode cX10_blend 39 = .ok (.bipush 111, 2) := by decide +kernel
theorem dX10_blend_41 : decode cX10_blend 41 = .ok (.if_icmp .ne 17, 3) := by decide +kernel
theorem dX10_blend_44 : decode cX10_blend 44 = .ok (.aload 4, 2) := by decide +kernel
theorem dX10_blend_46 : decode cX10_blend 46 = .ok (.getfield 208, 3) := by decide +kernel
theorem dX10_blend_49 : decode cX10_blend 49 = .ok (.invokeinterface 78 1, 5) := by decide +kernel
theorem dX10_blend_54 : decode cX10_blend 54 = .ok (.iconst 4, 1) := by decide +kernel
theorem dX10_blend_55 : decode cX10_blend 55 = .ok (.if_icmp .lt 13, 3) := by decide +kernel
theorem dX10_blend_58 : decode cX10_blend 58 = .ok (.new 82, 3) := by decide +kernel
theorem dX10_blend_61 : decode cX10_blend 61 = .ok (.dup, 1) := by decide +kernel
theorem dX10_blend_62 : decode cX10_blend 62 = .ok (.ldc 230, 2) := by decide +kernel
theorem dX10_blend_64 : decode cX10_blend 64 = .ok (.invokespecial 86, 3) := by decide +kernel
theorem dX10_blend_67 : decode cX10_blend 67 = .ok (.athrow, 1) := by decide +kernel
theorem dX10_blend_68 : decode cX10_blend 68 = .ok (.aload 4, 2) := by decide +kernel
theorem dX10_blend_70 : decode cX10_blend 70 = .ok (.getfield 208, 3) := by decide +kernel
theorem dX10_blend_73 : decode cX10_blend 73 = .ok (.new 211, 3) := by decide +kernel
theorem dX10_blend_76 : decode cX10_blend 76 = .ok (.dup, 1) := by decide +kernel
theorem dX10_blend_77 : decode cX10_blend 77 = .ok (.aload 5, 2) := by decide +kernel
theorem dX10_blend_79 : decode cX10_blend 79 = .ok (.iload_n 3, 1) := by decide +kernel
theorem dX10_blend_80 : decode cX10_blend 80 = .ok (.invokespecial 213, 3) := by decide +kernel
theorem dX10_blend_83 : decode cX10_blend 83 = .ok (.invokeinterface 57 2, 5) := by decide +kernel
theorem dX10_blend_88 : decode cX10_blend 88 = .ok (.pop, 1) := by decide +kernel
theorem dX10_blend_89 : decode cX10_blend 89 = .ok (.aload 4, 2) := by decide +kernel
theorem dX10_blend_91 : decode cX10_blend 91 = .ok (.getfield 208, 3) := by decide +kernel
theorem dX10_blend_94 : decode cX10_blend 94 = .ok (.invokeinterface 78 1, 5) := by decide +kernel
theorem dX10_blend_99 : decode cX10_blend 99 = .ok (.ireturn, 1) := by decide +kernel
theorem dX10_cancel_0 : decode cX10_cancel 0 = .ok (.aload_n 0, 1) := by decide +kernel
theorem dX10_cancel_1 : decode cX10_cancel 1 = .ok (.iload_n 1, 1) := by decide +kernel
theorem dX10_cancel_2 : decode cX10_cancel 2 = .ok (.invokevirtual 221, 3) := by decide +kernel
theorem dX10_cancel_5 : decode cX10_cancel 5 = .ok (.astore_n 2, 1) := by decide +kernel
theorem dX10_cancel_6 : decode cX10_cancel 6 = .ok (.aload_n 2, 1) := by decide +kernel
theorem dX10_cancel_7 : decode cX10_cancel 7 = .ok (.getfield 227, 3) := by decide +kernel
theorem dX10_cancel_10 : decode cX10_cancel 10 = .ok (.bipush 111, 2) := by decide +kernel
theorem dX10_cancel_12 : decode cX10_cancel 12 = .ok (.if_icmp .eq 13, 3) := by decide +kernel
theorem dX10_cancel_15 : decode cX10_cancel 15 = .ok (.new 82, 3) := by decide +kernel
theorem dX10_cancel_18 : decode cX10_cancel 18 = .ok (.dup, 1) := by decide +kernel
theorem dX10_cancel_19 : decode cX10_cancel 19 = .ok (.ldc 232, 2) := by decide +kernel
theorem dX10_cancel_21 : decode cX10_cancel 21 = .ok (.invokespecial 86, 3) := by decide +kernel
theorem dX10_cancel_24 : decode cX10_cancel 24 = .ok (.athrow, 1) := by decide +kernel
theorem dX10_cancel_25 : decode cX10_cancel 25 = .ok (.aload_n 2, 1) := by decide +kernel
theorem dX10_cancel_26 : decode cX10_cancel 26 = .ok (.bipush 99, 2) := by decide +kernel
theorem dX10_cancel_28 : decode cX10_cancel 28 = .ok (.putfield 227, 3) := by decide +kernel
theorem dX10_cancel_31 : decode cX10_cancel 31 = .ok (.aload_n 2, 1) := by decide +kernel
theorem dX10_cancel_32 : decode cX10_cancel 32 = .ok (.invokevirtual 234, 3) := by decide +kernel
theorem dX10_cancel_35 : decode cX10_cancel 35 = .ok (.ireturn, 1) := by decide +kernel
theorem dX10_status_0 : decode cX10_status 0 = .ok (.aload_n 0, 1) := by decide +kernel
theorem dX10_status_1 : decode cX10_status 1 = .ok (.iload_n 1, 1) := by decide +kernel
theorem dX10_status_2 : decode cX10_status 2 = .ok (.invokevirtual 221, 3) := by decide +kernel
theorem dX10_status_5 : decode cX10_status 5 = .ok (.getfield 227, 3) := by decide +kernel
theorem dX10_status_8 : decode cX10_status 8 = .ok (.ireturn, 1) := by decide +kernel
theorem dX10_filledOn_0 : decode cX10_filledOn 0 = .ok (.aload_n 0, 1) := by decide +kernel
theorem dX10_filledOn_1 : decode cX10_filledOn 1 = .ok (.iload_n 1, 1) := by decide +kernel
theorem dX10_filledOn_2 : decode cX10_filledOn 2 = .ok (.invokevirtual 221, 3) := by decide +kernel
theorem dX10_filledOn_5 : decode cX10_filledOn 5 = .ok (.astore_n 2, 1) := by decide +kernel
theorem dX10_filledOn_6 : decode cX10_filledOn 6 = .ok (.aload_n 2, 1) := by decide +kernel
theorem dX10_filledOn_7 : decode cX10_filledOn 7 = .ok (.getfield 227, 3) := by decide +kernel
theorem dX10_filledOn_10 : decode cX10_filledOn 10 = .ok (.bipush 102, 2) := by decide +kernel
theorem dX10_filledOn_12 : decode cX10_filledOn 12 = .ok (.if_icmp .eq 13, 3) := by decide +kernel
theorem dX10_filledOn_15 : decode cX10_filledOn 15 = .ok (.new 82, 3) := by decide +kernel
theorem dX10_filledOn_18 : decode cX10_filledOn 18 = .ok (.dup, 1) := by decide +kernel
theorem dX10_filledOn_19 : decode cX10_filledOn 19 = .ok (.ldc 237, 2) := by decide +kernel
theorem dX10_filledOn_21 : decode cX10_filledOn 21 = .ok (.invokespecial 86, 3) := by decide +kernel
theorem dX10_filledOn_24 : decode cX10_filledOn 24 = .ok (.athrow, 1) := by decide +kernel
theorem dX10_filledOn_25 : decode cX10_filledOn 25 = .ok (.aload_n 2, 1) := by decide +kernel
theorem dX10_filledOn_26 : decode cX10_filledOn 26 = .ok (.getfield 239, 3) := by decide +kernel
theorem dX10_filledOn_29 : decode cX10_filledOn 29 = .ok (.ireturn, 1) := by decide +kernel
theorem dX10_onTime_0 : decode cX10_onTime 0 = .ok (.iconst 0, 1) := by decide +kernel
theorem dX10_onTime_1 : decode cX10_onTime 1 = .ok (.istore_n 1, 1) := by decide +kernel
theorem dX10_onTime_2 : decode cX10_onTime 2 = .ok (.iconst 0, 1) := by decide +kernel
theorem dX10_onTime_3 : decode cX10_onTime 3 = .ok (.istore_n 2, 1) := by decide +kernel
theorem dX10_onTime_4 : decode cX10_onTime 4 = .ok (.iconst 0, 1) := by decide +kernel
theorem dX10_onTime_5 : decode cX10_onTime 5 = .ok (.istore_n 3, 1) := by decide +kernel
theorem dX10_onTime_6 : decode cX10_onTime 6 = .ok (.iload_n 3, 1) := by decide +kernel
theorem dX10_onTime_7 : decode cX10_onTime 7 = .ok (.aload_n 0, 1) := by decide +kernel
theorem dX10_onTime_8 : decode cX10_onTime 8 = .ok (.getfield 28, 3) := by decide +kernel
theorem dX10_onTime_11 : decode cX10_onTime 11 = .ok (.invokeinterface 78 1, 5) := by decide +kernel
theorem dX10_onTime_16 : decode cX10_onTime 16 = .ok (.if_icmp .ge 58, 3) := by decide +kernel
theorem dX10_onTime_19 : decode cX10_onTime 19 = .ok (.aload_n 0, 1) := by decide +kernel
theorem dX10_onTime_20 : decode cX10_onTime 20 = .ok (.getfield 28, 3) := by decide +kernel
theorem dX10_onTime_23 : decode cX10_onTime 23 = .ok (.iload_n 3, 1) := by decide +kernel
theorem dX10_onTime_24 : decode cX10_onTime 24 = .ok (.invokeinterface 242 2, 5) := by decide +kernel
theorem dX10_onTime_29 : decode cX10_onTime 29 = .ok (.checkcast 203, 3) := by decide +kernel
theorem dX10_onTime_32 : decode cX10_onTime 32 = .ok (.astore 4, 2) := by decide +kernel
theorem dX10_onTime_34 : decode cX10_onTime 34 = .ok (.aload 4, 2) := by decide +kernel
theorem dX10_onTime_36 : decode cX10_onTime 36 = .ok (.getfield 227, 3) := by decide +kernel
theorem dX10_onTime_39 : decode cX10_onTime 39 = .ok (.bipush 102, 2) := by decide +kernel
theorem dX10_onTime_41 : decode cX10_onTime 41 = .ok (.if_icmp .ne 27, 3) := by decide +kernel
theorem dX10_onTime_44 : decode cX10_onTime 44 = .ok (.iinc 1 1, 3) := by decide +kernel
theorem dX10_onTime_47 : decode cX10_onTime 47 = .ok (.iload_n 2, 1) := by decide +kernel
theorem dX10_onTime_48 : decode cX10_onTime 48 = .ok (.aload 4, 2) := by decide +kernel
theorem dX10_onTime_50 : decode cX10_onTime 50 = .ok (.getfield 239, 3) := by decide +kernel
theorem dX10_onTime_53 : decode cX10_onTime 53 = .ok (.aload 4, 2) := by decide +kernel
theorem dX10_onTime_55 : decode cX10_onTime 55 = .ok (.getfield 245, 3) := by decide +kernel
theorem dX10_onTime_58 : decode cX10_onTime 58 = .ok (.if_icmp .gt 7, 3) := by decide +kernel
theorem dX10_onTime_61 : decode cX10_onTime 61 = .ok (.iconst 1, 1) := by decide +kernel
theorem dX10_onTime_62 : decode cX10_onTime 62 = .ok (.goto 4, 3) := by decide +kernel
theorem dX10_onTime_65 : decode cX10_onTime 65 = .ok (.iconst 0, 1) := by decide +kernel
theorem dX10_onTime_66 : decode cX10_onTime 66 = .ok (.iadd, 1) := by decide +kernel
theorem dX10_onTime_67 : decode cX10_onTime 67 = .ok (.istore_n 2, 1) := by decide +kernel
theorem dX10_onTime_68 : decode cX10_onTime 68 = .ok (.iinc 3 1, 3) := by decide +kernel
theorem dX10_onTime_71 : decode cX10_onTime 71 = .ok (.goto (-65), 3) := by decide +kernel
theorem dX10_onTime_74 : decode cX10_onTime 74 = .ok (.iload_n 1, 1) := by decide +kernel
theorem dX10_onTime_75 : decode cX10_onTime 75 = .ok (.ifCond .ne 13, 3) := by decide +kernel
theorem dX10_onTime_78 : decode cX10_onTime 78 = .ok (.new 128, 3) := by decide +kernel
theorem dX10_onTime_81 : decode cX10_onTime 81 = .ok (.dup, 1) := by decide +kernel
theorem dX10_onTime_82 : decode cX10_onTime 82 = .ok (.ldc 248, 2) := by decide +kernel
theorem dX10_onTime_84 : decode cX10_onTime 84 = .ok (.invokespecial 132, 3) := by decide +kernel
theorem dX10_onTime_87 : decode cX10_onTime 87 = .ok (.athrow, 1) := by decide +kernel
theorem dX10_onTime_88 : decode cX10_onTime 88 = .ok (.iload_n 2, 1) := by decide +kernel
theorem dX10_onTime_89 : decode cX10_onTime 89 = .ok (.i2f, 1) := by decide +kernel
theorem dX10_onTime_90 : decode cX10_onTime 90 = .ok (.iload_n 1, 1) := by decide +kernel
theorem dX10_onTime_91 : decode cX10_onTime 91 = .ok (.i2f, 1) := by decide +kernel
theorem dX10_onTime_92 : decode cX10_onTime 92 = .ok (.fdiv, 1) := by decide +kernel
theorem dX10_onTime_93 : decode cX10_onTime 93 = .ok (.freturn, 1) := by decide +kernel
theorem dX10_pass_0 : decode cX10_pass 0 = .ok (.iload_n 1, 1) := by decide +kernel
theorem dX10_pass_1 : decode cX10_pass 1 = .ok (.iconst 1, 1) := by decide +kernel
theorem dX10_pass_2 : decode cX10_pass 2 = .ok (.bipush 30, 2) := by decide +kernel
theorem dX10_pass_4 : decode cX10_pass 4 = .ok (.invokestatic 67, 3) := by decide +kernel
theorem dX10_pass_7 : decode cX10_pass 7 = .ok (.ifCond .eq 13, 3) := by decide +kernel
theorem dX10_pass_10 : decode cX10_pass 10 = .ok (.new 71, 3) := by decide +kernel
theorem dX10_pass_13 : decode cX10_pass 13 = .ok (.dup, 1) := by decide +kernel
theorem dX10_pass_14 : decode cX10_pass 14 = .ok (.ldc 73, 2) := by decide +kernel
theorem dX10_pass_16 : decode cX10_pass 16 = .ok (.invokespecial 75, 3) := by decide +kernel
theorem dX10_pass_19 : decode cX10_pass 19 = .ok (.athrow, 1) := by decide +kernel
theorem dX10_pass_20 : decode cX10_pass 20 = .ok (.iconst 0, 1) := by decide +kernel
theorem dX10_pass_21 : decode cX10_pass 21 = .ok (.istore_n 2, 1) := by decide +kernel
theorem dX10_pass_22 : decode cX10_pass 22 = .ok (.iconst 0, 1) := by decide +kernel
theorem dX10_pass_23 : decode cX10_pass 23 = .ok (.istore_n 3, 1) := by decide +kernel
theorem dX10_pass_24 : decode cX10_pass 24 = .ok (.iload_n 3, 1) := by decide +kernel
theorem dX10_pass_25 : decode cX10_pass 25 = .ok (.iload_n 1, 1) := by decide +kernel
theorem dX10_pass_26 : decode cX10_pass 26 = .ok (.if_icmp .ge 16, 3) := by decide +kernel
theorem dX10_pass_29 : decode cX10_pass 29 = .ok (.iload_n 2, 1) := by decide +kernel
theorem dX10_pass_30 : decode cX10_pass 30 = .ok (.aload_n 0, 1) := by decide +kernel
theorem dX10_pass_31 : decode cX10_pass 31 = .ok (.invokevirtual 250, 3) := by decide +kernel
theorem dX10_pass_34 : decode cX10_pass 34 = .ok (.iadd, 1) := by decide +kernel
theorem dX10_pass_35 : decode cX10_pass 35 = .ok (.istore_n 2, 1) := by decide +kernel
theorem dX10_pass_36 : decode cX10_pass 36 = .ok (.iinc 3 1, 3) := by decide +kernel
theorem dX10_pass_39 : decode cX10_pass 39 = .ok (.goto (-15), 3) := by decide +kernel
theorem dX10_pass_42 : decode cX10_pass 42 = .ok (.iload_n 2, 1) := by decide +kernel
theorem dX10_pass_43 : decode cX10_pass 43 = .ok (.ireturn, 1) := by decide +kernel
theorem dX10_day_0 : decode cX10_day 0 = .ok (.aload_n 0, 1) := by decide +kernel
theorem dX10_day_1 : decode cX10_day 1 = .ok (.getfield 51, 3) := by decide +kernel
theorem dX10_day_4 : decode cX10_day 4 = .ok (.ireturn, 1) := by decide +kernel
theorem dX10_state_0 : decode cX10_state 0 = .ok (.aload_n 0, 1) := by decide +kernel
theorem dX10_state_1 : decode cX10_state 1 = .ok (.iload_n 1, 1) := by decide +kernel
theorem dX10_state_2 : decode cX10_state 2 = .ok (.invokevirtual 140, 3) := by decide +kernel
theorem dX10_state_5 : decode cX10_state 5 = .ok (.getfield 153, 3) := by decide +kernel
theorem dX10_state_8 : decode cX10_state 8 = .ok (.ireturn, 1) := by decide +kernel
theorem dX10_brewIn_0 : decode cX10_brewIn 0 = .ok (.aload_n 0, 1) := by decide +kernel
theorem dX10_brewIn_1 : decode cX10_brewIn 1 = .ok (.iload_n 1, 1) := by decide +kernel
theorem dX10_brewIn_2 : decode cX10_brewIn 2 = .ok (.invokevirtual 140, 3) := by decide +kernel
theorem dX10_brewIn_5 : decode cX10_brewIn 5 = .ok (.getfield 253, 3) := by decide +kernel
theorem dX10_brewIn_8 : decode cX10_brewIn 8 = .ok (.astore_n 2, 1) := by decide +kernel
theorem dX10_brewIn_9 : decode cX10_brewIn 9 = .ok (.aload_n 2, 1) := by decide +kernel
theorem dX10_brewIn_10 : decode cX10_brewIn 10 = .ok (.ifnonnull 14, 3) := by decide +kernel
theorem dX10_brewIn_13 : decode cX10_brewIn 13 = .ok (.new 128, 3) := by decide +kernel
theorem dX10_brewIn_16 : decode cX10_brewIn 16 = .ok (.dup, 1) := by decide +kernel
theorem dX10_brewIn_17 : decode cX10_brewIn 17 = .ok (.ldc_w 257, 3) := by decide +kernel
theorem dX10_brewIn_20 : decode cX10_brewIn 20 = .ok (.invokespecial 132, 3) := by decide +kernel
theorem dX10_brewIn_23 : decode cX10_brewIn 23 = .ok (.athrow, 1) := by decide +kernel
theorem dX10_brewIn_24 : decode cX10_brewIn 24 = .ok (.aload_n 2, 1) := by decide +kernel
theorem dX10_brewIn_25 : decode cX10_brewIn 25 = .ok (.getfield 259, 3) := by decide +kernel
theorem dX10_brewIn_28 : decode cX10_brewIn 28 = .ok (.ireturn, 1) := by decide +kernel
theorem dX10_cleanDay_0 : decode cX10_cleanDay 0 = .ok (.aload_n 0, 1) := by decide +kernel
theorem dX10_cleanDay_1 : decode cX10_cleanDay 1 = .ok (.iload_n 1, 1) := by decide +kernel
theorem dX10_cleanDay_2 : decode cX10_cleanDay 2 = .ok (.invokevirtual 140, 3) := by decide +kernel
theorem dX10_cleanDay_5 : decode cX10_cleanDay 5 = .ok (.astore_n 2, 1) := by decide +kernel
theorem dX10_cleanDay_6 : decode cX10_cleanDay 6 = .ok (.aload_n 2, 1) := by decide +kernel
theorem dX10_cleanDay_7 : decode cX10_cleanDay 7 = .ok (.getfield 153, 3) := by decide +kernel
theorem dX10_cleanDay_10 : decode cX10_cleanDay 10 = .ok (.bipush 103, 2) := by decide +kernel
theorem dX10_cleanDay_12 : decode cX10_cleanDay 12 = .ok (.if_icmp .eq 14, 3) := by decide +kernel
theorem dX10_cleanDay_15 : decode cX10_cleanDay 15 = .ok (.new 128, 3) := by decide +kernel
theorem dX10_cleanDay_18 : decode cX10_cleanDay 18 = .ok (.dup, 1) := by decide +kernel
theorem dX10_cleanDay_19 : decode cX10_cleanDay 19 = .ok (.ldc_w 262, 3) := by decide +kernel
theorem dX10_cleanDay_22 : decode cX10_cleanDay 22 = .ok (.invokespecial 132, 3) := by decide +kernel
theorem dX10_cleanDay_25 : decode cX10_cleanDay 25 = .ok (.athrow, 1) := by decide +kernel
theorem dX10_cleanDay_26 : decode cX10_cleanDay 26 = .ok (.aload_n 0, 1) := by decide +kernel
theorem dX10_cleanDay_27 : decode cX10_cleanDay 27 = .ok (.getfield 51, 3) := by decide +kernel
theorem dX10_cleanDay_30 : decode cX10_cleanDay 30 = .ok (.aload_n 2, 1) := by decide +kernel
theorem dX10_cleanDay_31 : decode cX10_cleanDay 31 = .ok (.getfield 264, 3) := by decide +kernel
theorem dX10_cleanDay_34 : decode cX10_cleanDay 34 = .ok (.iadd, 1) := by decide +kernel
theorem dX10_cleanDay_35 : decode cX10_cleanDay 35 = .ok (.ireturn, 1) := by decide +kernel
theorem dX10_brews_0 : decode cX10_brews 0 = .ok (.aload_n 0, 1) := by decide +kernel
theorem dX10_brews_1 : decode cX10_brews 1 = .ok (.getfield 22, 3) := by decide +kernel
theorem dX10_brews_4 : decode cX10_brews 4 = .ok (.invokeinterface 78 1, 5) := by decide +kernel
theorem dX10_brews_9 : decode cX10_brews 9 = .ok (.ireturn, 1) := by decide +kernel
theorem dX10_recipeOf_0 : decode cX10_recipeOf 0 = .ok (.aload_n 0, 1) := by decide +kernel
theorem dX10_recipeOf_1 : decode cX10_recipeOf 1 = .ok (.iload_n 1, 1) := by decide +kernel
theorem dX10_recipeOf_2 : decode cX10_recipeOf 2 = .ok (.invokevirtual 267, 3) := by decide +kernel
theorem dX10_recipeOf_5 : decode cX10_recipeOf 5 = .ok (.getfield 271, 3) := by decide +kernel
theorem dX10_recipeOf_8 : decode cX10_recipeOf 8 = .ok (.getfield 92, 3) := by decide +kernel
theorem dX10_recipeOf_11 : decode cX10_recipeOf 11 = .ok (.ireturn, 1) := by decide +kernel
theorem dX10_generation_0 : decode cX10_generation 0 = .ok (.aload_n 0, 1) := by decide +kernel
theorem dX10_generation_1 : decode cX10_generation 1 = .ok (.iload_n 1, 1) := by decide +kernel
theorem dX10_generation_2 : decode cX10_generation 2 = .ok (.invokevirtual 267, 3) := by decide +kernel
theorem dX10_generation_5 : decode cX10_generation 5 = .ok (.getfield 275, 3) := by decide +kernel
theorem dX10_generation_8 : decode cX10_generation 8 = .ok (.ireturn, 1) := by decide +kernel
theorem dX10_stage_0 : decode cX10_stage 0 = .ok (.aload_n 0, 1) := by decide +kernel
theorem dX10_stage_1 : decode cX10_stage 1 = .ok (.iload_n 1, 1) := by decide +kernel
theorem dX10_stage_2 : decode cX10_stage 2 = .ok (.invokevirtual 267, 3) := by decide +kernel
theorem dX10_stage_5 : decode cX10_stage 5 = .ok (.getfield 278, 3) := by decide +kernel
theorem dX10_stage_8 : decode cX10_stage 8 = .ok (.ireturn, 1) := by decide +kernel
theorem dX10_vesselOf_0 : decode cX10_vesselOf 0 = .ok (.aload_n 0, 1) := by decide +kernel
theorem dX10_vesselOf_1 : decode cX10_vesselOf 1 = .ok (.iload_n 1, 1) := by decide +kernel
theorem dX10_vesselOf_2 : decode cX10_vesselOf 2 = .ok (.invokevirtual 267, 3) := by decide +kernel
theorem dX10_vesselOf_5 : decode cX10_vesselOf 5 = .ok (.getfield 281, 3) := by decide +kernel
theorem dX10_vesselOf_8 : decode cX10_vesselOf 8 = .ok (.astore_n 2, 1) := by decide +kernel
theorem dX10_vesselOf_9 : decode cX10_vesselOf 9 = .ok (.aload_n 2, 1) := by decide +kernel
theorem dX10_vesselOf_10 : decode cX10_vesselOf 10 = .ok (.ifnonnull 14, 3) := by decide +kernel
theorem dX10_vesselOf_13 : decode cX10_vesselOf 13 = .ok (.new 128, 3) := by decide +kernel
theorem dX10_vesselOf_16 : decode cX10_vesselOf 16 = .ok (.dup, 1) := by decide +kernel
theorem dX10_vesselOf_17 : decode cX10_vesselOf 17 = .ok (.ldc_w 285, 3) := by decide +kernel
theorem dX10_vesselOf_20 : decode cX10_vesselOf 20 = .ok (.invokespecial 132, 3) := by decide +kernel
theorem dX10_vesselOf_23 : decode cX10_vesselOf 23 = .ok (.athrow, 1) := by decide +kernel
theorem dX10_vesselOf_24 : decode cX10_vesselOf 24 = .ok (.aload_n 2, 1) := by decide +kernel
theorem dX10_vesselOf_25 : decode cX10_vesselOf 25 = .ok (.getfield 112, 3) := by decide +kernel
theorem dX10_vesselOf_28 : decode cX10_vesselOf 28 = .ok (.ireturn, 1) := by decide +kernel
theorem dX10_daysToGo_0 : decode cX10_daysToGo 0 = .ok (.aload_n 0, 1) := by decide +kernel
theorem dX10_daysToGo_1 : decode cX10_daysToGo 1 = .ok (.iload_n 1, 1) := by decide +kernel
theorem dX10_daysToGo_2 : decode cX10_daysToGo 2 = .ok (.invokevirtual 267, 3) := by decide +kernel
theorem dX10_daysToGo_5 : decode cX10_daysToGo 5 = .ok (.astore_n 2, 1) := by decide +kernel
theorem dX10_daysToGo_6 : decode cX10_daysToGo 6 = .ok (.aload_n 2, 1) := by decide +kernel
theorem dX10_daysToGo_7 : decode cX10_daysToGo 7 = .ok (.invokevirtual 287, 3) := by decide +kernel
theorem dX10_daysToGo_10 : decode cX10_daysToGo 10 = .ok (.ifCond .ne 14, 3) := by decide +kernel
theorem dX10_daysToGo_13 : decode cX10_daysToGo 13 = .ok (.new 128, 3) := by decide +kernel
theorem dX10_daysToGo_16 : decode cX10_daysToGo 16 = .ok (.dup, 1) := by decide +kernel
theorem dX10_daysToGo_17 : decode cX10_daysToGo 17 = .ok (.ldc_w 290, 3) := by decide +kernel
theorem dX10_daysToGo_20 : decode cX10_daysToGo 20 = .ok (.invokespecial 132, 3) := by decide +kernel
theorem dX10_daysToGo_23 : decode cX10_daysToGo 23 = .ok (.athrow, 1) := by decide +kernel
theorem dX10_daysToGo_24 : decode cX10_daysToGo 24 = .ok (.aload_n 2, 1) := by decide +kernel
theorem dX10_daysToGo_25 : decode cX10_daysToGo 25 = .ok (.getfield 292, 3) := by decide +kernel
theorem dX10_daysToGo_28 : decode cX10_daysToGo 28 = .ok (.ireturn, 1) := by decide +kernel
theorem dX10_stock_0 : decode cX10_stock 0 = .ok (.aload_n 0, 1) := by decide +kernel
theorem dX10_stock_1 : decode cX10_stock 1 = .ok (.aload_n 0, 1) := by decide +kernel
theorem dX10_stock_2 : decode cX10_stock 2 = .ok (.iload_n 1, 1) := by decide +kernel
theorem dX10_stock_3 : decode cX10_stock 3 = .ok (.invokevirtual 136, 3) := by decide +kernel
theorem dX10_stock_6 : decode cX10_stock 6 = .ok (.invokevirtual 293, 3) := by decide +kernel
theorem dX10_stock_9 : decode cX10_stock 9 = .ok (.ireturn, 1) := by decide +kernel
theorem dX10_stockByDeliveries_0 : decode cX10_stockByDeliveries 0 = .ok (.aload_n 0, 1) := by decide +kernel
theorem dX10_stockByDeliveries_1 : decode cX10_stockByDeliveries 1 = .ok (.iload_n 1, 1) := by decide +kernel
theorem dX10_stockByDeliveries_2 : decode cX10_stockByDeliveries 2 = .ok (.invokevirtual 136, 3) := by decide +kernel
theorem dX10_stockByDeliveries_5 : decode cX10_stockByDeliveries 5 = .ok (.astore_n 2, 1) := by decide +kernel
theorem dX10_stockByDeliveries_6 : decode cX10_stockByDeliveries 6 = .ok (.iconst 0, 1) := by decide +kernel
theorem dX10_stockByDeliveries_7 : decode cX10_stockByDeliveries 7 = .ok (.istore_n 3, 1) := by decide +kernel
theorem dX10_stockByDeliveries_8 : decode cX10_stockByDeliveries 8 = .ok (.iconst 0, 1) := by decide +kernel
theorem dX10_stockByDeliveries_9 : decode cX10_stockByDeliveries 9 = .ok (.istore 4, 2) := by decide +kernel
theorem dX10_stockByDeliveries_11 : decode cX10_stockByDeliveries 11 = .ok (.iload 4, 2) := by decide +kernel
theorem dX10_stockByDeliveries_13 : decode cX10_stockByDeliveries 13 = .ok (.aload_n 0, 1) := by decide +kernel
theorem dX10_stockByDeliveries_14 : decode cX10_stockByDeliveries 14 = .ok (.getfield 22, 3) := by decide +kernel
theorem dX10_stockByDeliveries_17 : decode cX10_stockByDeliveries 17 = .ok (.invokeinterface 78 1, 5) := by decide +kernel
theorem dX10_stockByDeliveries_22 : decode cX10_stockByDeliveries 22 = .ok (.if_icmp .ge 57, 3) := by decide +kernel
theorem dX10_stockByDeliveries_25 : decode cX10_stockByDeliveries 25 = .ok (.aload_n 0, 1) := by decide +kernel
theorem dX10_stockByDeliveries_26 : decode cX10_stockByDeliveries 26 = .ok (.getfield 22, 3) := by decide +kernel
theorem dX10_stockByDeliveries_29 : decode cX10_stockByDeliveries 29 = .ok (.iload 4, 2) := by decide +kernel
theorem dX10_stockByDeliveries_31 : decode cX10_stockByDeliveries 31 = .ok (.invokeinterface 242 2, 5) := by decide +kernel
theorem dX10_stockByDeliveries_36 : decode cX10_stockByDeliveries 36 = .ok (.checkcast 260, 3) := by decide +kernel
theorem dX10_stockByDeliveries_39 : decode cX10_stockByDeliveries 39 = .ok (.astore 5, 2) := by decide +kernel
theorem dX10_stockByDeliveries_41 : decode cX10_stockByDeliveries 41 = .ok (.aload 5, 2) := by decide +kernel
theorem dX10_stockByDeliveries_43 : decode cX10_stockByDeliveries 43 = .ok (.getfield 271, 3) := by decide +kernel
theorem dX10_stockByDeliveries_46 : decode cX10_stockByDeliveries 46 = .ok (.aload_n 2, 1) := by decide +kernel
theorem dX10_stockByDeliveries_47 : decode cX10_stockByDeliveries 47 = .ok (.if_acmp .ne 26, 3) := by decide +kernel
theorem dX10_stockByDeliveries_50 : decode cX10_stockByDeliveries 50 = .ok (.aload 5, 2) := by decide +kernel
theorem dX10_stockByDeliveries_52 : decode cX10_stockByDeliveries 52 = .ok (.getfield 278, 3) := by decide +kernel
theorem dX10_stockByDeliveries_55 : decode cX10_stockByDeliveries 55 = .ok (.bipush 114, 2) := by decide +kernel
theorem dX10_stockByDeliveries_57 : decode cX10_stockByDeliveries 57 = .ok (.if_icmp .eq 13, 3) := by decide +kernel
theorem dX10_stockByDeliveries_60 : decode cX10_stockByDeliveries 60 = .ok (.aload 5, 2) := by decide +kernel
theorem dX10_stockByDeliveries_62 : decode cX10_stockByDeliveries 62 = .ok (.getfield 278, 3) := by decide +kernel
theorem dX10_stockByDeliveries_65 : decode cX10_stockByDeliveries 65 = .ok (.bipush 120, 2) := by decide +kernel
theorem dX10_stockByDeliveries_67 : decode cX10_stockByDeliveries 67 = .ok (.if_icmp .ne 6, 3) := by decide +kernel
theorem dX10_stockByDeliveries_70 : decode cX10_stockByDeliveries 70 = .ok (.iinc 3 20, 3) := by decide +kernel
theorem dX10_stockByDeliveries_73 : decode cX10_stockByDeliveries 73 = .ok (.iinc 4 1, 3) := by decide +kernel
theorem dX10_stockByDeliveries_76 : decode cX10_stockByDeliveries 76 = .ok (.goto (-65), 3) := by decide +kernel
theorem dX10_stockByDeliveries_79 : decode cX10_stockByDeliveries 79 = .ok (.iconst 0, 1) := by decide +kernel
theorem dX10_stockByDeliveries_80 : decode cX10_stockByDeliveries 80 = .ok (.istore 4, 2) := by decide +kernel
theorem dX10_stockByDeliveries_82 : decode cX10_stockByDeliveries 82 = .ok (.iload 4, 2) := by decide +kernel
theorem dX10_stockByDeliveries_84 : decode cX10_stockByDeliveries 84 = .ok (.aload_n 0, 1) := by decide +kernel
theorem dX10_stockByDeliveries_85 : decode cX10_stockByDeliveries 85 = .ok (.getfield 34, 3) := by decide +kernel
theorem dX10_stockByDeliveries_88 : decode cX10_stockByDeliveries 88 = .ok (.invokeinterface 78 1, 5) := by decide +kernel
theorem dX10_stockByDeliveries_93 : decode cX10_stockByDeliveries 93 = .ok (.if_icmp .ge 45, 3) := by decide +kernel
theorem dX10_stockByDeliveries_96 : decode cX10_stockByDeliveries 96 = .ok (.aload_n 0, 1) := by decide +kernel
theorem dX10_stockByDeliveries_97 : decode cX10_stockByDeliveries 97 = .ok (.getfield 34, 3) := by decide +kernel
theorem dX10_stockByDeliveries_100 : decode cX10_stockByDeliveries 100 = .ok (.iload 4, 2) := by decide +kernel
theorem dX10_stockByDeliveries_102 : decode cX10_stockByDeliveries 102 = .ok (.invokeinterface 242 2, 5) := by decide +kernel
theorem dX10_stockByDeliveries_107 : decode cX10_stockByDeliveries 107 = .ok (.checkcast 297, 3) := by decide +kernel
theorem dX10_stockByDeliveries_110 : decode cX10_stockByDeliveries 110 = .ok (.astore 5, 2) := by decide +kernel
theorem dX10_stockByDeliveries_112 : decode cX10_stockByDeliveries 112 = .ok (.aload 5, 2) := by decide +kernel
theorem dX10_stockByDeliveries_114 : decode cX10_stockByDeliveries 114 = .ok (.getfield 299, 3) := by decide +kernel
theorem dX10_stockByDeliveries_117 : decode cX10_stockByDeliveries 117 = .ok (.getfield 271, 3) := by decide +kernel
theorem dX10_stockByDeliveries_120 : decode cX10_stockByDeliveries 120 = .ok (.aload_n 2, 1) := by decide +kernel
theorem dX10_stockByDeliveries_121 : decode cX10_stockByDeliveries 121 = .ok (.if_acmp .ne 11, 3) := by decide +kernel
theorem dX10_stockByDeliveries_124 : decode cX10_stockByDeliveries 124 = .ok (.iload_n 3, 1) := by decide +kernel
theorem dX10_stockByDeliveries_125 : decode cX10_stockByDeliveries 125 = .ok (.aload 5, 2) := by decide +kernel
theorem dX10_stockByDeliveries_127 : decode cX10_stockByDeliveries 127 = .ok (.getfield 302, 3) := by decide +kernel
theorem dX10_stockByDeliveries_130 : decode cX10_stockByDeliveries 130 = .ok (.isub, 1) := by decide +kernel
theorem dX10_stockByDeliveries_131 : decode cX10_stockByDeliveries 131 = .ok (.istore_n 3, 1) := by decide +kernel
theorem dX10_stockByDeliveries_132 : decode cX10_stockByDeliveries 132 = .ok (.iinc 4 1, 3) := by decide +kernel
theorem dX10_stockByDeliveries_135 : decode cX10_stockByDeliveries 135 = .ok (.goto (-53), 3) := by decide +kernel
theorem dX10_stockByDeliveries_138 : decode cX10_stockByDeliveries 138 = .ok (.iload_n 3, 1) := by decide +kernel
theorem dX10_stockByDeliveries_139 : decode cX10_stockByDeliveries 139 = .ok (.ireturn, 1) := by decide +kernel
theorem dX10_deliveries_0 : decode cX10_deliveries 0 = .ok (.aload_n 0, 1) := by decide +kernel
theorem dX10_deliveries_1 : decode cX10_deliveries 1 = .ok (.getfield 34, 3) := by decide +kernel
theorem dX10_deliveries_4 : decode cX10_deliveries 4 = .ok (.invokeinterface 78 1, 5) := by decide +kernel
theorem dX10_deliveries_9 : decode cX10_deliveries 9 = .ok (.ireturn, 1) := by decide +kernel
theorem dX10_deliveredBrew_0 : decode cX10_deliveredBrew 0 = .ok (.aload_n 0, 1) := by decide +kernel
theorem dX10_deliveredBrew_1 : decode cX10_deliveredBrew 1 = .ok (.iload_n 1, 1) := by decide +kernel
theorem dX10_deliveredBrew_2 : decode cX10_deliveredBrew 2 = .ok (.invokevirtual 305, 3) := by decide +kernel
theorem dX10_deliveredBrew_5 : decode cX10_deliveredBrew 5 = .ok (.getfield 299, 3) := by decide +kernel
theorem dX10_deliveredBrew_8 : decode cX10_deliveredBrew 8 = .ok (.getfield 259, 3) := by decide +kernel
theorem dX10_deliveredBrew_11 : decode cX10_deliveredBrew 11 = .ok (.ireturn, 1) := by decide +kernel
theorem dX10_deliveredOrder_0 : decode cX10_deliveredOrder 0 = .ok (.aload_n 0, 1) := by decide +kernel
theorem dX10_deliveredOrder_1 : decode cX10_deliveredOrder 1 = .ok (.iload_n 1, 1) := by decide +kernel
theorem dX10_deliveredOrder_2 : decode cX10_deliveredOrder 2 = .ok (.invokevirtual 305, 3) := by decide +kernel
theorem dX10_deliveredOrder_5 : decode cX10_deliveredOrder 5 = .ok (.getfield 309, 3) := by decide +kernel
theorem dX10_deliveredOrder_8 : decode cX10_deliveredOrder 8 = .ok (.getfield 220, 3) := by decide +kernel
theorem dX10_deliveredOrder_11 : decode cX10_deliveredOrder 11 = .ok (.ireturn, 1) := by decide +kernel
theorem dX10_deliveredUnits_0 : decode cX10_deliveredUnits 0 = .ok (.aload_n 0, 1) := by decide +kernel
theorem dX10_deliveredUnits_1 : decode cX10_deliveredUnits 1 = .ok (.iload_n 1, 1) := by decide +kernel
theorem dX10_deliveredUnits_2 : decode cX10_deliveredUnits 2 = .ok (.invokevirtual 305, 3) := by decide +kernel
theorem dX10_deliveredUnits_5 : decode cX10_deliveredUnits 5 = .ok (.getfield 302, 3) := by decide +kernel
theorem dX10_deliveredUnits_8 : decode cX10_deliveredUnits 8 = .ok (.ireturn, 1) := by decide +kernel
theorem dX10_isOutside_0 : decode cX10_isOutside 0 = .ok (.iload_n 0, 1) := by decide +kernel
theorem dX10_isOutside_1 : decode cX10_isOutside 1 = .ok (.iload_n 1, 1) := by decide +kernel
theorem dX10_isOutside_2 : decode cX10_isOutside 2 = .ok (.if_icmp .lt 8, 3) := by decide +kernel
theorem dX10_isOutside_5 : decode cX10_isOutside 5 = .ok (.iload_n 0, 1) := by decide +kernel
theorem dX10_isOutside_6 : decode cX10_isOutside 6 = .ok (.iload_n 2, 1) := by decide +kernel
theorem dX10_isOutside_7 : decode cX10_isOutside 7 = .ok (.if_icmp .le 7, 3) := by decide +kernel
theorem dX10_isOutside_10 : decode cX10_isOutside 10 = .ok (.iconst 1, 1) := by decide +kernel
theorem dX10_isOutside_11 : decode cX10_isOutside 11 = .ok (.goto 4, 3) := by decide +kernel
theorem dX10_isOutside_14 : decode cX10_isOutside 14 = .ok (.iconst 0, 1) := by decide +kernel
theorem dX10_isOutside_15 : decode cX10_isOutside 15 = .ok (.ireturn, 1) := by decide +kernel
theorem dX10_yeastOf_0 : decode cX10_yeastOf 0 = .ok (.iload_n 1, 1) := by decide +kernel
theorem dX10_yeastOf_1 : decode cX10_yeastOf 1 = .ok (.ifCond .lt 16, 3) := by decide +kernel
theorem dX10_yeastOf_4 : decode cX10_yeastOf 4 = .ok (.iload_n 1, 1) := by decide +kernel
theorem dX10_yeastOf_5 : decode cX10_yeastOf 5 = .ok (.aload_n 0, 1) := by decide +kernel
theorem dX10_yeastOf_6 : decode cX10_yeastOf 6 = .ok (.getfield 10, 3) := by decide +kernel
theorem dX10_yeastOf_9 : decode cX10_yeastOf 9 = .ok (.invokeinterface 78 1, 5) := by decide +kernel
theorem dX10_yeastOf_14 : decode cX10_yeastOf 14 = .ok (.if_icmp .lt 14, 3) := by decide +kernel
theorem dX10_yeastOf_17 : decode cX10_yeastOf 17 = .ok (.new 71, 3) := by decide +kernel
theorem dX10_yeastOf_20 : decode cX10_yeastOf 20 = .ok (.dup, 1) := by decide +kernel
theorem dX10_yeastOf_21 : decode cX10_yeastOf 21 = .ok (.ldc_w 313, 3) := by decide +kernel
theorem dX10_yeastOf_24 : decode cX10_yeastOf 24 = .ok (.invokespecial 75, 3) := by decide +kernel
theorem dX10_yeastOf_27 : decode cX10_yeastOf 27 = .ok (.athrow, 1) := by decide +kernel
theorem dX10_yeastOf_28 : decode cX10_yeastOf 28 = .ok (.aload_n 0, 1) := by decide +kernel
theorem dX10_yeastOf_29 : decode cX10_yeastOf 29 = .ok (.getfield 10, 3) := by decide +kernel
theorem dX10_yeastOf_32 : decode cX10_yeastOf 32 = .ok (.iload_n 1, 1) := by decide +kernel
theorem dX10_yeastOf_33 : decode cX10_yeastOf 33 = .ok (.invokeinterface 242 2, 5) := by decide +kernel
theorem dX10_yeastOf_38 : decode cX10_yeastOf 38 = .ok (.checkcast 54, 3) := by decide +kernel
theorem dX10_yeastOf_41 : decode cX10_yeastOf 41 = .ok (.areturn, 1) := by decide +kernel
theorem dX10_recipeAt_0 : decode cX10_recipeAt 0 = .ok (.iload_n 1, 1) := by decide +kernel
theorem dX10_recipeAt_1 : decode cX10_recipeAt 1 = .ok (.ifCond .lt 16, 3) := by decide +kernel
theorem dX10_recipeAt_4 : decode cX10_recipeAt 4 = .ok (.iload_n 1, 1) := by decide +kernel
theorem dX10_recipeAt_5 : decode cX10_recipeAt 5 = .ok (.aload_n 0, 1) := by decide +kernel
theorem dX10_recipeAt_6 : decode cX10_recipeAt 6 = .ok (.getfield 16, 3) := by decide +kernel
theorem dX10_recipeAt_9 : decode cX10_recipeAt 9 = .ok (.invokeinterface 78 1, 5) := by decide +kernel
theorem dX10_recipeAt_14 : decode cX10_recipeAt 14 = .ok (.if_icmp .lt 14, 3) := by decide +kernel
theorem dX10_recipeAt_17 : decode cX10_recipeAt 17 = .ok (.new 315, 3) := by decide +kernel
theorem dX10_recipeAt_20 : decode cX10_recipeAt 20 = .ok (.dup, 1) := by decide +kernel
theorem dX10_recipeAt_21 : decode cX10_recipeAt 21 = .ok (.ldc_w 317, 3) := by decide +kernel
theorem dX10_recipeAt_24 : decode cX10_recipeAt 24 = .ok (.invokespecial 319, 3) := by decide +kernel
theorem dX10_recipeAt_27 : decode cX10_recipeAt 27 = .ok (.athrow, 1) := by decide +kernel
theorem dX10_recipeAt_28 : decode cX10_recipeAt 28 = .ok (.aload_n 0, 1) := by decide +kernel
theorem dX10_recipeAt_29 : decode cX10_recipeAt 29 = .ok (.getfield 16, 3) := by decide +kernel
theorem dX10_recipeAt_32 : decode cX10_recipeAt 32 = .ok (.iload_n 1, 1) := by decide +kernel
theorem dX10_recipeAt_33 : decode cX10_recipeAt 33 = .ok (.invokeinterface 242 2, 5) := by decide +kernel
theorem dX10_recipeAt_38 : decode cX10_recipeAt 38 = .ok (.checkcast 87, 3) := by decide +kernel
theorem dX10_recipeAt_41 : decode cX10_recipeAt 41 = .ok (.areturn, 1) := by decide +kernel
theorem dX10_vesselAt_0 : decode cX10_vesselAt 0 = .ok (.iload_n 1, 1) := by decide +kernel
theorem dX10_vesselAt_1 : decode cX10_vesselAt 1 = .ok (.ifCond .lt 16, 3) := by decide +kernel
theorem dX10_vesselAt_4 : decode cX10_vesselAt 4 = .ok (.iload_n 1, 1) := by decide +kernel
theorem dX10_vesselAt_5 : decode cX10_vesselAt 5 = .ok (.aload_n 0, 1) := by decide +kernel
theorem dX10_vesselAt_6 : decode cX10_vesselAt 6 = .ok (.getfield 19, 3) := by decide +kernel
theorem dX10_vesselAt_9 : decode cX10_vesselAt 9 = .ok (.invokeinterface 78 1, 5) := by decide +kernel
theorem dX10_vesselAt_14 : decode cX10_vesselAt 14 = .ok (.if_icmp .lt 14, 3) := by decide +kernel
theorem dX10_vesselAt_17 : decode cX10_vesselAt 17 = .ok (.new 315, 3) := by decide +kernel
theorem dX10_vesselAt_20 : decode cX10_vesselAt 20 = .ok (.dup, 1) := by decide +kernel
theorem dX10_vesselAt_21 : decode cX10_vesselAt 21 = .ok (.ldc_w 320, 3) := by decide +kernel
theorem dX10_vesselAt_24 : decode cX10_vesselAt 24 = .ok (.invokespecial 319, 3) := by decide +kernel
theorem dX10_vesselAt_27 : decode cX10_vesselAt 27 = .ok (.athrow, 1) := by decide +kernel
theorem dX10_vesselAt_28 : decode cX10_vesselAt 28 = .ok (.aload_n 0, 1) := by decide +kernel
theorem dX10_vesselAt_29 : decode cX10_vesselAt 29 = .ok (.getfield 19, 3) := by decide +kernel
theorem dX10_vesselAt_32 : decode cX10_vesselAt 32 = .ok (.iload_n 1, 1) := by decide +kernel
theorem dX10_vesselAt_33 : decode cX10_vesselAt 33 = .ok (.invokeinterface 242 2, 5) := by decide +kernel
theorem dX10_vesselAt_38 : decode cX10_vesselAt 38 = .ok (.checkcast 99, 3) := by decide +kernel
theorem dX10_vesselAt_41 : decode cX10_vesselAt 41 = .ok (.areturn, 1) := by decide +kernel
theorem dX10_brewAt_0 : decode cX10_brewAt 0 = .ok (.iload_n 1, 1) := by decide +kernel
theorem dX10_brewAt_1 : decode cX10_brewAt 1 = .ok (.ifCond .lt 16, 3) := by decide +kernel
theorem dX10_brewAt_4 : decode cX10_brewAt 4 = .ok (.iload_n 1, 1) := by decide +kernel
theorem dX10_brewAt_5 : decode cX10_brewAt 5 = .ok (.aload_n 0, 1) := by decide +kernel
theorem dX10_brewAt_6 : decode cX10_brewAt 6 = .ok (.getfield 22, 3) := by decide +kernel
theorem dX10_brewAt_9 : decode cX10_brewAt 9 = .ok (.invokeinterface 78 1, 5) := by decide +kernel
theorem dX10_brewAt_14 : decode cX10_brewAt 14 = .ok (.if_icmp .lt 14, 3) := by decide +kernel
theorem dX10_brewAt_17 : decode cX10_brewAt 17 = .ok (.new 315, 3) := by decide +kernel
theorem dX10_brewAt_20 : decode cX10_brewAt 20 = .ok (.dup, 1) := by decide +kernel
theorem dX10_brewAt_21 : decode cX10_brewAt 21 = .ok (.ldc_w 322, 3) := by decide +kernel
theorem dX10_brewAt_24 : decode cX10_brewAt 24 = .ok (.invokespecial 319, 3) := by decide +kernel
theorem dX10_brewAt_27 : decode cX10_brewAt 27 = .ok (.athrow, 1) := by decide +kernel
theorem dX10_brewAt_28 : decode cX10_brewAt 28 = .ok (.aload_n 0, 1) := by decide +kernel
theorem dX10_brewAt_29 : decode cX10_brewAt 29 = .ok (.getfield 22, 3) := by decide +kernel
theorem dX10_brewAt_32 : decode cX10_brewAt 32 = .ok (.iload_n 1, 1) := by decide +kernel
theorem dX10_brewAt_33 : decode cX10_brewAt 33 = .ok (.invokeinterface 242 2, 5) := by decide +kernel
theorem dX10_brewAt_38 : decode cX10_brewAt 38 = .ok (.checkcast 260, 3) := by decide +kernel
theorem dX10_brewAt_41 : decode cX10_brewAt 41 = .ok (.areturn, 1) := by decide +kernel
theorem dX10_orderAt_0 : decode cX10_orderAt 0 = .ok (.iload_n 1, 1) := by decide +kernel
theorem dX10_orderAt_1 : decode cX10_orderAt 1 = .ok (.ifCond .lt 16, 3) := by decide +kernel
theorem dX10_orderAt_4 : decode cX10_orderAt 4 = .ok (.iload_n 1, 1) := by decide +kernel
theorem dX10_orderAt_5 : decode cX10_orderAt 5 = .ok (.aload_n 0, 1) := by decide +kernel
theorem dX10_orderAt_6 : decode cX10_orderAt 6 = .ok (.getfield 28, 3) := by decide +kernel
theorem dX10_orderAt_9 : decode cX10_orderAt 9 = .ok (.invokeinterface 78 1, 5) := by decide +kernel
theorem dX10_orderAt_14 : decode cX10_orderAt 14 = .ok (.if_icmp .lt 14, 3) := by decide +kernel
theorem dX10_orderAt_17 : decode cX10_orderAt 17 = .ok (.new 315, 3) := by decide +kernel
theorem dX10_orderAt_20 : decode cX10_orderAt 20 = .ok (.dup, 1) := by decide +kernel
theorem dX10_orderAt_21 : decode cX10_orderAt 21 = .ok (.ldc_w 324, 3) := by decide +kernel
theorem dX10_orderAt_24 : decode cX10_orderAt 24 = .ok (.invokespecial 319, 3) := by decide +kernel
theorem dX10_orderAt_27 : decode cX10_orderAt 27 = .ok (.athrow, 1) := by decide +kernel
theorem dX10_orderAt_28 : decode cX10_orderAt 28 = .ok (.aload_n 0, 1) := by decide +kernel
theorem dX10_orderAt_29 : decode cX10_orderAt 29 = .ok (.getfield 28, 3) := by decide +kernel
theorem dX10_orderAt_32 : decode cX10_orderAt 32 = .ok (.iload_n 1, 1) := by decide +kernel
theorem dX10_orderAt_33 : decode cX10_orderAt 33 = .ok (.invokeinterface 242 2, 5) := by decide +kernel
theorem dX10_orderAt_38 : decode cX10_orderAt 38 = .ok (.checkcast 203, 3) := by decide +kernel
theorem dX10_orderAt_41 : decode cX10_orderAt 41 = .ok (.areturn, 1) := by decide +kernel
theorem dX10_deliveryAt_0 : decode cX10_deliveryAt 0 = .ok (.iload_n 1, 1) := by decide +kernel
theorem dX10_deliveryAt_1 : decode cX10_deliveryAt 1 = .ok (.ifCond .lt 16, 3) := by decide +kernel
theorem dX10_deliveryAt_4 : decode cX10_deliveryAt 4 = .ok (.iload_n 1, 1) := by decide +kernel
theorem dX10_deliveryAt_5 : decode cX10_deliveryAt 5 = .ok (.aload_n 0, 1) := by decide +kernel
theorem dX10_deliveryAt_6 : decode cX10_deliveryAt 6 = .ok (.getfield 34, 3) := by decide +kernel
theorem dX10_deliveryAt_9 : decode cX10_deliveryAt 9 = .ok (.invokeinterface 78 1, 5) := by decide +kernel
theorem dX10_deliveryAt_14 : decode cX10_deliveryAt 14 = .ok (.if_icmp .lt 14, 3) := by decide +kernel
theorem dX10_deliveryAt_17 : decode cX10_deliveryAt 17 = .ok (.new 315, 3) := by decide +kernel
theorem dX10_deliveryAt_20 : decode cX10_deliveryAt 20 = .ok (.dup, 1) := by decide +kernel
theorem dX10_deliveryAt_21 : decode cX10_deliveryAt 21 = .ok (.ldc_w 326, 3) := by decide +kernel
theorem dX10_deliveryAt_24 : decode cX10_deliveryAt 24 = .ok (.invokespecial 319, 3) := by decide +kernel
theorem dX10_deliveryAt_27 : decode cX10_deliveryAt 27 = .ok (.athrow, 1) := by decide +kernel
theorem dX10_deliveryAt_28 : decode cX10_deliveryAt 28 = .ok (.aload_n 0, 1) := by decide +kernel
theorem dX10_deliveryAt_29 : decode cX10_deliveryAt 29 = .ok (.getfield 34, 3) := by decide +kernel
theorem dX10_deliveryAt_32 : decode cX10_deliveryAt 32 = .ok (.iload_n 1, 1) := by decide +kernel
theorem dX10_deliveryAt_33 : decode cX10_deliveryAt 33 = .ok (.invokeinterface 242 2, 5) := by decide +kernel
theorem dX10_deliveryAt_38 : decode cX10_deliveryAt 38 = .ok (.checkcast 297, 3) := by decide +kernel
theorem dX10_deliveryAt_41 : decode cX10_deliveryAt 41 = .ok (.areturn, 1) := by decide +kernel
theorem dX10_queuedRecipe_0 : decode cX10_queuedRecipe 0 = .ok (.iload_n 1, 1) := by decide +kernel
theorem dX10_queuedRecipe_1 : decode cX10_queuedRecipe 1 = .ok (.ifCond .lt 16, 3) := by decide +kernel
theorem dX10_queuedRecipe_4 : decode cX10_queuedRecipe 4 = .ok (.iload_n 1, 1) := by decide +kernel
theorem dX10_queuedRecipe_5 : decode cX10_queuedRecipe 5 = .ok (.aload_n 0, 1) := by decide +kernel
theorem dX10_queuedRecipe_6 : decode cX10_queuedRecipe 6 = .ok (.getfield 25, 3) := by decide +kernel
theorem dX10_queuedRecipe_9 : decode cX10_queuedRecipe 9 = .ok (.invokeinterface 78 1, 5) := by decide +kernel
theorem dX10_queuedRecipe_14 : decode cX10_queuedRecipe 14 = .ok (.if_icmp .lt 14, 3) := by decide +kernel
theorem dX10_queuedRecipe_17 : decode cX10_queuedRecipe 17 = .ok (.new 128, 3) := by decide +kernel
theorem dX10_queuedRecipe_20 : decode cX10_queuedRecipe 20 = .ok (.dup, 1) := by decide +kernel
theorem dX10_queuedRecipe_21 : decode cX10_queuedRecipe 21 = .ok (.ldc_w 328, 3) := by decide +kernel
theorem dX10_queuedRecipe_24 : decode cX10_queuedRecipe 24 = .ok (.invokespecial 132, 3) := by decide +kernel
theorem dX10_queuedRecipe_27 : decode cX10_queuedRecipe 27 = .ok (.athrow, 1) := by decide +kernel
theorem dX10_queuedRecipe_28 : decode cX10_queuedRecipe 28 = .ok (.aload_n 0, 1) := by decide +kernel
theorem dX10_queuedRecipe_29 : decode cX10_queuedRecipe 29 = .ok (.getfield 25, 3) := by decide +kernel
theorem dX10_queuedRecipe_32 : decode cX10_queuedRecipe 32 = .ok (.iload_n 1, 1) := by decide +kernel
theorem dX10_queuedRecipe_33 : decode cX10_queuedRecipe 33 = .ok (.invokeinterface 242 2, 5) := by decide +kernel
theorem dX10_queuedRecipe_38 : decode cX10_queuedRecipe 38 = .ok (.checkcast 87, 3) := by decide +kernel
theorem dX10_queuedRecipe_41 : decode cX10_queuedRecipe 41 = .ok (.areturn, 1) := by decide +kernel
theorem dX10_checkForecast_0 : decode cX10_checkForecast 0 = .ok (.aload_n 0, 1) := by decide +kernel
theorem dX10_checkForecast_1 : decode cX10_checkForecast 1 = .ok (.getfield 25, 3) := by decide +kernel
theorem dX10_checkForecast_4 : decode cX10_checkForecast 4 = .ok (.invokeinterface 330 1, 5) := by decide +kernel
theorem dX10_checkForecast_9 : decode cX10_checkForecast 9 = .ok (.ifCond .ne 18, 3) := by decide +kernel
theorem dX10_checkForecast_12 : decode cX10_checkForecast 12 = .ok (.aload_n 0, 1) := by decide +kernel
theorem dX10_checkForecast_13 : decode cX10_checkForecast 13 = .ok (.getfield 43, 3) := by decide +kernel
theorem dX10_checkForecast_16 : decode cX10_checkForecast 16 = .ok (.getfield 104, 3) := by decide +kernel
theorem dX10_checkForecast_19 : decode cX10_checkForecast 19 = .ok (.invokeinterface 330 1, 5) := by decide +kernel
theorem dX10_checkForecast_24 : decode cX10_checkForecast 24 = .ok (.ifCond .eq 14, 3) := by decide +kernel
theorem dX10_checkForecast_27 : decode cX10_checkForecast 27 = .ok (.new 128, 3) := by decide +kernel
theorem dX10_checkForecast_30 : decode cX10_checkForecast 30 = .ok (.dup, 1) := by decide +kernel
theorem dX10_checkForecast_31 : decode cX10_checkForecast 31 = .ok (.ldc_w 333, 3) := by decide +kernel
theorem dX10_checkForecast_34 : decode cX10_checkForecast 34 = .ok (.invokespecial 132, 3) := by decide +kernel
theorem dX10_checkForecast_37 : decode cX10_checkForecast 37 = .ok (.athrow, 1) := by decide +kernel
theorem dX10_checkForecast_38 : decode cX10_checkForecast 38 = .ok (.return_, 1) := by decide +kernel
theorem dX10_isFullyBooked_0 : decode cX10_isFullyBooked 0 = .ok (.aload_n 0, 1) := by decide +kernel
theorem dX10_isFullyBooked_1 : decode cX10_isFullyBooked 1 = .ok (.getfield 22, 3) := by decide +kernel
theorem dX10_isFullyBooked_4 : decode cX10_isFullyBooked 4 = .ok (.invokeinterface 78 1, 5) := by decide +kernel
theorem dX10_isFullyBooked_9 : decode cX10_isFullyBooked 9 = .ok (.aload_n 0, 1) := by decide +kernel
theorem dX10_isFullyBooked_10 : decode cX10_isFullyBooked 10 = .ok (.getfield 25, 3) := by decide +kernel
theorem dX10_isFullyBooked_13 : decode cX10_isFullyBooked 13 = .ok (.invokeinterface 78 1, 5) := by decide +kernel
theorem dX10_isFullyBooked_18 : decode cX10_isFullyBooked 18 = .ok (.iadd, 1) := by decide +kernel
theorem dX10_isFullyBooked_19 : decode cX10_isFullyBooked 19 = .ok (.bipush 30, 2) := by decide +kernel
theorem dX10_isFullyBooked_21 : decode cX10_isFullyBooked 21 = .ok (.if_icmp .lt 7, 3) := by decide +kernel
theorem dX10_isFullyBooked_24 : decode cX10_isFullyBooked 24 = .ok (.iconst 1, 1) := by decide +kernel
theorem dX10_isFullyBooked_25 : decode cX10_isFullyBooked 25 = .ok (.goto 4, 3) := by decide +kernel
theorem dX10_isFullyBooked_28 : decode cX10_isFullyBooked 28 = .ok (.iconst 0, 1) := by decide +kernel
theorem dX10_isFullyBooked_29 : decode cX10_isFullyBooked 29 = .ok (.ireturn, 1) := by decide +kernel
theorem dX10_insertByDue_0 : decode cX10_insertByDue 0 = .ok (.aload_n 0, 1) := by decide +kernel
theorem dX10_insertByDue_1 : decode cX10_insertByDue 1 = .ok (.getfield 31, 3) := by decide +kernel
theorem dX10_insertByDue_4 : decode cX10_insertByDue 4 = .ok (.invokeinterface 78 1, 5) := by decide +kernel
theorem dX10_insertByDue_9 : decode cX10_insertByDue 9 = .ok (.istore_n 2, 1) := by decide +kernel
theorem dX10_insertByDue_10 : decode cX10_insertByDue 10 = .ok (.iload_n 2, 1) := by decide +kernel
theorem dX10_insertByDue_11 : decode cX10_insertByDue 11 = .ok (.ifCond .le 34, 3) := by decide +kernel
theorem dX10_insertByDue_14 : decode cX10_insertByDue 14 = .ok (.aload_n 0, 1) := by decide +kernel
theorem dX10_insertByDue_15 : decode cX10_insertByDue 15 = .ok (.getfield 31, 3) := by decide +kernel
theorem dX10_insertByDue_18 : decode cX10_insertByDue 18 = .ok (.iload_n 2, 1) := by decide +kernel
theorem dX10_insertByDue_19 : decode cX10_insertByDue 19 = .ok (.iconst 1, 1) := by decide +kernel
theorem dX10_insertByDue_20 : decode cX10_insertByDue 20 = .ok (.isub, 1) := by decide +kernel
theorem dX10_insertByDue_21 : decode cX10_insertByDue 21 = .ok (.invokeinterface 242 2, 5) := by decide +kernel
theorem dX10_insertByDue_26 : decode cX10_insertByDue 26 = .ok (.checkcast 203, 3) := by decide +kernel
theorem dX10_insertByDue_29 : decode cX10_insertByDue 29 = .ok (.getfield 245, 3) := by decide +kernel
theorem dX10_insertByDue_32 : decode cX10_insertByDue 32 = .ok (.aload_n 1, 1) := by decide +kernel
theorem dX10_insertByDue_33 : decode cX10_insertByDue 33 = .ok (.getfield 245, 3) := by decide +kernel
theorem dX10_insertByDue_36 : decode cX10_insertByDue 36 = .ok (.if_icmp .le 9, 3) := by decide +kernel
theorem dX10_insertByDue_39 : decode cX10_insertByDue 39 = .ok (.iinc 2 (-1), 3) := by decide +kernel
theorem dX10_insertByDue_42 : decode cX10_insertByDue 42 = .ok (.goto (-32), 3) := by decide +kernel
theorem dX10_insertByDue_45 : decode cX10_insertByDue 45 = .ok (.aload_n 0, 1) := by decide +kernel
theorem dX10_insertByDue_46 : decode cX10_insertByDue 46 = .ok (.getfield 31, 3) := by decide +kernel
theorem dX10_insertByDue_49 : decode cX10_insertByDue 49 = .ok (.iload_n 2, 1) := by decide +kernel
theorem dX10_insertByDue_50 : decode cX10_insertByDue 50 = .ok (.aload_n 1, 1) := by decide +kernel
theorem dX10_insertByDue_51 : decode cX10_insertByDue 51 = .ok (.invokeinterface 335 3, 5) := by decide +kernel
theorem dX10_insertByDue_56 : decode cX10_insertByDue 56 = .ok (.return_, 1) := by decide +kernel
theorem dX10_unitsReady_0 : decode cX10_unitsReady 0 = .ok (.iconst 0, 1) := by decide +kernel
theorem dX10_unitsReady_1 : decode cX10_unitsReady 1 = .ok (.istore_n 2, 1) := by decide +kernel
theorem dX10_unitsReady_2 : decode cX10_unitsReady 2 = .ok (.iconst 0, 1) := by decide +kernel
theorem dX10_unitsReady_3 : decode cX10_unitsReady 3 = .ok (.istore_n 3, 1) := by decide +kernel
theorem dX10_unitsReady_4 : decode cX10_unitsReady 4 = .ok (.iload_n 3, 1) := by decide +kernel
theorem dX10_unitsReady_5 : decode cX10_unitsReady 5 = .ok (.aload_n 0, 1) := by decide +kernel
theorem dX10_unitsReady_6 : decode cX10_unitsReady 6 = .ok (.getfield 22, 3) := by decide +kernel
theorem dX10_unitsReady_9 : decode cX10_unitsReady 9 = .ok (.invokeinterface 78 1, 5) := by decide +kernel
theorem dX10_unitsReady_14 : decode cX10_unitsReady 14 = .ok (.if_icmp .ge 41, 3) := by decide +kernel
theorem dX10_unitsReady_17 : decode cX10_unitsReady 17 = .ok (.aload_n 0, 1) := by decide +kernel
theorem dX10_unitsReady_18 : decode cX10_unitsReady 18 = .ok (.getfield 22, 3) := by decide +kernel
theorem dX10_unitsReady_21 : decode cX10_unitsReady 21 = .ok (.iload_n 3, 1) := by decide +kernel
theorem dX10_unitsReady_22 : decode cX10_unitsReady 22 = .ok (.invokeinterface 242 2, 5) := by decide +kernel
theorem dX10_unitsReady_27 : decode cX10_unitsReady 27 = .ok (.checkcast 260, 3) := by decide +kernel
theorem dX10_unitsReady_30 : decode cX10_unitsReady 30 = .ok (.astore 4, 2) := by decide +kernel
theorem dX10_unitsReady_32 : decode cX10_unitsReady 32 = .ok (.aload 4, 2) := by decide +kernel
theorem dX10_unitsReady_34 : decode cX10_unitsReady 34 = .ok (.aload_n 1, 1) := by decide +kernel
theorem dX10_unitsReady_35 : decode cX10_unitsReady 35 = .ok (.invokevirtual 338, 3) := by decide +kernel
theorem dX10_unitsReady_38 : decode cX10_unitsReady 38 = .ok (.ifCond .eq 11, 3) := by decide +kernel
theorem dX10_unitsReady_41 : decode cX10_unitsReady 41 = .ok (.iload_n 2, 1) := by decide +kernel
theorem dX10_unitsReady_42 : decode cX10_unitsReady 42 = .ok (.aload 4, 2) := by decide +kernel
theorem dX10_unitsReady_44 : decode cX10_unitsReady 44 = .ok (.getfield 342, 3) := by decide +kernel
theorem dX10_unitsReady_47 : decode cX10_unitsReady 47 = .ok (.iadd, 1) := by decide +kernel
theorem dX10_unitsReady_48 : decode cX10_unitsReady 48 = .ok (.istore_n 2, 1) := by decide +kernel
theorem dX10_unitsReady_49 : decode cX10_unitsReady 49 = .ok (.iinc 3 1, 3) := by decide +kernel
theorem dX10_unitsReady_52 : decode cX10_unitsReady 52 = .ok (.goto (-48), 3) := by decide +kernel
theorem dX10_unitsReady_55 : decode cX10_unitsReady 55 = .ok (.iload_n 2, 1) := by decide +kernel
theorem dX10_unitsReady_56 : decode cX10_unitsReady 56 = .ok (.ireturn, 1) := by decide +kernel
theorem dX10_firstClean_0 : decode cX10_firstClean 0 = .ok (.iconst 0, 1) := by decide +kernel
theorem dX10_firstClean_1 : decode cX10_firstClean 1 = .ok (.istore_n 2, 1) := by decide +kernel
theorem dX10_firstClean_2 : decode cX10_firstClean 2 = .ok (.iload_n 2, 1) := by decide +kernel
theorem dX10_firstClean_3 : decode cX10_firstClean 3 = .ok (.aload_n 0, 1) := by decide +kernel
theorem dX10_firstClean_4 : decode cX10_firstClean 4 = .ok (.getfield 19, 3) := by decide +kernel
theorem dX10_firstClean_7 : decode cX10_firstClean 7 = .ok (.invokeinterface 78 1, 5) := by decide +kernel
theorem dX10_firstClean_12 : decode cX10_firstClean 12 = .ok (.if_icmp .ge 42, 3) := by decide +kernel
theorem dX10_firstClean_15 : decode cX10_firstClean 15 = .ok (.aload_n 0, 1) := by decide +kernel
theorem dX10_firstClean_16 : decode cX10_firstClean 16 = .ok (.getfield 19, 3) := by decide +kernel
theorem dX10_firstClean_19 : decode cX10_firstClean 19 = .ok (.iload_n 2, 1) := by decide +kernel
theorem dX10_firstClean_20 : decode cX10_firstClean 20 = .ok (.invokeinterface 242 2, 5) := by decide +kernel
theorem dX10_firstClean_25 : decode cX10_firstClean 25 = .ok (.checkcast 99, 3) := by decide +kernel
theorem dX10_firstClean_28 : decode cX10_firstClean 28 = .ok (.astore_n 3, 1) := by decide +kernel
theorem dX10_firstClean_29 : decode cX10_firstClean 29 = .ok (.aload_n 3, 1) := by decide +kernel
theorem dX10_firstClean_30 : decode cX10_firstClean 30 = .ok (.getfield 144, 3) := by decide +kernel
theorem dX10_firstClean_33 : decode cX10_firstClean 33 = .ok (.iload_n 1, 1) := by decide +kernel
theorem dX10_firstClean_34 : decode cX10_firstClean 34 = .ok (.if_icmp .ne 14, 3) := by decide +kernel
theorem dX10_firstClean_37 : decode cX10_firstClean 37 = .ok (.aload_n 3, 1) := by decide +kernel
theorem dX10_firstClean_38 : decode cX10_firstClean 38 = .ok (.getfield 153, 3) := by decide +kernel
theorem dX10_firstClean_41 : decode cX10_firstClean 41 = .ok (.bipush 99, 2) := by decide +kernel
theorem dX10_firstClean_43 : decode cX10_firstClean 43 = .ok (.if_icmp .ne 5, 3) := by decide +kernel
theorem dX10_firstClean_46 : decode cX10_firstClean 46 = .ok (.aload_n 3, 1) := by decide +kernel
theorem dX10_firstClean_47 : decode cX10_firstClean 47 = .ok (.areturn, 1) := by decide +kernel
theorem dX10_firstClean_48 : decode cX10_firstClean 48 = .ok (.iinc 2 1, 3) := by decide +kernel
theorem dX10_firstClean_51 : decode cX10_firstClean 51 = .ok (.goto (-49), 3) := by decide +kernel
theorem dX10_firstClean_54 : decode cX10_firstClean 54 = .ok (.aconst_null, 1) := by decide +kernel
theorem dX10_firstClean_55 : decode cX10_firstClean 55 = .ok (.areturn, 1) := by decide +kernel
theorem dX10_copyRecipes_0 : decode cX10_copyRecipes 0 = .ok (.aload_n 1, 1) := by decide +kernel
theorem dX10_copyRecipes_1 : decode cX10_copyRecipes 1 = .ok (.invokeinterface 345 1, 5) := by decide +kernel
theorem dX10_copyRecipes_6 : decode cX10_copyRecipes 6 = .ok (.iconst 0, 1) := by decide +kernel
theorem dX10_copyRecipes_7 : decode cX10_copyRecipes 7 = .ok (.istore_n 2, 1) := by decide +kernel
theorem dX10_copyRecipes_8 : decode cX10_copyRecipes 8 = .ok (.iload_n 2, 1) := by decide +kernel
theorem dX10_copyRecipes_9 : decode cX10_copyRecipes 9 = .ok (.aload_n 0, 1) := by decide +kernel
theorem dX10_copyRecipes_10 : decode cX10_copyRecipes 10 = .ok (.invokeinterface 78 1, 5) := by decide +kernel
theorem dX10_copyRecipes_15 : decode cX10_copyRecipes 15 = .ok (.if_icmp .ge 26, 3) := by decide +kernel
theorem dX10_copyRecipes_18 : decode cX10_copyRecipes 18 = .ok (.aload_n 1, 1) := by decide +kernel
theorem dX10_copyRecipes_19 : decode cX10_copyRecipes 19 = .ok (.aload_n 0, 1) := by decide +kernel
theorem dX10_copyRecipes_20 : decode cX10_copyRecipes 20 = .ok (.iload_n 2, 1) := by decide +kernel
theorem dX10_copyRecipes_21 : decode cX10_copyRecipes 21 = .ok (.invokeinterface 242 2, 5) := by decide +kernel
theorem dX10_copyRecipes_26 : decode cX10_copyRecipes 26 = .ok (.checkcast 87, 3) := by decide +kernel
theorem dX10_copyRecipes_29 : decode cX10_copyRecipes 29 = .ok (.invokeinterface 57 2, 5) := by decide +kernel
theorem dX10_copyRecipes_34 : decode cX10_copyRecipes 34 = .ok (.pop, 1) := by decide +kernel
theorem dX10_copyRecipes_35 : decode cX10_copyRecipes 35 = .ok (.iinc 2 1, 3) := by decide +kernel
theorem dX10_copyRecipes_38 : decode cX10_copyRecipes 38 = .ok (.goto (-30), 3) := by decide +kernel
theorem dX10_copyRecipes_41 : decode cX10_copyRecipes 41 = .ok (.return_, 1) := by decide +kernel
theorem dX10_passOneDay_0 : decode cX10_passOneDay 0 = .ok (.aload_n 0, 1) := by decide +kernel
theorem dX10_passOneDay_1 : decode cX10_passOneDay 1 = .ok (.dup, 1) := by decide +kernel
theorem dX10_passOneDay_2 : decode cX10_passOneDay 2 = .ok (.getfield 51, 3) := by decide +kernel
theorem dX10_passOneDay_5 : decode cX10_passOneDay 5 = .ok (.iconst 1, 1) := by decide +kernel
theorem dX10_passOneDay_6 : decode cX10_passOneDay 6 = .ok (.iadd, 1) := by decide +kernel
theorem dX10_passOneDay_7 : decode cX10_passOneDay 7 = .ok (.putfield 51, 3) := by decide +kernel
theorem dX10_passOneDay_10 : decode cX10_passOneDay 10 = .ok (.aload_n 0, 1) := by decide +kernel
theorem dX10_passOneDay_11 : decode cX10_passOneDay 11 = .ok (.invokevirtual 348, 3) := by decide +kernel
theorem dX10_passOneDay_14 : decode cX10_passOneDay 14 = .ok (.aload_n 0, 1) := by decide +kernel
theorem dX10_passOneDay_15 : decode cX10_passOneDay 15 = .ok (.invokevirtual 351, 3) := by decide +kernel
theorem dX10_passOneDay_18 : decode cX10_passOneDay 18 = .ok (.aload_n 0, 1) := by decide +kernel
theorem dX10_passOneDay_19 : decode cX10_passOneDay 19 = .ok (.invokevirtual 354, 3) := by decide +kernel
theorem dX10_passOneDay_22 : decode cX10_passOneDay 22 = .ok (.aload_n 0, 1) := by decide +kernel
theorem dX10_passOneDay_23 : decode cX10_passOneDay 23 = .ok (.invokevirtual 357, 3) := by decide +kernel
theorem dX10_passOneDay_26 : decode cX10_passOneDay 26 = .ok (.istore_n 1, 1) := by decide +kernel
theorem dX10_passOneDay_27 : decode cX10_passOneDay 27 = .ok (.aload_n 0, 1) := by decide +kernel
theorem dX10_passOneDay_28 : decode cX10_passOneDay 28 = .ok (.invokevirtual 360, 3) := by decide +kernel
theorem dX10_passOneDay_31 : decode cX10_passOneDay 31 = .ok (.aload_n 0, 1) := by decide +kernel
theorem dX10_passOneDay_32 : decode cX10_passOneDay 32 = .ok (.invokevirtual 363, 3) := by decide +kernel
theorem dX10_passOneDay_35 : decode cX10_passOneDay 35 = .ok (.iload_n 1, 1) := by decide +kernel
theorem dX10_passOneDay_36 : decode cX10_passOneDay 36 = .ok (.ireturn, 1) := by decide +kernel
theorem dX10_continueCleaning_0 : decode cX10_continueCleaning 0 = .ok (.iconst 0, 1) := by decide +kernel
theorem dX10_continueCleaning_1 : decode cX10_continueCleaning 1 = .ok (.istore_n 1, 1) := by decide +kernel
theorem dX10_continueCleaning_2 : decode cX10_continueCleaning 2 = .ok (.iload_n 1, 1) := by decide +kernel
theorem dX10_continueCleaning_3 : decode cX10_continueCleaning 3 = .ok (.aload_n 0, 1) := by decide +kernel
theorem dX10_continueCleaning_4 : decode cX10_continueCleaning 4 = .ok (.getfield 19, 3) := by decide +kernel
theorem dX10_continueCleaning_7 : decode cX10_continueCleaning 7 = .ok (.invokeinterface 78 1, 5) := by decide +kernel
theorem dX10_continueCleaning_12 : decode cX10_continueCleaning 12 = .ok (.if_icmp .ge 55, 3) := by decide +kernel
theorem dX10_continueCleaning_15 : decode cX10_continueCleaning 15 = .ok (.aload_n 0, 1) := by decide +kernel
theorem dX10_continueCleaning_16 : decode cX10_continueCleaning 16 = .ok (.getfield 19, 3) := by decide +kernel
theorem dX10_continueCleaning_19 : decode cX10_continueCleaning 19 = .ok (.iload_n 1, 1) := by decide +kernel
theorem dX10_continueCleaning_20 : decode cX10_continueCleaning 20 = .ok (.invokeinterface 242 2, 5) := by decide +kernel
theorem dX10_continueCleaning_25 : decode cX10_continueCleaning 25 = .ok (.checkcast 99, 3) := by decide +kernel
theorem dX10_continueCleaning_28 : decode cX10_continueCleaning 28 = .ok (.astore_n 2, 1) := by decide +kernel
theorem dX10_continueCleaning_29 : decode cX10_continueCleaning 29 = .ok (.aload_n 2, 1) := by decide +kernel
theorem dX10_continueCleaning_30 : decode cX10_continueCleaning 30 = .ok (.getfield 153, 3) := by decide +kernel
theorem dX10_continueCleaning_33 : decode cX10_continueCleaning 33 = .ok (.bipush 103, 2) := by decide +kernel
theorem dX10_continueCleaning_35 : decode cX10_continueCleaning 35 = .ok (.if_icmp .ne 26, 3) := by decide +kernel
theorem dX10_continueCleaning_38 : decode cX10_continueCleaning 38 = .ok (.aload_n 2, 1) := by decide +kernel
theorem dX10_continueCleaning_39 : decode cX10_continueCleaning 39 = .ok (.dup, 1) := by decide +kernel
theorem dX10_continueCleaning_40 : decode cX10_continueCleaning 40 = .ok (.getfield 264, 3) := by decide +kernel
theorem dX10_continueCleaning_43 : decode cX10_continueCleaning 43 = .ok (.iconst 1, 1) := by decide +kernel
theorem dX10_continueCleaning_44 : decode cX10_continueCleaning 44 = .ok (.isub, 1) := by decide +kernel
theorem dX10_continueCleaning_45 : decode cX10_continueCleaning 45 = .ok (.putfield 264, 3) := by decide +kernel
theorem dX10_continueCleaning_48 : decode cX10_continueCleaning 48 = .ok (.aload_n 2, 1) := by decide +kernel
theorem dX10_continueCleaning_49 : decode cX10_continueCleaning 49 = .ok (.getfield 264, 3) := by decide +kernel
theorem dX10_continueCleaning_52 : decode cX10_continueCleaning 52 = .ok (.ifCond .ne 9, 3) := by decide +kernel
theorem dX10_continueCleaning_55 : decode cX10_continueCleaning 55 = .ok (.aload_n 2, 1) := by decide +kernel
theorem dX10_continueCleaning_56 : decode cX10_continueCleaning 56 = .ok (.bipush 99, 2) := by decide +kernel
theorem dX10_continueCleaning_58 : decode cX10_continueCleaning 58 = .ok (.putfield 153, 3) := by decide +kernel
theorem dX10_continueCleaning_61 : decode cX10_continueCleaning 61 = .ok (.iinc 1 1, 3) := by decide +kernel
theorem dX10_continueCleaning_64 : decode cX10_continueCleaning 64 = .ok (.goto (-62), 3) := by decide +kernel
theorem dX10_continueCleaning_67 : decode cX10_continueCleaning 67 = .ok (.return_, 1) := by decide +kernel
theorem dX10_ageBrews_0 : decode cX10_ageBrews 0 = .ok (.iconst 0, 1) := by decide +kernel
theorem dX10_ageBrews_1 : decode cX10_ageBrews 1 = .ok (.istore_n 1, 1) := by decide +kernel
theorem dX10_ageBrews_2 : decode cX10_ageBrews 2 = .ok (.iload_n 1, 1) := by decide +kernel
theorem dX10_ageBrews_3 : decode cX10_ageBrews 3 = .ok (.aload_n 0, 1) := by decide +kernel
theorem dX10_ageBrews_4 : decode cX10_ageBrews 4 = .ok (.getfield 22, 3) := by decide +kernel
theorem dX10_ageBrews_7 : decode cX10_ageBrews 7 = .ok (.invokeinterface 78 1, 5) := by decide +kernel
theorem dX10_ageBrews_12 : decode cX10_ageBrews 12 = .ok (.if_icmp .ge 52, 3) := by decide +kernel
theorem dX10_ageBrews_15 : decode cX10_ageBrews 15 = .ok (.aload_n 0, 1) := by decide +kernel
theorem dX10_ageBrews_16 : decode cX10_ageBrews 16 = .ok (.getfield 22, 3) := by decide +kernel
theorem dX10_ageBrews_19 : decode cX10_ageBrews 19 = .ok (.iload_n 1, 1) := by decide +kernel
theorem dX10_ageBrews_20 : decode cX10_ageBrews 20 = .ok (.invokeinterface 242 2, 5) := by decide +kernel
theorem dX10_ageBrews_25 : decode cX10_ageBrews 25 = .ok (.checkcast 260, 3) := by decide +kernel
theorem dX10_ageBrews_28 : decode cX10_ageBrews 28 = .ok (.astore_n 2, 1) := by decide +kernel
theorem dX10_ageBrews_29 : decode cX10_ageBrews 29 = .ok (.aload_n 2, 1) := by decide +kernel
theorem dX10_ageBrews_30 : decode cX10_ageBrews 30 = .ok (.invokevirtual 287, 3) := by decide +kernel
theorem dX10_ageBrews_33 : decode cX10_ageBrews 33 = .ok (.ifCond .eq 25, 3) := by decide +kernel
theorem dX10_ageBrews_36 : decode cX10_ageBrews 36 = .ok (.aload_n 2, 1) := by decide +kernel
theorem dX10_ageBrews_37 : decode cX10_ageBrews 37 = .ok (.dup, 1) := by decide +kernel
theorem dX10_ageBrews_38 : decode cX10_ageBrews 38 = .ok (.getfield 292, 3) := by decide +kernel
theorem dX10_ageBrews_41 : decode cX10_ageBrews 41 = .ok (.iconst 1, 1) := by decide +kernel
theorem dX10_ageBrews_42 : decode cX10_ageBrews 42 = .ok (.isub, 1) := by decide +kernel
theorem dX10_ageBrews_43 : decode cX10_ageBrews 43 = .ok (.putfield 292, 3) := by decide +kernel
theorem dX10_ageBrews_46 : decode cX10_ageBrews 46 = .ok (.aload_n 2, 1) := by decide +kernel
theorem dX10_ageBrews_47 : decode cX10_ageBrews 47 = .ok (.getfield 292, 3) := by decide +kernel
theorem dX10_ageBrews_50 : decode cX10_ageBrews 50 = .ok (.ifCond .ne 8, 3) := by decide +kernel
theorem dX10_ageBrews_53 : decode cX10_ageBrews 53 = .ok (.aload_n 0, 1) := by decide +kernel
theorem dX10_ageBrews_54 : decode cX10_ageBrews 54 = .ok (.aload_n 2, 1) := by decide +kernel
theorem dX10_ageBrews_55 : decode cX10_ageBrews 55 = .ok (.invokevirtual 366, 3) := by decide +kernel
theorem dX10_ageBrews_58 : decode cX10_ageBrews 58 = .ok (.iinc 1 1, 3) := by decide +kernel
theorem dX10_ageBrews_61 : decode cX10_ageBrews 61 = .ok (.goto (-59), 3) := by decide +kernel
theorem dX10_ageBrews_64 : decode cX10_ageBrews 64 = .ok (.return_, 1) := by decide +kernel
theorem dX10_finishPhase_0 : decode cX10_finishPhase 0 = .ok (.aload_n 1, 1) := by decide +kernel
theorem dX10_finishPhase_1 : decode cX10_finishPhase 1 = .ok (.getfield 278, 3) := by decide +kernel
theorem dX10_finishPhase_4 : decode cX10_finishPhase 4 = .ok (.bipush 102, 2) := by decide +kernel
theorem dX10_finishPhase_6 : decode cX10_finishPhase 6 = .ok (.if_icmp .ne 32, 3) := by decide +kernel
theorem dX10_finishPhase_9 : decode cX10_finishPhase 9 = .ok (.aload_n 1, 1) := by decide +kernel
theorem dX10_finishPhase_10 : decode cX10_finishPhase 10 = .ok (.bipush 119, 2) := by decide +kernel
theorem dX10_finishPhase_12 : decode cX10_finishPhase 12 = .ok (.putfield 278, 3) := by decide +kernel
theorem dX10_finishPhase_15 : decode cX10_finishPhase 15 = .ok (.aload_n 1, 1) := by decide +kernel
theorem dX10_finishPhase_16 : decode cX10_finishPhase 16 = .ok (.getfield 271, 3) := by decide +kernel
theorem dX10_finishPhase_19 : decode cX10_finishPhase 19 = .ok (.getfield 162, 3) := by decide +kernel
theorem dX10_finishPhase_22 : decode cX10_finishPhase 22 = .ok (.aload_n 1, 1) := by decide +kernel
theorem dX10_finishPhase_23 : decode cX10_finishPhase 23 = .ok (.getfield 275, 3) := by decide +kernel
theorem dX10_finishPhase_26 : decode cX10_finishPhase 26 = .ok (.iconst 1, 1) := by decide +kernel
theorem dX10_finishPhase_27 : decode cX10_finishPhase 27 = .ok (.iadd, 1) := by decide +kernel
theorem dX10_finishPhase_28 : decode cX10_finishPhase 28 = .ok (.aload_n 0, 1) := by decide +kernel
theorem dX10_finishPhase_29 : decode cX10_finishPhase 29 = .ok (.getfield 51, 3) := by decide +kernel
theorem dX10_finishPhase_32 : decode cX10_finishPhase 32 = .ok (.invokevirtual 370, 3) := by decide +kernel
theorem dX10_finishPhase_35 : decode cX10_finishPhase 35 = .ok (.goto 7, 3) := by decide +kernel
theorem dX10_finishPhase_38 : decode cX10_finishPhase 38 = .ok (.aload_n 1, 1) := by decide +kernel
theorem dX10_finishPhase_39 : decode cX10_finishPhase 39 = .ok (.invokevirtual 373, 3) := by decide +kernel
theorem dX10_finishPhase_42 : decode cX10_finishPhase 42 = .ok (.return_, 1) := by decide +kernel
theorem dX10_moveWaitingBrews_0 : decode cX10_moveWaitingBrews 0 = .ok (.iconst 0, 1) := by decide +kernel
theorem dX10_moveWaitingBrews_1 : decode cX10_moveWaitingBrews 1 = .ok (.istore_n 1, 1) := by decide +kernel
theorem dX10_moveWaitingBrews_2 : decode cX10_moveWaitingBrews 2 = .ok (.iload_n 1, 1) := by decide +kernel
theorem dX10_moveWaitingBrews_3 : decode cX10_moveWaitingBrews 3 = .ok (.aload_n 0, 1) := by decide +kernel
theorem dX10_moveWaitingBrews_4 : decode cX10_moveWaitingBrews 4 = .ok (.getfield 22, 3) := by decide +kernel
theorem dX10_moveWaitingBrews_7 : decode cX10_moveWaitingBrews 7 = .ok (.invokeinterface 78 1, 5) := by decide +kernel
theorem dX10_moveWaitingBrews_12 : decode cX10_moveWaitingBrews 12 = .ok (.if_icmp .ge 57, 3) := by decide +kernel
theorem dX10_moveWaitingBrews_15 : decode cX10_moveWaitingBrews 15 = .ok (.aload_n 0, 1) := by decide +kernel
theorem dX10_moveWaitingBrews_16 : decode cX10_moveWaitingBrews 16 = .ok (.getfield 22, 3) := by decide +kernel
theorem dX10_moveWaitingBrews_19 : decode cX10_moveWaitingBrews 19 = .ok (.iload_n 1, 1) := by decide +kernel
theorem dX10_moveWaitingBrews_20 : decode cX10_moveWaitingBrews 20 = .ok (.invokeinterface 242 2, 5) := by decide +kernel
theorem dX10_moveWaitingBrews_25 : decode cX10_moveWaitingBrews 25 = .ok (.checkcast 260, 3) := by decide +kernel
theorem dX10_moveWaitingBrews_28 : decode cX10_moveWaitingBrews 28 = .ok (.astore_n 2, 1) := by decide +kernel
theorem dX10_moveWaitingBrews_29 : decode cX10_moveWaitingBrews 29 = .ok (.aload_n 2, 1) := by decide +kernel
theorem dX10_moveWaitingBrews_30 : decode cX10_moveWaitingBrews 30 = .ok (.getfield 278, 3) := by decide +kernel
theorem dX10_moveWaitingBrews_33 : decode cX10_moveWaitingBrews 33 = .ok (.bipush 119, 2) := by decide +kernel
theorem dX10_moveWaitingBrews_35 : decode cX10_moveWaitingBrews 35 = .ok (.if_icmp .ne 28, 3) := by decide +kernel
theorem dX10_moveWaitingBrews_38 : decode cX10_moveWaitingBrews 38 = .ok (.aload_n 0, 1) := by decide +kernel
theorem dX10_moveWaitingBrews_39 : decode cX10_moveWaitingBrews 39 = .ok (.bipush 116, 2) := by decide +kernel
theorem dX10_moveWaitingBrews_41 : decode cX10_moveWaitingBrews 41 = .ok (.invokevirtual 376, 3) := by decide +kernel
theorem dX10_moveWaitingBrews_44 : decode cX10_moveWaitingBrews 44 = .ok (.astore_n 3, 1) := by decide +kernel
theorem dX10_moveWaitingBrews_45 : decode cX10_moveWaitingBrews 45 = .ok (.aload_n 3, 1) := by decide +kernel
theorem dX10_moveWaitingBrews_46 : decode cX10_moveWaitingBrews 46 = .ok (.ifnull 17, 3) := by decide +kernel
theorem dX10_moveWaitingBrews_49 : decode cX10_moveWaitingBrews 49 = .ok (.aload_n 0, 1) := by decide +kernel
theorem dX10_moveWaitingBrews_50 : decode cX10_moveWaitingBrews 50 = .ok (.aload_n 2, 1) := by decide +kernel
theorem dX10_moveWaitingBrews_51 : decode cX10_moveWaitingBrews 51 = .ok (.invokevirtual 380, 3) := by decide +kernel
theorem dX10_moveWaitingBrews_54 : decode cX10_moveWaitingBrews 54 = .ok (.aload_n 3, 1) := by decide +kernel
theorem dX10_moveWaitingBrews_55 : decode cX10_moveWaitingBrews 55 = .ok (.aload_n 2, 1) := by decide +kernel
theorem dX10_moveWaitingBrews_56 : decode cX10_moveWaitingBrews 56 = .ok (.invokevirtual 383, 3) := by decide +kernel
theorem dX10_moveWaitingBrews_59 : decode cX10_moveWaitingBrews 59 = .ok (.aload_n 2, 1) := by decide +kernel
theorem dX10_moveWaitingBrews_60 : decode cX10_moveWaitingBrews 60 = .ok (.invokevirtual 386, 3) := by decide +kernel
theorem dX10_moveWaitingBrews_63 : decode cX10_moveWaitingBrews 63 = .ok (.iinc 1 1, 3) := by decide +kernel
theorem dX10_moveWaitingBrews_66 : decode cX10_moveWaitingBrews 66 = .ok (.goto (-64), 3) := by decide +kernel
theorem dX10_moveWaitingBrews_69 : decode cX10_moveWaitingBrews 69 = .ok (.return_, 1) := by decide +kernel
theorem dX10_fillOrders_0 : decode cX10_fillOrders 0 = .ok (.iconst 0, 1) := by decide +kernel
theorem dX10_fillOrders_1 : decode cX10_fillOrders 1 = .ok (.istore_n 1, 1) := by decide +kernel
theorem dX10_fillOrders_2 : decode cX10_fillOrders 2 = .ok (.iconst 0, 1) := by decide +kernel
theorem dX10_fillOrders_3 : decode cX10_fillOrders 3 = .ok (.istore_n 2, 1) := by decide +kernel
theorem dX10_fillOrders_4 : decode cX10_fillOrders 4 = .ok (.iload_n 2, 1) := by decide +kernel
theorem dX10_fillOrders_5 : decode cX10_fillOrders 5 = .ok (.aload_n 0, 1) := by decide +kernel
theorem dX10_fillOrders_6 : decode cX10_fillOrders 6 = .ok (.getfield 31, 3) := by decide +kernel
theorem dX10_fillOrders_9 : decode cX10_fillOrders 9 = .ok (.invokeinterface 78 1, 5) := by decide +kernel
theorem dX10_fillOrders_14 : decode cX10_fillOrders 14 = .ok (.if_icmp .ge 48, 3) := by decide +kernel
theorem dX10_fillOrders_17 : decode cX10_fillOrders 17 = .ok (.aload_n 0, 1) := by decide +kernel
theorem dX10_fillOrders_18 : decode cX10_fillOrders 18 = .ok (.getfield 31, 3) := by decide +kernel
theorem dX10_fillOrders_21 : decode cX10_fillOrders 21 = .ok (.iload_n 2, 1) := by decide +kernel
theorem dX10_fillOrders_22 : decode cX10_fillOrders 22 = .ok (.invokeinterface 242 2, 5) := by decide +kernel
theorem dX10_fillOrders_27 : decode cX10_fillOrders 27 = .ok (.checkcast 203, 3) := by decide +kernel
theorem dX10_fillOrders_30 : decode cX10_fillOrders 30 = .ok (.astore_n 3, 1) := by decide +kernel
theorem dX10_fillOrders_31 : decode cX10_fillOrders 31 = .ok (.aload_n 3, 1) := by decide +kernel
theorem dX10_fillOrders_32 : decode cX10_fillOrders 32 = .ok (.getfield 227, 3) := by decide +kernel
theorem dX10_fillOrders_35 : decode cX10_fillOrders 35 = .ok (.bipush 111, 2) := by decide +kernel
theorem dX10_fillOrders_37 : decode cX10_fillOrders 37 = .ok (.if_icmp .ne 19, 3) := by decide +kernel
theorem dX10_fillOrders_40 : decode cX10_fillOrders 40 = .ok (.aload_n 0, 1) := by decide +kernel
theorem dX10_fillOrders_41 : decode cX10_fillOrders 41 = .ok (.aload_n 3, 1) := by decide +kernel
theorem dX10_fillOrders_42 : decode cX10_fillOrders 42 = .ok (.invokevirtual 389, 3) := by decide +kernel
theorem dX10_fillOrders_45 : decode cX10_fillOrders 45 = .ok (.ifCond .eq 11, 3) := by decide +kernel
theorem dX10_fillOrders_48 : decode cX10_fillOrders 48 = .ok (.aload_n 0, 1) := by decide +kernel
theorem dX10_fillOrders_49 : decode cX10_fillOrders 49 = .ok (.aload_n 3, 1) := by decide +kernel
theorem dX10_fillOrders_50 : decode cX10_fillOrders 50 = .ok (.invokevirtual 393, 3) := by decide +kernel
theorem dX10_fillOrders_53 : decode cX10_fillOrders 53 = .ok (.iinc 1 1, 3) := by decide +kernel
theorem dX10_fillOrders_56 : decode cX10_fillOrders 56 = .ok (.iinc 2 1, 3) := by decide +kernel
theorem dX10_fillOrders_59 : decode cX10_fillOrders 59 = .ok (.goto (-55), 3) := by decide +kernel
theorem dX10_fillOrders_62 : decode cX10_fillOrders 62 = .ok (.iload_n 1, 1) := by decide +kernel
theorem dX10_fillOrders_63 : decode cX10_fillOrders 63 = .ok (.ireturn, 1) := by decide +kernel
theorem dX10_canFill_0 : decode cX10_canFill 0 = .ok (.iconst 0, 1) := by decide +kernel
theorem dX10_canFill_1 : decode cX10_canFill 1 = .ok (.istore_n 2, 1) := by decide +kernel
theorem dX10_canFill_2 : decode cX10_canFill 2 = .ok (.iload_n 2, 1) := by decide +kernel
theorem dX10_canFill_3 : decode cX10_canFill 3 = .ok (.aload_n 1, 1) := by decide +kernel
theorem dX10_canFill_4 : decode cX10_canFill 4 = .ok (.getfield 208, 3) := by decide +kernel
theorem dX10_canFill_7 : decode cX10_canFill 7 = .ok (.invokeinterface 78 1, 5) := by decide +kernel
theorem dX10_canFill_12 : decode cX10_canFill 12 = .ok (.if_icmp .ge 41, 3) := by decide +kernel
theorem dX10_canFill_15 : decode cX10_canFill 15 = .ok (.aload_n 1, 1) := by decide +kernel
theorem dX10_canFill_16 : decode cX10_canFill 16 = .ok (.getfield 208, 3) := by decide +kernel
theorem dX10_canFill_19 : decode cX10_canFill 19 = .ok (.iload_n 2, 1) := by decide +kernel
theorem dX10_canFill_20 : decode cX10_canFill 20 = .ok (.invokeinterface 242 2, 5) := by decide +kernel
theorem dX10_canFill_25 : decode cX10_canFill 25 = .ok (.checkcast 211, 3) := by decide +kernel
theorem dX10_canFill_28 : decode cX10_canFill 28 = .ok (.getfield 396, 3) := by decide +kernel
theorem dX10_canFill_31 : decode cX10_canFill 31 = .ok (.astore_n 3, 1) := by decide +kernel
theorem dX10_canFill_32 : decode cX10_canFill 32 = .ok (.aload_n 1, 1) := by decide +kernel
theorem dX10_canFill_33 : decode cX10_canFill 33 = .ok (.aload_n 3, 1) := by decide +kernel
theorem dX10_canFill_34 : decode cX10_canFill 34 = .ok (.invokevirtual 397, 3) := by decide +kernel
theorem dX10_canFill_37 : decode cX10_canFill 37 = .ok (.aload_n 0, 1) := by decide +kernel
theorem dX10_canFill_38 : decode cX10_canFill 38 = .ok (.aload_n 3, 1) := by decide +kernel
theorem dX10_canFill_39 : decode cX10_canFill 39 = .ok (.invokevirtual 293, 3) := by decide +kernel
theorem dX10_canFill_42 : decode cX10_canFill 42 = .ok (.if_icmp .le 5, 3) := by decide +kernel
theorem dX10_canFill_45 : decode cX10_canFill 45 = .ok (.iconst 0, 1) := by decide +kernel
theorem dX10_canFill_46 : decode cX10_canFill 46 = .ok (.ireturn, 1) := by decide +kernel
theorem dX10_canFill_47 : decode cX10_canFill 47 = .ok (.iinc 2 1, 3) := by decide +kernel
theorem dX10_canFill_50 : decode cX10_canFill 50 = .ok (.goto (-48), 3) := by decide +kernel
theorem dX10_canFill_53 : decode cX10_canFill 53 = .ok (.iconst 1, 1) := by decide +kernel
theorem dX10_canFill_54 : decode cX10_canFill 54 = .ok (.ireturn, 1) := by decide +kernel
theorem dX10_fill_0 : decode cX10_fill 0 = .ok (.iconst 0, 1) := by decide +kernel
theorem dX10_fill_1 : decode cX10_fill 1 = .ok (.istore_n 2, 1) := by decide +kernel
theorem dX10_fill_2 : decode cX10_fill 2 = .ok (.iload_n 2, 1) := by decide +kernel
theorem dX10_fill_3 : decode cX10_fill 3 = .ok (.aload_n 1, 1) := by decide +kernel
theorem dX10_fill_4 : decode cX10_fill 4 = .ok (.getfield 208, 3) := by decide +kernel
theorem dX10_fill_7 : decode cX10_fill 7 = .ok (.invokeinterface 78 1, 5) := by decide +kernel
theorem dX10_fill_12 : decode cX10_fill 12 = .ok (.if_icmp .ge 27, 3) := by decide +kernel
theorem dX10_fill_15 : decode cX10_fill 15 = .ok (.aload_n 0, 1) := by decide +kernel
theorem dX10_fill_16 : decode cX10_fill 16 = .ok (.aload_n 1, 1) := by decide +kernel
theorem dX10_fill_17 : decode cX10_fill 17 = .ok (.aload_n 1, 1) := by decide +kernel
theorem dX10_fill_18 : decode cX10_fill 18 = .ok (.getfield 208, 3) := by decide +kernel
theorem dX10_fill_21 : decode cX10_fill 21 = .ok (.iload_n 2, 1) := by decide +kernel
theorem dX10_fill_22 : decode cX10_fill 22 = .ok (.invokeinterface 242 2, 5) := by decide +kernel
theorem dX10_fill_27 : decode cX10_fill 27 = .ok (.checkcast 211, 3) := by decide +kernel
theorem dX10_fill_30 : decode cX10_fill 30 = .ok (.invokevirtual 400, 3) := by decide +kernel
theorem dX10_fill_33 : decode cX10_fill 33 = .ok (.iinc 2 1, 3) := by decide +kernel
theorem dX10_fill_36 : decode cX10_fill 36 = .ok (.goto (-34), 3) := by decide +kernel
theorem dX10_fill_39 : decode cX10_fill 39 = .ok (.aload_n 1, 1) := by decide +kernel
theorem dX10_fill_40 : decode cX10_fill 40 = .ok (.bipush 102, 2) := by decide +kernel
theorem dX10_fill_42 : decode cX10_fill 42 = .ok (.putfield 227, 3) := by decide +kernel
theorem dX10_fill_45 : decode cX10_fill 45 = .ok (.aload_n 1, 1) := by decide +kernel
theorem dX10_fill_46 : decode cX10_fill 46 = .ok (.aload_n 0, 1) := by decide +kernel
theorem dX10_fill_47 : decode cX10_fill 47 = .ok (.getfield 51, 3) := by decide +kernel
theorem dX10_fill_50 : decode cX10_fill 50 = .ok (.putfield 239, 3) := by decide +kernel
theorem dX10_fill_53 : decode cX10_fill 53 = .ok (.return_, 1) := by decide +kernel
theorem dX10_draw_0 : decode cX10_draw 0 = .ok (.aload_n 2, 1) := by decide +kernel
theorem dX10_draw_1 : decode cX10_draw 1 = .ok (.getfield 404, 3) := by decide +kernel
theorem dX10_draw_4 : decode cX10_draw 4 = .ok (.istore_n 3, 1) := by decide +kernel
theorem dX10_draw_5 : decode cX10_draw 5 = .ok (.iconst 0, 1) := by decide +kernel
theorem dX10_draw_6 : decode cX10_draw 6 = .ok (.istore 4, 2) := by decide +kernel
theorem dX10_draw_8 : decode cX10_draw 8 = .ok (.iload 4, 2) := by decide +kernel
theorem dX10_draw_10 : decode cX10_draw 10 = .ok (.aload_n 0, 1) := by decide +kernel
theorem dX10_draw_11 : decode cX10_draw 11 = .ok (.getfield 22, 3) := by decide +kernel
theorem dX10_draw_14 : decode cX10_draw 14 = .ok (.invokeinterface 78 1, 5) := by decide +kernel
theorem dX10_draw_19 : decode cX10_draw 19 = .ok (.if_icmp .ge 112, 3) := by decide +kernel
theorem dX10_draw_22 : decode cX10_draw 22 = .ok (.iload_n 3, 1) := by decide +kernel
theorem dX10_draw_23 : decode cX10_draw 23 = .ok (.ifCond .le 108, 3) := by decide +kernel
theorem dX10_draw_26 : decode cX10_draw 26 = .ok (.aload_n 0, 1) := by decide +kernel
theorem dX10_draw_27 : decode cX10_draw 27 = .ok (.getfield 22, 3) := by decide +kernel
theorem dX10_draw_30 : decode cX10_draw 30 = .ok (.iload 4, 2) := by decide +kernel
theorem dX10_draw_32 : decode cX10_draw 32 = .ok (.invokeinterface 242 2, 5) := by decide +kernel
theorem dX10_draw_37 : decode cX10_draw 37 = .ok (.checkcast 260, 3) := by decide +kernel
theorem dX10_draw_40 : decode cX10_draw 40 = .ok (.astore 5, 2) := by decide +kernel
theorem dX10_draw_42 : decode cX10_draw 42 = .ok (.aload 5, 2) := by decide +kernel
theorem dX10_draw_44 : decode cX10_draw 44 = .ok (.aload_n 2, 1) := by decide +kernel
theorem dX10_draw_45 : decode cX10_draw 45 = .ok (.getfield 396, 3) := by decide +kernel
theorem dX10_draw_48 : decode cX10_draw 48 = .ok (.invokevirtual 338, 3) := by decide +kernel
theorem dX10_draw_51 : decode cX10_draw 51 = .ok (.ifCond .eq 74, 3) := by decide +kernel
theorem dX10_draw_54 : decode cX10_draw 54 = .ok (.iload_n 3, 1) := by decide +kernel
theorem dX10_draw_55 : decode cX10_draw 55 = .ok (.aload 5, 2) := by decide +kernel
theorem dX10_draw_57 : decode cX10_draw 57 = .ok (.getfield 342, 3) := by decide +kernel
theorem dX10_draw_60 : decode cX10_draw 60 = .ok (.invokestatic 405, 3) := by decide +kernel
theorem dX10_draw_63 : decode cX10_draw 63 = .ok (.istore 6, 2) := by decide +kernel
theorem dX10_draw_65 : decode cX10_draw 65 = .ok (.iload_n 3, 1) := by decide +kernel
theorem dX10_draw_66 : decode cX10_draw 66 = .ok (.iload 6, 2) := by decide +kernel
theorem dX10_draw_68 : decode cX10_draw 68 = .ok (.isub, 1) := by decide +kernel
theorem dX10_draw_69 : decode cX10_draw 69 = .ok (.istore_n 3, 1) := by decide +kernel
theorem dX10_draw_70 : decode cX10_draw 70 = .ok (.aload 5, 2) := by decide +kernel
theorem dX10_draw_72 : decode cX10_draw 72 = .ok (.dup, 1) := by decide +kernel
theorem dX10_draw_73 : decode cX10_draw 73 = .ok (.getfield 342, 3) := by decide +kernel
theorem dX10_draw_76 : decode cX10_draw 76 = .ok (.iload 6, 2) := by decide +kernel
theorem dX10_draw_78 : decode cX10_draw 78 = .ok (.isub, 1) := by decide +kernel
theorem dX10_draw_79 : decode cX10_draw 79 = .ok (.putfield 342, 3) := by decide +kernel
theorem dX10_draw_82 : decode cX10_draw 82 = .ok (.aload_n 0, 1) := by decide +kernel
theorem dX10_draw_83 : decode cX10_draw 83 = .ok (.getfield 34, 3) := by decide +kernel
theorem dX10_draw_86 : decode cX10_draw 86 = .ok (.new 297, 3) := by decide +kernel
theorem dX10_draw_89 : decode cX10_draw 89 = .ok (.dup, 1) := by decide +kernel
theorem dX10_draw_90 : decode cX10_draw 90 = .ok (.aload 5, 2) := by decide +kernel
theorem dX10_draw_92 : decode cX10_draw 92 = .ok (.aload_n 1, 1) := by decide +kernel
theorem dX10_draw_93 : decode cX10_draw 93 = .ok (.iload 6, 2) := by decide +kernel
theorem dX10_draw_95 : decode cX10_draw 95 = .ok (.invokespecial 411, 3) := by decide +kernel
theorem dX10_draw_98 : decode cX10_draw 98 = .ok (.invokeinterface 57 2, 5) := by decide +kernel
theorem dX10_draw_103 : decode cX10_draw 103 = .ok (.pop, 1) := by decide +kernel
theorem dX10_draw_104 : decode cX10_draw 104 = .ok (.aload 5, 2) := by decide +kernel
theorem dX10_draw_106 : decode cX10_draw 106 = .ok (.getfield 342, 3) := by decide +kernel
theorem dX10_draw_109 : decode cX10_draw 109 = .ok (.ifCond .ne 16, 3) := by decide +kernel
theorem dX10_draw_112 : decode cX10_draw 112 = .ok (.aload 5, 2) := by decide +kernel
theorem dX10_draw_114 : decode cX10_draw 114 = .ok (.bipush 120, 2) := by decide +kernel
theorem dX10_draw_116 : decode cX10_draw 116 = .ok (.putfield 278, 3) := by decide +kernel
theorem dX10_draw_119 : decode cX10_draw 119 = .ok (.aload_n 0, 1) := by decide +kernel
theorem dX10_draw_120 : decode cX10_draw 120 = .ok (.aload 5, 2) := by decide +kernel
theorem dX10_draw_122 : decode cX10_draw 122 = .ok (.invokevirtual 380, 3) := by decide +kernel
theorem dX10_draw_125 : decode cX10_draw 125 = .ok (.iinc 4 1, 3) := by decide +kernel
theorem dX10_draw_128 : decode cX10_draw 128 = .ok (.goto (-120), 3) := by decide +kernel
theorem dX10_draw_131 : decode cX10_draw 131 = .ok (.return_, 1) := by decide +kernel
theorem dX10_leaveVessel_0 : decode cX10_leaveVessel 0 = .ok (.aload_n 1, 1) := by decide +kernel
theorem dX10_leaveVessel_1 : decode cX10_leaveVessel 1 = .ok (.getfield 281, 3) := by decide +kernel
theorem dX10_leaveVessel_4 : decode cX10_leaveVessel 4 = .ok (.astore_n 2, 1) := by decide +kernel
theorem dX10_leaveVessel_5 : decode cX10_leaveVessel 5 = .ok (.aload_n 2, 1) := by decide +kernel
theorem dX10_leaveVessel_6 : decode cX10_leaveVessel 6 = .ok (.ifnull 30, 3) := by decide +kernel
theorem dX10_leaveVessel_9 : decode cX10_leaveVessel 9 = .ok (.aload_n 1, 1) := by decide +kernel
theorem dX10_leaveVessel_10 : decode cX10_leaveVessel 10 = .ok (.aconst_null, 1) := by decide +kernel
theorem dX10_leaveVessel_11 : decode cX10_leaveVessel 11 = .ok (.putfield 281, 3) := by decide +kernel
theorem dX10_leaveVessel_14 : decode cX10_leaveVessel 14 = .ok (.aload_n 2, 1) := by decide +kernel
theorem dX10_leaveVessel_15 : decode cX10_leaveVessel 15 = .ok (.aconst_null, 1) := by decide +kernel
theorem dX10_leaveVessel_16 : decode cX10_leaveVessel 16 = .ok (.putfield 253, 3) := by decide +kernel
theorem dX10_leaveVessel_19 : decode cX10_leaveVessel 19 = .ok (.aload_n 2, 1) := by decide +kernel
theorem dX10_leaveVessel_20 : decode cX10_leaveVessel 20 = .ok (.bipush 100, 2) := by decide +kernel
theorem dX10_leaveVessel_22 : decode cX10_leaveVessel 22 = .ok (.putfield 153, 3) := by decide +kernel
theorem dX10_leaveVessel_25 : decode cX10_leaveVessel 25 = .ok (.aload_n 0, 1) := by decide +kernel
theorem dX10_leaveVessel_26 : decode cX10_leaveVessel 26 = .ok (.getfield 37, 3) := by decide +kernel
theorem dX10_leaveVessel_29 : decode cX10_leaveVessel 29 = .ok (.aload_n 2, 1) := by decide +kernel
theorem dX10_leaveVessel_30 : decode cX10_leaveVessel 30 = .ok (.invokeinterface 57 2, 5) := by decide +kernel
theorem dX10_leaveVessel_35 : decode cX10_leaveVessel 35 = .ok (.pop, 1) := by decide +kernel
theorem dX10_leaveVessel_36 : decode cX10_leaveVessel 36 = .ok (.return_, 1) := by decide +kernel
theorem dX10_beginCleaning_0 : decode cX10_beginCleaning 0 = .ok (.iconst 0, 1) := by decide +kernel
theorem dX10_beginCleaning_1 : decode cX10_beginCleaning 1 = .ok (.istore_n 1, 1) := by decide +kernel
theorem dX10_beginCleaning_2 : decode cX10_beginCleaning 2 = .ok (.iconst 0, 1) := by decide +kernel
theorem dX10_beginCleaning_3 : decode cX10_beginCleaning 3 = .ok (.istore_n 2, 1) := by decide +kernel
theorem dX10_beginCleaning_4 : decode cX10_beginCleaning 4 = .ok (.iload_n 2, 1) := by decide +kernel
theorem dX10_beginCleaning_5 : decode cX10_beginCleaning 5 = .ok (.aload_n 0, 1) := by decide +kernel
theorem dX10_beginCleaning_6 : decode cX10_beginCleaning 6 = .ok (.getfield 19, 3) := by decide +kernel
theorem dX10_beginCleaning_9 : decode cX10_beginCleaning 9 = .ok (.invokeinterface 78 1, 5) := by decide +kernel
theorem dX10_beginCleaning_14 : decode cX10_beginCleaning 14 = .ok (.if_icmp .ge 38, 3) := by decide +kernel
theorem dX10_beginCleaning_17 : decode cX10_beginCleaning 17 = .ok (.iload_n 1, 1) := by decide +kernel
theorem dX10_beginCleaning_18 : decode cX10_beginCleaning 18 = .ok (.aload_n 0, 1) := by decide +kernel
theorem dX10_beginCleaning_19 : decode cX10_beginCleaning 19 = .ok (.getfield 19, 3) := by decide +kernel
theorem dX10_beginCleaning_22 : decode cX10_beginCleaning 22 = .ok (.iload_n 2, 1) := by decide +kernel
theorem dX10_beginCleaning_23 : decode cX10_beginCleaning 23 = .ok (.invokeinterface 242 2, 5) := by decide +kernel
theorem dX10_beginCleaning_28 : decode cX10_beginCleaning 28 = .ok (.checkcast 99, 3) := by decide +kernel
theorem dX10_beginCleaning_31 : decode cX10_beginCleaning 31 = .ok (.getfield 153, 3) := by decide +kernel
theorem dX10_beginCleaning_34 : decode cX10_beginCleaning 34 = .ok (.bipush 103, 2) := by decide +kernel
theorem dX10_beginCleaning_36 : decode cX10_beginCleaning 36 = .ok (.if_icmp .ne 7, 3) := by decide +kernel
theorem dX10_beginCleaning_39 : decode cX10_beginCleaning 39 = .ok (.iconst 1, 1) := by decide +kernel
theorem dX10_beginCleaning_40 : decode cX10_beginCleaning 40 = .ok (.goto 4, 3) := by decide +kernel
theorem dX10_beginCleaning_43 : decode cX10_beginCleaning 43 = .ok (.iconst 0, 1) := by decide +kernel
theorem dX10_beginCleaning_44 : decode cX10_beginCleaning 44 = .ok (.iadd, 1) := by decide +kernel
theorem dX10_beginCleaning_45 : decode cX10_beginCleaning 45 = .ok (.istore_n 1, 1) := by decide +kernel
theorem dX10_beginCleaning_46 : decode cX10_beginCleaning 46 = .ok (.iinc 2 1, 3) := by decide +kernel
theorem dX10_beginCleaning_49 : decode cX10_beginCleaning 49 = .ok (.goto (-45), 3) := by decide +kernel
theorem dX10_beginCleaning_52 : decode cX10_beginCleaning 52 = .ok (.iload_n 1, 1) := by decide +kernel
theorem dX10_beginCleaning_53 : decode cX10_beginCleaning 53 = .ok (.istore_n 2, 1) := by decide +kernel
theorem dX10_beginCleaning_54 : decode cX10_beginCleaning 54 = .ok (.iload_n 2, 1) := by decide +kernel
theorem dX10_beginCleaning_55 : decode cX10_beginCleaning 55 = .ok (.aload_n 0, 1) := by decide +kernel
theorem dX10_beginCleaning_56 : decode cX10_beginCleaning 56 = .ok (.getfield 47, 3) := by decide +kernel
theorem dX10_beginCleaning_59 : decode cX10_beginCleaning 59 = .ok (.if_icmp .ge 59, 3) := by decide +kernel
theorem dX10_beginCleaning_62 : decode cX10_beginCleaning 62 = .ok (.aload_n 0, 1) := by decide +kernel
theorem dX10_beginCleaning_63 : decode cX10_beginCleaning 63 = .ok (.getfield 37, 3) := by decide +kernel
theorem dX10_beginCleaning_66 : decode cX10_beginCleaning 66 = .ok (.invokeinterface 330 1, 5) := by decide +kernel
theorem dX10_beginCleaning_71 : decode cX10_beginCleaning 71 = .ok (.ifCond .ne 47, 3) := by decide +kernel
theorem dX10_beginCleaning_74 : decode cX10_beginCleaning 74 = .ok (.aload_n 0, 1) := by decide +kernel
theorem dX10_beginCleaning_75 : decode cX10_beginCleaning 75 = .ok (.getfield 37, 3) := by decide +kernel
theorem dX10_beginCleaning_78 : decode cX10_beginCleaning 78 = .ok (.iconst 0, 1) := by decide +kernel
theorem dX10_beginCleaning_79 : decode cX10_beginCleaning 79 = .ok (.invokeinterface 175 2, 5) := by decide +kernel
theorem dX10_beginCleaning_84 : decode cX10_beginCleaning 84 = .ok (.checkcast 99, 3) := by decide +kernel
theorem dX10_beginCleaning_87 : decode cX10_beginCleaning 87 = .ok (.astore_n 3, 1) := by decide +kernel
theorem dX10_beginCleaning_88 : decode cX10_beginCleaning 88 = .ok (.aload_n 3, 1) := by decide +kernel
theorem dX10_beginCleaning_89 : decode cX10_beginCleaning 89 = .ok (.bipush 103, 2) := by decide +kernel
theorem dX10_beginCleaning_91 : decode cX10_beginCleaning 91 = .ok (.putfield 153, 3) := by decide +kernel
theorem dX10_beginCleaning_94 : decode cX10_beginCleaning 94 = .ok (.aload_n 3, 1) := by decide +kernel
theorem dX10_beginCleaning_95 : decode cX10_beginCleaning 95 = .ok (.aload_n 3, 1) := by decide +kernel
theorem dX10_beginCleaning_96 : decode cX10_beginCleaning 96 = .ok (.getfield 144, 3) := by decide +kernel
theorem dX10_beginCleaning_99 : decode cX10_beginCleaning 99 = .ok (.bipush 102, 2) := by decide +kernel
theorem dX10_beginCleaning_101 : decode cX10_beginCleaning 101 = .ok (.if_icmp .ne 7, 3) := by decide +kernel
theorem dX10_beginCleaning_104 : decode cX10_beginCleaning 104 = .ok (.iconst 2, 1) := by decide +kernel
theorem dX10_beginCleaning_105 : decode cX10_beginCleaning 105 = .ok (.goto 4, 3) := by decide +kernel
theorem dX10_beginCleaning_108 : decode cX10_beginCleaning 108 = .ok (.iconst 1, 1) := by decide +kernel
theorem dX10_beginCleaning_109 : decode cX10_beginCleaning 109 = .ok (.putfield 264, 3) := by decide +kernel
theorem dX10_beginCleaning_112 : decode cX10_beginCleaning 112 = .ok (.iinc 2 1, 3) := by decide +kernel
theorem dX10_beginCleaning_115 : decode cX10_beginCleaning 115 = .ok (.goto (-61), 3) := by decide +kernel
theorem dX10_beginCleaning_118 : decode cX10_beginCleaning 118 = .ok (.return_, 1) := by decide +kernel
theorem dX10_startQueued_0 : decode cX10_startQueued 0 = .ok (.iconst 0, 1) := by decide +kernel
theorem dX10_startQueued_1 : decode cX10_startQueued 1 = .ok (.istore_n 1, 1) := by decide +kernel
theorem dX10_startQueued_2 : decode cX10_startQueued 2 = .ok (.aload_n 0, 1) := by decide +kernel
theorem dX10_startQueued_3 : decode cX10_startQueued 3 = .ok (.getfield 25, 3) := by decide +kernel
theorem dX10_startQueued_6 : decode cX10_startQueued 6 = .ok (.invokeinterface 78 1, 5) := by decide +kernel
theorem dX10_startQueued_11 : decode cX10_startQueued 11 = .ok (.istore_n 2, 1) := by decide +kernel
theorem dX10_startQueued_12 : decode cX10_startQueued 12 = .ok (.iload_n 2, 1) := by decide +kernel
theorem dX10_startQueued_13 : decode cX10_startQueued 13 = .ok (.ifCond .le 88, 3) := by decide +kernel
theorem dX10_startQueued_16 : decode cX10_startQueued 16 = .ok (.iload_n 1, 1) := by decide +kernel
theorem dX10_startQueued_17 : decode cX10_startQueued 17 = .ok (.aload_n 0, 1) := by decide +kernel
theorem dX10_startQueued_18 : decode cX10_startQueued 18 = .ok (.getfield 25, 3) := by decide +kernel
theorem dX10_startQueued_21 : decode cX10_startQueued 21 = .ok (.invokeinterface 78 1, 5) := by decide +kernel
theorem dX10_startQueued_26 : decode cX10_startQueued 26 = .ok (.if_icmp .ge 75, 3) := by decide +kernel
theorem dX10_startQueued_29 : decode cX10_startQueued 29 = .ok (.aload_n 0, 1) := by decide +kernel
theorem dX10_startQueued_30 : decode cX10_startQueued 30 = .ok (.getfield 25, 3) := by decide +kernel
theorem dX10_startQueued_33 : decode cX10_startQueued 33 = .ok (.iload_n 1, 1) := by decide +kernel
theorem dX10_startQueued_34 : decode cX10_startQueued 34 = .ok (.invokeinterface 242 2, 5) := by decide +kernel
theorem dX10_startQueued_39 : decode cX10_startQueued 39 = .ok (.checkcast 87, 3) := by decide +kernel
theorem dX10_startQueued_42 : decode cX10_startQueued 42 = .ok (.astore_n 3, 1) := by decide +kernel
theorem dX10_startQueued_43 : decode cX10_startQueued 43 = .ok (.aload_n 0, 1) := by decide +kernel
theorem dX10_startQueued_44 : decode cX10_startQueued 44 = .ok (.bipush 102, 2) := by decide +kernel
theorem dX10_startQueued_46 : decode cX10_startQueued 46 = .ok (.invokevirtual 376, 3) := by decide +kernel
theorem dX10_startQueued_49 : decode cX10_startQueued 49 = .ok (.astore 4, 2) := by decide +kernel
theorem dX10_startQueued_51 : decode cX10_startQueued 51 = .ok (.aload 4, 2) := by decide +kernel
theorem dX10_startQueued_53 : decode cX10_startQueued 53 = .ok (.ifnull 39, 3) := by decide +kernel
theorem dX10_startQueued_56 : decode cX10_startQueued 56 = .ok (.aload_n 3, 1) := by decide +kernel
theorem dX10_startQueued_57 : decode cX10_startQueued 57 = .ok (.getfield 162, 3) := by decide +kernel
theorem dX10_startQueued_60 : decode cX10_startQueued 60 = .ok (.aload_n 0, 1) := by decide +kernel
theorem dX10_startQueued_61 : decode cX10_startQueued 61 = .ok (.getfield 51, 3) := by decide +kernel
theorem dX10_startQueued_64 : decode cX10_startQueued 64 = .ok (.invokevirtual 124, 3) := by decide +kernel
theorem dX10_startQueued_67 : decode cX10_startQueued 67 = .ok (.ifCond .eq 25, 3) := by decide +kernel
theorem dX10_startQueued_70 : decode cX10_startQueued 70 = .ok (.aload_n 0, 1) := by decide +kernel
theorem dX10_startQueued_71 : decode cX10_startQueued 71 = .ok (.getfield 25, 3) := by decide +kernel
theorem dX10_startQueued_74 : decode cX10_startQueued 74 = .ok (.iload_n 1, 1) := by decide +kernel
theorem dX10_startQueued_75 : decode cX10_startQueued 75 = .ok (.invokeinterface 175 2, 5) := by decide +kernel
theorem dX10_startQueued_80 : decode cX10_startQueued 80 = .ok (.pop, 1) := by decide +kernel
theorem dX10_startQueued_81 : decode cX10_startQueued 81 = .ok (.aload_n 0, 1) := by decide +kernel
theorem dX10_startQueued_82 : decode cX10_startQueued 82 = .ok (.aload_n 3, 1) := by decide +kernel
theorem dX10_startQueued_83 : decode cX10_startQueued 83 = .ok (.aload 4, 2) := by decide +kernel
theorem dX10_startQueued_85 : decode cX10_startQueued 85 = .ok (.invokevirtual 166, 3) := by decide +kernel
theorem dX10_startQueued_88 : decode cX10_startQueued 88 = .ok (.pop, 1) := by decide +kernel
theorem dX10_startQueued_89 : decode cX10_startQueued 89 = .ok (.goto 6, 3) := by decide +kernel
theorem dX10_startQueued_92 : decode cX10_startQueued 92 = .ok (.iinc 1 1, 3) := by decide +kernel
theorem dX10_startQueued_95 : decode cX10_startQueued 95 = .ok (.iinc 2 (-1), 3) := by decide +kernel
theorem dX10_startQueued_98 : decode cX10_startQueued 98 = .ok (.goto (-86), 3) := by decide +kernel
theorem dX10_startQueued_101 : decode cX10_startQueued 101 = .ok (.return_, 1) := by decide +kernel
theorem dX10_startBrew_0 : decode cX10_startBrew 0 = .ok (.new 260, 3) := by decide +kernel
theorem dX10_startBrew_3 : decode cX10_startBrew 3 = .ok (.dup, 1) := by decide +kernel
theorem dX10_startBrew_4 : decode cX10_startBrew 4 = .ok (.aload_n 0, 1) := by decide +kernel
theorem dX10_startBrew_5 : decode cX10_startBrew 5 = .ok (.getfield 22, 3) := by decide +kernel
theorem dX10_startBrew_8 : decode cX10_startBrew 8 = .ok (.invokeinterface 78 1, 5) := by decide +kernel
theorem dX10_startBrew_13 : decode cX10_startBrew 13 = .ok (.aload_n 1, 1) := by decide +kernel
theorem dX10_startBrew_14 : decode cX10_startBrew 14 = .ok (.aload_n 1, 1) := by decide +kernel
theorem dX10_startBrew_15 : decode cX10_startBrew 15 = .ok (.getfield 162, 3) := by decide +kernel
theorem dX10_startBrew_18 : decode cX10_startBrew 18 = .ok (.aload_n 0, 1) := by decide +kernel
theorem dX10_startBrew_19 : decode cX10_startBrew 19 = .ok (.getfield 51, 3) := by decide +kernel
theorem dX10_startBrew_22 : decode cX10_startBrew 22 = .ok (.invokevirtual 414, 3) := by decide +kernel
theorem dX10_startBrew_25 : decode cX10_startBrew 25 = .ok (.invokespecial 417, 3) := by decide +kernel
theorem dX10_startBrew_28 : decode cX10_startBrew 28 = .ok (.astore_n 3, 1) := by decide +kernel
theorem dX10_startBrew_29 : decode cX10_startBrew 29 = .ok (.aload_n 3, 1) := by decide +kernel
theorem dX10_startBrew_30 : decode cX10_startBrew 30 = .ok (.aload_n 1, 1) := by decide +kernel
theorem dX10_startBrew_31 : decode cX10_startBrew 31 = .ok (.aload_n 2, 1) := by decide +kernel
theorem dX10_startBrew_32 : decode cX10_startBrew 32 = .ok (.getfield 420, 3) := by decide +kernel
theorem dX10_startBrew_35 : decode cX10_startBrew 35 = .ok (.invokevirtual 423, 3) := by decide +kernel
theorem dX10_startBrew_38 : decode cX10_startBrew 38 = .ok (.putfield 292, 3) := by decide +kernel
theorem dX10_startBrew_41 : decode cX10_startBrew 41 = .ok (.aload_n 2, 1) := by decide +kernel
theorem dX10_startBrew_42 : decode cX10_startBrew 42 = .ok (.aload_n 1, 1) := by decide +kernel
theorem dX10_startBrew_43 : decode cX10_startBrew 43 = .ok (.getfield 426, 3) := by decide +kernel
theorem dX10_startBrew_46 : decode cX10_startBrew 46 = .ok (.putfield 420, 3) := by decide +kernel
theorem dX10_startBrew_49 : decode cX10_startBrew 49 = .ok (.aload_n 2, 1) := by decide +kernel
theorem dX10_startBrew_50 : decode cX10_startBrew 50 = .ok (.aload_n 3, 1) := by decide +kernel
theorem dX10_startBrew_51 : decode cX10_startBrew 51 = .ok (.invokevirtual 383, 3) := by decide +kernel
theorem dX10_startBrew_54 : decode cX10_startBrew 54 = .ok (.aload_n 0, 1) := by decide +kernel
theorem dX10_startBrew_55 : decode cX10_startBrew 55 = .ok (.getfield 22, 3) := by decide +kernel
theorem dX10_startBrew_58 : decode cX10_startBrew 58 = .ok (.aload_n 3, 1) := by decide +kernel
theorem dX10_startBrew_59 : decode cX10_startBrew 59 = .ok (.invokeinterface 57 2, 5) := by decide +kernel
theorem dX10_startBrew_64 : decode cX10_startBrew 64 = .ok (.pop, 1) := by decide +kernel
theorem dX10_startBrew_65 : decode cX10_startBrew 65 = .ok (.aload_n 3, 1) := by decide +kernel
theorem dX10_startBrew_66 : decode cX10_startBrew 66 = .ok (.getfield 259, 3) := by decide +kernel
theorem dX10_startBrew_69 : decode cX10_startBrew 69 = .ok (.ireturn, 1) := by decide +kernel
theorem dJxa1e45_init_da8c8_0 : decode cJxa1e45_init_da8c8 0 = .ok (.aload_n 0, 1) := by decide +kernel
theorem dJxa1e45_init_da8c8_1 : decode cJxa1e45_init_da8c8 1 = .ok (.invokespecial 1, 3) := by decide +kernel
theorem dJxa1e45_init_da8c8_4 : decode cJxa1e45_init_da8c8 4 = .ok (.return_, 1) := by decide +kernel
theorem dJxc12de_init_da8c8_0 : decode cJxc12de_init_da8c8 0 = .ok (.aload_n 0, 1) := by decide +kernel
theorem dJxc12de_init_da8c8_1 : decode cJxc12de_init_da8c8 1 = .ok (.invokespecial 1, 3) := by decide +kernel
theorem dJxc12de_init_da8c8_4 : decode cJxc12de_init_da8c8 4 = .ok (.aload_n 0, 1) := by decide +kernel
theorem dJxc12de_init_da8c8_5 : decode cJxc12de_init_da8c8 5 = .ok (.iconst 0, 1) := by decide +kernel
theorem dJxc12de_init_da8c8_6 : decode cJxc12de_init_da8c8 6 = .ok (.putfield 7, 3) := by decide +kernel
theorem dJxc12de_init_da8c8_9 : decode cJxc12de_init_da8c8 9 = .ok (.return_, 1) := by decide +kernel
theorem dJx4a65c_init_da8c8_0 : decode cJx4a65c_init_da8c8 0 = .ok (.aload_n 0, 1) := by decide +kernel
theorem dJx4a65c_init_da8c8_1 : decode cJx4a65c_init_da8c8 1 = .ok (.invokespecial 1, 3) := by decide +kernel
theorem dJx4a65c_init_da8c8_4 : decode cJx4a65c_init_da8c8 4 = .ok (.aload_n 0, 1) := by decide +kernel
theorem dJx4a65c_init_da8c8_5 : decode cJx4a65c_init_da8c8 5 = .ok (.getstatic 39, 3) := by decide +kernel
theorem dJx4a65c_init_da8c8_8 : decode cJx4a65c_init_da8c8 8 = .ok (.putfield 9, 3) := by decide +kernel
theorem dJx4a65c_init_da8c8_11 : decode cJx4a65c_init_da8c8 11 = .ok (.return_, 1) := by decide +kernel
theorem dJx4a65c_grow_92f84_0 : decode cJx4a65c_grow_92f84 0 = .ok (.aload_n 0, 1) := by decide +kernel
theorem dJx4a65c_grow_92f84_1 : decode cJx4a65c_grow_92f84 1 = .ok (.getfield 9, 3) := by decide +kernel
theorem dJx4a65c_grow_92f84_4 : decode cJx4a65c_grow_92f84 4 = .ok (.arraylength, 1) := by decide +kernel
theorem dJx4a65c_grow_92f84_5 : decode cJx4a65c_grow_92f84 5 = .ok (.istore_n 2, 1) := by decide +kernel
theorem dJx4a65c_grow_92f84_6 : decode cJx4a65c_grow_92f84 6 = .ok (.iload_n 2, 1) := by decide +kernel
theorem dJx4a65c_grow_92f84_7 : decode cJx4a65c_grow_92f84 7 = .ok (.ifCond .gt 13, 3) := by decide +kernel
theorem dJx4a65c_grow_92f84_10 : decode cJx4a65c_grow_92f84 10 = .ok (.aload_n 0, 1) := by decide +kernel
theorem dJx4a65c_grow_92f84_11 : decode cJx4a65c_grow_92f84 11 = .ok (.getfield 9, 3) := by decide +kernel
theorem dJx4a65c_grow_92f84_14 : decode cJx4a65c_grow_92f84 14 = .ok (.getstatic 39, 3) := by decide +kernel
theorem dJx4a65c_grow_92f84_17 : decode cJx4a65c_grow_92f84 17 = .ok (.if_acmp .eq 28, 3) := by decide +kernel
theorem dJx4a65c_grow_92f84_20 : decode cJx4a65c_grow_92f84 20 = .ok (.iload_n 2, 1) := by decide +kernel
theorem dJx4a65c_grow_92f84_21 : decode cJx4a65c_grow_92f84 21 = .ok (.iload_n 1, 1) := by decide +kernel
theorem dJx4a65c_grow_92f84_22 : decode cJx4a65c_grow_92f84 22 = .ok (.iload_n 2, 1) := by decide +kernel
theorem dJx4a65c_grow_92f84_23 : decode cJx4a65c_grow_92f84 23 = .ok (.isub, 1) := by decide +kernel
theorem dJx4a65c_grow_92f84_24 : decode cJx4a65c_grow_92f84 24 = .ok (.iload_n 2, 1) := by decide +kernel
theorem dJx4a65c_grow_92f84_25 : decode cJx4a65c_grow_92f84 25 = .ok (.iconst 1, 1) := by decide +kernel
theorem dJx4a65c_grow_92f84_26 : decode cJx4a65c_grow_92f84 26 = .ok (.ishr, 1) := by decide +kernel
theorem dJx4a65c_grow_92f84_27 : decode cJx4a65c_grow_92f84 27 = .ok (.invokestatic 73, 3) := by decide +kernel
theorem dJx4a65c_grow_92f84_30 : decode cJx4a65c_grow_92f84 30 = .ok (.istore_n 3, 1) := by decide +kernel
theorem dJx4a65c_grow_92f84_31 : decode cJx4a65c_grow_92f84 31 = .ok (.aload_n 0, 1) := by decide +kernel
theorem dJx4a65c_grow_92f84_32 : decode cJx4a65c_grow_92f84 32 = .ok (.aload_n 0, 1) := by decide +kernel
theorem dJx4a65c_grow_92f84_33 : decode cJx4a65c_grow_92f84 33 = .ok (.getfield 9, 3) := by decide +kernel
theorem dJx4a65c_grow_92f84_36 : decode cJx4a65c_grow_92f84 36 = .ok (.iload_n 3, 1) := by decide +kernel
theorem dJx4a65c_grow_92f84_37 : decode cJx4a65c_grow_92f84 37 = .ok (.invokestatic 66, 3) := by decide +kernel
theorem dJx4a65c_grow_92f84_40 : decode cJx4a65c_grow_92f84 40 = .ok (.dup_x1, 1) := by decide +kernel
theorem dJx4a65c_grow_92f84_41 : decode cJx4a65c_grow_92f84 41 = .ok (.putfield 9, 3) := by decide +kernel
theorem dJx4a65c_grow_92f84_44 : decode cJx4a65c_grow_92f84 44 = .ok (.areturn, 1) := by decide +kernel
theorem dJx4a65c_grow_92f84_45 : decode cJx4a65c_grow_92f84 45 = .ok (.aload_n 0, 1) := by decide +kernel
theorem dJx4a65c_grow_92f84_46 : decode cJx4a65c_grow_92f84 46 = .ok (.bipush 10, 2) := by decide +kernel
theorem dJx4a65c_grow_92f84_48 : decode cJx4a65c_grow_92f84 48 = .ok (.iload_n 1, 1) := by decide +kernel
theorem dJx4a65c_grow_92f84_49 : decode cJx4a65c_grow_92f84 49 = .ok (.invokestatic 79, 3) := by decide +kernel
theorem dJx4a65c_grow_92f84_52 : decode cJx4a65c_grow_92f84 52 = .ok (.anewarray 7, 3) := by decide +kernel
theorem dJx4a65c_grow_92f84_55 : decode cJx4a65c_grow_92f84 55 = .ok (.dup_x1, 1) := by decide +kernel
theorem dJx4a65c_grow_92f84_56 : decode cJx4a65c_grow_92f84 56 = .ok (.putfield 9, 3) := by decide +kernel
theorem dJx4a65c_grow_92f84_59 : decode cJx4a65c_grow_92f84 59 = .ok (.areturn, 1) := by decide +kernel
theorem dJx4a65c_grow_d5877_0 : decode cJx4a65c_grow_d5877 0 = .ok (.aload_n 0, 1) := by decide +kernel
theorem dJx4a65c_grow_d5877_1 : decode cJx4a65c_grow_d5877 1 = .ok (.aload_n 0, 1) := by decide +kernel
theorem dJx4a65c_grow_d5877_2 : decode cJx4a65c_grow_d5877 2 = .ok (.getfield 48, 3) := by decide +kernel
theorem dJx4a65c_grow_d5877_5 : decode cJx4a65c_grow_d5877 5 = .ok (.iconst 1, 1) := by decide +kernel
theorem dJx4a65c_grow_d5877_6 : decode cJx4a65c_grow_d5877 6 = .ok (.iadd, 1) := by decide +kernel
theorem dJx4a65c_grow_d5877_7 : decode cJx4a65c_grow_d5877 7 = .ok (.invokevirtual 69, 3) := by decide +kernel
theorem dJx4a65c_grow_d5877_10 : decode cJx4a65c_grow_d5877 10 = .ok (.areturn, 1) := by decide +kernel
theorem dJx4a65c_size_8abf5_0 : decode cJx4a65c_size_8abf5 0 = .ok (.aload_n 0, 1) := by decide +kernel
theorem dJx4a65c_size_8abf5_1 : decode cJx4a65c_size_8abf5 1 = .ok (.getfield 48, 3) := by decide +kernel
theorem dJx4a65c_size_8abf5_4 : decode cJx4a65c_size_8abf5 4 = .ok (.ireturn, 1) := by decide +kernel
theorem dJx4a65c_isEmpty_aae02_0 : decode cJx4a65c_isEmpty_aae02 0 = .ok (.aload_n 0, 1) := by decide +kernel
theorem dJx4a65c_isEmpty_aae02_1 : decode cJx4a65c_isEmpty_aae02 1 = .ok (.getfield 48, 3) := by decide +kernel
theorem dJx4a65c_isEmpty_aae02_4 : decode cJx4a65c_isEmpty_aae02 4 = .ok (.ifCond .ne 7, 3) := by decide +kernel
theorem dJx4a65c_isEmpty_aae02_7 : decode cJx4a65c_isEmpty_aae02 7 = .ok (.iconst 1, 1) := by decide +kernel
theorem dJx4a65c_isEmpty_aae02_8 : decode cJx4a65c_isEmpty_aae02 8 = .ok (.goto 4, 3) := by decide +kernel
theorem dJx4a65c_isEmpty_aae02_11 : decode cJx4a65c_isEmpty_aae02 11 = .ok (.iconst 0, 1) := by decide +kernel
theorem dJx4a65c_isEmpty_aae02_12 : decode cJx4a65c_isEmpty_aae02 12 = .ok (.ireturn, 1) := by decide +kernel
theorem dJx4a65c_elementData_915e3_0 : decode cJx4a65c_elementData_915e3 0 = .ok (.aload_n 0, 1) := by decide +kernel
theorem dJx4a65c_elementData_915e3_1 : decode cJx4a65c_elementData_915e3 1 = .ok (.getfield 9, 3) := by decide +kernel
theorem dJx4a65c_elementData_915e3_4 : decode cJx4a65c_elementData_915e3 4 = .ok (.iload_n 1, 1) := by decide +kernel
theorem dJx4a65c_elementData_915e3_5 : decode cJx4a65c_elementData_915e3 5 = .ok (.aaload, 1) := by decide +kernel
theorem dJx4a65c_elementData_915e3_6 : decode cJx4a65c_elementData_915e3 6 = .ok (.areturn, 1) := by decide +kernel
theorem dJx4a65c_get_915e3_0 : decode cJx4a65c_get_915e3 0 = .ok (.iload_n 1, 1) := by decide +kernel
theorem dJx4a65c_get_915e3_1 : decode cJx4a65c_get_915e3 1 = .ok (.aload_n 0, 1) := by decide +kernel
theorem dJx4a65c_get_915e3_2 : decode cJx4a65c_get_915e3 2 = .ok (.getfield 48, 3) := by decide +kernel
theorem dJx4a65c_get_915e3_5 : decode cJx4a65c_get_915e3 5 = .ok (.invokestatic 118, 3) := by decide +kernel
theorem dJx4a65c_get_915e3_8 : decode cJx4a65c_get_915e3 8 = .ok (.pop, 1) := by decide +kernel
theorem dJx4a65c_get_915e3_9 : decode cJx4a65c_get_915e3 9 = .ok (.aload_n 0, 1) := by decide +kernel
theorem dJx4a65c_get_915e3_10 : decode cJx4a65c_get_915e3 10 = .ok (.iload_n 1, 1) := by decide +kernel
theorem dJx4a65c_get_915e3_11 : decode cJx4a65c_get_915e3 11 = .ok (.invokevirtual 123, 3) := by decide +kernel
theorem dJx4a65c_get_915e3_14 : decode cJx4a65c_get_915e3 14 = .ok (.areturn, 1) := by decide +kernel
theorem dJx4a65c_set_bcc79_0 : decode cJx4a65c_set_bcc79 0 = .ok (.iload_n 1, 1) := by decide +kernel
theorem dJx4a65c_set_bcc79_1 : decode cJx4a65c_set_bcc79 1 = .ok (.aload_n 0, 1) := by decide +kernel
theorem dJx4a65c_set_bcc79_2 : decode cJx4a65c_set_bcc79 2 = .ok (.getfield 48, 3) := by decide +kernel
theorem dJx4a65c_set_bcc79_5 : decode cJx4a65c_set_bcc79 5 = .ok (.invokestatic 118, 3) := by decide +kernel
theorem dJx4a65c_set_bcc79_8 : decode cJx4a65c_set_bcc79 8 = .ok (.pop, 1) := by decide +kernel
theorem dJx4a65c_set_bcc79_9 : decode cJx4a65c_set_bcc79 9 = .ok (.aload_n 0, 1) := by decide +kernel
theorem dJx4a65c_set_bcc79_10 : decode cJx4a65c_set_bcc79 10 = .ok (.iload_n 1, 1) := by decide +kernel
theorem dJx4a65c_set_bcc79_11 : decode cJx4a65c_set_bcc79 11 = .ok (.invokevirtual 123, 3) := by decide +kernel
theorem dJx4a65c_set_bcc79_14 : decode cJx4a65c_set_bcc79 14 = .ok (.astore_n 3, 1) := by decide +kernel
theorem dJx4a65c_set_bcc79_15 : decode cJx4a65c_set_bcc79 15 = .ok (.aload_n 0, 1) := by decide +kernel
theorem dJx4a65c_set_bcc79_16 : decode cJx4a65c_set_bcc79 16 = .ok (.getfield 9, 3) := by decide +kernel
theorem dJx4a65c_set_bcc79_19 : decode cJx4a65c_set_bcc79 19 = .ok (.iload_n 1, 1) := by decide +kernel
theorem dJx4a65c_set_bcc79_20 : decode cJx4a65c_set_bcc79 20 = .ok (.aload_n 2, 1) := by decide +kernel
theorem dJx4a65c_set_bcc79_21 : decode cJx4a65c_set_bcc79 21 = .ok (.aastore, 1) := by decide +kernel
theorem dJx4a65c_set_bcc79_22 : decode cJx4a65c_set_bcc79 22 = .ok (.aload_n 3, 1) := by decide +kernel
theorem dJx4a65c_set_bcc79_23 : decode cJx4a65c_set_bcc79 23 = .ok (.areturn, 1) := by decide +kernel
theorem dJx4a65c_add_72be8_0 : decode cJx4a65c_add_72be8 0 = .ok (.iload_n 3, 1) := by decide +kernel
theorem dJx4a65c_add_72be8_1 : decode cJx4a65c_add_72be8 1 = .ok (.aload_n 2, 1) := by decide +kernel
theorem dJx4a65c_add_72be8_2 : decode cJx4a65c_add_72be8 2 = .ok (.arraylength, 1) := by decide +kernel
theorem dJx4a65c_add_72be8_3 : decode cJx4a65c_add_72be8 3 = .ok (.if_icmp .ne 8, 3) := by decide +kernel
theorem dJx4a65c_add_72be8_6 : decode cJx4a65c_add_72be8 6 = .ok (.aload_n 0, 1) := by decide +kernel
theorem dJx4a65c_add_72be8_7 : decode cJx4a65c_add_72be8 7 = .ok (.invokevirtual 129, 3) := by decide +kernel
theorem dJx4a65c_add_72be8_10 : decode cJx4a65c_add_72be8 10 = .ok (.astore_n 2, 1) := by decide +kernel
theorem dJx4a65c_add_72be8_11 : decode cJx4a65c_add_72be8 11 = .ok (.aload_n 2, 1) := by decide +kernel
theorem dJx4a65c_add_72be8_12 : decode cJx4a65c_add_72be8 12 = .ok (.iload_n 3, 1) := by decide +kernel
theorem dJx4a65c_add_72be8_13 : decode cJx4a65c_add_72be8 13 = .ok (.aload_n 1, 1) := by decide +kernel
theorem dJx4a65c_add_72be8_14 : decode cJx4a65c_add_72be8 14 = .ok (.aastore, 1) := by decide +kernel
theorem dJx4a65c_add_72be8_15 : decode cJx4a65c_add_72be8 15 = .ok (.aload_n 0, 1) := by decide +kernel
theorem dJx4a65c_add_72be8_16 : decode cJx4a65c_add_72be8 16 = .ok (.iload_n 3, 1) := by decide +kernel
theorem dJx4a65c_add_72be8_17 : decode cJx4a65c_add_72be8 17 = .ok (.iconst 1, 1) := by decide +kernel
theorem dJx4a65c_add_72be8_18 : decode cJx4a65c_add_72be8 18 = .ok (.iadd, 1) := by decide +kernel
theorem dJx4a65c_add_72be8_19 : decode cJx4a65c_add_72be8 19 = .ok (.putfield 48, 3) := by decide +kernel
theorem dJx4a65c_add_72be8_22 : decode cJx4a65c_add_72be8 22 = .ok (.return_, 1) := by decide +kernel
theorem dJx4a65c_add_9ea2d_0 : decode cJx4a65c_add_9ea2d 0 = .ok (.aload_n 0, 1) := by decide +kernel
theorem dJx4a65c_add_9ea2d_1 : decode cJx4a65c_add_9ea2d 1 = .ok (.dup, 1) := by decide +kernel
theorem dJx4a65c_add_9ea2d_2 : decode cJx4a65c_add_9ea2d 2 = .ok (.getfield 63, 3) := by decide +kernel
theorem dJx4a65c_add_9ea2d_5 : decode cJx4a65c_add_9ea2d 5 = .ok (.iconst 1, 1) := by decide +kernel
theorem dJx4a65c_add_9ea2d_6 : decode cJx4a65c_add_9ea2d 6 = .ok (.iadd, 1) := by decide +kernel
theorem dJx4a65c_add_9ea2d_7 : decode cJx4a65c_add_9ea2d 7 = .ok (.putfield 63, 3) := by decide +kernel
theorem dJx4a65c_add_9ea2d_10 : decode cJx4a65c_add_9ea2d 10 = .ok (.aload_n 0, 1) := by decide +kernel
theorem dJx4a65c_add_9ea2d_11 : decode cJx4a65c_add_9ea2d 11 = .ok (.aload_n 1, 1) := by decide +kernel
theorem dJx4a65c_add_9ea2d_12 : decode cJx4a65c_add_9ea2d 12 = .ok (.aload_n 0, 1) := by decide +kernel
theorem dJx4a65c_add_9ea2d_13 : decode cJx4a65c_add_9ea2d 13 = .ok (.getfield 9, 3) := by decide +kernel
theorem dJx4a65c_add_9ea2d_16 : decode cJx4a65c_add_9ea2d 16 = .ok (.aload_n 0, 1) := by decide +kernel
theorem dJx4a65c_add_9ea2d_17 : decode cJx4a65c_add_9ea2d 17 = .ok (.getfield 48, 3) := by decide +kernel
theorem dJx4a65c_add_9ea2d_20 : decode cJx4a65c_add_9ea2d 20 = .ok (.invokevirtual 131, 3) := by decide +kernel
theorem dJx4a65c_add_9ea2d_23 : decode cJx4a65c_add_9ea2d 23 = .ok (.iconst 1, 1) := by decide +kernel
theorem dJx4a65c_add_9ea2d_24 : decode cJx4a65c_add_9ea2d 24 = .ok (.ireturn, 1) := by decide +kernel
theorem dJx4a65c_add_7a177_0 : decode cJx4a65c_add_7a177 0 = .ok (.aload_n 0, 1) := by decide +kernel
theorem dJx4a65c_add_7a177_1 : decode cJx4a65c_add_7a177 1 = .ok (.iload_n 1, 1) := by decide +kernel
theorem dJx4a65c_add_7a177_2 : decode cJx4a65c_add_7a177 2 = .ok (.invokevirtual 135, 3) := by decide +kernel
theorem dJx4a65c_add_7a177_5 : decode cJx4a65c_add_7a177 5 = .ok (.aload_n 0, 1) := by decide +kernel
theorem dJx4a65c_add_7a177_6 : decode cJx4a65c_add_7a177 6 = .ok (.dup, 1) := by decide +kernel
theorem dJx4a65c_add_7a177_7 : decode cJx4a65c_add_7a177 7 = .ok (.getfield 63, 3) := by decide +kernel
theorem dJx4a65c_add_7a177_10 : decode cJx4a65c_add_7a177 10 = .ok (.iconst 1, 1) := by decide +kernel
theorem dJx4a65c_add_7a177_11 : decode cJx4a65c_add_7a177 11 = .ok (.iadd, 1) := by decide +kernel
theorem dJx4a65c_add_7a177_12 : decode cJx4a65c_add_7a177 12 = .ok (.putfield 63, 3) := by decide +kernel
theorem dJx4a65c_add_7a177_15 : decode cJx4a65c_add_7a177 15 = .ok (.aload_n 0, 1) := by decide +kernel
theorem dJx4a65c_add_7a177_16 : decode cJx4a65c_add_7a177 16 = .ok (.getfield 48, 3) := by decide +kernel
theorem dJx4a65c_add_7a177_19 : decode cJx4a65c_add_7a177 19 = .ok (.dup, 1) := by decide +kernel
theorem dJx4a65c_add_7a177_20 : decode cJx4a65c_add_7a177 20 = .ok (.istore_n 3, 1) := by decide +kernel
theorem dJx4a65c_add_7a177_21 : decode cJx4a65c_add_7a177 21 = .ok (.aload_n 0, 1) := by decide +kernel
theorem dJx4a65c_add_7a177_22 : decode cJx4a65c_add_7a177 22 = .ok (.getfield 9, 3) := by decide +kernel
theorem dJx4a65c_add_7a177_25 : decode cJx4a65c_add_7a177 25 = .ok (.dup, 1) := by decide +kernel
theorem dJx4a65c_add_7a177_26 : decode cJx4a65c_add_7a177 26 = .ok (.astore 4, 2) := by decide +kernel
theorem dJx4a65c_add_7a177_28 : decode cJx4a65c_add_7a177 28 = .ok (.arraylength, 1) := by decide +kernel
theorem dJx4a65c_add_7a177_29 : decode cJx4a65c_add_7a177 29 = .ok (.if_icmp .ne 9, 3) := by decide +kernel
theorem dJx4a65c_add_7a177_32 : decode cJx4a65c_add_7a177 32 = .ok (.aload_n 0, 1) := by decide +kernel
theorem dJx4a65c_add_7a177_33 : decode cJx4a65c_add_7a177 33 = .ok (.invokevirtual 129, 3) := by decide +kernel
theorem dJx4a65c_add_7a177_36 : decode cJx4a65c_add_7a177 36 = .ok (.astore 4, 2) := by decide +kernel
theorem dJx4a65c_add_7a177_38 : decode cJx4a65c_add_7a177 38 = .ok (.aload 4, 2) := by decide +kernel
theorem dJx4a65c_add_7a177_40 : decode cJx4a65c_add_7a177 40 = .ok (.iload_n 1, 1) := by decide +kernel
theorem dJx4a65c_add_7a177_41 : decode cJx4a65c_add_7a177 41 = .ok (.aload 4, 2) := by decide +kernel
theorem dJx4a65c_add_7a177_43 : decode cJx4a65c_add_7a177 43 = .ok (.iload_n 1, 1) := by decide +kernel
theorem dJx4a65c_add_7a177_44 : decode cJx4a65c_add_7a177 44 = .ok (.iconst 1, 1) := by decide +kernel
theorem dJx4a65c_add_7a177_45 : decode cJx4a65c_add_7a177 45 = .ok (.iadd, 1) := by decide +kernel
theorem dJx4a65c_add_7a177_46 : decode cJx4a65c_add_7a177 46 = .ok (.iload_n 3, 1) := by decide +kernel
theorem dJx4a65c_add_7a177_47 : decode cJx4a65c_add_7a177 47 = .ok (.iload_n 1, 1) := by decide +kernel
theorem dJx4a65c_add_7a177_48 : decode cJx4a65c_add_7a177 48 = .ok (.isub, 1) := by decide +kernel
theorem dJx4a65c_add_7a177_49 : decode cJx4a65c_add_7a177 49 = .ok (.invokestatic 112, 3) := by decide +kernel
theorem dJx4a65c_add_7a177_52 : decode cJx4a65c_add_7a177 52 = .ok (.aload 4, 2) := by decide +kernel
theorem dJx4a65c_add_7a177_54 : decode cJx4a65c_add_7a177 54 = .ok (.iload_n 1, 1) := by decide +kernel
theorem dJx4a65c_add_7a177_55 : decode cJx4a65c_add_7a177 55 = .ok (.aload_n 2, 1) := by decide +kernel
theorem dJx4a65c_add_7a177_56 : decode cJx4a65c_add_7a177 56 = .ok (.aastore, 1) := by decide +kernel
theorem dJx4a65c_add_7a177_57 : decode cJx4a65c_add_7a177 57 = .ok (.aload_n 0, 1) := by decide +kernel
theorem dJx4a65c_add_7a177_58 : decode cJx4a65c_add_7a177 58 = .ok (.iload_n 3, 1) := by decide +kernel
theorem dJx4a65c_add_7a177_59 : decode cJx4a65c_add_7a177 59 = .ok (.iconst 1, 1) := by decide +kernel
theorem dJx4a65c_add_7a177_60 : decode cJx4a65c_add_7a177 60 = .ok (.iadd, 1) := by decide +kernel
theorem dJx4a65c_add_7a177_61 : decode cJx4a65c_add_7a177 61 = .ok (.putfield 48, 3) := by decide +kernel
theorem dJx4a65c_add_7a177_64 : decode cJx4a65c_add_7a177 64 = .ok (.return_, 1) := by decide +kernel
theorem dJx4a65c_remove_915e3_0 : decode cJx4a65c_remove_915e3 0 = .ok (.iload_n 1, 1) := by decide +kernel
theorem dJx4a65c_remove_915e3_1 : decode cJx4a65c_remove_915e3 1 = .ok (.aload_n 0, 1) := by decide +kernel
theorem dJx4a65c_remove_915e3_2 : decode cJx4a65c_remove_915e3 2 = .ok (.getfield 48, 3) := by decide +kernel
theorem dJx4a65c_remove_915e3_5 : decode cJx4a65c_remove_915e3 5 = .ok (.invokestatic 118, 3) := by decide +kernel
theorem dJx4a65c_remove_915e3_8 : decode cJx4a65c_remove_915e3 8 = .ok (.pop, 1) := by decide +kernel
theorem dJx4a65c_remove_915e3_9 : decode cJx4a65c_remove_915e3 9 = .ok (.aload_n 0, 1) := by decide +kernel
theorem dJx4a65c_remove_915e3_10 : decode cJx4a65c_remove_915e3 10 = .ok (.getfield 9, 3) := by decide +kernel
theorem dJx4a65c_remove_915e3_13 : decode cJx4a65c_remove_915e3 13 = .ok (.astore_n 2, 1) := by decide +kernel
theorem dJx4a65c_remove_915e3_14 : decode cJx4a65c_remove_915e3 14 = .ok (.aload_n 2, 1) := by decide +kernel
theorem dJx4a65c_remove_915e3_15 : decode cJx4a65c_remove_915e3 15 = .ok (.iload_n 1, 1) := by decide +kernel
theorem dJx4a65c_remove_915e3_16 : decode cJx4a65c_remove_915e3 16 = .ok (.aaload, 1) := by decide +kernel
theorem dJx4a65c_remove_915e3_17 : decode cJx4a65c_remove_915e3 17 = .ok (.astore_n 3, 1) := by decide +kernel
theorem dJx4a65c_remove_915e3_18 : decode cJx4a65c_remove_915e3 18 = .ok (.aload_n 0, 1) := by decide +kernel
theorem dJx4a65c_remove_915e3_19 : decode cJx4a65c_remove_915e3 19 = .ok (.aload_n 2, 1) := by decide +kernel
theorem dJx4a65c_remove_915e3_20 : decode cJx4a65c_remove_915e3 20 = .ok (.iload_n 1, 1) := by decide +kernel
theorem dJx4a65c_remove_915e3_21 : decode cJx4a65c_remove_915e3 21 = .ok (.invokevirtual 144, 3) := by decide +kernel
theorem dJx4a65c_remove_915e3_24 : decode cJx4a65c_remove_915e3 24 = .ok (.aload_n 3, 1) := by decide +kernel
theorem dJx4a65c_remove_915e3_25 : decode cJx4a65c_remove_915e3 25 = .ok (.areturn, 1) := by decide +kernel
theorem dJx4a65c_fastRemove_b59b0_0 : decode cJx4a65c_fastRemove_b59b0 0 = .ok (.aload_n 0, 1) := by decide +kernel
theorem dJx4a65c_fastRemove_b59b0_1 : decode cJx4a65c_fastRemove_b59b0 1 = .ok (.dup, 1) := by decide +kernel
theorem dJx4a65c_fastRemove_b59b0_2 : decode cJx4a65c_fastRemove_b59b0 2 = .ok (.getfield 63, 3) := by decide +kernel
theorem dJx4a65c_fastRemove_b59b0_5 : decode cJx4a65c_fastRemove_b59b0 5 = .ok (.iconst 1, 1) := by decide +kernel
theorem dJx4a65c_fastRemove_b59b0_6 : decode cJx4a65c_fastRemove_b59b0 6 = .ok (.iadd, 1) := by decide +kernel
theorem dJx4a65c_fastRemove_b59b0_7 : decode cJx4a65c_fastRemove_b59b0 7 = .ok (.putfield 63, 3) := by decide +kernel
theorem dJx4a65c_fastRemove_b59b0_10 : decode cJx4a65c_fastRemove_b59b0 10 = .ok (.aload_n 0, 1) := by decide +kernel
theorem dJx4a65c_fastRemove_b59b0_11 : decode cJx4a65c_fastRemove_b59b0 11 = .ok (.getfield 48, 3) := by decide +kernel
theorem dJx4a65c_fastRemove_b59b0_14 : decode cJx4a65c_fastRemove_b59b0 14 = .ok (.iconst 1, 1) := by decide +kernel
theorem dJx4a65c_fastRemove_b59b0_15 : decode cJx4a65c_fastRemove_b59b0 15 = .ok (.isub, 1) := by decide +kernel
theorem dJx4a65c_fastRemove_b59b0_16 : decode cJx4a65c_fastRemove_b59b0 16 = .ok (.dup, 1) := by decide +kernel
theorem dJx4a65c_fastRemove_b59b0_17 : decode cJx4a65c_fastRemove_b59b0 17 = .ok (.istore_n 3, 1) := by decide +kernel
theorem dJx4a65c_fastRemove_b59b0_18 : decode cJx4a65c_fastRemove_b59b0 18 = .ok (.iload_n 2, 1) := by decide +kernel
theorem dJx4a65c_fastRemove_b59b0_19 : decode cJx4a65c_fastRemove_b59b0 19 = .ok (.if_icmp .le 15, 3) := by decide +kernel
theorem dJx4a65c_fastRemove_b59b0_22 : decode cJx4a65c_fastRemove_b59b0 22 = .ok (.aload_n 1, 1) := by decide +kernel
theorem dJx4a65c_fastRemove_b59b0_23 : decode cJx4a65c_fastRemove_b59b0 23 = .ok (.iload_n 2, 1) := by decide +kernel
theorem dJx4a65c_fastRemove_b59b0_24 : decode cJx4a65c_fastRemove_b59b0 24 = .ok (.iconst 1, 1) := by decide +kernel
theorem dJx4a65c_fastRemove_b59b0_25 : decode cJx4a65c_fastRemove_b59b0 25 = .ok (.iadd, 1) := by decide +kernel
theorem dJx4a65c_fastRemove_b59b0_26 : decode cJx4a65c_fastRemove_b59b0 26 = .ok (.aload_n 1, 1) := by decide +kernel
theorem dJx4a65c_fastRemove_b59b0_27 : decode cJx4a65c_fastRemove_b59b0 27 = .ok (.iload_n 2, 1) := by decide +kernel
theorem dJx4a65c_fastRemove_b59b0_28 : decode cJx4a65c_fastRemove_b59b0 28 = .ok (.iload_n 3, 1) := by decide +kernel
theorem dJx4a65c_fastRemove_b59b0_29 : decode cJx4a65c_fastRemove_b59b0 29 = .ok (.iload_n 2, 1) := by decide +kernel
theorem dJx4a65c_fastRemove_b59b0_30 : decode cJx4a65c_fastRemove_b59b0 30 = .ok (.isub, 1) := by decide +kernel
theorem dJx4a65c_fastRemove_b59b0_31 : decode cJx4a65c_fastRemove_b59b0 31 = .ok (.invokestatic 112, 3) := by decide +kernel
theorem dJx4a65c_fastRemove_b59b0_34 : decode cJx4a65c_fastRemove_b59b0 34 = .ok (.aload_n 1, 1) := by decide +kernel
theorem dJx4a65c_fastRemove_b59b0_35 : decode cJx4a65c_fastRemove_b59b0 35 = .ok (.aload_n 0, 1) := by decide +kernel
theorem dJx4a65c_fastRemove_b59b0_36 : decode cJx4a65c_fastRemove_b59b0 36 = .ok (.iload_n 3, 1) := by decide +kernel
theorem dJx4a65c_fastRemove_b59b0_37 : decode cJx4a65c_fastRemove_b59b0 37 = .ok (.dup_x1, 1) := by decide +kernel
theorem dJx4a65c_fastRemove_b59b0_38 : decode cJx4a65c_fastRemove_b59b0 38 = .ok (.putfield 48, 3) := by decide +kernel
theorem dJx4a65c_fastRemove_b59b0_41 : decode cJx4a65c_fastRemove_b59b0 41 = .ok (.aconst_null, 1) := by decide +kernel
theorem dJx4a65c_fastRemove_b59b0_42 : decode cJx4a65c_fastRemove_b59b0 42 = .ok (.aastore, 1) := by decide +kernel
theorem dJx4a65c_fastRemove_b59b0_43 : decode cJx4a65c_fastRemove_b59b0 43 = .ok (.return_, 1) := by decide +kernel
theorem dJx4a65c_clear_da8c8_0 : decode cJx4a65c_clear_da8c8 0 = .ok (.aload_n 0, 1) := by decide +kernel
theorem dJx4a65c_clear_da8c8_1 : decode cJx4a65c_clear_da8c8 1 = .ok (.dup, 1) := by decide +kernel
theorem dJx4a65c_clear_da8c8_2 : decode cJx4a65c_clear_da8c8 2 = .ok (.getfield 63, 3) := by decide +kernel
theorem dJx4a65c_clear_da8c8_5 : decode cJx4a65c_clear_da8c8 5 = .ok (.iconst 1, 1) := by decide +kernel
theorem dJx4a65c_clear_da8c8_6 : decode cJx4a65c_clear_da8c8 6 = .ok (.iadd, 1) := by decide +kernel
theorem dJx4a65c_clear_da8c8_7 : decode cJx4a65c_clear_da8c8 7 = .ok (.putfield 63, 3) := by decide +kernel
theorem dJx4a65c_clear_da8c8_10 : decode cJx4a65c_clear_da8c8 10 = .ok (.aload_n 0, 1) := by decide +kernel
theorem dJx4a65c_clear_da8c8_11 : decode cJx4a65c_clear_da8c8 11 = .ok (.getfield 9, 3) := by decide +kernel
theorem dJx4a65c_clear_da8c8_14 : decode cJx4a65c_clear_da8c8 14 = .ok (.astore_n 1, 1) := by decide +kernel
theorem dJx4a65c_clear_da8c8_15 : decode cJx4a65c_clear_da8c8 15 = .ok (.aload_n 0, 1) := by decide +kernel
theorem dJx4a65c_clear_da8c8_16 : decode cJx4a65c_clear_da8c8 16 = .ok (.getfield 48, 3) := by decide +kernel
theorem dJx4a65c_clear_da8c8_19 : decode cJx4a65c_clear_da8c8 19 = .ok (.istore_n 2, 1) := by decide +kernel
theorem dJx4a65c_clear_da8c8_20 : decode cJx4a65c_clear_da8c8 20 = .ok (.aload_n 0, 1) := by decide +kernel
theorem dJx4a65c_clear_da8c8_21 : decode cJx4a65c_clear_da8c8 21 = .ok (.iconst 0, 1) := by decide +kernel
theorem dJx4a65c_clear_da8c8_22 : decode cJx4a65c_clear_da8c8 22 = .ok (.dup_x1, 1) := by decide +kernel
theorem dJx4a65c_clear_da8c8_23 : decode cJx4a65c_clear_da8c8 23 = .ok (.putfield 48, 3) := by decide +kernel
theorem dJx4a65c_clear_da8c8_26 : decode cJx4a65c_clear_da8c8 26 = .ok (.istore_n 3, 1) := by decide +kernel
theorem dJx4a65c_clear_da8c8_27 : decode cJx4a65c_clear_da8c8 27 = .ok (.iload_n 3, 1) := by decide +kernel
theorem dJx4a65c_clear_da8c8_28 : decode cJx4a65c_clear_da8c8 28 = .ok (.iload_n 2, 1) := by decide +kernel
theorem dJx4a65c_clear_da8c8_29 : decode cJx4a65c_clear_da8c8 29 = .ok (.if_icmp .ge 13, 3) := by decide +kernel
theorem dJx4a65c_clear_da8c8_32 : decode cJx4a65c_clear_da8c8 32 = .ok (.aload_n 1, 1) := by decide +kernel
theorem dJx4a65c_clear_da8c8_33 : decode cJx4a65c_clear_da8c8 33 = .ok (.iload_n 3, 1) := by decide +kernel
theorem dJx4a65c_clear_da8c8_34 : decode cJx4a65c_clear_da8c8 34 = .ok (.aconst_null, 1) := by decide +kernel
theorem dJx4a65c_clear_da8c8_35 : decode cJx4a65c_clear_da8c8 35 = .ok (.aastore, 1) := by decide +kernel
theorem dJx4a65c_clear_da8c8_36 : decode cJx4a65c_clear_da8c8 36 = .ok (.iinc 3 1, 3) := by decide +kernel
theorem dJx4a65c_clear_da8c8_39 : decode cJx4a65c_clear_da8c8 39 = .ok (.goto (-12), 3) := by decide +kernel
theorem dJx4a65c_clear_da8c8_42 : decode cJx4a65c_clear_da8c8 42 = .ok (.return_, 1) := by decide +kernel
theorem dJx4a65c_rangeCheckForAdd_d00df_0 : decode cJx4a65c_rangeCheckForAdd_d00df 0 = .ok (.iload_n 1, 1) := by decide +kernel
theorem dJx4a65c_rangeCheckForAdd_d00df_1 : decode cJx4a65c_rangeCheckForAdd_d00df 1 = .ok (.aload_n 0, 1) := by decide +kernel
theorem dJx4a65c_rangeCheckForAdd_d00df_2 : decode cJx4a65c_rangeCheckForAdd_d00df 2 = .ok (.getfield 48, 3) := by decide +kernel
theorem dJx4a65c_rangeCheckForAdd_d00df_5 : decode cJx4a65c_rangeCheckForAdd_d00df 5 = .ok (.if_icmp .gt 7, 3) := by decide +kernel
theorem dJx4a65c_rangeCheckForAdd_d00df_8 : decode cJx4a65c_rangeCheckForAdd_d00df 8 = .ok (.iload_n 1, 1) := by decide +kernel
theorem dJx4a65c_rangeCheckForAdd_d00df_9 : decode cJx4a65c_rangeCheckForAdd_d00df 9 = .ok (.ifCond .ge 16, 3) := by decide +kernel
theorem dJx4a65c_rangeCheckForAdd_d00df_12 : decode cJx4a65c_rangeCheckForAdd_d00df 12 = .ok (.new 187, 3) := by decide +kernel
theorem dJx4a65c_rangeCheckForAdd_d00df_15 : decode cJx4a65c_rangeCheckForAdd_d00df 15 = .ok (.dup, 1) := by decide +kernel
theorem dJx4a65c_rangeCheckForAdd_d00df_16 : decode cJx4a65c_rangeCheckForAdd_d00df 16 = .ok (.aload_n 0, 1) := by decide +kernel
theorem dJx4a65c_rangeCheckForAdd_d00df_17 : decode cJx4a65c_rangeCheckForAdd_d00df 17 = .ok (.iload_n 1, 1) := by decide +kernel
theorem dJx4a65c_rangeCheckForAdd_d00df_18 : decode cJx4a65c_rangeCheckForAdd_d00df 18 = .ok (.invokevirtual 198, 3) := by decide +kernel
theorem dJx4a65c_rangeCheckForAdd_d00df_21 : decode cJx4a65c_rangeCheckForAdd_d00df 21 = .ok (.invokespecial 193, 3) := by decide +kernel
theorem dJx4a65c_rangeCheckForAdd_d00df_24 : decode cJx4a65c_rangeCheckForAdd_d00df 24 = .ok (.athrow, 1) := by decide +kernel
theorem dJx4a65c_rangeCheckForAdd_d00df_25 : decode cJx4a65c_rangeCheckForAdd_d00df 25 = .ok (.return_, 1) := by decide +kernel
theorem dJ7_copyOf_1904c_0 : decode cJ7_copyOf_1904c 0 = .ok (.aload_n 0, 1) := by decide +kernel
theorem dJ7_copyOf_1904c_1 : decode cJ7_copyOf_1904c 1 = .ok (.iload_n 1, 1) := by decide +kernel
theorem dJ7_copyOf_1904c_2 : decode cJ7_copyOf_1904c 2 = .ok (.aload_n 0, 1) := by decide +kernel
theorem dJ7_copyOf_1904c_3 : decode cJ7_copyOf_1904c 3 = .ok (.invokevirtual 86, 3) := by decide +kernel
theorem dJ7_copyOf_1904c_6 : decode cJ7_copyOf_1904c 6 = .ok (.invokestatic 300, 3) := by decide +kernel
theorem dJ7_copyOf_1904c_9 : decode cJ7_copyOf_1904c 9 = .ok (.areturn, 1) := by decide +kernel
theorem dJ7_copyOf_6403c_0 : decode cJ7_copyOf_6403c 0 = .ok (.aload_n 2, 1) := by decide +kernel
theorem dJ7_copyOf_6403c_1 : decode cJ7_copyOf_6403c 1 = .ok (.ldc 110, 2) := by decide +kernel
theorem dJ7_copyOf_6403c_3 : decode cJ7_copyOf_6403c 3 = .ok (.if_acmp .ne 10, 3) := by decide +kernel
theorem dJ7_copyOf_6403c_6 : decode cJ7_copyOf_6403c 6 = .ok (.iload_n 1, 1) := by decide +kernel
theorem dJ7_copyOf_6403c_7 : decode cJ7_copyOf_6403c 7 = .ok (.anewarray 2, 3) := by decide +kernel
theorem dJ7_copyOf_6403c_10 : decode cJ7_copyOf_6403c 10 = .ok (.goto 14, 3) := by decide +kernel
theorem dJ7_copyOf_6403c_13 : decode cJ7_copyOf_6403c 13 = .ok (.aload_n 2, 1) := by decide +kernel
theorem dJ7_copyOf_6403c_14 : decode cJ7_copyOf_6403c 14 = .ok (.invokevirtual 90, 3) := by decide +kernel
theorem dJ7_copyOf_6403c_17 : decode cJ7_copyOf_6403c 17 = .ok (.iload_n 1, 1) := by decide +kernel
theorem dJ7_copyOf_6403c_18 : decode cJ7_copyOf_6403c 18 = .ok (.invokestatic 95, 3) := by decide +kernel
theorem dJ7_copyOf_6403c_21 : decode cJ7_copyOf_6403c 21 = .ok (.checkcast 110, 3) := by decide +kernel
theorem dJ7_copyOf_6403c_24 : decode cJ7_copyOf_6403c 24 = .ok (.astore_n 3, 1) := by decide +kernel
theorem dJ7_copyOf_6403c_25 : decode cJ7_copyOf_6403c 25 = .ok (.aload_n 0, 1) := by decide +kernel
theorem dJ7_copyOf_6403c_26 : decode cJ7_copyOf_6403c 26 = .ok (.iconst 0, 1) := by decide +kernel
theorem dJ7_copyOf_6403c_27 : decode cJ7_copyOf_6403c 27 = .ok (.aload_n 3, 1) := by decide +kernel
theorem dJ7_copyOf_6403c_28 : decode cJ7_copyOf_6403c 28 = .ok (.iconst 0, 1) := by decide +kernel
theorem dJ7_copyOf_6403c_29 : decode cJ7_copyOf_6403c 29 = .ok (.aload_n 0, 1) := by decide +kernel
theorem dJ7_copyOf_6403c_30 : decode cJ7_copyOf_6403c 30 = .ok (.arraylength, 1) := by decide +kernel
theorem dJ7_copyOf_6403c_31 : decode cJ7_copyOf_6403c 31 = .ok (.iload_n 1, 1) := by decide +kernel
theorem dJ7_copyOf_6403c_32 : decode cJ7_copyOf_6403c 32 = .ok (.invokestatic 304, 3) := by decide +kernel
theorem dJ7_copyOf_6403c_35 : decode cJ7_copyOf_6403c 35 = .ok (.invokestatic 150, 3) := by decide +kernel
theorem dJ7_copyOf_6403c_38 : decode cJ7_copyOf_6403c 38 = .ok (.aload_n 3, 1) := by decide +kernel
theorem dJ7_copyOf_6403c_39 : decode cJ7_copyOf_6403c 39 = .ok (.areturn, 1) := by decide +kernel
theorem dJ15_checkIndex_7cf53_0 : decode cJ15_checkIndex_7cf53 0 = .ok (.iload_n 0, 1) := by decide +kernel
theorem dJ15_checkIndex_7cf53_1 : decode cJ15_checkIndex_7cf53 1 = .ok (.iload_n 1, 1) := by decide +kernel
theorem dJ15_checkIndex_7cf53_2 : decode cJ15_checkIndex_7cf53 2 = .ok (.aconst_null, 1) := by decide +kernel
theorem dJ15_checkIndex_7cf53_3 : decode cJ15_checkIndex_7cf53 3 = .ok (.invokestatic 105, 3) := by decide +kernel
theorem dJ15_checkIndex_7cf53_6 : decode cJ15_checkIndex_7cf53 6 = .ok (.ireturn, 1) := by decide +kernel
theorem dJ8_newLength_cabcc_0 : decode cJ8_newLength_cabcc 0 = .ok (.iload_n 0, 1) := by decide +kernel
theorem dJ8_newLength_cabcc_1 : decode cJ8_newLength_cabcc 1 = .ok (.iload_n 1, 1) := by decide +kernel
theorem dJ8_newLength_cabcc_2 : decode cJ8_newLength_cabcc 2 = .ok (.iload_n 2, 1) := by decide +kernel
theorem dJ8_newLength_cabcc_3 : decode cJ8_newLength_cabcc 3 = .ok (.invokestatic 194, 3) := by decide +kernel
theorem dJ8_newLength_cabcc_6 : decode cJ8_newLength_cabcc 6 = .ok (.iadd, 1) := by decide +kernel
theorem dJ8_newLength_cabcc_7 : decode cJ8_newLength_cabcc 7 = .ok (.istore_n 3, 1) := by decide +kernel
theorem dJ8_newLength_cabcc_8 : decode cJ8_newLength_cabcc 8 = .ok (.iconst 0, 1) := by decide +kernel
theorem dJ8_newLength_cabcc_9 : decode cJ8_newLength_cabcc 9 = .ok (.iload_n 3, 1) := by decide +kernel
theorem dJ8_newLength_cabcc_10 : decode cJ8_newLength_cabcc 10 = .ok (.if_icmp .ge 11, 3) := by decide +kernel
theorem dJ8_newLength_cabcc_13 : decode cJ8_newLength_cabcc 13 = .ok (.iload_n 3, 1) := by decide +kernel
theorem dJ8_newLength_cabcc_14 : decode cJ8_newLength_cabcc 14 = .ok (.ldc 200, 2) := by decide +kernel
theorem dJ8_newLength_cabcc_16 : decode cJ8_newLength_cabcc 16 = .ok (.if_icmp .gt 5, 3) := by decide +kernel
theorem dJ8_newLength_cabcc_19 : decode cJ8_newLength_cabcc 19 = .ok (.iload_n 3, 1) := by decide +kernel
theorem dJ8_newLength_cabcc_20 : decode cJ8_newLength_cabcc 20 = .ok (.ireturn, 1) := by decide +kernel
theorem dJ8_newLength_cabcc_21 : decode cJ8_newLength_cabcc 21 = .ok (.iload_n 0, 1) := by decide +kernel
theorem dJ8_newLength_cabcc_22 : decode cJ8_newLength_cabcc 22 = .ok (.iload_n 1, 1) := by decide +kernel
theorem dJ8_newLength_cabcc_23 : decode cJ8_newLength_cabcc 23 = .ok (.invokestatic 201, 3) := by decide +kernel
theorem dJ8_newLength_cabcc_26 : decode cJ8_newLength_cabcc 26 = .ok (.ireturn, 1) := by decide +kernel
theorem dJ3_checkIndex_8e157_0 : decode cJ3_checkIndex_8e157 0 = .ok (.iload_n 0, 1) := by decide +kernel
theorem dJ3_checkIndex_8e157_1 : decode cJ3_checkIndex_8e157 1 = .ok (.ifCond .lt 8, 3) := by decide +kernel
theorem dJ3_checkIndex_8e157_4 : decode cJ3_checkIndex_8e157 4 = .ok (.iload_n 0, 1) := by decide +kernel
theorem dJ3_checkIndex_8e157_5 : decode cJ3_checkIndex_8e157 5 = .ok (.iload_n 1, 1) := by decide +kernel
theorem dJ3_checkIndex_8e157_6 : decode cJ3_checkIndex_8e157 6 = .ok (.if_icmp .lt 10, 3) := by decide +kernel
theorem dJ3_checkIndex_8e157_9 : decode cJ3_checkIndex_8e157 9 = .ok (.aload_n 2, 1) := by decide +kernel
theorem dJ3_checkIndex_8e157_10 : decode cJ3_checkIndex_8e157 10 = .ok (.iload_n 0, 1) := by decide +kernel
theorem dJ3_checkIndex_8e157_11 : decode cJ3_checkIndex_8e157 11 = .ok (.iload_n 1, 1) := by decide +kernel
theorem dJ3_checkIndex_8e157_12 : decode cJ3_checkIndex_8e157 12 = .ok (.invokestatic 95, 3) := by decide +kernel
theorem dJ3_checkIndex_8e157_15 : decode cJ3_checkIndex_8e157 15 = .ok (.athrow, 1) := by decide +kernel
theorem dJ3_checkIndex_8e157_16 : decode cJ3_checkIndex_8e157 16 = .ok (.iload_n 0, 1) := by decide +kernel
theorem dJ3_checkIndex_8e157_17 : decode cJ3_checkIndex_8e157 17 = .ok (.ireturn, 1) := by decide +kernel
theorem dL_cell_0 : decode cL_cell 0 = .ok (.iload_n 1, 1) := by decide +kernel
theorem dL_cell_1 : decode cL_cell 1 = .ok (.aload_n 0, 1) := by decide +kernel
theorem dL_cell_2 : decode cL_cell 2 = .ok (.arraylength, 1) := by decide +kernel
theorem dL_cell_3 : decode cL_cell 3 = .ok (.if_icmp .ge 9, 3) := by decide +kernel
theorem dL_cell_6 : decode cL_cell 6 = .ok (.aload_n 0, 1) := by decide +kernel
theorem dL_cell_7 : decode cL_cell 7 = .ok (.iload_n 1, 1) := by decide +kernel
theorem dL_cell_8 : decode cL_cell 8 = .ok (.iaload, 1) := by decide +kernel
theorem dL_cell_9 : decode cL_cell 9 = .ok (.goto 7, 3) := by decide +kernel
theorem dL_cell_12 : decode cL_cell 12 = .ok (.ldc 7, 2) := by decide +kernel
theorem dL_cell_14 : decode cL_cell 14 = .ok (.iload_n 1, 1) := by decide +kernel
theorem dL_cell_15 : decode cL_cell 15 = .ok (.imul, 1) := by decide +kernel
theorem dL_cell_16 : decode cL_cell 16 = .ok (.ireturn, 1) := by decide +kernel
theorem dL_pick_0 : decode cL_pick 0 = .ok (.aload_n 0, 1) := by decide +kernel
theorem dL_pick_1 : decode cL_pick 1 = .ok (.iload_n 1, 1) := by decide +kernel
theorem dL_pick_2 : decode cL_pick 2 = .ok (.invokestatic 8, 3) := by decide +kernel
theorem dL_pick_5 : decode cL_pick 5 = .ok (.iconst 1, 1) := by decide +kernel
theorem dL_pick_6 : decode cL_pick 6 = .ok (.iushr, 1) := by decide +kernel
theorem dL_pick_7 : decode cL_pick 7 = .ok (.iload_n 2, 1) := by decide +kernel
theorem dL_pick_8 : decode cL_pick 8 = .ok (.irem, 1) := by decide +kernel
theorem dL_pick_9 : decode cL_pick 9 = .ok (.ireturn, 1) := by decide +kernel
theorem dL_addRecipe_0 : decode cL_addRecipe 0 = .ok (.aload_n 0, 1) := by decide +kernel
theorem dL_addRecipe_1 : decode cL_addRecipe 1 = .ok (.iload_n 1, 1) := by decide +kernel
theorem dL_addRecipe_2 : decode cL_addRecipe 2 = .ok (.iload_n 2, 1) := by decide +kernel
theorem dL_addRecipe_3 : decode cL_addRecipe 3 = .ok (.iload_n 3, 1) := by decide +kernel
theorem dL_addRecipe_4 : decode cL_addRecipe 4 = .ok (.invokevirtual 14, 3) := by decide +kernel
theorem dL_addRecipe_7 : decode cL_addRecipe 7 = .ok (.ireturn, 1) := by decide +kernel
theorem dL_addRecipe_8 : decode cL_addRecipe 8 = .ok (.astore 4, 2) := by decide +kernel
theorem dL_addRecipe_10 : decode cL_addRecipe 10 = .ok (.bipush (-78), 2) := by decide +kernel
theorem dL_addRecipe_12 : decode cL_addRecipe 12 = .ok (.ireturn, 1) := by decide +kernel
theorem dL_addRecipe_13 : decode cL_addRecipe 13 = .ok (.astore 4, 2) := by decide +kernel
theorem dL_addRecipe_15 : decode cL_addRecipe 15 = .ok (.bipush (-79), 2) := by decide +kernel
theorem dL_addRecipe_17 : decode cL_addRecipe 17 = .ok (.ireturn, 1) := by decide +kernel
theorem dL_addVessel_0 : decode cL_addVessel 0 = .ok (.aload_n 0, 1) := by decide +kernel
theorem dL_addVessel_1 : decode cL_addVessel 1 = .ok (.iload_n 1, 1) := by decide +kernel
theorem dL_addVessel_2 : decode cL_addVessel 2 = .ok (.invokevirtual 24, 3) := by decide +kernel
theorem dL_addVessel_5 : decode cL_addVessel 5 = .ok (.ireturn, 1) := by decide +kernel
theorem dL_addVessel_6 : decode cL_addVessel 6 = .ok (.astore_n 2, 1) := by decide +kernel
theorem dL_addVessel_7 : decode cL_addVessel 7 = .ok (.bipush (-78), 2) := by decide +kernel
theorem dL_addVessel_9 : decode cL_addVessel 9 = .ok (.ireturn, 1) := by decide +kernel
theorem dL_addVessel_10 : decode cL_addVessel 10 = .ok (.astore_n 2, 1) := by decide +kernel
theorem dL_addVessel_11 : decode cL_addVessel 11 = .ok (.bipush (-79), 2) := by decide +kernel
theorem dL_addVessel_13 : decode cL_addVessel 13 = .ok (.ireturn, 1) := by decide +kernel
theorem dL_setCrews_0 : decode cL_setCrews 0 = .ok (.aload_n 0, 1) := by decide +kernel
theorem dL_setCrews_1 : decode cL_setCrews 1 = .ok (.iload_n 1, 1) := by decide +kernel
theorem dL_setCrews_2 : decode cL_setCrews 2 = .ok (.invokevirtual 28, 3) := by decide +kernel
theorem dL_setCrews_5 : decode cL_setCrews 5 = .ok (.ireturn, 1) := by decide +kernel
theorem dL_setCrews_6 : decode cL_setCrews 6 = .ok (.astore_n 2, 1) := by decide +kernel
theorem dL_setCrews_7 : decode cL_setCrews 7 = .ok (.bipush (-78), 2) := by decide +kernel
theorem dL_setCrews_9 : decode cL_setCrews 9 = .ok (.ireturn, 1) := by decide +kernel
theorem dL_addPacks_0 : decode cL_addPacks 0 = .ok (.aload_n 0, 1) := by decide +kernel
theorem dL_addPacks_1 : decode cL_addPacks 1 = .ok (.iload_n 1, 1) := by decide +kernel
theorem dL_addPacks_2 : decode cL_addPacks 2 = .ok (.iload_n 2, 1) := by decide +kernel
theorem dL_addPacks_3 : decode cL_addPacks 3 = .ok (.invokevirtual 32, 3) := by decide +kernel
theorem dL_addPacks_6 : decode cL_addPacks 6 = .ok (.ireturn, 1) := by decide +kernel
theorem dL_addPacks_7 : decode cL_addPacks 7 = .ok (.astore_n 3, 1) := by decide +kernel
theorem dL_addPacks_8 : decode cL_addPacks 8 = .ok (.bipush (-78), 2) := by decide +kernel
theorem dL_addPacks_10 : decode cL_addPacks 10 = .ok (.ireturn, 1) := by decide +kernel
theorem dL_brew_0 : decode cL_brew 0 = .ok (.aload_n 0, 1) := by decide +kernel
theorem dL_brew_1 : decode cL_brew 1 = .ok (.iload_n 1, 1) := by decide +kernel
theorem dL_brew_2 : decode cL_brew 2 = .ok (.iload_n 2, 1) := by decide +kernel
theorem dL_brew_3 : decode cL_brew 3 = .ok (.invokevirtual 36, 3) := by decide +kernel
theorem dL_brew_6 : decode cL_brew 6 = .ok (.ireturn, 1) := by decide +kernel
theorem dL_brew_7 : decode cL_brew 7 = .ok (.astore_n 3, 1) := by decide +kernel
theorem dL_brew_8 : decode cL_brew 8 = .ok (.bipush (-77), 2) := by decide +kernel
theorem dL_brew_10 : decode cL_brew 10 = .ok (.ireturn, 1) := by decide +kernel
theorem dL_brew_11 : decode cL_brew 11 = .ok (.astore_n 3, 1) := by decide +kernel
theorem dL_brew_12 : decode cL_brew 12 = .ok (.bipush (-76), 2) := by decide +kernel
theorem dL_brew_14 : decode cL_brew 14 = .ok (.ireturn, 1) := by decide +kernel
theorem dL_brew_15 : decode cL_brew 15 = .ok (.astore_n 3, 1) := by decide +kernel
theorem dL_brew_16 : decode cL_brew 16 = .ok (.bipush (-79), 2) := by decide +kernel
theorem dL_brew_18 : decode cL_brew 18 = .ok (.ireturn, 1) := by decide +kernel
theorem dL_brew_19 : decode cL_brew 19 = .ok (.astore_n 3, 1) := by decide +kernel
theorem dL_brew_20 : decode cL_brew 20 = .ok (.bipush (-75), 2) := by decide +kernel
theorem dL_brew_22 : decode cL_brew 22 = .ok (.ireturn, 1) := by decide +kernel
theorem dL_enqueue_0 : decode cL_enqueue 0 = .ok (.aload_n 0, 1) := by decide +kernel
theorem dL_enqueue_1 : decode cL_enqueue 1 = .ok (.iload_n 1, 1) := by decide +kernel
theorem dL_enqueue_2 : decode cL_enqueue 2 = .ok (.invokevirtual 45, 3) := by decide +kernel
theorem dL_enqueue_5 : decode cL_enqueue 5 = .ok (.ireturn, 1) := by decide +kernel
theorem dL_enqueue_6 : decode cL_enqueue 6 = .ok (.astore_n 2, 1) := by decide +kernel
theorem dL_enqueue_7 : decode cL_enqueue 7 = .ok (.bipush (-77), 2) := by decide +kernel
theorem dL_enqueue_9 : decode cL_enqueue 9 = .ok (.ireturn, 1) := by decide +kernel
theorem dL_enqueue_10 : decode cL_enqueue 10 = .ok (.astore_n 2, 1) := by decide +kernel
theorem dL_enqueue_11 : decode cL_enqueue 11 = .ok (.bipush (-79), 2) := by decide +kernel
theorem dL_enqueue_13 : decode cL_enqueue 13 = .ok (.ireturn, 1) := by decide +kernel
theorem dL_withdraw_0 : decode cL_withdraw 0 = .ok (.aload_n 0, 1) := by decide +kernel
theorem dL_withdraw_1 : decode cL_withdraw 1 = .ok (.iload_n 1, 1) := by decide +kernel
theorem dL_withdraw_2 : decode cL_withdraw 2 = .ok (.invokevirtual 48, 3) := by decide +kernel
theorem dL_withdraw_5 : decode cL_withdraw 5 = .ok (.ireturn, 1) := by decide +kernel
theorem dL_withdraw_6 : decode cL_withdraw 6 = .ok (.astore_n 2, 1) := by decide +kernel
theorem dL_withdraw_7 : decode cL_withdraw 7 = .ok (.bipush (-75), 2) := by decide +kernel
theorem dL_withdraw_9 : decode cL_withdraw 9 = .ok (.ireturn, 1) := by decide +kernel
theorem dL_queuedAt_0 : decode cL_queuedAt 0 = .ok (.aload_n 0, 1) := by decide +kernel
theorem dL_queuedAt_1 : decode cL_queuedAt 1 = .ok (.iload_n 1, 1) := by decide +kernel
theorem dL_queuedAt_2 : decode cL_queuedAt 2 = .ok (.invokevirtual 51, 3) := by decide +kernel
theorem dL_queuedAt_5 : decode cL_queuedAt 5 = .ok (.ireturn, 1) := by decide +kernel
theorem dL_queuedAt_6 : decode cL_queuedAt 6 = .ok (.astore_n 2, 1) := by decide +kernel
theorem dL_queuedAt_7 : decode cL_queuedAt 7 = .ok (.bipush (-75), 2) := by decide +kernel
theorem dL_queuedAt_9 : decode cL_queuedAt 9 = .ok (.ireturn, 1) := by decide +kernel
theorem dL_forecast_0 : decode cL_forecast 0 = .ok (.aload_n 0, 1) := by decide +kernel
theorem dL_forecast_1 : decode cL_forecast 1 = .ok (.invokevirtual 54, 3) := by decide +kernel
theorem dL_forecast_4 : decode cL_forecast 4 = .ok (.ireturn, 1) := by decide +kernel
theorem dL_forecast_5 : decode cL_forecast 5 = .ok (.astore_n 1, 1) := by decide +kernel
theorem dL_forecast_6 : decode cL_forecast 6 = .ok (.bipush (-75), 2) := by decide +kernel
theorem dL_forecast_8 : decode cL_forecast 8 = .ok (.ireturn, 1) := by decide +kernel
theorem dL_bestForecast_0 : decode cL_bestForecast 0 = .ok (.aload_n 0, 1) := by decide +kernel
theorem dL_bestForecast_1 : decode cL_bestForecast 1 = .ok (.invokevirtual 58, 3) := by decide +kernel
theorem dL_bestForecast_4 : decode cL_bestForecast 4 = .ok (.ireturn, 1) := by decide +kernel
theorem dL_bestForecast_5 : decode cL_bestForecast 5 = .ok (.astore_n 1, 1) := by decide +kernel
theorem dL_bestForecast_6 : decode cL_bestForecast 6 = .ok (.bipush (-75), 2) := by decide +kernel
theorem dL_bestForecast_8 : decode cL_bestForecast 8 = .ok (.ireturn, 1) := by decide +kernel
theorem dL_bestForecastByTrying_0 : decode cL_bestForecastByTrying 0 = .ok (.aload_n 0, 1) := by decide +kernel
theorem dL_bestForecastByTrying_1 : decode cL_bestForecastByTrying 1 = .ok (.invokevirtual 61, 3) := by decide +kernel
theorem dL_bestForecastByTrying_4 : decode cL_bestForecastByTrying 4 = .ok (.ireturn, 1) := by decide +kernel
theorem dL_bestForecastByTrying_5 : decode cL_bestForecastByTrying 5 = .ok (.astore_n 1, 1) := by decide +kernel
theorem dL_bestForecastByTrying_6 : decode cL_bestForecastByTrying 6 = .ok (.bipush (-75), 2) := by decide +kernel
theorem dL_bestForecastByTrying_8 : decode cL_bestForecastByTrying 8 = .ok (.ireturn, 1) := by decide +kernel
theorem dL_improve_0 : decode cL_improve 0 = .ok (.aload_n 0, 1) := by decide +kernel
theorem dL_improve_1 : decode cL_improve 1 = .ok (.invokevirtual 64, 3) := by decide +kernel
theorem dL_improve_4 : decode cL_improve 4 = .ok (.ireturn, 1) := by decide +kernel
theorem dL_improve_5 : decode cL_improve 5 = .ok (.astore_n 1, 1) := by decide +kernel
theorem dL_improve_6 : decode cL_improve 6 = .ok (.bipush (-75), 2) := by decide +kernel
theorem dL_improve_8 : decode cL_improve 8 = .ok (.ireturn, 1) := by decide +kernel
theorem dL_order_0 : decode cL_order 0 = .ok (.aload_n 0, 1) := by decide +kernel
theorem dL_order_1 : decode cL_order 1 = .ok (.iload_n 1, 1) := by decide +kernel
theorem dL_order_2 : decode cL_order 2 = .ok (.iload_n 2, 1) := by decide +kernel
theorem dL_order_3 : decode cL_order 3 = .ok (.iload_n 3, 1) := by decide +kernel
theorem dL_order_4 : decode cL_order 4 = .ok (.invokevirtual 67, 3) := by decide +kernel
theorem dL_order_7 : decode cL_order 7 = .ok (.ireturn, 1) := by decide +kernel
theorem dL_order_8 : decode cL_order 8 = .ok (.astore 4, 2) := by decide +kernel
theorem dL_order_10 : decode cL_order 10 = .ok (.bipush (-77), 2) := by decide +kernel
theorem dL_order_12 : decode cL_order 12 = .ok (.ireturn, 1) := by decide +kernel
theorem dL_order_13 : decode cL_order 13 = .ok (.astore 4, 2) := by decide +kernel
theorem dL_order_15 : decode cL_order 15 = .ok (.bipush (-78), 2) := by decide +kernel
theorem dL_order_17 : decode cL_order 17 = .ok (.ireturn, 1) := by decide +kernel
theorem dL_order_18 : decode cL_order 18 = .ok (.astore 4, 2) := by decide +kernel
theorem dL_order_20 : decode cL_order 20 = .ok (.bipush (-79), 2) := by decide +kernel
theorem dL_order_22 : decode cL_order 22 = .ok (.ireturn, 1) := by decide +kernel
theorem dL_blend_0 : decode cL_blend 0 = .ok (.aload_n 0, 1) := by decide +kernel
theorem dL_blend_1 : decode cL_blend 1 = .ok (.iload_n 1, 1) := by decide +kernel
theorem dL_blend_2 : decode cL_blend 2 = .ok (.iload_n 2, 1) := by decide +kernel
theorem dL_blend_3 : decode cL_blend 3 = .ok (.iload_n 3, 1) := by decide +kernel
theorem dL_blend_4 : decode cL_blend 4 = .ok (.invokevirtual 70, 3) := by decide +kernel
theorem dL_blend_7 : decode cL_blend 7 = .ok (.ireturn, 1) := by decide +kernel
theorem dL_blend_8 : decode cL_blend 8 = .ok (.astore 4, 2) := by decide +kernel
theorem dL_blend_10 : decode cL_blend 10 = .ok (.bipush (-77), 2) := by decide +kernel
theorem dL_blend_12 : decode cL_blend 12 = .ok (.ireturn, 1) := by decide +kernel
theorem dL_blend_13 : decode cL_blend 13 = .ok (.astore 4, 2) := by decide +kernel
theorem dL_blend_15 : decode cL_blend 15 = .ok (.bipush (-78), 2) := by decide +kernel
theorem dL_blend_17 : decode cL_blend 17 = .ok (.ireturn, 1) := by decide +kernel
theorem dL_blend_18 : decode cL_blend 18 = .ok (.astore 4, 2) := by decide +kernel
theorem dL_blend_20 : decode cL_blend 20 = .ok (.bipush (-79), 2) := by decide +kernel
theorem dL_blend_22 : decode cL_blend 22 = .ok (.ireturn, 1) := by decide +kernel
theorem dL_cancel_0 : decode cL_cancel 0 = .ok (.aload_n 0, 1) := by decide +kernel
theorem dL_cancel_1 : decode cL_cancel 1 = .ok (.iload_n 1, 1) := by decide +kernel
theorem dL_cancel_2 : decode cL_cancel 2 = .ok (.invokevirtual 73, 3) := by decide +kernel
theorem dL_cancel_5 : decode cL_cancel 5 = .ok (.ireturn, 1) := by decide +kernel
theorem dL_cancel_6 : decode cL_cancel 6 = .ok (.astore_n 2, 1) := by decide +kernel
theorem dL_cancel_7 : decode cL_cancel 7 = .ok (.bipush (-77), 2) := by decide +kernel
theorem dL_cancel_9 : decode cL_cancel 9 = .ok (.ireturn, 1) := by decide +kernel
theorem dL_cancel_10 : decode cL_cancel 10 = .ok (.astore_n 2, 1) := by decide +kernel
theorem dL_cancel_11 : decode cL_cancel 11 = .ok (.bipush (-79), 2) := by decide +kernel
theorem dL_cancel_13 : decode cL_cancel 13 = .ok (.ireturn, 1) := by decide +kernel
theorem dL_status_0 : decode cL_status 0 = .ok (.aload_n 0, 1) := by decide +kernel
theorem dL_status_1 : decode cL_status 1 = .ok (.iload_n 1, 1) := by decide +kernel
theorem dL_status_2 : decode cL_status 2 = .ok (.invokevirtual 76, 3) := by decide +kernel
theorem dL_status_5 : decode cL_status 5 = .ok (.ireturn, 1) := by decide +kernel
theorem dL_status_6 : decode cL_status 6 = .ok (.astore_n 2, 1) := by decide +kernel
theorem dL_status_7 : decode cL_status 7 = .ok (.bipush (-77), 2) := by decide +kernel
theorem dL_status_9 : decode cL_status 9 = .ok (.ireturn, 1) := by decide +kernel
theorem dL_filledOn_0 : decode cL_filledOn 0 = .ok (.aload_n 0, 1) := by decide +kernel
theorem dL_filledOn_1 : decode cL_filledOn 1 = .ok (.iload_n 1, 1) := by decide +kernel
theorem dL_filledOn_2 : decode cL_filledOn 2 = .ok (.invokevirtual 80, 3) := by decide +kernel
theorem dL_filledOn_5 : decode cL_filledOn 5 = .ok (.ireturn, 1) := by decide +kernel
theorem dL_filledOn_6 : decode cL_filledOn 6 = .ok (.astore_n 2, 1) := by decide +kernel
theorem dL_filledOn_7 : decode cL_filledOn 7 = .ok (.bipush (-77), 2) := by decide +kernel
theorem dL_filledOn_9 : decode cL_filledOn 9 = .ok (.ireturn, 1) := by decide +kernel
theorem dL_filledOn_10 : decode cL_filledOn 10 = .ok (.astore_n 2, 1) := by decide +kernel
theorem dL_filledOn_11 : decode cL_filledOn 11 = .ok (.bipush (-79), 2) := by decide +kernel
theorem dL_filledOn_13 : decode cL_filledOn 13 = .ok (.ireturn, 1) := by decide +kernel
theorem dL_onTime_0 : decode cL_onTime 0 = .ok (.aload_n 0, 1) := by decide +kernel
theorem dL_onTime_1 : decode cL_onTime 1 = .ok (.invokevirtual 83, 3) := by decide +kernel
theorem dL_onTime_4 : decode cL_onTime 4 = .ok (.freturn, 1) := by decide +kernel
theorem dL_onTime_5 : decode cL_onTime 5 = .ok (.astore_n 1, 1) := by decide +kernel
theorem dL_onTime_6 : decode cL_onTime 6 = .ok (.ldc 87, 2) := by decide +kernel
theorem dL_onTime_8 : decode cL_onTime 8 = .ok (.freturn, 1) := by decide +kernel
theorem dL_pass_0 : decode cL_pass 0 = .ok (.aload_n 0, 1) := by decide +kernel
theorem dL_pass_1 : decode cL_pass 1 = .ok (.iload_n 1, 1) := by decide +kernel
theorem dL_pass_2 : decode cL_pass 2 = .ok (.invokevirtual 88, 3) := by decide +kernel
theorem dL_pass_5 : decode cL_pass 5 = .ok (.ireturn, 1) := by decide +kernel
theorem dL_pass_6 : decode cL_pass 6 = .ok (.astore_n 2, 1) := by decide +kernel
theorem dL_pass_7 : decode cL_pass 7 = .ok (.bipush (-78), 2) := by decide +kernel
theorem dL_pass_9 : decode cL_pass 9 = .ok (.ireturn, 1) := by decide +kernel
theorem dL_state_0 : decode cL_state 0 = .ok (.aload_n 0, 1) := by decide +kernel
theorem dL_state_1 : decode cL_state 1 = .ok (.iload_n 1, 1) := by decide +kernel
theorem dL_state_2 : decode cL_state 2 = .ok (.invokevirtual 91, 3) := by decide +kernel
theorem dL_state_5 : decode cL_state 5 = .ok (.ireturn, 1) := by decide +kernel
theorem dL_state_6 : decode cL_state 6 = .ok (.astore_n 2, 1) := by decide +kernel
theorem dL_state_7 : decode cL_state 7 = .ok (.bipush (-77), 2) := by decide +kernel
theorem dL_state_9 : decode cL_state 9 = .ok (.ireturn, 1) := by decide +kernel
theorem dL_brewIn_0 : decode cL_brewIn 0 = .ok (.aload_n 0, 1) := by decide +kernel
theorem dL_brewIn_1 : decode cL_brewIn 1 = .ok (.iload_n 1, 1) := by decide +kernel
theorem dL_brewIn_2 : decode cL_brewIn 2 = .ok (.invokevirtual 94, 3) := by decide +kernel
theorem dL_brewIn_5 : decode cL_brewIn 5 = .ok (.ireturn, 1) := by decide +kernel
theorem dL_brewIn_6 : decode cL_brewIn 6 = .ok (.astore_n 2, 1) := by decide +kernel
theorem dL_brewIn_7 : decode cL_brewIn 7 = .ok (.bipush (-77), 2) := by decide +kernel
theorem dL_brewIn_9 : decode cL_brewIn 9 = .ok (.ireturn, 1) := by decide +kernel
theorem dL_brewIn_10 : decode cL_brewIn 10 = .ok (.astore_n 2, 1) := by decide +kernel
theorem dL_brewIn_11 : decode cL_brewIn 11 = .ok (.bipush (-75), 2) := by decide +kernel
theorem dL_brewIn_13 : decode cL_brewIn 13 = .ok (.ireturn, 1) := by decide +kernel
theorem dL_cleanDay_0 : decode cL_cleanDay 0 = .ok (.aload_n 0, 1) := by decide +kernel
theorem dL_cleanDay_1 : decode cL_cleanDay 1 = .ok (.iload_n 1, 1) := by decide +kernel
theorem dL_cleanDay_2 : decode cL_cleanDay 2 = .ok (.invokevirtual 97, 3) := by decide +kernel
theorem dL_cleanDay_5 : decode cL_cleanDay 5 = .ok (.ireturn, 1) := by decide +kernel
theorem dL_cleanDay_6 : decode cL_cleanDay 6 = .ok (.astore_n 2, 1) := by decide +kernel
theorem dL_cleanDay_7 : decode cL_cleanDay 7 = .ok (.bipush (-77), 2) := by decide +kernel
theorem dL_cleanDay_9 : decode cL_cleanDay 9 = .ok (.ireturn, 1) := by decide +kernel
theorem dL_cleanDay_10 : decode cL_cleanDay 10 = .ok (.astore_n 2, 1) := by decide +kernel
theorem dL_cleanDay_11 : decode cL_cleanDay 11 = .ok (.bipush (-75), 2) := by decide +kernel
theorem dL_cleanDay_13 : decode cL_cleanDay 13 = .ok (.ireturn, 1) := by decide +kernel
theorem dL_recipeOf_0 : decode cL_recipeOf 0 = .ok (.aload_n 0, 1) := by decide +kernel
theorem dL_recipeOf_1 : decode cL_recipeOf 1 = .ok (.iload_n 1, 1) := by decide +kernel
theorem dL_recipeOf_2 : decode cL_recipeOf 2 = .ok (.invokevirtual 100, 3) := by decide +kernel
theorem dL_recipeOf_5 : decode cL_recipeOf 5 = .ok (.ireturn, 1) := by decide +kernel
theorem dL_recipeOf_6 : decode cL_recipeOf 6 = .ok (.astore_n 2, 1) := by decide +kernel
theorem dL_recipeOf_7 : decode cL_recipeOf 7 = .ok (.bipush (-77), 2) := by decide +kernel
theorem dL_recipeOf_9 : decode cL_recipeOf 9 = .ok (.ireturn, 1) := by decide +kernel
theorem dL_generation_0 : decode cL_generation 0 = .ok (.aload_n 0, 1) := by decide +kernel
theorem dL_generation_1 : decode cL_generation 1 = .ok (.iload_n 1, 1) := by decide +kernel
theorem dL_generation_2 : decode cL_generation 2 = .ok (.invokevirtual 103, 3) := by decide +kernel
theorem dL_generation_5 : decode cL_generation 5 = .ok (.ireturn, 1) := by decide +kernel
theorem dL_generation_6 : decode cL_generation 6 = .ok (.astore_n 2, 1) := by decide +kernel
theorem dL_generation_7 : decode cL_generation 7 = .ok (.bipush (-77), 2) := by decide +kernel
theorem dL_generation_9 : decode cL_generation 9 = .ok (.ireturn, 1) := by decide +kernel
theorem dL_stage_0 : decode cL_stage 0 = .ok (.aload_n 0, 1) := by decide +kernel
theorem dL_stage_1 : decode cL_stage 1 = .ok (.iload_n 1, 1) := by decide +kernel
theorem dL_stage_2 : decode cL_stage 2 = .ok (.invokevirtual 106, 3) := by decide +kernel
theorem dL_stage_5 : decode cL_stage 5 = .ok (.ireturn, 1) := by decide +kernel
theorem dL_stage_6 : decode cL_stage 6 = .ok (.astore_n 2, 1) := by decide +kernel
theorem dL_stage_7 : decode cL_stage 7 = .ok (.bipush (-77), 2) := by decide +kernel
theorem dL_stage_9 : decode cL_stage 9 = .ok (.ireturn, 1) := by decide +kernel
theorem dL_vesselOf_0 : decode cL_vesselOf 0 = .ok (.aload_n 0, 1) := by decide +kernel
theorem dL_vesselOf_1 : decode cL_vesselOf 1 = .ok (.iload_n 1, 1) := by decide +kernel
theorem dL_vesselOf_2 : decode cL_vesselOf 2 = .ok (.invokevirtual 109, 3) := by decide +kernel
theorem dL_vesselOf_5 : decode cL_vesselOf 5 = .ok (.ireturn, 1) := by decide +kernel
theorem dL_vesselOf_6 : decode cL_vesselOf 6 = .ok (.astore_n 2, 1) := by decide +kernel
theorem dL_vesselOf_7 : decode cL_vesselOf 7 = .ok (.bipush (-77), 2) := by decide +kernel
theorem dL_vesselOf_9 : decode cL_vesselOf 9 = .ok (.ireturn, 1) := by decide +kernel
theorem dL_vesselOf_10 : decode cL_vesselOf 10 = .ok (.astore_n 2, 1) := by decide +kernel
theorem dL_vesselOf_11 : decode cL_vesselOf 11 = .ok (.bipush (-75), 2) := by decide +kernel
theorem dL_vesselOf_13 : decode cL_vesselOf 13 = .ok (.ireturn, 1) := by decide +kernel
theorem dL_daysToGo_0 : decode cL_daysToGo 0 = .ok (.aload_n 0, 1) := by decide +kernel
theorem dL_daysToGo_1 : decode cL_daysToGo 1 = .ok (.iload_n 1, 1) := by decide +kernel
theorem dL_daysToGo_2 : decode cL_daysToGo 2 = .ok (.invokevirtual 112, 3) := by decide +kernel
theorem dL_daysToGo_5 : decode cL_daysToGo 5 = .ok (.ireturn, 1) := by decide +kernel
theorem dL_daysToGo_6 : decode cL_daysToGo 6 = .ok (.astore_n 2, 1) := by decide +kernel
theorem dL_daysToGo_7 : decode cL_daysToGo 7 = .ok (.bipush (-77), 2) := by decide +kernel
theorem dL_daysToGo_9 : decode cL_daysToGo 9 = .ok (.ireturn, 1) := by decide +kernel
theorem dL_daysToGo_10 : decode cL_daysToGo 10 = .ok (.astore_n 2, 1) := by decide +kernel
theorem dL_daysToGo_11 : decode cL_daysToGo 11 = .ok (.bipush (-75), 2) := by decide +kernel
theorem dL_daysToGo_13 : decode cL_daysToGo 13 = .ok (.ireturn, 1) := by decide +kernel
theorem dL_stock_0 : decode cL_stock 0 = .ok (.aload_n 0, 1) := by decide +kernel
theorem dL_stock_1 : decode cL_stock 1 = .ok (.iload_n 1, 1) := by decide +kernel
theorem dL_stock_2 : decode cL_stock 2 = .ok (.invokevirtual 115, 3) := by decide +kernel
theorem dL_stock_5 : decode cL_stock 5 = .ok (.ireturn, 1) := by decide +kernel
theorem dL_stock_6 : decode cL_stock 6 = .ok (.astore_n 2, 1) := by decide +kernel
theorem dL_stock_7 : decode cL_stock 7 = .ok (.bipush (-77), 2) := by decide +kernel
theorem dL_stock_9 : decode cL_stock 9 = .ok (.ireturn, 1) := by decide +kernel
theorem dL_stockByDeliveries_0 : decode cL_stockByDeliveries 0 = .ok (.aload_n 0, 1) := by decide +kernel
theorem dL_stockByDeliveries_1 : decode cL_stockByDeliveries 1 = .ok (.iload_n 1, 1) := by decide +kernel
theorem dL_stockByDeliveries_2 : decode cL_stockByDeliveries 2 = .ok (.invokevirtual 118, 3) := by decide +kernel
theorem dL_stockByDeliveries_5 : decode cL_stockByDeliveries 5 = .ok (.ireturn, 1) := by decide +kernel
theorem dL_stockByDeliveries_6 : decode cL_stockByDeliveries 6 = .ok (.astore_n 2, 1) := by decide +kernel
theorem dL_stockByDeliveries_7 : decode cL_stockByDeliveries 7 = .ok (.bipush (-77), 2) := by decide +kernel
theorem dL_stockByDeliveries_9 : decode cL_stockByDeliveries 9 = .ok (.ireturn, 1) := by decide +kernel
theorem dL_deliveredBrew_0 : decode cL_deliveredBrew 0 = .ok (.aload_n 0, 1) := by decide +kernel
theorem dL_deliveredBrew_1 : decode cL_deliveredBrew 1 = .ok (.iload_n 1, 1) := by decide +kernel
theorem dL_deliveredBrew_2 : decode cL_deliveredBrew 2 = .ok (.invokevirtual 121, 3) := by decide +kernel
theorem dL_deliveredBrew_5 : decode cL_deliveredBrew 5 = .ok (.ireturn, 1) := by decide +kernel
theorem dL_deliveredBrew_6 : decode cL_deliveredBrew 6 = .ok (.astore_n 2, 1) := by decide +kernel
theorem dL_deliveredBrew_7 : decode cL_deliveredBrew 7 = .ok (.bipush (-77), 2) := by decide +kernel
theorem dL_deliveredBrew_9 : decode cL_deliveredBrew 9 = .ok (.ireturn, 1) := by decide +kernel
theorem dL_deliveredOrder_0 : decode cL_deliveredOrder 0 = .ok (.aload_n 0, 1) := by decide +kernel
theorem dL_deliveredOrder_1 : decode cL_deliveredOrder 1 = .ok (.iload_n 1, 1) := by decide +kernel
theorem dL_deliveredOrder_2 : decode cL_deliveredOrder 2 = .ok (.invokevirtual 124, 3) := by decide +kernel
theorem dL_deliveredOrder_5 : decode cL_deliveredOrder 5 = .ok (.ireturn, 1) := by decide +kernel
theorem dL_deliveredOrder_6 : decode cL_deliveredOrder 6 = .ok (.astore_n 2, 1) := by decide +kernel
theorem dL_deliveredOrder_7 : decode cL_deliveredOrder 7 = .ok (.bipush (-77), 2) := by decide +kernel
theorem dL_deliveredOrder_9 : decode cL_deliveredOrder 9 = .ok (.ireturn, 1) := by decide +kernel
theorem dL_deliveredUnits_0 : decode cL_deliveredUnits 0 = .ok (.aload_n 0, 1) := by decide +kernel
theorem dL_deliveredUnits_1 : decode cL_deliveredUnits 1 = .ok (.iload_n 1, 1) := by decide +kernel
theorem dL_deliveredUnits_2 : decode cL_deliveredUnits 2 = .ok (.invokevirtual 127, 3) := by decide +kernel
theorem dL_deliveredUnits_5 : decode cL_deliveredUnits 5 = .ok (.ireturn, 1) := by decide +kernel
theorem dL_deliveredUnits_6 : decode cL_deliveredUnits 6 = .ok (.astore_n 2, 1) := by decide +kernel
theorem dL_deliveredUnits_7 : decode cL_deliveredUnits 7 = .ok (.bipush (-77), 2) := by decide +kernel
theorem dL_deliveredUnits_9 : decode cL_deliveredUnits 9 = .ok (.ireturn, 1) := by decide +kernel
theorem dL_sum_0 : decode cL_sum 0 = .ok (.aload_n 0, 1) := by decide +kernel
theorem dL_sum_1 : decode cL_sum 1 = .ok (.invokevirtual 187, 3) := by decide +kernel
theorem dL_sum_4 : decode cL_sum 4 = .ok (.i2l, 1) := by decide +kernel
theorem dL_sum_5 : decode cL_sum 5 = .ok (.ldc2_w 219, 3) := by decide +kernel
theorem dL_sum_8 : decode cL_sum 8 = .ok (.aload_n 0, 1) := by decide +kernel
theorem dL_sum_9 : decode cL_sum 9 = .ok (.invokevirtual 156, 3) := by decide +kernel
theorem dL_sum_12 : decode cL_sum 12 = .ok (.i2l, 1) := by decide +kernel
theorem dL_sum_13 : decode cL_sum 13 = .ok (.lmul, 1) := by decide +kernel
theorem dL_sum_14 : decode cL_sum 14 = .ok (.ladd, 1) := by decide +kernel
theorem dL_sum_15 : decode cL_sum 15 = .ok (.ldc2_w 221, 3) := by decide +kernel
theorem dL_sum_18 : decode cL_sum 18 = .ok (.aload_n 0, 1) := by decide +kernel
theorem dL_sum_19 : decode cL_sum 19 = .ok (.invokevirtual 223, 3) := by decide +kernel
theorem dL_sum_22 : decode cL_sum 22 = .ok (.i2l, 1) := by decide +kernel
theorem dL_sum_23 : decode cL_sum 23 = .ok (.lmul, 1) := by decide +kernel
theorem dL_sum_24 : decode cL_sum 24 = .ok (.ladd, 1) := by decide +kernel
theorem dL_sum_25 : decode cL_sum 25 = .ok (.ldc2_w 226, 3) := by decide +kernel
theorem dL_sum_28 : decode cL_sum 28 = .ok (.aload_n 0, 1) := by decide +kernel
theorem dL_sum_29 : decode cL_sum 29 = .ok (.invokevirtual 171, 3) := by decide +kernel
theorem dL_sum_32 : decode cL_sum 32 = .ok (.i2l, 1) := by decide +kernel
theorem dL_sum_33 : decode cL_sum 33 = .ok (.lmul, 1) := by decide +kernel
theorem dL_sum_34 : decode cL_sum 34 = .ok (.ladd, 1) := by decide +kernel
theorem dL_sum_35 : decode cL_sum 35 = .ok (.lstore_n 2, 1) := by decide +kernel
theorem dL_sum_36 : decode cL_sum 36 = .ok (.iconst 0, 1) := by decide +kernel
theorem dL_sum_37 : decode cL_sum 37 = .ok (.istore 4, 2) := by decide +kernel
theorem dL_sum_39 : decode cL_sum 39 = .ok (.iload 4, 2) := by decide +kernel
theorem dL_sum_41 : decode cL_sum 41 = .ok (.iload_n 1, 1) := by decide +kernel
theorem dL_sum_42 : decode cL_sum 42 = .ok (.if_icmp .ge 23, 3) := by decide +kernel
theorem dL_sum_45 : decode cL_sum 45 = .ok (.ldc2_w 219, 3) := by decide +kernel
theorem dL_sum_48 : decode cL_sum 48 = .ok (.lload_n 2, 1) := by decide +kernel
theorem dL_sum_49 : decode cL_sum 49 = .ok (.lmul, 1) := by decide +kernel
theorem dL_sum_50 : decode cL_sum 50 = .ok (.aload_n 0, 1) := by decide +kernel
theorem dL_sum_51 : decode cL_sum 51 = .ok (.iload 4, 2) := by decide +kernel
theorem dL_sum_53 : decode cL_sum 53 = .ok (.invokestatic 228, 3) := by decide +kernel
theorem dL_sum_56 : decode cL_sum 56 = .ok (.i2l, 1) := by decide +kernel
theorem dL_sum_57 : decode cL_sum 57 = .ok (.ladd, 1) := by decide +kernel
theorem dL_sum_58 : decode cL_sum 58 = .ok (.lstore_n 2, 1) := by decide +kernel
theorem dL_sum_59 : decode cL_sum 59 = .ok (.iinc 4 1, 3) := by decide +kernel
theorem dL_sum_62 : decode cL_sum 62 = .ok (.goto (-23), 3) := by decide +kernel
theorem dL_sum_65 : decode cL_sum 65 = .ok (.iconst 0, 1) := by decide +kernel
theorem dL_sum_66 : decode cL_sum 66 = .ok (.istore 4, 2) := by decide +kernel
theorem dL_sum_68 : decode cL_sum 68 = .ok (.iload 4, 2) := by decide +kernel
theorem dL_sum_70 : decode cL_sum 70 = .ok (.aload_n 0, 1) := by decide +kernel
theorem dL_sum_71 : decode cL_sum 71 = .ok (.invokevirtual 171, 3) := by decide +kernel
theorem dL_sum_74 : decode cL_sum 74 = .ok (.if_icmp .ge 23, 3) := by decide +kernel
theorem dL_sum_77 : decode cL_sum 77 = .ok (.ldc2_w 219, 3) := by decide +kernel
theorem dL_sum_80 : decode cL_sum 80 = .ok (.lload_n 2, 1) := by decide +kernel
theorem dL_sum_81 : decode cL_sum 81 = .ok (.lmul, 1) := by decide +kernel
theorem dL_sum_82 : decode cL_sum 82 = .ok (.aload_n 0, 1) := by decide +kernel
theorem dL_sum_83 : decode cL_sum 83 = .ok (.iload 4, 2) := by decide +kernel
theorem dL_sum_85 : decode cL_sum 85 = .ok (.invokestatic 174, 3) := by decide +kernel
theorem dL_sum_88 : decode cL_sum 88 = .ok (.i2l, 1) := by decide +kernel
theorem dL_sum_89 : decode cL_sum 89 = .ok (.ladd, 1) := by decide +kernel
theorem dL_sum_90 : decode cL_sum 90 = .ok (.lstore_n 2, 1) := by decide +kernel
theorem dL_sum_91 : decode cL_sum 91 = .ok (.iinc 4 1, 3) := by decide +kernel
theorem dL_sum_94 : decode cL_sum 94 = .ok (.goto (-26), 3) := by decide +kernel
theorem dL_sum_97 : decode cL_sum 97 = .ok (.iconst 0, 1) := by decide +kernel
theorem dL_sum_98 : decode cL_sum 98 = .ok (.istore 4, 2) := by decide +kernel
theorem dL_sum_100 : decode cL_sum 100 = .ok (.iload 4, 2) := by decide +kernel
theorem dL_sum_102 : decode cL_sum 102 = .ok (.aload_n 0, 1) := by decide +kernel
theorem dL_sum_103 : decode cL_sum 103 = .ok (.invokevirtual 156, 3) := by decide +kernel
theorem dL_sum_106 : decode cL_sum 106 = .ok (.if_icmp .ge 35, 3) := by decide +kernel
theorem dL_sum_109 : decode cL_sum 109 = .ok (.ldc2_w 219, 3) := by decide +kernel
theorem dL_sum_112 : decode cL_sum 112 = .ok (.lload_n 2, 1) := by decide +kernel
theorem dL_sum_113 : decode cL_sum 113 = .ok (.lmul, 1) := by decide +kernel
theorem dL_sum_114 : decode cL_sum 114 = .ok (.aload_n 0, 1) := by decide +kernel
theorem dL_sum_115 : decode cL_sum 115 = .ok (.iload 4, 2) := by decide +kernel
theorem dL_sum_117 : decode cL_sum 117 = .ok (.invokestatic 161, 3) := by decide +kernel
theorem dL_sum_120 : decode cL_sum 120 = .ok (.i2l, 1) := by decide +kernel
theorem dL_sum_121 : decode cL_sum 121 = .ok (.ladd, 1) := by decide +kernel
theorem dL_sum_122 : decode cL_sum 122 = .ok (.ldc2_w 230, 3) := by decide +kernel
theorem dL_sum_125 : decode cL_sum 125 = .ok (.aload_n 0, 1) := by decide +kernel
theorem dL_sum_126 : decode cL_sum 126 = .ok (.iload 4, 2) := by decide +kernel
theorem dL_sum_128 : decode cL_sum 128 = .ok (.invokestatic 232, 3) := by decide +kernel
theorem dL_sum_131 : decode cL_sum 131 = .ok (.i2l, 1) := by decide +kernel
theorem dL_sum_132 : decode cL_sum 132 = .ok (.lmul, 1) := by decide +kernel
theorem dL_sum_133 : decode cL_sum 133 = .ok (.ladd, 1) := by decide +kernel
theorem dL_sum_134 : decode cL_sum 134 = .ok (.lstore_n 2, 1) := by decide +kernel
theorem dL_sum_135 : decode cL_sum 135 = .ok (.iinc 4 1, 3) := by decide +kernel
theorem dL_sum_138 : decode cL_sum 138 = .ok (.goto (-38), 3) := by decide +kernel
theorem dL_sum_141 : decode cL_sum 141 = .ok (.iconst 0, 1) := by decide +kernel
theorem dL_sum_142 : decode cL_sum 142 = .ok (.istore 4, 2) := by decide +kernel
theorem dL_sum_144 : decode cL_sum 144 = .ok (.iload 4, 2) := by decide +kernel
theorem dL_sum_146 : decode cL_sum 146 = .ok (.bipush 20, 2) := by decide +kernel
theorem dL_sum_148 : decode cL_sum 148 = .ok (.if_icmp .ge 23, 3) := by decide +kernel
theorem dL_sum_151 : decode cL_sum 151 = .ok (.ldc2_w 219, 3) := by decide +kernel
theorem dL_sum_154 : decode cL_sum 154 = .ok (.lload_n 2, 1) := by decide +kernel
theorem dL_sum_155 : decode cL_sum 155 = .ok (.lmul, 1) := by decide +kernel
theorem dL_sum_156 : decode cL_sum 156 = .ok (.aload_n 0, 1) := by decide +kernel
theorem dL_sum_157 : decode cL_sum 157 = .ok (.iload 4, 2) := by decide +kernel
theorem dL_sum_159 : decode cL_sum 159 = .ok (.invokestatic 196, 3) := by decide +kernel
theorem dL_sum_162 : decode cL_sum 162 = .ok (.i2l, 1) := by decide +kernel
theorem dL_sum_163 : decode cL_sum 163 = .ok (.ladd, 1) := by decide +kernel
theorem dL_sum_164 : decode cL_sum 164 = .ok (.lstore_n 2, 1) := by decide +kernel
theorem dL_sum_165 : decode cL_sum 165 = .ok (.iinc 4 1, 3) := by decide +kernel
theorem dL_sum_168 : decode cL_sum 168 = .ok (.goto (-24), 3) := by decide +kernel
theorem dL_sum_171 : decode cL_sum 171 = .ok (.lload_n 2, 1) := by decide +kernel
theorem dL_sum_172 : decode cL_sum 172 = .ok (.lreturn, 1) := by decide +kernel
theorem dL_filled_0 : decode cL_filled 0 = .ok (.iconst 0, 1) := by decide +kernel
theorem dL_filled_1 : decode cL_filled 1 = .ok (.istore_n 1, 1) := by decide +kernel
theorem dL_filled_2 : decode cL_filled 2 = .ok (.iconst 0, 1) := by decide +kernel
theorem dL_filled_3 : decode cL_filled 3 = .ok (.istore_n 2, 1) := by decide +kernel
theorem dL_filled_4 : decode cL_filled 4 = .ok (.iload_n 2, 1) := by decide +kernel
theorem dL_filled_5 : decode cL_filled 5 = .ok (.bipush 20, 2) := by decide +kernel
theorem dL_filled_7 : decode cL_filled 7 = .ok (.if_icmp .ge 27, 3) := by decide +kernel
theorem dL_filled_10 : decode cL_filled 10 = .ok (.iload_n 1, 1) := by decide +kernel
theorem dL_filled_11 : decode cL_filled 11 = .ok (.aload_n 0, 1) := by decide +kernel
theorem dL_filled_12 : decode cL_filled 12 = .ok (.iload_n 2, 1) := by decide +kernel
theorem dL_filled_13 : decode cL_filled 13 = .ok (.invokestatic 196, 3) := by decide +kernel
theorem dL_filled_16 : decode cL_filled 16 = .ok (.bipush 102, 2) := by decide +kernel
theorem dL_filled_18 : decode cL_filled 18 = .ok (.if_icmp .ne 7, 3) := by decide +kernel
theorem dL_filled_21 : decode cL_filled 21 = .ok (.iconst 1, 1) := by decide +kernel
theorem dL_filled_22 : decode cL_filled 22 = .ok (.goto 4, 3) := by decide +kernel
theorem dL_filled_25 : decode cL_filled 25 = .ok (.iconst 0, 1) := by decide +kernel
theorem dL_filled_26 : decode cL_filled 26 = .ok (.iadd, 1) := by decide +kernel
theorem dL_filled_27 : decode cL_filled 27 = .ok (.istore_n 1, 1) := by decide +kernel
theorem dL_filled_28 : decode cL_filled 28 = .ok (.iinc 2 1, 3) := by decide +kernel
theorem dL_filled_31 : decode cL_filled 31 = .ok (.goto (-27), 3) := by decide +kernel
theorem dL_filled_34 : decode cL_filled 34 = .ok (.iload_n 1, 1) := by decide +kernel
theorem dL_filled_35 : decode cL_filled 35 = .ok (.ireturn, 1) := by decide +kernel
theorem dL_areVessels_0 : decode cL_areVessels 0 = .ok (.iconst 0, 1) := by decide +kernel
theorem dL_areVessels_1 : decode cL_areVessels 1 = .ok (.istore 4, 2) := by decide +kernel
theorem dL_areVessels_3 : decode cL_areVessels 3 = .ok (.iconst 1, 1) := by decide +kernel
theorem dL_areVessels_4 : decode cL_areVessels 4 = .ok (.istore 5, 2) := by decide +kernel
theorem dL_areVessels_6 : decode cL_areVessels 6 = .ok (.iconst 0, 1) := by decide +kernel
theorem dL_areVessels_7 : decode cL_areVessels 7 = .ok (.istore 6, 2) := by decide +kernel
theorem dL_areVessels_9 : decode cL_areVessels 9 = .ok (.iload 6, 2) := by decide +kernel
theorem dL_areVessels_11 : decode cL_areVessels 11 = .ok (.iload_n 1, 1) := by decide +kernel
theorem dL_areVessels_12 : decode cL_areVessels 12 = .ok (.if_icmp .ge 161, 3) := by decide +kernel
theorem dL_areVessels_15 : decode cL_areVessels 15 = .ok (.aload_n 0, 1) := by decide +kernel
theorem dL_areVessels_16 : decode cL_areVessels 16 = .ok (.iload 6, 2) := by decide +kernel
theorem dL_areVessels_18 : decode cL_areVessels 18 = .ok (.invokestatic 228, 3) := by decide +kernel
theorem dL_areVessels_21 : decode cL_areVessels 21 = .ok (.istore 7, 2) := by decide +kernel
theorem dL_areVessels_23 : decode cL_areVessels 23 = .ok (.aload_n 0, 1) := by decide +kernel
theorem dL_areVessels_24 : decode cL_areVessels 24 = .ok (.iload 6, 2) := by decide +kernel
theorem dL_areVessels_26 : decode cL_areVessels 26 = .ok (.invokestatic 165, 3) := by decide +kernel
theorem dL_areVessels_29 : decode cL_areVessels 29 = .ok (.istore 8, 2) := by decide +kernel
theorem dL_areVessels_31 : decode cL_areVessels 31 = .ok (.aload_n 0, 1) := by decide +kernel
theorem dL_areVessels_32 : decode cL_areVessels 32 = .ok (.iload 6, 2) := by decide +kernel
theorem dL_areVessels_34 : decode cL_areVessels 34 = .ok (.invokestatic 234, 3) := by decide +kernel
theorem dL_areVessels_37 : decode cL_areVessels 37 = .ok (.istore 9, 2) := by decide +kernel
theorem dL_areVessels_39 : decode cL_areVessels 39 = .ok (.iload 4, 2) := by decide +kernel
theorem dL_areVessels_41 : decode cL_areVessels 41 = .ok (.iload 7, 2) := by decide +kernel
theorem dL_areVessels_43 : decode cL_areVessels 43 = .ok (.bipush 103, 2) := by decide +kernel
theorem dL_areVessels_45 : decode cL_areVessels 45 = .ok (.if_icmp .ne 7, 3) := by decide +kernel
theorem dL_areVessels_48 : decode cL_areVessels 48 = .ok (.iconst 1, 1) := by decide +kernel
theorem dL_areVessels_49 : decode cL_areVessels 49 = .ok (.goto 4, 3) := by decide +kernel
theorem dL_areVessels_52 : decode cL_areVessels 52 = .ok (.iconst 0, 1) := by decide +kernel
theorem dL_areVessels_53 : decode cL_areVessels 53 = .ok (.iadd, 1) := by decide +kernel
theorem dL_areVessels_54 : decode cL_areVessels 54 = .ok (.istore 4, 2) := by decide +kernel
theorem dL_areVessels_56 : decode cL_areVessels 56 = .ok (.iload 5, 2) := by decide +kernel
theorem dL_areVessels_58 : decode cL_areVessels 58 = .ok (.iload 7, 2) := by decide +kernel
theorem dL_areVessels_60 : decode cL_areVessels 60 = .ok (.bipush 117, 2) := by decide +kernel
theorem dL_areVessels_62 : decode cL_areVessels 62 = .ok (.if_icmp .ne 27, 3) := by decide +kernel
theorem dL_areVessels_65 : decode cL_areVessels 65 = .ok (.iload 8, 2) := by decide +kernel
theorem dL_areVessels_67 : decode cL_areVessels 67 = .ok (.ifCond .lt 18, 3) := by decide +kernel
theorem dL_areVessels_70 : decode cL_areVessels 70 = .ok (.aload_n 0, 1) := by decide +kernel
theorem dL_areVessels_71 : decode cL_areVessels 71 = .ok (.iload 8, 2) := by decide +kernel
theorem dL_areVessels_73 : decode cL_areVessels 73 = .ok (.invokestatic 163, 3) := by decide +kernel
theorem dL_areVessels_76 : decode cL_areVessels 76 = .ok (.iload 6, 2) := by decide +kernel
theorem dL_areVessels_78 : decode cL_areVessels 78 = .ok (.if_icmp .ne 7, 3) := by decide +kernel
theorem dL_areVessels_81 : decode cL_areVessels 81 = .ok (.iconst 1, 1) := by decide +kernel
theorem dL_areVessels_82 : decode cL_areVessels 82 = .ok (.goto 19, 3) := by decide +kernel
theorem dL_areVessels_85 : decode cL_areVessels 85 = .ok (.iconst 0, 1) := by decide +kernel
theorem dL_areVessels_86 : decode cL_areVessels 86 = .ok (.goto 15, 3) := by decide +kernel
theorem dL_areVessels_89 : decode cL_areVessels 89 = .ok (.iload 8, 2) := by decide +kernel
theorem dL_areVessels_91 : decode cL_areVessels 91 = .ok (.bipush (-75), 2) := by decide +kernel
theorem dL_areVessels_93 : decode cL_areVessels 93 = .ok (.if_icmp .ne 7, 3) := by decide +kernel
theorem dL_areVessels_96 : decode cL_areVessels 96 = .ok (.iconst 1, 1) := by decide +kernel
theorem dL_areVessels_97 : decode cL_areVessels 97 = .ok (.goto 4, 3) := by decide +kernel
theorem dL_areVessels_100 : decode cL_areVessels 100 = .ok (.iconst 0, 1) := by decide +kernel
theorem dL_areVessels_101 : decode cL_areVessels 101 = .ok (.iand, 1) := by decide +kernel
theorem dL_areVessels_102 : decode cL_areVessels 102 = .ok (.istore 5, 2) := by decide +kernel
theorem dL_areVessels_104 : decode cL_areVessels 104 = .ok (.iload 5, 2) := by decide +kernel
theorem dL_areVessels_106 : decode cL_areVessels 106 = .ok (.iload 7, 2) := by decide +kernel
theorem dL_areVessels_108 : decode cL_areVessels 108 = .ok (.bipush 103, 2) := by decide +kernel
theorem dL_areVessels_110 : decode cL_areVessels 110 = .ok (.if_icmp .ne 42, 3) := by decide +kernel
theorem dL_areVessels_113 : decode cL_areVessels 113 = .ok (.iload 9, 2) := by decide +kernel
theorem dL_areVessels_115 : decode cL_areVessels 115 = .ok (.aload_n 0, 1) := by decide +kernel
theorem dL_areVessels_116 : decode cL_areVessels 116 = .ok (.invokevirtual 187, 3) := by decide +kernel
theorem dL_areVessels_119 : decode cL_areVessels 119 = .ok (.if_icmp .le 29, 3) := by decide +kernel
theorem dL_areVessels_122 : decode cL_areVessels 122 = .ok (.iload 9, 2) := by decide +kernel
theorem dL_areVessels_124 : decode cL_areVessels 124 = .ok (.aload_n 0, 1) := by decide +kernel
theorem dL_areVessels_125 : decode cL_areVessels 125 = .ok (.invokevirtual 187, 3) := by decide +kernel
theorem dL_areVessels_128 : decode cL_areVessels 128 = .ok (.aload_n 2, 1) := by decide +kernel
theorem dL_areVessels_129 : decode cL_areVessels 129 = .ok (.iload 6, 2) := by decide +kernel
theorem dL_areVessels_131 : decode cL_areVessels 131 = .ok (.baload, 1) := by decide +kernel
theorem dL_areVessels_132 : decode cL_areVessels 132 = .ok (.ifCond .eq 7, 3) := by decide +kernel
theorem dL_areVessels_135 : decode cL_areVessels 135 = .ok (.iconst 1, 1) := by decide +kernel
theorem dL_areVessels_136 : decode cL_areVessels 136 = .ok (.goto 4, 3) := by decide +kernel
theorem dL_areVessels_139 : decode cL_areVessels 139 = .ok (.iconst 2, 1) := by decide +kernel
theorem dL_areVessels_140 : decode cL_areVessels 140 = .ok (.iadd, 1) := by decide +kernel
theorem dL_areVessels_141 : decode cL_areVessels 141 = .ok (.if_icmp .gt 7, 3) := by decide +kernel
theorem dL_areVessels_144 : decode cL_areVessels 144 = .ok (.iconst 1, 1) := by decide +kernel
theorem dL_areVessels_145 : decode cL_areVessels 145 = .ok (.goto 19, 3) := by decide +kernel
theorem dL_areVessels_148 : decode cL_areVessels 148 = .ok (.iconst 0, 1) := by decide +kernel
theorem dL_areVessels_149 : decode cL_areVessels 149 = .ok (.goto 15, 3) := by decide +kernel
theorem dL_areVessels_152 : decode cL_areVessels 152 = .ok (.iload 9, 2) := by decide +kernel
theorem dL_areVessels_154 : decode cL_areVessels 154 = .ok (.bipush (-75), 2) := by decide +kernel
theorem dL_areVessels_156 : decode cL_areVessels 156 = .ok (.if_icmp .ne 7, 3) := by decide +kernel
theorem dL_areVessels_159 : decode cL_areVessels 159 = .ok (.iconst 1, 1) := by decide +kernel
theorem dL_areVessels_160 : decode cL_areVessels 160 = .ok (.goto 4, 3) := by decide +kernel
theorem dL_areVessels_163 : decode cL_areVessels 163 = .ok (.iconst 0, 1) := by decide +kernel
theorem dL_areVessels_164 : decode cL_areVessels 164 = .ok (.iand, 1) := by decide +kernel
theorem dL_areVessels_165 : decode cL_areVessels 165 = .ok (.istore 5, 2) := by decide +kernel
theorem dL_areVessels_167 : decode cL_areVessels 167 = .ok (.iinc 6 1, 3) := by decide +kernel
theorem dL_areVessels_170 : decode cL_areVessels 170 = .ok (.goto (-161), 3) := by decide +kernel
theorem dL_areVessels_173 : decode cL_areVessels 173 = .ok (.iload 5, 2) := by decide +kernel
theorem dL_areVessels_175 : decode cL_areVessels 175 = .ok (.ifCond .eq 13, 3) := by decide +kernel
theorem dL_areVessels_178 : decode cL_areVessels 178 = .ok (.iload 4, 2) := by decide +kernel
theorem dL_areVessels_180 : decode cL_areVessels 180 = .ok (.iload_n 3, 1) := by decide +kernel
theorem dL_areVessels_181 : decode cL_areVessels 181 = .ok (.if_icmp .gt 7, 3) := by decide +kernel
theorem dL_areVessels_184 : decode cL_areVessels 184 = .ok (.iconst 1, 1) := by decide +kernel
theorem dL_areVessels_185 : decode cL_areVessels 185 = .ok (.goto 4, 3) := by decide +kernel
theorem dL_areVessels_188 : decode cL_areVessels 188 = .ok (.iconst 0, 1) := by decide +kernel
theorem dL_areVessels_189 : decode cL_areVessels 189 = .ok (.ireturn, 1) := by decide +kernel
theorem dL_areBrews_0 : decode cL_areBrews 0 = .ok (.aload_n 0, 1) := by decide +kernel
theorem dL_areBrews_1 : decode cL_areBrews 1 = .ok (.invokevirtual 156, 3) := by decide +kernel
theorem dL_areBrews_4 : decode cL_areBrews 4 = .ok (.aload_n 0, 1) := by decide +kernel
theorem dL_areBrews_5 : decode cL_areBrews 5 = .ok (.invokevirtual 171, 3) := by decide +kernel
theorem dL_areBrews_8 : decode cL_areBrews 8 = .ok (.iadd, 1) := by decide +kernel
theorem dL_areBrews_9 : decode cL_areBrews 9 = .ok (.bipush 30, 2) := by decide +kernel
theorem dL_areBrews_11 : decode cL_areBrews 11 = .ok (.if_icmp .gt 7, 3) := by decide +kernel
theorem dL_areBrews_14 : decode cL_areBrews 14 = .ok (.iconst 1, 1) := by decide +kernel
theorem dL_areBrews_15 : decode cL_areBrews 15 = .ok (.goto 4, 3) := by decide +kernel
theorem dL_areBrews_18 : decode cL_areBrews 18 = .ok (.iconst 0, 1) := by decide +kernel
theorem dL_areBrews_19 : decode cL_areBrews 19 = .ok (.istore_n 2, 1) := by decide +kernel
theorem dL_areBrews_20 : decode cL_areBrews 20 = .ok (.iconst 0, 1) := by decide +kernel
theorem dL_areBrews_21 : decode cL_areBrews 21 = .ok (.istore_n 3, 1) := by decide +kernel
theorem dL_areBrews_22 : decode cL_areBrews 22 = .ok (.iload_n 3, 1) := by decide +kernel
theorem dL_areBrews_23 : decode cL_areBrews 23 = .ok (.aload_n 0, 1) := by decide +kernel
theorem dL_areBrews_24 : decode cL_areBrews 24 = .ok (.invokevirtual 156, 3) := by decide +kernel
theorem dL_areBrews_27 : decode cL_areBrews 27 = .ok (.if_icmp .ge 150, 3) := by decide +kernel
theorem dL_areBrews_30 : decode cL_areBrews 30 = .ok (.aload_n 0, 1) := by decide +kernel
theorem dL_areBrews_31 : decode cL_areBrews 31 = .ok (.iload_n 3, 1) := by decide +kernel
theorem dL_areBrews_32 : decode cL_areBrews 32 = .ok (.invokestatic 161, 3) := by decide +kernel
theorem dL_areBrews_35 : decode cL_areBrews 35 = .ok (.istore 4, 2) := by decide +kernel
theorem dL_areBrews_37 : decode cL_areBrews 37 = .ok (.aload_n 0, 1) := by decide +kernel
theorem dL_areBrews_38 : decode cL_areBrews 38 = .ok (.iload_n 3, 1) := by decide +kernel
theorem dL_areBrews_39 : decode cL_areBrews 39 = .ok (.invokestatic 163, 3) := by decide +kernel
theorem dL_areBrews_42 : decode cL_areBrews 42 = .ok (.istore 5, 2) := by decide +kernel
theorem dL_areBrews_44 : decode cL_areBrews 44 = .ok (.aload_n 0, 1) := by decide +kernel
theorem dL_areBrews_45 : decode cL_areBrews 45 = .ok (.iload_n 3, 1) := by decide +kernel
theorem dL_areBrews_46 : decode cL_areBrews 46 = .ok (.invokestatic 232, 3) := by decide +kernel
theorem dL_areBrews_49 : decode cL_areBrews 49 = .ok (.istore 6, 2) := by decide +kernel
theorem dL_areBrews_51 : decode cL_areBrews 51 = .ok (.iload_n 2, 1) := by decide +kernel
theorem dL_areBrews_52 : decode cL_areBrews 52 = .ok (.iload 4, 2) := by decide +kernel
theorem dL_areBrews_54 : decode cL_areBrews 54 = .ok (.bipush 120, 2) := by decide +kernel
theorem dL_areBrews_56 : decode cL_areBrews 56 = .ok (.if_icmp .ne 18, 3) := by decide +kernel
theorem dL_areBrews_59 : decode cL_areBrews 59 = .ok (.iload 5, 2) := by decide +kernel
theorem dL_areBrews_61 : decode cL_areBrews 61 = .ok (.bipush (-75), 2) := by decide +kernel
theorem dL_areBrews_63 : decode cL_areBrews 63 = .ok (.if_icmp .ne 7, 3) := by decide +kernel
theorem dL_areBrews_66 : decode cL_areBrews 66 = .ok (.iconst 1, 1) := by decide +kernel
theorem dL_areBrews_67 : decode cL_areBrews 67 = .ok (.goto 48, 3) := by decide +kernel
theorem dL_areBrews_70 : decode cL_areBrews 70 = .ok (.iconst 0, 1) := by decide +kernel
theorem dL_areBrews_71 : decode cL_areBrews 71 = .ok (.goto 44, 3) := by decide +kernel
theorem dL_areBrews_74 : decode cL_areBrews 74 = .ok (.aload_n 0, 1) := by decide +kernel
theorem dL_areBrews_75 : decode cL_areBrews 75 = .ok (.iload 5, 2) := by decide +kernel
theorem dL_areBrews_77 : decode cL_areBrews 77 = .ok (.invokestatic 165, 3) := by decide +kernel
theorem dL_areBrews_80 : decode cL_areBrews 80 = .ok (.iload_n 3, 1) := by decide +kernel
theorem dL_areBrews_81 : decode cL_areBrews 81 = .ok (.if_icmp .ne 33, 3) := by decide +kernel
theorem dL_areBrews_84 : decode cL_areBrews 84 = .ok (.aload_n 1, 1) := by decide +kernel
theorem dL_areBrews_85 : decode cL_areBrews 85 = .ok (.iload 5, 2) := by decide +kernel
theorem dL_areBrews_87 : decode cL_areBrews 87 = .ok (.baload, 1) := by decide +kernel
theorem dL_areBrews_88 : decode cL_areBrews 88 = .ok (.iload 4, 2) := by decide +kernel
theorem dL_areBrews_90 : decode cL_areBrews 90 = .ok (.bipush 109, 2) := by decide +kernel
theorem dL_areBrews_92 : decode cL_areBrews 92 = .ok (.if_icmp .eq 10, 3) := by decide +kernel
theorem dL_areBrews_95 : decode cL_areBrews 95 = .ok (.iload 4, 2) := by decide +kernel
theorem dL_areBrews_97 : decode cL_areBrews 97 = .ok (.bipush 114, 2) := by decide +kernel
theorem dL_areBrews_99 : decode cL_areBrews 99 = .ok (.if_icmp .ne 7, 3) := by decide +kernel
theorem dL_areBrews_102 : decode cL_areBrews 102 = .ok (.iconst 1, 1) := by decide +kernel
theorem dL_areBrews_103 : decode cL_areBrews 103 = .ok (.goto 4, 3) := by decide +kernel
theorem dL_areBrews_106 : decode cL_areBrews 106 = .ok (.iconst 0, 1) := by decide +kernel
theorem dL_areBrews_107 : decode cL_areBrews 107 = .ok (.if_icmp .ne 7, 3) := by decide +kernel
theorem dL_areBrews_110 : decode cL_areBrews 110 = .ok (.iconst 1, 1) := by decide +kernel
theorem dL_areBrews_111 : decode cL_areBrews 111 = .ok (.goto 4, 3) := by decide +kernel
theorem dL_areBrews_114 : decode cL_areBrews 114 = .ok (.iconst 0, 1) := by decide +kernel
theorem dL_areBrews_115 : decode cL_areBrews 115 = .ok (.iand, 1) := by decide +kernel
theorem dL_areBrews_116 : decode cL_areBrews 116 = .ok (.istore_n 2, 1) := by decide +kernel
theorem dL_areBrews_117 : decode cL_areBrews 117 = .ok (.iload_n 2, 1) := by decide +kernel
theorem dL_areBrews_118 : decode cL_areBrews 118 = .ok (.aload_n 0, 1) := by decide +kernel
theorem dL_areBrews_119 : decode cL_areBrews 119 = .ok (.iload_n 3, 1) := by decide +kernel
theorem dL_areBrews_120 : decode cL_areBrews 120 = .ok (.invokestatic 236, 3) := by decide +kernel
theorem dL_areBrews_123 : decode cL_areBrews 123 = .ok (.ifCond .lt 45, 3) := by decide +kernel
theorem dL_areBrews_126 : decode cL_areBrews 126 = .ok (.aload_n 0, 1) := by decide +kernel
theorem dL_areBrews_127 : decode cL_areBrews 127 = .ok (.iload_n 3, 1) := by decide +kernel
theorem dL_areBrews_128 : decode cL_areBrews 128 = .ok (.invokestatic 236, 3) := by decide +kernel
theorem dL_areBrews_131 : decode cL_areBrews 131 = .ok (.iconst 4, 1) := by decide +kernel
theorem dL_areBrews_132 : decode cL_areBrews 132 = .ok (.if_icmp .gt 36, 3) := by decide +kernel
theorem dL_areBrews_135 : decode cL_areBrews 135 = .ok (.iload 4, 2) := by decide +kernel
theorem dL_areBrews_137 : decode cL_areBrews 137 = .ok (.bipush 102, 2) := by decide +kernel
theorem dL_areBrews_139 : decode cL_areBrews 139 = .ok (.if_icmp .eq 10, 3) := by decide +kernel
theorem dL_areBrews_142 : decode cL_areBrews 142 = .ok (.iload 4, 2) := by decide +kernel
theorem dL_areBrews_144 : decode cL_areBrews 144 = .ok (.bipush 109, 2) := by decide +kernel
theorem dL_areBrews_146 : decode cL_areBrews 146 = .ok (.if_icmp .ne 11, 3) := by decide +kernel
theorem dL_areBrews_149 : decode cL_areBrews 149 = .ok (.iload 6, 2) := by decide +kernel
theorem dL_areBrews_151 : decode cL_areBrews 151 = .ok (.ifCond .le 17, 3) := by decide +kernel
theorem dL_areBrews_154 : decode cL_areBrews 154 = .ok (.goto 10, 3) := by decide +kernel
theorem dL_areBrews_157 : decode cL_areBrews 157 = .ok (.iload 6, 2) := by decide +kernel
theorem dL_areBrews_159 : decode cL_areBrews 159 = .ok (.bipush (-75), 2) := by decide +kernel
theorem dL_areBrews_161 : decode cL_areBrews 161 = .ok (.if_icmp .ne 7, 3) := by decide +kernel
theorem dL_areBrews_164 : decode cL_areBrews 164 = .ok (.iconst 1, 1) := by decide +kernel
theorem dL_areBrews_165 : decode cL_areBrews 165 = .ok (.goto 4, 3) := by decide +kernel
theorem dL_areBrews_168 : decode cL_areBrews 168 = .ok (.iconst 0, 1) := by decide +kernel
theorem dL_areBrews_169 : decode cL_areBrews 169 = .ok (.iand, 1) := by decide +kernel
theorem dL_areBrews_170 : decode cL_areBrews 170 = .ok (.istore_n 2, 1) := by decide +kernel
theorem dL_areBrews_171 : decode cL_areBrews 171 = .ok (.iinc 3 1, 3) := by decide +kernel
theorem dL_areBrews_174 : decode cL_areBrews 174 = .ok (.goto (-152), 3) := by decide +kernel
theorem dL_areBrews_177 : decode cL_areBrews 177 = .ok (.iload_n 2, 1) := by decide +kernel
theorem dL_areBrews_178 : decode cL_areBrews 178 = .ok (.ireturn, 1) := by decide +kernel
theorem dL_areStocks_0 : decode cL_areStocks 0 = .ok (.iconst 1, 1) := by decide +kernel
theorem dL_areStocks_1 : decode cL_areStocks 1 = .ok (.istore_n 2, 1) := by decide +kernel
theorem dL_areStocks_2 : decode cL_areStocks 2 = .ok (.iconst 0, 1) := by decide +kernel
theorem dL_areStocks_3 : decode cL_areStocks 3 = .ok (.istore_n 3, 1) := by decide +kernel
theorem dL_areStocks_4 : decode cL_areStocks 4 = .ok (.iload_n 3, 1) := by decide +kernel
theorem dL_areStocks_5 : decode cL_areStocks 5 = .ok (.iload_n 1, 1) := by decide +kernel
theorem dL_areStocks_6 : decode cL_areStocks 6 = .ok (.if_icmp .ge 148, 3) := by decide +kernel
theorem dL_areStocks_9 : decode cL_areStocks 9 = .ok (.iconst 0, 1) := by decide +kernel
theorem dL_areStocks_10 : decode cL_areStocks 10 = .ok (.istore 4, 2) := by decide +kernel
theorem dL_areStocks_12 : decode cL_areStocks 12 = .ok (.iconst 0, 1) := by decide +kernel
theorem dL_areStocks_13 : decode cL_areStocks 13 = .ok (.istore 5, 2) := by decide +kernel
theorem dL_areStocks_15 : decode cL_areStocks 15 = .ok (.iload 5, 2) := by decide +kernel
theorem dL_areStocks_17 : decode cL_areStocks 17 = .ok (.aload_n 0, 1) := by decide +kernel
theorem dL_areStocks_18 : decode cL_areStocks 18 = .ok (.invokevirtual 156, 3) := by decide +kernel
theorem dL_areStocks_21 : decode cL_areStocks 21 = .ok (.if_icmp .ge 52, 3) := by decide +kernel
theorem dL_areStocks_24 : decode cL_areStocks 24 = .ok (.iload 4, 2) := by decide +kernel
theorem dL_areStocks_26 : decode cL_areStocks 26 = .ok (.aload_n 0, 1) := by decide +kernel
theorem dL_areStocks_27 : decode cL_areStocks 27 = .ok (.iload 5, 2) := by decide +kernel
theorem dL_areStocks_29 : decode cL_areStocks 29 = .ok (.invokestatic 167, 3) := by decide +kernel
theorem dL_areStocks_32 : decode cL_areStocks 32 = .ok (.iload_n 3, 1) := by decide +kernel
theorem dL_areStocks_33 : decode cL_areStocks 33 = .ok (.if_icmp .ne 30, 3) := by decide +kernel
theorem dL_areStocks_36 : decode cL_areStocks 36 = .ok (.aload_n 0, 1) := by decide +kernel
theorem dL_areStocks_37 : decode cL_areStocks 37 = .ok (.iload 5, 2) := by decide +kernel
theorem dL_areStocks_39 : decode cL_areStocks 39 = .ok (.invokestatic 161, 3) := by decide +kernel
theorem dL_areStocks_42 : decode cL_areStocks 42 = .ok (.bipush 114, 2) := by decide +kernel
theorem dL_areStocks_44 : decode cL_areStocks 44 = .ok (.if_icmp .eq 14, 3) := by decide +kernel
theorem dL_areStocks_47 : decode cL_areStocks 47 = .ok (.aload_n 0, 1) := by decide +kernel
theorem dL_areStocks_48 : decode cL_areStocks 48 = .ok (.iload 5, 2) := by decide +kernel
theorem dL_areStocks_50 : decode cL_areStocks 50 = .ok (.invokestatic 161, 3) := by decide +kernel
theorem dL_areStocks_53 : decode cL_areStocks 53 = .ok (.bipush 120, 2) := by decide +kernel
theorem dL_areStocks_55 : decode cL_areStocks 55 = .ok (.if_icmp .ne 8, 3) := by decide +kernel
theorem dL_areStocks_58 : decode cL_areStocks 58 = .ok (.bipush 20, 2) := by decide +kernel
theorem dL_areStocks_60 : decode cL_areStocks 60 = .ok (.goto 4, 3) := by decide +kernel
theorem dL_areStocks_63 : decode cL_areStocks 63 = .ok (.iconst 0, 1) := by decide +kernel
theorem dL_areStocks_64 : decode cL_areStocks 64 = .ok (.iadd, 1) := by decide +kernel
theorem dL_areStocks_65 : decode cL_areStocks 65 = .ok (.istore 4, 2) := by decide +kernel
theorem dL_areStocks_67 : decode cL_areStocks 67 = .ok (.iinc 5 1, 3) := by decide +kernel
theorem dL_areStocks_70 : decode cL_areStocks 70 = .ok (.goto (-55), 3) := by decide +kernel
theorem dL_areStocks_73 : decode cL_areStocks 73 = .ok (.iconst 0, 1) := by decide +kernel
theorem dL_areStocks_74 : decode cL_areStocks 74 = .ok (.istore 5, 2) := by decide +kernel
theorem dL_areStocks_76 : decode cL_areStocks 76 = .ok (.iload 5, 2) := by decide +kernel
theorem dL_areStocks_78 : decode cL_areStocks 78 = .ok (.aload_n 0, 1) := by decide +kernel
theorem dL_areStocks_79 : decode cL_areStocks 79 = .ok (.invokevirtual 223, 3) := by decide +kernel
theorem dL_areStocks_82 : decode cL_areStocks 82 = .ok (.if_icmp .ge 38, 3) := by decide +kernel
theorem dL_areStocks_85 : decode cL_areStocks 85 = .ok (.iload 4, 2) := by decide +kernel
theorem dL_areStocks_87 : decode cL_areStocks 87 = .ok (.aload_n 0, 1) := by decide +kernel
theorem dL_areStocks_88 : decode cL_areStocks 88 = .ok (.aload_n 0, 1) := by decide +kernel
theorem dL_areStocks_89 : decode cL_areStocks 89 = .ok (.iload 5, 2) := by decide +kernel
theorem dL_areStocks_91 : decode cL_areStocks 91 = .ok (.invokestatic 238, 3) := by decide +kernel
theorem dL_areStocks_94 : decode cL_areStocks 94 = .ok (.invokestatic 167, 3) := by decide +kernel
theorem dL_areStocks_97 : decode cL_areStocks 97 = .ok (.iload_n 3, 1) := by decide +kernel
theorem dL_areStocks_98 : decode cL_areStocks 98 = .ok (.if_icmp .ne 12, 3) := by decide +kernel
theorem dL_areStocks_101 : decode cL_areStocks 101 = .ok (.aload_n 0, 1) := by decide +kernel
theorem dL_areStocks_102 : decode cL_areStocks 102 = .ok (.iload 5, 2) := by decide +kernel
theorem dL_areStocks_104 : decode cL_areStocks 104 = .ok (.invokestatic 240, 3) := by decide +kernel
theorem dL_areStocks_107 : decode cL_areStocks 107 = .ok (.goto 4, 3) := by decide +kernel
theorem dL_areStocks_110 : decode cL_areStocks 110 = .ok (.iconst 0, 1) := by decide +kernel
theorem dL_areStocks_111 : decode cL_areStocks 111 = .ok (.isub, 1) := by decide +kernel
theorem dL_areStocks_112 : decode cL_areStocks 112 = .ok (.istore 4, 2) := by decide +kernel
theorem dL_areStocks_114 : decode cL_areStocks 114 = .ok (.iinc 5 1, 3) := by decide +kernel
theorem dL_areStocks_117 : decode cL_areStocks 117 = .ok (.goto (-41), 3) := by decide +kernel
theorem dL_areStocks_120 : decode cL_areStocks 120 = .ok (.iload_n 2, 1) := by decide +kernel
theorem dL_areStocks_121 : decode cL_areStocks 121 = .ok (.aload_n 0, 1) := by decide +kernel
theorem dL_areStocks_122 : decode cL_areStocks 122 = .ok (.iload_n 3, 1) := by decide +kernel
theorem dL_areStocks_123 : decode cL_areStocks 123 = .ok (.invokestatic 242, 3) := by decide +kernel
theorem dL_areStocks_126 : decode cL_areStocks 126 = .ok (.iload 4, 2) := by decide +kernel
theorem dL_areStocks_128 : decode cL_areStocks 128 = .ok (.if_icmp .ne 17, 3) := by decide +kernel
theorem dL_areStocks_131 : decode cL_areStocks 131 = .ok (.aload_n 0, 1) := by decide +kernel
theorem dL_areStocks_132 : decode cL_areStocks 132 = .ok (.iload_n 3, 1) := by decide +kernel
theorem dL_areStocks_133 : decode cL_areStocks 133 = .ok (.invokestatic 244, 3) := by decide +kernel
theorem dL_areStocks_136 : decode cL_areStocks 136 = .ok (.iload 4, 2) := by decide +kernel
theorem dL_areStocks_138 : decode cL_areStocks 138 = .ok (.if_icmp .ne 7, 3) := by decide +kernel
theorem dL_areStocks_141 : decode cL_areStocks 141 = .ok (.iconst 1, 1) := by decide +kernel
theorem dL_areStocks_142 : decode cL_areStocks 142 = .ok (.goto 4, 3) := by decide +kernel
theorem dL_areStocks_145 : decode cL_areStocks 145 = .ok (.iconst 0, 1) := by decide +kernel
theorem dL_areStocks_146 : decode cL_areStocks 146 = .ok (.iand, 1) := by decide +kernel
theorem dL_areStocks_147 : decode cL_areStocks 147 = .ok (.istore_n 2, 1) := by decide +kernel
theorem dL_areStocks_148 : decode cL_areStocks 148 = .ok (.iinc 3 1, 3) := by decide +kernel
theorem dL_areStocks_151 : decode cL_areStocks 151 = .ok (.goto (-147), 3) := by decide +kernel
theorem dL_areStocks_154 : decode cL_areStocks 154 = .ok (.iload_n 2, 1) := by decide +kernel
theorem dL_areStocks_155 : decode cL_areStocks 155 = .ok (.ireturn, 1) := by decide +kernel
theorem dL_areDelivered_0 : decode cL_areDelivered 0 = .ok (.bipush 20, 2) := by decide +kernel
theorem dL_areDelivered_2 : decode cL_areDelivered 2 = .ok (.newarray .int, 2) := by decide +kernel
theorem dL_areDelivered_4 : decode cL_areDelivered 4 = .ok (.astore_n 2, 1) := by decide +kernel
theorem dL_areDelivered_5 : decode cL_areDelivered 5 = .ok (.iconst 0, 1) := by decide +kernel
theorem dL_areDelivered_6 : decode cL_areDelivered 6 = .ok (.istore_n 3, 1) := by decide +kernel
theorem dL_areDelivered_7 : decode cL_areDelivered 7 = .ok (.iconst 0, 1) := by decide +kernel
theorem dL_areDelivered_8 : decode cL_areDelivered 8 = .ok (.istore 4, 2) := by decide +kernel
theorem dL_areDelivered_10 : decode cL_areDelivered 10 = .ok (.iconst 1, 1) := by decide +kernel
theorem dL_areDelivered_11 : decode cL_areDelivered 11 = .ok (.istore 5, 2) := by decide +kernel
theorem dL_areDelivered_13 : decode cL_areDelivered 13 = .ok (.iconst 0, 1) := by decide +kernel
theorem dL_areDelivered_14 : decode cL_areDelivered 14 = .ok (.istore 6, 2) := by decide +kernel
theorem dL_areDelivered_16 : decode cL_areDelivered 16 = .ok (.iload 6, 2) := by decide +kernel
theorem dL_areDelivered_18 : decode cL_areDelivered 18 = .ok (.aload_n 0, 1) := by decide +kernel
theorem dL_areDelivered_19 : decode cL_areDelivered 19 = .ok (.invokevirtual 223, 3) := by decide +kernel
theorem dL_areDelivered_22 : decode cL_areDelivered 22 = .ok (.if_icmp .ge 86, 3) := by decide +kernel
theorem dL_areDelivered_25 : decode cL_areDelivered 25 = .ok (.aload_n 2, 1) := by decide +kernel
theorem dL_areDelivered_26 : decode cL_areDelivered 26 = .ok (.aload_n 0, 1) := by decide +kernel
theorem dL_areDelivered_27 : decode cL_areDelivered 27 = .ok (.iload 6, 2) := by decide +kernel
theorem dL_areDelivered_29 : decode cL_areDelivered 29 = .ok (.invokestatic 246, 3) := by decide +kernel
theorem dL_areDelivered_32 : decode cL_areDelivered 32 = .ok (.dup2, 1) := by decide +kernel
theorem dL_areDelivered_33 : decode cL_areDelivered 33 = .ok (.iaload, 1) := by decide +kernel
theorem dL_areDelivered_34 : decode cL_areDelivered 34 = .ok (.aload_n 0, 1) := by decide +kernel
theorem dL_areDelivered_35 : decode cL_areDelivered 35 = .ok (.iload 6, 2) := by decide +kernel
theorem dL_areDelivered_37 : decode cL_areDelivered 37 = .ok (.invokestatic 240, 3) := by decide +kernel
theorem dL_areDelivered_40 : decode cL_areDelivered 40 = .ok (.iadd, 1) := by decide +kernel
theorem dL_areDelivered_41 : decode cL_areDelivered 41 = .ok (.iastore, 1) := by decide +kernel
theorem dL_areDelivered_42 : decode cL_areDelivered 42 = .ok (.iload 5, 2) := by decide +kernel
theorem dL_areDelivered_44 : decode cL_areDelivered 44 = .ok (.aload_n 0, 1) := by decide +kernel
theorem dL_areDelivered_45 : decode cL_areDelivered 45 = .ok (.iload 6, 2) := by decide +kernel
theorem dL_areDelivered_47 : decode cL_areDelivered 47 = .ok (.invokestatic 240, 3) := by decide +kernel
theorem dL_areDelivered_50 : decode cL_areDelivered 50 = .ok (.ifCond .le 48, 3) := by decide +kernel
theorem dL_areDelivered_53 : decode cL_areDelivered 53 = .ok (.aload_n 0, 1) := by decide +kernel
theorem dL_areDelivered_54 : decode cL_areDelivered 54 = .ok (.iload 6, 2) := by decide +kernel
theorem dL_areDelivered_56 : decode cL_areDelivered 56 = .ok (.invokestatic 240, 3) := by decide +kernel
theorem dL_areDelivered_59 : decode cL_areDelivered 59 = .ok (.bipush 20, 2) := by decide +kernel
theorem dL_areDelivered_61 : decode cL_areDelivered 61 = .ok (.if_icmp .gt 37, 3) := by decide +kernel
theorem dL_areDelivered_64 : decode cL_areDelivered 64 = .ok (.iload 6, 2) := by decide +kernel
theorem dL_areDelivered_66 : decode cL_areDelivered 66 = .ok (.ifCond .eq 28, 3) := by decide +kernel
theorem dL_areDelivered_69 : decode cL_areDelivered 69 = .ok (.aload_n 0, 1) := by decide +kernel
theorem dL_areDelivered_70 : decode cL_areDelivered 70 = .ok (.aload_n 0, 1) := by decide +kernel
theorem dL_areDelivered_71 : decode cL_areDelivered 71 = .ok (.iload 6, 2) := by decide +kernel
theorem dL_areDelivered_73 : decode cL_areDelivered 73 = .ok (.invokestatic 246, 3) := by decide +kernel
theorem dL_areDelivered_76 : decode cL_areDelivered 76 = .ok (.invokestatic 248, 3) := by decide +kernel
theorem dL_areDelivered_79 : decode cL_areDelivered 79 = .ok (.aload_n 0, 1) := by decide +kernel
theorem dL_areDelivered_80 : decode cL_areDelivered 80 = .ok (.aload_n 0, 1) := by decide +kernel
theorem dL_areDelivered_81 : decode cL_areDelivered 81 = .ok (.iload 6, 2) := by decide +kernel
theorem dL_areDelivered_83 : decode cL_areDelivered 83 = .ok (.iconst 1, 1) := by decide +kernel
theorem dL_areDelivered_84 : decode cL_areDelivered 84 = .ok (.isub, 1) := by decide +kernel
theorem dL_areDelivered_85 : decode cL_areDelivered 85 = .ok (.invokestatic 246, 3) := by decide +kernel
theorem dL_areDelivered_88 : decode cL_areDelivered 88 = .ok (.invokestatic 248, 3) := by decide +kernel
theorem dL_areDelivered_91 : decode cL_areDelivered 91 = .ok (.if_icmp .lt 7, 3) := by decide +kernel
theorem dL_areDelivered_94 : decode cL_areDelivered 94 = .ok (.iconst 1, 1) := by decide +kernel
theorem dL_areDelivered_95 : decode cL_areDelivered 95 = .ok (.goto 4, 3) := by decide +kernel
theorem dL_areDelivered_98 : decode cL_areDelivered 98 = .ok (.iconst 0, 1) := by decide +kernel
theorem dL_areDelivered_99 : decode cL_areDelivered 99 = .ok (.iand, 1) := by decide +kernel
theorem dL_areDelivered_100 : decode cL_areDelivered 100 = .ok (.istore 5, 2) := by decide +kernel
theorem dL_areDelivered_102 : decode cL_areDelivered 102 = .ok (.iinc 6 1, 3) := by decide +kernel
theorem dL_areDelivered_105 : decode cL_areDelivered 105 = .ok (.goto (-89), 3) := by decide +kernel
theorem dL_areDelivered_108 : decode cL_areDelivered 108 = .ok (.iconst 0, 1) := by decide +kernel
theorem dL_areDelivered_109 : decode cL_areDelivered 109 = .ok (.istore 6, 2) := by decide +kernel
theorem dL_areDelivered_111 : decode cL_areDelivered 111 = .ok (.iload 6, 2) := by decide +kernel
theorem dL_areDelivered_113 : decode cL_areDelivered 113 = .ok (.bipush 20, 2) := by decide +kernel
theorem dL_areDelivered_115 : decode cL_areDelivered 115 = .ok (.if_icmp .ge 91, 3) := by decide +kernel
theorem dL_areDelivered_118 : decode cL_areDelivered 118 = .ok (.aload_n 0, 1) := by decide +kernel
theorem dL_areDelivered_119 : decode cL_areDelivered 119 = .ok (.iload 6, 2) := by decide +kernel
theorem dL_areDelivered_121 : decode cL_areDelivered 121 = .ok (.invokestatic 196, 3) := by decide +kernel
theorem dL_areDelivered_124 : decode cL_areDelivered 124 = .ok (.bipush 102, 2) := by decide +kernel
theorem dL_areDelivered_126 : decode cL_areDelivered 126 = .ok (.if_icmp .ne 7, 3) := by decide +kernel
theorem dL_areDelivered_129 : decode cL_areDelivered 129 = .ok (.iconst 1, 1) := by decide +kernel
theorem dL_areDelivered_130 : decode cL_areDelivered 130 = .ok (.goto 4, 3) := by decide +kernel
theorem dL_areDelivered_133 : decode cL_areDelivered 133 = .ok (.iconst 0, 1) := by decide +kernel
theorem dL_areDelivered_134 : decode cL_areDelivered 134 = .ok (.istore 7, 2) := by decide +kernel
theorem dL_areDelivered_136 : decode cL_areDelivered 136 = .ok (.iload 5, 2) := by decide +kernel
theorem dL_areDelivered_138 : decode cL_areDelivered 138 = .ok (.aload_n 2, 1) := by decide +kernel
theorem dL_areDelivered_139 : decode cL_areDelivered 139 = .ok (.iload 6, 2) := by decide +kernel
theorem dL_areDelivered_141 : decode cL_areDelivered 141 = .ok (.iaload, 1) := by decide +kernel
theorem dL_areDelivered_142 : decode cL_areDelivered 142 = .ok (.iload 7, 2) := by decide +kernel
theorem dL_areDelivered_144 : decode cL_areDelivered 144 = .ok (.ifCond .eq 10, 3) := by decide +kernel
theorem dL_areDelivered_147 : decode cL_areDelivered 147 = .ok (.aload_n 1, 1) := by decide +kernel
theorem dL_areDelivered_148 : decode cL_areDelivered 148 = .ok (.iload 6, 2) := by decide +kernel
theorem dL_areDelivered_150 : decode cL_areDelivered 150 = .ok (.iaload, 1) := by decide +kernel
theorem dL_areDelivered_151 : decode cL_areDelivered 151 = .ok (.goto 4, 3) := by decide +kernel
theorem dL_areDelivered_154 : decode cL_areDelivered 154 = .ok (.iconst 0, 1) := by decide +kernel
theorem dL_areDelivered_155 : decode cL_areDelivered 155 = .ok (.if_icmp .ne 26, 3) := by decide +kernel
theorem dL_areDelivered_158 : decode cL_areDelivered 158 = .ok (.aload_n 0, 1) := by decide +kernel
theorem dL_areDelivered_159 : decode cL_areDelivered 159 = .ok (.iload 6, 2) := by decide +kernel
theorem dL_areDelivered_161 : decode cL_areDelivered 161 = .ok (.invokestatic 248, 3) := by decide +kernel
theorem dL_areDelivered_164 : decode cL_areDelivered 164 = .ok (.ifCond .lt 7, 3) := by decide +kernel
theorem dL_areDelivered_167 : decode cL_areDelivered 167 = .ok (.iconst 1, 1) := by decide +kernel
theorem dL_areDelivered_168 : decode cL_areDelivered 168 = .ok (.goto 4, 3) := by decide +kernel
theorem dL_areDelivered_171 : decode cL_areDelivered 171 = .ok (.iconst 0, 1) := by decide +kernel
theorem dL_areDelivered_172 : decode cL_areDelivered 172 = .ok (.iload 7, 2) := by decide +kernel
theorem dL_areDelivered_174 : decode cL_areDelivered 174 = .ok (.if_icmp .ne 7, 3) := by decide +kernel
theorem dL_areDelivered_177 : decode cL_areDelivered 177 = .ok (.iconst 1, 1) := by decide +kernel
theorem dL_areDelivered_178 : decode cL_areDelivered 178 = .ok (.goto 4, 3) := by decide +kernel
theorem dL_areDelivered_181 : decode cL_areDelivered 181 = .ok (.iconst 0, 1) := by decide +kernel
theorem dL_areDelivered_182 : decode cL_areDelivered 182 = .ok (.iand, 1) := by decide +kernel
theorem dL_areDelivered_183 : decode cL_areDelivered 183 = .ok (.istore 5, 2) := by decide +kernel
theorem dL_areDelivered_185 : decode cL_areDelivered 185 = .ok (.iload 4, 2) := by decide +kernel
theorem dL_areDelivered_187 : decode cL_areDelivered 187 = .ok (.iload 7, 2) := by decide +kernel
theorem dL_areDelivered_189 : decode cL_areDelivered 189 = .ok (.ifCond .eq 7, 3) := by decide +kernel
theorem dL_areDelivered_192 : decode cL_areDelivered 192 = .ok (.iconst 1, 1) := by decide +kernel
theorem dL_areDelivered_193 : decode cL_areDelivered 193 = .ok (.goto 4, 3) := by decide +kernel
theorem dL_areDelivered_196 : decode cL_areDelivered 196 = .ok (.iconst 0, 1) := by decide +kernel
theorem dL_areDelivered_197 : decode cL_areDelivered 197 = .ok (.iadd, 1) := by decide +kernel
theorem dL_areDelivered_198 : decode cL_areDelivered 198 = .ok (.istore 4, 2) := by decide +kernel
theorem dL_areDelivered_200 : decode cL_areDelivered 200 = .ok (.iinc 6 1, 3) := by decide +kernel
theorem dL_areDelivered_203 : decode cL_areDelivered 203 = .ok (.goto (-92), 3) := by decide +kernel
theorem dL_areDelivered_206 : decode cL_areDelivered 206 = .ok (.aload_n 0, 1) := by decide +kernel
theorem dL_areDelivered_207 : decode cL_areDelivered 207 = .ok (.invokestatic 250, 3) := by decide +kernel
theorem dL_areDelivered_210 : decode cL_areDelivered 210 = .ok (.fstore 6, 2) := by decide +kernel
theorem dL_areDelivered_212 : decode cL_areDelivered 212 = .ok (.iload 5, 2) := by decide +kernel
theorem dL_areDelivered_214 : decode cL_areDelivered 214 = .ok (.ifCond .eq 37, 3) := by decide +kernel
theorem dL_areDelivered_217 : decode cL_areDelivered 217 = .ok (.iload 4, 2) := by decide +kernel
theorem dL_areDelivered_219 : decode cL_areDelivered 219 = .ok (.ifCond .ne 14, 3) := by decide +kernel
theorem dL_areDelivered_222 : decode cL_areDelivered 222 = .ok (.fload 6, 2) := by decide +kernel
theorem dL_areDelivered_224 : decode cL_areDelivered 224 = .ok (.ldc 87, 2) := by decide +kernel
theorem dL_areDelivered_226 : decode cL_areDelivered 226 = .ok (.fcmp .l, 1) := by decide +kernel
theorem dL_areDelivered_227 : decode cL_areDelivered 227 = .ok (.ifCond .ne 24, 3) := by decide +kernel
theorem dL_areDelivered_230 : decode cL_areDelivered 230 = .ok (.goto 17, 3) := by decide +kernel
theorem dL_areDelivered_233 : decode cL_areDelivered 233 = .ok (.fload 6, 2) := by decide +kernel
theorem dL_areDelivered_235 : decode cL_areDelivered 235 = .ok (.fconst 0, 1) := by decide +kernel
theorem dL_areDelivered_236 : decode cL_areDelivered 236 = .ok (.fcmp .l, 1) := by decide +kernel
theorem dL_areDelivered_237 : decode cL_areDelivered 237 = .ok (.ifCond .lt 14, 3) := by decide +kernel
theorem dL_areDelivered_240 : decode cL_areDelivered 240 = .ok (.fload 6, 2) := by decide +kernel
theorem dL_areDelivered_242 : decode cL_areDelivered 242 = .ok (.fconst 1, 1) := by decide +kernel
theorem dL_areDelivered_243 : decode cL_areDelivered 243 = .ok (.fcmp .g, 1) := by decide +kernel
theorem dL_areDelivered_244 : decode cL_areDelivered 244 = .ok (.ifCond .gt 7, 3) := by decide +kernel
theorem dL_areDelivered_247 : decode cL_areDelivered 247 = .ok (.iconst 1, 1) := by decide +kernel
theorem dL_areDelivered_248 : decode cL_areDelivered 248 = .ok (.goto 4, 3) := by decide +kernel
theorem dL_areDelivered_251 : decode cL_areDelivered 251 = .ok (.iconst 0, 1) := by decide +kernel
theorem dL_areDelivered_252 : decode cL_areDelivered 252 = .ok (.ireturn, 1) := by decide +kernel
