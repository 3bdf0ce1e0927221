theorem dX1_init_0 : decode cX1_init 0 = .ok (.aload_n 0, 1) := by decide +kernel
theorem dX1_init_1 : decode cX1_init 1 = .ok (.invokespecial 3, 3) := by decide +kernel
theorem dX1_init_4 : decode cX1_init 4 = .ok (.aload_n 0, 1) := by decide +kernel
theorem dX1_init_5 : decode cX1_init 5 = .ok (.sipush 153, 3) := by decide +kernel
theorem dX1_init_8 : decode cX1_init 8 = .ok (.newarray .int, 2) := by decide +kernel
theorem dX1_init_10 : decode cX1_init 10 = .ok (.putfield 9, 3) := by decide +kernel
theorem dX1_init_13 : decode cX1_init 13 = .ok (.aload_n 0, 1) := by decide +kernel
theorem dX1_init_14 : decode cX1_init 14 = .ok (.iconst 4, 1) := by decide +kernel
theorem dX1_init_15 : decode cX1_init 15 = .ok (.putfield 15, 3) := by decide +kernel
theorem dX1_init_18 : decode cX1_init 18 = .ok (.aload_n 0, 1) := by decide +kernel
theorem dX1_init_19 : decode cX1_init 19 = .ok (.iconst 0, 1) := by decide +kernel
theorem dX1_init_20 : decode cX1_init 20 = .ok (.putfield 19, 3) := by decide +kernel
theorem dX1_init_23 : decode cX1_init 23 = .ok (.aload_n 0, 1) := by decide +kernel
theorem dX1_init_24 : decode cX1_init 24 = .ok (.iconst 0, 1) := by decide +kernel
theorem dX1_init_25 : decode cX1_init 25 = .ok (.putfield 22, 3) := by decide +kernel
theorem dX1_init_28 : decode cX1_init 28 = .ok (.aload_n 0, 1) := by decide +kernel
theorem dX1_init_29 : decode cX1_init 29 = .ok (.iconst (-1), 1) := by decide +kernel
theorem dX1_init_30 : decode cX1_init 30 = .ok (.putfield 25, 3) := by decide +kernel
theorem dX1_init_33 : decode cX1_init 33 = .ok (.aload_n 0, 1) := by decide +kernel
theorem dX1_init_34 : decode cX1_init 34 = .ok (.iconst (-1), 1) := by decide +kernel
theorem dX1_init_35 : decode cX1_init 35 = .ok (.putfield 28, 3) := by decide +kernel
theorem dX1_init_38 : decode cX1_init 38 = .ok (.iconst 0, 1) := by decide +kernel
theorem dX1_init_39 : decode cX1_init 39 = .ok (.istore_n 1, 1) := by decide +kernel
theorem dX1_init_40 : decode cX1_init 40 = .ok (.iload_n 1, 1) := by decide +kernel
theorem dX1_init_41 : decode cX1_init 41 = .ok (.aload_n 0, 1) := by decide +kernel
theorem dX1_init_42 : decode cX1_init 42 = .ok (.getfield 15, 3) := by decide +kernel
theorem dX1_init_45 : decode cX1_init 45 = .ok (.if_icmp .gt 50, 3) := by decide +kernel
theorem dX1_init_48 : decode cX1_init 48 = .ok (.iconst 0, 1) := by decide +kernel
theorem dX1_init_49 : decode cX1_init 49 = .ok (.istore_n 2, 1) := by decide +kernel
theorem dX1_init_50 : decode cX1_init 50 = .ok (.iload_n 2, 1) := by decide +kernel
theorem dX1_init_51 : decode cX1_init 51 = .ok (.aload_n 0, 1) := by decide +kernel
theorem dX1_init_52 : decode cX1_init 52 = .ok (.getfield 15, 3) := by decide +kernel
theorem dX1_init_55 : decode cX1_init 55 = .ok (.iload_n 1, 1) := by decide +kernel
theorem dX1_init_56 : decode cX1_init 56 = .ok (.isub, 1) := by decide +kernel
theorem dX1_init_57 : decode cX1_init 57 = .ok (.if_icmp .gt 32, 3) := by decide +kernel
theorem dX1_init_60 : decode cX1_init 60 = .ok (.aload_n 0, 1) := by decide +kernel
theorem dX1_init_61 : decode cX1_init 61 = .ok (.iload_n 1, 1) := by decide +kernel
theorem dX1_init_62 : decode cX1_init 62 = .ok (.iload_n 2, 1) := by decide +kernel
theorem dX1_init_63 : decode cX1_init 63 = .ok (.iload_n 1, 1) := by decide +kernel
theorem dX1_init_64 : decode cX1_init 64 = .ok (.ifCond .le 7, 3) := by decide +kernel
theorem dX1_init_67 : decode cX1_init 67 = .ok (.iconst 0, 1) := by decide +kernel
theorem dX1_init_68 : decode cX1_init 68 = .ok (.goto 12, 3) := by decide +kernel
theorem dX1_init_71 : decode cX1_init 71 = .ok (.iload_n 2, 1) := by decide +kernel
theorem dX1_init_72 : decode cX1_init 72 = .ok (.ifCond .le 7, 3) := by decide +kernel
theorem dX1_init_75 : decode cX1_init 75 = .ok (.iconst 1, 1) := by decide +kernel
theorem dX1_init_76 : decode cX1_init 76 = .ok (.goto 4, 3) := by decide +kernel
theorem dX1_init_79 : decode cX1_init 79 = .ok (.iconst 2, 1) := by decide +kernel
theorem dX1_init_80 : decode cX1_init 80 = .ok (.invokevirtual 31, 3) := by decide +kernel
theorem dX1_init_83 : decode cX1_init 83 = .ok (.iinc 2 1, 3) := by decide +kernel
theorem dX1_init_86 : decode cX1_init 86 = .ok (.goto (-36), 3) := by decide +kernel
theorem dX1_init_89 : decode cX1_init 89 = .ok (.iinc 1 1, 3) := by decide +kernel
theorem dX1_init_92 : decode cX1_init 92 = .ok (.goto (-52), 3) := by decide +kernel
theorem dX1_init_95 : decode cX1_init 95 = .ok (.return_, 1) := by decide +kernel
theorem dX1_copy_0 : decode cX1_copy 0 = .ok (.aload_n 0, 1) := by decide +kernel
theorem dX1_copy_1 : decode cX1_copy 1 = .ok (.aload_n 1, 1) := by decide +kernel
theorem dX1_copy_2 : decode cX1_copy 2 = .ok (.getfield 15, 3) := by decide +kernel
theorem dX1_copy_5 : decode cX1_copy 5 = .ok (.putfield 15, 3) := by decide +kernel
theorem dX1_copy_8 : decode cX1_copy 8 = .ok (.aload_n 1, 1) := by decide +kernel
theorem dX1_copy_9 : decode cX1_copy 9 = .ok (.getfield 9, 3) := by decide +kernel
theorem dX1_copy_12 : decode cX1_copy 12 = .ok (.iconst 0, 1) := by decide +kernel
theorem dX1_copy_13 : decode cX1_copy 13 = .ok (.aload_n 0, 1) := by decide +kernel
theorem dX1_copy_14 : decode cX1_copy 14 = .ok (.getfield 9, 3) := by decide +kernel
theorem dX1_copy_17 : decode cX1_copy 17 = .ok (.iconst 0, 1) := by decide +kernel
theorem dX1_copy_18 : decode cX1_copy 18 = .ok (.sipush 153, 3) := by decide +kernel
theorem dX1_copy_21 : decode cX1_copy 21 = .ok (.invokestatic 35, 3) := by decide +kernel
theorem dX1_copy_24 : decode cX1_copy 24 = .ok (.return_, 1) := by decide +kernel
theorem dX1_has_0 : decode cX1_has 0 = .ok (.iload_n 1, 1) := by decide +kernel
theorem dX1_has_1 : decode cX1_has 1 = .ok (.ifCond .lt 29, 3) := by decide +kernel
theorem dX1_has_4 : decode cX1_has 4 = .ok (.iload_n 2, 1) := by decide +kernel
theorem dX1_has_5 : decode cX1_has 5 = .ok (.ifCond .lt 25, 3) := by decide +kernel
theorem dX1_has_8 : decode cX1_has 8 = .ok (.iload_n 1, 1) := by decide +kernel
theorem dX1_has_9 : decode cX1_has 9 = .ok (.aload_n 0, 1) := by decide +kernel
theorem dX1_has_10 : decode cX1_has 10 = .ok (.getfield 15, 3) := by decide +kernel
theorem dX1_has_13 : decode cX1_has 13 = .ok (.if_icmp .gt 17, 3) := by decide +kernel
theorem dX1_has_16 : decode cX1_has 16 = .ok (.iload_n 2, 1) := by decide +kernel
theorem dX1_has_17 : decode cX1_has 17 = .ok (.aload_n 0, 1) := by decide +kernel
theorem dX1_has_18 : decode cX1_has 18 = .ok (.getfield 15, 3) := by decide +kernel
theorem dX1_has_21 : decode cX1_has 21 = .ok (.iload_n 1, 1) := by decide +kernel
theorem dX1_has_22 : decode cX1_has 22 = .ok (.isub, 1) := by decide +kernel
theorem dX1_has_23 : decode cX1_has 23 = .ok (.if_icmp .gt 7, 3) := by decide +kernel
theorem dX1_has_26 : decode cX1_has 26 = .ok (.iconst 1, 1) := by decide +kernel
theorem dX1_has_27 : decode cX1_has 27 = .ok (.goto 4, 3) := by decide +kernel
theorem dX1_has_30 : decode cX1_has 30 = .ok (.iconst 0, 1) := by decide +kernel
theorem dX1_has_31 : decode cX1_has 31 = .ok (.ireturn, 1) := by decide +kernel
theorem dX1_points_0 : decode cX1_points 0 = .ok (.aload_n 0, 1) := by decide +kernel
theorem dX1_points_1 : decode cX1_points 1 = .ok (.getfield 15, 3) := by decide +kernel
theorem dX1_points_4 : decode cX1_points 4 = .ok (.iconst 1, 1) := by decide +kernel
theorem dX1_points_5 : decode cX1_points 5 = .ok (.iadd, 1) := by decide +kernel
theorem dX1_points_6 : decode cX1_points 6 = .ok (.aload_n 0, 1) := by decide +kernel
theorem dX1_points_7 : decode cX1_points 7 = .ok (.getfield 15, 3) := by decide +kernel
theorem dX1_points_10 : decode cX1_points 10 = .ok (.iconst 2, 1) := by decide +kernel
theorem dX1_points_11 : decode cX1_points 11 = .ok (.iadd, 1) := by decide +kernel
theorem dX1_points_12 : decode cX1_points 12 = .ok (.imul, 1) := by decide +kernel
theorem dX1_points_13 : decode cX1_points 13 = .ok (.iconst 2, 1) := by decide +kernel
theorem dX1_points_14 : decode cX1_points 14 = .ok (.idiv, 1) := by decide +kernel
theorem dX1_points_15 : decode cX1_points 15 = .ok (.ireturn, 1) := by decide +kernel
theorem dX1_numberOf_0 : decode cX1_numberOf 0 = .ok (.iload_n 1, 1) := by decide +kernel
theorem dX1_numberOf_1 : decode cX1_numberOf 1 = .ok (.aload_n 0, 1) := by decide +kernel
theorem dX1_numberOf_2 : decode cX1_numberOf 2 = .ok (.getfield 15, 3) := by decide +kernel
theorem dX1_numberOf_5 : decode cX1_numberOf 5 = .ok (.iconst 1, 1) := by decide +kernel
theorem dX1_numberOf_6 : decode cX1_numberOf 6 = .ok (.iadd, 1) := by decide +kernel
theorem dX1_numberOf_7 : decode cX1_numberOf 7 = .ok (.imul, 1) := by decide +kernel
theorem dX1_numberOf_8 : decode cX1_numberOf 8 = .ok (.iload_n 1, 1) := by decide +kernel
theorem dX1_numberOf_9 : decode cX1_numberOf 9 = .ok (.iload_n 1, 1) := by decide +kernel
theorem dX1_numberOf_10 : decode cX1_numberOf 10 = .ok (.iconst 1, 1) := by decide +kernel
theorem dX1_numberOf_11 : decode cX1_numberOf 11 = .ok (.isub, 1) := by decide +kernel
theorem dX1_numberOf_12 : decode cX1_numberOf 12 = .ok (.imul, 1) := by decide +kernel
theorem dX1_numberOf_13 : decode cX1_numberOf 13 = .ok (.iconst 2, 1) := by decide +kernel
theorem dX1_numberOf_14 : decode cX1_numberOf 14 = .ok (.idiv, 1) := by decide +kernel
theorem dX1_numberOf_15 : decode cX1_numberOf 15 = .ok (.isub, 1) := by decide +kernel
theorem dX1_numberOf_16 : decode cX1_numberOf 16 = .ok (.iload_n 2, 1) := by decide +kernel
theorem dX1_numberOf_17 : decode cX1_numberOf 17 = .ok (.iadd, 1) := by decide +kernel
theorem dX1_numberOf_18 : decode cX1_numberOf 18 = .ok (.ireturn, 1) := by decide +kernel
theorem dX1_overOf_0 : decode cX1_overOf 0 = .ok (.iload_n 2, 1) := by decide +kernel
theorem dX1_overOf_1 : decode cX1_overOf 1 = .ok (.aload_n 0, 1) := by decide +kernel
theorem dX1_overOf_2 : decode cX1_overOf 2 = .ok (.getfield 15, 3) := by decide +kernel
theorem dX1_overOf_5 : decode cX1_overOf 5 = .ok (.iadd, 1) := by decide +kernel
theorem dX1_overOf_6 : decode cX1_overOf 6 = .ok (.iconst 1, 1) := by decide +kernel
theorem dX1_overOf_7 : decode cX1_overOf 7 = .ok (.iadd, 1) := by decide +kernel
theorem dX1_overOf_8 : decode cX1_overOf 8 = .ok (.iload_n 1, 1) := by decide +kernel
theorem dX1_overOf_9 : decode cX1_overOf 9 = .ok (.isub, 1) := by decide +kernel
theorem dX1_overOf_10 : decode cX1_overOf 10 = .ok (.ireturn, 1) := by decide +kernel
theorem dX1_pointI_0 : decode cX1_pointI 0 = .ok (.iload_n 1, 1) := by decide +kernel
theorem dX1_pointI_1 : decode cX1_pointI 1 = .ok (.istore_n 2, 1) := by decide +kernel
theorem dX1_pointI_2 : decode cX1_pointI 2 = .ok (.iconst 0, 1) := by decide +kernel
theorem dX1_pointI_3 : decode cX1_pointI 3 = .ok (.istore_n 3, 1) := by decide +kernel
theorem dX1_pointI_4 : decode cX1_pointI 4 = .ok (.iload_n 3, 1) := by decide +kernel
theorem dX1_pointI_5 : decode cX1_pointI 5 = .ok (.aload_n 0, 1) := by decide +kernel
theorem dX1_pointI_6 : decode cX1_pointI 6 = .ok (.getfield 15, 3) := by decide +kernel
theorem dX1_pointI_9 : decode cX1_pointI 9 = .ok (.if_icmp .gt 32, 3) := by decide +kernel
theorem dX1_pointI_12 : decode cX1_pointI 12 = .ok (.iload_n 2, 1) := by decide +kernel
theorem dX1_pointI_13 : decode cX1_pointI 13 = .ok (.aload_n 0, 1) := by decide +kernel
theorem dX1_pointI_14 : decode cX1_pointI 14 = .ok (.getfield 15, 3) := by decide +kernel
theorem dX1_pointI_17 : decode cX1_pointI 17 = .ok (.iload_n 3, 1) := by decide +kernel
theorem dX1_pointI_18 : decode cX1_pointI 18 = .ok (.isub, 1) := by decide +kernel
theorem dX1_pointI_19 : decode cX1_pointI 19 = .ok (.if_icmp .gt 5, 3) := by decide +kernel
theorem dX1_pointI_22 : decode cX1_pointI 22 = .ok (.iload_n 3, 1) := by decide +kernel
theorem dX1_pointI_23 : decode cX1_pointI 23 = .ok (.ireturn, 1) := by decide +kernel
theorem dX1_pointI_24 : decode cX1_pointI 24 = .ok (.iload_n 2, 1) := by decide +kernel
theorem dX1_pointI_25 : decode cX1_pointI 25 = .ok (.aload_n 0, 1) := by decide +kernel
theorem dX1_pointI_26 : decode cX1_pointI 26 = .ok (.getfield 15, 3) := by decide +kernel
theorem dX1_pointI_29 : decode cX1_pointI 29 = .ok (.iload_n 3, 1) := by decide +kernel
theorem dX1_pointI_30 : decode cX1_pointI 30 = .ok (.isub, 1) := by decide +kernel
theorem dX1_pointI_31 : decode cX1_pointI 31 = .ok (.iconst 1, 1) := by decide +kernel
theorem dX1_pointI_32 : decode cX1_pointI 32 = .ok (.iadd, 1) := by decide +kernel
theorem dX1_pointI_33 : decode cX1_pointI 33 = .ok (.isub, 1) := by decide +kernel
theorem dX1_pointI_34 : decode cX1_pointI 34 = .ok (.istore_n 2, 1) := by decide +kernel
theorem dX1_pointI_35 : decode cX1_pointI 35 = .ok (.iinc 3 1, 3) := by decide +kernel
theorem dX1_pointI_38 : decode cX1_pointI 38 = .ok (.goto (-34), 3) := by decide +kernel
theorem dX1_pointI_41 : decode cX1_pointI 41 = .ok (.aload_n 0, 1) := by decide +kernel
theorem dX1_pointI_42 : decode cX1_pointI 42 = .ok (.getfield 15, 3) := by decide +kernel
theorem dX1_pointI_45 : decode cX1_pointI 45 = .ok (.ireturn, 1) := by decide +kernel
theorem dX1_pointJ_0 : decode cX1_pointJ 0 = .ok (.iload_n 1, 1) := by decide +kernel
theorem dX1_pointJ_1 : decode cX1_pointJ 1 = .ok (.aload_n 0, 1) := by decide +kernel
theorem dX1_pointJ_2 : decode cX1_pointJ 2 = .ok (.aload_n 0, 1) := by decide +kernel
theorem dX1_pointJ_3 : decode cX1_pointJ 3 = .ok (.iload_n 1, 1) := by decide +kernel
theorem dX1_pointJ_4 : decode cX1_pointJ 4 = .ok (.invokevirtual 41, 3) := by decide +kernel
theorem dX1_pointJ_7 : decode cX1_pointJ 7 = .ok (.iconst 0, 1) := by decide +kernel
theorem dX1_pointJ_8 : decode cX1_pointJ 8 = .ok (.invokevirtual 45, 3) := by decide +kernel
theorem dX1_pointJ_11 : decode cX1_pointJ 11 = .ok (.isub, 1) := by decide +kernel
theorem dX1_pointJ_12 : decode cX1_pointJ 12 = .ok (.ireturn, 1) := by decide +kernel
theorem dX1_price_0 : decode cX1_price 0 = .ok (.iload_n 3, 1) := by decide +kernel
theorem dX1_price_1 : decode cX1_price 1 = .ok (.ifCond .ne 5, 3) := by decide +kernel
theorem dX1_price_4 : decode cX1_price 4 = .ok (.iload_n 1, 1) := by decide +kernel
theorem dX1_price_5 : decode cX1_price 5 = .ok (.ireturn, 1) := by decide +kernel
theorem dX1_price_6 : decode cX1_price 6 = .ok (.iload_n 3, 1) := by decide +kernel
theorem dX1_price_7 : decode cX1_price 7 = .ok (.iconst 1, 1) := by decide +kernel
theorem dX1_price_8 : decode cX1_price 8 = .ok (.if_icmp .ne 7, 3) := by decide +kernel
theorem dX1_price_11 : decode cX1_price 11 = .ok (.iload_n 2, 1) := by decide +kernel
theorem dX1_price_12 : decode cX1_price 12 = .ok (.goto 11, 3) := by decide +kernel
theorem dX1_price_15 : decode cX1_price 15 = .ok (.aload_n 0, 1) := by decide +kernel
theorem dX1_price_16 : decode cX1_price 16 = .ok (.getfield 15, 3) := by decide +kernel
theorem dX1_price_19 : decode cX1_price 19 = .ok (.iload_n 1, 1) := by decide +kernel
theorem dX1_price_20 : decode cX1_price 20 = .ok (.isub, 1) := by decide +kernel
theorem dX1_price_21 : decode cX1_price 21 = .ok (.iload_n 2, 1) := by decide +kernel
theorem dX1_price_22 : decode cX1_price 22 = .ok (.isub, 1) := by decide +kernel
theorem dX1_price_23 : decode cX1_price 23 = .ok (.ireturn, 1) := by decide +kernel
theorem dX1_onRim_0 : decode cX1_onRim 0 = .ok (.iload_n 1, 1) := by decide +kernel
theorem dX1_onRim_1 : decode cX1_onRim 1 = .ok (.ifCond .eq 17, 3) := by decide +kernel
theorem dX1_onRim_4 : decode cX1_onRim 4 = .ok (.iload_n 2, 1) := by decide +kernel
theorem dX1_onRim_5 : decode cX1_onRim 5 = .ok (.ifCond .eq 13, 3) := by decide +kernel
theorem dX1_onRim_8 : decode cX1_onRim 8 = .ok (.iload_n 1, 1) := by decide +kernel
theorem dX1_onRim_9 : decode cX1_onRim 9 = .ok (.iload_n 2, 1) := by decide +kernel
theorem dX1_onRim_10 : decode cX1_onRim 10 = .ok (.iadd, 1) := by decide +kernel
theorem dX1_onRim_11 : decode cX1_onRim 11 = .ok (.aload_n 0, 1) := by decide +kernel
theorem dX1_onRim_12 : decode cX1_onRim 12 = .ok (.getfield 15, 3) := by decide +kernel
theorem dX1_onRim_15 : decode cX1_onRim 15 = .ok (.if_icmp .ne 7, 3) := by decide +kernel
theorem dX1_onRim_18 : decode cX1_onRim 18 = .ok (.iconst 1, 1) := by decide +kernel
theorem dX1_onRim_19 : decode cX1_onRim 19 = .ok (.goto 4, 3) := by decide +kernel
theorem dX1_onRim_22 : decode cX1_onRim 22 = .ok (.iconst 0, 1) := by decide +kernel
theorem dX1_onRim_23 : decode cX1_onRim 23 = .ok (.ireturn, 1) := by decide +kernel
theorem dX1_canHave_0 : decode cX1_canHave 0 = .ok (.iload_n 3, 1) := by decide +kernel
theorem dX1_canHave_1 : decode cX1_canHave 1 = .ok (.invokestatic 49, 3) := by decide +kernel
theorem dX1_canHave_4 : decode cX1_canHave 4 = .ok (.ifCond .eq 17, 3) := by decide +kernel
theorem dX1_canHave_7 : decode cX1_canHave 7 = .ok (.aload_n 0, 1) := by decide +kernel
theorem dX1_canHave_8 : decode cX1_canHave 8 = .ok (.iload_n 1, 1) := by decide +kernel
theorem dX1_canHave_9 : decode cX1_canHave 9 = .ok (.iload_n 2, 1) := by decide +kernel
theorem dX1_canHave_10 : decode cX1_canHave 10 = .ok (.iload_n 3, 1) := by decide +kernel
theorem dX1_canHave_11 : decode cX1_canHave 11 = .ok (.invokevirtual 53, 3) := by decide +kernel
theorem dX1_canHave_14 : decode cX1_canHave 14 = .ok (.ifCond .eq 7, 3) := by decide +kernel
theorem dX1_canHave_17 : decode cX1_canHave 17 = .ok (.iconst 1, 1) := by decide +kernel
theorem dX1_canHave_18 : decode cX1_canHave 18 = .ok (.goto 4, 3) := by decide +kernel
theorem dX1_canHave_21 : decode cX1_canHave 21 = .ok (.iconst 0, 1) := by decide +kernel
theorem dX1_canHave_22 : decode cX1_canHave 22 = .ok (.ireturn, 1) := by decide +kernel
theorem dX1_labelOfNumber_0 : decode cX1_labelOfNumber 0 = .ok (.iload_n 1, 1) := by decide +kernel
theorem dX1_labelOfNumber_1 : decode cX1_labelOfNumber 1 = .ok (.ifCond .lt 19, 3) := by decide +kernel
theorem dX1_labelOfNumber_4 : decode cX1_labelOfNumber 4 = .ok (.iload_n 1, 1) := by decide +kernel
theorem dX1_labelOfNumber_5 : decode cX1_labelOfNumber 5 = .ok (.sipush 153, 3) := by decide +kernel
theorem dX1_labelOfNumber_8 : decode cX1_labelOfNumber 8 = .ok (.if_icmp .ge 12, 3) := by decide +kernel
theorem dX1_labelOfNumber_11 : decode cX1_labelOfNumber 11 = .ok (.aload_n 0, 1) := by decide +kernel
theorem dX1_labelOfNumber_12 : decode cX1_labelOfNumber 12 = .ok (.getfield 9, 3) := by decide +kernel
theorem dX1_labelOfNumber_15 : decode cX1_labelOfNumber 15 = .ok (.iload_n 1, 1) := by decide +kernel
theorem dX1_labelOfNumber_16 : decode cX1_labelOfNumber 16 = .ok (.iaload, 1) := by decide +kernel
theorem dX1_labelOfNumber_17 : decode cX1_labelOfNumber 17 = .ok (.goto 4, 3) := by decide +kernel
theorem dX1_labelOfNumber_20 : decode cX1_labelOfNumber 20 = .ok (.iconst (-1), 1) := by decide +kernel
theorem dX1_labelOfNumber_21 : decode cX1_labelOfNumber 21 = .ok (.ireturn, 1) := by decide +kernel
theorem dX1_putNumber_0 : decode cX1_putNumber 0 = .ok (.iload_n 1, 1) := by decide +kernel
theorem dX1_putNumber_1 : decode cX1_putNumber 1 = .ok (.ifCond .lt 17, 3) := by decide +kernel
theorem dX1_putNumber_4 : decode cX1_putNumber 4 = .ok (.iload_n 1, 1) := by decide +kernel
theorem dX1_putNumber_5 : decode cX1_putNumber 5 = .ok (.sipush 153, 3) := by decide +kernel
theorem dX1_putNumber_8 : decode cX1_putNumber 8 = .ok (.if_icmp .ge 10, 3) := by decide +kernel
theorem dX1_putNumber_11 : decode cX1_putNumber 11 = .ok (.aload_n 0, 1) := by decide +kernel
theorem dX1_putNumber_12 : decode cX1_putNumber 12 = .ok (.getfield 9, 3) := by decide +kernel
theorem dX1_putNumber_15 : decode cX1_putNumber 15 = .ok (.iload_n 1, 1) := by decide +kernel
theorem dX1_putNumber_16 : decode cX1_putNumber 16 = .ok (.iload_n 2, 1) := by decide +kernel
theorem dX1_putNumber_17 : decode cX1_putNumber 17 = .ok (.iastore, 1) := by decide +kernel
theorem dX1_putNumber_18 : decode cX1_putNumber 18 = .ok (.return_, 1) := by decide +kernel
theorem dX1_labelAt_0 : decode cX1_labelAt 0 = .ok (.aload_n 0, 1) := by decide +kernel
theorem dX1_labelAt_1 : decode cX1_labelAt 1 = .ok (.aload_n 0, 1) := by decide +kernel
theorem dX1_labelAt_2 : decode cX1_labelAt 2 = .ok (.iload_n 1, 1) := by decide +kernel
theorem dX1_labelAt_3 : decode cX1_labelAt 3 = .ok (.iload_n 2, 1) := by decide +kernel
theorem dX1_labelAt_4 : decode cX1_labelAt 4 = .ok (.invokevirtual 45, 3) := by decide +kernel
theorem dX1_labelAt_7 : decode cX1_labelAt 7 = .ok (.invokevirtual 57, 3) := by decide +kernel
theorem dX1_labelAt_10 : decode cX1_labelAt 10 = .ok (.ireturn, 1) := by decide +kernel
theorem dX1_put_0 : decode cX1_put 0 = .ok (.aload_n 0, 1) := by decide +kernel
theorem dX1_put_1 : decode cX1_put 1 = .ok (.aload_n 0, 1) := by decide +kernel
theorem dX1_put_2 : decode cX1_put 2 = .ok (.iload_n 1, 1) := by decide +kernel
theorem dX1_put_3 : decode cX1_put 3 = .ok (.iload_n 2, 1) := by decide +kernel
theorem dX1_put_4 : decode cX1_put 4 = .ok (.invokevirtual 45, 3) := by decide +kernel
theorem dX1_put_7 : decode cX1_put 7 = .ok (.iload_n 3, 1) := by decide +kernel
theorem dX1_put_8 : decode cX1_put 8 = .ok (.invokevirtual 60, 3) := by decide +kernel
theorem dX1_put_11 : decode cX1_put 11 = .ok (.return_, 1) := by decide +kernel
theorem dX1_lay_0 : decode cX1_lay 0 = .ok (.aload_n 0, 1) := by decide +kernel
theorem dX1_lay_1 : decode cX1_lay 1 = .ok (.iload_n 1, 1) := by decide +kernel
theorem dX1_lay_2 : decode cX1_lay 2 = .ok (.iload_n 2, 1) := by decide +kernel
theorem dX1_lay_3 : decode cX1_lay 3 = .ok (.invokevirtual 64, 3) := by decide +kernel
theorem dX1_lay_6 : decode cX1_lay 6 = .ok (.ifCond .eq 10, 3) := by decide +kernel
theorem dX1_lay_9 : decode cX1_lay 9 = .ok (.iload_n 3, 1) := by decide +kernel
theorem dX1_lay_10 : decode cX1_lay 10 = .ok (.invokestatic 49, 3) := by decide +kernel
theorem dX1_lay_13 : decode cX1_lay 13 = .ok (.ifCond .ne 5, 3) := by decide +kernel
theorem dX1_lay_16 : decode cX1_lay 16 = .ok (.iconst (-1), 1) := by decide +kernel
theorem dX1_lay_17 : decode cX1_lay 17 = .ok (.ireturn, 1) := by decide +kernel
theorem dX1_lay_18 : decode cX1_lay 18 = .ok (.aload_n 0, 1) := by decide +kernel
theorem dX1_lay_19 : decode cX1_lay 19 = .ok (.iload_n 1, 1) := by decide +kernel
theorem dX1_lay_20 : decode cX1_lay 20 = .ok (.iload_n 2, 1) := by decide +kernel
theorem dX1_lay_21 : decode cX1_lay 21 = .ok (.invokevirtual 68, 3) := by decide +kernel
theorem dX1_lay_24 : decode cX1_lay 24 = .ok (.istore 4, 2) := by decide +kernel
theorem dX1_lay_26 : decode cX1_lay 26 = .ok (.iload 4, 2) := by decide +kernel
theorem dX1_lay_28 : decode cX1_lay 28 = .ok (.iload_n 3, 1) := by decide +kernel
theorem dX1_lay_29 : decode cX1_lay 29 = .ok (.if_icmp .ne 6, 3) := by decide +kernel
theorem dX1_lay_32 : decode cX1_lay 32 = .ok (.bipush (-2), 2) := by decide +kernel
theorem dX1_lay_34 : decode cX1_lay 34 = .ok (.ireturn, 1) := by decide +kernel
theorem dX1_lay_35 : decode cX1_lay 35 = .ok (.aload_n 0, 1) := by decide +kernel
theorem dX1_lay_36 : decode cX1_lay 36 = .ok (.iload_n 1, 1) := by decide +kernel
theorem dX1_lay_37 : decode cX1_lay 37 = .ok (.iload_n 2, 1) := by decide +kernel
theorem dX1_lay_38 : decode cX1_lay 38 = .ok (.iload_n 3, 1) := by decide +kernel
theorem dX1_lay_39 : decode cX1_lay 39 = .ok (.invokevirtual 71, 3) := by decide +kernel
theorem dX1_lay_42 : decode cX1_lay 42 = .ok (.ifCond .ne 6, 3) := by decide +kernel
theorem dX1_lay_45 : decode cX1_lay 45 = .ok (.bipush (-4), 2) := by decide +kernel
theorem dX1_lay_47 : decode cX1_lay 47 = .ok (.ireturn, 1) := by decide +kernel
theorem dX1_lay_48 : decode cX1_lay 48 = .ok (.aload_n 0, 1) := by decide +kernel
theorem dX1_lay_49 : decode cX1_lay 49 = .ok (.iload_n 1, 1) := by decide +kernel
theorem dX1_lay_50 : decode cX1_lay 50 = .ok (.iload_n 2, 1) := by decide +kernel
theorem dX1_lay_51 : decode cX1_lay 51 = .ok (.iload_n 3, 1) := by decide +kernel
theorem dX1_lay_52 : decode cX1_lay 52 = .ok (.invokevirtual 31, 3) := by decide +kernel
theorem dX1_lay_55 : decode cX1_lay 55 = .ok (.iload 4, 2) := by decide +kernel
theorem dX1_lay_57 : decode cX1_lay 57 = .ok (.ireturn, 1) := by decide +kernel
theorem dX1_numbers_0 : decode cX1_numbers 0 = .ok (.iconst 2, 1) := by decide +kernel
theorem dX1_numbers_1 : decode cX1_numbers 1 = .ok (.aload_n 0, 1) := by decide +kernel
theorem dX1_numbers_2 : decode cX1_numbers 2 = .ok (.getfield 15, 3) := by decide +kernel
theorem dX1_numbers_5 : decode cX1_numbers 5 = .ok (.imul, 1) := by decide +kernel
theorem dX1_numbers_6 : decode cX1_numbers 6 = .ok (.aload_n 0, 1) := by decide +kernel
theorem dX1_numbers_7 : decode cX1_numbers 7 = .ok (.getfield 15, 3) := by decide +kernel
theorem dX1_numbers_10 : decode cX1_numbers 10 = .ok (.imul, 1) := by decide +kernel
theorem dX1_numbers_11 : decode cX1_numbers 11 = .ok (.ireturn, 1) := by decide +kernel
theorem dX1_isCell_0 : decode cX1_isCell 0 = .ok (.iload_n 1, 1) := by decide +kernel
theorem dX1_isCell_1 : decode cX1_isCell 1 = .ok (.ifCond .lt 44, 3) := by decide +kernel
theorem dX1_isCell_4 : decode cX1_isCell 4 = .ok (.iload_n 1, 1) := by decide +kernel
theorem dX1_isCell_5 : decode cX1_isCell 5 = .ok (.iconst 2, 1) := by decide +kernel
theorem dX1_isCell_6 : decode cX1_isCell 6 = .ok (.aload_n 0, 1) := by decide +kernel
theorem dX1_isCell_7 : decode cX1_isCell 7 = .ok (.getfield 15, 3) := by decide +kernel
theorem dX1_isCell_10 : decode cX1_isCell 10 = .ok (.imul, 1) := by decide +kernel
theorem dX1_isCell_11 : decode cX1_isCell 11 = .ok (.aload_n 0, 1) := by decide +kernel
theorem dX1_isCell_12 : decode cX1_isCell 12 = .ok (.getfield 15, 3) := by decide +kernel
theorem dX1_isCell_15 : decode cX1_isCell 15 = .ok (.imul, 1) := by decide +kernel
theorem dX1_isCell_16 : decode cX1_isCell 16 = .ok (.if_icmp .ge 29, 3) := by decide +kernel
theorem dX1_isCell_19 : decode cX1_isCell 19 = .ok (.aload_n 0, 1) := by decide +kernel
theorem dX1_isCell_20 : decode cX1_isCell 20 = .ok (.iload_n 1, 1) := by decide +kernel
theorem dX1_isCell_21 : decode cX1_isCell 21 = .ok (.invokevirtual 75, 3) := by decide +kernel
theorem dX1_isCell_24 : decode cX1_isCell 24 = .ok (.aload_n 0, 1) := by decide +kernel
theorem dX1_isCell_25 : decode cX1_isCell 25 = .ok (.iload_n 1, 1) := by decide +kernel
theorem dX1_isCell_26 : decode cX1_isCell 26 = .ok (.invokevirtual 78, 3) := by decide +kernel
theorem dX1_isCell_29 : decode cX1_isCell 29 = .ok (.iadd, 1) := by decide +kernel
theorem dX1_isCell_30 : decode cX1_isCell 30 = .ok (.iload_n 1, 1) := by decide +kernel
theorem dX1_isCell_31 : decode cX1_isCell 31 = .ok (.iconst 1, 1) := by decide +kernel
theorem dX1_isCell_32 : decode cX1_isCell 32 = .ok (.iand, 1) := by decide +kernel
theorem dX1_isCell_33 : decode cX1_isCell 33 = .ok (.iadd, 1) := by decide +kernel
theorem dX1_isCell_34 : decode cX1_isCell 34 = .ok (.aload_n 0, 1) := by decide +kernel
theorem dX1_isCell_35 : decode cX1_isCell 35 = .ok (.getfield 15, 3) := by decide +kernel
theorem dX1_isCell_38 : decode cX1_isCell 38 = .ok (.if_icmp .ge 7, 3) := by decide +kernel
theorem dX1_isCell_41 : decode cX1_isCell 41 = .ok (.iconst 1, 1) := by decide +kernel
theorem dX1_isCell_42 : decode cX1_isCell 42 = .ok (.goto 4, 3) := by decide +kernel
theorem dX1_isCell_45 : decode cX1_isCell 45 = .ok (.iconst 0, 1) := by decide +kernel
theorem dX1_isCell_46 : decode cX1_isCell 46 = .ok (.ireturn, 1) := by decide +kernel
theorem dX1_cellI_0 : decode cX1_cellI 0 = .ok (.aload_n 0, 1) := by decide +kernel
theorem dX1_cellI_1 : decode cX1_cellI 1 = .ok (.getfield 15, 3) := by decide +kernel
theorem dX1_cellI_4 : decode cX1_cellI 4 = .ok (.iconst 1, 1) := by decide +kernel
theorem dX1_cellI_5 : decode cX1_cellI 5 = .ok (.if_icmp .ge 7, 3) := by decide +kernel
theorem dX1_cellI_8 : decode cX1_cellI 8 = .ok (.iconst 0, 1) := by decide +kernel
theorem dX1_cellI_9 : decode cX1_cellI 9 = .ok (.goto 11, 3) := by decide +kernel
theorem dX1_cellI_12 : decode cX1_cellI 12 = .ok (.iload_n 1, 1) := by decide +kernel
theorem dX1_cellI_13 : decode cX1_cellI 13 = .ok (.iconst 1, 1) := by decide +kernel
theorem dX1_cellI_14 : decode cX1_cellI 14 = .ok (.ishr, 1) := by decide +kernel
theorem dX1_cellI_15 : decode cX1_cellI 15 = .ok (.aload_n 0, 1) := by decide +kernel
theorem dX1_cellI_16 : decode cX1_cellI 16 = .ok (.getfield 15, 3) := by decide +kernel
theorem dX1_cellI_19 : decode cX1_cellI 19 = .ok (.idiv, 1) := by decide +kernel
theorem dX1_cellI_20 : decode cX1_cellI 20 = .ok (.ireturn, 1) := by decide +kernel
theorem dX1_cellJ_0 : decode cX1_cellJ 0 = .ok (.aload_n 0, 1) := by decide +kernel
theorem dX1_cellJ_1 : decode cX1_cellJ 1 = .ok (.getfield 15, 3) := by decide +kernel
theorem dX1_cellJ_4 : decode cX1_cellJ 4 = .ok (.iconst 1, 1) := by decide +kernel
theorem dX1_cellJ_5 : decode cX1_cellJ 5 = .ok (.if_icmp .ge 7, 3) := by decide +kernel
theorem dX1_cellJ_8 : decode cX1_cellJ 8 = .ok (.iconst 0, 1) := by decide +kernel
theorem dX1_cellJ_9 : decode cX1_cellJ 9 = .ok (.goto 11, 3) := by decide +kernel
theorem dX1_cellJ_12 : decode cX1_cellJ 12 = .ok (.iload_n 1, 1) := by decide +kernel
theorem dX1_cellJ_13 : decode cX1_cellJ 13 = .ok (.iconst 1, 1) := by decide +kernel
theorem dX1_cellJ_14 : decode cX1_cellJ 14 = .ok (.ishr, 1) := by decide +kernel
theorem dX1_cellJ_15 : decode cX1_cellJ 15 = .ok (.aload_n 0, 1) := by decide +kernel
theorem dX1_cellJ_16 : decode cX1_cellJ 16 = .ok (.getfield 15, 3) := by decide +kernel
theorem dX1_cellJ_19 : decode cX1_cellJ 19 = .ok (.irem, 1) := by decide +kernel
theorem dX1_cellJ_20 : decode cX1_cellJ 20 = .ok (.ireturn, 1) := by decide +kernel
theorem dX1_cellAt_0 : decode cX1_cellAt 0 = .ok (.iload_n 1, 1) := by decide +kernel
theorem dX1_cellAt_1 : decode cX1_cellAt 1 = .ok (.ifCond .lt 19, 3) := by decide +kernel
theorem dX1_cellAt_4 : decode cX1_cellAt 4 = .ok (.iload_n 2, 1) := by decide +kernel
theorem dX1_cellAt_5 : decode cX1_cellAt 5 = .ok (.ifCond .lt 15, 3) := by decide +kernel
theorem dX1_cellAt_8 : decode cX1_cellAt 8 = .ok (.iload_n 1, 1) := by decide +kernel
theorem dX1_cellAt_9 : decode cX1_cellAt 9 = .ok (.iload_n 2, 1) := by decide +kernel
theorem dX1_cellAt_10 : decode cX1_cellAt 10 = .ok (.iadd, 1) := by decide +kernel
theorem dX1_cellAt_11 : decode cX1_cellAt 11 = .ok (.iload_n 3, 1) := by decide +kernel
theorem dX1_cellAt_12 : decode cX1_cellAt 12 = .ok (.iadd, 1) := by decide +kernel
theorem dX1_cellAt_13 : decode cX1_cellAt 13 = .ok (.aload_n 0, 1) := by decide +kernel
theorem dX1_cellAt_14 : decode cX1_cellAt 14 = .ok (.getfield 15, 3) := by decide +kernel
theorem dX1_cellAt_17 : decode cX1_cellAt 17 = .ok (.if_icmp .lt 7, 3) := by decide +kernel
theorem dX1_cellAt_20 : decode cX1_cellAt 20 = .ok (.iconst (-1), 1) := by decide +kernel
theorem dX1_cellAt_21 : decode cX1_cellAt 21 = .ok (.goto 15, 3) := by decide +kernel
theorem dX1_cellAt_24 : decode cX1_cellAt 24 = .ok (.iconst 2, 1) := by decide +kernel
theorem dX1_cellAt_25 : decode cX1_cellAt 25 = .ok (.aload_n 0, 1) := by decide +kernel
theorem dX1_cellAt_26 : decode cX1_cellAt 26 = .ok (.getfield 15, 3) := by decide +kernel
theorem dX1_cellAt_29 : decode cX1_cellAt 29 = .ok (.iload_n 1, 1) := by decide +kernel
theorem dX1_cellAt_30 : decode cX1_cellAt 30 = .ok (.imul, 1) := by decide +kernel
theorem dX1_cellAt_31 : decode cX1_cellAt 31 = .ok (.iload_n 2, 1) := by decide +kernel
theorem dX1_cellAt_32 : decode cX1_cellAt 32 = .ok (.iadd, 1) := by decide +kernel
theorem dX1_cellAt_33 : decode cX1_cellAt 33 = .ok (.imul, 1) := by decide +kernel
theorem dX1_cellAt_34 : decode cX1_cellAt 34 = .ok (.iload_n 3, 1) := by decide +kernel
theorem dX1_cellAt_35 : decode cX1_cellAt 35 = .ok (.iadd, 1) := by decide +kernel
theorem dX1_cellAt_36 : decode cX1_cellAt 36 = .ok (.ireturn, 1) := by decide +kernel
theorem dX1_cornerI_0 : decode cX1_cornerI 0 = .ok (.iload_n 2, 1) := by decide +kernel
theorem dX1_cornerI_1 : decode cX1_cornerI 1 = .ok (.ifCond .lt 8, 3) := by decide +kernel
theorem dX1_cornerI_4 : decode cX1_cornerI 4 = .ok (.iload_n 2, 1) := by decide +kernel
theorem dX1_cornerI_5 : decode cX1_cornerI 5 = .ok (.iconst 3, 1) := by decide +kernel
theorem dX1_cornerI_6 : decode cX1_cornerI 6 = .ok (.if_icmp .lt 5, 3) := by decide +kernel
theorem dX1_cornerI_9 : decode cX1_cornerI 9 = .ok (.iconst 0, 1) := by decide +kernel
theorem dX1_cornerI_10 : decode cX1_cornerI 10 = .ok (.ireturn, 1) := by decide +kernel
theorem dX1_cornerI_11 : decode cX1_cornerI 11 = .ok (.iload_n 1, 1) := by decide +kernel
theorem dX1_cornerI_12 : decode cX1_cornerI 12 = .ok (.iconst 1, 1) := by decide +kernel
theorem dX1_cornerI_13 : decode cX1_cornerI 13 = .ok (.iand, 1) := by decide +kernel
theorem dX1_cornerI_14 : decode cX1_cornerI 14 = .ok (.ifCond .ne 11, 3) := by decide +kernel
theorem dX1_cornerI_17 : decode cX1_cornerI 17 = .ok (.getstatic 81, 3) := by decide +kernel
theorem dX1_cornerI_20 : decode cX1_cornerI 20 = .ok (.iload_n 2, 1) := by decide +kernel
theorem dX1_cornerI_21 : decode cX1_cornerI 21 = .ok (.iaload, 1) := by decide +kernel
theorem dX1_cornerI_22 : decode cX1_cornerI 22 = .ok (.goto 10, 3) := by decide +kernel
theorem dX1_cornerI_25 : decode cX1_cornerI 25 = .ok (.iconst 1, 1) := by decide +kernel
theorem dX1_cornerI_26 : decode cX1_cornerI 26 = .ok (.getstatic 81, 3) := by decide +kernel
theorem dX1_cornerI_29 : decode cX1_cornerI 29 = .ok (.iload_n 2, 1) := by decide +kernel
theorem dX1_cornerI_30 : decode cX1_cornerI 30 = .ok (.iaload, 1) := by decide +kernel
theorem dX1_cornerI_31 : decode cX1_cornerI 31 = .ok (.isub, 1) := by decide +kernel
theorem dX1_cornerI_32 : decode cX1_cornerI 32 = .ok (.istore_n 3, 1) := by decide +kernel
theorem dX1_cornerI_33 : decode cX1_cornerI 33 = .ok (.aload_n 0, 1) := by decide +kernel
theorem dX1_cornerI_34 : decode cX1_cornerI 34 = .ok (.iload_n 1, 1) := by decide +kernel
theorem dX1_cornerI_35 : decode cX1_cornerI 35 = .ok (.invokevirtual 75, 3) := by decide +kernel
theorem dX1_cornerI_38 : decode cX1_cornerI 38 = .ok (.iload_n 3, 1) := by decide +kernel
theorem dX1_cornerI_39 : decode cX1_cornerI 39 = .ok (.iadd, 1) := by decide +kernel
theorem dX1_cornerI_40 : decode cX1_cornerI 40 = .ok (.ireturn, 1) := by decide +kernel
theorem dX1_cornerJ_0 : decode cX1_cornerJ 0 = .ok (.iload_n 2, 1) := by decide +kernel
theorem dX1_cornerJ_1 : decode cX1_cornerJ 1 = .ok (.ifCond .lt 8, 3) := by decide +kernel
theorem dX1_cornerJ_4 : decode cX1_cornerJ 4 = .ok (.iload_n 2, 1) := by decide +kernel
theorem dX1_cornerJ_5 : decode cX1_cornerJ 5 = .ok (.iconst 3, 1) := by decide +kernel
theorem dX1_cornerJ_6 : decode cX1_cornerJ 6 = .ok (.if_icmp .lt 5, 3) := by decide +kernel
theorem dX1_cornerJ_9 : decode cX1_cornerJ 9 = .ok (.iconst 0, 1) := by decide +kernel
theorem dX1_cornerJ_10 : decode cX1_cornerJ 10 = .ok (.ireturn, 1) := by decide +kernel
theorem dX1_cornerJ_11 : decode cX1_cornerJ 11 = .ok (.iload_n 1, 1) := by decide +kernel
theorem dX1_cornerJ_12 : decode cX1_cornerJ 12 = .ok (.iconst 1, 1) := by decide +kernel
theorem dX1_cornerJ_13 : decode cX1_cornerJ 13 = .ok (.iand, 1) := by decide +kernel
theorem dX1_cornerJ_14 : decode cX1_cornerJ 14 = .ok (.ifCond .ne 11, 3) := by decide +kernel
theorem dX1_cornerJ_17 : decode cX1_cornerJ 17 = .ok (.getstatic 84, 3) := by decide +kernel
theorem dX1_cornerJ_20 : decode cX1_cornerJ 20 = .ok (.iload_n 2, 1) := by decide +kernel
theorem dX1_cornerJ_21 : decode cX1_cornerJ 21 = .ok (.iaload, 1) := by decide +kernel
theorem dX1_cornerJ_22 : decode cX1_cornerJ 22 = .ok (.goto 10, 3) := by decide +kernel
theorem dX1_cornerJ_25 : decode cX1_cornerJ 25 = .ok (.iconst 1, 1) := by decide +kernel
theorem dX1_cornerJ_26 : decode cX1_cornerJ 26 = .ok (.getstatic 84, 3) := by decide +kernel
theorem dX1_cornerJ_29 : decode cX1_cornerJ 29 = .ok (.iload_n 2, 1) := by decide +kernel
theorem dX1_cornerJ_30 : decode cX1_cornerJ 30 = .ok (.iaload, 1) := by decide +kernel
theorem dX1_cornerJ_31 : decode cX1_cornerJ 31 = .ok (.isub, 1) := by decide +kernel
theorem dX1_cornerJ_32 : decode cX1_cornerJ 32 = .ok (.istore_n 3, 1) := by decide +kernel
theorem dX1_cornerJ_33 : decode cX1_cornerJ 33 = .ok (.aload_n 0, 1) := by decide +kernel
theorem dX1_cornerJ_34 : decode cX1_cornerJ 34 = .ok (.iload_n 1, 1) := by decide +kernel
theorem dX1_cornerJ_35 : decode cX1_cornerJ 35 = .ok (.invokevirtual 78, 3) := by decide +kernel
theorem dX1_cornerJ_38 : decode cX1_cornerJ 38 = .ok (.iload_n 3, 1) := by decide +kernel
theorem dX1_cornerJ_39 : decode cX1_cornerJ 39 = .ok (.iadd, 1) := by decide +kernel
theorem dX1_cornerJ_40 : decode cX1_cornerJ 40 = .ok (.ireturn, 1) := by decide +kernel
theorem dX1_cornerLabel_0 : decode cX1_cornerLabel 0 = .ok (.aload_n 0, 1) := by decide +kernel
theorem dX1_cornerLabel_1 : decode cX1_cornerLabel 1 = .ok (.iload_n 1, 1) := by decide +kernel
theorem dX1_cornerLabel_2 : decode cX1_cornerLabel 2 = .ok (.invokevirtual 75, 3) := by decide +kernel
theorem dX1_cornerLabel_5 : decode cX1_cornerLabel 5 = .ok (.istore_n 3, 1) := by decide +kernel
theorem dX1_cornerLabel_6 : decode cX1_cornerLabel 6 = .ok (.aload_n 0, 1) := by decide +kernel
theorem dX1_cornerLabel_7 : decode cX1_cornerLabel 7 = .ok (.iload_n 3, 1) := by decide +kernel
theorem dX1_cornerLabel_8 : decode cX1_cornerLabel 8 = .ok (.aload_n 0, 1) := by decide +kernel
theorem dX1_cornerLabel_9 : decode cX1_cornerLabel 9 = .ok (.iload_n 1, 1) := by decide +kernel
theorem dX1_cornerLabel_10 : decode cX1_cornerLabel 10 = .ok (.invokevirtual 78, 3) := by decide +kernel
theorem dX1_cornerLabel_13 : decode cX1_cornerLabel 13 = .ok (.invokevirtual 45, 3) := by decide +kernel
theorem dX1_cornerLabel_16 : decode cX1_cornerLabel 16 = .ok (.istore 4, 2) := by decide +kernel
theorem dX1_cornerLabel_18 : decode cX1_cornerLabel 18 = .ok (.aload_n 0, 1) := by decide +kernel
theorem dX1_cornerLabel_19 : decode cX1_cornerLabel 19 = .ok (.iload_n 3, 1) := by decide +kernel
theorem dX1_cornerLabel_20 : decode cX1_cornerLabel 20 = .ok (.iload 4, 2) := by decide +kernel
theorem dX1_cornerLabel_22 : decode cX1_cornerLabel 22 = .ok (.invokevirtual 87, 3) := by decide +kernel
theorem dX1_cornerLabel_25 : decode cX1_cornerLabel 25 = .ok (.istore 5, 2) := by decide +kernel
theorem dX1_cornerLabel_27 : decode cX1_cornerLabel 27 = .ok (.iload_n 1, 1) := by decide +kernel
theorem dX1_cornerLabel_28 : decode cX1_cornerLabel 28 = .ok (.iconst 1, 1) := by decide +kernel
theorem dX1_cornerLabel_29 : decode cX1_cornerLabel 29 = .ok (.iand, 1) := by decide +kernel
theorem dX1_cornerLabel_30 : decode cX1_cornerLabel 30 = .ok (.ifCond .ne 7, 3) := by decide +kernel
theorem dX1_cornerLabel_33 : decode cX1_cornerLabel 33 = .ok (.iconst 1, 1) := by decide +kernel
theorem dX1_cornerLabel_34 : decode cX1_cornerLabel 34 = .ok (.goto 4, 3) := by decide +kernel
theorem dX1_cornerLabel_37 : decode cX1_cornerLabel 37 = .ok (.iconst 0, 1) := by decide +kernel
theorem dX1_cornerLabel_38 : decode cX1_cornerLabel 38 = .ok (.istore 6, 2) := by decide +kernel
theorem dX1_cornerLabel_40 : decode cX1_cornerLabel 40 = .ok (.iload_n 2, 1) := by decide +kernel
theorem dX1_cornerLabel_41 : decode cX1_cornerLabel 41 = .ok (.ifCond .ne 22, 3) := by decide +kernel
theorem dX1_cornerLabel_44 : decode cX1_cornerLabel 44 = .ok (.aload_n 0, 1) := by decide +kernel
theorem dX1_cornerLabel_45 : decode cX1_cornerLabel 45 = .ok (.iload 6, 2) := by decide +kernel
theorem dX1_cornerLabel_47 : decode cX1_cornerLabel 47 = .ok (.ifCond .eq 8, 3) := by decide +kernel
theorem dX1_cornerLabel_50 : decode cX1_cornerLabel 50 = .ok (.iload 4, 2) := by decide +kernel
theorem dX1_cornerLabel_52 : decode cX1_cornerLabel 52 = .ok (.goto 7, 3) := by decide +kernel
theorem dX1_cornerLabel_55 : decode cX1_cornerLabel 55 = .ok (.iload 5, 2) := by decide +kernel
theorem dX1_cornerLabel_57 : decode cX1_cornerLabel 57 = .ok (.iconst 1, 1) := by decide +kernel
theorem dX1_cornerLabel_58 : decode cX1_cornerLabel 58 = .ok (.iadd, 1) := by decide +kernel
theorem dX1_cornerLabel_59 : decode cX1_cornerLabel 59 = .ok (.invokevirtual 57, 3) := by decide +kernel
theorem dX1_cornerLabel_62 : decode cX1_cornerLabel 62 = .ok (.ireturn, 1) := by decide +kernel
theorem dX1_cornerLabel_63 : decode cX1_cornerLabel 63 = .ok (.iload_n 2, 1) := by decide +kernel
theorem dX1_cornerLabel_64 : decode cX1_cornerLabel 64 = .ok (.iconst 1, 1) := by decide +kernel
theorem dX1_cornerLabel_65 : decode cX1_cornerLabel 65 = .ok (.if_icmp .ne 22, 3) := by decide +kernel
theorem dX1_cornerLabel_68 : decode cX1_cornerLabel 68 = .ok (.aload_n 0, 1) := by decide +kernel
theorem dX1_cornerLabel_69 : decode cX1_cornerLabel 69 = .ok (.iload 6, 2) := by decide +kernel
theorem dX1_cornerLabel_71 : decode cX1_cornerLabel 71 = .ok (.ifCond .eq 8, 3) := by decide +kernel
theorem dX1_cornerLabel_74 : decode cX1_cornerLabel 74 = .ok (.iload 5, 2) := by decide +kernel
theorem dX1_cornerLabel_76 : decode cX1_cornerLabel 76 = .ok (.goto 7, 3) := by decide +kernel
theorem dX1_cornerLabel_79 : decode cX1_cornerLabel 79 = .ok (.iload 4, 2) := by decide +kernel
theorem dX1_cornerLabel_81 : decode cX1_cornerLabel 81 = .ok (.iconst 1, 1) := by decide +kernel
theorem dX1_cornerLabel_82 : decode cX1_cornerLabel 82 = .ok (.iadd, 1) := by decide +kernel
theorem dX1_cornerLabel_83 : decode cX1_cornerLabel 83 = .ok (.invokevirtual 57, 3) := by decide +kernel
theorem dX1_cornerLabel_86 : decode cX1_cornerLabel 86 = .ok (.ireturn, 1) := by decide +kernel
theorem dX1_cornerLabel_87 : decode cX1_cornerLabel 87 = .ok (.aload_n 0, 1) := by decide +kernel
theorem dX1_cornerLabel_88 : decode cX1_cornerLabel 88 = .ok (.iload 6, 2) := by decide +kernel
theorem dX1_cornerLabel_90 : decode cX1_cornerLabel 90 = .ok (.ifCond .eq 10, 3) := by decide +kernel
theorem dX1_cornerLabel_93 : decode cX1_cornerLabel 93 = .ok (.iload 4, 2) := by decide +kernel
theorem dX1_cornerLabel_95 : decode cX1_cornerLabel 95 = .ok (.iconst 1, 1) := by decide +kernel
theorem dX1_cornerLabel_96 : decode cX1_cornerLabel 96 = .ok (.iadd, 1) := by decide +kernel
theorem dX1_cornerLabel_97 : decode cX1_cornerLabel 97 = .ok (.goto 5, 3) := by decide +kernel
theorem dX1_cornerLabel_100 : decode cX1_cornerLabel 100 = .ok (.iload 5, 2) := by decide +kernel
theorem dX1_cornerLabel_102 : decode cX1_cornerLabel 102 = .ok (.invokevirtual 57, 3) := by decide +kernel
theorem dX1_cornerLabel_105 : decode cX1_cornerLabel 105 = .ok (.ireturn, 1) := by decide +kernel
theorem dX1_labelSet_0 : decode cX1_labelSet 0 = .ok (.iconst 1, 1) := by decide +kernel
theorem dX1_labelSet_1 : decode cX1_labelSet 1 = .ok (.aload_n 0, 1) := by decide +kernel
theorem dX1_labelSet_2 : decode cX1_labelSet 2 = .ok (.iload_n 1, 1) := by decide +kernel
theorem dX1_labelSet_3 : decode cX1_labelSet 3 = .ok (.iconst 0, 1) := by decide +kernel
theorem dX1_labelSet_4 : decode cX1_labelSet 4 = .ok (.invokevirtual 90, 3) := by decide +kernel
theorem dX1_labelSet_7 : decode cX1_labelSet 7 = .ok (.ishl, 1) := by decide +kernel
theorem dX1_labelSet_8 : decode cX1_labelSet 8 = .ok (.iconst 1, 1) := by decide +kernel
theorem dX1_labelSet_9 : decode cX1_labelSet 9 = .ok (.aload_n 0, 1) := by decide +kernel
theorem dX1_labelSet_10 : decode cX1_labelSet 10 = .ok (.iload_n 1, 1) := by decide +kernel
theorem dX1_labelSet_11 : decode cX1_labelSet 11 = .ok (.iconst 1, 1) := by decide +kernel
theorem dX1_labelSet_12 : decode cX1_labelSet 12 = .ok (.invokevirtual 90, 3) := by decide +kernel
theorem dX1_labelSet_15 : decode cX1_labelSet 15 = .ok (.ishl, 1) := by decide +kernel
theorem dX1_labelSet_16 : decode cX1_labelSet 16 = .ok (.ior, 1) := by decide +kernel
theorem dX1_labelSet_17 : decode cX1_labelSet 17 = .ok (.iconst 1, 1) := by decide +kernel
theorem dX1_labelSet_18 : decode cX1_labelSet 18 = .ok (.aload_n 0, 1) := by decide +kernel
theorem dX1_labelSet_19 : decode cX1_labelSet 19 = .ok (.iload_n 1, 1) := by decide +kernel
theorem dX1_labelSet_20 : decode cX1_labelSet 20 = .ok (.iconst 2, 1) := by decide +kernel
theorem dX1_labelSet_21 : decode cX1_labelSet 21 = .ok (.invokevirtual 90, 3) := by decide +kernel
theorem dX1_labelSet_24 : decode cX1_labelSet 24 = .ok (.ishl, 1) := by decide +kernel
theorem dX1_labelSet_25 : decode cX1_labelSet 25 = .ok (.ior, 1) := by decide +kernel
theorem dX1_labelSet_26 : decode cX1_labelSet 26 = .ok (.ireturn, 1) := by decide +kernel
theorem dX1_turn_0 : decode cX1_turn 0 = .ok (.aload_n 0, 1) := by decide +kernel
theorem dX1_turn_1 : decode cX1_turn 1 = .ok (.iload_n 1, 1) := by decide +kernel
theorem dX1_turn_2 : decode cX1_turn 2 = .ok (.invokevirtual 93, 3) := by decide +kernel
theorem dX1_turn_5 : decode cX1_turn 5 = .ok (.ifCond .eq 23, 3) := by decide +kernel
theorem dX1_turn_8 : decode cX1_turn 8 = .ok (.aload_n 0, 1) := by decide +kernel
theorem dX1_turn_9 : decode cX1_turn 9 = .ok (.aload_n 0, 1) := by decide +kernel
theorem dX1_turn_10 : decode cX1_turn 10 = .ok (.iload_n 1, 1) := by decide +kernel
theorem dX1_turn_11 : decode cX1_turn 11 = .ok (.invokevirtual 75, 3) := by decide +kernel
theorem dX1_turn_14 : decode cX1_turn 14 = .ok (.aload_n 0, 1) := by decide +kernel
theorem dX1_turn_15 : decode cX1_turn 15 = .ok (.iload_n 1, 1) := by decide +kernel
theorem dX1_turn_16 : decode cX1_turn 16 = .ok (.invokevirtual 78, 3) := by decide +kernel
theorem dX1_turn_19 : decode cX1_turn 19 = .ok (.iload_n 1, 1) := by decide +kernel
theorem dX1_turn_20 : decode cX1_turn 20 = .ok (.iconst 1, 1) := by decide +kernel
theorem dX1_turn_21 : decode cX1_turn 21 = .ok (.iand, 1) := by decide +kernel
theorem dX1_turn_22 : decode cX1_turn 22 = .ok (.invokevirtual 96, 3) := by decide +kernel
theorem dX1_turn_25 : decode cX1_turn 25 = .ok (.goto 4, 3) := by decide +kernel
theorem dX1_turn_28 : decode cX1_turn 28 = .ok (.iconst 0, 1) := by decide +kernel
theorem dX1_turn_29 : decode cX1_turn 29 = .ok (.ireturn, 1) := by decide +kernel
theorem dX1_turnAt_0 : decode cX1_turnAt 0 = .ok (.iload_n 1, 1) := by decide +kernel
theorem dX1_turnAt_1 : decode cX1_turnAt 1 = .ok (.ifCond .lt 19, 3) := by decide +kernel
theorem dX1_turnAt_4 : decode cX1_turnAt 4 = .ok (.iload_n 2, 1) := by decide +kernel
theorem dX1_turnAt_5 : decode cX1_turnAt 5 = .ok (.ifCond .lt 15, 3) := by decide +kernel
theorem dX1_turnAt_8 : decode cX1_turnAt 8 = .ok (.iload_n 1, 1) := by decide +kernel
theorem dX1_turnAt_9 : decode cX1_turnAt 9 = .ok (.iload_n 2, 1) := by decide +kernel
theorem dX1_turnAt_10 : decode cX1_turnAt 10 = .ok (.iadd, 1) := by decide +kernel
theorem dX1_turnAt_11 : decode cX1_turnAt 11 = .ok (.iload_n 3, 1) := by decide +kernel
theorem dX1_turnAt_12 : decode cX1_turnAt 12 = .ok (.iadd, 1) := by decide +kernel
theorem dX1_turnAt_13 : decode cX1_turnAt 13 = .ok (.aload_n 0, 1) := by decide +kernel
theorem dX1_turnAt_14 : decode cX1_turnAt 14 = .ok (.getfield 15, 3) := by decide +kernel
theorem dX1_turnAt_17 : decode cX1_turnAt 17 = .ok (.if_icmp .lt 5, 3) := by decide +kernel
theorem dX1_turnAt_20 : decode cX1_turnAt 20 = .ok (.iconst 0, 1) := by decide +kernel
theorem dX1_turnAt_21 : decode cX1_turnAt 21 = .ok (.ireturn, 1) := by decide +kernel
theorem dX1_turnAt_22 : decode cX1_turnAt 22 = .ok (.aload_n 0, 1) := by decide +kernel
theorem dX1_turnAt_23 : decode cX1_turnAt 23 = .ok (.iload_n 1, 1) := by decide +kernel
theorem dX1_turnAt_24 : decode cX1_turnAt 24 = .ok (.iload_n 2, 1) := by decide +kernel
theorem dX1_turnAt_25 : decode cX1_turnAt 25 = .ok (.invokevirtual 45, 3) := by decide +kernel
theorem dX1_turnAt_28 : decode cX1_turnAt 28 = .ok (.istore 4, 2) := by decide +kernel
theorem dX1_turnAt_30 : decode cX1_turnAt 30 = .ok (.aload_n 0, 1) := by decide +kernel
theorem dX1_turnAt_31 : decode cX1_turnAt 31 = .ok (.iload_n 1, 1) := by decide +kernel
theorem dX1_turnAt_32 : decode cX1_turnAt 32 = .ok (.iload 4, 2) := by decide +kernel
theorem dX1_turnAt_34 : decode cX1_turnAt 34 = .ok (.invokevirtual 87, 3) := by decide +kernel
theorem dX1_turnAt_37 : decode cX1_turnAt 37 = .ok (.istore 5, 2) := by decide +kernel
theorem dX1_turnAt_39 : decode cX1_turnAt 39 = .ok (.iload_n 3, 1) := by decide +kernel
theorem dX1_turnAt_40 : decode cX1_turnAt 40 = .ok (.ifCond .ne 27, 3) := by decide +kernel
theorem dX1_turnAt_43 : decode cX1_turnAt 43 = .ok (.aload_n 0, 1) := by decide +kernel
theorem dX1_turnAt_44 : decode cX1_turnAt 44 = .ok (.iload 4, 2) := by decide +kernel
theorem dX1_turnAt_46 : decode cX1_turnAt 46 = .ok (.invokevirtual 57, 3) := by decide +kernel
theorem dX1_turnAt_49 : decode cX1_turnAt 49 = .ok (.aload_n 0, 1) := by decide +kernel
theorem dX1_turnAt_50 : decode cX1_turnAt 50 = .ok (.iload 5, 2) := by decide +kernel
theorem dX1_turnAt_52 : decode cX1_turnAt 52 = .ok (.invokevirtual 57, 3) := by decide +kernel
theorem dX1_turnAt_55 : decode cX1_turnAt 55 = .ok (.aload_n 0, 1) := by decide +kernel
theorem dX1_turnAt_56 : decode cX1_turnAt 56 = .ok (.iload 4, 2) := by decide +kernel
theorem dX1_turnAt_58 : decode cX1_turnAt 58 = .ok (.iconst 1, 1) := by decide +kernel
theorem dX1_turnAt_59 : decode cX1_turnAt 59 = .ok (.iadd, 1) := by decide +kernel
theorem dX1_turnAt_60 : decode cX1_turnAt 60 = .ok (.invokevirtual 57, 3) := by decide +kernel
theorem dX1_turnAt_63 : decode cX1_turnAt 63 = .ok (.invokestatic 99, 3) := by decide +kernel
theorem dX1_turnAt_66 : decode cX1_turnAt 66 = .ok (.ireturn, 1) := by decide +kernel
theorem dX1_turnAt_67 : decode cX1_turnAt 67 = .ok (.aload_n 0, 1) := by decide +kernel
theorem dX1_turnAt_68 : decode cX1_turnAt 68 = .ok (.iload 5, 2) := by decide +kernel
theorem dX1_turnAt_70 : decode cX1_turnAt 70 = .ok (.iconst 1, 1) := by decide +kernel
theorem dX1_turnAt_71 : decode cX1_turnAt 71 = .ok (.iadd, 1) := by decide +kernel
theorem dX1_turnAt_72 : decode cX1_turnAt 72 = .ok (.invokevirtual 57, 3) := by decide +kernel
theorem dX1_turnAt_75 : decode cX1_turnAt 75 = .ok (.aload_n 0, 1) := by decide +kernel
theorem dX1_turnAt_76 : decode cX1_turnAt 76 = .ok (.iload 4, 2) := by decide +kernel
theorem dX1_turnAt_78 : decode cX1_turnAt 78 = .ok (.iconst 1, 1) := by decide +kernel
theorem dX1_turnAt_79 : decode cX1_turnAt 79 = .ok (.iadd, 1) := by decide +kernel
theorem dX1_turnAt_80 : decode cX1_turnAt 80 = .ok (.invokevirtual 57, 3) := by decide +kernel
theorem dX1_turnAt_83 : decode cX1_turnAt 83 = .ok (.aload_n 0, 1) := by decide +kernel
theorem dX1_turnAt_84 : decode cX1_turnAt 84 = .ok (.iload 5, 2) := by decide +kernel
theorem dX1_turnAt_86 : decode cX1_turnAt 86 = .ok (.invokevirtual 57, 3) := by decide +kernel
theorem dX1_turnAt_89 : decode cX1_turnAt 89 = .ok (.invokestatic 99, 3) := by decide +kernel
theorem dX1_turnAt_92 : decode cX1_turnAt 92 = .ok (.ireturn, 1) := by decide +kernel
theorem dX1_turnOf_0 : decode cX1_turnOf 0 = .ok (.iload_n 0, 1) := by decide +kernel
theorem dX1_turnOf_1 : decode cX1_turnOf 1 = .ok (.iload_n 1, 1) := by decide +kernel
theorem dX1_turnOf_2 : decode cX1_turnOf 2 = .ok (.if_icmp .eq 13, 3) := by decide +kernel
theorem dX1_turnOf_5 : decode cX1_turnOf 5 = .ok (.iload_n 1, 1) := by decide +kernel
theorem dX1_turnOf_6 : decode cX1_turnOf 6 = .ok (.iload_n 2, 1) := by decide +kernel
theorem dX1_turnOf_7 : decode cX1_turnOf 7 = .ok (.if_icmp .eq 8, 3) := by decide +kernel
theorem dX1_turnOf_10 : decode cX1_turnOf 10 = .ok (.iload_n 0, 1) := by decide +kernel
theorem dX1_turnOf_11 : decode cX1_turnOf 11 = .ok (.iload_n 2, 1) := by decide +kernel
theorem dX1_turnOf_12 : decode cX1_turnOf 12 = .ok (.if_icmp .ne 5, 3) := by decide +kernel
theorem dX1_turnOf_15 : decode cX1_turnOf 15 = .ok (.iconst 0, 1) := by decide +kernel
theorem dX1_turnOf_16 : decode cX1_turnOf 16 = .ok (.ireturn, 1) := by decide +kernel
theorem dX1_turnOf_17 : decode cX1_turnOf 17 = .ok (.iload_n 1, 1) := by decide +kernel
theorem dX1_turnOf_18 : decode cX1_turnOf 18 = .ok (.iload_n 0, 1) := by decide +kernel
theorem dX1_turnOf_19 : decode cX1_turnOf 19 = .ok (.iconst 1, 1) := by decide +kernel
theorem dX1_turnOf_20 : decode cX1_turnOf 20 = .ok (.iadd, 1) := by decide +kernel
theorem dX1_turnOf_21 : decode cX1_turnOf 21 = .ok (.iconst 3, 1) := by decide +kernel
theorem dX1_turnOf_22 : decode cX1_turnOf 22 = .ok (.irem, 1) := by decide +kernel
theorem dX1_turnOf_23 : decode cX1_turnOf 23 = .ok (.if_icmp .ne 7, 3) := by decide +kernel
theorem dX1_turnOf_26 : decode cX1_turnOf 26 = .ok (.iconst 1, 1) := by decide +kernel
theorem dX1_turnOf_27 : decode cX1_turnOf 27 = .ok (.goto 4, 3) := by decide +kernel
theorem dX1_turnOf_30 : decode cX1_turnOf 30 = .ok (.iconst (-1), 1) := by decide +kernel
theorem dX1_turnOf_31 : decode cX1_turnOf 31 = .ok (.ireturn, 1) := by decide +kernel
theorem dX1_survey_0 : decode cX1_survey 0 = .ok (.aload_n 0, 1) := by decide +kernel
theorem dX1_survey_1 : decode cX1_survey 1 = .ok (.iconst 0, 1) := by decide +kernel
theorem dX1_survey_2 : decode cX1_survey 2 = .ok (.putfield 19, 3) := by decide +kernel
theorem dX1_survey_5 : decode cX1_survey 5 = .ok (.aload_n 0, 1) := by decide +kernel
theorem dX1_survey_6 : decode cX1_survey 6 = .ok (.iconst 0, 1) := by decide +kernel
theorem dX1_survey_7 : decode cX1_survey 7 = .ok (.putfield 22, 3) := by decide +kernel
theorem dX1_survey_10 : decode cX1_survey 10 = .ok (.aload_n 0, 1) := by decide +kernel
theorem dX1_survey_11 : decode cX1_survey 11 = .ok (.iconst (-1), 1) := by decide +kernel
theorem dX1_survey_12 : decode cX1_survey 12 = .ok (.putfield 25, 3) := by decide +kernel
theorem dX1_survey_15 : decode cX1_survey 15 = .ok (.aload_n 0, 1) := by decide +kernel
theorem dX1_survey_16 : decode cX1_survey 16 = .ok (.iconst (-1), 1) := by decide +kernel
theorem dX1_survey_17 : decode cX1_survey 17 = .ok (.putfield 28, 3) := by decide +kernel
theorem dX1_survey_20 : decode cX1_survey 20 = .ok (.iconst 0, 1) := by decide +kernel
theorem dX1_survey_21 : decode cX1_survey 21 = .ok (.istore_n 1, 1) := by decide +kernel
theorem dX1_survey_22 : decode cX1_survey 22 = .ok (.iload_n 1, 1) := by decide +kernel
theorem dX1_survey_23 : decode cX1_survey 23 = .ok (.aload_n 0, 1) := by decide +kernel
theorem dX1_survey_24 : decode cX1_survey 24 = .ok (.getfield 15, 3) := by decide +kernel
theorem dX1_survey_27 : decode cX1_survey 27 = .ok (.if_icmp .ge 71, 3) := by decide +kernel
theorem dX1_survey_30 : decode cX1_survey 30 = .ok (.iconst 0, 1) := by decide +kernel
theorem dX1_survey_31 : decode cX1_survey 31 = .ok (.istore_n 2, 1) := by decide +kernel
theorem dX1_survey_32 : decode cX1_survey 32 = .ok (.iload_n 2, 1) := by decide +kernel
theorem dX1_survey_33 : decode cX1_survey 33 = .ok (.aload_n 0, 1) := by decide +kernel
theorem dX1_survey_34 : decode cX1_survey 34 = .ok (.getfield 15, 3) := by decide +kernel
theorem dX1_survey_37 : decode cX1_survey 37 = .ok (.iload_n 1, 1) := by decide +kernel
theorem dX1_survey_38 : decode cX1_survey 38 = .ok (.isub, 1) := by decide +kernel
theorem dX1_survey_39 : decode cX1_survey 39 = .ok (.if_icmp .ge 53, 3) := by decide +kernel
theorem dX1_survey_42 : decode cX1_survey 42 = .ok (.aload_n 0, 1) := by decide +kernel
theorem dX1_survey_43 : decode cX1_survey 43 = .ok (.iconst 2, 1) := by decide +kernel
theorem dX1_survey_44 : decode cX1_survey 44 = .ok (.aload_n 0, 1) := by decide +kernel
theorem dX1_survey_45 : decode cX1_survey 45 = .ok (.getfield 15, 3) := by decide +kernel
theorem dX1_survey_48 : decode cX1_survey 48 = .ok (.iload_n 1, 1) := by decide +kernel
theorem dX1_survey_49 : decode cX1_survey 49 = .ok (.imul, 1) := by decide +kernel
theorem dX1_survey_50 : decode cX1_survey 50 = .ok (.iload_n 2, 1) := by decide +kernel
theorem dX1_survey_51 : decode cX1_survey 51 = .ok (.iadd, 1) := by decide +kernel
theorem dX1_survey_52 : decode cX1_survey 52 = .ok (.imul, 1) := by decide +kernel
theorem dX1_survey_53 : decode cX1_survey 53 = .ok (.aload_n 0, 1) := by decide +kernel
theorem dX1_survey_54 : decode cX1_survey 54 = .ok (.iload_n 1, 1) := by decide +kernel
theorem dX1_survey_55 : decode cX1_survey 55 = .ok (.iload_n 2, 1) := by decide +kernel
theorem dX1_survey_56 : decode cX1_survey 56 = .ok (.iconst 0, 1) := by decide +kernel
theorem dX1_survey_57 : decode cX1_survey 57 = .ok (.invokevirtual 96, 3) := by decide +kernel
theorem dX1_survey_60 : decode cX1_survey 60 = .ok (.invokevirtual 102, 3) := by decide +kernel
theorem dX1_survey_63 : decode cX1_survey 63 = .ok (.aload_n 0, 1) := by decide +kernel
theorem dX1_survey_64 : decode cX1_survey 64 = .ok (.iconst 2, 1) := by decide +kernel
theorem dX1_survey_65 : decode cX1_survey 65 = .ok (.aload_n 0, 1) := by decide +kernel
theorem dX1_survey_66 : decode cX1_survey 66 = .ok (.getfield 15, 3) := by decide +kernel
theorem dX1_survey_69 : decode cX1_survey 69 = .ok (.iload_n 1, 1) := by decide +kernel
theorem dX1_survey_70 : decode cX1_survey 70 = .ok (.imul, 1) := by decide +kernel
theorem dX1_survey_71 : decode cX1_survey 71 = .ok (.iload_n 2, 1) := by decide +kernel
theorem dX1_survey_72 : decode cX1_survey 72 = .ok (.iadd, 1) := by decide +kernel
theorem dX1_survey_73 : decode cX1_survey 73 = .ok (.imul, 1) := by decide +kernel
theorem dX1_survey_74 : decode cX1_survey 74 = .ok (.iconst 1, 1) := by decide +kernel
theorem dX1_survey_75 : decode cX1_survey 75 = .ok (.iadd, 1) := by decide +kernel
theorem dX1_survey_76 : decode cX1_survey 76 = .ok (.aload_n 0, 1) := by decide +kernel
theorem dX1_survey_77 : decode cX1_survey 77 = .ok (.iload_n 1, 1) := by decide +kernel
theorem dX1_survey_78 : decode cX1_survey 78 = .ok (.iload_n 2, 1) := by decide +kernel
theorem dX1_survey_79 : decode cX1_survey 79 = .ok (.iconst 1, 1) := by decide +kernel
theorem dX1_survey_80 : decode cX1_survey 80 = .ok (.invokevirtual 96, 3) := by decide +kernel
theorem dX1_survey_83 : decode cX1_survey 83 = .ok (.invokevirtual 102, 3) := by decide +kernel
theorem dX1_survey_86 : decode cX1_survey 86 = .ok (.iinc 2 1, 3) := by decide +kernel
theorem dX1_survey_89 : decode cX1_survey 89 = .ok (.goto (-57), 3) := by decide +kernel
theorem dX1_survey_92 : decode cX1_survey 92 = .ok (.iinc 1 1, 3) := by decide +kernel
theorem dX1_survey_95 : decode cX1_survey 95 = .ok (.goto (-73), 3) := by decide +kernel
theorem dX1_survey_98 : decode cX1_survey 98 = .ok (.return_, 1) := by decide +kernel
theorem dX1_take_0 : decode cX1_take 0 = .ok (.iload_n 2, 1) := by decide +kernel
theorem dX1_take_1 : decode cX1_take 1 = .ok (.ifCond .eq 48, 3) := by decide +kernel
theorem dX1_take_4 : decode cX1_take 4 = .ok (.aload_n 0, 1) := by decide +kernel
theorem dX1_take_5 : decode cX1_take 5 = .ok (.dup, 1) := by decide +kernel
theorem dX1_take_6 : decode cX1_take 6 = .ok (.getfield 19, 3) := by decide +kernel
theorem dX1_take_9 : decode cX1_take 9 = .ok (.iconst 1, 1) := by decide +kernel
theorem dX1_take_10 : decode cX1_take 10 = .ok (.iadd, 1) := by decide +kernel
theorem dX1_take_11 : decode cX1_take 11 = .ok (.putfield 19, 3) := by decide +kernel
theorem dX1_take_14 : decode cX1_take 14 = .ok (.aload_n 0, 1) := by decide +kernel
theorem dX1_take_15 : decode cX1_take 15 = .ok (.dup, 1) := by decide +kernel
theorem dX1_take_16 : decode cX1_take 16 = .ok (.getfield 22, 3) := by decide +kernel
theorem dX1_take_19 : decode cX1_take 19 = .ok (.iload_n 2, 1) := by decide +kernel
theorem dX1_take_20 : decode cX1_take 20 = .ok (.iadd, 1) := by decide +kernel
theorem dX1_take_21 : decode cX1_take 21 = .ok (.putfield 22, 3) := by decide +kernel
theorem dX1_take_24 : decode cX1_take 24 = .ok (.aload_n 0, 1) := by decide +kernel
theorem dX1_take_25 : decode cX1_take 25 = .ok (.aload_n 0, 1) := by decide +kernel
theorem dX1_take_26 : decode cX1_take 26 = .ok (.getfield 25, 3) := by decide +kernel
theorem dX1_take_29 : decode cX1_take 29 = .ok (.iconst (-1), 1) := by decide +kernel
theorem dX1_take_30 : decode cX1_take 30 = .ok (.if_icmp .ne 7, 3) := by decide +kernel
theorem dX1_take_33 : decode cX1_take 33 = .ok (.iload_n 1, 1) := by decide +kernel
theorem dX1_take_34 : decode cX1_take 34 = .ok (.goto 7, 3) := by decide +kernel
theorem dX1_take_37 : decode cX1_take 37 = .ok (.aload_n 0, 1) := by decide +kernel
theorem dX1_take_38 : decode cX1_take 38 = .ok (.getfield 25, 3) := by decide +kernel
theorem dX1_take_41 : decode cX1_take 41 = .ok (.putfield 25, 3) := by decide +kernel
theorem dX1_take_44 : decode cX1_take 44 = .ok (.aload_n 0, 1) := by decide +kernel
theorem dX1_take_45 : decode cX1_take 45 = .ok (.iload_n 1, 1) := by decide +kernel
theorem dX1_take_46 : decode cX1_take 46 = .ok (.putfield 28, 3) := by decide +kernel
theorem dX1_take_49 : decode cX1_take 49 = .ok (.return_, 1) := by decide +kernel
theorem dX1_fullCells_0 : decode cX1_fullCells 0 = .ok (.aload_n 0, 1) := by decide +kernel
theorem dX1_fullCells_1 : decode cX1_fullCells 1 = .ok (.invokevirtual 105, 3) := by decide +kernel
theorem dX1_fullCells_4 : decode cX1_fullCells 4 = .ok (.aload_n 0, 1) := by decide +kernel
theorem dX1_fullCells_5 : decode cX1_fullCells 5 = .ok (.getfield 19, 3) := by decide +kernel
theorem dX1_fullCells_8 : decode cX1_fullCells 8 = .ok (.ireturn, 1) := by decide +kernel
theorem dX1_nthFull_0 : decode cX1_nthFull 0 = .ok (.iconst 0, 1) := by decide +kernel
theorem dX1_nthFull_1 : decode cX1_nthFull 1 = .ok (.istore_n 2, 1) := by decide +kernel
theorem dX1_nthFull_2 : decode cX1_nthFull 2 = .ok (.iconst 0, 1) := by decide +kernel
theorem dX1_nthFull_3 : decode cX1_nthFull 3 = .ok (.istore_n 3, 1) := by decide +kernel
theorem dX1_nthFull_4 : decode cX1_nthFull 4 = .ok (.iload_n 3, 1) := by decide +kernel
theorem dX1_nthFull_5 : decode cX1_nthFull 5 = .ok (.aload_n 0, 1) := by decide +kernel
theorem dX1_nthFull_6 : decode cX1_nthFull 6 = .ok (.invokevirtual 108, 3) := by decide +kernel
theorem dX1_nthFull_9 : decode cX1_nthFull 9 = .ok (.if_icmp .ge 27, 3) := by decide +kernel
theorem dX1_nthFull_12 : decode cX1_nthFull 12 = .ok (.aload_n 0, 1) := by decide +kernel
theorem dX1_nthFull_13 : decode cX1_nthFull 13 = .ok (.iload_n 3, 1) := by decide +kernel
theorem dX1_nthFull_14 : decode cX1_nthFull 14 = .ok (.invokevirtual 112, 3) := by decide +kernel
theorem dX1_nthFull_17 : decode cX1_nthFull 17 = .ok (.ifCond .eq 13, 3) := by decide +kernel
theorem dX1_nthFull_20 : decode cX1_nthFull 20 = .ok (.iload_n 2, 1) := by decide +kernel
theorem dX1_nthFull_21 : decode cX1_nthFull 21 = .ok (.iload_n 1, 1) := by decide +kernel
theorem dX1_nthFull_22 : decode cX1_nthFull 22 = .ok (.if_icmp .ne 5, 3) := by decide +kernel
theorem dX1_nthFull_25 : decode cX1_nthFull 25 = .ok (.iload_n 3, 1) := by decide +kernel
theorem dX1_nthFull_26 : decode cX1_nthFull 26 = .ok (.ireturn, 1) := by decide +kernel
theorem dX1_nthFull_27 : decode cX1_nthFull 27 = .ok (.iinc 2 1, 3) := by decide +kernel
theorem dX1_nthFull_30 : decode cX1_nthFull 30 = .ok (.iinc 3 1, 3) := by decide +kernel
theorem dX1_nthFull_33 : decode cX1_nthFull 33 = .ok (.goto (-29), 3) := by decide +kernel
theorem dX1_nthFull_36 : decode cX1_nthFull 36 = .ok (.iconst (-1), 1) := by decide +kernel
theorem dX1_nthFull_37 : decode cX1_nthFull 37 = .ok (.ireturn, 1) := by decide +kernel
theorem dX1_isApart_0 : decode cX1_isApart 0 = .ok (.iconst 0, 1) := by decide +kernel
theorem dX1_isApart_1 : decode cX1_isApart 1 = .ok (.istore_n 2, 1) := by decide +kernel
theorem dX1_isApart_2 : decode cX1_isApart 2 = .ok (.iload_n 2, 1) := by decide +kernel
theorem dX1_isApart_3 : decode cX1_isApart 3 = .ok (.iconst 3, 1) := by decide +kernel
theorem dX1_isApart_4 : decode cX1_isApart 4 = .ok (.if_icmp .ge 30, 3) := by decide +kernel
theorem dX1_isApart_7 : decode cX1_isApart 7 = .ok (.aload_n 0, 1) := by decide +kernel
theorem dX1_isApart_8 : decode cX1_isApart 8 = .ok (.aload_n 0, 1) := by decide +kernel
theorem dX1_isApart_9 : decode cX1_isApart 9 = .ok (.iload_n 1, 1) := by decide +kernel
theorem dX1_isApart_10 : decode cX1_isApart 10 = .ok (.iload_n 2, 1) := by decide +kernel
theorem dX1_isApart_11 : decode cX1_isApart 11 = .ok (.invokevirtual 115, 3) := by decide +kernel
theorem dX1_isApart_14 : decode cX1_isApart 14 = .ok (.aload_n 0, 1) := by decide +kernel
theorem dX1_isApart_15 : decode cX1_isApart 15 = .ok (.iload_n 1, 1) := by decide +kernel
theorem dX1_isApart_16 : decode cX1_isApart 16 = .ok (.iload_n 2, 1) := by decide +kernel
theorem dX1_isApart_17 : decode cX1_isApart 17 = .ok (.invokevirtual 118, 3) := by decide +kernel
theorem dX1_isApart_20 : decode cX1_isApart 20 = .ok (.invokevirtual 121, 3) := by decide +kernel
theorem dX1_isApart_23 : decode cX1_isApart 23 = .ok (.ifCond .eq 5, 3) := by decide +kernel
theorem dX1_isApart_26 : decode cX1_isApart 26 = .ok (.iconst 0, 1) := by decide +kernel
theorem dX1_isApart_27 : decode cX1_isApart 27 = .ok (.ireturn, 1) := by decide +kernel
theorem dX1_isApart_28 : decode cX1_isApart 28 = .ok (.iinc 2 1, 3) := by decide +kernel
theorem dX1_isApart_31 : decode cX1_isApart 31 = .ok (.goto (-29), 3) := by decide +kernel
theorem dX1_isApart_34 : decode cX1_isApart 34 = .ok (.iconst 1, 1) := by decide +kernel
theorem dX1_isApart_35 : decode cX1_isApart 35 = .ok (.ireturn, 1) := by decide +kernel
theorem dX1_gain_0 : decode cX1_gain 0 = .ok (.aload_n 0, 1) := by decide +kernel
theorem dX1_gain_1 : decode cX1_gain 1 = .ok (.iload_n 1, 1) := by decide +kernel
theorem dX1_gain_2 : decode cX1_gain 2 = .ok (.iload_n 2, 1) := by decide +kernel
theorem dX1_gain_3 : decode cX1_gain 3 = .ok (.invokevirtual 68, 3) := by decide +kernel
theorem dX1_gain_6 : decode cX1_gain 6 = .ok (.istore 4, 2) := by decide +kernel
theorem dX1_gain_8 : decode cX1_gain 8 = .ok (.aload_n 0, 1) := by decide +kernel
theorem dX1_gain_9 : decode cX1_gain 9 = .ok (.iload_n 1, 1) := by decide +kernel
theorem dX1_gain_10 : decode cX1_gain 10 = .ok (.iload_n 2, 1) := by decide +kernel
theorem dX1_gain_11 : decode cX1_gain 11 = .ok (.invokevirtual 124, 3) := by decide +kernel
theorem dX1_gain_14 : decode cX1_gain 14 = .ok (.istore 5, 2) := by decide +kernel
theorem dX1_gain_16 : decode cX1_gain 16 = .ok (.aload_n 0, 1) := by decide +kernel
theorem dX1_gain_17 : decode cX1_gain 17 = .ok (.iload_n 1, 1) := by decide +kernel
theorem dX1_gain_18 : decode cX1_gain 18 = .ok (.iload_n 2, 1) := by decide +kernel
theorem dX1_gain_19 : decode cX1_gain 19 = .ok (.iload_n 3, 1) := by decide +kernel
theorem dX1_gain_20 : decode cX1_gain 20 = .ok (.invokevirtual 31, 3) := by decide +kernel
theorem dX1_gain_23 : decode cX1_gain 23 = .ok (.aload_n 0, 1) := by decide +kernel
theorem dX1_gain_24 : decode cX1_gain 24 = .ok (.iload_n 1, 1) := by decide +kernel
theorem dX1_gain_25 : decode cX1_gain 25 = .ok (.iload_n 2, 1) := by decide +kernel
theorem dX1_gain_26 : decode cX1_gain 26 = .ok (.invokevirtual 124, 3) := by decide +kernel
theorem dX1_gain_29 : decode cX1_gain 29 = .ok (.istore 6, 2) := by decide +kernel
theorem dX1_gain_31 : decode cX1_gain 31 = .ok (.aload_n 0, 1) := by decide +kernel
theorem dX1_gain_32 : decode cX1_gain 32 = .ok (.iload_n 1, 1) := by decide +kernel
theorem dX1_gain_33 : decode cX1_gain 33 = .ok (.iload_n 2, 1) := by decide +kernel
theorem dX1_gain_34 : decode cX1_gain 34 = .ok (.iload 4, 2) := by decide +kernel
theorem dX1_gain_36 : decode cX1_gain 36 = .ok (.invokevirtual 31, 3) := by decide +kernel
theorem dX1_gain_39 : decode cX1_gain 39 = .ok (.iload 6, 2) := by decide +kernel
theorem dX1_gain_41 : decode cX1_gain 41 = .ok (.iload 5, 2) := by decide +kernel
theorem dX1_gain_43 : decode cX1_gain 43 = .ok (.isub, 1) := by decide +kernel
theorem dX1_gain_44 : decode cX1_gain 44 = .ok (.ireturn, 1) := by decide +kernel
theorem dX1_fullRound_0 : decode cX1_fullRound 0 = .ok (.iconst 0, 1) := by decide +kernel
theorem dX1_fullRound_1 : decode cX1_fullRound 1 = .ok (.istore_n 3, 1) := by decide +kernel
theorem dX1_fullRound_2 : decode cX1_fullRound 2 = .ok (.iconst 0, 1) := by decide +kernel
theorem dX1_fullRound_3 : decode cX1_fullRound 3 = .ok (.istore 4, 2) := by decide +kernel
theorem dX1_fullRound_5 : decode cX1_fullRound 5 = .ok (.iload 4, 2) := by decide +kernel
theorem dX1_fullRound_7 : decode cX1_fullRound 7 = .ok (.bipush 6, 2) := by decide +kernel
theorem dX1_fullRound_9 : decode cX1_fullRound 9 = .ok (.if_icmp .ge 28, 3) := by decide +kernel
theorem dX1_fullRound_12 : decode cX1_fullRound 12 = .ok (.iload_n 3, 1) := by decide +kernel
theorem dX1_fullRound_13 : decode cX1_fullRound 13 = .ok (.aload_n 0, 1) := by decide +kernel
theorem dX1_fullRound_14 : decode cX1_fullRound 14 = .ok (.iload_n 1, 1) := by decide +kernel
theorem dX1_fullRound_15 : decode cX1_fullRound 15 = .ok (.iload_n 2, 1) := by decide +kernel
theorem dX1_fullRound_16 : decode cX1_fullRound 16 = .ok (.iload 4, 2) := by decide +kernel
theorem dX1_fullRound_18 : decode cX1_fullRound 18 = .ok (.invokevirtual 127, 3) := by decide +kernel
theorem dX1_fullRound_21 : decode cX1_fullRound 21 = .ok (.ifCond .ne 7, 3) := by decide +kernel
theorem dX1_fullRound_24 : decode cX1_fullRound 24 = .ok (.iconst 0, 1) := by decide +kernel
theorem dX1_fullRound_25 : decode cX1_fullRound 25 = .ok (.goto 4, 3) := by decide +kernel
theorem dX1_fullRound_28 : decode cX1_fullRound 28 = .ok (.iconst 1, 1) := by decide +kernel
theorem dX1_fullRound_29 : decode cX1_fullRound 29 = .ok (.iadd, 1) := by decide +kernel
theorem dX1_fullRound_30 : decode cX1_fullRound 30 = .ok (.istore_n 3, 1) := by decide +kernel
theorem dX1_fullRound_31 : decode cX1_fullRound 31 = .ok (.iinc 4 1, 3) := by decide +kernel
theorem dX1_fullRound_34 : decode cX1_fullRound 34 = .ok (.goto (-29), 3) := by decide +kernel
theorem dX1_fullRound_37 : decode cX1_fullRound 37 = .ok (.iload_n 3, 1) := by decide +kernel
theorem dX1_fullRound_38 : decode cX1_fullRound 38 = .ok (.ireturn, 1) := by decide +kernel
theorem dX1_turnRound_0 : decode cX1_turnRound 0 = .ok (.iload_n 3, 1) := by decide +kernel
theorem dX1_turnRound_1 : decode cX1_turnRound 1 = .ok (.ifCond .lt 9, 3) := by decide +kernel
theorem dX1_turnRound_4 : decode cX1_turnRound 4 = .ok (.iload_n 3, 1) := by decide +kernel
theorem dX1_turnRound_5 : decode cX1_turnRound 5 = .ok (.bipush 6, 2) := by decide +kernel
theorem dX1_turnRound_7 : decode cX1_turnRound 7 = .ok (.if_icmp .lt 7, 3) := by decide +kernel
theorem dX1_turnRound_10 : decode cX1_turnRound 10 = .ok (.iconst 0, 1) := by decide +kernel
theorem dX1_turnRound_11 : decode cX1_turnRound 11 = .ok (.goto 26, 3) := by decide +kernel
theorem dX1_turnRound_14 : decode cX1_turnRound 14 = .ok (.aload_n 0, 1) := by decide +kernel
theorem dX1_turnRound_15 : decode cX1_turnRound 15 = .ok (.iload_n 1, 1) := by decide +kernel
theorem dX1_turnRound_16 : decode cX1_turnRound 16 = .ok (.getstatic 130, 3) := by decide +kernel
theorem dX1_turnRound_19 : decode cX1_turnRound 19 = .ok (.iload_n 3, 1) := by decide +kernel
theorem dX1_turnRound_20 : decode cX1_turnRound 20 = .ok (.iaload, 1) := by decide +kernel
theorem dX1_turnRound_21 : decode cX1_turnRound 21 = .ok (.iadd, 1) := by decide +kernel
theorem dX1_turnRound_22 : decode cX1_turnRound 22 = .ok (.iload_n 2, 1) := by decide +kernel
theorem dX1_turnRound_23 : decode cX1_turnRound 23 = .ok (.getstatic 133, 3) := by decide +kernel
theorem dX1_turnRound_26 : decode cX1_turnRound 26 = .ok (.iload_n 3, 1) := by decide +kernel
theorem dX1_turnRound_27 : decode cX1_turnRound 27 = .ok (.iaload, 1) := by decide +kernel
theorem dX1_turnRound_28 : decode cX1_turnRound 28 = .ok (.iadd, 1) := by decide +kernel
theorem dX1_turnRound_29 : decode cX1_turnRound 29 = .ok (.getstatic 136, 3) := by decide +kernel
theorem dX1_turnRound_32 : decode cX1_turnRound 32 = .ok (.iload_n 3, 1) := by decide +kernel
theorem dX1_turnRound_33 : decode cX1_turnRound 33 = .ok (.iaload, 1) := by decide +kernel
theorem dX1_turnRound_34 : decode cX1_turnRound 34 = .ok (.invokevirtual 96, 3) := by decide +kernel
theorem dX1_turnRound_37 : decode cX1_turnRound 37 = .ok (.ireturn, 1) := by decide +kernel
theorem dX1_beyond_0 : decode cX1_beyond 0 = .ok (.aload_n 0, 1) := by decide +kernel
theorem dX1_beyond_1 : decode cX1_beyond 1 = .ok (.iload_n 1, 1) := by decide +kernel
theorem dX1_beyond_2 : decode cX1_beyond 2 = .ok (.invokevirtual 75, 3) := by decide +kernel
theorem dX1_beyond_5 : decode cX1_beyond 5 = .ok (.istore_n 3, 1) := by decide +kernel
theorem dX1_beyond_6 : decode cX1_beyond 6 = .ok (.aload_n 0, 1) := by decide +kernel
theorem dX1_beyond_7 : decode cX1_beyond 7 = .ok (.iload_n 1, 1) := by decide +kernel
theorem dX1_beyond_8 : decode cX1_beyond 8 = .ok (.invokevirtual 78, 3) := by decide +kernel
theorem dX1_beyond_11 : decode cX1_beyond 11 = .ok (.istore 4, 2) := by decide +kernel
theorem dX1_beyond_13 : decode cX1_beyond 13 = .ok (.iload_n 1, 1) := by decide +kernel
theorem dX1_beyond_14 : decode cX1_beyond 14 = .ok (.iconst 1, 1) := by decide +kernel
theorem dX1_beyond_15 : decode cX1_beyond 15 = .ok (.iand, 1) := by decide +kernel
theorem dX1_beyond_16 : decode cX1_beyond 16 = .ok (.ifCond .ne 7, 3) := by decide +kernel
theorem dX1_beyond_19 : decode cX1_beyond 19 = .ok (.iconst (-1), 1) := by decide +kernel
theorem dX1_beyond_20 : decode cX1_beyond 20 = .ok (.goto 4, 3) := by decide +kernel
theorem dX1_beyond_23 : decode cX1_beyond 23 = .ok (.iconst 1, 1) := by decide +kernel
theorem dX1_beyond_24 : decode cX1_beyond 24 = .ok (.istore 5, 2) := by decide +kernel
theorem dX1_beyond_26 : decode cX1_beyond 26 = .ok (.iconst 1, 1) := by decide +kernel
theorem dX1_beyond_27 : decode cX1_beyond 27 = .ok (.iload_n 1, 1) := by decide +kernel
theorem dX1_beyond_28 : decode cX1_beyond 28 = .ok (.iconst 1, 1) := by decide +kernel
theorem dX1_beyond_29 : decode cX1_beyond 29 = .ok (.iand, 1) := by decide +kernel
theorem dX1_beyond_30 : decode cX1_beyond 30 = .ok (.isub, 1) := by decide +kernel
theorem dX1_beyond_31 : decode cX1_beyond 31 = .ok (.istore 6, 2) := by decide +kernel
theorem dX1_beyond_33 : decode cX1_beyond 33 = .ok (.iload_n 2, 1) := by decide +kernel
theorem dX1_beyond_34 : decode cX1_beyond 34 = .ok (.iconst 1, 1) := by decide +kernel
theorem dX1_beyond_35 : decode cX1_beyond 35 = .ok (.if_icmp .ne 16, 3) := by decide +kernel
theorem dX1_beyond_38 : decode cX1_beyond 38 = .ok (.aload_n 0, 1) := by decide +kernel
theorem dX1_beyond_39 : decode cX1_beyond 39 = .ok (.iload_n 3, 1) := by decide +kernel
theorem dX1_beyond_40 : decode cX1_beyond 40 = .ok (.iload 5, 2) := by decide +kernel
theorem dX1_beyond_42 : decode cX1_beyond 42 = .ok (.iadd, 1) := by decide +kernel
theorem dX1_beyond_43 : decode cX1_beyond 43 = .ok (.iload 4, 2) := by decide +kernel
theorem dX1_beyond_45 : decode cX1_beyond 45 = .ok (.iload 6, 2) := by decide +kernel
theorem dX1_beyond_47 : decode cX1_beyond 47 = .ok (.invokevirtual 139, 3) := by decide +kernel
theorem dX1_beyond_50 : decode cX1_beyond 50 = .ok (.ireturn, 1) := by decide +kernel
theorem dX1_beyond_51 : decode cX1_beyond 51 = .ok (.aload_n 0, 1) := by decide +kernel
theorem dX1_beyond_52 : decode cX1_beyond 52 = .ok (.iload_n 3, 1) := by decide +kernel
theorem dX1_beyond_53 : decode cX1_beyond 53 = .ok (.iload_n 2, 1) := by decide +kernel
theorem dX1_beyond_54 : decode cX1_beyond 54 = .ok (.iconst 2, 1) := by decide +kernel
theorem dX1_beyond_55 : decode cX1_beyond 55 = .ok (.if_icmp .ne 11, 3) := by decide +kernel
theorem dX1_beyond_58 : decode cX1_beyond 58 = .ok (.iload 4, 2) := by decide +kernel
theorem dX1_beyond_60 : decode cX1_beyond 60 = .ok (.iload 5, 2) := by decide +kernel
theorem dX1_beyond_62 : decode cX1_beyond 62 = .ok (.iadd, 1) := by decide +kernel
theorem dX1_beyond_63 : decode cX1_beyond 63 = .ok (.goto 5, 3) := by decide +kernel
theorem dX1_beyond_66 : decode cX1_beyond 66 = .ok (.iload 4, 2) := by decide +kernel
theorem dX1_beyond_68 : decode cX1_beyond 68 = .ok (.iload 6, 2) := by decide +kernel
theorem dX1_beyond_70 : decode cX1_beyond 70 = .ok (.invokevirtual 139, 3) := by decide +kernel
theorem dX1_beyond_73 : decode cX1_beyond 73 = .ok (.ireturn, 1) := by decide +kernel
theorem dX1_sideCell_0 : decode cX1_sideCell 0 = .ok (.iload_n 1, 1) := by decide +kernel
theorem dX1_sideCell_1 : decode cX1_sideCell 1 = .ok (.ifCond .ne 11, 3) := by decide +kernel
theorem dX1_sideCell_4 : decode cX1_sideCell 4 = .ok (.aload_n 0, 1) := by decide +kernel
theorem dX1_sideCell_5 : decode cX1_sideCell 5 = .ok (.iconst 0, 1) := by decide +kernel
theorem dX1_sideCell_6 : decode cX1_sideCell 6 = .ok (.iload_n 2, 1) := by decide +kernel
theorem dX1_sideCell_7 : decode cX1_sideCell 7 = .ok (.iconst 0, 1) := by decide +kernel
theorem dX1_sideCell_8 : decode cX1_sideCell 8 = .ok (.invokevirtual 139, 3) := by decide +kernel
theorem dX1_sideCell_11 : decode cX1_sideCell 11 = .ok (.ireturn, 1) := by decide +kernel
theorem dX1_sideCell_12 : decode cX1_sideCell 12 = .ok (.iload_n 1, 1) := by decide +kernel
theorem dX1_sideCell_13 : decode cX1_sideCell 13 = .ok (.iconst 1, 1) := by decide +kernel
theorem dX1_sideCell_14 : decode cX1_sideCell 14 = .ok (.if_icmp .ne 13, 3) := by decide +kernel
theorem dX1_sideCell_17 : decode cX1_sideCell 17 = .ok (.aload_n 0, 1) := by decide +kernel
theorem dX1_sideCell_18 : decode cX1_sideCell 18 = .ok (.iload_n 2, 1) := by decide +kernel
theorem dX1_sideCell_19 : decode cX1_sideCell 19 = .ok (.iconst 0, 1) := by decide +kernel
theorem dX1_sideCell_20 : decode cX1_sideCell 20 = .ok (.iconst 0, 1) := by decide +kernel
theorem dX1_sideCell_21 : decode cX1_sideCell 21 = .ok (.invokevirtual 139, 3) := by decide +kernel
theorem dX1_sideCell_24 : decode cX1_sideCell 24 = .ok (.goto 17, 3) := by decide +kernel
theorem dX1_sideCell_27 : decode cX1_sideCell 27 = .ok (.aload_n 0, 1) := by decide +kernel
theorem dX1_sideCell_28 : decode cX1_sideCell 28 = .ok (.aload_n 0, 1) := by decide +kernel
theorem dX1_sideCell_29 : decode cX1_sideCell 29 = .ok (.getfield 15, 3) := by decide +kernel
theorem dX1_sideCell_32 : decode cX1_sideCell 32 = .ok (.iconst 1, 1) := by decide +kernel
theorem dX1_sideCell_33 : decode cX1_sideCell 33 = .ok (.isub, 1) := by decide +kernel
theorem dX1_sideCell_34 : decode cX1_sideCell 34 = .ok (.iload_n 2, 1) := by decide +kernel
theorem dX1_sideCell_35 : decode cX1_sideCell 35 = .ok (.isub, 1) := by decide +kernel
theorem dX1_sideCell_36 : decode cX1_sideCell 36 = .ok (.iload_n 2, 1) := by decide +kernel
theorem dX1_sideCell_37 : decode cX1_sideCell 37 = .ok (.iconst 0, 1) := by decide +kernel
theorem dX1_sideCell_38 : decode cX1_sideCell 38 = .ok (.invokevirtual 139, 3) := by decide +kernel
theorem dX1_sideCell_41 : decode cX1_sideCell 41 = .ok (.ireturn, 1) := by decide +kernel
theorem dX1_sidePlace_0 : decode cX1_sidePlace 0 = .ok (.iload_n 1, 1) := by decide +kernel
theorem dX1_sidePlace_1 : decode cX1_sidePlace 1 = .ok (.iconst 1, 1) := by decide +kernel
theorem dX1_sidePlace_2 : decode cX1_sidePlace 2 = .ok (.if_icmp .ne 11, 3) := by decide +kernel
theorem dX1_sidePlace_5 : decode cX1_sidePlace 5 = .ok (.aload_n 0, 1) := by decide +kernel
theorem dX1_sidePlace_6 : decode cX1_sidePlace 6 = .ok (.iload_n 2, 1) := by decide +kernel
theorem dX1_sidePlace_7 : decode cX1_sidePlace 7 = .ok (.invokevirtual 75, 3) := by decide +kernel
theorem dX1_sidePlace_10 : decode cX1_sidePlace 10 = .ok (.goto 8, 3) := by decide +kernel
theorem dX1_sidePlace_13 : decode cX1_sidePlace 13 = .ok (.aload_n 0, 1) := by decide +kernel
theorem dX1_sidePlace_14 : decode cX1_sidePlace 14 = .ok (.iload_n 2, 1) := by decide +kernel
theorem dX1_sidePlace_15 : decode cX1_sidePlace 15 = .ok (.invokevirtual 78, 3) := by decide +kernel
theorem dX1_sidePlace_18 : decode cX1_sidePlace 18 = .ok (.ireturn, 1) := by decide +kernel
