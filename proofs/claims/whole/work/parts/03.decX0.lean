theorem dX0_init_0 : decode cX0_init 0 = .ok (.aload_n 0, 1) := by decide +kernel
theorem dX0_init_1 : decode cX0_init 1 = .ok (.invokespecial 3, 3) := by decide +kernel
theorem dX0_init_4 : decode cX0_init 4 = .ok (.aload_n 0, 1) := by decide +kernel
theorem dX0_init_5 : decode cX0_init 5 = .ok (.sipush 512, 3) := by decide +kernel
theorem dX0_init_8 : decode cX0_init 8 = .ok (.newarray .int, 2) := by decide +kernel
theorem dX0_init_10 : decode cX0_init 10 = .ok (.putfield 9, 3) := by decide +kernel
theorem dX0_init_13 : decode cX0_init 13 = .ok (.aload_n 0, 1) := by decide +kernel
theorem dX0_init_14 : decode cX0_init 14 = .ok (.sipush 512, 3) := by decide +kernel
theorem dX0_init_17 : decode cX0_init 17 = .ok (.newarray .int, 2) := by decide +kernel
theorem dX0_init_19 : decode cX0_init 19 = .ok (.putfield 15, 3) := by decide +kernel
theorem dX0_init_22 : decode cX0_init 22 = .ok (.aload_n 0, 1) := by decide +kernel
theorem dX0_init_23 : decode cX0_init 23 = .ok (.iconst 0, 1) := by decide +kernel
theorem dX0_init_24 : decode cX0_init 24 = .ok (.putfield 18, 3) := by decide +kernel
theorem dX0_init_27 : decode cX0_init 27 = .ok (.aload_n 0, 1) := by decide +kernel
theorem dX0_init_28 : decode cX0_init 28 = .ok (.iconst 0, 1) := by decide +kernel
theorem dX0_init_29 : decode cX0_init 29 = .ok (.putfield 22, 3) := by decide +kernel
theorem dX0_init_32 : decode cX0_init 32 = .ok (.aload_n 0, 1) := by decide +kernel
theorem dX0_init_33 : decode cX0_init 33 = .ok (.iconst 0, 1) := by decide +kernel
theorem dX0_init_34 : decode cX0_init 34 = .ok (.putfield 26, 3) := by decide +kernel
theorem dX0_init_37 : decode cX0_init 37 = .ok (.return_, 1) := by decide +kernel
theorem dX0_isDoor_0 : decode cX0_isDoor 0 = .ok (.aload_n 1, 1) := by decide +kernel
theorem dX0_isDoor_1 : decode cX0_isDoor 1 = .ok (.iload_n 2, 1) := by decide +kernel
theorem dX0_isDoor_2 : decode cX0_isDoor 2 = .ok (.iload_n 3, 1) := by decide +kernel
theorem dX0_isDoor_3 : decode cX0_isDoor 3 = .ok (.iconst 1, 1) := by decide +kernel
theorem dX0_isDoor_4 : decode cX0_isDoor 4 = .ok (.iadd, 1) := by decide +kernel
theorem dX0_isDoor_5 : decode cX0_isDoor 5 = .ok (.iconst 3, 1) := by decide +kernel
theorem dX0_isDoor_6 : decode cX0_isDoor 6 = .ok (.irem, 1) := by decide +kernel
theorem dX0_isDoor_7 : decode cX0_isDoor 7 = .ok (.invokevirtual 29, 3) := by decide +kernel
theorem dX0_isDoor_10 : decode cX0_isDoor 10 = .ok (.istore 5, 2) := by decide +kernel
theorem dX0_isDoor_12 : decode cX0_isDoor 12 = .ok (.aload_n 1, 1) := by decide +kernel
theorem dX0_isDoor_13 : decode cX0_isDoor 13 = .ok (.iload_n 2, 1) := by decide +kernel
theorem dX0_isDoor_14 : decode cX0_isDoor 14 = .ok (.iload_n 3, 1) := by decide +kernel
theorem dX0_isDoor_15 : decode cX0_isDoor 15 = .ok (.iconst 2, 1) := by decide +kernel
theorem dX0_isDoor_16 : decode cX0_isDoor 16 = .ok (.iadd, 1) := by decide +kernel
theorem dX0_isDoor_17 : decode cX0_isDoor 17 = .ok (.iconst 3, 1) := by decide +kernel
theorem dX0_isDoor_18 : decode cX0_isDoor 18 = .ok (.irem, 1) := by decide +kernel
theorem dX0_isDoor_19 : decode cX0_isDoor 19 = .ok (.invokevirtual 29, 3) := by decide +kernel
theorem dX0_isDoor_22 : decode cX0_isDoor 22 = .ok (.istore 6, 2) := by decide +kernel
theorem dX0_isDoor_24 : decode cX0_isDoor 24 = .ok (.iload 5, 2) := by decide +kernel
theorem dX0_isDoor_26 : decode cX0_isDoor 26 = .ok (.iload 6, 2) := by decide +kernel
theorem dX0_isDoor_28 : decode cX0_isDoor 28 = .ok (.if_icmp .eq 21, 3) := by decide +kernel
theorem dX0_isDoor_31 : decode cX0_isDoor 31 = .ok (.iload 5, 2) := by decide +kernel
theorem dX0_isDoor_33 : decode cX0_isDoor 33 = .ok (.iload 4, 2) := by decide +kernel
theorem dX0_isDoor_35 : decode cX0_isDoor 35 = .ok (.if_icmp .eq 14, 3) := by decide +kernel
theorem dX0_isDoor_38 : decode cX0_isDoor 38 = .ok (.iload 6, 2) := by decide +kernel
theorem dX0_isDoor_40 : decode cX0_isDoor 40 = .ok (.iload 4, 2) := by decide +kernel
theorem dX0_isDoor_42 : decode cX0_isDoor 42 = .ok (.if_icmp .eq 7, 3) := by decide +kernel
theorem dX0_isDoor_45 : decode cX0_isDoor 45 = .ok (.iconst 1, 1) := by decide +kernel
theorem dX0_isDoor_46 : decode cX0_isDoor 46 = .ok (.goto 4, 3) := by decide +kernel
theorem dX0_isDoor_49 : decode cX0_isDoor 49 = .ok (.iconst 0, 1) := by decide +kernel
theorem dX0_isDoor_50 : decode cX0_isDoor 50 = .ok (.ireturn, 1) := by decide +kernel
theorem dX0_nextDoor_0 : decode cX0_nextDoor 0 = .ok (.iconst 0, 1) := by decide +kernel
theorem dX0_nextDoor_1 : decode cX0_nextDoor 1 = .ok (.istore 5, 2) := by decide +kernel
theorem dX0_nextDoor_3 : decode cX0_nextDoor 3 = .ok (.iload 5, 2) := by decide +kernel
theorem dX0_nextDoor_5 : decode cX0_nextDoor 5 = .ok (.iconst 3, 1) := by decide +kernel
theorem dX0_nextDoor_6 : decode cX0_nextDoor 6 = .ok (.if_icmp .ge 31, 3) := by decide +kernel
theorem dX0_nextDoor_9 : decode cX0_nextDoor 9 = .ok (.iload 5, 2) := by decide +kernel
theorem dX0_nextDoor_11 : decode cX0_nextDoor 11 = .ok (.iload 4, 2) := by decide +kernel
theorem dX0_nextDoor_13 : decode cX0_nextDoor 13 = .ok (.if_icmp .eq 18, 3) := by decide +kernel
theorem dX0_nextDoor_16 : decode cX0_nextDoor 16 = .ok (.aload_n 0, 1) := by decide +kernel
theorem dX0_nextDoor_17 : decode cX0_nextDoor 17 = .ok (.aload_n 1, 1) := by decide +kernel
theorem dX0_nextDoor_18 : decode cX0_nextDoor 18 = .ok (.iload_n 2, 1) := by decide +kernel
theorem dX0_nextDoor_19 : decode cX0_nextDoor 19 = .ok (.iload 5, 2) := by decide +kernel
theorem dX0_nextDoor_21 : decode cX0_nextDoor 21 = .ok (.iload_n 3, 1) := by decide +kernel
theorem dX0_nextDoor_22 : decode cX0_nextDoor 22 = .ok (.invokevirtual 35, 3) := by decide +kernel
theorem dX0_nextDoor_25 : decode cX0_nextDoor 25 = .ok (.ifCond .eq 6, 3) := by decide +kernel
theorem dX0_nextDoor_28 : decode cX0_nextDoor 28 = .ok (.iload 5, 2) := by decide +kernel
theorem dX0_nextDoor_30 : decode cX0_nextDoor 30 = .ok (.ireturn, 1) := by decide +kernel
theorem dX0_nextDoor_31 : decode cX0_nextDoor 31 = .ok (.iinc 5 1, 3) := by decide +kernel
theorem dX0_nextDoor_34 : decode cX0_nextDoor 34 = .ok (.goto (-31), 3) := by decide +kernel
theorem dX0_nextDoor_37 : decode cX0_nextDoor 37 = .ok (.iconst (-1), 1) := by decide +kernel
theorem dX0_nextDoor_38 : decode cX0_nextDoor 38 = .ok (.ireturn, 1) := by decide +kernel
theorem dX0_sideEdge_0 : decode cX0_sideEdge 0 = .ok (.iload_n 1, 1) := by decide +kernel
theorem dX0_sideEdge_1 : decode cX0_sideEdge 1 = .ok (.iconst 1, 1) := by decide +kernel
theorem dX0_sideEdge_2 : decode cX0_sideEdge 2 = .ok (.iadd, 1) := by decide +kernel
theorem dX0_sideEdge_3 : decode cX0_sideEdge 3 = .ok (.iconst 3, 1) := by decide +kernel
theorem dX0_sideEdge_4 : decode cX0_sideEdge 4 = .ok (.irem, 1) := by decide +kernel
theorem dX0_sideEdge_5 : decode cX0_sideEdge 5 = .ok (.ireturn, 1) := by decide +kernel
theorem dX0_isOuter_0 : decode cX0_isOuter 0 = .ok (.aload_n 0, 1) := by decide +kernel
theorem dX0_isOuter_1 : decode cX0_isOuter 1 = .ok (.aload_n 1, 1) := by decide +kernel
theorem dX0_isOuter_2 : decode cX0_isOuter 2 = .ok (.aload_n 1, 1) := by decide +kernel
theorem dX0_isOuter_3 : decode cX0_isOuter 3 = .ok (.iload_n 2, 1) := by decide +kernel
theorem dX0_isOuter_4 : decode cX0_isOuter 4 = .ok (.iload_n 3, 1) := by decide +kernel
theorem dX0_isOuter_5 : decode cX0_isOuter 5 = .ok (.invokevirtual 39, 3) := by decide +kernel
theorem dX0_isOuter_8 : decode cX0_isOuter 8 = .ok (.aload_n 0, 1) := by decide +kernel
theorem dX0_isOuter_9 : decode cX0_isOuter 9 = .ok (.iload_n 2, 1) := by decide +kernel
theorem dX0_isOuter_10 : decode cX0_isOuter 10 = .ok (.invokevirtual 42, 3) := by decide +kernel
theorem dX0_isOuter_13 : decode cX0_isOuter 13 = .ok (.iload_n 2, 1) := by decide +kernel
theorem dX0_isOuter_14 : decode cX0_isOuter 14 = .ok (.invokevirtual 35, 3) := by decide +kernel
theorem dX0_isOuter_17 : decode cX0_isOuter 17 = .ok (.ireturn, 1) := by decide +kernel
theorem dX0_outersBefore_0 : decode cX0_outersBefore 0 = .ok (.iconst 0, 1) := by decide +kernel
theorem dX0_outersBefore_1 : decode cX0_outersBefore 1 = .ok (.istore 4, 2) := by decide +kernel
theorem dX0_outersBefore_3 : decode cX0_outersBefore 3 = .ok (.iconst 0, 1) := by decide +kernel
theorem dX0_outersBefore_4 : decode cX0_outersBefore 4 = .ok (.istore 5, 2) := by decide +kernel
theorem dX0_outersBefore_6 : decode cX0_outersBefore 6 = .ok (.iload 5, 2) := by decide +kernel
theorem dX0_outersBefore_8 : decode cX0_outersBefore 8 = .ok (.iload_n 3, 1) := by decide +kernel
theorem dX0_outersBefore_9 : decode cX0_outersBefore 9 = .ok (.if_icmp .ge 30, 3) := by decide +kernel
theorem dX0_outersBefore_12 : decode cX0_outersBefore 12 = .ok (.iload 4, 2) := by decide +kernel
theorem dX0_outersBefore_14 : decode cX0_outersBefore 14 = .ok (.aload_n 0, 1) := by decide +kernel
theorem dX0_outersBefore_15 : decode cX0_outersBefore 15 = .ok (.aload_n 1, 1) := by decide +kernel
theorem dX0_outersBefore_16 : decode cX0_outersBefore 16 = .ok (.iload_n 2, 1) := by decide +kernel
theorem dX0_outersBefore_17 : decode cX0_outersBefore 17 = .ok (.iload 5, 2) := by decide +kernel
theorem dX0_outersBefore_19 : decode cX0_outersBefore 19 = .ok (.invokevirtual 46, 3) := by decide +kernel
theorem dX0_outersBefore_22 : decode cX0_outersBefore 22 = .ok (.ifCond .eq 7, 3) := by decide +kernel
theorem dX0_outersBefore_25 : decode cX0_outersBefore 25 = .ok (.iconst 1, 1) := by decide +kernel
theorem dX0_outersBefore_26 : decode cX0_outersBefore 26 = .ok (.goto 4, 3) := by decide +kernel
theorem dX0_outersBefore_29 : decode cX0_outersBefore 29 = .ok (.iconst 0, 1) := by decide +kernel
theorem dX0_outersBefore_30 : decode cX0_outersBefore 30 = .ok (.iadd, 1) := by decide +kernel
theorem dX0_outersBefore_31 : decode cX0_outersBefore 31 = .ok (.istore 4, 2) := by decide +kernel
theorem dX0_outersBefore_33 : decode cX0_outersBefore 33 = .ok (.iinc 5 1, 3) := by decide +kernel
theorem dX0_outersBefore_36 : decode cX0_outersBefore 36 = .ok (.goto (-30), 3) := by decide +kernel
theorem dX0_outersBefore_39 : decode cX0_outersBefore 39 = .ok (.iload 4, 2) := by decide +kernel
theorem dX0_outersBefore_41 : decode cX0_outersBefore 41 = .ok (.ireturn, 1) := by decide +kernel
theorem dX0_outers_0 : decode cX0_outers 0 = .ok (.aload_n 0, 1) := by decide +kernel
theorem dX0_outers_1 : decode cX0_outers 1 = .ok (.aload_n 1, 1) := by decide +kernel
theorem dX0_outers_2 : decode cX0_outers 2 = .ok (.iload_n 2, 1) := by decide +kernel
theorem dX0_outers_3 : decode cX0_outers 3 = .ok (.aload_n 1, 1) := by decide +kernel
theorem dX0_outers_4 : decode cX0_outers 4 = .ok (.getfield 50, 3) := by decide +kernel
theorem dX0_outers_7 : decode cX0_outers 7 = .ok (.invokevirtual 53, 3) := by decide +kernel
theorem dX0_outers_10 : decode cX0_outers 10 = .ok (.ireturn, 1) := by decide +kernel
theorem dX0_placeOf_0 : decode cX0_placeOf 0 = .ok (.iconst 0, 1) := by decide +kernel
theorem dX0_placeOf_1 : decode cX0_placeOf 1 = .ok (.istore 4, 2) := by decide +kernel
theorem dX0_placeOf_3 : decode cX0_placeOf 3 = .ok (.iconst 0, 1) := by decide +kernel
theorem dX0_placeOf_4 : decode cX0_placeOf 4 = .ok (.istore 5, 2) := by decide +kernel
theorem dX0_placeOf_6 : decode cX0_placeOf 6 = .ok (.iload 5, 2) := by decide +kernel
theorem dX0_placeOf_8 : decode cX0_placeOf 8 = .ok (.aload_n 1, 1) := by decide +kernel
theorem dX0_placeOf_9 : decode cX0_placeOf 9 = .ok (.getfield 50, 3) := by decide +kernel
theorem dX0_placeOf_12 : decode cX0_placeOf 12 = .ok (.if_icmp .ge 32, 3) := by decide +kernel
theorem dX0_placeOf_15 : decode cX0_placeOf 15 = .ok (.aload_n 0, 1) := by decide +kernel
theorem dX0_placeOf_16 : decode cX0_placeOf 16 = .ok (.aload_n 1, 1) := by decide +kernel
theorem dX0_placeOf_17 : decode cX0_placeOf 17 = .ok (.iload_n 2, 1) := by decide +kernel
theorem dX0_placeOf_18 : decode cX0_placeOf 18 = .ok (.iload 5, 2) := by decide +kernel
theorem dX0_placeOf_20 : decode cX0_placeOf 20 = .ok (.invokevirtual 46, 3) := by decide +kernel
theorem dX0_placeOf_23 : decode cX0_placeOf 23 = .ok (.ifCond .eq 15, 3) := by decide +kernel
theorem dX0_placeOf_26 : decode cX0_placeOf 26 = .ok (.iload 4, 2) := by decide +kernel
theorem dX0_placeOf_28 : decode cX0_placeOf 28 = .ok (.iload_n 3, 1) := by decide +kernel
theorem dX0_placeOf_29 : decode cX0_placeOf 29 = .ok (.if_icmp .ne 6, 3) := by decide +kernel
theorem dX0_placeOf_32 : decode cX0_placeOf 32 = .ok (.iload 5, 2) := by decide +kernel
theorem dX0_placeOf_34 : decode cX0_placeOf 34 = .ok (.ireturn, 1) := by decide +kernel
theorem dX0_placeOf_35 : decode cX0_placeOf 35 = .ok (.iinc 4 1, 3) := by decide +kernel
theorem dX0_placeOf_38 : decode cX0_placeOf 38 = .ok (.iinc 5 1, 3) := by decide +kernel
theorem dX0_placeOf_41 : decode cX0_placeOf 41 = .ok (.goto (-35), 3) := by decide +kernel
theorem dX0_placeOf_44 : decode cX0_placeOf 44 = .ok (.iconst (-1), 1) := by decide +kernel
theorem dX0_placeOf_45 : decode cX0_placeOf 45 = .ok (.ireturn, 1) := by decide +kernel
theorem dX0_enter_0 : decode cX0_enter 0 = .ok (.aload_n 0, 1) := by decide +kernel
theorem dX0_enter_1 : decode cX0_enter 1 = .ok (.aload_n 1, 1) := by decide +kernel
theorem dX0_enter_2 : decode cX0_enter 2 = .ok (.iload_n 2, 1) := by decide +kernel
theorem dX0_enter_3 : decode cX0_enter 3 = .ok (.aload_n 1, 1) := by decide +kernel
theorem dX0_enter_4 : decode cX0_enter 4 = .ok (.iload_n 2, 1) := by decide +kernel
theorem dX0_enter_5 : decode cX0_enter 5 = .ok (.iload_n 3, 1) := by decide +kernel
theorem dX0_enter_6 : decode cX0_enter 6 = .ok (.invokevirtual 39, 3) := by decide +kernel
theorem dX0_enter_9 : decode cX0_enter 9 = .ok (.aload_n 0, 1) := by decide +kernel
theorem dX0_enter_10 : decode cX0_enter 10 = .ok (.iload_n 2, 1) := by decide +kernel
theorem dX0_enter_11 : decode cX0_enter 11 = .ok (.invokevirtual 42, 3) := by decide +kernel
theorem dX0_enter_14 : decode cX0_enter 14 = .ok (.invokevirtual 57, 3) := by decide +kernel
theorem dX0_enter_17 : decode cX0_enter 17 = .ok (.return_, 1) := by decide +kernel
theorem dX0_follow_0 : decode cX0_follow 0 = .ok (.aload_n 0, 1) := by decide +kernel
theorem dX0_follow_1 : decode cX0_follow 1 = .ok (.iconst 0, 1) := by decide +kernel
theorem dX0_follow_2 : decode cX0_follow 2 = .ok (.putfield 18, 3) := by decide +kernel
theorem dX0_follow_5 : decode cX0_follow 5 = .ok (.aload_n 0, 1) := by decide +kernel
theorem dX0_follow_6 : decode cX0_follow 6 = .ok (.iconst 0, 1) := by decide +kernel
theorem dX0_follow_7 : decode cX0_follow 7 = .ok (.putfield 22, 3) := by decide +kernel
theorem dX0_follow_10 : decode cX0_follow 10 = .ok (.iload_n 3, 1) := by decide +kernel
theorem dX0_follow_11 : decode cX0_follow 11 = .ok (.istore 5, 2) := by decide +kernel
theorem dX0_follow_13 : decode cX0_follow 13 = .ok (.iload 4, 2) := by decide +kernel
theorem dX0_follow_15 : decode cX0_follow 15 = .ok (.istore 6, 2) := by decide +kernel
theorem dX0_follow_17 : decode cX0_follow 17 = .ok (.iload 5, 2) := by decide +kernel
theorem dX0_follow_19 : decode cX0_follow 19 = .ok (.iconst (-1), 1) := by decide +kernel
theorem dX0_follow_20 : decode cX0_follow 20 = .ok (.if_icmp .eq 66, 3) := by decide +kernel
theorem dX0_follow_23 : decode cX0_follow 23 = .ok (.aload_n 0, 1) := by decide +kernel
theorem dX0_follow_24 : decode cX0_follow 24 = .ok (.getfield 18, 3) := by decide +kernel
theorem dX0_follow_27 : decode cX0_follow 27 = .ok (.sipush 512, 3) := by decide +kernel
theorem dX0_follow_30 : decode cX0_follow 30 = .ok (.if_icmp .ge 56, 3) := by decide +kernel
theorem dX0_follow_33 : decode cX0_follow 33 = .ok (.aload_n 0, 1) := by decide +kernel
theorem dX0_follow_34 : decode cX0_follow 34 = .ok (.getfield 9, 3) := by decide +kernel
theorem dX0_follow_37 : decode cX0_follow 37 = .ok (.aload_n 0, 1) := by decide +kernel
theorem dX0_follow_38 : decode cX0_follow 38 = .ok (.getfield 18, 3) := by decide +kernel
theorem dX0_follow_41 : decode cX0_follow 41 = .ok (.iload 5, 2) := by decide +kernel
theorem dX0_follow_43 : decode cX0_follow 43 = .ok (.iastore, 1) := by decide +kernel
theorem dX0_follow_44 : decode cX0_follow 44 = .ok (.aload_n 0, 1) := by decide +kernel
theorem dX0_follow_45 : decode cX0_follow 45 = .ok (.dup, 1) := by decide +kernel
theorem dX0_follow_46 : decode cX0_follow 46 = .ok (.getfield 18, 3) := by decide +kernel
theorem dX0_follow_49 : decode cX0_follow 49 = .ok (.iconst 1, 1) := by decide +kernel
theorem dX0_follow_50 : decode cX0_follow 50 = .ok (.iadd, 1) := by decide +kernel
theorem dX0_follow_51 : decode cX0_follow 51 = .ok (.putfield 18, 3) := by decide +kernel
theorem dX0_follow_54 : decode cX0_follow 54 = .ok (.aload_n 0, 1) := by decide +kernel
theorem dX0_follow_55 : decode cX0_follow 55 = .ok (.aload_n 1, 1) := by decide +kernel
theorem dX0_follow_56 : decode cX0_follow 56 = .ok (.iload 5, 2) := by decide +kernel
theorem dX0_follow_58 : decode cX0_follow 58 = .ok (.iload_n 2, 1) := by decide +kernel
theorem dX0_follow_59 : decode cX0_follow 59 = .ok (.iload 6, 2) := by decide +kernel
theorem dX0_follow_61 : decode cX0_follow 61 = .ok (.invokevirtual 61, 3) := by decide +kernel
theorem dX0_follow_64 : decode cX0_follow 64 = .ok (.istore 6, 2) := by decide +kernel
theorem dX0_follow_66 : decode cX0_follow 66 = .ok (.iload 6, 2) := by decide +kernel
theorem dX0_follow_68 : decode cX0_follow 68 = .ok (.iconst (-1), 1) := by decide +kernel
theorem dX0_follow_69 : decode cX0_follow 69 = .ok (.if_icmp .ne 4, 3) := by decide +kernel
theorem dX0_follow_72 : decode cX0_follow 72 = .ok (.return_, 1) := by decide +kernel
theorem dX0_follow_73 : decode cX0_follow 73 = .ok (.aload_n 1, 1) := by decide +kernel
theorem dX0_follow_74 : decode cX0_follow 74 = .ok (.iload 5, 2) := by decide +kernel
theorem dX0_follow_76 : decode cX0_follow 76 = .ok (.iload 6, 2) := by decide +kernel
theorem dX0_follow_78 : decode cX0_follow 78 = .ok (.invokevirtual 65, 3) := by decide +kernel
theorem dX0_follow_81 : decode cX0_follow 81 = .ok (.istore 5, 2) := by decide +kernel
theorem dX0_follow_83 : decode cX0_follow 83 = .ok (.goto (-66), 3) := by decide +kernel
theorem dX0_follow_86 : decode cX0_follow 86 = .ok (.aload_n 0, 1) := by decide +kernel
theorem dX0_follow_87 : decode cX0_follow 87 = .ok (.iconst 1, 1) := by decide +kernel
theorem dX0_follow_88 : decode cX0_follow 88 = .ok (.putfield 22, 3) := by decide +kernel
theorem dX0_follow_91 : decode cX0_follow 91 = .ok (.return_, 1) := by decide +kernel
theorem dX0_cellOfWay_0 : decode cX0_cellOfWay 0 = .ok (.iload_n 1, 1) := by decide +kernel
theorem dX0_cellOfWay_1 : decode cX0_cellOfWay 1 = .ok (.ifCond .lt 27, 3) := by decide +kernel
theorem dX0_cellOfWay_4 : decode cX0_cellOfWay 4 = .ok (.iload_n 1, 1) := by decide +kernel
theorem dX0_cellOfWay_5 : decode cX0_cellOfWay 5 = .ok (.aload_n 0, 1) := by decide +kernel
theorem dX0_cellOfWay_6 : decode cX0_cellOfWay 6 = .ok (.getfield 18, 3) := by decide +kernel
theorem dX0_cellOfWay_9 : decode cX0_cellOfWay 9 = .ok (.if_icmp .ge 19, 3) := by decide +kernel
theorem dX0_cellOfWay_12 : decode cX0_cellOfWay 12 = .ok (.iload_n 1, 1) := by decide +kernel
theorem dX0_cellOfWay_13 : decode cX0_cellOfWay 13 = .ok (.sipush 512, 3) := by decide +kernel
theorem dX0_cellOfWay_16 : decode cX0_cellOfWay 16 = .ok (.if_icmp .ge 12, 3) := by decide +kernel
theorem dX0_cellOfWay_19 : decode cX0_cellOfWay 19 = .ok (.aload_n 0, 1) := by decide +kernel
theorem dX0_cellOfWay_20 : decode cX0_cellOfWay 20 = .ok (.getfield 9, 3) := by decide +kernel
theorem dX0_cellOfWay_23 : decode cX0_cellOfWay 23 = .ok (.iload_n 1, 1) := by decide +kernel
theorem dX0_cellOfWay_24 : decode cX0_cellOfWay 24 = .ok (.iaload, 1) := by decide +kernel
theorem dX0_cellOfWay_25 : decode cX0_cellOfWay 25 = .ok (.goto 4, 3) := by decide +kernel
theorem dX0_cellOfWay_28 : decode cX0_cellOfWay 28 = .ok (.iconst (-1), 1) := by decide +kernel
theorem dX0_cellOfWay_29 : decode cX0_cellOfWay 29 = .ok (.ireturn, 1) := by decide +kernel
theorem dX0_last_0 : decode cX0_last 0 = .ok (.aload_n 0, 1) := by decide +kernel
theorem dX0_last_1 : decode cX0_last 1 = .ok (.aload_n 0, 1) := by decide +kernel
theorem dX0_last_2 : decode cX0_last 2 = .ok (.getfield 18, 3) := by decide +kernel
theorem dX0_last_5 : decode cX0_last 5 = .ok (.iconst 1, 1) := by decide +kernel
theorem dX0_last_6 : decode cX0_last 6 = .ok (.isub, 1) := by decide +kernel
theorem dX0_last_7 : decode cX0_last 7 = .ok (.invokevirtual 68, 3) := by decide +kernel
theorem dX0_last_10 : decode cX0_last 10 = .ok (.ireturn, 1) := by decide +kernel
theorem dX0_outDoor_0 : decode cX0_outDoor 0 = .ok (.aload_n 0, 1) := by decide +kernel
theorem dX0_outDoor_1 : decode cX0_outDoor 1 = .ok (.getfield 22, 3) := by decide +kernel
theorem dX0_outDoor_4 : decode cX0_outDoor 4 = .ok (.ifCond .eq 21, 3) := by decide +kernel
theorem dX0_outDoor_7 : decode cX0_outDoor 7 = .ok (.aload_n 0, 1) := by decide +kernel
theorem dX0_outDoor_8 : decode cX0_outDoor 8 = .ok (.aload_n 1, 1) := by decide +kernel
theorem dX0_outDoor_9 : decode cX0_outDoor 9 = .ok (.iload_n 2, 1) := by decide +kernel
theorem dX0_outDoor_10 : decode cX0_outDoor 10 = .ok (.aload_n 1, 1) := by decide +kernel
theorem dX0_outDoor_11 : decode cX0_outDoor 11 = .ok (.iload_n 2, 1) := by decide +kernel
theorem dX0_outDoor_12 : decode cX0_outDoor 12 = .ok (.aload_n 0, 1) := by decide +kernel
theorem dX0_outDoor_13 : decode cX0_outDoor 13 = .ok (.invokevirtual 71, 3) := by decide +kernel
theorem dX0_outDoor_16 : decode cX0_outDoor 16 = .ok (.invokevirtual 75, 3) := by decide +kernel
theorem dX0_outDoor_19 : decode cX0_outDoor 19 = .ok (.invokevirtual 53, 3) := by decide +kernel
theorem dX0_outDoor_22 : decode cX0_outDoor 22 = .ok (.goto 4, 3) := by decide +kernel
theorem dX0_outDoor_25 : decode cX0_outDoor 25 = .ok (.iconst (-1), 1) := by decide +kernel
theorem dX0_outDoor_26 : decode cX0_outDoor 26 = .ok (.ireturn, 1) := by decide +kernel
theorem dX0_cellsTo_0 : decode cX0_cellsTo 0 = .ok (.iload_n 3, 1) := by decide +kernel
theorem dX0_cellsTo_1 : decode cX0_cellsTo 1 = .ok (.istore 6, 2) := by decide +kernel
theorem dX0_cellsTo_3 : decode cX0_cellsTo 3 = .ok (.iload 4, 2) := by decide +kernel
theorem dX0_cellsTo_5 : decode cX0_cellsTo 5 = .ok (.istore 7, 2) := by decide +kernel
theorem dX0_cellsTo_7 : decode cX0_cellsTo 7 = .ok (.iconst 2, 1) := by decide +kernel
theorem dX0_cellsTo_8 : decode cX0_cellsTo 8 = .ok (.istore 8, 2) := by decide +kernel
theorem dX0_cellsTo_10 : decode cX0_cellsTo 10 = .ok (.iload 8, 2) := by decide +kernel
theorem dX0_cellsTo_12 : decode cX0_cellsTo 12 = .ok (.sipush 512, 3) := by decide +kernel
theorem dX0_cellsTo_15 : decode cX0_cellsTo 15 = .ok (.if_icmp .gt 63, 3) := by decide +kernel
theorem dX0_cellsTo_18 : decode cX0_cellsTo 18 = .ok (.aload_n 1, 1) := by decide +kernel
theorem dX0_cellsTo_19 : decode cX0_cellsTo 19 = .ok (.iload 6, 2) := by decide +kernel
theorem dX0_cellsTo_21 : decode cX0_cellsTo 21 = .ok (.iload 7, 2) := by decide +kernel
theorem dX0_cellsTo_23 : decode cX0_cellsTo 23 = .ok (.invokevirtual 65, 3) := by decide +kernel
theorem dX0_cellsTo_26 : decode cX0_cellsTo 26 = .ok (.istore 6, 2) := by decide +kernel
theorem dX0_cellsTo_28 : decode cX0_cellsTo 28 = .ok (.iload 6, 2) := by decide +kernel
theorem dX0_cellsTo_30 : decode cX0_cellsTo 30 = .ok (.iload 5, 2) := by decide +kernel
theorem dX0_cellsTo_32 : decode cX0_cellsTo 32 = .ok (.if_icmp .ne 6, 3) := by decide +kernel
theorem dX0_cellsTo_35 : decode cX0_cellsTo 35 = .ok (.iload 8, 2) := by decide +kernel
theorem dX0_cellsTo_37 : decode cX0_cellsTo 37 = .ok (.ireturn, 1) := by decide +kernel
theorem dX0_cellsTo_38 : decode cX0_cellsTo 38 = .ok (.iload 6, 2) := by decide +kernel
theorem dX0_cellsTo_40 : decode cX0_cellsTo 40 = .ok (.iconst (-1), 1) := by decide +kernel
theorem dX0_cellsTo_41 : decode cX0_cellsTo 41 = .ok (.if_icmp .eq 9, 3) := by decide +kernel
theorem dX0_cellsTo_44 : decode cX0_cellsTo 44 = .ok (.iload 6, 2) := by decide +kernel
theorem dX0_cellsTo_46 : decode cX0_cellsTo 46 = .ok (.iload_n 3, 1) := by decide +kernel
theorem dX0_cellsTo_47 : decode cX0_cellsTo 47 = .ok (.if_icmp .ne 5, 3) := by decide +kernel
theorem dX0_cellsTo_50 : decode cX0_cellsTo 50 = .ok (.iconst (-1), 1) := by decide +kernel
theorem dX0_cellsTo_51 : decode cX0_cellsTo 51 = .ok (.ireturn, 1) := by decide +kernel
theorem dX0_cellsTo_52 : decode cX0_cellsTo 52 = .ok (.aload_n 0, 1) := by decide +kernel
theorem dX0_cellsTo_53 : decode cX0_cellsTo 53 = .ok (.aload_n 1, 1) := by decide +kernel
theorem dX0_cellsTo_54 : decode cX0_cellsTo 54 = .ok (.iload 6, 2) := by decide +kernel
theorem dX0_cellsTo_56 : decode cX0_cellsTo 56 = .ok (.iload_n 2, 1) := by decide +kernel
theorem dX0_cellsTo_57 : decode cX0_cellsTo 57 = .ok (.iload 7, 2) := by decide +kernel
theorem dX0_cellsTo_59 : decode cX0_cellsTo 59 = .ok (.invokevirtual 61, 3) := by decide +kernel
theorem dX0_cellsTo_62 : decode cX0_cellsTo 62 = .ok (.istore 7, 2) := by decide +kernel
theorem dX0_cellsTo_64 : decode cX0_cellsTo 64 = .ok (.iload 7, 2) := by decide +kernel
theorem dX0_cellsTo_66 : decode cX0_cellsTo 66 = .ok (.iconst (-1), 1) := by decide +kernel
theorem dX0_cellsTo_67 : decode cX0_cellsTo 67 = .ok (.if_icmp .ne 5, 3) := by decide +kernel
theorem dX0_cellsTo_70 : decode cX0_cellsTo 70 = .ok (.iconst (-1), 1) := by decide +kernel
theorem dX0_cellsTo_71 : decode cX0_cellsTo 71 = .ok (.ireturn, 1) := by decide +kernel
theorem dX0_cellsTo_72 : decode cX0_cellsTo 72 = .ok (.iinc 8 1, 3) := by decide +kernel
theorem dX0_cellsTo_75 : decode cX0_cellsTo 75 = .ok (.goto (-65), 3) := by decide +kernel
theorem dX0_cellsTo_78 : decode cX0_cellsTo 78 = .ok (.iconst (-1), 1) := by decide +kernel
theorem dX0_cellsTo_79 : decode cX0_cellsTo 79 = .ok (.ireturn, 1) := by decide +kernel
theorem dX0_clearSeen_0 : decode cX0_clearSeen 0 = .ok (.aload_n 0, 1) := by decide +kernel
theorem dX0_clearSeen_1 : decode cX0_clearSeen 1 = .ok (.getfield 15, 3) := by decide +kernel
theorem dX0_clearSeen_4 : decode cX0_clearSeen 4 = .ok (.iconst 0, 1) := by decide +kernel
theorem dX0_clearSeen_5 : decode cX0_clearSeen 5 = .ok (.invokestatic 78, 3) := by decide +kernel
theorem dX0_clearSeen_8 : decode cX0_clearSeen 8 = .ok (.return_, 1) := by decide +kernel
theorem dX0_seenBy_0 : decode cX0_seenBy 0 = .ok (.iload_n 1, 1) := by decide +kernel
theorem dX0_seenBy_1 : decode cX0_seenBy 1 = .ok (.ifCond .lt 19, 3) := by decide +kernel
theorem dX0_seenBy_4 : decode cX0_seenBy 4 = .ok (.iload_n 1, 1) := by decide +kernel
theorem dX0_seenBy_5 : decode cX0_seenBy 5 = .ok (.sipush 512, 3) := by decide +kernel
theorem dX0_seenBy_8 : decode cX0_seenBy 8 = .ok (.if_icmp .ge 12, 3) := by decide +kernel
theorem dX0_seenBy_11 : decode cX0_seenBy 11 = .ok (.aload_n 0, 1) := by decide +kernel
theorem dX0_seenBy_12 : decode cX0_seenBy 12 = .ok (.getfield 15, 3) := by decide +kernel
theorem dX0_seenBy_15 : decode cX0_seenBy 15 = .ok (.iload_n 1, 1) := by decide +kernel
theorem dX0_seenBy_16 : decode cX0_seenBy 16 = .ok (.iaload, 1) := by decide +kernel
theorem dX0_seenBy_17 : decode cX0_seenBy 17 = .ok (.goto 4, 3) := by decide +kernel
theorem dX0_seenBy_20 : decode cX0_seenBy 20 = .ok (.iconst 0, 1) := by decide +kernel
theorem dX0_seenBy_21 : decode cX0_seenBy 21 = .ok (.ireturn, 1) := by decide +kernel
theorem dX0_seeWalks_0 : decode cX0_seeWalks 0 = .ok (.iconst (-1), 1) := by decide +kernel
theorem dX0_seeWalks_1 : decode cX0_seeWalks 1 = .ok (.istore_n 3, 1) := by decide +kernel
theorem dX0_seeWalks_2 : decode cX0_seeWalks 2 = .ok (.iconst 0, 1) := by decide +kernel
theorem dX0_seeWalks_3 : decode cX0_seeWalks 3 = .ok (.istore 4, 2) := by decide +kernel
theorem dX0_seeWalks_5 : decode cX0_seeWalks 5 = .ok (.aload_n 0, 1) := by decide +kernel
theorem dX0_seeWalks_6 : decode cX0_seeWalks 6 = .ok (.iconst 0, 1) := by decide +kernel
theorem dX0_seeWalks_7 : decode cX0_seeWalks 7 = .ok (.putfield 26, 3) := by decide +kernel
theorem dX0_seeWalks_10 : decode cX0_seeWalks 10 = .ok (.iconst 0, 1) := by decide +kernel
theorem dX0_seeWalks_11 : decode cX0_seeWalks 11 = .ok (.istore 5, 2) := by decide +kernel
theorem dX0_seeWalks_13 : decode cX0_seeWalks 13 = .ok (.iload 5, 2) := by decide +kernel
theorem dX0_seeWalks_15 : decode cX0_seeWalks 15 = .ok (.aload_n 1, 1) := by decide +kernel
theorem dX0_seeWalks_16 : decode cX0_seeWalks 16 = .ok (.getfield 50, 3) := by decide +kernel
theorem dX0_seeWalks_19 : decode cX0_seeWalks 19 = .ok (.if_icmp .ge 71, 3) := by decide +kernel
theorem dX0_seeWalks_22 : decode cX0_seeWalks 22 = .ok (.aload_n 0, 1) := by decide +kernel
theorem dX0_seeWalks_23 : decode cX0_seeWalks 23 = .ok (.aload_n 1, 1) := by decide +kernel
theorem dX0_seeWalks_24 : decode cX0_seeWalks 24 = .ok (.iload_n 2, 1) := by decide +kernel
theorem dX0_seeWalks_25 : decode cX0_seeWalks 25 = .ok (.iload 5, 2) := by decide +kernel
theorem dX0_seeWalks_27 : decode cX0_seeWalks 27 = .ok (.invokevirtual 46, 3) := by decide +kernel
theorem dX0_seeWalks_30 : decode cX0_seeWalks 30 = .ok (.ifCond .ne 6, 3) := by decide +kernel
theorem dX0_seeWalks_33 : decode cX0_seeWalks 33 = .ok (.goto 51, 3) := by decide +kernel
theorem dX0_seeWalks_36 : decode cX0_seeWalks 36 = .ok (.aload_n 0, 1) := by decide +kernel
theorem dX0_seeWalks_37 : decode cX0_seeWalks 37 = .ok (.aload_n 1, 1) := by decide +kernel
theorem dX0_seeWalks_38 : decode cX0_seeWalks 38 = .ok (.iload_n 2, 1) := by decide +kernel
theorem dX0_seeWalks_39 : decode cX0_seeWalks 39 = .ok (.aload_n 1, 1) := by decide +kernel
theorem dX0_seeWalks_40 : decode cX0_seeWalks 40 = .ok (.iload_n 2, 1) := by decide +kernel
theorem dX0_seeWalks_41 : decode cX0_seeWalks 41 = .ok (.iload 5, 2) := by decide +kernel
theorem dX0_seeWalks_43 : decode cX0_seeWalks 43 = .ok (.invokevirtual 39, 3) := by decide +kernel
theorem dX0_seeWalks_46 : decode cX0_seeWalks 46 = .ok (.aload_n 0, 1) := by decide +kernel
theorem dX0_seeWalks_47 : decode cX0_seeWalks 47 = .ok (.iload_n 2, 1) := by decide +kernel
theorem dX0_seeWalks_48 : decode cX0_seeWalks 48 = .ok (.invokevirtual 42, 3) := by decide +kernel
theorem dX0_seeWalks_51 : decode cX0_seeWalks 51 = .ok (.invokevirtual 57, 3) := by decide +kernel
theorem dX0_seeWalks_54 : decode cX0_seeWalks 54 = .ok (.aload_n 0, 1) := by decide +kernel
theorem dX0_seeWalks_55 : decode cX0_seeWalks 55 = .ok (.iload_n 2, 1) := by decide +kernel
theorem dX0_seeWalks_56 : decode cX0_seeWalks 56 = .ok (.invokevirtual 84, 3) := by decide +kernel
theorem dX0_seeWalks_59 : decode cX0_seeWalks 59 = .ok (.aload_n 0, 1) := by decide +kernel
theorem dX0_seeWalks_60 : decode cX0_seeWalks 60 = .ok (.getfield 18, 3) := by decide +kernel
theorem dX0_seeWalks_63 : decode cX0_seeWalks 63 = .ok (.aload_n 0, 1) := by decide +kernel
theorem dX0_seeWalks_64 : decode cX0_seeWalks 64 = .ok (.getfield 26, 3) := by decide +kernel
theorem dX0_seeWalks_67 : decode cX0_seeWalks 67 = .ok (.if_icmp .le 14, 3) := by decide +kernel
theorem dX0_seeWalks_70 : decode cX0_seeWalks 70 = .ok (.aload_n 0, 1) := by decide +kernel
theorem dX0_seeWalks_71 : decode cX0_seeWalks 71 = .ok (.aload_n 0, 1) := by decide +kernel
theorem dX0_seeWalks_72 : decode cX0_seeWalks 72 = .ok (.getfield 18, 3) := by decide +kernel
theorem dX0_seeWalks_75 : decode cX0_seeWalks 75 = .ok (.putfield 26, 3) := by decide +kernel
theorem dX0_seeWalks_78 : decode cX0_seeWalks 78 = .ok (.iload 4, 2) := by decide +kernel
theorem dX0_seeWalks_80 : decode cX0_seeWalks 80 = .ok (.istore_n 3, 1) := by decide +kernel
theorem dX0_seeWalks_81 : decode cX0_seeWalks 81 = .ok (.iinc 4 1, 3) := by decide +kernel
theorem dX0_seeWalks_84 : decode cX0_seeWalks 84 = .ok (.iinc 5 1, 3) := by decide +kernel
theorem dX0_seeWalks_87 : decode cX0_seeWalks 87 = .ok (.goto (-74), 3) := by decide +kernel
theorem dX0_seeWalks_90 : decode cX0_seeWalks 90 = .ok (.iload_n 3, 1) := by decide +kernel
theorem dX0_seeWalks_91 : decode cX0_seeWalks 91 = .ok (.ireturn, 1) := by decide +kernel
theorem dX0_seeWay_0 : decode cX0_seeWay 0 = .ok (.iconst 0, 1) := by decide +kernel
theorem dX0_seeWay_1 : decode cX0_seeWay 1 = .ok (.istore_n 2, 1) := by decide +kernel
theorem dX0_seeWay_2 : decode cX0_seeWay 2 = .ok (.iload_n 2, 1) := by decide +kernel
theorem dX0_seeWay_3 : decode cX0_seeWay 3 = .ok (.aload_n 0, 1) := by decide +kernel
theorem dX0_seeWay_4 : decode cX0_seeWay 4 = .ok (.getfield 18, 3) := by decide +kernel
theorem dX0_seeWay_7 : decode cX0_seeWay 7 = .ok (.if_icmp .ge 38, 3) := by decide +kernel
theorem dX0_seeWay_10 : decode cX0_seeWay 10 = .ok (.aload_n 0, 1) := by decide +kernel
theorem dX0_seeWay_11 : decode cX0_seeWay 11 = .ok (.iload_n 2, 1) := by decide +kernel
theorem dX0_seeWay_12 : decode cX0_seeWay 12 = .ok (.invokevirtual 68, 3) := by decide +kernel
theorem dX0_seeWay_15 : decode cX0_seeWay 15 = .ok (.istore_n 3, 1) := by decide +kernel
theorem dX0_seeWay_16 : decode cX0_seeWay 16 = .ok (.iload_n 3, 1) := by decide +kernel
theorem dX0_seeWay_17 : decode cX0_seeWay 17 = .ok (.ifCond .lt 22, 3) := by decide +kernel
theorem dX0_seeWay_20 : decode cX0_seeWay 20 = .ok (.iload_n 3, 1) := by decide +kernel
theorem dX0_seeWay_21 : decode cX0_seeWay 21 = .ok (.sipush 512, 3) := by decide +kernel
theorem dX0_seeWay_24 : decode cX0_seeWay 24 = .ok (.if_icmp .ge 15, 3) := by decide +kernel
theorem dX0_seeWay_27 : decode cX0_seeWay 27 = .ok (.aload_n 0, 1) := by decide +kernel
theorem dX0_seeWay_28 : decode cX0_seeWay 28 = .ok (.getfield 15, 3) := by decide +kernel
theorem dX0_seeWay_31 : decode cX0_seeWay 31 = .ok (.iload_n 3, 1) := by decide +kernel
theorem dX0_seeWay_32 : decode cX0_seeWay 32 = .ok (.dup2, 1) := by decide +kernel
theorem dX0_seeWay_33 : decode cX0_seeWay 33 = .ok (.iaload, 1) := by decide +kernel
theorem dX0_seeWay_34 : decode cX0_seeWay 34 = .ok (.iconst 1, 1) := by decide +kernel
theorem dX0_seeWay_35 : decode cX0_seeWay 35 = .ok (.iload_n 1, 1) := by decide +kernel
theorem dX0_seeWay_36 : decode cX0_seeWay 36 = .ok (.ishl, 1) := by decide +kernel
theorem dX0_seeWay_37 : decode cX0_seeWay 37 = .ok (.ior, 1) := by decide +kernel
theorem dX0_seeWay_38 : decode cX0_seeWay 38 = .ok (.iastore, 1) := by decide +kernel
theorem dX0_seeWay_39 : decode cX0_seeWay 39 = .ok (.iinc 2 1, 3) := by decide +kernel
theorem dX0_seeWay_42 : decode cX0_seeWay 42 = .ok (.goto (-40), 3) := by decide +kernel
theorem dX0_seeWay_45 : decode cX0_seeWay 45 = .ok (.return_, 1) := by decide +kernel
