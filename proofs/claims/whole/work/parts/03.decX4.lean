theorem dX4_init_0 : decode cX4_init 0 = .ok (.aload_n 0, 1) := by decide +kernel
theorem dX4_init_1 : decode cX4_init 1 = .ok (.invokespecial 3, 3) := by decide +kernel
theorem dX4_init_4 : decode cX4_init 4 = .ok (.aload_n 0, 1) := by decide +kernel
theorem dX4_init_5 : decode cX4_init 5 = .ok (.bipush 12, 2) := by decide +kernel
theorem dX4_init_7 : decode cX4_init 7 = .ok (.newarray .int, 2) := by decide +kernel
theorem dX4_init_9 : decode cX4_init 9 = .ok (.putfield 9, 3) := by decide +kernel
theorem dX4_init_12 : decode cX4_init 12 = .ok (.aload_n 0, 1) := by decide +kernel
theorem dX4_init_13 : decode cX4_init 13 = .ok (.bipush 12, 2) := by decide +kernel
theorem dX4_init_15 : decode cX4_init 15 = .ok (.newarray .int, 2) := by decide +kernel
theorem dX4_init_17 : decode cX4_init 17 = .ok (.putfield 15, 3) := by decide +kernel
theorem dX4_init_20 : decode cX4_init 20 = .ok (.aload_n 0, 1) := by decide +kernel
theorem dX4_init_21 : decode cX4_init 21 = .ok (.bipush 9, 2) := by decide +kernel
theorem dX4_init_23 : decode cX4_init 23 = .ok (.newarray .long, 2) := by decide +kernel
theorem dX4_init_25 : decode cX4_init 25 = .ok (.putfield 18, 3) := by decide +kernel
theorem dX4_init_28 : decode cX4_init 28 = .ok (.aload_n 0, 1) := by decide +kernel
theorem dX4_init_29 : decode cX4_init 29 = .ok (.iconst 0, 1) := by decide +kernel
theorem dX4_init_30 : decode cX4_init 30 = .ok (.putfield 22, 3) := by decide +kernel
theorem dX4_init_33 : decode cX4_init 33 = .ok (.aload_n 0, 1) := by decide +kernel
theorem dX4_init_34 : decode cX4_init 34 = .ok (.iconst 0, 1) := by decide +kernel
theorem dX4_init_35 : decode cX4_init 35 = .ok (.putfield 26, 3) := by decide +kernel
theorem dX4_init_38 : decode cX4_init 38 = .ok (.return_, 1) := by decide +kernel
theorem dX4_copy_0 : decode cX4_copy 0 = .ok (.aload_n 0, 1) := by decide +kernel
theorem dX4_copy_1 : decode cX4_copy 1 = .ok (.aload_n 1, 1) := by decide +kernel
theorem dX4_copy_2 : decode cX4_copy 2 = .ok (.getfield 22, 3) := by decide +kernel
theorem dX4_copy_5 : decode cX4_copy 5 = .ok (.putfield 22, 3) := by decide +kernel
theorem dX4_copy_8 : decode cX4_copy 8 = .ok (.aload_n 0, 1) := by decide +kernel
theorem dX4_copy_9 : decode cX4_copy 9 = .ok (.aload_n 1, 1) := by decide +kernel
theorem dX4_copy_10 : decode cX4_copy 10 = .ok (.getfield 26, 3) := by decide +kernel
theorem dX4_copy_13 : decode cX4_copy 13 = .ok (.putfield 26, 3) := by decide +kernel
theorem dX4_copy_16 : decode cX4_copy 16 = .ok (.aload_n 1, 1) := by decide +kernel
theorem dX4_copy_17 : decode cX4_copy 17 = .ok (.getfield 9, 3) := by decide +kernel
theorem dX4_copy_20 : decode cX4_copy 20 = .ok (.iconst 0, 1) := by decide +kernel
theorem dX4_copy_21 : decode cX4_copy 21 = .ok (.aload_n 0, 1) := by decide +kernel
theorem dX4_copy_22 : decode cX4_copy 22 = .ok (.getfield 9, 3) := by decide +kernel
theorem dX4_copy_25 : decode cX4_copy 25 = .ok (.iconst 0, 1) := by decide +kernel
theorem dX4_copy_26 : decode cX4_copy 26 = .ok (.aload_n 0, 1) := by decide +kernel
theorem dX4_copy_27 : decode cX4_copy 27 = .ok (.getfield 9, 3) := by decide +kernel
theorem dX4_copy_30 : decode cX4_copy 30 = .ok (.arraylength, 1) := by decide +kernel
theorem dX4_copy_31 : decode cX4_copy 31 = .ok (.invokestatic 29, 3) := by decide +kernel
theorem dX4_copy_34 : decode cX4_copy 34 = .ok (.aload_n 1, 1) := by decide +kernel
theorem dX4_copy_35 : decode cX4_copy 35 = .ok (.getfield 15, 3) := by decide +kernel
theorem dX4_copy_38 : decode cX4_copy 38 = .ok (.iconst 0, 1) := by decide +kernel
theorem dX4_copy_39 : decode cX4_copy 39 = .ok (.aload_n 0, 1) := by decide +kernel
theorem dX4_copy_40 : decode cX4_copy 40 = .ok (.getfield 15, 3) := by decide +kernel
theorem dX4_copy_43 : decode cX4_copy 43 = .ok (.iconst 0, 1) := by decide +kernel
theorem dX4_copy_44 : decode cX4_copy 44 = .ok (.aload_n 0, 1) := by decide +kernel
theorem dX4_copy_45 : decode cX4_copy 45 = .ok (.getfield 15, 3) := by decide +kernel
theorem dX4_copy_48 : decode cX4_copy 48 = .ok (.arraylength, 1) := by decide +kernel
theorem dX4_copy_49 : decode cX4_copy 49 = .ok (.invokestatic 29, 3) := by decide +kernel
theorem dX4_copy_52 : decode cX4_copy 52 = .ok (.aload_n 1, 1) := by decide +kernel
theorem dX4_copy_53 : decode cX4_copy 53 = .ok (.getfield 18, 3) := by decide +kernel
theorem dX4_copy_56 : decode cX4_copy 56 = .ok (.iconst 0, 1) := by decide +kernel
theorem dX4_copy_57 : decode cX4_copy 57 = .ok (.aload_n 0, 1) := by decide +kernel
theorem dX4_copy_58 : decode cX4_copy 58 = .ok (.getfield 18, 3) := by decide +kernel
theorem dX4_copy_61 : decode cX4_copy 61 = .ok (.iconst 0, 1) := by decide +kernel
theorem dX4_copy_62 : decode cX4_copy 62 = .ok (.aload_n 0, 1) := by decide +kernel
theorem dX4_copy_63 : decode cX4_copy 63 = .ok (.getfield 18, 3) := by decide +kernel
theorem dX4_copy_66 : decode cX4_copy 66 = .ok (.arraylength, 1) := by decide +kernel
theorem dX4_copy_67 : decode cX4_copy 67 = .ok (.invokestatic 29, 3) := by decide +kernel
theorem dX4_copy_70 : decode cX4_copy 70 = .ok (.return_, 1) := by decide +kernel
theorem dX4_readExchange_0 : decode cX4_readExchange 0 = .ok (.aload_n 0, 1) := by decide +kernel
theorem dX4_readExchange_1 : decode cX4_readExchange 1 = .ok (.iconst 1, 1) := by decide +kernel
theorem dX4_readExchange_2 : decode cX4_readExchange 2 = .ok (.putfield 22, 3) := by decide +kernel
theorem dX4_readExchange_5 : decode cX4_readExchange 5 = .ok (.aload_n 0, 1) := by decide +kernel
theorem dX4_readExchange_6 : decode cX4_readExchange 6 = .ok (.iload_n 2, 1) := by decide +kernel
theorem dX4_readExchange_7 : decode cX4_readExchange 7 = .ok (.iconst 4, 1) := by decide +kernel
theorem dX4_readExchange_8 : decode cX4_readExchange 8 = .ok (.invokestatic 35, 3) := by decide +kernel
theorem dX4_readExchange_11 : decode cX4_readExchange 11 = .ok (.putfield 26, 3) := by decide +kernel
theorem dX4_readExchange_14 : decode cX4_readExchange 14 = .ok (.iconst 0, 1) := by decide +kernel
theorem dX4_readExchange_15 : decode cX4_readExchange 15 = .ok (.istore_n 3, 1) := by decide +kernel
theorem dX4_readExchange_16 : decode cX4_readExchange 16 = .ok (.iload_n 3, 1) := by decide +kernel
theorem dX4_readExchange_17 : decode cX4_readExchange 17 = .ok (.aload_n 0, 1) := by decide +kernel
theorem dX4_readExchange_18 : decode cX4_readExchange 18 = .ok (.getfield 26, 3) := by decide +kernel
theorem dX4_readExchange_21 : decode cX4_readExchange 21 = .ok (.if_icmp .ge 70, 3) := by decide +kernel
theorem dX4_readExchange_24 : decode cX4_readExchange 24 = .ok (.iconst 0, 1) := by decide +kernel
theorem dX4_readExchange_25 : decode cX4_readExchange 25 = .ok (.istore 4, 2) := by decide +kernel
theorem dX4_readExchange_27 : decode cX4_readExchange 27 = .ok (.iload 4, 2) := by decide +kernel
theorem dX4_readExchange_29 : decode cX4_readExchange 29 = .ok (.iconst 3, 1) := by decide +kernel
theorem dX4_readExchange_30 : decode cX4_readExchange 30 = .ok (.if_icmp .ge 55, 3) := by decide +kernel
theorem dX4_readExchange_33 : decode cX4_readExchange 33 = .ok (.aload_n 0, 1) := by decide +kernel
theorem dX4_readExchange_34 : decode cX4_readExchange 34 = .ok (.getfield 9, 3) := by decide +kernel
theorem dX4_readExchange_37 : decode cX4_readExchange 37 = .ok (.iconst 3, 1) := by decide +kernel
theorem dX4_readExchange_38 : decode cX4_readExchange 38 = .ok (.iload_n 3, 1) := by decide +kernel
theorem dX4_readExchange_39 : decode cX4_readExchange 39 = .ok (.imul, 1) := by decide +kernel
theorem dX4_readExchange_40 : decode cX4_readExchange 40 = .ok (.iload 4, 2) := by decide +kernel
theorem dX4_readExchange_42 : decode cX4_readExchange 42 = .ok (.iadd, 1) := by decide +kernel
theorem dX4_readExchange_43 : decode cX4_readExchange 43 = .ok (.aload_n 1, 1) := by decide +kernel
theorem dX4_readExchange_44 : decode cX4_readExchange 44 = .ok (.bipush 7, 2) := by decide +kernel
theorem dX4_readExchange_46 : decode cX4_readExchange 46 = .ok (.iload_n 3, 1) := by decide +kernel
theorem dX4_readExchange_47 : decode cX4_readExchange 47 = .ok (.imul, 1) := by decide +kernel
theorem dX4_readExchange_48 : decode cX4_readExchange 48 = .ok (.iload 4, 2) := by decide +kernel
theorem dX4_readExchange_50 : decode cX4_readExchange 50 = .ok (.iadd, 1) := by decide +kernel
theorem dX4_readExchange_51 : decode cX4_readExchange 51 = .ok (.invokevirtual 41, 3) := by decide +kernel
theorem dX4_readExchange_54 : decode cX4_readExchange 54 = .ok (.iastore, 1) := by decide +kernel
theorem dX4_readExchange_55 : decode cX4_readExchange 55 = .ok (.aload_n 0, 1) := by decide +kernel
theorem dX4_readExchange_56 : decode cX4_readExchange 56 = .ok (.getfield 15, 3) := by decide +kernel
theorem dX4_readExchange_59 : decode cX4_readExchange 59 = .ok (.iconst 3, 1) := by decide +kernel
theorem dX4_readExchange_60 : decode cX4_readExchange 60 = .ok (.iload_n 3, 1) := by decide +kernel
theorem dX4_readExchange_61 : decode cX4_readExchange 61 = .ok (.imul, 1) := by decide +kernel
theorem dX4_readExchange_62 : decode cX4_readExchange 62 = .ok (.iload 4, 2) := by decide +kernel
theorem dX4_readExchange_64 : decode cX4_readExchange 64 = .ok (.iadd, 1) := by decide +kernel
theorem dX4_readExchange_65 : decode cX4_readExchange 65 = .ok (.aload_n 1, 1) := by decide +kernel
theorem dX4_readExchange_66 : decode cX4_readExchange 66 = .ok (.bipush 7, 2) := by decide +kernel
theorem dX4_readExchange_68 : decode cX4_readExchange 68 = .ok (.iload_n 3, 1) := by decide +kernel
theorem dX4_readExchange_69 : decode cX4_readExchange 69 = .ok (.imul, 1) := by decide +kernel
theorem dX4_readExchange_70 : decode cX4_readExchange 70 = .ok (.iconst 3, 1) := by decide +kernel
theorem dX4_readExchange_71 : decode cX4_readExchange 71 = .ok (.iadd, 1) := by decide +kernel
theorem dX4_readExchange_72 : decode cX4_readExchange 72 = .ok (.iload 4, 2) := by decide +kernel
theorem dX4_readExchange_74 : decode cX4_readExchange 74 = .ok (.iadd, 1) := by decide +kernel
theorem dX4_readExchange_75 : decode cX4_readExchange 75 = .ok (.invokevirtual 41, 3) := by decide +kernel
theorem dX4_readExchange_78 : decode cX4_readExchange 78 = .ok (.iastore, 1) := by decide +kernel
theorem dX4_readExchange_79 : decode cX4_readExchange 79 = .ok (.iinc 4 1, 3) := by decide +kernel
theorem dX4_readExchange_82 : decode cX4_readExchange 82 = .ok (.goto (-55), 3) := by decide +kernel
theorem dX4_readExchange_85 : decode cX4_readExchange 85 = .ok (.iinc 3 1, 3) := by decide +kernel
theorem dX4_readExchange_88 : decode cX4_readExchange 88 = .ok (.goto (-72), 3) := by decide +kernel
theorem dX4_readExchange_91 : decode cX4_readExchange 91 = .ok (.aload_n 0, 1) := by decide +kernel
theorem dX4_readExchange_92 : decode cX4_readExchange 92 = .ok (.invokevirtual 47, 3) := by decide +kernel
theorem dX4_readExchange_95 : decode cX4_readExchange 95 = .ok (.return_, 1) := by decide +kernel
theorem dX4_readMap_0 : decode cX4_readMap 0 = .ok (.aload_n 0, 1) := by decide +kernel
theorem dX4_readMap_1 : decode cX4_readMap 1 = .ok (.iconst 2, 1) := by decide +kernel
theorem dX4_readMap_2 : decode cX4_readMap 2 = .ok (.putfield 22, 3) := by decide +kernel
theorem dX4_readMap_5 : decode cX4_readMap 5 = .ok (.iconst 0, 1) := by decide +kernel
theorem dX4_readMap_6 : decode cX4_readMap 6 = .ok (.istore_n 3, 1) := by decide +kernel
theorem dX4_readMap_7 : decode cX4_readMap 7 = .ok (.iload_n 3, 1) := by decide +kernel
theorem dX4_readMap_8 : decode cX4_readMap 8 = .ok (.iconst 3, 1) := by decide +kernel
theorem dX4_readMap_9 : decode cX4_readMap 9 = .ok (.if_icmp .ge 58, 3) := by decide +kernel
theorem dX4_readMap_12 : decode cX4_readMap 12 = .ok (.iconst 0, 1) := by decide +kernel
theorem dX4_readMap_13 : decode cX4_readMap 13 = .ok (.istore 4, 2) := by decide +kernel
theorem dX4_readMap_15 : decode cX4_readMap 15 = .ok (.iload 4, 2) := by decide +kernel
theorem dX4_readMap_17 : decode cX4_readMap 17 = .ok (.iconst 3, 1) := by decide +kernel
theorem dX4_readMap_18 : decode cX4_readMap 18 = .ok (.if_icmp .ge 43, 3) := by decide +kernel
theorem dX4_readMap_21 : decode cX4_readMap 21 = .ok (.aload_n 0, 1) := by decide +kernel
theorem dX4_readMap_22 : decode cX4_readMap 22 = .ok (.getfield 18, 3) := by decide +kernel
theorem dX4_readMap_25 : decode cX4_readMap 25 = .ok (.iconst 3, 1) := by decide +kernel
theorem dX4_readMap_26 : decode cX4_readMap 26 = .ok (.iload_n 3, 1) := by decide +kernel
theorem dX4_readMap_27 : decode cX4_readMap 27 = .ok (.imul, 1) := by decide +kernel
theorem dX4_readMap_28 : decode cX4_readMap 28 = .ok (.iload 4, 2) := by decide +kernel
theorem dX4_readMap_30 : decode cX4_readMap 30 = .ok (.iadd, 1) := by decide +kernel
theorem dX4_readMap_31 : decode cX4_readMap 31 = .ok (.aload_n 1, 1) := by decide +kernel
theorem dX4_readMap_32 : decode cX4_readMap 32 = .ok (.iconst 3, 1) := by decide +kernel
theorem dX4_readMap_33 : decode cX4_readMap 33 = .ok (.iload_n 3, 1) := by decide +kernel
theorem dX4_readMap_34 : decode cX4_readMap 34 = .ok (.imul, 1) := by decide +kernel
theorem dX4_readMap_35 : decode cX4_readMap 35 = .ok (.iload 4, 2) := by decide +kernel
theorem dX4_readMap_37 : decode cX4_readMap 37 = .ok (.iadd, 1) := by decide +kernel
theorem dX4_readMap_38 : decode cX4_readMap 38 = .ok (.invokevirtual 41, 3) := by decide +kernel
theorem dX4_readMap_41 : decode cX4_readMap 41 = .ok (.iload_n 3, 1) := by decide +kernel
theorem dX4_readMap_42 : decode cX4_readMap 42 = .ok (.iload 4, 2) := by decide +kernel
theorem dX4_readMap_44 : decode cX4_readMap 44 = .ok (.if_icmp .ne 7, 3) := by decide +kernel
theorem dX4_readMap_47 : decode cX4_readMap 47 = .ok (.iload_n 2, 1) := by decide +kernel
theorem dX4_readMap_48 : decode cX4_readMap 48 = .ok (.goto 4, 3) := by decide +kernel
theorem dX4_readMap_51 : decode cX4_readMap 51 = .ok (.iconst 0, 1) := by decide +kernel
theorem dX4_readMap_52 : decode cX4_readMap 52 = .ok (.isub, 1) := by decide +kernel
theorem dX4_readMap_53 : decode cX4_readMap 53 = .ok (.i2l, 1) := by decide +kernel
theorem dX4_readMap_54 : decode cX4_readMap 54 = .ok (.lastore, 1) := by decide +kernel
theorem dX4_readMap_55 : decode cX4_readMap 55 = .ok (.iinc 4 1, 3) := by decide +kernel
theorem dX4_readMap_58 : decode cX4_readMap 58 = .ok (.goto (-43), 3) := by decide +kernel
theorem dX4_readMap_61 : decode cX4_readMap 61 = .ok (.iinc 3 1, 3) := by decide +kernel
theorem dX4_readMap_64 : decode cX4_readMap 64 = .ok (.goto (-57), 3) := by decide +kernel
theorem dX4_readMap_67 : decode cX4_readMap 67 = .ok (.return_, 1) := by decide +kernel
theorem dX4_amount_0 : decode cX4_amount 0 = .ok (.iconst 3, 1) := by decide +kernel
theorem dX4_amount_1 : decode cX4_amount 1 = .ok (.iload_n 1, 1) := by decide +kernel
theorem dX4_amount_2 : decode cX4_amount 2 = .ok (.imul, 1) := by decide +kernel
theorem dX4_amount_3 : decode cX4_amount 3 = .ok (.iload_n 2, 1) := by decide +kernel
theorem dX4_amount_4 : decode cX4_amount 4 = .ok (.iadd, 1) := by decide +kernel
theorem dX4_amount_5 : decode cX4_amount 5 = .ok (.istore_n 3, 1) := by decide +kernel
theorem dX4_amount_6 : decode cX4_amount 6 = .ok (.iload_n 3, 1) := by decide +kernel
theorem dX4_amount_7 : decode cX4_amount 7 = .ok (.ifCond .lt 21, 3) := by decide +kernel
theorem dX4_amount_10 : decode cX4_amount 10 = .ok (.iload_n 3, 1) := by decide +kernel
theorem dX4_amount_11 : decode cX4_amount 11 = .ok (.aload_n 0, 1) := by decide +kernel
theorem dX4_amount_12 : decode cX4_amount 12 = .ok (.getfield 9, 3) := by decide +kernel
theorem dX4_amount_15 : decode cX4_amount 15 = .ok (.arraylength, 1) := by decide +kernel
theorem dX4_amount_16 : decode cX4_amount 16 = .ok (.if_icmp .ge 12, 3) := by decide +kernel
theorem dX4_amount_19 : decode cX4_amount 19 = .ok (.aload_n 0, 1) := by decide +kernel
theorem dX4_amount_20 : decode cX4_amount 20 = .ok (.getfield 9, 3) := by decide +kernel
theorem dX4_amount_23 : decode cX4_amount 23 = .ok (.iload_n 3, 1) := by decide +kernel
theorem dX4_amount_24 : decode cX4_amount 24 = .ok (.iaload, 1) := by decide +kernel
theorem dX4_amount_25 : decode cX4_amount 25 = .ok (.goto 4, 3) := by decide +kernel
theorem dX4_amount_28 : decode cX4_amount 28 = .ok (.iconst 0, 1) := by decide +kernel
theorem dX4_amount_29 : decode cX4_amount 29 = .ok (.ireturn, 1) := by decide +kernel
theorem dX4_wish_0 : decode cX4_wish 0 = .ok (.iconst 3, 1) := by decide +kernel
theorem dX4_wish_1 : decode cX4_wish 1 = .ok (.iload_n 1, 1) := by decide +kernel
theorem dX4_wish_2 : decode cX4_wish 2 = .ok (.imul, 1) := by decide +kernel
theorem dX4_wish_3 : decode cX4_wish 3 = .ok (.iload_n 2, 1) := by decide +kernel
theorem dX4_wish_4 : decode cX4_wish 4 = .ok (.iadd, 1) := by decide +kernel
theorem dX4_wish_5 : decode cX4_wish 5 = .ok (.istore_n 3, 1) := by decide +kernel
theorem dX4_wish_6 : decode cX4_wish 6 = .ok (.iload_n 3, 1) := by decide +kernel
theorem dX4_wish_7 : decode cX4_wish 7 = .ok (.ifCond .lt 21, 3) := by decide +kernel
theorem dX4_wish_10 : decode cX4_wish 10 = .ok (.iload_n 3, 1) := by decide +kernel
theorem dX4_wish_11 : decode cX4_wish 11 = .ok (.aload_n 0, 1) := by decide +kernel
theorem dX4_wish_12 : decode cX4_wish 12 = .ok (.getfield 15, 3) := by decide +kernel
theorem dX4_wish_15 : decode cX4_wish 15 = .ok (.arraylength, 1) := by decide +kernel
theorem dX4_wish_16 : decode cX4_wish 16 = .ok (.if_icmp .ge 12, 3) := by decide +kernel
theorem dX4_wish_19 : decode cX4_wish 19 = .ok (.aload_n 0, 1) := by decide +kernel
theorem dX4_wish_20 : decode cX4_wish 20 = .ok (.getfield 15, 3) := by decide +kernel
theorem dX4_wish_23 : decode cX4_wish 23 = .ok (.iload_n 3, 1) := by decide +kernel
theorem dX4_wish_24 : decode cX4_wish 24 = .ok (.iaload, 1) := by decide +kernel
theorem dX4_wish_25 : decode cX4_wish 25 = .ok (.goto 4, 3) := by decide +kernel
theorem dX4_wish_28 : decode cX4_wish 28 = .ok (.iconst 0, 1) := by decide +kernel
theorem dX4_wish_29 : decode cX4_wish 29 = .ok (.ireturn, 1) := by decide +kernel
theorem dX4_setAmount_0 : decode cX4_setAmount 0 = .ok (.iconst 3, 1) := by decide +kernel
theorem dX4_setAmount_1 : decode cX4_setAmount 1 = .ok (.iload_n 1, 1) := by decide +kernel
theorem dX4_setAmount_2 : decode cX4_setAmount 2 = .ok (.imul, 1) := by decide +kernel
theorem dX4_setAmount_3 : decode cX4_setAmount 3 = .ok (.iload_n 2, 1) := by decide +kernel
theorem dX4_setAmount_4 : decode cX4_setAmount 4 = .ok (.iadd, 1) := by decide +kernel
theorem dX4_setAmount_5 : decode cX4_setAmount 5 = .ok (.istore 4, 2) := by decide +kernel
theorem dX4_setAmount_7 : decode cX4_setAmount 7 = .ok (.iload 4, 2) := by decide +kernel
theorem dX4_setAmount_9 : decode cX4_setAmount 9 = .ok (.ifCond .lt 21, 3) := by decide +kernel
theorem dX4_setAmount_12 : decode cX4_setAmount 12 = .ok (.iload 4, 2) := by decide +kernel
theorem dX4_setAmount_14 : decode cX4_setAmount 14 = .ok (.aload_n 0, 1) := by decide +kernel
theorem dX4_setAmount_15 : decode cX4_setAmount 15 = .ok (.getfield 9, 3) := by decide +kernel
theorem dX4_setAmount_18 : decode cX4_setAmount 18 = .ok (.arraylength, 1) := by decide +kernel
theorem dX4_setAmount_19 : decode cX4_setAmount 19 = .ok (.if_icmp .ge 11, 3) := by decide +kernel
theorem dX4_setAmount_22 : decode cX4_setAmount 22 = .ok (.aload_n 0, 1) := by decide +kernel
theorem dX4_setAmount_23 : decode cX4_setAmount 23 = .ok (.getfield 9, 3) := by decide +kernel
theorem dX4_setAmount_26 : decode cX4_setAmount 26 = .ok (.iload 4, 2) := by decide +kernel
theorem dX4_setAmount_28 : decode cX4_setAmount 28 = .ok (.iload_n 3, 1) := by decide +kernel
theorem dX4_setAmount_29 : decode cX4_setAmount 29 = .ok (.iastore, 1) := by decide +kernel
theorem dX4_setAmount_30 : decode cX4_setAmount 30 = .ok (.return_, 1) := by decide +kernel
theorem dX4_wishes_0 : decode cX4_wishes 0 = .ok (.aload_n 0, 1) := by decide +kernel
theorem dX4_wishes_1 : decode cX4_wishes 1 = .ok (.iload_n 1, 1) := by decide +kernel
theorem dX4_wishes_2 : decode cX4_wishes 2 = .ok (.iconst 0, 1) := by decide +kernel
theorem dX4_wishes_3 : decode cX4_wishes 3 = .ok (.invokevirtual 50, 3) := by decide +kernel
theorem dX4_wishes_6 : decode cX4_wishes 6 = .ok (.aload_n 0, 1) := by decide +kernel
theorem dX4_wishes_7 : decode cX4_wishes 7 = .ok (.iload_n 1, 1) := by decide +kernel
theorem dX4_wishes_8 : decode cX4_wishes 8 = .ok (.iconst 1, 1) := by decide +kernel
theorem dX4_wishes_9 : decode cX4_wishes 9 = .ok (.invokevirtual 50, 3) := by decide +kernel
theorem dX4_wishes_12 : decode cX4_wishes 12 = .ok (.iadd, 1) := by decide +kernel
theorem dX4_wishes_13 : decode cX4_wishes 13 = .ok (.aload_n 0, 1) := by decide +kernel
theorem dX4_wishes_14 : decode cX4_wishes 14 = .ok (.iload_n 1, 1) := by decide +kernel
theorem dX4_wishes_15 : decode cX4_wishes 15 = .ok (.iconst 2, 1) := by decide +kernel
theorem dX4_wishes_16 : decode cX4_wishes 16 = .ok (.invokevirtual 50, 3) := by decide +kernel
theorem dX4_wishes_19 : decode cX4_wishes 19 = .ok (.iadd, 1) := by decide +kernel
theorem dX4_wishes_20 : decode cX4_wishes 20 = .ok (.ireturn, 1) := by decide +kernel
theorem dX4_productWithout_0 : decode cX4_productWithout 0 = .ok (.lconst 1, 1) := by decide +kernel
theorem dX4_productWithout_1 : decode cX4_productWithout 1 = .ok (.lstore_n 2, 1) := by decide +kernel
theorem dX4_productWithout_2 : decode cX4_productWithout 2 = .ok (.iconst 0, 1) := by decide +kernel
theorem dX4_productWithout_3 : decode cX4_productWithout 3 = .ok (.istore 4, 2) := by decide +kernel
theorem dX4_productWithout_5 : decode cX4_productWithout 5 = .ok (.iload 4, 2) := by decide +kernel
theorem dX4_productWithout_7 : decode cX4_productWithout 7 = .ok (.aload_n 0, 1) := by decide +kernel
theorem dX4_productWithout_8 : decode cX4_productWithout 8 = .ok (.getfield 26, 3) := by decide +kernel
theorem dX4_productWithout_11 : decode cX4_productWithout 11 = .ok (.if_icmp .ge 29, 3) := by decide +kernel
theorem dX4_productWithout_14 : decode cX4_productWithout 14 = .ok (.lload_n 2, 1) := by decide +kernel
theorem dX4_productWithout_15 : decode cX4_productWithout 15 = .ok (.iload 4, 2) := by decide +kernel
theorem dX4_productWithout_17 : decode cX4_productWithout 17 = .ok (.iload_n 1, 1) := by decide +kernel
theorem dX4_productWithout_18 : decode cX4_productWithout 18 = .ok (.if_icmp .ne 7, 3) := by decide +kernel
theorem dX4_productWithout_21 : decode cX4_productWithout 21 = .ok (.lconst 1, 1) := by decide +kernel
theorem dX4_productWithout_22 : decode cX4_productWithout 22 = .ok (.goto 10, 3) := by decide +kernel
theorem dX4_productWithout_25 : decode cX4_productWithout 25 = .ok (.aload_n 0, 1) := by decide +kernel
theorem dX4_productWithout_26 : decode cX4_productWithout 26 = .ok (.iload 4, 2) := by decide +kernel
theorem dX4_productWithout_28 : decode cX4_productWithout 28 = .ok (.invokevirtual 53, 3) := by decide +kernel
theorem dX4_productWithout_31 : decode cX4_productWithout 31 = .ok (.i2l, 1) := by decide +kernel
theorem dX4_productWithout_32 : decode cX4_productWithout 32 = .ok (.lmul, 1) := by decide +kernel
theorem dX4_productWithout_33 : decode cX4_productWithout 33 = .ok (.lstore_n 2, 1) := by decide +kernel
theorem dX4_productWithout_34 : decode cX4_productWithout 34 = .ok (.iinc 4 1, 3) := by decide +kernel
theorem dX4_productWithout_37 : decode cX4_productWithout 37 = .ok (.goto (-32), 3) := by decide +kernel
theorem dX4_productWithout_40 : decode cX4_productWithout 40 = .ok (.lload_n 2, 1) := by decide +kernel
theorem dX4_productWithout_41 : decode cX4_productWithout 41 = .ok (.lreturn, 1) := by decide +kernel
theorem dX4_setPulls_0 : decode cX4_setPulls 0 = .ok (.aload_n 0, 1) := by decide +kernel
theorem dX4_setPulls_1 : decode cX4_setPulls 1 = .ok (.iconst (-1), 1) := by decide +kernel
theorem dX4_setPulls_2 : decode cX4_setPulls 2 = .ok (.invokevirtual 56, 3) := by decide +kernel
theorem dX4_setPulls_5 : decode cX4_setPulls 5 = .ok (.lstore_n 1, 1) := by decide +kernel
theorem dX4_setPulls_6 : decode cX4_setPulls 6 = .ok (.iconst 0, 1) := by decide +kernel
theorem dX4_setPulls_7 : decode cX4_setPulls 7 = .ok (.istore_n 3, 1) := by decide +kernel
theorem dX4_setPulls_8 : decode cX4_setPulls 8 = .ok (.iload_n 3, 1) := by decide +kernel
theorem dX4_setPulls_9 : decode cX4_setPulls 9 = .ok (.iconst 3, 1) := by decide +kernel
theorem dX4_setPulls_10 : decode cX4_setPulls 10 = .ok (.if_icmp .ge 112, 3) := by decide +kernel
theorem dX4_setPulls_13 : decode cX4_setPulls 13 = .ok (.iconst 0, 1) := by decide +kernel
theorem dX4_setPulls_14 : decode cX4_setPulls 14 = .ok (.istore 4, 2) := by decide +kernel
theorem dX4_setPulls_16 : decode cX4_setPulls 16 = .ok (.iload 4, 2) := by decide +kernel
theorem dX4_setPulls_18 : decode cX4_setPulls 18 = .ok (.iconst 3, 1) := by decide +kernel
theorem dX4_setPulls_19 : decode cX4_setPulls 19 = .ok (.if_icmp .ge 97, 3) := by decide +kernel
theorem dX4_setPulls_22 : decode cX4_setPulls 22 = .ok (.lconst 0, 1) := by decide +kernel
theorem dX4_setPulls_23 : decode cX4_setPulls 23 = .ok (.lstore 5, 2) := by decide +kernel
theorem dX4_setPulls_25 : decode cX4_setPulls 25 = .ok (.iconst 0, 1) := by decide +kernel
theorem dX4_setPulls_26 : decode cX4_setPulls 26 = .ok (.istore 7, 2) := by decide +kernel
theorem dX4_setPulls_28 : decode cX4_setPulls 28 = .ok (.iload 7, 2) := by decide +kernel
theorem dX4_setPulls_30 : decode cX4_setPulls 30 = .ok (.aload_n 0, 1) := by decide +kernel
theorem dX4_setPulls_31 : decode cX4_setPulls 31 = .ok (.getfield 26, 3) := by decide +kernel
theorem dX4_setPulls_34 : decode cX4_setPulls 34 = .ok (.if_icmp .ge 63, 3) := by decide +kernel
theorem dX4_setPulls_37 : decode cX4_setPulls 37 = .ok (.lload 5, 2) := by decide +kernel
theorem dX4_setPulls_39 : decode cX4_setPulls 39 = .ok (.aload_n 0, 1) := by decide +kernel
theorem dX4_setPulls_40 : decode cX4_setPulls 40 = .ok (.iload 7, 2) := by decide +kernel
theorem dX4_setPulls_42 : decode cX4_setPulls 42 = .ok (.iload 4, 2) := by decide +kernel
theorem dX4_setPulls_44 : decode cX4_setPulls 44 = .ok (.invokevirtual 60, 3) := by decide +kernel
theorem dX4_setPulls_47 : decode cX4_setPulls 47 = .ok (.aload_n 0, 1) := by decide +kernel
theorem dX4_setPulls_48 : decode cX4_setPulls 48 = .ok (.iload 7, 2) := by decide +kernel
theorem dX4_setPulls_50 : decode cX4_setPulls 50 = .ok (.iload_n 3, 1) := by decide +kernel
theorem dX4_setPulls_51 : decode cX4_setPulls 51 = .ok (.invokevirtual 50, 3) := by decide +kernel
theorem dX4_setPulls_54 : decode cX4_setPulls 54 = .ok (.imul, 1) := by decide +kernel
theorem dX4_setPulls_55 : decode cX4_setPulls 55 = .ok (.i2l, 1) := by decide +kernel
theorem dX4_setPulls_56 : decode cX4_setPulls 56 = .ok (.aload_n 0, 1) := by decide +kernel
theorem dX4_setPulls_57 : decode cX4_setPulls 57 = .ok (.iload 7, 2) := by decide +kernel
theorem dX4_setPulls_59 : decode cX4_setPulls 59 = .ok (.invokevirtual 56, 3) := by decide +kernel
theorem dX4_setPulls_62 : decode cX4_setPulls 62 = .ok (.lmul, 1) := by decide +kernel
theorem dX4_setPulls_63 : decode cX4_setPulls 63 = .ok (.ladd, 1) := by decide +kernel
theorem dX4_setPulls_64 : decode cX4_setPulls 64 = .ok (.lstore 5, 2) := by decide +kernel
theorem dX4_setPulls_66 : decode cX4_setPulls 66 = .ok (.lload 5, 2) := by decide +kernel
theorem dX4_setPulls_68 : decode cX4_setPulls 68 = .ok (.iload_n 3, 1) := by decide +kernel
theorem dX4_setPulls_69 : decode cX4_setPulls 69 = .ok (.iload 4, 2) := by decide +kernel
theorem dX4_setPulls_71 : decode cX4_setPulls 71 = .ok (.if_icmp .ne 16, 3) := by decide +kernel
theorem dX4_setPulls_74 : decode cX4_setPulls 74 = .ok (.lload_n 1, 1) := by decide +kernel
theorem dX4_setPulls_75 : decode cX4_setPulls 75 = .ok (.aload_n 0, 1) := by decide +kernel
theorem dX4_setPulls_76 : decode cX4_setPulls 76 = .ok (.iload 7, 2) := by decide +kernel
theorem dX4_setPulls_78 : decode cX4_setPulls 78 = .ok (.iload_n 3, 1) := by decide +kernel
theorem dX4_setPulls_79 : decode cX4_setPulls 79 = .ok (.invokevirtual 60, 3) := by decide +kernel
theorem dX4_setPulls_82 : decode cX4_setPulls 82 = .ok (.i2l, 1) := by decide +kernel
theorem dX4_setPulls_83 : decode cX4_setPulls 83 = .ok (.lmul, 1) := by decide +kernel
theorem dX4_setPulls_84 : decode cX4_setPulls 84 = .ok (.goto 4, 3) := by decide +kernel
theorem dX4_setPulls_87 : decode cX4_setPulls 87 = .ok (.lconst 0, 1) := by decide +kernel
theorem dX4_setPulls_88 : decode cX4_setPulls 88 = .ok (.lsub, 1) := by decide +kernel
theorem dX4_setPulls_89 : decode cX4_setPulls 89 = .ok (.lstore 5, 2) := by decide +kernel
theorem dX4_setPulls_91 : decode cX4_setPulls 91 = .ok (.iinc 7 1, 3) := by decide +kernel
theorem dX4_setPulls_94 : decode cX4_setPulls 94 = .ok (.goto (-66), 3) := by decide +kernel
theorem dX4_setPulls_97 : decode cX4_setPulls 97 = .ok (.aload_n 0, 1) := by decide +kernel
theorem dX4_setPulls_98 : decode cX4_setPulls 98 = .ok (.getfield 18, 3) := by decide +kernel
theorem dX4_setPulls_101 : decode cX4_setPulls 101 = .ok (.iconst 3, 1) := by decide +kernel
theorem dX4_setPulls_102 : decode cX4_setPulls 102 = .ok (.iload_n 3, 1) := by decide +kernel
theorem dX4_setPulls_103 : decode cX4_setPulls 103 = .ok (.imul, 1) := by decide +kernel
theorem dX4_setPulls_104 : decode cX4_setPulls 104 = .ok (.iload 4, 2) := by decide +kernel
theorem dX4_setPulls_106 : decode cX4_setPulls 106 = .ok (.iadd, 1) := by decide +kernel
theorem dX4_setPulls_107 : decode cX4_setPulls 107 = .ok (.lload 5, 2) := by decide +kernel
theorem dX4_setPulls_109 : decode cX4_setPulls 109 = .ok (.lastore, 1) := by decide +kernel
theorem dX4_setPulls_110 : decode cX4_setPulls 110 = .ok (.iinc 4 1, 3) := by decide +kernel
theorem dX4_setPulls_113 : decode cX4_setPulls 113 = .ok (.goto (-97), 3) := by decide +kernel
theorem dX4_setPulls_116 : decode cX4_setPulls 116 = .ok (.iinc 3 1, 3) := by decide +kernel
theorem dX4_setPulls_119 : decode cX4_setPulls 119 = .ok (.goto (-111), 3) := by decide +kernel
theorem dX4_setPulls_122 : decode cX4_setPulls 122 = .ok (.return_, 1) := by decide +kernel
theorem dX4_pull_0 : decode cX4_pull 0 = .ok (.iload 4, 2) := by decide +kernel
theorem dX4_pull_2 : decode cX4_pull 2 = .ok (.invokestatic 63, 3) := by decide +kernel
theorem dX4_pull_5 : decode cX4_pull 5 = .ok (.ifCond .ne 5, 3) := by decide +kernel
theorem dX4_pull_8 : decode cX4_pull 8 = .ok (.lconst 0, 1) := by decide +kernel
theorem dX4_pull_9 : decode cX4_pull 9 = .ok (.lreturn, 1) := by decide +kernel
theorem dX4_pull_10 : decode cX4_pull 10 = .ok (.iconst 3, 1) := by decide +kernel
theorem dX4_pull_11 : decode cX4_pull 11 = .ok (.iload 4, 2) := by decide +kernel
theorem dX4_pull_13 : decode cX4_pull 13 = .ok (.imul, 1) := by decide +kernel
theorem dX4_pull_14 : decode cX4_pull 14 = .ok (.istore 5, 2) := by decide +kernel
theorem dX4_pull_16 : decode cX4_pull 16 = .ok (.aload_n 0, 1) := by decide +kernel
theorem dX4_pull_17 : decode cX4_pull 17 = .ok (.getfield 18, 3) := by decide +kernel
theorem dX4_pull_20 : decode cX4_pull 20 = .ok (.iload 5, 2) := by decide +kernel
theorem dX4_pull_22 : decode cX4_pull 22 = .ok (.laload, 1) := by decide +kernel
theorem dX4_pull_23 : decode cX4_pull 23 = .ok (.iload_n 2, 1) := by decide +kernel
theorem dX4_pull_24 : decode cX4_pull 24 = .ok (.i2l, 1) := by decide +kernel
theorem dX4_pull_25 : decode cX4_pull 25 = .ok (.lmul, 1) := by decide +kernel
theorem dX4_pull_26 : decode cX4_pull 26 = .ok (.aload_n 0, 1) := by decide +kernel
theorem dX4_pull_27 : decode cX4_pull 27 = .ok (.getfield 18, 3) := by decide +kernel
theorem dX4_pull_30 : decode cX4_pull 30 = .ok (.iload 5, 2) := by decide +kernel
theorem dX4_pull_32 : decode cX4_pull 32 = .ok (.iconst 1, 1) := by decide +kernel
theorem dX4_pull_33 : decode cX4_pull 33 = .ok (.iadd, 1) := by decide +kernel
theorem dX4_pull_34 : decode cX4_pull 34 = .ok (.laload, 1) := by decide +kernel
theorem dX4_pull_35 : decode cX4_pull 35 = .ok (.iload_n 3, 1) := by decide +kernel
theorem dX4_pull_36 : decode cX4_pull 36 = .ok (.i2l, 1) := by decide +kernel
theorem dX4_pull_37 : decode cX4_pull 37 = .ok (.lmul, 1) := by decide +kernel
theorem dX4_pull_38 : decode cX4_pull 38 = .ok (.ladd, 1) := by decide +kernel
theorem dX4_pull_39 : decode cX4_pull 39 = .ok (.aload_n 0, 1) := by decide +kernel
theorem dX4_pull_40 : decode cX4_pull 40 = .ok (.getfield 18, 3) := by decide +kernel
theorem dX4_pull_43 : decode cX4_pull 43 = .ok (.iload 5, 2) := by decide +kernel
theorem dX4_pull_45 : decode cX4_pull 45 = .ok (.iconst 2, 1) := by decide +kernel
theorem dX4_pull_46 : decode cX4_pull 46 = .ok (.iadd, 1) := by decide +kernel
theorem dX4_pull_47 : decode cX4_pull 47 = .ok (.laload, 1) := by decide +kernel
theorem dX4_pull_48 : decode cX4_pull 48 = .ok (.aload_n 1, 1) := by decide +kernel
theorem dX4_pull_49 : decode cX4_pull 49 = .ok (.iload_n 2, 1) := by decide +kernel
theorem dX4_pull_50 : decode cX4_pull 50 = .ok (.iload_n 3, 1) := by decide +kernel
theorem dX4_pull_51 : decode cX4_pull 51 = .ok (.iconst 2, 1) := by decide +kernel
theorem dX4_pull_52 : decode cX4_pull 52 = .ok (.invokevirtual 67, 3) := by decide +kernel
theorem dX4_pull_55 : decode cX4_pull 55 = .ok (.i2l, 1) := by decide +kernel
theorem dX4_pull_56 : decode cX4_pull 56 = .ok (.lmul, 1) := by decide +kernel
theorem dX4_pull_57 : decode cX4_pull 57 = .ok (.ladd, 1) := by decide +kernel
theorem dX4_pull_58 : decode cX4_pull 58 = .ok (.lreturn, 1) := by decide +kernel
theorem dX4_off_0 : decode cX4_off 0 = .ok (.lconst 0, 1) := by decide +kernel
theorem dX4_off_1 : decode cX4_off 1 = .ok (.lstore 4, 2) := by decide +kernel
theorem dX4_off_3 : decode cX4_off 3 = .ok (.iconst 0, 1) := by decide +kernel
theorem dX4_off_4 : decode cX4_off 4 = .ok (.istore 6, 2) := by decide +kernel
theorem dX4_off_6 : decode cX4_off 6 = .ok (.iload 6, 2) := by decide +kernel
theorem dX4_off_8 : decode cX4_off 8 = .ok (.iconst 3, 1) := by decide +kernel
theorem dX4_off_9 : decode cX4_off 9 = .ok (.if_icmp .ge 28, 3) := by decide +kernel
theorem dX4_off_12 : decode cX4_off 12 = .ok (.lload 4, 2) := by decide +kernel
theorem dX4_off_14 : decode cX4_off 14 = .ok (.aload_n 0, 1) := by decide +kernel
theorem dX4_off_15 : decode cX4_off 15 = .ok (.aload_n 1, 1) := by decide +kernel
theorem dX4_off_16 : decode cX4_off 16 = .ok (.iload_n 2, 1) := by decide +kernel
theorem dX4_off_17 : decode cX4_off 17 = .ok (.iload_n 3, 1) := by decide +kernel
theorem dX4_off_18 : decode cX4_off 18 = .ok (.iload 6, 2) := by decide +kernel
theorem dX4_off_20 : decode cX4_off 20 = .ok (.invokevirtual 73, 3) := by decide +kernel
theorem dX4_off_23 : decode cX4_off 23 = .ok (.invokestatic 77, 3) := by decide +kernel
theorem dX4_off_26 : decode cX4_off 26 = .ok (.invokestatic 81, 3) := by decide +kernel
theorem dX4_off_29 : decode cX4_off 29 = .ok (.lstore 4, 2) := by decide +kernel
theorem dX4_off_31 : decode cX4_off 31 = .ok (.iinc 6 1, 3) := by decide +kernel
theorem dX4_off_34 : decode cX4_off 34 = .ok (.goto (-28), 3) := by decide +kernel
theorem dX4_off_37 : decode cX4_off 37 = .ok (.lload 4, 2) := by decide +kernel
theorem dX4_off_39 : decode cX4_off 39 = .ok (.lreturn, 1) := by decide +kernel
theorem dX4_lessOff_0 : decode cX4_lessOff 0 = .ok (.iconst 0, 1) := by decide +kernel
theorem dX4_lessOff_1 : decode cX4_lessOff 1 = .ok (.istore 4, 2) := by decide +kernel
theorem dX4_lessOff_3 : decode cX4_lessOff 3 = .ok (.iconst 0, 1) := by decide +kernel
theorem dX4_lessOff_4 : decode cX4_lessOff 4 = .ok (.istore 5, 2) := by decide +kernel
theorem dX4_lessOff_6 : decode cX4_lessOff 6 = .ok (.iload 5, 2) := by decide +kernel
theorem dX4_lessOff_8 : decode cX4_lessOff 8 = .ok (.aload_n 1, 1) := by decide +kernel
theorem dX4_lessOff_9 : decode cX4_lessOff 9 = .ok (.getfield 85, 3) := by decide +kernel
theorem dX4_lessOff_12 : decode cX4_lessOff 12 = .ok (.if_icmp .gt 54, 3) := by decide +kernel
theorem dX4_lessOff_15 : decode cX4_lessOff 15 = .ok (.iconst 0, 1) := by decide +kernel
theorem dX4_lessOff_16 : decode cX4_lessOff 16 = .ok (.istore 6, 2) := by decide +kernel
theorem dX4_lessOff_18 : decode cX4_lessOff 18 = .ok (.iload 6, 2) := by decide +kernel
theorem dX4_lessOff_20 : decode cX4_lessOff 20 = .ok (.aload_n 1, 1) := by decide +kernel
theorem dX4_lessOff_21 : decode cX4_lessOff 21 = .ok (.getfield 85, 3) := by decide +kernel
theorem dX4_lessOff_24 : decode cX4_lessOff 24 = .ok (.iload 5, 2) := by decide +kernel
theorem dX4_lessOff_26 : decode cX4_lessOff 26 = .ok (.isub, 1) := by decide +kernel
theorem dX4_lessOff_27 : decode cX4_lessOff 27 = .ok (.if_icmp .gt 33, 3) := by decide +kernel
theorem dX4_lessOff_30 : decode cX4_lessOff 30 = .ok (.iload 4, 2) := by decide +kernel
theorem dX4_lessOff_32 : decode cX4_lessOff 32 = .ok (.aload_n 0, 1) := by decide +kernel
theorem dX4_lessOff_33 : decode cX4_lessOff 33 = .ok (.aload_n 1, 1) := by decide +kernel
theorem dX4_lessOff_34 : decode cX4_lessOff 34 = .ok (.iload 5, 2) := by decide +kernel
theorem dX4_lessOff_36 : decode cX4_lessOff 36 = .ok (.iload 6, 2) := by decide +kernel
theorem dX4_lessOff_38 : decode cX4_lessOff 38 = .ok (.invokevirtual 88, 3) := by decide +kernel
theorem dX4_lessOff_41 : decode cX4_lessOff 41 = .ok (.lload_n 2, 1) := by decide +kernel
theorem dX4_lessOff_42 : decode cX4_lessOff 42 = .ok (.lcmp, 1) := by decide +kernel
theorem dX4_lessOff_43 : decode cX4_lessOff 43 = .ok (.ifCond .ge 7, 3) := by decide +kernel
theorem dX4_lessOff_46 : decode cX4_lessOff 46 = .ok (.iconst 1, 1) := by decide +kernel
theorem dX4_lessOff_47 : decode cX4_lessOff 47 = .ok (.goto 4, 3) := by decide +kernel
theorem dX4_lessOff_50 : decode cX4_lessOff 50 = .ok (.iconst 0, 1) := by decide +kernel
theorem dX4_lessOff_51 : decode cX4_lessOff 51 = .ok (.iadd, 1) := by decide +kernel
theorem dX4_lessOff_52 : decode cX4_lessOff 52 = .ok (.istore 4, 2) := by decide +kernel
theorem dX4_lessOff_54 : decode cX4_lessOff 54 = .ok (.iinc 6 1, 3) := by decide +kernel
theorem dX4_lessOff_57 : decode cX4_lessOff 57 = .ok (.goto (-39), 3) := by decide +kernel
theorem dX4_lessOff_60 : decode cX4_lessOff 60 = .ok (.iinc 5 1, 3) := by decide +kernel
theorem dX4_lessOff_63 : decode cX4_lessOff 63 = .ok (.goto (-57), 3) := by decide +kernel
theorem dX4_lessOff_66 : decode cX4_lessOff 66 = .ok (.iload 4, 2) := by decide +kernel
theorem dX4_lessOff_68 : decode cX4_lessOff 68 = .ok (.ireturn, 1) := by decide +kernel
theorem dX4_hasEnough_0 : decode cX4_hasEnough 0 = .ok (.iconst 0, 1) := by decide +kernel
theorem dX4_hasEnough_1 : decode cX4_hasEnough 1 = .ok (.istore 6, 2) := by decide +kernel
theorem dX4_hasEnough_3 : decode cX4_hasEnough 3 = .ok (.iconst 0, 1) := by decide +kernel
theorem dX4_hasEnough_4 : decode cX4_hasEnough 4 = .ok (.istore 7, 2) := by decide +kernel
theorem dX4_hasEnough_6 : decode cX4_hasEnough 6 = .ok (.iload 7, 2) := by decide +kernel
theorem dX4_hasEnough_8 : decode cX4_hasEnough 8 = .ok (.iconst 3, 1) := by decide +kernel
theorem dX4_hasEnough_9 : decode cX4_hasEnough 9 = .ok (.if_icmp .ge 31, 3) := by decide +kernel
theorem dX4_hasEnough_12 : decode cX4_hasEnough 12 = .ok (.iload 6, 2) := by decide +kernel
theorem dX4_hasEnough_14 : decode cX4_hasEnough 14 = .ok (.aload_n 1, 1) := by decide +kernel
theorem dX4_hasEnough_15 : decode cX4_hasEnough 15 = .ok (.iload_n 2, 1) := by decide +kernel
theorem dX4_hasEnough_16 : decode cX4_hasEnough 16 = .ok (.iload_n 3, 1) := by decide +kernel
theorem dX4_hasEnough_17 : decode cX4_hasEnough 17 = .ok (.iload 7, 2) := by decide +kernel
theorem dX4_hasEnough_19 : decode cX4_hasEnough 19 = .ok (.invokevirtual 67, 3) := by decide +kernel
theorem dX4_hasEnough_22 : decode cX4_hasEnough 22 = .ok (.aload_n 0, 1) := by decide +kernel
theorem dX4_hasEnough_23 : decode cX4_hasEnough 23 = .ok (.iload 4, 2) := by decide +kernel
theorem dX4_hasEnough_25 : decode cX4_hasEnough 25 = .ok (.iload 7, 2) := by decide +kernel
theorem dX4_hasEnough_27 : decode cX4_hasEnough 27 = .ok (.invokevirtual 60, 3) := by decide +kernel
theorem dX4_hasEnough_30 : decode cX4_hasEnough 30 = .ok (.imul, 1) := by decide +kernel
theorem dX4_hasEnough_31 : decode cX4_hasEnough 31 = .ok (.iadd, 1) := by decide +kernel
theorem dX4_hasEnough_32 : decode cX4_hasEnough 32 = .ok (.istore 6, 2) := by decide +kernel
theorem dX4_hasEnough_34 : decode cX4_hasEnough 34 = .ok (.iinc 7 1, 3) := by decide +kernel
theorem dX4_hasEnough_37 : decode cX4_hasEnough 37 = .ok (.goto (-31), 3) := by decide +kernel
theorem dX4_hasEnough_40 : decode cX4_hasEnough 40 = .ok (.iload 6, 2) := by decide +kernel
theorem dX4_hasEnough_42 : decode cX4_hasEnough 42 = .ok (.aload_n 0, 1) := by decide +kernel
theorem dX4_hasEnough_43 : decode cX4_hasEnough 43 = .ok (.iload 4, 2) := by decide +kernel
theorem dX4_hasEnough_45 : decode cX4_hasEnough 45 = .ok (.iload 5, 2) := by decide +kernel
theorem dX4_hasEnough_47 : decode cX4_hasEnough 47 = .ok (.invokevirtual 50, 3) := by decide +kernel
theorem dX4_hasEnough_50 : decode cX4_hasEnough 50 = .ok (.imul, 1) := by decide +kernel
theorem dX4_hasEnough_51 : decode cX4_hasEnough 51 = .ok (.aload_n 1, 1) := by decide +kernel
theorem dX4_hasEnough_52 : decode cX4_hasEnough 52 = .ok (.iload_n 2, 1) := by decide +kernel
theorem dX4_hasEnough_53 : decode cX4_hasEnough 53 = .ok (.iload_n 3, 1) := by decide +kernel
theorem dX4_hasEnough_54 : decode cX4_hasEnough 54 = .ok (.iload 5, 2) := by decide +kernel
theorem dX4_hasEnough_56 : decode cX4_hasEnough 56 = .ok (.invokevirtual 67, 3) := by decide +kernel
theorem dX4_hasEnough_59 : decode cX4_hasEnough 59 = .ok (.aload_n 0, 1) := by decide +kernel
theorem dX4_hasEnough_60 : decode cX4_hasEnough 60 = .ok (.iload 4, 2) := by decide +kernel
theorem dX4_hasEnough_62 : decode cX4_hasEnough 62 = .ok (.iload 5, 2) := by decide +kernel
theorem dX4_hasEnough_64 : decode cX4_hasEnough 64 = .ok (.invokevirtual 60, 3) := by decide +kernel
theorem dX4_hasEnough_67 : decode cX4_hasEnough 67 = .ok (.imul, 1) := by decide +kernel
theorem dX4_hasEnough_68 : decode cX4_hasEnough 68 = .ok (.aload_n 0, 1) := by decide +kernel
theorem dX4_hasEnough_69 : decode cX4_hasEnough 69 = .ok (.iload 4, 2) := by decide +kernel
theorem dX4_hasEnough_71 : decode cX4_hasEnough 71 = .ok (.invokevirtual 53, 3) := by decide +kernel
theorem dX4_hasEnough_74 : decode cX4_hasEnough 74 = .ok (.imul, 1) := by decide +kernel
theorem dX4_hasEnough_75 : decode cX4_hasEnough 75 = .ok (.if_icmp .gt 7, 3) := by decide +kernel
theorem dX4_hasEnough_78 : decode cX4_hasEnough 78 = .ok (.iconst 1, 1) := by decide +kernel
theorem dX4_hasEnough_79 : decode cX4_hasEnough 79 = .ok (.goto 4, 3) := by decide +kernel
theorem dX4_hasEnough_82 : decode cX4_hasEnough 82 = .ok (.iconst 0, 1) := by decide +kernel
theorem dX4_hasEnough_83 : decode cX4_hasEnough 83 = .ok (.ireturn, 1) := by decide +kernel
theorem dX4_layOn_0 : decode cX4_layOn 0 = .ok (.iconst 0, 1) := by decide +kernel
theorem dX4_layOn_1 : decode cX4_layOn 1 = .ok (.istore_n 2, 1) := by decide +kernel
theorem dX4_layOn_2 : decode cX4_layOn 2 = .ok (.iload_n 2, 1) := by decide +kernel
theorem dX4_layOn_3 : decode cX4_layOn 3 = .ok (.aload_n 1, 1) := by decide +kernel
theorem dX4_layOn_4 : decode cX4_layOn 4 = .ok (.getfield 85, 3) := by decide +kernel
theorem dX4_layOn_7 : decode cX4_layOn 7 = .ok (.if_icmp .gt 40, 3) := by decide +kernel
theorem dX4_layOn_10 : decode cX4_layOn 10 = .ok (.iconst 0, 1) := by decide +kernel
theorem dX4_layOn_11 : decode cX4_layOn 11 = .ok (.istore_n 3, 1) := by decide +kernel
theorem dX4_layOn_12 : decode cX4_layOn 12 = .ok (.iload_n 3, 1) := by decide +kernel
theorem dX4_layOn_13 : decode cX4_layOn 13 = .ok (.aload_n 1, 1) := by decide +kernel
theorem dX4_layOn_14 : decode cX4_layOn 14 = .ok (.getfield 85, 3) := by decide +kernel
theorem dX4_layOn_17 : decode cX4_layOn 17 = .ok (.iload_n 2, 1) := by decide +kernel
theorem dX4_layOn_18 : decode cX4_layOn 18 = .ok (.isub, 1) := by decide +kernel
theorem dX4_layOn_19 : decode cX4_layOn 19 = .ok (.if_icmp .gt 22, 3) := by decide +kernel
theorem dX4_layOn_22 : decode cX4_layOn 22 = .ok (.aload_n 1, 1) := by decide +kernel
theorem dX4_layOn_23 : decode cX4_layOn 23 = .ok (.iload_n 2, 1) := by decide +kernel
theorem dX4_layOn_24 : decode cX4_layOn 24 = .ok (.iload_n 3, 1) := by decide +kernel
theorem dX4_layOn_25 : decode cX4_layOn 25 = .ok (.aload_n 0, 1) := by decide +kernel
theorem dX4_layOn_26 : decode cX4_layOn 26 = .ok (.aload_n 1, 1) := by decide +kernel
theorem dX4_layOn_27 : decode cX4_layOn 27 = .ok (.iload_n 2, 1) := by decide +kernel
theorem dX4_layOn_28 : decode cX4_layOn 28 = .ok (.iload_n 3, 1) := by decide +kernel
theorem dX4_layOn_29 : decode cX4_layOn 29 = .ok (.invokevirtual 92, 3) := by decide +kernel
theorem dX4_layOn_32 : decode cX4_layOn 32 = .ok (.invokevirtual 96, 3) := by decide +kernel
theorem dX4_layOn_35 : decode cX4_layOn 35 = .ok (.iinc 3 1, 3) := by decide +kernel
theorem dX4_layOn_38 : decode cX4_layOn 38 = .ok (.goto (-26), 3) := by decide +kernel
theorem dX4_layOn_41 : decode cX4_layOn 41 = .ok (.iinc 2 1, 3) := by decide +kernel
theorem dX4_layOn_44 : decode cX4_layOn 44 = .ok (.goto (-42), 3) := by decide +kernel
theorem dX4_layOn_47 : decode cX4_layOn 47 = .ok (.return_, 1) := by decide +kernel
theorem dX4_labelFor_0 : decode cX4_labelFor 0 = .ok (.iconst (-1), 1) := by decide +kernel
theorem dX4_labelFor_1 : decode cX4_labelFor 1 = .ok (.istore 4, 2) := by decide +kernel
theorem dX4_labelFor_3 : decode cX4_labelFor 3 = .ok (.lconst 0, 1) := by decide +kernel
theorem dX4_labelFor_4 : decode cX4_labelFor 4 = .ok (.lstore 5, 2) := by decide +kernel
theorem dX4_labelFor_6 : decode cX4_labelFor 6 = .ok (.iconst 0, 1) := by decide +kernel
theorem dX4_labelFor_7 : decode cX4_labelFor 7 = .ok (.istore 7, 2) := by decide +kernel
theorem dX4_labelFor_9 : decode cX4_labelFor 9 = .ok (.iload 7, 2) := by decide +kernel
theorem dX4_labelFor_11 : decode cX4_labelFor 11 = .ok (.iconst 3, 1) := by decide +kernel
theorem dX4_labelFor_12 : decode cX4_labelFor 12 = .ok (.if_icmp .ge 74, 3) := by decide +kernel
theorem dX4_labelFor_15 : decode cX4_labelFor 15 = .ok (.aload_n 1, 1) := by decide +kernel
theorem dX4_labelFor_16 : decode cX4_labelFor 16 = .ok (.iload_n 2, 1) := by decide +kernel
theorem dX4_labelFor_17 : decode cX4_labelFor 17 = .ok (.iload_n 3, 1) := by decide +kernel
theorem dX4_labelFor_18 : decode cX4_labelFor 18 = .ok (.iload 7, 2) := by decide +kernel
theorem dX4_labelFor_20 : decode cX4_labelFor 20 = .ok (.invokevirtual 67, 3) := by decide +kernel
theorem dX4_labelFor_23 : decode cX4_labelFor 23 = .ok (.ifCond .ne 6, 3) := by decide +kernel
theorem dX4_labelFor_26 : decode cX4_labelFor 26 = .ok (.goto 54, 3) := by decide +kernel
theorem dX4_labelFor_29 : decode cX4_labelFor 29 = .ok (.aload_n 0, 1) := by decide +kernel
theorem dX4_labelFor_30 : decode cX4_labelFor 30 = .ok (.aload_n 1, 1) := by decide +kernel
theorem dX4_labelFor_31 : decode cX4_labelFor 31 = .ok (.iload_n 2, 1) := by decide +kernel
theorem dX4_labelFor_32 : decode cX4_labelFor 32 = .ok (.iload_n 3, 1) := by decide +kernel
theorem dX4_labelFor_33 : decode cX4_labelFor 33 = .ok (.iload 7, 2) := by decide +kernel
theorem dX4_labelFor_35 : decode cX4_labelFor 35 = .ok (.invokevirtual 73, 3) := by decide +kernel
theorem dX4_labelFor_38 : decode cX4_labelFor 38 = .ok (.lstore 8, 2) := by decide +kernel
theorem dX4_labelFor_40 : decode cX4_labelFor 40 = .ok (.aload_n 0, 1) := by decide +kernel
theorem dX4_labelFor_41 : decode cX4_labelFor 41 = .ok (.getfield 22, 3) := by decide +kernel
theorem dX4_labelFor_44 : decode cX4_labelFor 44 = .ok (.iconst 2, 1) := by decide +kernel
theorem dX4_labelFor_45 : decode cX4_labelFor 45 = .ok (.if_icmp .ne 13, 3) := by decide +kernel
theorem dX4_labelFor_48 : decode cX4_labelFor 48 = .ok (.lload 8, 2) := by decide +kernel
theorem dX4_labelFor_50 : decode cX4_labelFor 50 = .ok (.lconst 0, 1) := by decide +kernel
theorem dX4_labelFor_51 : decode cX4_labelFor 51 = .ok (.lcmp, 1) := by decide +kernel
theorem dX4_labelFor_52 : decode cX4_labelFor 52 = .ok (.ifCond .gt 6, 3) := by decide +kernel
theorem dX4_labelFor_55 : decode cX4_labelFor 55 = .ok (.iload 7, 2) := by decide +kernel
theorem dX4_labelFor_57 : decode cX4_labelFor 57 = .ok (.ireturn, 1) := by decide +kernel
theorem dX4_labelFor_58 : decode cX4_labelFor 58 = .ok (.iload 4, 2) := by decide +kernel
theorem dX4_labelFor_60 : decode cX4_labelFor 60 = .ok (.iconst (-1), 1) := by decide +kernel
theorem dX4_labelFor_61 : decode cX4_labelFor 61 = .ok (.if_icmp .eq 11, 3) := by decide +kernel
theorem dX4_labelFor_64 : decode cX4_labelFor 64 = .ok (.lload 8, 2) := by decide +kernel
theorem dX4_labelFor_66 : decode cX4_labelFor 66 = .ok (.lload 5, 2) := by decide +kernel
theorem dX4_labelFor_68 : decode cX4_labelFor 68 = .ok (.lcmp, 1) := by decide +kernel
theorem dX4_labelFor_69 : decode cX4_labelFor 69 = .ok (.ifCond .ge 11, 3) := by decide +kernel
theorem dX4_labelFor_72 : decode cX4_labelFor 72 = .ok (.iload 7, 2) := by decide +kernel
theorem dX4_labelFor_74 : decode cX4_labelFor 74 = .ok (.istore 4, 2) := by decide +kernel
theorem dX4_labelFor_76 : decode cX4_labelFor 76 = .ok (.lload 8, 2) := by decide +kernel
theorem dX4_labelFor_78 : decode cX4_labelFor 78 = .ok (.lstore 5, 2) := by decide +kernel
theorem dX4_labelFor_80 : decode cX4_labelFor 80 = .ok (.iinc 7 1, 3) := by decide +kernel
theorem dX4_labelFor_83 : decode cX4_labelFor 83 = .ok (.goto (-74), 3) := by decide +kernel
theorem dX4_labelFor_86 : decode cX4_labelFor 86 = .ok (.iload 4, 2) := by decide +kernel
theorem dX4_labelFor_88 : decode cX4_labelFor 88 = .ok (.ireturn, 1) := by decide +kernel
