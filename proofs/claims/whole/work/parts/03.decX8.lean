theorem dX8_init_0 : decode cX8_init 0 = .ok (.aload_n 0, 1) := by decide +kernel
theorem dX8_init_1 : decode cX8_init 1 = .ok (.invokespecial 3, 3) := by decide +kernel
theorem dX8_init_4 : decode cX8_init 4 = .ok (.aload_n 0, 1) := by decide +kernel
theorem dX8_init_5 : decode cX8_init 5 = .ok (.sipush 189, 3) := by decide +kernel
theorem dX8_init_8 : decode cX8_init 8 = .ok (.newarray .int, 2) := by decide +kernel
theorem dX8_init_10 : decode cX8_init 10 = .ok (.putfield 9, 3) := by decide +kernel
theorem dX8_init_13 : decode cX8_init 13 = .ok (.aload_n 0, 1) := by decide +kernel
theorem dX8_init_14 : decode cX8_init 14 = .ok (.bipush 80, 2) := by decide +kernel
theorem dX8_init_16 : decode cX8_init 16 = .ok (.newarray .byte, 2) := by decide +kernel
theorem dX8_init_18 : decode cX8_init 18 = .ok (.putfield 13, 3) := by decide +kernel
theorem dX8_init_21 : decode cX8_init 21 = .ok (.aload_n 0, 1) := by decide +kernel
theorem dX8_init_22 : decode cX8_init 22 = .ok (.bipush 64, 2) := by decide +kernel
theorem dX8_init_24 : decode cX8_init 24 = .ok (.newarray .long, 2) := by decide +kernel
theorem dX8_init_26 : decode cX8_init 26 = .ok (.putfield 17, 3) := by decide +kernel
theorem dX8_init_29 : decode cX8_init 29 = .ok (.aload_n 0, 1) := by decide +kernel
theorem dX8_init_30 : decode cX8_init 30 = .ok (.sipush 720, 3) := by decide +kernel
theorem dX8_init_33 : decode cX8_init 33 = .ok (.newarray .int, 2) := by decide +kernel
theorem dX8_init_35 : decode cX8_init 35 = .ok (.putfield 21, 3) := by decide +kernel
theorem dX8_init_38 : decode cX8_init 38 = .ok (.aload_n 0, 1) := by decide +kernel
theorem dX8_init_39 : decode cX8_init 39 = .ok (.bipush 16, 2) := by decide +kernel
theorem dX8_init_41 : decode cX8_init 41 = .ok (.newarray .int, 2) := by decide +kernel
theorem dX8_init_43 : decode cX8_init 43 = .ok (.putfield 24, 3) := by decide +kernel
theorem dX8_init_46 : decode cX8_init 46 = .ok (.aload_n 0, 1) := by decide +kernel
theorem dX8_init_47 : decode cX8_init 47 = .ok (.bipush 16, 2) := by decide +kernel
theorem dX8_init_49 : decode cX8_init 49 = .ok (.newarray .int, 2) := by decide +kernel
theorem dX8_init_51 : decode cX8_init 51 = .ok (.putfield 27, 3) := by decide +kernel
theorem dX8_init_54 : decode cX8_init 54 = .ok (.aload_n 0, 1) := by decide +kernel
theorem dX8_init_55 : decode cX8_init 55 = .ok (.sipush 512, 3) := by decide +kernel
theorem dX8_init_58 : decode cX8_init 58 = .ok (.newarray .int, 2) := by decide +kernel
theorem dX8_init_60 : decode cX8_init 60 = .ok (.putfield 30, 3) := by decide +kernel
theorem dX8_init_63 : decode cX8_init 63 = .ok (.aload_n 0, 1) := by decide +kernel
theorem dX8_init_64 : decode cX8_init 64 = .ok (.sipush 512, 3) := by decide +kernel
theorem dX8_init_67 : decode cX8_init 67 = .ok (.newarray .int, 2) := by decide +kernel
theorem dX8_init_69 : decode cX8_init 69 = .ok (.putfield 33, 3) := by decide +kernel
theorem dX8_init_72 : decode cX8_init 72 = .ok (.aload_n 0, 1) := by decide +kernel
theorem dX8_init_73 : decode cX8_init 73 = .ok (.sipush 512, 3) := by decide +kernel
theorem dX8_init_76 : decode cX8_init 76 = .ok (.newarray .int, 2) := by decide +kernel
theorem dX8_init_78 : decode cX8_init 78 = .ok (.putfield 36, 3) := by decide +kernel
theorem dX8_init_81 : decode cX8_init 81 = .ok (.aload_n 0, 1) := by decide +kernel
theorem dX8_init_82 : decode cX8_init 82 = .ok (.sipush 189, 3) := by decide +kernel
theorem dX8_init_85 : decode cX8_init 85 = .ok (.newarray .int, 2) := by decide +kernel
theorem dX8_init_87 : decode cX8_init 87 = .ok (.putfield 39, 3) := by decide +kernel
theorem dX8_init_90 : decode cX8_init 90 = .ok (.aload_n 0, 1) := by decide +kernel
theorem dX8_init_91 : decode cX8_init 91 = .ok (.sipush 512, 3) := by decide +kernel
theorem dX8_init_94 : decode cX8_init 94 = .ok (.newarray .boolean, 2) := by decide +kernel
theorem dX8_init_96 : decode cX8_init 96 = .ok (.putfield 42, 3) := by decide +kernel
theorem dX8_init_99 : decode cX8_init 99 = .ok (.aload_n 0, 1) := by decide +kernel
theorem dX8_init_100 : decode cX8_init 100 = .ok (.sipush 1512, 3) := by decide +kernel
theorem dX8_init_103 : decode cX8_init 103 = .ok (.newarray .int, 2) := by decide +kernel
theorem dX8_init_105 : decode cX8_init 105 = .ok (.putfield 46, 3) := by decide +kernel
theorem dX8_init_108 : decode cX8_init 108 = .ok (.aload_n 0, 1) := by decide +kernel
theorem dX8_init_109 : decode cX8_init 109 = .ok (.sipush 189, 3) := by decide +kernel
theorem dX8_init_112 : decode cX8_init 112 = .ok (.newarray .int, 2) := by decide +kernel
theorem dX8_init_114 : decode cX8_init 114 = .ok (.putfield 49, 3) := by decide +kernel
theorem dX8_init_117 : decode cX8_init 117 = .ok (.aload_n 0, 1) := by decide +kernel
theorem dX8_init_118 : decode cX8_init 118 = .ok (.sipush 378, 3) := by decide +kernel
theorem dX8_init_121 : decode cX8_init 121 = .ok (.newarray .int, 2) := by decide +kernel
theorem dX8_init_123 : decode cX8_init 123 = .ok (.putfield 52, 3) := by decide +kernel
theorem dX8_init_126 : decode cX8_init 126 = .ok (.aload_n 0, 1) := by decide +kernel
theorem dX8_init_127 : decode cX8_init 127 = .ok (.iconst 2, 1) := by decide +kernel
theorem dX8_init_128 : decode cX8_init 128 = .ok (.newarray .boolean, 2) := by decide +kernel
theorem dX8_init_130 : decode cX8_init 130 = .ok (.putfield 55, 3) := by decide +kernel
theorem dX8_init_133 : decode cX8_init 133 = .ok (.aload_n 0, 1) := by decide +kernel
theorem dX8_init_134 : decode cX8_init 134 = .ok (.getfield 9, 3) := by decide +kernel
theorem dX8_init_137 : decode cX8_init 137 = .ok (.iconst 0, 1) := by decide +kernel
theorem dX8_init_138 : decode cX8_init 138 = .ok (.iconst 4, 1) := by decide +kernel
theorem dX8_init_139 : decode cX8_init 139 = .ok (.iastore, 1) := by decide +kernel
theorem dX8_init_140 : decode cX8_init 140 = .ok (.aload_n 0, 1) := by decide +kernel
theorem dX8_init_141 : decode cX8_init 141 = .ok (.invokevirtual 58, 3) := by decide +kernel
theorem dX8_init_144 : decode cX8_init 144 = .ok (.return_, 1) := by decide +kernel
theorem dX8_thrown_0 : decode cX8_thrown 0 = .ok (.aload_n 0, 1) := by decide +kernel
theorem dX8_thrown_1 : decode cX8_thrown 1 = .ok (.getfield 61, 3) := by decide +kernel
theorem dX8_thrown_4 : decode cX8_thrown 4 = .ok (.ireturn, 1) := by decide +kernel
theorem dX8_in_0 : decode cX8_in 0 = .ok (.iload_n 0, 1) := by decide +kernel
theorem dX8_in_1 : decode cX8_in 1 = .ok (.iload_n 1, 1) := by decide +kernel
theorem dX8_in_2 : decode cX8_in 2 = .ok (.if_icmp .lt 12, 3) := by decide +kernel
theorem dX8_in_5 : decode cX8_in 5 = .ok (.iload_n 0, 1) := by decide +kernel
theorem dX8_in_6 : decode cX8_in 6 = .ok (.iload_n 2, 1) := by decide +kernel
theorem dX8_in_7 : decode cX8_in 7 = .ok (.if_icmp .gt 7, 3) := by decide +kernel
theorem dX8_in_10 : decode cX8_in 10 = .ok (.iconst 1, 1) := by decide +kernel
theorem dX8_in_11 : decode cX8_in 11 = .ok (.goto 4, 3) := by decide +kernel
theorem dX8_in_14 : decode cX8_in 14 = .ok (.iconst 0, 1) := by decide +kernel
theorem dX8_in_15 : decode cX8_in 15 = .ok (.ireturn, 1) := by decide +kernel
theorem dX8_lost_0 : decode cX8_lost 0 = .ok (.aload_n 0, 1) := by decide +kernel
theorem dX8_lost_1 : decode cX8_lost 1 = .ok (.iconst 1, 1) := by decide +kernel
theorem dX8_lost_2 : decode cX8_lost 2 = .ok (.putfield 61, 3) := by decide +kernel
theorem dX8_lost_5 : decode cX8_lost 5 = .ok (.iconst 0, 1) := by decide +kernel
theorem dX8_lost_6 : decode cX8_lost 6 = .ok (.ireturn, 1) := by decide +kernel
theorem dX8_tell_0 : decode cX8_tell 0 = .ok (.aload_n 0, 1) := by decide +kernel
theorem dX8_tell_1 : decode cX8_tell 1 = .ok (.getfield 17, 3) := by decide +kernel
theorem dX8_tell_4 : decode cX8_tell 4 = .ok (.aload_n 0, 1) := by decide +kernel
theorem dX8_tell_5 : decode cX8_tell 5 = .ok (.getfield 65, 3) := by decide +kernel
theorem dX8_tell_8 : decode cX8_tell 8 = .ok (.lload_n 1, 1) := by decide +kernel
theorem dX8_tell_9 : decode cX8_tell 9 = .ok (.lastore, 1) := by decide +kernel
theorem dX8_tell_10 : decode cX8_tell 10 = .ok (.aload_n 0, 1) := by decide +kernel
theorem dX8_tell_11 : decode cX8_tell 11 = .ok (.dup, 1) := by decide +kernel
theorem dX8_tell_12 : decode cX8_tell 12 = .ok (.getfield 65, 3) := by decide +kernel
theorem dX8_tell_15 : decode cX8_tell 15 = .ok (.iconst 1, 1) := by decide +kernel
theorem dX8_tell_16 : decode cX8_tell 16 = .ok (.iadd, 1) := by decide +kernel
theorem dX8_tell_17 : decode cX8_tell 17 = .ok (.putfield 65, 3) := by decide +kernel
theorem dX8_tell_20 : decode cX8_tell 20 = .ok (.return_, 1) := by decide +kernel
theorem dX8_n_0 : decode cX8_n 0 = .ok (.aload_n 0, 1) := by decide +kernel
theorem dX8_n_1 : decode cX8_n 1 = .ok (.getfield 9, 3) := by decide +kernel
theorem dX8_n_4 : decode cX8_n 4 = .ok (.iconst 0, 1) := by decide +kernel
theorem dX8_n_5 : decode cX8_n 5 = .ok (.iaload, 1) := by decide +kernel
theorem dX8_n_6 : decode cX8_n 6 = .ok (.ireturn, 1) := by decide +kernel
theorem dX8_isPoint_0 : decode cX8_isPoint 0 = .ok (.iload_n 1, 1) := by decide +kernel
theorem dX8_isPoint_1 : decode cX8_isPoint 1 = .ok (.iconst 0, 1) := by decide +kernel
theorem dX8_isPoint_2 : decode cX8_isPoint 2 = .ok (.aload_n 0, 1) := by decide +kernel
theorem dX8_isPoint_3 : decode cX8_isPoint 3 = .ok (.invokevirtual 68, 3) := by decide +kernel
theorem dX8_isPoint_6 : decode cX8_isPoint 6 = .ok (.invokestatic 72, 3) := by decide +kernel
theorem dX8_isPoint_9 : decode cX8_isPoint 9 = .ok (.ifCond .eq 21, 3) := by decide +kernel
theorem dX8_isPoint_12 : decode cX8_isPoint 12 = .ok (.iload_n 2, 1) := by decide +kernel
theorem dX8_isPoint_13 : decode cX8_isPoint 13 = .ok (.iconst 0, 1) := by decide +kernel
theorem dX8_isPoint_14 : decode cX8_isPoint 14 = .ok (.aload_n 0, 1) := by decide +kernel
theorem dX8_isPoint_15 : decode cX8_isPoint 15 = .ok (.invokevirtual 68, 3) := by decide +kernel
theorem dX8_isPoint_18 : decode cX8_isPoint 18 = .ok (.iload_n 1, 1) := by decide +kernel
theorem dX8_isPoint_19 : decode cX8_isPoint 19 = .ok (.isub, 1) := by decide +kernel
theorem dX8_isPoint_20 : decode cX8_isPoint 20 = .ok (.invokestatic 72, 3) := by decide +kernel
theorem dX8_isPoint_23 : decode cX8_isPoint 23 = .ok (.ifCond .eq 7, 3) := by decide +kernel
theorem dX8_isPoint_26 : decode cX8_isPoint 26 = .ok (.iconst 1, 1) := by decide +kernel
theorem dX8_isPoint_27 : decode cX8_isPoint 27 = .ok (.goto 4, 3) := by decide +kernel
theorem dX8_isPoint_30 : decode cX8_isPoint 30 = .ok (.iconst 0, 1) := by decide +kernel
theorem dX8_isPoint_31 : decode cX8_isPoint 31 = .ok (.ireturn, 1) := by decide +kernel
theorem dX8_points_0 : decode cX8_points 0 = .ok (.aload_n 0, 1) := by decide +kernel
theorem dX8_points_1 : decode cX8_points 1 = .ok (.invokevirtual 68, 3) := by decide +kernel
theorem dX8_points_4 : decode cX8_points 4 = .ok (.iconst 1, 1) := by decide +kernel
theorem dX8_points_5 : decode cX8_points 5 = .ok (.iadd, 1) := by decide +kernel
theorem dX8_points_6 : decode cX8_points 6 = .ok (.aload_n 0, 1) := by decide +kernel
theorem dX8_points_7 : decode cX8_points 7 = .ok (.invokevirtual 68, 3) := by decide +kernel
theorem dX8_points_10 : decode cX8_points 10 = .ok (.iconst 2, 1) := by decide +kernel
theorem dX8_points_11 : decode cX8_points 11 = .ok (.iadd, 1) := by decide +kernel
theorem dX8_points_12 : decode cX8_points 12 = .ok (.imul, 1) := by decide +kernel
theorem dX8_points_13 : decode cX8_points 13 = .ok (.iconst 2, 1) := by decide +kernel
theorem dX8_points_14 : decode cX8_points 14 = .ok (.idiv, 1) := by decide +kernel
theorem dX8_points_15 : decode cX8_points 15 = .ok (.ireturn, 1) := by decide +kernel
theorem dX8_place_0 : decode cX8_place 0 = .ok (.iload_n 1, 1) := by decide +kernel
theorem dX8_place_1 : decode cX8_place 1 = .ok (.iconst 2, 1) := by decide +kernel
theorem dX8_place_2 : decode cX8_place 2 = .ok (.aload_n 0, 1) := by decide +kernel
theorem dX8_place_3 : decode cX8_place 3 = .ok (.invokevirtual 68, 3) := by decide +kernel
theorem dX8_place_6 : decode cX8_place 6 = .ok (.imul, 1) := by decide +kernel
theorem dX8_place_7 : decode cX8_place 7 = .ok (.iconst 3, 1) := by decide +kernel
theorem dX8_place_8 : decode cX8_place 8 = .ok (.iadd, 1) := by decide +kernel
theorem dX8_place_9 : decode cX8_place 9 = .ok (.iload_n 1, 1) := by decide +kernel
theorem dX8_place_10 : decode cX8_place 10 = .ok (.isub, 1) := by decide +kernel
theorem dX8_place_11 : decode cX8_place 11 = .ok (.imul, 1) := by decide +kernel
theorem dX8_place_12 : decode cX8_place 12 = .ok (.iconst 2, 1) := by decide +kernel
theorem dX8_place_13 : decode cX8_place 13 = .ok (.idiv, 1) := by decide +kernel
theorem dX8_place_14 : decode cX8_place 14 = .ok (.iload_n 2, 1) := by decide +kernel
theorem dX8_place_15 : decode cX8_place 15 = .ok (.iadd, 1) := by decide +kernel
theorem dX8_place_16 : decode cX8_place 16 = .ok (.ireturn, 1) := by decide +kernel
theorem dX8_labelAt_0 : decode cX8_labelAt 0 = .ok (.aload_n 0, 1) := by decide +kernel
theorem dX8_labelAt_1 : decode cX8_labelAt 1 = .ok (.getfield 9, 3) := by decide +kernel
theorem dX8_labelAt_4 : decode cX8_labelAt 4 = .ok (.bipush 36, 2) := by decide +kernel
theorem dX8_labelAt_6 : decode cX8_labelAt 6 = .ok (.iload_n 1, 1) := by decide +kernel
theorem dX8_labelAt_7 : decode cX8_labelAt 7 = .ok (.iadd, 1) := by decide +kernel
theorem dX8_labelAt_8 : decode cX8_labelAt 8 = .ok (.iaload, 1) := by decide +kernel
theorem dX8_labelAt_9 : decode cX8_labelAt 9 = .ok (.ireturn, 1) := by decide +kernel
theorem dX8_price_0 : decode cX8_price 0 = .ok (.iload_n 3, 1) := by decide +kernel
theorem dX8_price_1 : decode cX8_price 1 = .ok (.ifCond .ne 7, 3) := by decide +kernel
theorem dX8_price_4 : decode cX8_price 4 = .ok (.iload_n 1, 1) := by decide +kernel
theorem dX8_price_5 : decode cX8_price 5 = .ok (.goto 20, 3) := by decide +kernel
theorem dX8_price_8 : decode cX8_price 8 = .ok (.iload_n 3, 1) := by decide +kernel
theorem dX8_price_9 : decode cX8_price 9 = .ok (.iconst 1, 1) := by decide +kernel
theorem dX8_price_10 : decode cX8_price 10 = .ok (.if_icmp .ne 7, 3) := by decide +kernel
theorem dX8_price_13 : decode cX8_price 13 = .ok (.iload_n 2, 1) := by decide +kernel
theorem dX8_price_14 : decode cX8_price 14 = .ok (.goto 11, 3) := by decide +kernel
theorem dX8_price_17 : decode cX8_price 17 = .ok (.aload_n 0, 1) := by decide +kernel
theorem dX8_price_18 : decode cX8_price 18 = .ok (.invokevirtual 68, 3) := by decide +kernel
theorem dX8_price_21 : decode cX8_price 21 = .ok (.iload_n 1, 1) := by decide +kernel
theorem dX8_price_22 : decode cX8_price 22 = .ok (.isub, 1) := by decide +kernel
theorem dX8_price_23 : decode cX8_price 23 = .ok (.iload_n 2, 1) := by decide +kernel
theorem dX8_price_24 : decode cX8_price 24 = .ok (.isub, 1) := by decide +kernel
theorem dX8_price_25 : decode cX8_price 25 = .ok (.ireturn, 1) := by decide +kernel
theorem dX8_canHave_0 : decode cX8_canHave 0 = .ok (.aload_n 0, 1) := by decide +kernel
theorem dX8_canHave_1 : decode cX8_canHave 1 = .ok (.iload_n 1, 1) := by decide +kernel
theorem dX8_canHave_2 : decode cX8_canHave 2 = .ok (.iload_n 2, 1) := by decide +kernel
theorem dX8_canHave_3 : decode cX8_canHave 3 = .ok (.iload_n 3, 1) := by decide +kernel
theorem dX8_canHave_4 : decode cX8_canHave 4 = .ok (.invokevirtual 76, 3) := by decide +kernel
theorem dX8_canHave_7 : decode cX8_canHave 7 = .ok (.ifCond .le 7, 3) := by decide +kernel
theorem dX8_canHave_10 : decode cX8_canHave 10 = .ok (.iconst 1, 1) := by decide +kernel
theorem dX8_canHave_11 : decode cX8_canHave 11 = .ok (.goto 4, 3) := by decide +kernel
theorem dX8_canHave_14 : decode cX8_canHave 14 = .ok (.iconst 0, 1) := by decide +kernel
theorem dX8_canHave_15 : decode cX8_canHave 15 = .ok (.ireturn, 1) := by decide +kernel
theorem dX8_iOf_0 : decode cX8_iOf 0 = .ok (.iconst 0, 1) := by decide +kernel
theorem dX8_iOf_1 : decode cX8_iOf 1 = .ok (.istore_n 2, 1) := by decide +kernel
theorem dX8_iOf_2 : decode cX8_iOf 2 = .ok (.aload_n 0, 1) := by decide +kernel
theorem dX8_iOf_3 : decode cX8_iOf 3 = .ok (.iload_n 2, 1) := by decide +kernel
theorem dX8_iOf_4 : decode cX8_iOf 4 = .ok (.iconst 1, 1) := by decide +kernel
theorem dX8_iOf_5 : decode cX8_iOf 5 = .ok (.iadd, 1) := by decide +kernel
theorem dX8_iOf_6 : decode cX8_iOf 6 = .ok (.iconst 0, 1) := by decide +kernel
theorem dX8_iOf_7 : decode cX8_iOf 7 = .ok (.invokevirtual 80, 3) := by decide +kernel
theorem dX8_iOf_10 : decode cX8_iOf 10 = .ok (.iload_n 1, 1) := by decide +kernel
theorem dX8_iOf_11 : decode cX8_iOf 11 = .ok (.if_icmp .gt 9, 3) := by decide +kernel
theorem dX8_iOf_14 : decode cX8_iOf 14 = .ok (.iinc 2 1, 3) := by decide +kernel
theorem dX8_iOf_17 : decode cX8_iOf 17 = .ok (.goto (-15), 3) := by decide +kernel
theorem dX8_iOf_20 : decode cX8_iOf 20 = .ok (.iload_n 2, 1) := by decide +kernel
theorem dX8_iOf_21 : decode cX8_iOf 21 = .ok (.ireturn, 1) := by decide +kernel
theorem dX8_jOf_0 : decode cX8_jOf 0 = .ok (.iload_n 1, 1) := by decide +kernel
theorem dX8_jOf_1 : decode cX8_jOf 1 = .ok (.aload_n 0, 1) := by decide +kernel
theorem dX8_jOf_2 : decode cX8_jOf 2 = .ok (.aload_n 0, 1) := by decide +kernel
theorem dX8_jOf_3 : decode cX8_jOf 3 = .ok (.iload_n 1, 1) := by decide +kernel
theorem dX8_jOf_4 : decode cX8_jOf 4 = .ok (.invokevirtual 84, 3) := by decide +kernel
theorem dX8_jOf_7 : decode cX8_jOf 7 = .ok (.iconst 0, 1) := by decide +kernel
theorem dX8_jOf_8 : decode cX8_jOf 8 = .ok (.invokevirtual 80, 3) := by decide +kernel
theorem dX8_jOf_11 : decode cX8_jOf 11 = .ok (.isub, 1) := by decide +kernel
theorem dX8_jOf_12 : decode cX8_jOf 12 = .ok (.ireturn, 1) := by decide +kernel
theorem dX8_layFirst_0 : decode cX8_layFirst 0 = .ok (.iconst 0, 1) := by decide +kernel
theorem dX8_layFirst_1 : decode cX8_layFirst 1 = .ok (.istore_n 1, 1) := by decide +kernel
theorem dX8_layFirst_2 : decode cX8_layFirst 2 = .ok (.iload_n 1, 1) := by decide +kernel
theorem dX8_layFirst_3 : decode cX8_layFirst 3 = .ok (.aload_n 0, 1) := by decide +kernel
theorem dX8_layFirst_4 : decode cX8_layFirst 4 = .ok (.invokevirtual 68, 3) := by decide +kernel
theorem dX8_layFirst_7 : decode cX8_layFirst 7 = .ok (.if_icmp .gt 58, 3) := by decide +kernel
theorem dX8_layFirst_10 : decode cX8_layFirst 10 = .ok (.iconst 0, 1) := by decide +kernel
theorem dX8_layFirst_11 : decode cX8_layFirst 11 = .ok (.istore_n 2, 1) := by decide +kernel
theorem dX8_layFirst_12 : decode cX8_layFirst 12 = .ok (.iload_n 2, 1) := by decide +kernel
theorem dX8_layFirst_13 : decode cX8_layFirst 13 = .ok (.aload_n 0, 1) := by decide +kernel
theorem dX8_layFirst_14 : decode cX8_layFirst 14 = .ok (.invokevirtual 68, 3) := by decide +kernel
theorem dX8_layFirst_17 : decode cX8_layFirst 17 = .ok (.iload_n 1, 1) := by decide +kernel
theorem dX8_layFirst_18 : decode cX8_layFirst 18 = .ok (.isub, 1) := by decide +kernel
theorem dX8_layFirst_19 : decode cX8_layFirst 19 = .ok (.if_icmp .gt 40, 3) := by decide +kernel
theorem dX8_layFirst_22 : decode cX8_layFirst 22 = .ok (.aload_n 0, 1) := by decide +kernel
theorem dX8_layFirst_23 : decode cX8_layFirst 23 = .ok (.getfield 9, 3) := by decide +kernel
theorem dX8_layFirst_26 : decode cX8_layFirst 26 = .ok (.bipush 36, 2) := by decide +kernel
theorem dX8_layFirst_28 : decode cX8_layFirst 28 = .ok (.aload_n 0, 1) := by decide +kernel
theorem dX8_layFirst_29 : decode cX8_layFirst 29 = .ok (.iload_n 1, 1) := by decide +kernel
theorem dX8_layFirst_30 : decode cX8_layFirst 30 = .ok (.iload_n 2, 1) := by decide +kernel
theorem dX8_layFirst_31 : decode cX8_layFirst 31 = .ok (.invokevirtual 80, 3) := by decide +kernel
theorem dX8_layFirst_34 : decode cX8_layFirst 34 = .ok (.iadd, 1) := by decide +kernel
theorem dX8_layFirst_35 : decode cX8_layFirst 35 = .ok (.iload_n 1, 1) := by decide +kernel
theorem dX8_layFirst_36 : decode cX8_layFirst 36 = .ok (.ifCond .le 7, 3) := by decide +kernel
theorem dX8_layFirst_39 : decode cX8_layFirst 39 = .ok (.iconst 0, 1) := by decide +kernel
theorem dX8_layFirst_40 : decode cX8_layFirst 40 = .ok (.goto 12, 3) := by decide +kernel
theorem dX8_layFirst_43 : decode cX8_layFirst 43 = .ok (.iload_n 2, 1) := by decide +kernel
theorem dX8_layFirst_44 : decode cX8_layFirst 44 = .ok (.ifCond .le 7, 3) := by decide +kernel
theorem dX8_layFirst_47 : decode cX8_layFirst 47 = .ok (.iconst 1, 1) := by decide +kernel
theorem dX8_layFirst_48 : decode cX8_layFirst 48 = .ok (.goto 4, 3) := by decide +kernel
theorem dX8_layFirst_51 : decode cX8_layFirst 51 = .ok (.iconst 2, 1) := by decide +kernel
theorem dX8_layFirst_52 : decode cX8_layFirst 52 = .ok (.iastore, 1) := by decide +kernel
theorem dX8_layFirst_53 : decode cX8_layFirst 53 = .ok (.iinc 2 1, 3) := by decide +kernel
theorem dX8_layFirst_56 : decode cX8_layFirst 56 = .ok (.goto (-44), 3) := by decide +kernel
theorem dX8_layFirst_59 : decode cX8_layFirst 59 = .ok (.iinc 1 1, 3) := by decide +kernel
theorem dX8_layFirst_62 : decode cX8_layFirst 62 = .ok (.goto (-60), 3) := by decide +kernel
theorem dX8_layFirst_65 : decode cX8_layFirst 65 = .ok (.return_, 1) := by decide +kernel
theorem dX8_amount_0 : decode cX8_amount 0 = .ok (.aload_n 0, 1) := by decide +kernel
theorem dX8_amount_1 : decode cX8_amount 1 = .ok (.getfield 9, 3) := by decide +kernel
theorem dX8_amount_4 : decode cX8_amount 4 = .ok (.iconst 3, 1) := by decide +kernel
theorem dX8_amount_5 : decode cX8_amount 5 = .ok (.iconst 3, 1) := by decide +kernel
theorem dX8_amount_6 : decode cX8_amount 6 = .ok (.iload_n 1, 1) := by decide +kernel
theorem dX8_amount_7 : decode cX8_amount 7 = .ok (.imul, 1) := by decide +kernel
theorem dX8_amount_8 : decode cX8_amount 8 = .ok (.iadd, 1) := by decide +kernel
theorem dX8_amount_9 : decode cX8_amount 9 = .ok (.iload_n 2, 1) := by decide +kernel
theorem dX8_amount_10 : decode cX8_amount 10 = .ok (.iadd, 1) := by decide +kernel
theorem dX8_amount_11 : decode cX8_amount 11 = .ok (.iaload, 1) := by decide +kernel
theorem dX8_amount_12 : decode cX8_amount 12 = .ok (.ireturn, 1) := by decide +kernel
theorem dX8_wish_0 : decode cX8_wish 0 = .ok (.aload_n 0, 1) := by decide +kernel
theorem dX8_wish_1 : decode cX8_wish 1 = .ok (.getfield 9, 3) := by decide +kernel
theorem dX8_wish_4 : decode cX8_wish 4 = .ok (.bipush 15, 2) := by decide +kernel
theorem dX8_wish_6 : decode cX8_wish 6 = .ok (.iconst 3, 1) := by decide +kernel
theorem dX8_wish_7 : decode cX8_wish 7 = .ok (.iload_n 1, 1) := by decide +kernel
theorem dX8_wish_8 : decode cX8_wish 8 = .ok (.imul, 1) := by decide +kernel
theorem dX8_wish_9 : decode cX8_wish 9 = .ok (.iadd, 1) := by decide +kernel
theorem dX8_wish_10 : decode cX8_wish 10 = .ok (.iload_n 2, 1) := by decide +kernel
theorem dX8_wish_11 : decode cX8_wish 11 = .ok (.iadd, 1) := by decide +kernel
theorem dX8_wish_12 : decode cX8_wish 12 = .ok (.iaload, 1) := by decide +kernel
theorem dX8_wish_13 : decode cX8_wish 13 = .ok (.ireturn, 1) := by decide +kernel
theorem dX8_wishes_0 : decode cX8_wishes 0 = .ok (.aload_n 0, 1) := by decide +kernel
theorem dX8_wishes_1 : decode cX8_wishes 1 = .ok (.iload_n 1, 1) := by decide +kernel
theorem dX8_wishes_2 : decode cX8_wishes 2 = .ok (.iconst 0, 1) := by decide +kernel
theorem dX8_wishes_3 : decode cX8_wishes 3 = .ok (.invokevirtual 88, 3) := by decide +kernel
theorem dX8_wishes_6 : decode cX8_wishes 6 = .ok (.aload_n 0, 1) := by decide +kernel
theorem dX8_wishes_7 : decode cX8_wishes 7 = .ok (.iload_n 1, 1) := by decide +kernel
theorem dX8_wishes_8 : decode cX8_wishes 8 = .ok (.iconst 1, 1) := by decide +kernel
theorem dX8_wishes_9 : decode cX8_wishes 9 = .ok (.invokevirtual 88, 3) := by decide +kernel
theorem dX8_wishes_12 : decode cX8_wishes 12 = .ok (.iadd, 1) := by decide +kernel
theorem dX8_wishes_13 : decode cX8_wishes 13 = .ok (.aload_n 0, 1) := by decide +kernel
theorem dX8_wishes_14 : decode cX8_wishes 14 = .ok (.iload_n 1, 1) := by decide +kernel
theorem dX8_wishes_15 : decode cX8_wishes 15 = .ok (.iconst 2, 1) := by decide +kernel
theorem dX8_wishes_16 : decode cX8_wishes 16 = .ok (.invokevirtual 88, 3) := by decide +kernel
theorem dX8_wishes_19 : decode cX8_wishes 19 = .ok (.iadd, 1) := by decide +kernel
theorem dX8_wishes_20 : decode cX8_wishes 20 = .ok (.ireturn, 1) := by decide +kernel
theorem dX8_income_0 : decode cX8_income 0 = .ok (.iconst 0, 1) := by decide +kernel
theorem dX8_income_1 : decode cX8_income 1 = .ok (.istore 4, 2) := by decide +kernel
theorem dX8_income_3 : decode cX8_income 3 = .ok (.iconst 0, 1) := by decide +kernel
theorem dX8_income_4 : decode cX8_income 4 = .ok (.istore 5, 2) := by decide +kernel
theorem dX8_income_6 : decode cX8_income 6 = .ok (.iload 5, 2) := by decide +kernel
theorem dX8_income_8 : decode cX8_income 8 = .ok (.iconst 3, 1) := by decide +kernel
theorem dX8_income_9 : decode cX8_income 9 = .ok (.if_icmp .ge 30, 3) := by decide +kernel
theorem dX8_income_12 : decode cX8_income 12 = .ok (.iload 4, 2) := by decide +kernel
theorem dX8_income_14 : decode cX8_income 14 = .ok (.aload_n 0, 1) := by decide +kernel
theorem dX8_income_15 : decode cX8_income 15 = .ok (.iload_n 2, 1) := by decide +kernel
theorem dX8_income_16 : decode cX8_income 16 = .ok (.iload_n 3, 1) := by decide +kernel
theorem dX8_income_17 : decode cX8_income 17 = .ok (.iload 5, 2) := by decide +kernel
theorem dX8_income_19 : decode cX8_income 19 = .ok (.invokevirtual 76, 3) := by decide +kernel
theorem dX8_income_22 : decode cX8_income 22 = .ok (.aload_n 0, 1) := by decide +kernel
theorem dX8_income_23 : decode cX8_income 23 = .ok (.iload_n 1, 1) := by decide +kernel
theorem dX8_income_24 : decode cX8_income 24 = .ok (.iload 5, 2) := by decide +kernel
theorem dX8_income_26 : decode cX8_income 26 = .ok (.invokevirtual 91, 3) := by decide +kernel
theorem dX8_income_29 : decode cX8_income 29 = .ok (.imul, 1) := by decide +kernel
theorem dX8_income_30 : decode cX8_income 30 = .ok (.iadd, 1) := by decide +kernel
theorem dX8_income_31 : decode cX8_income 31 = .ok (.istore 4, 2) := by decide +kernel
theorem dX8_income_33 : decode cX8_income 33 = .ok (.iinc 5 1, 3) := by decide +kernel
theorem dX8_income_36 : decode cX8_income 36 = .ok (.goto (-30), 3) := by decide +kernel
theorem dX8_income_39 : decode cX8_income 39 = .ok (.iload 4, 2) := by decide +kernel
theorem dX8_income_41 : decode cX8_income 41 = .ok (.ireturn, 1) := by decide +kernel
theorem dX8_excessOf_0 : decode cX8_excessOf 0 = .ok (.iconst 1, 1) := by decide +kernel
theorem dX8_excessOf_1 : decode cX8_excessOf 1 = .ok (.istore 4, 2) := by decide +kernel
theorem dX8_excessOf_3 : decode cX8_excessOf 3 = .ok (.iconst 0, 1) := by decide +kernel
theorem dX8_excessOf_4 : decode cX8_excessOf 4 = .ok (.istore 5, 2) := by decide +kernel
theorem dX8_excessOf_6 : decode cX8_excessOf 6 = .ok (.iload 5, 2) := by decide +kernel
theorem dX8_excessOf_8 : decode cX8_excessOf 8 = .ok (.aload_n 0, 1) := by decide +kernel
theorem dX8_excessOf_9 : decode cX8_excessOf 9 = .ok (.getfield 9, 3) := by decide +kernel
theorem dX8_excessOf_12 : decode cX8_excessOf 12 = .ok (.iconst 2, 1) := by decide +kernel
theorem dX8_excessOf_13 : decode cX8_excessOf 13 = .ok (.iaload, 1) := by decide +kernel
theorem dX8_excessOf_14 : decode cX8_excessOf 14 = .ok (.if_icmp .ge 20, 3) := by decide +kernel
theorem dX8_excessOf_17 : decode cX8_excessOf 17 = .ok (.iload 4, 2) := by decide +kernel
theorem dX8_excessOf_19 : decode cX8_excessOf 19 = .ok (.aload_n 0, 1) := by decide +kernel
theorem dX8_excessOf_20 : decode cX8_excessOf 20 = .ok (.iload 5, 2) := by decide +kernel
theorem dX8_excessOf_22 : decode cX8_excessOf 22 = .ok (.invokevirtual 94, 3) := by decide +kernel
theorem dX8_excessOf_25 : decode cX8_excessOf 25 = .ok (.imul, 1) := by decide +kernel
theorem dX8_excessOf_26 : decode cX8_excessOf 26 = .ok (.istore 4, 2) := by decide +kernel
theorem dX8_excessOf_28 : decode cX8_excessOf 28 = .ok (.iinc 5 1, 3) := by decide +kernel
theorem dX8_excessOf_31 : decode cX8_excessOf 31 = .ok (.goto (-25), 3) := by decide +kernel
theorem dX8_excessOf_34 : decode cX8_excessOf 34 = .ok (.iconst 0, 1) := by decide +kernel
theorem dX8_excessOf_35 : decode cX8_excessOf 35 = .ok (.istore 5, 2) := by decide +kernel
theorem dX8_excessOf_37 : decode cX8_excessOf 37 = .ok (.iconst 0, 1) := by decide +kernel
theorem dX8_excessOf_38 : decode cX8_excessOf 38 = .ok (.istore 6, 2) := by decide +kernel
theorem dX8_excessOf_40 : decode cX8_excessOf 40 = .ok (.iconst 0, 1) := by decide +kernel
theorem dX8_excessOf_41 : decode cX8_excessOf 41 = .ok (.istore 7, 2) := by decide +kernel
theorem dX8_excessOf_43 : decode cX8_excessOf 43 = .ok (.iload 7, 2) := by decide +kernel
theorem dX8_excessOf_45 : decode cX8_excessOf 45 = .ok (.aload_n 0, 1) := by decide +kernel
theorem dX8_excessOf_46 : decode cX8_excessOf 46 = .ok (.getfield 9, 3) := by decide +kernel
theorem dX8_excessOf_49 : decode cX8_excessOf 49 = .ok (.iconst 2, 1) := by decide +kernel
theorem dX8_excessOf_50 : decode cX8_excessOf 50 = .ok (.iaload, 1) := by decide +kernel
theorem dX8_excessOf_51 : decode cX8_excessOf 51 = .ok (.if_icmp .ge 52, 3) := by decide +kernel
theorem dX8_excessOf_54 : decode cX8_excessOf 54 = .ok (.iload 5, 2) := by decide +kernel
theorem dX8_excessOf_56 : decode cX8_excessOf 56 = .ok (.aload_n 0, 1) := by decide +kernel
theorem dX8_excessOf_57 : decode cX8_excessOf 57 = .ok (.iload 7, 2) := by decide +kernel
theorem dX8_excessOf_59 : decode cX8_excessOf 59 = .ok (.iload_n 1, 1) := by decide +kernel
theorem dX8_excessOf_60 : decode cX8_excessOf 60 = .ok (.iload_n 2, 1) := by decide +kernel
theorem dX8_excessOf_61 : decode cX8_excessOf 61 = .ok (.invokevirtual 97, 3) := by decide +kernel
theorem dX8_excessOf_64 : decode cX8_excessOf 64 = .ok (.aload_n 0, 1) := by decide +kernel
theorem dX8_excessOf_65 : decode cX8_excessOf 65 = .ok (.iload 7, 2) := by decide +kernel
theorem dX8_excessOf_67 : decode cX8_excessOf 67 = .ok (.iload_n 3, 1) := by decide +kernel
theorem dX8_excessOf_68 : decode cX8_excessOf 68 = .ok (.invokevirtual 88, 3) := by decide +kernel
theorem dX8_excessOf_71 : decode cX8_excessOf 71 = .ok (.imul, 1) := by decide +kernel
theorem dX8_excessOf_72 : decode cX8_excessOf 72 = .ok (.iload 4, 2) := by decide +kernel
theorem dX8_excessOf_74 : decode cX8_excessOf 74 = .ok (.aload_n 0, 1) := by decide +kernel
theorem dX8_excessOf_75 : decode cX8_excessOf 75 = .ok (.iload 7, 2) := by decide +kernel
theorem dX8_excessOf_77 : decode cX8_excessOf 77 = .ok (.invokevirtual 94, 3) := by decide +kernel
theorem dX8_excessOf_80 : decode cX8_excessOf 80 = .ok (.idiv, 1) := by decide +kernel
theorem dX8_excessOf_81 : decode cX8_excessOf 81 = .ok (.imul, 1) := by decide +kernel
theorem dX8_excessOf_82 : decode cX8_excessOf 82 = .ok (.iadd, 1) := by decide +kernel
theorem dX8_excessOf_83 : decode cX8_excessOf 83 = .ok (.istore 5, 2) := by decide +kernel
theorem dX8_excessOf_85 : decode cX8_excessOf 85 = .ok (.iload 6, 2) := by decide +kernel
theorem dX8_excessOf_87 : decode cX8_excessOf 87 = .ok (.aload_n 0, 1) := by decide +kernel
theorem dX8_excessOf_88 : decode cX8_excessOf 88 = .ok (.iload 7, 2) := by decide +kernel
theorem dX8_excessOf_90 : decode cX8_excessOf 90 = .ok (.iload_n 3, 1) := by decide +kernel
theorem dX8_excessOf_91 : decode cX8_excessOf 91 = .ok (.invokevirtual 91, 3) := by decide +kernel
theorem dX8_excessOf_94 : decode cX8_excessOf 94 = .ok (.iadd, 1) := by decide +kernel
theorem dX8_excessOf_95 : decode cX8_excessOf 95 = .ok (.istore 6, 2) := by decide +kernel
theorem dX8_excessOf_97 : decode cX8_excessOf 97 = .ok (.iinc 7 1, 3) := by decide +kernel
theorem dX8_excessOf_100 : decode cX8_excessOf 100 = .ok (.goto (-57), 3) := by decide +kernel
theorem dX8_excessOf_103 : decode cX8_excessOf 103 = .ok (.iload 5, 2) := by decide +kernel
theorem dX8_excessOf_105 : decode cX8_excessOf 105 = .ok (.iload 4, 2) := by decide +kernel
theorem dX8_excessOf_107 : decode cX8_excessOf 107 = .ok (.aload_n 0, 1) := by decide +kernel
theorem dX8_excessOf_108 : decode cX8_excessOf 108 = .ok (.iload_n 1, 1) := by decide +kernel
theorem dX8_excessOf_109 : decode cX8_excessOf 109 = .ok (.iload_n 2, 1) := by decide +kernel
theorem dX8_excessOf_110 : decode cX8_excessOf 110 = .ok (.iload_n 3, 1) := by decide +kernel
theorem dX8_excessOf_111 : decode cX8_excessOf 111 = .ok (.invokevirtual 76, 3) := by decide +kernel
theorem dX8_excessOf_114 : decode cX8_excessOf 114 = .ok (.imul, 1) := by decide +kernel
theorem dX8_excessOf_115 : decode cX8_excessOf 115 = .ok (.iload 6, 2) := by decide +kernel
theorem dX8_excessOf_117 : decode cX8_excessOf 117 = .ok (.imul, 1) := by decide +kernel
theorem dX8_excessOf_118 : decode cX8_excessOf 118 = .ok (.isub, 1) := by decide +kernel
theorem dX8_excessOf_119 : decode cX8_excessOf 119 = .ok (.ireturn, 1) := by decide +kernel
theorem dX8_off_0 : decode cX8_off 0 = .ok (.iconst 0, 1) := by decide +kernel
theorem dX8_off_1 : decode cX8_off 1 = .ok (.istore_n 3, 1) := by decide +kernel
theorem dX8_off_2 : decode cX8_off 2 = .ok (.iconst 0, 1) := by decide +kernel
theorem dX8_off_3 : decode cX8_off 3 = .ok (.istore 4, 2) := by decide +kernel
theorem dX8_off_5 : decode cX8_off 5 = .ok (.iload 4, 2) := by decide +kernel
theorem dX8_off_7 : decode cX8_off 7 = .ok (.iconst 3, 1) := by decide +kernel
theorem dX8_off_8 : decode cX8_off 8 = .ok (.if_icmp .ge 25, 3) := by decide +kernel
theorem dX8_off_11 : decode cX8_off 11 = .ok (.iload_n 3, 1) := by decide +kernel
theorem dX8_off_12 : decode cX8_off 12 = .ok (.aload_n 0, 1) := by decide +kernel
theorem dX8_off_13 : decode cX8_off 13 = .ok (.iload_n 1, 1) := by decide +kernel
theorem dX8_off_14 : decode cX8_off 14 = .ok (.iload_n 2, 1) := by decide +kernel
theorem dX8_off_15 : decode cX8_off 15 = .ok (.iload 4, 2) := by decide +kernel
theorem dX8_off_17 : decode cX8_off 17 = .ok (.invokevirtual 100, 3) := by decide +kernel
theorem dX8_off_20 : decode cX8_off 20 = .ok (.invokestatic 103, 3) := by decide +kernel
theorem dX8_off_23 : decode cX8_off 23 = .ok (.invokestatic 108, 3) := by decide +kernel
theorem dX8_off_26 : decode cX8_off 26 = .ok (.istore_n 3, 1) := by decide +kernel
theorem dX8_off_27 : decode cX8_off 27 = .ok (.iinc 4 1, 3) := by decide +kernel
theorem dX8_off_30 : decode cX8_off 30 = .ok (.goto (-25), 3) := by decide +kernel
theorem dX8_off_33 : decode cX8_off 33 = .ok (.iload_n 3, 1) := by decide +kernel
theorem dX8_off_34 : decode cX8_off 34 = .ok (.ireturn, 1) := by decide +kernel
theorem dX8_byExchange_0 : decode cX8_byExchange 0 = .ok (.iconst (-1), 1) := by decide +kernel
theorem dX8_byExchange_1 : decode cX8_byExchange 1 = .ok (.istore_n 3, 1) := by decide +kernel
theorem dX8_byExchange_2 : decode cX8_byExchange 2 = .ok (.iconst 0, 1) := by decide +kernel
theorem dX8_byExchange_3 : decode cX8_byExchange 3 = .ok (.istore 4, 2) := by decide +kernel
theorem dX8_byExchange_5 : decode cX8_byExchange 5 = .ok (.iload 4, 2) := by decide +kernel
theorem dX8_byExchange_7 : decode cX8_byExchange 7 = .ok (.iconst 3, 1) := by decide +kernel
theorem dX8_byExchange_8 : decode cX8_byExchange 8 = .ok (.if_icmp .ge 49, 3) := by decide +kernel
theorem dX8_byExchange_11 : decode cX8_byExchange 11 = .ok (.aload_n 0, 1) := by decide +kernel
theorem dX8_byExchange_12 : decode cX8_byExchange 12 = .ok (.iload_n 1, 1) := by decide +kernel
theorem dX8_byExchange_13 : decode cX8_byExchange 13 = .ok (.iload_n 2, 1) := by decide +kernel
theorem dX8_byExchange_14 : decode cX8_byExchange 14 = .ok (.iload 4, 2) := by decide +kernel
theorem dX8_byExchange_16 : decode cX8_byExchange 16 = .ok (.invokevirtual 111, 3) := by decide +kernel
theorem dX8_byExchange_19 : decode cX8_byExchange 19 = .ok (.ifCond .ne 6, 3) := by decide +kernel
theorem dX8_byExchange_22 : decode cX8_byExchange 22 = .ok (.goto 29, 3) := by decide +kernel
theorem dX8_byExchange_25 : decode cX8_byExchange 25 = .ok (.iload_n 3, 1) := by decide +kernel
theorem dX8_byExchange_26 : decode cX8_byExchange 26 = .ok (.iconst (-1), 1) := by decide +kernel
theorem dX8_byExchange_27 : decode cX8_byExchange 27 = .ok (.if_icmp .eq 21, 3) := by decide +kernel
theorem dX8_byExchange_30 : decode cX8_byExchange 30 = .ok (.aload_n 0, 1) := by decide +kernel
theorem dX8_byExchange_31 : decode cX8_byExchange 31 = .ok (.iload_n 1, 1) := by decide +kernel
theorem dX8_byExchange_32 : decode cX8_byExchange 32 = .ok (.iload_n 2, 1) := by decide +kernel
theorem dX8_byExchange_33 : decode cX8_byExchange 33 = .ok (.iload 4, 2) := by decide +kernel
theorem dX8_byExchange_35 : decode cX8_byExchange 35 = .ok (.invokevirtual 100, 3) := by decide +kernel
theorem dX8_byExchange_38 : decode cX8_byExchange 38 = .ok (.aload_n 0, 1) := by decide +kernel
theorem dX8_byExchange_39 : decode cX8_byExchange 39 = .ok (.iload_n 1, 1) := by decide +kernel
theorem dX8_byExchange_40 : decode cX8_byExchange 40 = .ok (.iload_n 2, 1) := by decide +kernel
theorem dX8_byExchange_41 : decode cX8_byExchange 41 = .ok (.iload_n 3, 1) := by decide +kernel
theorem dX8_byExchange_42 : decode cX8_byExchange 42 = .ok (.invokevirtual 100, 3) := by decide +kernel
theorem dX8_byExchange_45 : decode cX8_byExchange 45 = .ok (.if_icmp .ge 6, 3) := by decide +kernel
theorem dX8_byExchange_48 : decode cX8_byExchange 48 = .ok (.iload 4, 2) := by decide +kernel
theorem dX8_byExchange_50 : decode cX8_byExchange 50 = .ok (.istore_n 3, 1) := by decide +kernel
theorem dX8_byExchange_51 : decode cX8_byExchange 51 = .ok (.iinc 4 1, 3) := by decide +kernel
theorem dX8_byExchange_54 : decode cX8_byExchange 54 = .ok (.goto (-49), 3) := by decide +kernel
theorem dX8_byExchange_57 : decode cX8_byExchange 57 = .ok (.iload_n 3, 1) := by decide +kernel
theorem dX8_byExchange_58 : decode cX8_byExchange 58 = .ok (.ireturn, 1) := by decide +kernel
theorem dX8_mapSum_0 : decode cX8_mapSum 0 = .ok (.aload_n 0, 1) := by decide +kernel
theorem dX8_mapSum_1 : decode cX8_mapSum 1 = .ok (.getfield 9, 3) := by decide +kernel
theorem dX8_mapSum_4 : decode cX8_mapSum 4 = .ok (.bipush 27, 2) := by decide +kernel
theorem dX8_mapSum_6 : decode cX8_mapSum 6 = .ok (.iload_n 1, 1) := by decide +kernel
theorem dX8_mapSum_7 : decode cX8_mapSum 7 = .ok (.iadd, 1) := by decide +kernel
theorem dX8_mapSum_8 : decode cX8_mapSum 8 = .ok (.iaload, 1) := by decide +kernel
theorem dX8_mapSum_9 : decode cX8_mapSum 9 = .ok (.aload_n 0, 1) := by decide +kernel
theorem dX8_mapSum_10 : decode cX8_mapSum 10 = .ok (.getfield 9, 3) := by decide +kernel
theorem dX8_mapSum_13 : decode cX8_mapSum 13 = .ok (.bipush 30, 2) := by decide +kernel
theorem dX8_mapSum_15 : decode cX8_mapSum 15 = .ok (.iload_n 1, 1) := by decide +kernel
theorem dX8_mapSum_16 : decode cX8_mapSum 16 = .ok (.iadd, 1) := by decide +kernel
theorem dX8_mapSum_17 : decode cX8_mapSum 17 = .ok (.iaload, 1) := by decide +kernel
theorem dX8_mapSum_18 : decode cX8_mapSum 18 = .ok (.iadd, 1) := by decide +kernel
theorem dX8_mapSum_19 : decode cX8_mapSum 19 = .ok (.aload_n 0, 1) := by decide +kernel
theorem dX8_mapSum_20 : decode cX8_mapSum 20 = .ok (.getfield 9, 3) := by decide +kernel
theorem dX8_mapSum_23 : decode cX8_mapSum 23 = .ok (.bipush 33, 2) := by decide +kernel
theorem dX8_mapSum_25 : decode cX8_mapSum 25 = .ok (.iload_n 1, 1) := by decide +kernel
theorem dX8_mapSum_26 : decode cX8_mapSum 26 = .ok (.iadd, 1) := by decide +kernel
theorem dX8_mapSum_27 : decode cX8_mapSum 27 = .ok (.iaload, 1) := by decide +kernel
theorem dX8_mapSum_28 : decode cX8_mapSum 28 = .ok (.iadd, 1) := by decide +kernel
theorem dX8_mapSum_29 : decode cX8_mapSum 29 = .ok (.ireturn, 1) := by decide +kernel
theorem dX8_byMap_0 : decode cX8_byMap 0 = .ok (.iconst 0, 1) := by decide +kernel
theorem dX8_byMap_1 : decode cX8_byMap 1 = .ok (.istore_n 3, 1) := by decide +kernel
theorem dX8_byMap_2 : decode cX8_byMap 2 = .ok (.aload_n 0, 1) := by decide +kernel
theorem dX8_byMap_3 : decode cX8_byMap 3 = .ok (.iload_n 1, 1) := by decide +kernel
theorem dX8_byMap_4 : decode cX8_byMap 4 = .ok (.iload_n 2, 1) := by decide +kernel
theorem dX8_byMap_5 : decode cX8_byMap 5 = .ok (.iload_n 3, 1) := by decide +kernel
theorem dX8_byMap_6 : decode cX8_byMap 6 = .ok (.invokevirtual 111, 3) := by decide +kernel
theorem dX8_byMap_9 : decode cX8_byMap 9 = .ok (.ifCond .eq 26, 3) := by decide +kernel
theorem dX8_byMap_12 : decode cX8_byMap 12 = .ok (.aload_n 0, 1) := by decide +kernel
theorem dX8_byMap_13 : decode cX8_byMap 13 = .ok (.iload_n 1, 1) := by decide +kernel
theorem dX8_byMap_14 : decode cX8_byMap 14 = .ok (.iload_n 2, 1) := by decide +kernel
theorem dX8_byMap_15 : decode cX8_byMap 15 = .ok (.iload_n 3, 1) := by decide +kernel
theorem dX8_byMap_16 : decode cX8_byMap 16 = .ok (.invokevirtual 114, 3) := by decide +kernel
theorem dX8_byMap_19 : decode cX8_byMap 19 = .ok (.aload_n 0, 1) := by decide +kernel
theorem dX8_byMap_20 : decode cX8_byMap 20 = .ok (.iconst 0, 1) := by decide +kernel
theorem dX8_byMap_21 : decode cX8_byMap 21 = .ok (.invokevirtual 117, 3) := by decide +kernel
theorem dX8_byMap_24 : decode cX8_byMap 24 = .ok (.aload_n 0, 1) := by decide +kernel
theorem dX8_byMap_25 : decode cX8_byMap 25 = .ok (.iload_n 1, 1) := by decide +kernel
theorem dX8_byMap_26 : decode cX8_byMap 26 = .ok (.iload_n 2, 1) := by decide +kernel
theorem dX8_byMap_27 : decode cX8_byMap 27 = .ok (.iload_n 3, 1) := by decide +kernel
theorem dX8_byMap_28 : decode cX8_byMap 28 = .ok (.invokevirtual 76, 3) := by decide +kernel
theorem dX8_byMap_31 : decode cX8_byMap 31 = .ok (.imul, 1) := by decide +kernel
theorem dX8_byMap_32 : decode cX8_byMap 32 = .ok (.if_icmp .le 9, 3) := by decide +kernel
theorem dX8_byMap_35 : decode cX8_byMap 35 = .ok (.iinc 3 1, 3) := by decide +kernel
theorem dX8_byMap_38 : decode cX8_byMap 38 = .ok (.goto (-36), 3) := by decide +kernel
theorem dX8_byMap_41 : decode cX8_byMap 41 = .ok (.iload_n 3, 1) := by decide +kernel
theorem dX8_byMap_42 : decode cX8_byMap 42 = .ok (.ireturn, 1) := by decide +kernel
theorem dX8_mapped_0 : decode cX8_mapped 0 = .ok (.iconst 0, 1) := by decide +kernel
theorem dX8_mapped_1 : decode cX8_mapped 1 = .ok (.istore 4, 2) := by decide +kernel
theorem dX8_mapped_3 : decode cX8_mapped 3 = .ok (.iconst 0, 1) := by decide +kernel
theorem dX8_mapped_4 : decode cX8_mapped 4 = .ok (.istore 5, 2) := by decide +kernel
theorem dX8_mapped_6 : decode cX8_mapped 6 = .ok (.iload 5, 2) := by decide +kernel
theorem dX8_mapped_8 : decode cX8_mapped 8 = .ok (.iconst 3, 1) := by decide +kernel
theorem dX8_mapped_9 : decode cX8_mapped 9 = .ok (.if_icmp .ge 37, 3) := by decide +kernel
theorem dX8_mapped_12 : decode cX8_mapped 12 = .ok (.iload 4, 2) := by decide +kernel
theorem dX8_mapped_14 : decode cX8_mapped 14 = .ok (.aload_n 0, 1) := by decide +kernel
theorem dX8_mapped_15 : decode cX8_mapped 15 = .ok (.getfield 9, 3) := by decide +kernel
theorem dX8_mapped_18 : decode cX8_mapped 18 = .ok (.bipush 27, 2) := by decide +kernel
theorem dX8_mapped_20 : decode cX8_mapped 20 = .ok (.iconst 3, 1) := by decide +kernel
theorem dX8_mapped_21 : decode cX8_mapped 21 = .ok (.iload_n 3, 1) := by decide +kernel
theorem dX8_mapped_22 : decode cX8_mapped 22 = .ok (.imul, 1) := by decide +kernel
theorem dX8_mapped_23 : decode cX8_mapped 23 = .ok (.iadd, 1) := by decide +kernel
theorem dX8_mapped_24 : decode cX8_mapped 24 = .ok (.iload 5, 2) := by decide +kernel
theorem dX8_mapped_26 : decode cX8_mapped 26 = .ok (.iadd, 1) := by decide +kernel
theorem dX8_mapped_27 : decode cX8_mapped 27 = .ok (.iaload, 1) := by decide +kernel
theorem dX8_mapped_28 : decode cX8_mapped 28 = .ok (.aload_n 0, 1) := by decide +kernel
theorem dX8_mapped_29 : decode cX8_mapped 29 = .ok (.iload_n 1, 1) := by decide +kernel
theorem dX8_mapped_30 : decode cX8_mapped 30 = .ok (.iload_n 2, 1) := by decide +kernel
theorem dX8_mapped_31 : decode cX8_mapped 31 = .ok (.iload 5, 2) := by decide +kernel
theorem dX8_mapped_33 : decode cX8_mapped 33 = .ok (.invokevirtual 76, 3) := by decide +kernel
theorem dX8_mapped_36 : decode cX8_mapped 36 = .ok (.imul, 1) := by decide +kernel
theorem dX8_mapped_37 : decode cX8_mapped 37 = .ok (.iadd, 1) := by decide +kernel
theorem dX8_mapped_38 : decode cX8_mapped 38 = .ok (.istore 4, 2) := by decide +kernel
theorem dX8_mapped_40 : decode cX8_mapped 40 = .ok (.iinc 5 1, 3) := by decide +kernel
theorem dX8_mapped_43 : decode cX8_mapped 43 = .ok (.goto (-37), 3) := by decide +kernel
theorem dX8_mapped_46 : decode cX8_mapped 46 = .ok (.iload 4, 2) := by decide +kernel
theorem dX8_mapped_48 : decode cX8_mapped 48 = .ok (.ireturn, 1) := by decide +kernel
theorem dX8_layRule_0 : decode cX8_layRule 0 = .ok (.iconst 0, 1) := by decide +kernel
theorem dX8_layRule_1 : decode cX8_layRule 1 = .ok (.istore_n 1, 1) := by decide +kernel
theorem dX8_layRule_2 : decode cX8_layRule 2 = .ok (.iload_n 1, 1) := by decide +kernel
theorem dX8_layRule_3 : decode cX8_layRule 3 = .ok (.aload_n 0, 1) := by decide +kernel
theorem dX8_layRule_4 : decode cX8_layRule 4 = .ok (.invokevirtual 68, 3) := by decide +kernel
theorem dX8_layRule_7 : decode cX8_layRule 7 = .ok (.if_icmp .gt 66, 3) := by decide +kernel
theorem dX8_layRule_10 : decode cX8_layRule 10 = .ok (.iconst 0, 1) := by decide +kernel
theorem dX8_layRule_11 : decode cX8_layRule 11 = .ok (.istore_n 2, 1) := by decide +kernel
theorem dX8_layRule_12 : decode cX8_layRule 12 = .ok (.iload_n 2, 1) := by decide +kernel
theorem dX8_layRule_13 : decode cX8_layRule 13 = .ok (.aload_n 0, 1) := by decide +kernel
theorem dX8_layRule_14 : decode cX8_layRule 14 = .ok (.invokevirtual 68, 3) := by decide +kernel
theorem dX8_layRule_17 : decode cX8_layRule 17 = .ok (.iload_n 1, 1) := by decide +kernel
theorem dX8_layRule_18 : decode cX8_layRule 18 = .ok (.isub, 1) := by decide +kernel
theorem dX8_layRule_19 : decode cX8_layRule 19 = .ok (.if_icmp .gt 48, 3) := by decide +kernel
theorem dX8_layRule_22 : decode cX8_layRule 22 = .ok (.aload_n 0, 1) := by decide +kernel
theorem dX8_layRule_23 : decode cX8_layRule 23 = .ok (.getfield 9, 3) := by decide +kernel
theorem dX8_layRule_26 : decode cX8_layRule 26 = .ok (.bipush 36, 2) := by decide +kernel
theorem dX8_layRule_28 : decode cX8_layRule 28 = .ok (.aload_n 0, 1) := by decide +kernel
theorem dX8_layRule_29 : decode cX8_layRule 29 = .ok (.iload_n 1, 1) := by decide +kernel
theorem dX8_layRule_30 : decode cX8_layRule 30 = .ok (.iload_n 2, 1) := by decide +kernel
theorem dX8_layRule_31 : decode cX8_layRule 31 = .ok (.invokevirtual 80, 3) := by decide +kernel
theorem dX8_layRule_34 : decode cX8_layRule 34 = .ok (.iadd, 1) := by decide +kernel
theorem dX8_layRule_35 : decode cX8_layRule 35 = .ok (.aload_n 0, 1) := by decide +kernel
theorem dX8_layRule_36 : decode cX8_layRule 36 = .ok (.getfield 9, 3) := by decide +kernel
theorem dX8_layRule_39 : decode cX8_layRule 39 = .ok (.iconst 1, 1) := by decide +kernel
theorem dX8_layRule_40 : decode cX8_layRule 40 = .ok (.iaload, 1) := by decide +kernel
theorem dX8_layRule_41 : decode cX8_layRule 41 = .ok (.iconst 1, 1) := by decide +kernel
theorem dX8_layRule_42 : decode cX8_layRule 42 = .ok (.if_icmp .ne 12, 3) := by decide +kernel
theorem dX8_layRule_45 : decode cX8_layRule 45 = .ok (.aload_n 0, 1) := by decide +kernel
theorem dX8_layRule_46 : decode cX8_layRule 46 = .ok (.iload_n 1, 1) := by decide +kernel
theorem dX8_layRule_47 : decode cX8_layRule 47 = .ok (.iload_n 2, 1) := by decide +kernel
theorem dX8_layRule_48 : decode cX8_layRule 48 = .ok (.invokevirtual 120, 3) := by decide +kernel
theorem dX8_layRule_51 : decode cX8_layRule 51 = .ok (.goto 9, 3) := by decide +kernel
theorem dX8_layRule_54 : decode cX8_layRule 54 = .ok (.aload_n 0, 1) := by decide +kernel
theorem dX8_layRule_55 : decode cX8_layRule 55 = .ok (.iload_n 1, 1) := by decide +kernel
theorem dX8_layRule_56 : decode cX8_layRule 56 = .ok (.iload_n 2, 1) := by decide +kernel
theorem dX8_layRule_57 : decode cX8_layRule 57 = .ok (.invokevirtual 123, 3) := by decide +kernel
theorem dX8_layRule_60 : decode cX8_layRule 60 = .ok (.iastore, 1) := by decide +kernel
theorem dX8_layRule_61 : decode cX8_layRule 61 = .ok (.iinc 2 1, 3) := by decide +kernel
theorem dX8_layRule_64 : decode cX8_layRule 64 = .ok (.goto (-52), 3) := by decide +kernel
theorem dX8_layRule_67 : decode cX8_layRule 67 = .ok (.iinc 1 1, 3) := by decide +kernel
theorem dX8_layRule_70 : decode cX8_layRule 70 = .ok (.goto (-68), 3) := by decide +kernel
theorem dX8_layRule_73 : decode cX8_layRule 73 = .ok (.return_, 1) := by decide +kernel
theorem dX8_sign_0 : decode cX8_sign 0 = .ok (.aload_n 0, 1) := by decide +kernel
theorem dX8_sign_1 : decode cX8_sign 1 = .ok (.iconst 0, 1) := by decide +kernel
theorem dX8_sign_2 : decode cX8_sign 2 = .ok (.putfield 61, 3) := by decide +kernel
theorem dX8_sign_5 : decode cX8_sign 5 = .ok (.aload_n 0, 1) := by decide +kernel
theorem dX8_sign_6 : decode cX8_sign 6 = .ok (.getfield 126, 3) := by decide +kernel
theorem dX8_sign_9 : decode cX8_sign 9 = .ok (.iconst 4, 1) := by decide +kernel
theorem dX8_sign_10 : decode cX8_sign 10 = .ok (.iadd, 1) := by decide +kernel
theorem dX8_sign_11 : decode cX8_sign 11 = .ok (.bipush 80, 2) := by decide +kernel
theorem dX8_sign_13 : decode cX8_sign 13 = .ok (.if_icmp .le 5, 3) := by decide +kernel
theorem dX8_sign_16 : decode cX8_sign 16 = .ok (.iconst (-1), 1) := by decide +kernel
theorem dX8_sign_17 : decode cX8_sign 17 = .ok (.ireturn, 1) := by decide +kernel
theorem dX8_sign_18 : decode cX8_sign 18 = .ok (.iconst 3, 1) := by decide +kernel
theorem dX8_sign_19 : decode cX8_sign 19 = .ok (.istore_n 2, 1) := by decide +kernel
theorem dX8_sign_20 : decode cX8_sign 20 = .ok (.iload_n 2, 1) := by decide +kernel
theorem dX8_sign_21 : decode cX8_sign 21 = .ok (.ifCond .lt 32, 3) := by decide +kernel
theorem dX8_sign_24 : decode cX8_sign 24 = .ok (.aload_n 0, 1) := by decide +kernel
theorem dX8_sign_25 : decode cX8_sign 25 = .ok (.getfield 13, 3) := by decide +kernel
theorem dX8_sign_28 : decode cX8_sign 28 = .ok (.aload_n 0, 1) := by decide +kernel
theorem dX8_sign_29 : decode cX8_sign 29 = .ok (.dup, 1) := by decide +kernel
theorem dX8_sign_30 : decode cX8_sign 30 = .ok (.getfield 126, 3) := by decide +kernel
theorem dX8_sign_33 : decode cX8_sign 33 = .ok (.dup_x1, 1) := by decide +kernel
theorem dX8_sign_34 : decode cX8_sign 34 = .ok (.iconst 1, 1) := by decide +kernel
theorem dX8_sign_35 : decode cX8_sign 35 = .ok (.iadd, 1) := by decide +kernel
theorem dX8_sign_36 : decode cX8_sign 36 = .ok (.putfield 126, 3) := by decide +kernel
theorem dX8_sign_39 : decode cX8_sign 39 = .ok (.iload_n 1, 1) := by decide +kernel
theorem dX8_sign_40 : decode cX8_sign 40 = .ok (.bipush 8, 2) := by decide +kernel
theorem dX8_sign_42 : decode cX8_sign 42 = .ok (.iload_n 2, 1) := by decide +kernel
theorem dX8_sign_43 : decode cX8_sign 43 = .ok (.imul, 1) := by decide +kernel
theorem dX8_sign_44 : decode cX8_sign 44 = .ok (.ishr, 1) := by decide +kernel
theorem dX8_sign_45 : decode cX8_sign 45 = .ok (.i2b, 1) := by decide +kernel
theorem dX8_sign_46 : decode cX8_sign 46 = .ok (.bastore, 1) := by decide +kernel
theorem dX8_sign_47 : decode cX8_sign 47 = .ok (.iinc 2 (-1), 3) := by decide +kernel
theorem dX8_sign_50 : decode cX8_sign 50 = .ok (.goto (-30), 3) := by decide +kernel
theorem dX8_sign_53 : decode cX8_sign 53 = .ok (.aload_n 0, 1) := by decide +kernel
theorem dX8_sign_54 : decode cX8_sign 54 = .ok (.getfield 126, 3) := by decide +kernel
theorem dX8_sign_57 : decode cX8_sign 57 = .ok (.ireturn, 1) := by decide +kernel
theorem dX8_end_0 : decode cX8_end 0 = .ok (.aload_n 0, 1) := by decide +kernel
theorem dX8_end_1 : decode cX8_end 1 = .ok (.iconst 0, 1) := by decide +kernel
theorem dX8_end_2 : decode cX8_end 2 = .ok (.putfield 61, 3) := by decide +kernel
theorem dX8_end_5 : decode cX8_end 5 = .ok (.iload_n 1, 1) := by decide +kernel
theorem dX8_end_6 : decode cX8_end 6 = .ok (.iconst 0, 1) := by decide +kernel
theorem dX8_end_7 : decode cX8_end 7 = .ok (.aload_n 0, 1) := by decide +kernel
theorem dX8_end_8 : decode cX8_end 8 = .ok (.getfield 126, 3) := by decide +kernel
theorem dX8_end_11 : decode cX8_end 11 = .ok (.invokestatic 72, 3) := by decide +kernel
theorem dX8_end_14 : decode cX8_end 14 = .ok (.ifCond .ne 5, 3) := by decide +kernel
theorem dX8_end_17 : decode cX8_end 17 = .ok (.iconst 0, 1) := by decide +kernel
theorem dX8_end_18 : decode cX8_end 18 = .ok (.ireturn, 1) := by decide +kernel
theorem dX8_end_19 : decode cX8_end 19 = .ok (.aload_n 0, 1) := by decide +kernel
theorem dX8_end_20 : decode cX8_end 20 = .ok (.iload_n 1, 1) := by decide +kernel
theorem dX8_end_21 : decode cX8_end 21 = .ok (.putfield 126, 3) := by decide +kernel
theorem dX8_end_24 : decode cX8_end 24 = .ok (.iconst 1, 1) := by decide +kernel
theorem dX8_end_25 : decode cX8_end 25 = .ok (.ireturn, 1) := by decide +kernel
theorem dX8_begin_0 : decode cX8_begin 0 = .ok (.aload_n 0, 1) := by decide +kernel
theorem dX8_begin_1 : decode cX8_begin 1 = .ok (.aload_n 0, 1) := by decide +kernel
theorem dX8_begin_2 : decode cX8_begin 2 = .ok (.getfield 126, 3) := by decide +kernel
theorem dX8_begin_5 : decode cX8_begin 5 = .ok (.putfield 129, 3) := by decide +kernel
theorem dX8_begin_8 : decode cX8_begin 8 = .ok (.aload_n 0, 1) := by decide +kernel
theorem dX8_begin_9 : decode cX8_begin 9 = .ok (.iconst 0, 1) := by decide +kernel
theorem dX8_begin_10 : decode cX8_begin 10 = .ok (.putfield 132, 3) := by decide +kernel
theorem dX8_begin_13 : decode cX8_begin 13 = .ok (.aload_n 0, 1) := by decide +kernel
theorem dX8_begin_14 : decode cX8_begin 14 = .ok (.iconst (-1), 1) := by decide +kernel
theorem dX8_begin_15 : decode cX8_begin 15 = .ok (.putfield 135, 3) := by decide +kernel
theorem dX8_begin_18 : decode cX8_begin 18 = .ok (.aload_n 0, 1) := by decide +kernel
theorem dX8_begin_19 : decode cX8_begin 19 = .ok (.iconst 0, 1) := by decide +kernel
theorem dX8_begin_20 : decode cX8_begin 20 = .ok (.putfield 126, 3) := by decide +kernel
theorem dX8_begin_23 : decode cX8_begin 23 = .ok (.return_, 1) := by decide +kernel
theorem dX8_here_0 : decode cX8_here 0 = .ok (.aload_n 0, 1) := by decide +kernel
theorem dX8_here_1 : decode cX8_here 1 = .ok (.getfield 132, 3) := by decide +kernel
theorem dX8_here_4 : decode cX8_here 4 = .ok (.aload_n 0, 1) := by decide +kernel
theorem dX8_here_5 : decode cX8_here 5 = .ok (.getfield 129, 3) := by decide +kernel
theorem dX8_here_8 : decode cX8_here 8 = .ok (.if_icmp .ge 19, 3) := by decide +kernel
theorem dX8_here_11 : decode cX8_here 11 = .ok (.aload_n 0, 1) := by decide +kernel
theorem dX8_here_12 : decode cX8_here 12 = .ok (.getfield 13, 3) := by decide +kernel
theorem dX8_here_15 : decode cX8_here 15 = .ok (.aload_n 0, 1) := by decide +kernel
theorem dX8_here_16 : decode cX8_here 16 = .ok (.getfield 132, 3) := by decide +kernel
theorem dX8_here_19 : decode cX8_here 19 = .ok (.baload, 1) := by decide +kernel
theorem dX8_here_20 : decode cX8_here 20 = .ok (.sipush 255, 3) := by decide +kernel
theorem dX8_here_23 : decode cX8_here 23 = .ok (.iand, 1) := by decide +kernel
theorem dX8_here_24 : decode cX8_here 24 = .ok (.goto 4, 3) := by decide +kernel
theorem dX8_here_27 : decode cX8_here 27 = .ok (.iconst (-1), 1) := by decide +kernel
theorem dX8_here_28 : decode cX8_here 28 = .ok (.ireturn, 1) := by decide +kernel
theorem dX8_fine_0 : decode cX8_fine 0 = .ok (.aload_n 0, 1) := by decide +kernel
theorem dX8_fine_1 : decode cX8_fine 1 = .ok (.getfield 135, 3) := by decide +kernel
theorem dX8_fine_4 : decode cX8_fine 4 = .ok (.iconst (-1), 1) := by decide +kernel
theorem dX8_fine_5 : decode cX8_fine 5 = .ok (.if_icmp .ne 7, 3) := by decide +kernel
theorem dX8_fine_8 : decode cX8_fine 8 = .ok (.iconst 1, 1) := by decide +kernel
theorem dX8_fine_9 : decode cX8_fine 9 = .ok (.goto 4, 3) := by decide +kernel
theorem dX8_fine_12 : decode cX8_fine 12 = .ok (.iconst 0, 1) := by decide +kernel
theorem dX8_fine_13 : decode cX8_fine 13 = .ok (.ireturn, 1) := by decide +kernel
theorem dX8_fault_0 : decode cX8_fault 0 = .ok (.aload_n 0, 1) := by decide +kernel
theorem dX8_fault_1 : decode cX8_fault 1 = .ok (.invokevirtual 138, 3) := by decide +kernel
theorem dX8_fault_4 : decode cX8_fault 4 = .ok (.ifCond .eq 8, 3) := by decide +kernel
theorem dX8_fault_7 : decode cX8_fault 7 = .ok (.aload_n 0, 1) := by decide +kernel
theorem dX8_fault_8 : decode cX8_fault 8 = .ok (.iload_n 1, 1) := by decide +kernel
theorem dX8_fault_9 : decode cX8_fault 9 = .ok (.putfield 135, 3) := by decide +kernel
theorem dX8_fault_12 : decode cX8_fault 12 = .ok (.return_, 1) := by decide +kernel
theorem dX8_oneOf_0 : decode cX8_oneOf 0 = .ok (.aload_n 0, 1) := by decide +kernel
theorem dX8_oneOf_1 : decode cX8_oneOf 1 = .ok (.invokevirtual 138, 3) := by decide +kernel
theorem dX8_oneOf_4 : decode cX8_oneOf 4 = .ok (.ifCond .ne 5, 3) := by decide +kernel
theorem dX8_oneOf_7 : decode cX8_oneOf 7 = .ok (.iconst 0, 1) := by decide +kernel
theorem dX8_oneOf_8 : decode cX8_oneOf 8 = .ok (.ireturn, 1) := by decide +kernel
theorem dX8_oneOf_9 : decode cX8_oneOf 9 = .ok (.aload_n 0, 1) := by decide +kernel
theorem dX8_oneOf_10 : decode cX8_oneOf 10 = .ok (.invokevirtual 142, 3) := by decide +kernel
theorem dX8_oneOf_13 : decode cX8_oneOf 13 = .ok (.iload_n 1, 1) := by decide +kernel
theorem dX8_oneOf_14 : decode cX8_oneOf 14 = .ok (.iload_n 1, 1) := by decide +kernel
theorem dX8_oneOf_15 : decode cX8_oneOf 15 = .ok (.iload_n 2, 1) := by decide +kernel
theorem dX8_oneOf_16 : decode cX8_oneOf 16 = .ok (.iadd, 1) := by decide +kernel
theorem dX8_oneOf_17 : decode cX8_oneOf 17 = .ok (.iconst 1, 1) := by decide +kernel
theorem dX8_oneOf_18 : decode cX8_oneOf 18 = .ok (.isub, 1) := by decide +kernel
theorem dX8_oneOf_19 : decode cX8_oneOf 19 = .ok (.invokestatic 72, 3) := by decide +kernel
theorem dX8_oneOf_22 : decode cX8_oneOf 22 = .ok (.ifCond .ne 13, 3) := by decide +kernel
theorem dX8_oneOf_25 : decode cX8_oneOf 25 = .ok (.aload_n 0, 1) := by decide +kernel
theorem dX8_oneOf_26 : decode cX8_oneOf 26 = .ok (.aload_n 0, 1) := by decide +kernel
theorem dX8_oneOf_27 : decode cX8_oneOf 27 = .ok (.getfield 132, 3) := by decide +kernel
theorem dX8_oneOf_30 : decode cX8_oneOf 30 = .ok (.invokevirtual 145, 3) := by decide +kernel
theorem dX8_oneOf_33 : decode cX8_oneOf 33 = .ok (.iconst 0, 1) := by decide +kernel
theorem dX8_oneOf_34 : decode cX8_oneOf 34 = .ok (.ireturn, 1) := by decide +kernel
theorem dX8_oneOf_35 : decode cX8_oneOf 35 = .ok (.aload_n 0, 1) := by decide +kernel
theorem dX8_oneOf_36 : decode cX8_oneOf 36 = .ok (.dup, 1) := by decide +kernel
theorem dX8_oneOf_37 : decode cX8_oneOf 37 = .ok (.getfield 132, 3) := by decide +kernel
theorem dX8_oneOf_40 : decode cX8_oneOf 40 = .ok (.iconst 1, 1) := by decide +kernel
theorem dX8_oneOf_41 : decode cX8_oneOf 41 = .ok (.iadd, 1) := by decide +kernel
theorem dX8_oneOf_42 : decode cX8_oneOf 42 = .ok (.putfield 132, 3) := by decide +kernel
theorem dX8_oneOf_45 : decode cX8_oneOf 45 = .ok (.aload_n 0, 1) := by decide +kernel
theorem dX8_oneOf_46 : decode cX8_oneOf 46 = .ok (.getfield 13, 3) := by decide +kernel
theorem dX8_oneOf_49 : decode cX8_oneOf 49 = .ok (.aload_n 0, 1) := by decide +kernel
theorem dX8_oneOf_50 : decode cX8_oneOf 50 = .ok (.getfield 132, 3) := by decide +kernel
theorem dX8_oneOf_53 : decode cX8_oneOf 53 = .ok (.iconst 1, 1) := by decide +kernel
theorem dX8_oneOf_54 : decode cX8_oneOf 54 = .ok (.isub, 1) := by decide +kernel
theorem dX8_oneOf_55 : decode cX8_oneOf 55 = .ok (.baload, 1) := by decide +kernel
theorem dX8_oneOf_56 : decode cX8_oneOf 56 = .ok (.iload_n 1, 1) := by decide +kernel
theorem dX8_oneOf_57 : decode cX8_oneOf 57 = .ok (.isub, 1) := by decide +kernel
theorem dX8_oneOf_58 : decode cX8_oneOf 58 = .ok (.ireturn, 1) := by decide +kernel
theorem dX8_digits_0 : decode cX8_digits 0 = .ok (.iconst 0, 1) := by decide +kernel
theorem dX8_digits_1 : decode cX8_digits 1 = .ok (.istore_n 2, 1) := by decide +kernel
theorem dX8_digits_2 : decode cX8_digits 2 = .ok (.iconst 0, 1) := by decide +kernel
theorem dX8_digits_3 : decode cX8_digits 3 = .ok (.istore_n 3, 1) := by decide +kernel
theorem dX8_digits_4 : decode cX8_digits 4 = .ok (.iload_n 3, 1) := by decide +kernel
theorem dX8_digits_5 : decode cX8_digits 5 = .ok (.iload_n 1, 1) := by decide +kernel
theorem dX8_digits_6 : decode cX8_digits 6 = .ok (.if_icmp .ge 23, 3) := by decide +kernel
theorem dX8_digits_9 : decode cX8_digits 9 = .ok (.bipush 10, 2) := by decide +kernel
theorem dX8_digits_11 : decode cX8_digits 11 = .ok (.iload_n 2, 1) := by decide +kernel
theorem dX8_digits_12 : decode cX8_digits 12 = .ok (.imul, 1) := by decide +kernel
theorem dX8_digits_13 : decode cX8_digits 13 = .ok (.aload_n 0, 1) := by decide +kernel
theorem dX8_digits_14 : decode cX8_digits 14 = .ok (.bipush 48, 2) := by decide +kernel
theorem dX8_digits_16 : decode cX8_digits 16 = .ok (.bipush 10, 2) := by decide +kernel
theorem dX8_digits_18 : decode cX8_digits 18 = .ok (.invokevirtual 149, 3) := by decide +kernel
theorem dX8_digits_21 : decode cX8_digits 21 = .ok (.iadd, 1) := by decide +kernel
theorem dX8_digits_22 : decode cX8_digits 22 = .ok (.istore_n 2, 1) := by decide +kernel
theorem dX8_digits_23 : decode cX8_digits 23 = .ok (.iinc 3 1, 3) := by decide +kernel
theorem dX8_digits_26 : decode cX8_digits 26 = .ok (.goto (-22), 3) := by decide +kernel
theorem dX8_digits_29 : decode cX8_digits 29 = .ok (.iload_n 2, 1) := by decide +kernel
theorem dX8_digits_30 : decode cX8_digits 30 = .ok (.ireturn, 1) := by decide +kernel
theorem dX8_passes_0 : decode cX8_passes 0 = .ok (.aload_n 0, 1) := by decide +kernel
theorem dX8_passes_1 : decode cX8_passes 1 = .ok (.invokevirtual 138, 3) := by decide +kernel
theorem dX8_passes_4 : decode cX8_passes 4 = .ok (.ifCond .eq 11, 3) := by decide +kernel
theorem dX8_passes_7 : decode cX8_passes 7 = .ok (.aload_n 0, 1) := by decide +kernel
theorem dX8_passes_8 : decode cX8_passes 8 = .ok (.invokevirtual 142, 3) := by decide +kernel
theorem dX8_passes_11 : decode cX8_passes 11 = .ok (.iload_n 1, 1) := by decide +kernel
theorem dX8_passes_12 : decode cX8_passes 12 = .ok (.if_icmp .eq 5, 3) := by decide +kernel
theorem dX8_passes_15 : decode cX8_passes 15 = .ok (.iconst 0, 1) := by decide +kernel
theorem dX8_passes_16 : decode cX8_passes 16 = .ok (.ireturn, 1) := by decide +kernel
theorem dX8_passes_17 : decode cX8_passes 17 = .ok (.aload_n 0, 1) := by decide +kernel
theorem dX8_passes_18 : decode cX8_passes 18 = .ok (.dup, 1) := by decide +kernel
theorem dX8_passes_19 : decode cX8_passes 19 = .ok (.getfield 132, 3) := by decide +kernel
theorem dX8_passes_22 : decode cX8_passes 22 = .ok (.iconst 1, 1) := by decide +kernel
theorem dX8_passes_23 : decode cX8_passes 23 = .ok (.iadd, 1) := by decide +kernel
theorem dX8_passes_24 : decode cX8_passes 24 = .ok (.putfield 132, 3) := by decide +kernel
theorem dX8_passes_27 : decode cX8_passes 27 = .ok (.iconst 1, 1) := by decide +kernel
theorem dX8_passes_28 : decode cX8_passes 28 = .ok (.ireturn, 1) := by decide +kernel
theorem dX8_wasRight_0 : decode cX8_wasRight 0 = .ok (.aload_n 0, 1) := by decide +kernel
theorem dX8_wasRight_1 : decode cX8_wasRight 1 = .ok (.getfield 132, 3) := by decide +kernel
theorem dX8_wasRight_4 : decode cX8_wasRight 4 = .ok (.aload_n 0, 1) := by decide +kernel
theorem dX8_wasRight_5 : decode cX8_wasRight 5 = .ok (.getfield 129, 3) := by decide +kernel
theorem dX8_wasRight_8 : decode cX8_wasRight 8 = .ok (.if_icmp .ge 11, 3) := by decide +kernel
theorem dX8_wasRight_11 : decode cX8_wasRight 11 = .ok (.aload_n 0, 1) := by decide +kernel
theorem dX8_wasRight_12 : decode cX8_wasRight 12 = .ok (.aload_n 0, 1) := by decide +kernel
theorem dX8_wasRight_13 : decode cX8_wasRight 13 = .ok (.getfield 132, 3) := by decide +kernel
theorem dX8_wasRight_16 : decode cX8_wasRight 16 = .ok (.invokevirtual 145, 3) := by decide +kernel
theorem dX8_wasRight_19 : decode cX8_wasRight 19 = .ok (.aload_n 0, 1) := by decide +kernel
theorem dX8_wasRight_20 : decode cX8_wasRight 20 = .ok (.invokevirtual 138, 3) := by decide +kernel
theorem dX8_wasRight_23 : decode cX8_wasRight 23 = .ok (.ireturn, 1) := by decide +kernel
theorem dX8_labels_0 : decode cX8_labels 0 = .ok (.aload_n 0, 1) := by decide +kernel
theorem dX8_labels_1 : decode cX8_labels 1 = .ok (.iconst 0, 1) := by decide +kernel
theorem dX8_labels_2 : decode cX8_labels 2 = .ok (.putfield 61, 3) := by decide +kernel
theorem dX8_labels_5 : decode cX8_labels 5 = .ok (.aload_n 0, 1) := by decide +kernel
theorem dX8_labels_6 : decode cX8_labels 6 = .ok (.invokevirtual 153, 3) := by decide +kernel
theorem dX8_labels_9 : decode cX8_labels 9 = .ok (.aload_n 0, 1) := by decide +kernel
theorem dX8_labels_10 : decode cX8_labels 10 = .ok (.iconst 2, 1) := by decide +kernel
theorem dX8_labels_11 : decode cX8_labels 11 = .ok (.invokevirtual 156, 3) := by decide +kernel
theorem dX8_labels_14 : decode cX8_labels 14 = .ok (.istore_n 1, 1) := by decide +kernel
theorem dX8_labels_15 : decode cX8_labels 15 = .ok (.aload_n 0, 1) := by decide +kernel
theorem dX8_labels_16 : decode cX8_labels 16 = .ok (.invokevirtual 138, 3) := by decide +kernel
theorem dX8_labels_19 : decode cX8_labels 19 = .ok (.ifCond .eq 23, 3) := by decide +kernel
theorem dX8_labels_22 : decode cX8_labels 22 = .ok (.iload_n 1, 1) := by decide +kernel
theorem dX8_labels_23 : decode cX8_labels 23 = .ok (.iconst 1, 1) := by decide +kernel
theorem dX8_labels_24 : decode cX8_labels 24 = .ok (.bipush 10, 2) := by decide +kernel
theorem dX8_labels_26 : decode cX8_labels 26 = .ok (.invokestatic 72, 3) := by decide +kernel
theorem dX8_labels_29 : decode cX8_labels 29 = .ok (.ifCond .ne 13, 3) := by decide +kernel
theorem dX8_labels_32 : decode cX8_labels 32 = .ok (.aload_n 0, 1) := by decide +kernel
theorem dX8_labels_33 : decode cX8_labels 33 = .ok (.aload_n 0, 1) := by decide +kernel
theorem dX8_labels_34 : decode cX8_labels 34 = .ok (.getfield 132, 3) := by decide +kernel
theorem dX8_labels_37 : decode cX8_labels 37 = .ok (.iconst 1, 1) := by decide +kernel
theorem dX8_labels_38 : decode cX8_labels 38 = .ok (.isub, 1) := by decide +kernel
theorem dX8_labels_39 : decode cX8_labels 39 = .ok (.invokevirtual 145, 3) := by decide +kernel
theorem dX8_labels_42 : decode cX8_labels 42 = .ok (.iconst 0, 1) := by decide +kernel
theorem dX8_labels_43 : decode cX8_labels 43 = .ok (.istore_n 2, 1) := by decide +kernel
theorem dX8_labels_44 : decode cX8_labels 44 = .ok (.iconst 0, 1) := by decide +kernel
theorem dX8_labels_45 : decode cX8_labels 45 = .ok (.istore_n 3, 1) := by decide +kernel
theorem dX8_labels_46 : decode cX8_labels 46 = .ok (.iload_n 3, 1) := by decide +kernel
theorem dX8_labels_47 : decode cX8_labels 47 = .ok (.iload_n 1, 1) := by decide +kernel
theorem dX8_labels_48 : decode cX8_labels 48 = .ok (.if_icmp .gt 110, 3) := by decide +kernel
theorem dX8_labels_51 : decode cX8_labels 51 = .ok (.aload_n 0, 1) := by decide +kernel
theorem dX8_labels_52 : decode cX8_labels 52 = .ok (.invokevirtual 138, 3) := by decide +kernel
theorem dX8_labels_55 : decode cX8_labels 55 = .ok (.ifCond .eq 103, 3) := by decide +kernel
theorem dX8_labels_58 : decode cX8_labels 58 = .ok (.iconst 0, 1) := by decide +kernel
theorem dX8_labels_59 : decode cX8_labels 59 = .ok (.istore 4, 2) := by decide +kernel
theorem dX8_labels_61 : decode cX8_labels 61 = .ok (.iload 4, 2) := by decide +kernel
theorem dX8_labels_63 : decode cX8_labels 63 = .ok (.iload_n 1, 1) := by decide +kernel
theorem dX8_labels_64 : decode cX8_labels 64 = .ok (.iload_n 3, 1) := by decide +kernel
theorem dX8_labels_65 : decode cX8_labels 65 = .ok (.isub, 1) := by decide +kernel
theorem dX8_labels_66 : decode cX8_labels 66 = .ok (.if_icmp .gt 86, 3) := by decide +kernel
theorem dX8_labels_69 : decode cX8_labels 69 = .ok (.aload_n 0, 1) := by decide +kernel
theorem dX8_labels_70 : decode cX8_labels 70 = .ok (.invokevirtual 138, 3) := by decide +kernel
theorem dX8_labels_73 : decode cX8_labels 73 = .ok (.ifCond .eq 79, 3) := by decide +kernel
theorem dX8_labels_76 : decode cX8_labels 76 = .ok (.aload_n 0, 1) := by decide +kernel
theorem dX8_labels_77 : decode cX8_labels 77 = .ok (.bipush 48, 2) := by decide +kernel
theorem dX8_labels_79 : decode cX8_labels 79 = .ok (.iconst 3, 1) := by decide +kernel
theorem dX8_labels_80 : decode cX8_labels 80 = .ok (.invokevirtual 149, 3) := by decide +kernel
theorem dX8_labels_83 : decode cX8_labels 83 = .ok (.istore 5, 2) := by decide +kernel
theorem dX8_labels_85 : decode cX8_labels 85 = .ok (.iload 5, 2) := by decide +kernel
theorem dX8_labels_87 : decode cX8_labels 87 = .ok (.ifCond .ne 7, 3) := by decide +kernel
theorem dX8_labels_90 : decode cX8_labels 90 = .ok (.iload_n 3, 1) := by decide +kernel
theorem dX8_labels_91 : decode cX8_labels 91 = .ok (.goto 20, 3) := by decide +kernel
theorem dX8_labels_94 : decode cX8_labels 94 = .ok (.iload 5, 2) := by decide +kernel
theorem dX8_labels_96 : decode cX8_labels 96 = .ok (.iconst 1, 1) := by decide +kernel
theorem dX8_labels_97 : decode cX8_labels 97 = .ok (.if_icmp .ne 8, 3) := by decide +kernel
theorem dX8_labels_100 : decode cX8_labels 100 = .ok (.iload 4, 2) := by decide +kernel
theorem dX8_labels_102 : decode cX8_labels 102 = .ok (.goto 9, 3) := by decide +kernel
theorem dX8_labels_105 : decode cX8_labels 105 = .ok (.iload_n 1, 1) := by decide +kernel
theorem dX8_labels_106 : decode cX8_labels 106 = .ok (.iload_n 3, 1) := by decide +kernel
theorem dX8_labels_107 : decode cX8_labels 107 = .ok (.isub, 1) := by decide +kernel
theorem dX8_labels_108 : decode cX8_labels 108 = .ok (.iload 4, 2) := by decide +kernel
theorem dX8_labels_110 : decode cX8_labels 110 = .ok (.isub, 1) := by decide +kernel
theorem dX8_labels_111 : decode cX8_labels 111 = .ok (.istore 6, 2) := by decide +kernel
theorem dX8_labels_113 : decode cX8_labels 113 = .ok (.aload_n 0, 1) := by decide +kernel
theorem dX8_labels_114 : decode cX8_labels 114 = .ok (.invokevirtual 138, 3) := by decide +kernel
theorem dX8_labels_117 : decode cX8_labels 117 = .ok (.ifCond .eq 18, 3) := by decide +kernel
theorem dX8_labels_120 : decode cX8_labels 120 = .ok (.iload 6, 2) := by decide +kernel
theorem dX8_labels_122 : decode cX8_labels 122 = .ok (.ifCond .ne 13, 3) := by decide +kernel
theorem dX8_labels_125 : decode cX8_labels 125 = .ok (.aload_n 0, 1) := by decide +kernel
theorem dX8_labels_126 : decode cX8_labels 126 = .ok (.aload_n 0, 1) := by decide +kernel
theorem dX8_labels_127 : decode cX8_labels 127 = .ok (.getfield 132, 3) := by decide +kernel
theorem dX8_labels_130 : decode cX8_labels 130 = .ok (.iconst 1, 1) := by decide +kernel
theorem dX8_labels_131 : decode cX8_labels 131 = .ok (.isub, 1) := by decide +kernel
theorem dX8_labels_132 : decode cX8_labels 132 = .ok (.invokevirtual 145, 3) := by decide +kernel
theorem dX8_labels_135 : decode cX8_labels 135 = .ok (.aload_n 0, 1) := by decide +kernel
theorem dX8_labels_136 : decode cX8_labels 136 = .ok (.getfield 21, 3) := by decide +kernel
theorem dX8_labels_139 : decode cX8_labels 139 = .ok (.iload_n 2, 1) := by decide +kernel
theorem dX8_labels_140 : decode cX8_labels 140 = .ok (.iload 5, 2) := by decide +kernel
theorem dX8_labels_142 : decode cX8_labels 142 = .ok (.iastore, 1) := by decide +kernel
theorem dX8_labels_143 : decode cX8_labels 143 = .ok (.iinc 2 1, 3) := by decide +kernel
theorem dX8_labels_146 : decode cX8_labels 146 = .ok (.iinc 4 1, 3) := by decide +kernel
theorem dX8_labels_149 : decode cX8_labels 149 = .ok (.goto (-88), 3) := by decide +kernel
theorem dX8_labels_152 : decode cX8_labels 152 = .ok (.iinc 3 1, 3) := by decide +kernel
theorem dX8_labels_155 : decode cX8_labels 155 = .ok (.goto (-109), 3) := by decide +kernel
theorem dX8_labels_158 : decode cX8_labels 158 = .ok (.aload_n 0, 1) := by decide +kernel
theorem dX8_labels_159 : decode cX8_labels 159 = .ok (.invokevirtual 159, 3) := by decide +kernel
theorem dX8_labels_162 : decode cX8_labels 162 = .ok (.ifCond .ne 10, 3) := by decide +kernel
theorem dX8_labels_165 : decode cX8_labels 165 = .ok (.iconst (-1), 1) := by decide +kernel
theorem dX8_labels_166 : decode cX8_labels 166 = .ok (.aload_n 0, 1) := by decide +kernel
theorem dX8_labels_167 : decode cX8_labels 167 = .ok (.getfield 135, 3) := by decide +kernel
theorem dX8_labels_170 : decode cX8_labels 170 = .ok (.isub, 1) := by decide +kernel
theorem dX8_labels_171 : decode cX8_labels 171 = .ok (.ireturn, 1) := by decide +kernel
theorem dX8_labels_172 : decode cX8_labels 172 = .ok (.aload_n 0, 1) := by decide +kernel
theorem dX8_labels_173 : decode cX8_labels 173 = .ok (.invokevirtual 162, 3) := by decide +kernel
theorem dX8_labels_176 : decode cX8_labels 176 = .ok (.aload_n 0, 1) := by decide +kernel
theorem dX8_labels_177 : decode cX8_labels 177 = .ok (.getfield 9, 3) := by decide +kernel
theorem dX8_labels_180 : decode cX8_labels 180 = .ok (.iconst 0, 1) := by decide +kernel
theorem dX8_labels_181 : decode cX8_labels 181 = .ok (.iload_n 1, 1) := by decide +kernel
theorem dX8_labels_182 : decode cX8_labels 182 = .ok (.iastore, 1) := by decide +kernel
theorem dX8_labels_183 : decode cX8_labels 183 = .ok (.aload_n 0, 1) := by decide +kernel
theorem dX8_labels_184 : decode cX8_labels 184 = .ok (.getfield 9, 3) := by decide +kernel
theorem dX8_labels_187 : decode cX8_labels 187 = .ok (.iconst 1, 1) := by decide +kernel
theorem dX8_labels_188 : decode cX8_labels 188 = .ok (.iconst 0, 1) := by decide +kernel
theorem dX8_labels_189 : decode cX8_labels 189 = .ok (.iastore, 1) := by decide +kernel
theorem dX8_labels_190 : decode cX8_labels 190 = .ok (.iconst 0, 1) := by decide +kernel
theorem dX8_labels_191 : decode cX8_labels 191 = .ok (.istore_n 3, 1) := by decide +kernel
theorem dX8_labels_192 : decode cX8_labels 192 = .ok (.iload_n 3, 1) := by decide +kernel
theorem dX8_labels_193 : decode cX8_labels 193 = .ok (.sipush 153, 3) := by decide +kernel
theorem dX8_labels_196 : decode cX8_labels 196 = .ok (.if_icmp .ge 33, 3) := by decide +kernel
theorem dX8_labels_199 : decode cX8_labels 199 = .ok (.aload_n 0, 1) := by decide +kernel
theorem dX8_labels_200 : decode cX8_labels 200 = .ok (.getfield 9, 3) := by decide +kernel
theorem dX8_labels_203 : decode cX8_labels 203 = .ok (.bipush 36, 2) := by decide +kernel
theorem dX8_labels_205 : decode cX8_labels 205 = .ok (.iload_n 3, 1) := by decide +kernel
theorem dX8_labels_206 : decode cX8_labels 206 = .ok (.iadd, 1) := by decide +kernel
theorem dX8_labels_207 : decode cX8_labels 207 = .ok (.iload_n 3, 1) := by decide +kernel
theorem dX8_labels_208 : decode cX8_labels 208 = .ok (.iload_n 2, 1) := by decide +kernel
theorem dX8_labels_209 : decode cX8_labels 209 = .ok (.if_icmp .ge 12, 3) := by decide +kernel
theorem dX8_labels_212 : decode cX8_labels 212 = .ok (.aload_n 0, 1) := by decide +kernel
theorem dX8_labels_213 : decode cX8_labels 213 = .ok (.getfield 21, 3) := by decide +kernel
theorem dX8_labels_216 : decode cX8_labels 216 = .ok (.iload_n 3, 1) := by decide +kernel
theorem dX8_labels_217 : decode cX8_labels 217 = .ok (.iaload, 1) := by decide +kernel
theorem dX8_labels_218 : decode cX8_labels 218 = .ok (.goto 4, 3) := by decide +kernel
theorem dX8_labels_221 : decode cX8_labels 221 = .ok (.iconst 0, 1) := by decide +kernel
theorem dX8_labels_222 : decode cX8_labels 222 = .ok (.iastore, 1) := by decide +kernel
theorem dX8_labels_223 : decode cX8_labels 223 = .ok (.iinc 3 1, 3) := by decide +kernel
theorem dX8_labels_226 : decode cX8_labels 226 = .ok (.goto (-34), 3) := by decide +kernel
theorem dX8_labels_229 : decode cX8_labels 229 = .ok (.iload_n 2, 1) := by decide +kernel
theorem dX8_labels_230 : decode cX8_labels 230 = .ok (.ireturn, 1) := by decide +kernel
theorem dX8_exchange_0 : decode cX8_exchange 0 = .ok (.aload_n 0, 1) := by decide +kernel
theorem dX8_exchange_1 : decode cX8_exchange 1 = .ok (.iconst 0, 1) := by decide +kernel
theorem dX8_exchange_2 : decode cX8_exchange 2 = .ok (.putfield 61, 3) := by decide +kernel
theorem dX8_exchange_5 : decode cX8_exchange 5 = .ok (.aload_n 0, 1) := by decide +kernel
theorem dX8_exchange_6 : decode cX8_exchange 6 = .ok (.invokevirtual 153, 3) := by decide +kernel
theorem dX8_exchange_9 : decode cX8_exchange 9 = .ok (.iconst 0, 1) := by decide +kernel
theorem dX8_exchange_10 : decode cX8_exchange 10 = .ok (.istore_n 1, 1) := by decide +kernel
theorem dX8_exchange_11 : decode cX8_exchange 11 = .ok (.iconst 1, 1) := by decide +kernel
theorem dX8_exchange_12 : decode cX8_exchange 12 = .ok (.istore_n 2, 1) := by decide +kernel
theorem dX8_exchange_13 : decode cX8_exchange 13 = .ok (.iload_n 2, 1) := by decide +kernel
theorem dX8_exchange_14 : decode cX8_exchange 14 = .ok (.ifCond .eq 113, 3) := by decide +kernel
theorem dX8_exchange_17 : decode cX8_exchange 17 = .ok (.iload_n 1, 1) := by decide +kernel
theorem dX8_exchange_18 : decode cX8_exchange 18 = .ok (.iconst 4, 1) := by decide +kernel
theorem dX8_exchange_19 : decode cX8_exchange 19 = .ok (.if_icmp .ne 13, 3) := by decide +kernel
theorem dX8_exchange_22 : decode cX8_exchange 22 = .ok (.aload_n 0, 1) := by decide +kernel
theorem dX8_exchange_23 : decode cX8_exchange 23 = .ok (.aload_n 0, 1) := by decide +kernel
theorem dX8_exchange_24 : decode cX8_exchange 24 = .ok (.getfield 132, 3) := by decide +kernel
theorem dX8_exchange_27 : decode cX8_exchange 27 = .ok (.iconst 1, 1) := by decide +kernel
theorem dX8_exchange_28 : decode cX8_exchange 28 = .ok (.isub, 1) := by decide +kernel
theorem dX8_exchange_29 : decode cX8_exchange 29 = .ok (.invokevirtual 145, 3) := by decide +kernel
theorem dX8_exchange_32 : decode cX8_exchange 32 = .ok (.iconst 0, 1) := by decide +kernel
theorem dX8_exchange_33 : decode cX8_exchange 33 = .ok (.istore_n 3, 1) := by decide +kernel
theorem dX8_exchange_34 : decode cX8_exchange 34 = .ok (.iload_n 3, 1) := by decide +kernel
theorem dX8_exchange_35 : decode cX8_exchange 35 = .ok (.iconst 3, 1) := by decide +kernel
theorem dX8_exchange_36 : decode cX8_exchange 36 = .ok (.if_icmp .ge 35, 3) := by decide +kernel
theorem dX8_exchange_39 : decode cX8_exchange 39 = .ok (.aload_n 0, 1) := by decide +kernel
theorem dX8_exchange_40 : decode cX8_exchange 40 = .ok (.invokevirtual 138, 3) := by decide +kernel
theorem dX8_exchange_43 : decode cX8_exchange 43 = .ok (.ifCond .eq 28, 3) := by decide +kernel
theorem dX8_exchange_46 : decode cX8_exchange 46 = .ok (.aload_n 0, 1) := by decide +kernel
theorem dX8_exchange_47 : decode cX8_exchange 47 = .ok (.getfield 21, 3) := by decide +kernel
theorem dX8_exchange_50 : decode cX8_exchange 50 = .ok (.bipush 6, 2) := by decide +kernel
theorem dX8_exchange_52 : decode cX8_exchange 52 = .ok (.iload_n 1, 1) := by decide +kernel
theorem dX8_exchange_53 : decode cX8_exchange 53 = .ok (.imul, 1) := by decide +kernel
theorem dX8_exchange_54 : decode cX8_exchange 54 = .ok (.iload_n 3, 1) := by decide +kernel
theorem dX8_exchange_55 : decode cX8_exchange 55 = .ok (.iadd, 1) := by decide +kernel
theorem dX8_exchange_56 : decode cX8_exchange 56 = .ok (.aload_n 0, 1) := by decide +kernel
theorem dX8_exchange_57 : decode cX8_exchange 57 = .ok (.bipush 48, 2) := by decide +kernel
theorem dX8_exchange_59 : decode cX8_exchange 59 = .ok (.bipush 10, 2) := by decide +kernel
theorem dX8_exchange_61 : decode cX8_exchange 61 = .ok (.invokevirtual 149, 3) := by decide +kernel
theorem dX8_exchange_64 : decode cX8_exchange 64 = .ok (.iastore, 1) := by decide +kernel
theorem dX8_exchange_65 : decode cX8_exchange 65 = .ok (.iinc 3 1, 3) := by decide +kernel
theorem dX8_exchange_68 : decode cX8_exchange 68 = .ok (.goto (-34), 3) := by decide +kernel
theorem dX8_exchange_71 : decode cX8_exchange 71 = .ok (.iconst 0, 1) := by decide +kernel
theorem dX8_exchange_72 : decode cX8_exchange 72 = .ok (.istore_n 3, 1) := by decide +kernel
theorem dX8_exchange_73 : decode cX8_exchange 73 = .ok (.iload_n 3, 1) := by decide +kernel
theorem dX8_exchange_74 : decode cX8_exchange 74 = .ok (.iconst 3, 1) := by decide +kernel
theorem dX8_exchange_75 : decode cX8_exchange 75 = .ok (.if_icmp .ge 39, 3) := by decide +kernel
theorem dX8_exchange_78 : decode cX8_exchange 78 = .ok (.aload_n 0, 1) := by decide +kernel
theorem dX8_exchange_79 : decode cX8_exchange 79 = .ok (.invokevirtual 138, 3) := by decide +kernel
theorem dX8_exchange_82 : decode cX8_exchange 82 = .ok (.ifCond .eq 32, 3) := by decide +kernel
theorem dX8_exchange_85 : decode cX8_exchange 85 = .ok (.aload_n 0, 1) := by decide +kernel
theorem dX8_exchange_86 : decode cX8_exchange 86 = .ok (.getfield 21, 3) := by decide +kernel
theorem dX8_exchange_89 : decode cX8_exchange 89 = .ok (.bipush 6, 2) := by decide +kernel
theorem dX8_exchange_91 : decode cX8_exchange 91 = .ok (.iload_n 1, 1) := by decide +kernel
theorem dX8_exchange_92 : decode cX8_exchange 92 = .ok (.imul, 1) := by decide +kernel
theorem dX8_exchange_93 : decode cX8_exchange 93 = .ok (.iconst 3, 1) := by decide +kernel
theorem dX8_exchange_94 : decode cX8_exchange 94 = .ok (.iadd, 1) := by decide +kernel
theorem dX8_exchange_95 : decode cX8_exchange 95 = .ok (.iload_n 3, 1) := by decide +kernel
theorem dX8_exchange_96 : decode cX8_exchange 96 = .ok (.iadd, 1) := by decide +kernel
theorem dX8_exchange_97 : decode cX8_exchange 97 = .ok (.aload_n 0, 1) := by decide +kernel
theorem dX8_exchange_98 : decode cX8_exchange 98 = .ok (.bipush 49, 2) := by decide +kernel
theorem dX8_exchange_100 : decode cX8_exchange 100 = .ok (.bipush 9, 2) := by decide +kernel
theorem dX8_exchange_102 : decode cX8_exchange 102 = .ok (.invokevirtual 149, 3) := by decide +kernel
theorem dX8_exchange_105 : decode cX8_exchange 105 = .ok (.iconst 1, 1) := by decide +kernel
theorem dX8_exchange_106 : decode cX8_exchange 106 = .ok (.iadd, 1) := by decide +kernel
theorem dX8_exchange_107 : decode cX8_exchange 107 = .ok (.iastore, 1) := by decide +kernel
theorem dX8_exchange_108 : decode cX8_exchange 108 = .ok (.iinc 3 1, 3) := by decide +kernel
theorem dX8_exchange_111 : decode cX8_exchange 111 = .ok (.goto (-38), 3) := by decide +kernel
theorem dX8_exchange_114 : decode cX8_exchange 114 = .ok (.iinc 1 1, 3) := by decide +kernel
theorem dX8_exchange_117 : decode cX8_exchange 117 = .ok (.aload_n 0, 1) := by decide +kernel
theorem dX8_exchange_118 : decode cX8_exchange 118 = .ok (.bipush 59, 2) := by decide +kernel
theorem dX8_exchange_120 : decode cX8_exchange 120 = .ok (.invokevirtual 165, 3) := by decide +kernel
theorem dX8_exchange_123 : decode cX8_exchange 123 = .ok (.istore_n 2, 1) := by decide +kernel
theorem dX8_exchange_124 : decode cX8_exchange 124 = .ok (.goto (-111), 3) := by decide +kernel
theorem dX8_exchange_127 : decode cX8_exchange 127 = .ok (.aload_n 0, 1) := by decide +kernel
theorem dX8_exchange_128 : decode cX8_exchange 128 = .ok (.invokevirtual 159, 3) := by decide +kernel
theorem dX8_exchange_131 : decode cX8_exchange 131 = .ok (.ifCond .ne 10, 3) := by decide +kernel
theorem dX8_exchange_134 : decode cX8_exchange 134 = .ok (.iconst (-1), 1) := by decide +kernel
theorem dX8_exchange_135 : decode cX8_exchange 135 = .ok (.aload_n 0, 1) := by decide +kernel
theorem dX8_exchange_136 : decode cX8_exchange 136 = .ok (.getfield 135, 3) := by decide +kernel
theorem dX8_exchange_139 : decode cX8_exchange 139 = .ok (.isub, 1) := by decide +kernel
theorem dX8_exchange_140 : decode cX8_exchange 140 = .ok (.ireturn, 1) := by decide +kernel
theorem dX8_exchange_141 : decode cX8_exchange 141 = .ok (.aload_n 0, 1) := by decide +kernel
theorem dX8_exchange_142 : decode cX8_exchange 142 = .ok (.invokevirtual 162, 3) := by decide +kernel
theorem dX8_exchange_145 : decode cX8_exchange 145 = .ok (.aload_n 0, 1) := by decide +kernel
theorem dX8_exchange_146 : decode cX8_exchange 146 = .ok (.getfield 9, 3) := by decide +kernel
theorem dX8_exchange_149 : decode cX8_exchange 149 = .ok (.iconst 2, 1) := by decide +kernel
theorem dX8_exchange_150 : decode cX8_exchange 150 = .ok (.iload_n 1, 1) := by decide +kernel
theorem dX8_exchange_151 : decode cX8_exchange 151 = .ok (.iastore, 1) := by decide +kernel
theorem dX8_exchange_152 : decode cX8_exchange 152 = .ok (.iconst 0, 1) := by decide +kernel
theorem dX8_exchange_153 : decode cX8_exchange 153 = .ok (.istore_n 3, 1) := by decide +kernel
theorem dX8_exchange_154 : decode cX8_exchange 154 = .ok (.iload_n 3, 1) := by decide +kernel
theorem dX8_exchange_155 : decode cX8_exchange 155 = .ok (.iconst 4, 1) := by decide +kernel
theorem dX8_exchange_156 : decode cX8_exchange 156 = .ok (.if_icmp .ge 95, 3) := by decide +kernel
theorem dX8_exchange_159 : decode cX8_exchange 159 = .ok (.iconst 0, 1) := by decide +kernel
theorem dX8_exchange_160 : decode cX8_exchange 160 = .ok (.istore 4, 2) := by decide +kernel
theorem dX8_exchange_162 : decode cX8_exchange 162 = .ok (.iload 4, 2) := by decide +kernel
theorem dX8_exchange_164 : decode cX8_exchange 164 = .ok (.iconst 3, 1) := by decide +kernel
theorem dX8_exchange_165 : decode cX8_exchange 165 = .ok (.if_icmp .ge 80, 3) := by decide +kernel
theorem dX8_exchange_168 : decode cX8_exchange 168 = .ok (.aload_n 0, 1) := by decide +kernel
theorem dX8_exchange_169 : decode cX8_exchange 169 = .ok (.getfield 9, 3) := by decide +kernel
theorem dX8_exchange_172 : decode cX8_exchange 172 = .ok (.iconst 3, 1) := by decide +kernel
theorem dX8_exchange_173 : decode cX8_exchange 173 = .ok (.iconst 3, 1) := by decide +kernel
theorem dX8_exchange_174 : decode cX8_exchange 174 = .ok (.iload_n 3, 1) := by decide +kernel
theorem dX8_exchange_175 : decode cX8_exchange 175 = .ok (.imul, 1) := by decide +kernel
theorem dX8_exchange_176 : decode cX8_exchange 176 = .ok (.iadd, 1) := by decide +kernel
theorem dX8_exchange_177 : decode cX8_exchange 177 = .ok (.iload 4, 2) := by decide +kernel
theorem dX8_exchange_179 : decode cX8_exchange 179 = .ok (.iadd, 1) := by decide +kernel
theorem dX8_exchange_180 : decode cX8_exchange 180 = .ok (.iload_n 3, 1) := by decide +kernel
theorem dX8_exchange_181 : decode cX8_exchange 181 = .ok (.iload_n 1, 1) := by decide +kernel
theorem dX8_exchange_182 : decode cX8_exchange 182 = .ok (.if_icmp .ge 18, 3) := by decide +kernel
theorem dX8_exchange_185 : decode cX8_exchange 185 = .ok (.aload_n 0, 1) := by decide +kernel
theorem dX8_exchange_186 : decode cX8_exchange 186 = .ok (.getfield 21, 3) := by decide +kernel
theorem dX8_exchange_189 : decode cX8_exchange 189 = .ok (.bipush 6, 2) := by decide +kernel
theorem dX8_exchange_191 : decode cX8_exchange 191 = .ok (.iload_n 3, 1) := by decide +kernel
theorem dX8_exchange_192 : decode cX8_exchange 192 = .ok (.imul, 1) := by decide +kernel
theorem dX8_exchange_193 : decode cX8_exchange 193 = .ok (.iload 4, 2) := by decide +kernel
theorem dX8_exchange_195 : decode cX8_exchange 195 = .ok (.iadd, 1) := by decide +kernel
theorem dX8_exchange_196 : decode cX8_exchange 196 = .ok (.iaload, 1) := by decide +kernel
theorem dX8_exchange_197 : decode cX8_exchange 197 = .ok (.goto 4, 3) := by decide +kernel
theorem dX8_exchange_200 : decode cX8_exchange 200 = .ok (.iconst 0, 1) := by decide +kernel
theorem dX8_exchange_201 : decode cX8_exchange 201 = .ok (.iastore, 1) := by decide +kernel
theorem dX8_exchange_202 : decode cX8_exchange 202 = .ok (.aload_n 0, 1) := by decide +kernel
theorem dX8_exchange_203 : decode cX8_exchange 203 = .ok (.getfield 9, 3) := by decide +kernel
theorem dX8_exchange_206 : decode cX8_exchange 206 = .ok (.bipush 15, 2) := by decide +kernel
theorem dX8_exchange_208 : decode cX8_exchange 208 = .ok (.iconst 3, 1) := by decide +kernel
theorem dX8_exchange_209 : decode cX8_exchange 209 = .ok (.iload_n 3, 1) := by decide +kernel
theorem dX8_exchange_210 : decode cX8_exchange 210 = .ok (.imul, 1) := by decide +kernel
theorem dX8_exchange_211 : decode cX8_exchange 211 = .ok (.iadd, 1) := by decide +kernel
theorem dX8_exchange_212 : decode cX8_exchange 212 = .ok (.iload 4, 2) := by decide +kernel
theorem dX8_exchange_214 : decode cX8_exchange 214 = .ok (.iadd, 1) := by decide +kernel
theorem dX8_exchange_215 : decode cX8_exchange 215 = .ok (.iload_n 3, 1) := by decide +kernel
theorem dX8_exchange_216 : decode cX8_exchange 216 = .ok (.iload_n 1, 1) := by decide +kernel
theorem dX8_exchange_217 : decode cX8_exchange 217 = .ok (.if_icmp .ge 20, 3) := by decide +kernel
theorem dX8_exchange_220 : decode cX8_exchange 220 = .ok (.aload_n 0, 1) := by decide +kernel
theorem dX8_exchange_221 : decode cX8_exchange 221 = .ok (.getfield 21, 3) := by decide +kernel
theorem dX8_exchange_224 : decode cX8_exchange 224 = .ok (.bipush 6, 2) := by decide +kernel
theorem dX8_exchange_226 : decode cX8_exchange 226 = .ok (.iload_n 3, 1) := by decide +kernel
theorem dX8_exchange_227 : decode cX8_exchange 227 = .ok (.imul, 1) := by decide +kernel
theorem dX8_exchange_228 : decode cX8_exchange 228 = .ok (.iconst 3, 1) := by decide +kernel
theorem dX8_exchange_229 : decode cX8_exchange 229 = .ok (.iadd, 1) := by decide +kernel
theorem dX8_exchange_230 : decode cX8_exchange 230 = .ok (.iload 4, 2) := by decide +kernel
theorem dX8_exchange_232 : decode cX8_exchange 232 = .ok (.iadd, 1) := by decide +kernel
theorem dX8_exchange_233 : decode cX8_exchange 233 = .ok (.iaload, 1) := by decide +kernel
theorem dX8_exchange_234 : decode cX8_exchange 234 = .ok (.goto 4, 3) := by decide +kernel
theorem dX8_exchange_237 : decode cX8_exchange 237 = .ok (.iconst 0, 1) := by decide +kernel
theorem dX8_exchange_238 : decode cX8_exchange 238 = .ok (.iastore, 1) := by decide +kernel
theorem dX8_exchange_239 : decode cX8_exchange 239 = .ok (.iinc 4 1, 3) := by decide +kernel
theorem dX8_exchange_242 : decode cX8_exchange 242 = .ok (.goto (-80), 3) := by decide +kernel
theorem dX8_exchange_245 : decode cX8_exchange 245 = .ok (.iinc 3 1, 3) := by decide +kernel
theorem dX8_exchange_248 : decode cX8_exchange 248 = .ok (.goto (-94), 3) := by decide +kernel
theorem dX8_exchange_251 : decode cX8_exchange 251 = .ok (.aload_n 0, 1) := by decide +kernel
theorem dX8_exchange_252 : decode cX8_exchange 252 = .ok (.getfield 9, 3) := by decide +kernel
theorem dX8_exchange_255 : decode cX8_exchange 255 = .ok (.iconst 1, 1) := by decide +kernel
theorem dX8_exchange_256 : decode cX8_exchange 256 = .ok (.iconst 1, 1) := by decide +kernel
theorem dX8_exchange_257 : decode cX8_exchange 257 = .ok (.iastore, 1) := by decide +kernel
theorem dX8_exchange_258 : decode cX8_exchange 258 = .ok (.aload_n 0, 1) := by decide +kernel
theorem dX8_exchange_259 : decode cX8_exchange 259 = .ok (.invokevirtual 169, 3) := by decide +kernel
theorem dX8_exchange_262 : decode cX8_exchange 262 = .ok (.iload_n 1, 1) := by decide +kernel
theorem dX8_exchange_263 : decode cX8_exchange 263 = .ok (.ireturn, 1) := by decide +kernel
theorem dX8_map_0 : decode cX8_map 0 = .ok (.aload_n 0, 1) := by decide +kernel
theorem dX8_map_1 : decode cX8_map 1 = .ok (.iconst 0, 1) := by decide +kernel
theorem dX8_map_2 : decode cX8_map 2 = .ok (.putfield 61, 3) := by decide +kernel
theorem dX8_map_5 : decode cX8_map 5 = .ok (.aload_n 0, 1) := by decide +kernel
theorem dX8_map_6 : decode cX8_map 6 = .ok (.invokevirtual 153, 3) := by decide +kernel
theorem dX8_map_9 : decode cX8_map 9 = .ok (.iconst 0, 1) := by decide +kernel
theorem dX8_map_10 : decode cX8_map 10 = .ok (.istore_n 1, 1) := by decide +kernel
theorem dX8_map_11 : decode cX8_map 11 = .ok (.iload_n 1, 1) := by decide +kernel
theorem dX8_map_12 : decode cX8_map 12 = .ok (.bipush 9, 2) := by decide +kernel
theorem dX8_map_14 : decode cX8_map 14 = .ok (.if_icmp .ge 23, 3) := by decide +kernel
theorem dX8_map_17 : decode cX8_map 17 = .ok (.aload_n 0, 1) := by decide +kernel
theorem dX8_map_18 : decode cX8_map 18 = .ok (.getfield 21, 3) := by decide +kernel
theorem dX8_map_21 : decode cX8_map 21 = .ok (.iload_n 1, 1) := by decide +kernel
theorem dX8_map_22 : decode cX8_map 22 = .ok (.aload_n 0, 1) := by decide +kernel
theorem dX8_map_23 : decode cX8_map 23 = .ok (.bipush 48, 2) := by decide +kernel
theorem dX8_map_25 : decode cX8_map 25 = .ok (.bipush 10, 2) := by decide +kernel
theorem dX8_map_27 : decode cX8_map 27 = .ok (.invokevirtual 149, 3) := by decide +kernel
theorem dX8_map_30 : decode cX8_map 30 = .ok (.iastore, 1) := by decide +kernel
theorem dX8_map_31 : decode cX8_map 31 = .ok (.iinc 1 1, 3) := by decide +kernel
theorem dX8_map_34 : decode cX8_map 34 = .ok (.goto (-23), 3) := by decide +kernel
theorem dX8_map_37 : decode cX8_map 37 = .ok (.aload_n 0, 1) := by decide +kernel
theorem dX8_map_38 : decode cX8_map 38 = .ok (.invokevirtual 159, 3) := by decide +kernel
theorem dX8_map_41 : decode cX8_map 41 = .ok (.ifCond .ne 10, 3) := by decide +kernel
theorem dX8_map_44 : decode cX8_map 44 = .ok (.iconst (-1), 1) := by decide +kernel
theorem dX8_map_45 : decode cX8_map 45 = .ok (.aload_n 0, 1) := by decide +kernel
theorem dX8_map_46 : decode cX8_map 46 = .ok (.getfield 135, 3) := by decide +kernel
theorem dX8_map_49 : decode cX8_map 49 = .ok (.isub, 1) := by decide +kernel
theorem dX8_map_50 : decode cX8_map 50 = .ok (.ireturn, 1) := by decide +kernel
theorem dX8_map_51 : decode cX8_map 51 = .ok (.aload_n 0, 1) := by decide +kernel
theorem dX8_map_52 : decode cX8_map 52 = .ok (.getfield 21, 3) := by decide +kernel
theorem dX8_map_55 : decode cX8_map 55 = .ok (.iconst 0, 1) := by decide +kernel
theorem dX8_map_56 : decode cX8_map 56 = .ok (.iaload, 1) := by decide +kernel
theorem dX8_map_57 : decode cX8_map 57 = .ok (.aload_n 0, 1) := by decide +kernel
theorem dX8_map_58 : decode cX8_map 58 = .ok (.getfield 21, 3) := by decide +kernel
theorem dX8_map_61 : decode cX8_map 61 = .ok (.iconst 3, 1) := by decide +kernel
theorem dX8_map_62 : decode cX8_map 62 = .ok (.iaload, 1) := by decide +kernel
theorem dX8_map_63 : decode cX8_map 63 = .ok (.iadd, 1) := by decide +kernel
theorem dX8_map_64 : decode cX8_map 64 = .ok (.aload_n 0, 1) := by decide +kernel
theorem dX8_map_65 : decode cX8_map 65 = .ok (.getfield 21, 3) := by decide +kernel
theorem dX8_map_68 : decode cX8_map 68 = .ok (.bipush 6, 2) := by decide +kernel
theorem dX8_map_70 : decode cX8_map 70 = .ok (.iaload, 1) := by decide +kernel
theorem dX8_map_71 : decode cX8_map 71 = .ok (.iadd, 1) := by decide +kernel
theorem dX8_map_72 : decode cX8_map 72 = .ok (.istore_n 1, 1) := by decide +kernel
theorem dX8_map_73 : decode cX8_map 73 = .ok (.iload_n 1, 1) := by decide +kernel
theorem dX8_map_74 : decode cX8_map 74 = .ok (.ifCond .eq 53, 3) := by decide +kernel
theorem dX8_map_77 : decode cX8_map 77 = .ok (.aload_n 0, 1) := by decide +kernel
theorem dX8_map_78 : decode cX8_map 78 = .ok (.getfield 21, 3) := by decide +kernel
theorem dX8_map_81 : decode cX8_map 81 = .ok (.iconst 1, 1) := by decide +kernel
theorem dX8_map_82 : decode cX8_map 82 = .ok (.iaload, 1) := by decide +kernel
theorem dX8_map_83 : decode cX8_map 83 = .ok (.aload_n 0, 1) := by decide +kernel
theorem dX8_map_84 : decode cX8_map 84 = .ok (.getfield 21, 3) := by decide +kernel
theorem dX8_map_87 : decode cX8_map 87 = .ok (.iconst 4, 1) := by decide +kernel
theorem dX8_map_88 : decode cX8_map 88 = .ok (.iaload, 1) := by decide +kernel
theorem dX8_map_89 : decode cX8_map 89 = .ok (.iadd, 1) := by decide +kernel
theorem dX8_map_90 : decode cX8_map 90 = .ok (.aload_n 0, 1) := by decide +kernel
theorem dX8_map_91 : decode cX8_map 91 = .ok (.getfield 21, 3) := by decide +kernel
theorem dX8_map_94 : decode cX8_map 94 = .ok (.bipush 7, 2) := by decide +kernel
theorem dX8_map_96 : decode cX8_map 96 = .ok (.iaload, 1) := by decide +kernel
theorem dX8_map_97 : decode cX8_map 97 = .ok (.iadd, 1) := by decide +kernel
theorem dX8_map_98 : decode cX8_map 98 = .ok (.iload_n 1, 1) := by decide +kernel
theorem dX8_map_99 : decode cX8_map 99 = .ok (.if_icmp .ne 28, 3) := by decide +kernel
theorem dX8_map_102 : decode cX8_map 102 = .ok (.aload_n 0, 1) := by decide +kernel
theorem dX8_map_103 : decode cX8_map 103 = .ok (.getfield 21, 3) := by decide +kernel
theorem dX8_map_106 : decode cX8_map 106 = .ok (.iconst 2, 1) := by decide +kernel
theorem dX8_map_107 : decode cX8_map 107 = .ok (.iaload, 1) := by decide +kernel
theorem dX8_map_108 : decode cX8_map 108 = .ok (.aload_n 0, 1) := by decide +kernel
theorem dX8_map_109 : decode cX8_map 109 = .ok (.getfield 21, 3) := by decide +kernel
theorem dX8_map_112 : decode cX8_map 112 = .ok (.iconst 5, 1) := by decide +kernel
theorem dX8_map_113 : decode cX8_map 113 = .ok (.iaload, 1) := by decide +kernel
theorem dX8_map_114 : decode cX8_map 114 = .ok (.iadd, 1) := by decide +kernel
theorem dX8_map_115 : decode cX8_map 115 = .ok (.aload_n 0, 1) := by decide +kernel
theorem dX8_map_116 : decode cX8_map 116 = .ok (.getfield 21, 3) := by decide +kernel
theorem dX8_map_119 : decode cX8_map 119 = .ok (.bipush 8, 2) := by decide +kernel
theorem dX8_map_121 : decode cX8_map 121 = .ok (.iaload, 1) := by decide +kernel
theorem dX8_map_122 : decode cX8_map 122 = .ok (.iadd, 1) := by decide +kernel
theorem dX8_map_123 : decode cX8_map 123 = .ok (.iload_n 1, 1) := by decide +kernel
theorem dX8_map_124 : decode cX8_map 124 = .ok (.if_icmp .eq 7, 3) := by decide +kernel
theorem dX8_map_127 : decode cX8_map 127 = .ok (.sipush (-200), 3) := by decide +kernel
theorem dX8_map_130 : decode cX8_map 130 = .ok (.ireturn, 1) := by decide +kernel
theorem dX8_map_131 : decode cX8_map 131 = .ok (.aload_n 0, 1) := by decide +kernel
theorem dX8_map_132 : decode cX8_map 132 = .ok (.invokevirtual 162, 3) := by decide +kernel
theorem dX8_map_135 : decode cX8_map 135 = .ok (.iconst 0, 1) := by decide +kernel
theorem dX8_map_136 : decode cX8_map 136 = .ok (.istore_n 2, 1) := by decide +kernel
theorem dX8_map_137 : decode cX8_map 137 = .ok (.iload_n 2, 1) := by decide +kernel
theorem dX8_map_138 : decode cX8_map 138 = .ok (.bipush 9, 2) := by decide +kernel
theorem dX8_map_140 : decode cX8_map 140 = .ok (.if_icmp .ge 24, 3) := by decide +kernel
theorem dX8_map_143 : decode cX8_map 143 = .ok (.aload_n 0, 1) := by decide +kernel
theorem dX8_map_144 : decode cX8_map 144 = .ok (.getfield 9, 3) := by decide +kernel
theorem dX8_map_147 : decode cX8_map 147 = .ok (.bipush 27, 2) := by decide +kernel
theorem dX8_map_149 : decode cX8_map 149 = .ok (.iload_n 2, 1) := by decide +kernel
theorem dX8_map_150 : decode cX8_map 150 = .ok (.iadd, 1) := by decide +kernel
theorem dX8_map_151 : decode cX8_map 151 = .ok (.aload_n 0, 1) := by decide +kernel
theorem dX8_map_152 : decode cX8_map 152 = .ok (.getfield 21, 3) := by decide +kernel
theorem dX8_map_155 : decode cX8_map 155 = .ok (.iload_n 2, 1) := by decide +kernel
theorem dX8_map_156 : decode cX8_map 156 = .ok (.iaload, 1) := by decide +kernel
theorem dX8_map_157 : decode cX8_map 157 = .ok (.iastore, 1) := by decide +kernel
theorem dX8_map_158 : decode cX8_map 158 = .ok (.iinc 2 1, 3) := by decide +kernel
theorem dX8_map_161 : decode cX8_map 161 = .ok (.goto (-24), 3) := by decide +kernel
theorem dX8_map_164 : decode cX8_map 164 = .ok (.aload_n 0, 1) := by decide +kernel
theorem dX8_map_165 : decode cX8_map 165 = .ok (.getfield 9, 3) := by decide +kernel
theorem dX8_map_168 : decode cX8_map 168 = .ok (.iconst 1, 1) := by decide +kernel
theorem dX8_map_169 : decode cX8_map 169 = .ok (.iconst 2, 1) := by decide +kernel
theorem dX8_map_170 : decode cX8_map 170 = .ok (.iastore, 1) := by decide +kernel
theorem dX8_map_171 : decode cX8_map 171 = .ok (.aload_n 0, 1) := by decide +kernel
theorem dX8_map_172 : decode cX8_map 172 = .ok (.invokevirtual 169, 3) := by decide +kernel
theorem dX8_map_175 : decode cX8_map 175 = .ok (.iload_n 1, 1) := by decide +kernel
theorem dX8_map_176 : decode cX8_map 176 = .ok (.ireturn, 1) := by decide +kernel
theorem dX8_entryOf_0 : decode cX8_entryOf 0 = .ok (.iload_n 1, 1) := by decide +kernel
theorem dX8_entryOf_1 : decode cX8_entryOf 1 = .ok (.iload_n 3, 1) := by decide +kernel
theorem dX8_entryOf_2 : decode cX8_entryOf 2 = .ok (.iload_n 2, 1) := by decide +kernel
theorem dX8_entryOf_3 : decode cX8_entryOf 3 = .ok (.imul, 1) := by decide +kernel
theorem dX8_entryOf_4 : decode cX8_entryOf 4 = .ok (.iadd, 1) := by decide +kernel
theorem dX8_entryOf_5 : decode cX8_entryOf 5 = .ok (.istore 4, 2) := by decide +kernel
theorem dX8_entryOf_7 : decode cX8_entryOf 7 = .ok (.iload_n 0, 1) := by decide +kernel
theorem dX8_entryOf_8 : decode cX8_entryOf 8 = .ok (.ifCond .ne 9, 3) := by decide +kernel
theorem dX8_entryOf_11 : decode cX8_entryOf 11 = .ok (.iload 4, 2) := by decide +kernel
theorem dX8_entryOf_13 : decode cX8_entryOf 13 = .ok (.i2b, 1) := by decide +kernel
theorem dX8_entryOf_14 : decode cX8_entryOf 14 = .ok (.goto 16, 3) := by decide +kernel
theorem dX8_entryOf_17 : decode cX8_entryOf 17 = .ok (.iload_n 0, 1) := by decide +kernel
theorem dX8_entryOf_18 : decode cX8_entryOf 18 = .ok (.iconst 1, 1) := by decide +kernel
theorem dX8_entryOf_19 : decode cX8_entryOf 19 = .ok (.if_icmp .ne 9, 3) := by decide +kernel
theorem dX8_entryOf_22 : decode cX8_entryOf 22 = .ok (.iload 4, 2) := by decide +kernel
theorem dX8_entryOf_24 : decode cX8_entryOf 24 = .ok (.i2s, 1) := by decide +kernel
theorem dX8_entryOf_25 : decode cX8_entryOf 25 = .ok (.goto 5, 3) := by decide +kernel
theorem dX8_entryOf_28 : decode cX8_entryOf 28 = .ok (.iload 4, 2) := by decide +kernel
theorem dX8_entryOf_30 : decode cX8_entryOf 30 = .ok (.ireturn, 1) := by decide +kernel
theorem dX8_sheet_0 : decode cX8_sheet 0 = .ok (.aload_n 0, 1) := by decide +kernel
theorem dX8_sheet_1 : decode cX8_sheet 1 = .ok (.iconst 0, 1) := by decide +kernel
theorem dX8_sheet_2 : decode cX8_sheet 2 = .ok (.putfield 61, 3) := by decide +kernel
theorem dX8_sheet_5 : decode cX8_sheet 5 = .ok (.iload_n 2, 1) := by decide +kernel
theorem dX8_sheet_6 : decode cX8_sheet 6 = .ok (.iconst 0, 1) := by decide +kernel
theorem dX8_sheet_7 : decode cX8_sheet 7 = .ok (.iconst 3, 1) := by decide +kernel
theorem dX8_sheet_8 : decode cX8_sheet 8 = .ok (.invokestatic 72, 3) := by decide +kernel
theorem dX8_sheet_11 : decode cX8_sheet 11 = .ok (.ifCond .eq 10, 3) := by decide +kernel
theorem dX8_sheet_14 : decode cX8_sheet 14 = .ok (.iload_n 3, 1) := by decide +kernel
theorem dX8_sheet_15 : decode cX8_sheet 15 = .ok (.sipush 160, 3) := by decide +kernel
theorem dX8_sheet_18 : decode cX8_sheet 18 = .ok (.if_icmp .le 5, 3) := by decide +kernel
theorem dX8_sheet_21 : decode cX8_sheet 21 = .ok (.iconst (-1), 1) := by decide +kernel
theorem dX8_sheet_22 : decode cX8_sheet 22 = .ok (.ireturn, 1) := by decide +kernel
theorem dX8_sheet_23 : decode cX8_sheet 23 = .ok (.iload_n 2, 1) := by decide +kernel
theorem dX8_sheet_24 : decode cX8_sheet 24 = .ok (.iconst 3, 1) := by decide +kernel
theorem dX8_sheet_25 : decode cX8_sheet 25 = .ok (.if_icmp .ne 6, 3) := by decide +kernel
theorem dX8_sheet_28 : decode cX8_sheet 28 = .ok (.bipush (-3), 2) := by decide +kernel
theorem dX8_sheet_30 : decode cX8_sheet 30 = .ok (.ireturn, 1) := by decide +kernel
theorem dX8_sheet_31 : decode cX8_sheet 31 = .ok (.iload_n 3, 1) := by decide +kernel
theorem dX8_sheet_32 : decode cX8_sheet 32 = .ok (.ifCond .ge 6, 3) := by decide +kernel
theorem dX8_sheet_35 : decode cX8_sheet 35 = .ok (.bipush (-2), 2) := by decide +kernel
theorem dX8_sheet_37 : decode cX8_sheet 37 = .ok (.ireturn, 1) := by decide +kernel
theorem dX8_sheet_38 : decode cX8_sheet 38 = .ok (.iconst 0, 1) := by decide +kernel
theorem dX8_sheet_39 : decode cX8_sheet 39 = .ok (.istore 6, 2) := by decide +kernel
theorem dX8_sheet_41 : decode cX8_sheet 41 = .ok (.iload 6, 2) := by decide +kernel
theorem dX8_sheet_43 : decode cX8_sheet 43 = .ok (.iload_n 3, 1) := by decide +kernel
theorem dX8_sheet_44 : decode cX8_sheet 44 = .ok (.if_icmp .ge 128, 3) := by decide +kernel
theorem dX8_sheet_47 : decode cX8_sheet 47 = .ok (.iload_n 1, 1) := by decide +kernel
theorem dX8_sheet_48 : decode cX8_sheet 48 = .ok (.i2l, 1) := by decide +kernel
theorem dX8_sheet_49 : decode cX8_sheet 49 = .ok (.iload 6, 2) := by decide +kernel
theorem dX8_sheet_51 : decode cX8_sheet 51 = .ok (.i2l, 1) := by decide +kernel
theorem dX8_sheet_52 : decode cX8_sheet 52 = .ok (.ladd, 1) := by decide +kernel
theorem dX8_sheet_53 : decode cX8_sheet 53 = .ok (.lstore 7, 2) := by decide +kernel
theorem dX8_sheet_55 : decode cX8_sheet 55 = .ok (.lload 7, 2) := by decide +kernel
theorem dX8_sheet_57 : decode cX8_sheet 57 = .ok (.lconst 0, 1) := by decide +kernel
theorem dX8_sheet_58 : decode cX8_sheet 58 = .ok (.lcmp, 1) := by decide +kernel
theorem dX8_sheet_59 : decode cX8_sheet 59 = .ok (.ifCond .lt 14, 3) := by decide +kernel
theorem dX8_sheet_62 : decode cX8_sheet 62 = .ok (.lload 7, 2) := by decide +kernel
theorem dX8_sheet_64 : decode cX8_sheet 64 = .ok (.aload_n 0, 1) := by decide +kernel
theorem dX8_sheet_65 : decode cX8_sheet 65 = .ok (.invokevirtual 172, 3) := by decide +kernel
theorem dX8_sheet_68 : decode cX8_sheet 68 = .ok (.i2l, 1) := by decide +kernel
theorem dX8_sheet_69 : decode cX8_sheet 69 = .ok (.lcmp, 1) := by decide +kernel
theorem dX8_sheet_70 : decode cX8_sheet 70 = .ok (.ifCond .lt 7, 3) := by decide +kernel
theorem dX8_sheet_73 : decode cX8_sheet 73 = .ok (.iconst 1, 1) := by decide +kernel
theorem dX8_sheet_74 : decode cX8_sheet 74 = .ok (.goto 4, 3) := by decide +kernel
theorem dX8_sheet_77 : decode cX8_sheet 77 = .ok (.iconst 0, 1) := by decide +kernel
theorem dX8_sheet_78 : decode cX8_sheet 78 = .ok (.istore 9, 2) := by decide +kernel
theorem dX8_sheet_80 : decode cX8_sheet 80 = .ok (.iload_n 2, 1) := by decide +kernel
theorem dX8_sheet_81 : decode cX8_sheet 81 = .ok (.iload 4, 2) := by decide +kernel
theorem dX8_sheet_83 : decode cX8_sheet 83 = .ok (.iload 5, 2) := by decide +kernel
theorem dX8_sheet_85 : decode cX8_sheet 85 = .ok (.iload 6, 2) := by decide +kernel
theorem dX8_sheet_87 : decode cX8_sheet 87 = .ok (.invokestatic 175, 3) := by decide +kernel
theorem dX8_sheet_90 : decode cX8_sheet 90 = .ok (.istore 10, 2) := by decide +kernel
theorem dX8_sheet_92 : decode cX8_sheet 92 = .ok (.iload 9, 2) := by decide +kernel
theorem dX8_sheet_94 : decode cX8_sheet 94 = .ok (.ifCond .ne 41, 3) := by decide +kernel
theorem dX8_sheet_97 : decode cX8_sheet 97 = .ok (.iload 10, 2) := by decide +kernel
theorem dX8_sheet_99 : decode cX8_sheet 99 = .ok (.iconst 0, 1) := by decide +kernel
theorem dX8_sheet_100 : decode cX8_sheet 100 = .ok (.iconst 2, 1) := by decide +kernel
theorem dX8_sheet_101 : decode cX8_sheet 101 = .ok (.invokestatic 72, 3) := by decide +kernel
theorem dX8_sheet_104 : decode cX8_sheet 104 = .ok (.ifCond .eq 31, 3) := by decide +kernel
theorem dX8_sheet_107 : decode cX8_sheet 107 = .ok (.aload_n 0, 1) := by decide +kernel
theorem dX8_sheet_108 : decode cX8_sheet 108 = .ok (.aload_n 0, 1) := by decide +kernel
theorem dX8_sheet_109 : decode cX8_sheet 109 = .ok (.iload_n 1, 1) := by decide +kernel
theorem dX8_sheet_110 : decode cX8_sheet 110 = .ok (.iload 6, 2) := by decide +kernel
theorem dX8_sheet_112 : decode cX8_sheet 112 = .ok (.iadd, 1) := by decide +kernel
theorem dX8_sheet_113 : decode cX8_sheet 113 = .ok (.invokevirtual 84, 3) := by decide +kernel
theorem dX8_sheet_116 : decode cX8_sheet 116 = .ok (.aload_n 0, 1) := by decide +kernel
theorem dX8_sheet_117 : decode cX8_sheet 117 = .ok (.iload_n 1, 1) := by decide +kernel
theorem dX8_sheet_118 : decode cX8_sheet 118 = .ok (.iload 6, 2) := by decide +kernel
theorem dX8_sheet_120 : decode cX8_sheet 120 = .ok (.iadd, 1) := by decide +kernel
theorem dX8_sheet_121 : decode cX8_sheet 121 = .ok (.invokevirtual 179, 3) := by decide +kernel
theorem dX8_sheet_124 : decode cX8_sheet 124 = .ok (.iload 10, 2) := by decide +kernel
theorem dX8_sheet_126 : decode cX8_sheet 126 = .ok (.invokevirtual 111, 3) := by decide +kernel
theorem dX8_sheet_129 : decode cX8_sheet 129 = .ok (.ifCond .eq 6, 3) := by decide +kernel
theorem dX8_sheet_132 : decode cX8_sheet 132 = .ok (.goto 34, 3) := by decide +kernel
theorem dX8_sheet_135 : decode cX8_sheet 135 = .ok (.aload_n 0, 1) := by decide +kernel
theorem dX8_sheet_136 : decode cX8_sheet 136 = .ok (.iconst 0, 1) := by decide +kernel
theorem dX8_sheet_137 : decode cX8_sheet 137 = .ok (.putfield 65, 3) := by decide +kernel
theorem dX8_sheet_140 : decode cX8_sheet 140 = .ok (.aload_n 0, 1) := by decide +kernel
theorem dX8_sheet_141 : decode cX8_sheet 141 = .ok (.iload 6, 2) := by decide +kernel
theorem dX8_sheet_143 : decode cX8_sheet 143 = .ok (.i2l, 1) := by decide +kernel
theorem dX8_sheet_144 : decode cX8_sheet 144 = .ok (.invokevirtual 182, 3) := by decide +kernel
theorem dX8_sheet_147 : decode cX8_sheet 147 = .ok (.aload_n 0, 1) := by decide +kernel
theorem dX8_sheet_148 : decode cX8_sheet 148 = .ok (.iload 9, 2) := by decide +kernel
theorem dX8_sheet_150 : decode cX8_sheet 150 = .ok (.ifCond .eq 7, 3) := by decide +kernel
theorem dX8_sheet_153 : decode cX8_sheet 153 = .ok (.lconst 1, 1) := by decide +kernel
theorem dX8_sheet_154 : decode cX8_sheet 154 = .ok (.goto 6, 3) := by decide +kernel
theorem dX8_sheet_157 : decode cX8_sheet 157 = .ok (.ldc2_w 186, 3) := by decide +kernel
theorem dX8_sheet_160 : decode cX8_sheet 160 = .ok (.invokevirtual 182, 3) := by decide +kernel
theorem dX8_sheet_163 : decode cX8_sheet 163 = .ok (.bipush (-4), 2) := by decide +kernel
theorem dX8_sheet_165 : decode cX8_sheet 165 = .ok (.ireturn, 1) := by decide +kernel
theorem dX8_sheet_166 : decode cX8_sheet 166 = .ok (.iinc 6 1, 3) := by decide +kernel
theorem dX8_sheet_169 : decode cX8_sheet 169 = .ok (.goto (-128), 3) := by decide +kernel
theorem dX8_sheet_172 : decode cX8_sheet 172 = .ok (.iconst 0, 1) := by decide +kernel
theorem dX8_sheet_173 : decode cX8_sheet 173 = .ok (.istore 6, 2) := by decide +kernel
theorem dX8_sheet_175 : decode cX8_sheet 175 = .ok (.iconst 0, 1) := by decide +kernel
theorem dX8_sheet_176 : decode cX8_sheet 176 = .ok (.istore 7, 2) := by decide +kernel
theorem dX8_sheet_178 : decode cX8_sheet 178 = .ok (.iload 7, 2) := by decide +kernel
theorem dX8_sheet_180 : decode cX8_sheet 180 = .ok (.iload_n 3, 1) := by decide +kernel
theorem dX8_sheet_181 : decode cX8_sheet 181 = .ok (.if_icmp .ge 58, 3) := by decide +kernel
theorem dX8_sheet_184 : decode cX8_sheet 184 = .ok (.iload_n 2, 1) := by decide +kernel
theorem dX8_sheet_185 : decode cX8_sheet 185 = .ok (.iload 4, 2) := by decide +kernel
theorem dX8_sheet_187 : decode cX8_sheet 187 = .ok (.iload 5, 2) := by decide +kernel
theorem dX8_sheet_189 : decode cX8_sheet 189 = .ok (.iload 7, 2) := by decide +kernel
theorem dX8_sheet_191 : decode cX8_sheet 191 = .ok (.invokestatic 175, 3) := by decide +kernel
theorem dX8_sheet_194 : decode cX8_sheet 194 = .ok (.istore 8, 2) := by decide +kernel
theorem dX8_sheet_196 : decode cX8_sheet 196 = .ok (.iload 6, 2) := by decide +kernel
theorem dX8_sheet_198 : decode cX8_sheet 198 = .ok (.aload_n 0, 1) := by decide +kernel
theorem dX8_sheet_199 : decode cX8_sheet 199 = .ok (.iload_n 1, 1) := by decide +kernel
theorem dX8_sheet_200 : decode cX8_sheet 200 = .ok (.iload 7, 2) := by decide +kernel
theorem dX8_sheet_202 : decode cX8_sheet 202 = .ok (.iadd, 1) := by decide +kernel
theorem dX8_sheet_203 : decode cX8_sheet 203 = .ok (.invokevirtual 188, 3) := by decide +kernel
theorem dX8_sheet_206 : decode cX8_sheet 206 = .ok (.iload 8, 2) := by decide +kernel
theorem dX8_sheet_208 : decode cX8_sheet 208 = .ok (.if_icmp .eq 7, 3) := by decide +kernel
theorem dX8_sheet_211 : decode cX8_sheet 211 = .ok (.iconst 1, 1) := by decide +kernel
theorem dX8_sheet_212 : decode cX8_sheet 212 = .ok (.goto 4, 3) := by decide +kernel
theorem dX8_sheet_215 : decode cX8_sheet 215 = .ok (.iconst 0, 1) := by decide +kernel
theorem dX8_sheet_216 : decode cX8_sheet 216 = .ok (.iadd, 1) := by decide +kernel
theorem dX8_sheet_217 : decode cX8_sheet 217 = .ok (.istore 6, 2) := by decide +kernel
theorem dX8_sheet_219 : decode cX8_sheet 219 = .ok (.aload_n 0, 1) := by decide +kernel
theorem dX8_sheet_220 : decode cX8_sheet 220 = .ok (.getfield 9, 3) := by decide +kernel
theorem dX8_sheet_223 : decode cX8_sheet 223 = .ok (.bipush 36, 2) := by decide +kernel
theorem dX8_sheet_225 : decode cX8_sheet 225 = .ok (.iload_n 1, 1) := by decide +kernel
theorem dX8_sheet_226 : decode cX8_sheet 226 = .ok (.iadd, 1) := by decide +kernel
theorem dX8_sheet_227 : decode cX8_sheet 227 = .ok (.iload 7, 2) := by decide +kernel
theorem dX8_sheet_229 : decode cX8_sheet 229 = .ok (.iadd, 1) := by decide +kernel
theorem dX8_sheet_230 : decode cX8_sheet 230 = .ok (.iload 8, 2) := by decide +kernel
theorem dX8_sheet_232 : decode cX8_sheet 232 = .ok (.iastore, 1) := by decide +kernel
theorem dX8_sheet_233 : decode cX8_sheet 233 = .ok (.iinc 7 1, 3) := by decide +kernel
theorem dX8_sheet_236 : decode cX8_sheet 236 = .ok (.goto (-58), 3) := by decide +kernel
theorem dX8_sheet_239 : decode cX8_sheet 239 = .ok (.aload_n 0, 1) := by decide +kernel
theorem dX8_sheet_240 : decode cX8_sheet 240 = .ok (.getfield 9, 3) := by decide +kernel
theorem dX8_sheet_243 : decode cX8_sheet 243 = .ok (.iconst 1, 1) := by decide +kernel
theorem dX8_sheet_244 : decode cX8_sheet 244 = .ok (.iconst 0, 1) := by decide +kernel
theorem dX8_sheet_245 : decode cX8_sheet 245 = .ok (.iastore, 1) := by decide +kernel
theorem dX8_sheet_246 : decode cX8_sheet 246 = .ok (.iload 6, 2) := by decide +kernel
theorem dX8_sheet_248 : decode cX8_sheet 248 = .ok (.ireturn, 1) := by decide +kernel
theorem dX8_cellI_0 : decode cX8_cellI 0 = .ok (.iload_n 1, 1) := by decide +kernel
theorem dX8_cellI_1 : decode cX8_cellI 1 = .ok (.iconst 2, 1) := by decide +kernel
theorem dX8_cellI_2 : decode cX8_cellI 2 = .ok (.idiv, 1) := by decide +kernel
theorem dX8_cellI_3 : decode cX8_cellI 3 = .ok (.aload_n 0, 1) := by decide +kernel
theorem dX8_cellI_4 : decode cX8_cellI 4 = .ok (.invokevirtual 68, 3) := by decide +kernel
theorem dX8_cellI_7 : decode cX8_cellI 7 = .ok (.idiv, 1) := by decide +kernel
theorem dX8_cellI_8 : decode cX8_cellI 8 = .ok (.ireturn, 1) := by decide +kernel
theorem dX8_cellJ_0 : decode cX8_cellJ 0 = .ok (.iload_n 1, 1) := by decide +kernel
theorem dX8_cellJ_1 : decode cX8_cellJ 1 = .ok (.iconst 2, 1) := by decide +kernel
theorem dX8_cellJ_2 : decode cX8_cellJ 2 = .ok (.idiv, 1) := by decide +kernel
theorem dX8_cellJ_3 : decode cX8_cellJ 3 = .ok (.aload_n 0, 1) := by decide +kernel
theorem dX8_cellJ_4 : decode cX8_cellJ 4 = .ok (.invokevirtual 68, 3) := by decide +kernel
theorem dX8_cellJ_7 : decode cX8_cellJ 7 = .ok (.irem, 1) := by decide +kernel
theorem dX8_cellJ_8 : decode cX8_cellJ 8 = .ok (.ireturn, 1) := by decide +kernel
theorem dX8_isCell_0 : decode cX8_isCell 0 = .ok (.iload_n 1, 1) := by decide +kernel
theorem dX8_isCell_1 : decode cX8_isCell 1 = .ok (.ifCond .lt 31, 3) := by decide +kernel
theorem dX8_isCell_4 : decode cX8_isCell 4 = .ok (.aload_n 0, 1) := by decide +kernel
theorem dX8_isCell_5 : decode cX8_isCell 5 = .ok (.iload_n 1, 1) := by decide +kernel
theorem dX8_isCell_6 : decode cX8_isCell 6 = .ok (.invokevirtual 191, 3) := by decide +kernel
theorem dX8_isCell_9 : decode cX8_isCell 9 = .ok (.aload_n 0, 1) := by decide +kernel
theorem dX8_isCell_10 : decode cX8_isCell 10 = .ok (.iload_n 1, 1) := by decide +kernel
theorem dX8_isCell_11 : decode cX8_isCell 11 = .ok (.invokevirtual 194, 3) := by decide +kernel
theorem dX8_isCell_14 : decode cX8_isCell 14 = .ok (.iadd, 1) := by decide +kernel
theorem dX8_isCell_15 : decode cX8_isCell 15 = .ok (.aload_n 0, 1) := by decide +kernel
theorem dX8_isCell_16 : decode cX8_isCell 16 = .ok (.invokevirtual 68, 3) := by decide +kernel
theorem dX8_isCell_19 : decode cX8_isCell 19 = .ok (.iconst 1, 1) := by decide +kernel
theorem dX8_isCell_20 : decode cX8_isCell 20 = .ok (.isub, 1) := by decide +kernel
theorem dX8_isCell_21 : decode cX8_isCell 21 = .ok (.iload_n 1, 1) := by decide +kernel
theorem dX8_isCell_22 : decode cX8_isCell 22 = .ok (.iconst 2, 1) := by decide +kernel
theorem dX8_isCell_23 : decode cX8_isCell 23 = .ok (.irem, 1) := by decide +kernel
theorem dX8_isCell_24 : decode cX8_isCell 24 = .ok (.isub, 1) := by decide +kernel
theorem dX8_isCell_25 : decode cX8_isCell 25 = .ok (.if_icmp .gt 7, 3) := by decide +kernel
theorem dX8_isCell_28 : decode cX8_isCell 28 = .ok (.iconst 1, 1) := by decide +kernel
theorem dX8_isCell_29 : decode cX8_isCell 29 = .ok (.goto 4, 3) := by decide +kernel
theorem dX8_isCell_32 : decode cX8_isCell 32 = .ok (.iconst 0, 1) := by decide +kernel
theorem dX8_isCell_33 : decode cX8_isCell 33 = .ok (.ireturn, 1) := by decide +kernel
theorem dX8_corner_0 : decode cX8_corner 0 = .ok (.aload_n 0, 1) := by decide +kernel
theorem dX8_corner_1 : decode cX8_corner 1 = .ok (.iload_n 1, 1) := by decide +kernel
theorem dX8_corner_2 : decode cX8_corner 2 = .ok (.invokevirtual 191, 3) := by decide +kernel
theorem dX8_corner_5 : decode cX8_corner 5 = .ok (.istore_n 3, 1) := by decide +kernel
theorem dX8_corner_6 : decode cX8_corner 6 = .ok (.aload_n 0, 1) := by decide +kernel
theorem dX8_corner_7 : decode cX8_corner 7 = .ok (.iload_n 1, 1) := by decide +kernel
theorem dX8_corner_8 : decode cX8_corner 8 = .ok (.invokevirtual 194, 3) := by decide +kernel
theorem dX8_corner_11 : decode cX8_corner 11 = .ok (.istore 4, 2) := by decide +kernel
theorem dX8_corner_13 : decode cX8_corner 13 = .ok (.iload_n 1, 1) := by decide +kernel
theorem dX8_corner_14 : decode cX8_corner 14 = .ok (.iconst 2, 1) := by decide +kernel
theorem dX8_corner_15 : decode cX8_corner 15 = .ok (.irem, 1) := by decide +kernel
theorem dX8_corner_16 : decode cX8_corner 16 = .ok (.ifCond .ne 33, 3) := by decide +kernel
theorem dX8_corner_19 : decode cX8_corner 19 = .ok (.aload_n 0, 1) := by decide +kernel
theorem dX8_corner_20 : decode cX8_corner 20 = .ok (.iload_n 3, 1) := by decide +kernel
theorem dX8_corner_21 : decode cX8_corner 21 = .ok (.iload_n 2, 1) := by decide +kernel
theorem dX8_corner_22 : decode cX8_corner 22 = .ok (.iconst 1, 1) := by decide +kernel
theorem dX8_corner_23 : decode cX8_corner 23 = .ok (.if_icmp .ne 7, 3) := by decide +kernel
theorem dX8_corner_26 : decode cX8_corner 26 = .ok (.iconst 1, 1) := by decide +kernel
theorem dX8_corner_27 : decode cX8_corner 27 = .ok (.goto 4, 3) := by decide +kernel
theorem dX8_corner_30 : decode cX8_corner 30 = .ok (.iconst 0, 1) := by decide +kernel
theorem dX8_corner_31 : decode cX8_corner 31 = .ok (.iadd, 1) := by decide +kernel
theorem dX8_corner_32 : decode cX8_corner 32 = .ok (.iload 4, 2) := by decide +kernel
theorem dX8_corner_34 : decode cX8_corner 34 = .ok (.iload_n 2, 1) := by decide +kernel
theorem dX8_corner_35 : decode cX8_corner 35 = .ok (.iconst 2, 1) := by decide +kernel
theorem dX8_corner_36 : decode cX8_corner 36 = .ok (.if_icmp .ne 7, 3) := by decide +kernel
theorem dX8_corner_39 : decode cX8_corner 39 = .ok (.iconst 1, 1) := by decide +kernel
theorem dX8_corner_40 : decode cX8_corner 40 = .ok (.goto 4, 3) := by decide +kernel
theorem dX8_corner_43 : decode cX8_corner 43 = .ok (.iconst 0, 1) := by decide +kernel
theorem dX8_corner_44 : decode cX8_corner 44 = .ok (.iadd, 1) := by decide +kernel
theorem dX8_corner_45 : decode cX8_corner 45 = .ok (.invokevirtual 80, 3) := by decide +kernel
theorem dX8_corner_48 : decode cX8_corner 48 = .ok (.ireturn, 1) := by decide +kernel
theorem dX8_corner_49 : decode cX8_corner 49 = .ok (.aload_n 0, 1) := by decide +kernel
theorem dX8_corner_50 : decode cX8_corner 50 = .ok (.iload_n 3, 1) := by decide +kernel
theorem dX8_corner_51 : decode cX8_corner 51 = .ok (.iload_n 2, 1) := by decide +kernel
theorem dX8_corner_52 : decode cX8_corner 52 = .ok (.iconst 1, 1) := by decide +kernel
theorem dX8_corner_53 : decode cX8_corner 53 = .ok (.if_icmp .ne 7, 3) := by decide +kernel
theorem dX8_corner_56 : decode cX8_corner 56 = .ok (.iconst 0, 1) := by decide +kernel
theorem dX8_corner_57 : decode cX8_corner 57 = .ok (.goto 4, 3) := by decide +kernel
theorem dX8_corner_60 : decode cX8_corner 60 = .ok (.iconst 1, 1) := by decide +kernel
theorem dX8_corner_61 : decode cX8_corner 61 = .ok (.iadd, 1) := by decide +kernel
theorem dX8_corner_62 : decode cX8_corner 62 = .ok (.iload 4, 2) := by decide +kernel
theorem dX8_corner_64 : decode cX8_corner 64 = .ok (.iload_n 2, 1) := by decide +kernel
theorem dX8_corner_65 : decode cX8_corner 65 = .ok (.iconst 2, 1) := by decide +kernel
theorem dX8_corner_66 : decode cX8_corner 66 = .ok (.if_icmp .ne 7, 3) := by decide +kernel
theorem dX8_corner_69 : decode cX8_corner 69 = .ok (.iconst 0, 1) := by decide +kernel
theorem dX8_corner_70 : decode cX8_corner 70 = .ok (.goto 4, 3) := by decide +kernel
theorem dX8_corner_73 : decode cX8_corner 73 = .ok (.iconst 1, 1) := by decide +kernel
theorem dX8_corner_74 : decode cX8_corner 74 = .ok (.iadd, 1) := by decide +kernel
theorem dX8_corner_75 : decode cX8_corner 75 = .ok (.invokevirtual 80, 3) := by decide +kernel
theorem dX8_corner_78 : decode cX8_corner 78 = .ok (.ireturn, 1) := by decide +kernel
theorem dX8_cornerLabel_0 : decode cX8_cornerLabel 0 = .ok (.aload_n 0, 1) := by decide +kernel
theorem dX8_cornerLabel_1 : decode cX8_cornerLabel 1 = .ok (.aload_n 0, 1) := by decide +kernel
theorem dX8_cornerLabel_2 : decode cX8_cornerLabel 2 = .ok (.iload_n 1, 1) := by decide +kernel
theorem dX8_cornerLabel_3 : decode cX8_cornerLabel 3 = .ok (.iload_n 2, 1) := by decide +kernel
theorem dX8_cornerLabel_4 : decode cX8_cornerLabel 4 = .ok (.invokevirtual 197, 3) := by decide +kernel
theorem dX8_cornerLabel_7 : decode cX8_cornerLabel 7 = .ok (.invokevirtual 188, 3) := by decide +kernel
theorem dX8_cornerLabel_10 : decode cX8_cornerLabel 10 = .ok (.ireturn, 1) := by decide +kernel
theorem dX8_labelSet_0 : decode cX8_labelSet 0 = .ok (.iconst 1, 1) := by decide +kernel
theorem dX8_labelSet_1 : decode cX8_labelSet 1 = .ok (.aload_n 0, 1) := by decide +kernel
theorem dX8_labelSet_2 : decode cX8_labelSet 2 = .ok (.iload_n 1, 1) := by decide +kernel
theorem dX8_labelSet_3 : decode cX8_labelSet 3 = .ok (.iconst 0, 1) := by decide +kernel
theorem dX8_labelSet_4 : decode cX8_labelSet 4 = .ok (.invokevirtual 200, 3) := by decide +kernel
theorem dX8_labelSet_7 : decode cX8_labelSet 7 = .ok (.ishl, 1) := by decide +kernel
theorem dX8_labelSet_8 : decode cX8_labelSet 8 = .ok (.iconst 1, 1) := by decide +kernel
theorem dX8_labelSet_9 : decode cX8_labelSet 9 = .ok (.aload_n 0, 1) := by decide +kernel
theorem dX8_labelSet_10 : decode cX8_labelSet 10 = .ok (.iload_n 1, 1) := by decide +kernel
theorem dX8_labelSet_11 : decode cX8_labelSet 11 = .ok (.iconst 1, 1) := by decide +kernel
theorem dX8_labelSet_12 : decode cX8_labelSet 12 = .ok (.invokevirtual 200, 3) := by decide +kernel
theorem dX8_labelSet_15 : decode cX8_labelSet 15 = .ok (.ishl, 1) := by decide +kernel
theorem dX8_labelSet_16 : decode cX8_labelSet 16 = .ok (.ior, 1) := by decide +kernel
theorem dX8_labelSet_17 : decode cX8_labelSet 17 = .ok (.iconst 1, 1) := by decide +kernel
theorem dX8_labelSet_18 : decode cX8_labelSet 18 = .ok (.aload_n 0, 1) := by decide +kernel
theorem dX8_labelSet_19 : decode cX8_labelSet 19 = .ok (.iload_n 1, 1) := by decide +kernel
theorem dX8_labelSet_20 : decode cX8_labelSet 20 = .ok (.iconst 2, 1) := by decide +kernel
theorem dX8_labelSet_21 : decode cX8_labelSet 21 = .ok (.invokevirtual 200, 3) := by decide +kernel
theorem dX8_labelSet_24 : decode cX8_labelSet 24 = .ok (.ishl, 1) := by decide +kernel
theorem dX8_labelSet_25 : decode cX8_labelSet 25 = .ok (.ior, 1) := by decide +kernel
theorem dX8_labelSet_26 : decode cX8_labelSet 26 = .ok (.ireturn, 1) := by decide +kernel
theorem dX8_isFull_0 : decode cX8_isFull 0 = .ok (.aload_n 0, 1) := by decide +kernel
theorem dX8_isFull_1 : decode cX8_isFull 1 = .ok (.iload_n 1, 1) := by decide +kernel
theorem dX8_isFull_2 : decode cX8_isFull 2 = .ok (.invokevirtual 203, 3) := by decide +kernel
theorem dX8_isFull_5 : decode cX8_isFull 5 = .ok (.bipush 7, 2) := by decide +kernel
theorem dX8_isFull_7 : decode cX8_isFull 7 = .ok (.if_icmp .ne 7, 3) := by decide +kernel
theorem dX8_isFull_10 : decode cX8_isFull 10 = .ok (.iconst 1, 1) := by decide +kernel
theorem dX8_isFull_11 : decode cX8_isFull 11 = .ok (.goto 4, 3) := by decide +kernel
theorem dX8_isFull_14 : decode cX8_isFull 14 = .ok (.iconst 0, 1) := by decide +kernel
theorem dX8_isFull_15 : decode cX8_isFull 15 = .ok (.ireturn, 1) := by decide +kernel
theorem dX8_turn_0 : decode cX8_turn 0 = .ok (.aload_n 0, 1) := by decide +kernel
theorem dX8_turn_1 : decode cX8_turn 1 = .ok (.iload_n 1, 1) := by decide +kernel
theorem dX8_turn_2 : decode cX8_turn 2 = .ok (.invokevirtual 206, 3) := by decide +kernel
theorem dX8_turn_5 : decode cX8_turn 5 = .ok (.ifCond .ne 5, 3) := by decide +kernel
theorem dX8_turn_8 : decode cX8_turn 8 = .ok (.iconst 0, 1) := by decide +kernel
theorem dX8_turn_9 : decode cX8_turn 9 = .ok (.ireturn, 1) := by decide +kernel
theorem dX8_turn_10 : decode cX8_turn 10 = .ok (.aload_n 0, 1) := by decide +kernel
theorem dX8_turn_11 : decode cX8_turn 11 = .ok (.iload_n 1, 1) := by decide +kernel
theorem dX8_turn_12 : decode cX8_turn 12 = .ok (.iconst 0, 1) := by decide +kernel
theorem dX8_turn_13 : decode cX8_turn 13 = .ok (.invokevirtual 200, 3) := by decide +kernel
theorem dX8_turn_16 : decode cX8_turn 16 = .ok (.iconst 1, 1) := by decide +kernel
theorem dX8_turn_17 : decode cX8_turn 17 = .ok (.iadd, 1) := by decide +kernel
theorem dX8_turn_18 : decode cX8_turn 18 = .ok (.iconst 3, 1) := by decide +kernel
theorem dX8_turn_19 : decode cX8_turn 19 = .ok (.irem, 1) := by decide +kernel
theorem dX8_turn_20 : decode cX8_turn 20 = .ok (.aload_n 0, 1) := by decide +kernel
theorem dX8_turn_21 : decode cX8_turn 21 = .ok (.iload_n 1, 1) := by decide +kernel
theorem dX8_turn_22 : decode cX8_turn 22 = .ok (.iconst 1, 1) := by decide +kernel
theorem dX8_turn_23 : decode cX8_turn 23 = .ok (.invokevirtual 200, 3) := by decide +kernel
theorem dX8_turn_26 : decode cX8_turn 26 = .ok (.if_icmp .ne 7, 3) := by decide +kernel
theorem dX8_turn_29 : decode cX8_turn 29 = .ok (.iconst 1, 1) := by decide +kernel
theorem dX8_turn_30 : decode cX8_turn 30 = .ok (.goto 4, 3) := by decide +kernel
theorem dX8_turn_33 : decode cX8_turn 33 = .ok (.iconst (-1), 1) := by decide +kernel
theorem dX8_turn_34 : decode cX8_turn 34 = .ok (.ireturn, 1) := by decide +kernel
theorem dX8_numbers_0 : decode cX8_numbers 0 = .ok (.iconst 2, 1) := by decide +kernel
theorem dX8_numbers_1 : decode cX8_numbers 1 = .ok (.aload_n 0, 1) := by decide +kernel
theorem dX8_numbers_2 : decode cX8_numbers 2 = .ok (.invokevirtual 68, 3) := by decide +kernel
theorem dX8_numbers_5 : decode cX8_numbers 5 = .ok (.imul, 1) := by decide +kernel
theorem dX8_numbers_6 : decode cX8_numbers 6 = .ok (.aload_n 0, 1) := by decide +kernel
theorem dX8_numbers_7 : decode cX8_numbers 7 = .ok (.invokevirtual 68, 3) := by decide +kernel
theorem dX8_numbers_10 : decode cX8_numbers 10 = .ok (.imul, 1) := by decide +kernel
theorem dX8_numbers_11 : decode cX8_numbers 11 = .ok (.ireturn, 1) := by decide +kernel
theorem dX8_fullMany_0 : decode cX8_fullMany 0 = .ok (.iconst 0, 1) := by decide +kernel
theorem dX8_fullMany_1 : decode cX8_fullMany 1 = .ok (.istore_n 1, 1) := by decide +kernel
theorem dX8_fullMany_2 : decode cX8_fullMany 2 = .ok (.iconst 0, 1) := by decide +kernel
theorem dX8_fullMany_3 : decode cX8_fullMany 3 = .ok (.istore_n 2, 1) := by decide +kernel
theorem dX8_fullMany_4 : decode cX8_fullMany 4 = .ok (.iload_n 2, 1) := by decide +kernel
theorem dX8_fullMany_5 : decode cX8_fullMany 5 = .ok (.aload_n 0, 1) := by decide +kernel
theorem dX8_fullMany_6 : decode cX8_fullMany 6 = .ok (.invokevirtual 210, 3) := by decide +kernel
theorem dX8_fullMany_9 : decode cX8_fullMany 9 = .ok (.if_icmp .ge 33, 3) := by decide +kernel
theorem dX8_fullMany_12 : decode cX8_fullMany 12 = .ok (.iload_n 1, 1) := by decide +kernel
theorem dX8_fullMany_13 : decode cX8_fullMany 13 = .ok (.aload_n 0, 1) := by decide +kernel
theorem dX8_fullMany_14 : decode cX8_fullMany 14 = .ok (.iload_n 2, 1) := by decide +kernel
theorem dX8_fullMany_15 : decode cX8_fullMany 15 = .ok (.invokevirtual 213, 3) := by decide +kernel
theorem dX8_fullMany_18 : decode cX8_fullMany 18 = .ok (.ifCond .eq 15, 3) := by decide +kernel
theorem dX8_fullMany_21 : decode cX8_fullMany 21 = .ok (.aload_n 0, 1) := by decide +kernel
theorem dX8_fullMany_22 : decode cX8_fullMany 22 = .ok (.iload_n 2, 1) := by decide +kernel
theorem dX8_fullMany_23 : decode cX8_fullMany 23 = .ok (.invokevirtual 206, 3) := by decide +kernel
theorem dX8_fullMany_26 : decode cX8_fullMany 26 = .ok (.ifCond .eq 7, 3) := by decide +kernel
theorem dX8_fullMany_29 : decode cX8_fullMany 29 = .ok (.iconst 1, 1) := by decide +kernel
theorem dX8_fullMany_30 : decode cX8_fullMany 30 = .ok (.goto 4, 3) := by decide +kernel
theorem dX8_fullMany_33 : decode cX8_fullMany 33 = .ok (.iconst 0, 1) := by decide +kernel
theorem dX8_fullMany_34 : decode cX8_fullMany 34 = .ok (.iadd, 1) := by decide +kernel
theorem dX8_fullMany_35 : decode cX8_fullMany 35 = .ok (.istore_n 1, 1) := by decide +kernel
theorem dX8_fullMany_36 : decode cX8_fullMany 36 = .ok (.iinc 2 1, 3) := by decide +kernel
theorem dX8_fullMany_39 : decode cX8_fullMany 39 = .ok (.goto (-35), 3) := by decide +kernel
theorem dX8_fullMany_42 : decode cX8_fullMany 42 = .ok (.iload_n 1, 1) := by decide +kernel
theorem dX8_fullMany_43 : decode cX8_fullMany 43 = .ok (.ireturn, 1) := by decide +kernel
theorem dX8_turns_0 : decode cX8_turns 0 = .ok (.iconst 0, 1) := by decide +kernel
theorem dX8_turns_1 : decode cX8_turns 1 = .ok (.istore_n 1, 1) := by decide +kernel
theorem dX8_turns_2 : decode cX8_turns 2 = .ok (.iconst 0, 1) := by decide +kernel
theorem dX8_turns_3 : decode cX8_turns 3 = .ok (.istore_n 2, 1) := by decide +kernel
theorem dX8_turns_4 : decode cX8_turns 4 = .ok (.iload_n 2, 1) := by decide +kernel
theorem dX8_turns_5 : decode cX8_turns 5 = .ok (.aload_n 0, 1) := by decide +kernel
theorem dX8_turns_6 : decode cX8_turns 6 = .ok (.invokevirtual 210, 3) := by decide +kernel
theorem dX8_turns_9 : decode cX8_turns 9 = .ok (.if_icmp .ge 29, 3) := by decide +kernel
theorem dX8_turns_12 : decode cX8_turns 12 = .ok (.iload_n 1, 1) := by decide +kernel
theorem dX8_turns_13 : decode cX8_turns 13 = .ok (.aload_n 0, 1) := by decide +kernel
theorem dX8_turns_14 : decode cX8_turns 14 = .ok (.iload_n 2, 1) := by decide +kernel
theorem dX8_turns_15 : decode cX8_turns 15 = .ok (.invokevirtual 213, 3) := by decide +kernel
theorem dX8_turns_18 : decode cX8_turns 18 = .ok (.ifCond .eq 11, 3) := by decide +kernel
theorem dX8_turns_21 : decode cX8_turns 21 = .ok (.aload_n 0, 1) := by decide +kernel
theorem dX8_turns_22 : decode cX8_turns 22 = .ok (.iload_n 2, 1) := by decide +kernel
theorem dX8_turns_23 : decode cX8_turns 23 = .ok (.invokevirtual 216, 3) := by decide +kernel
theorem dX8_turns_26 : decode cX8_turns 26 = .ok (.goto 4, 3) := by decide +kernel
theorem dX8_turns_29 : decode cX8_turns 29 = .ok (.iconst 0, 1) := by decide +kernel
theorem dX8_turns_30 : decode cX8_turns 30 = .ok (.iadd, 1) := by decide +kernel
theorem dX8_turns_31 : decode cX8_turns 31 = .ok (.istore_n 1, 1) := by decide +kernel
theorem dX8_turns_32 : decode cX8_turns 32 = .ok (.iinc 2 1, 3) := by decide +kernel
theorem dX8_turns_35 : decode cX8_turns 35 = .ok (.goto (-31), 3) := by decide +kernel
theorem dX8_turns_38 : decode cX8_turns 38 = .ok (.iload_n 1, 1) := by decide +kernel
theorem dX8_turns_39 : decode cX8_turns 39 = .ok (.ireturn, 1) := by decide +kernel
theorem dX8_nthFull_0 : decode cX8_nthFull 0 = .ok (.iload_n 1, 1) := by decide +kernel
theorem dX8_nthFull_1 : decode cX8_nthFull 1 = .ok (.istore_n 2, 1) := by decide +kernel
theorem dX8_nthFull_2 : decode cX8_nthFull 2 = .ok (.iconst 0, 1) := by decide +kernel
theorem dX8_nthFull_3 : decode cX8_nthFull 3 = .ok (.istore_n 3, 1) := by decide +kernel
theorem dX8_nthFull_4 : decode cX8_nthFull 4 = .ok (.iload_n 3, 1) := by decide +kernel
theorem dX8_nthFull_5 : decode cX8_nthFull 5 = .ok (.aload_n 0, 1) := by decide +kernel
theorem dX8_nthFull_6 : decode cX8_nthFull 6 = .ok (.invokevirtual 210, 3) := by decide +kernel
theorem dX8_nthFull_9 : decode cX8_nthFull 9 = .ok (.if_icmp .ge 41, 3) := by decide +kernel
theorem dX8_nthFull_12 : decode cX8_nthFull 12 = .ok (.iload_n 1, 1) := by decide +kernel
theorem dX8_nthFull_13 : decode cX8_nthFull 13 = .ok (.ifCond .lt 37, 3) := by decide +kernel
theorem dX8_nthFull_16 : decode cX8_nthFull 16 = .ok (.aload_n 0, 1) := by decide +kernel
theorem dX8_nthFull_17 : decode cX8_nthFull 17 = .ok (.iload_n 3, 1) := by decide +kernel
theorem dX8_nthFull_18 : decode cX8_nthFull 18 = .ok (.invokevirtual 213, 3) := by decide +kernel
theorem dX8_nthFull_21 : decode cX8_nthFull 21 = .ok (.ifCond .eq 23, 3) := by decide +kernel
theorem dX8_nthFull_24 : decode cX8_nthFull 24 = .ok (.aload_n 0, 1) := by decide +kernel
theorem dX8_nthFull_25 : decode cX8_nthFull 25 = .ok (.iload_n 3, 1) := by decide +kernel
theorem dX8_nthFull_26 : decode cX8_nthFull 26 = .ok (.invokevirtual 206, 3) := by decide +kernel
theorem dX8_nthFull_29 : decode cX8_nthFull 29 = .ok (.ifCond .ne 6, 3) := by decide +kernel
theorem dX8_nthFull_32 : decode cX8_nthFull 32 = .ok (.goto 12, 3) := by decide +kernel
theorem dX8_nthFull_35 : decode cX8_nthFull 35 = .ok (.iload_n 2, 1) := by decide +kernel
theorem dX8_nthFull_36 : decode cX8_nthFull 36 = .ok (.ifCond .ne 5, 3) := by decide +kernel
theorem dX8_nthFull_39 : decode cX8_nthFull 39 = .ok (.iload_n 3, 1) := by decide +kernel
theorem dX8_nthFull_40 : decode cX8_nthFull 40 = .ok (.ireturn, 1) := by decide +kernel
theorem dX8_nthFull_41 : decode cX8_nthFull 41 = .ok (.iinc 2 (-1), 3) := by decide +kernel
theorem dX8_nthFull_44 : decode cX8_nthFull 44 = .ok (.iinc 3 1, 3) := by decide +kernel
theorem dX8_nthFull_47 : decode cX8_nthFull 47 = .ok (.goto (-43), 3) := by decide +kernel
theorem dX8_nthFull_50 : decode cX8_nthFull 50 = .ok (.iconst (-1), 1) := by decide +kernel
theorem dX8_nthFull_51 : decode cX8_nthFull 51 = .ok (.ireturn, 1) := by decide +kernel
theorem dX8_label_0 : decode cX8_label 0 = .ok (.aload_n 0, 1) := by decide +kernel
theorem dX8_label_1 : decode cX8_label 1 = .ok (.iconst 0, 1) := by decide +kernel
theorem dX8_label_2 : decode cX8_label 2 = .ok (.putfield 61, 3) := by decide +kernel
theorem dX8_label_5 : decode cX8_label 5 = .ok (.aload_n 0, 1) := by decide +kernel
theorem dX8_label_6 : decode cX8_label 6 = .ok (.iload_n 1, 1) := by decide +kernel
theorem dX8_label_7 : decode cX8_label 7 = .ok (.iload_n 2, 1) := by decide +kernel
theorem dX8_label_8 : decode cX8_label 8 = .ok (.invokevirtual 219, 3) := by decide +kernel
theorem dX8_label_11 : decode cX8_label 11 = .ok (.ifCond .eq 16, 3) := by decide +kernel
theorem dX8_label_14 : decode cX8_label 14 = .ok (.aload_n 0, 1) := by decide +kernel
theorem dX8_label_15 : decode cX8_label 15 = .ok (.aload_n 0, 1) := by decide +kernel
theorem dX8_label_16 : decode cX8_label 16 = .ok (.iload_n 1, 1) := by decide +kernel
theorem dX8_label_17 : decode cX8_label 17 = .ok (.iload_n 2, 1) := by decide +kernel
theorem dX8_label_18 : decode cX8_label 18 = .ok (.invokevirtual 80, 3) := by decide +kernel
theorem dX8_label_21 : decode cX8_label 21 = .ok (.invokevirtual 188, 3) := by decide +kernel
theorem dX8_label_24 : decode cX8_label 24 = .ok (.goto 7, 3) := by decide +kernel
theorem dX8_label_27 : decode cX8_label 27 = .ok (.aload_n 0, 1) := by decide +kernel
theorem dX8_label_28 : decode cX8_label 28 = .ok (.invokevirtual 223, 3) := by decide +kernel
theorem dX8_label_31 : decode cX8_label 31 = .ok (.ireturn, 1) := by decide +kernel
theorem dX8_point_0 : decode cX8_point 0 = .ok (.aload_n 0, 1) := by decide +kernel
theorem dX8_point_1 : decode cX8_point 1 = .ok (.iconst 0, 1) := by decide +kernel
theorem dX8_point_2 : decode cX8_point 2 = .ok (.putfield 61, 3) := by decide +kernel
theorem dX8_point_5 : decode cX8_point 5 = .ok (.aload_n 0, 1) := by decide +kernel
theorem dX8_point_6 : decode cX8_point 6 = .ok (.iload_n 1, 1) := by decide +kernel
theorem dX8_point_7 : decode cX8_point 7 = .ok (.iload_n 2, 1) := by decide +kernel
theorem dX8_point_8 : decode cX8_point 8 = .ok (.invokevirtual 219, 3) := by decide +kernel
theorem dX8_point_11 : decode cX8_point 11 = .ok (.ifCond .ne 5, 3) := by decide +kernel
theorem dX8_point_14 : decode cX8_point 14 = .ok (.iconst (-1), 1) := by decide +kernel
theorem dX8_point_15 : decode cX8_point 15 = .ok (.ireturn, 1) := by decide +kernel
theorem dX8_point_16 : decode cX8_point 16 = .ok (.aload_n 0, 1) := by decide +kernel
theorem dX8_point_17 : decode cX8_point 17 = .ok (.iconst 0, 1) := by decide +kernel
theorem dX8_point_18 : decode cX8_point 18 = .ok (.putfield 65, 3) := by decide +kernel
theorem dX8_point_21 : decode cX8_point 21 = .ok (.iconst 0, 1) := by decide +kernel
theorem dX8_point_22 : decode cX8_point 22 = .ok (.istore_n 3, 1) := by decide +kernel
theorem dX8_point_23 : decode cX8_point 23 = .ok (.iload_n 3, 1) := by decide +kernel
theorem dX8_point_24 : decode cX8_point 24 = .ok (.iconst 3, 1) := by decide +kernel
theorem dX8_point_25 : decode cX8_point 25 = .ok (.if_icmp .ge 21, 3) := by decide +kernel
theorem dX8_point_28 : decode cX8_point 28 = .ok (.aload_n 0, 1) := by decide +kernel
theorem dX8_point_29 : decode cX8_point 29 = .ok (.aload_n 0, 1) := by decide +kernel
theorem dX8_point_30 : decode cX8_point 30 = .ok (.iload_n 1, 1) := by decide +kernel
theorem dX8_point_31 : decode cX8_point 31 = .ok (.iload_n 2, 1) := by decide +kernel
theorem dX8_point_32 : decode cX8_point 32 = .ok (.iload_n 3, 1) := by decide +kernel
theorem dX8_point_33 : decode cX8_point 33 = .ok (.invokevirtual 76, 3) := by decide +kernel
theorem dX8_point_36 : decode cX8_point 36 = .ok (.i2l, 1) := by decide +kernel
theorem dX8_point_37 : decode cX8_point 37 = .ok (.invokevirtual 182, 3) := by decide +kernel
theorem dX8_point_40 : decode cX8_point 40 = .ok (.iinc 3 1, 3) := by decide +kernel
theorem dX8_point_43 : decode cX8_point 43 = .ok (.goto (-20), 3) := by decide +kernel
theorem dX8_point_46 : decode cX8_point 46 = .ok (.aload_n 0, 1) := by decide +kernel
theorem dX8_point_47 : decode cX8_point 47 = .ok (.iload_n 1, 1) := by decide +kernel
theorem dX8_point_48 : decode cX8_point 48 = .ok (.iload_n 2, 1) := by decide +kernel
theorem dX8_point_49 : decode cX8_point 49 = .ok (.invokevirtual 80, 3) := by decide +kernel
theorem dX8_point_52 : decode cX8_point 52 = .ok (.ireturn, 1) := by decide +kernel
theorem dX8_cell_0 : decode cX8_cell 0 = .ok (.aload_n 0, 1) := by decide +kernel
theorem dX8_cell_1 : decode cX8_cell 1 = .ok (.iconst 0, 1) := by decide +kernel
theorem dX8_cell_2 : decode cX8_cell 2 = .ok (.putfield 61, 3) := by decide +kernel
theorem dX8_cell_5 : decode cX8_cell 5 = .ok (.aload_n 0, 1) := by decide +kernel
theorem dX8_cell_6 : decode cX8_cell 6 = .ok (.iload_n 1, 1) := by decide +kernel
theorem dX8_cell_7 : decode cX8_cell 7 = .ok (.invokevirtual 213, 3) := by decide +kernel
theorem dX8_cell_10 : decode cX8_cell 10 = .ok (.ifCond .ne 5, 3) := by decide +kernel
theorem dX8_cell_13 : decode cX8_cell 13 = .ok (.iconst (-1), 1) := by decide +kernel
theorem dX8_cell_14 : decode cX8_cell 14 = .ok (.ireturn, 1) := by decide +kernel
theorem dX8_cell_15 : decode cX8_cell 15 = .ok (.aload_n 0, 1) := by decide +kernel
theorem dX8_cell_16 : decode cX8_cell 16 = .ok (.iconst 0, 1) := by decide +kernel
theorem dX8_cell_17 : decode cX8_cell 17 = .ok (.putfield 65, 3) := by decide +kernel
theorem dX8_cell_20 : decode cX8_cell 20 = .ok (.iconst 0, 1) := by decide +kernel
theorem dX8_cell_21 : decode cX8_cell 21 = .ok (.istore_n 2, 1) := by decide +kernel
theorem dX8_cell_22 : decode cX8_cell 22 = .ok (.iload_n 2, 1) := by decide +kernel
theorem dX8_cell_23 : decode cX8_cell 23 = .ok (.iconst 3, 1) := by decide +kernel
theorem dX8_cell_24 : decode cX8_cell 24 = .ok (.if_icmp .ge 20, 3) := by decide +kernel
theorem dX8_cell_27 : decode cX8_cell 27 = .ok (.aload_n 0, 1) := by decide +kernel
theorem dX8_cell_28 : decode cX8_cell 28 = .ok (.aload_n 0, 1) := by decide +kernel
theorem dX8_cell_29 : decode cX8_cell 29 = .ok (.iload_n 1, 1) := by decide +kernel
theorem dX8_cell_30 : decode cX8_cell 30 = .ok (.iload_n 2, 1) := by decide +kernel
theorem dX8_cell_31 : decode cX8_cell 31 = .ok (.invokevirtual 200, 3) := by decide +kernel
theorem dX8_cell_34 : decode cX8_cell 34 = .ok (.i2l, 1) := by decide +kernel
theorem dX8_cell_35 : decode cX8_cell 35 = .ok (.invokevirtual 182, 3) := by decide +kernel
theorem dX8_cell_38 : decode cX8_cell 38 = .ok (.iinc 2 1, 3) := by decide +kernel
theorem dX8_cell_41 : decode cX8_cell 41 = .ok (.goto (-19), 3) := by decide +kernel
theorem dX8_cell_44 : decode cX8_cell 44 = .ok (.aload_n 0, 1) := by decide +kernel
theorem dX8_cell_45 : decode cX8_cell 45 = .ok (.aload_n 0, 1) := by decide +kernel
theorem dX8_cell_46 : decode cX8_cell 46 = .ok (.iload_n 1, 1) := by decide +kernel
theorem dX8_cell_47 : decode cX8_cell 47 = .ok (.invokevirtual 216, 3) := by decide +kernel
theorem dX8_cell_50 : decode cX8_cell 50 = .ok (.i2l, 1) := by decide +kernel
theorem dX8_cell_51 : decode cX8_cell 51 = .ok (.invokevirtual 182, 3) := by decide +kernel
theorem dX8_cell_54 : decode cX8_cell 54 = .ok (.aload_n 0, 1) := by decide +kernel
theorem dX8_cell_55 : decode cX8_cell 55 = .ok (.iload_n 1, 1) := by decide +kernel
theorem dX8_cell_56 : decode cX8_cell 56 = .ok (.invokevirtual 206, 3) := by decide +kernel
theorem dX8_cell_59 : decode cX8_cell 59 = .ok (.ifCond .eq 7, 3) := by decide +kernel
theorem dX8_cell_62 : decode cX8_cell 62 = .ok (.iconst 1, 1) := by decide +kernel
theorem dX8_cell_63 : decode cX8_cell 63 = .ok (.goto 4, 3) := by decide +kernel
theorem dX8_cell_66 : decode cX8_cell 66 = .ok (.iconst 0, 1) := by decide +kernel
theorem dX8_cell_67 : decode cX8_cell 67 = .ok (.ireturn, 1) := by decide +kernel
theorem dX8_full_0 : decode cX8_full 0 = .ok (.aload_n 0, 1) := by decide +kernel
theorem dX8_full_1 : decode cX8_full 1 = .ok (.iconst 0, 1) := by decide +kernel
theorem dX8_full_2 : decode cX8_full 2 = .ok (.putfield 61, 3) := by decide +kernel
theorem dX8_full_5 : decode cX8_full 5 = .ok (.aload_n 0, 1) := by decide +kernel
theorem dX8_full_6 : decode cX8_full 6 = .ok (.invokevirtual 226, 3) := by decide +kernel
theorem dX8_full_9 : decode cX8_full 9 = .ok (.istore_n 1, 1) := by decide +kernel
theorem dX8_full_10 : decode cX8_full 10 = .ok (.aload_n 0, 1) := by decide +kernel
theorem dX8_full_11 : decode cX8_full 11 = .ok (.iconst 0, 1) := by decide +kernel
theorem dX8_full_12 : decode cX8_full 12 = .ok (.putfield 65, 3) := by decide +kernel
theorem dX8_full_15 : decode cX8_full 15 = .ok (.aload_n 0, 1) := by decide +kernel
theorem dX8_full_16 : decode cX8_full 16 = .ok (.aload_n 0, 1) := by decide +kernel
theorem dX8_full_17 : decode cX8_full 17 = .ok (.invokevirtual 229, 3) := by decide +kernel
theorem dX8_full_20 : decode cX8_full 20 = .ok (.i2l, 1) := by decide +kernel
theorem dX8_full_21 : decode cX8_full 21 = .ok (.invokevirtual 182, 3) := by decide +kernel
theorem dX8_full_24 : decode cX8_full 24 = .ok (.aload_n 0, 1) := by decide +kernel
theorem dX8_full_25 : decode cX8_full 25 = .ok (.aload_n 0, 1) := by decide +kernel
theorem dX8_full_26 : decode cX8_full 26 = .ok (.iconst 0, 1) := by decide +kernel
theorem dX8_full_27 : decode cX8_full 27 = .ok (.invokevirtual 232, 3) := by decide +kernel
theorem dX8_full_30 : decode cX8_full 30 = .ok (.i2l, 1) := by decide +kernel
theorem dX8_full_31 : decode cX8_full 31 = .ok (.invokevirtual 182, 3) := by decide +kernel
theorem dX8_full_34 : decode cX8_full 34 = .ok (.aload_n 0, 1) := by decide +kernel
theorem dX8_full_35 : decode cX8_full 35 = .ok (.aload_n 0, 1) := by decide +kernel
theorem dX8_full_36 : decode cX8_full 36 = .ok (.iload_n 1, 1) := by decide +kernel
theorem dX8_full_37 : decode cX8_full 37 = .ok (.iconst 1, 1) := by decide +kernel
theorem dX8_full_38 : decode cX8_full 38 = .ok (.isub, 1) := by decide +kernel
theorem dX8_full_39 : decode cX8_full 39 = .ok (.invokevirtual 232, 3) := by decide +kernel
theorem dX8_full_42 : decode cX8_full 42 = .ok (.i2l, 1) := by decide +kernel
theorem dX8_full_43 : decode cX8_full 43 = .ok (.invokevirtual 182, 3) := by decide +kernel
theorem dX8_full_46 : decode cX8_full 46 = .ok (.iload_n 1, 1) := by decide +kernel
theorem dX8_full_47 : decode cX8_full 47 = .ok (.ireturn, 1) := by decide +kernel
theorem dX8_nth_0 : decode cX8_nth 0 = .ok (.aload_n 0, 1) := by decide +kernel
theorem dX8_nth_1 : decode cX8_nth 1 = .ok (.iconst 0, 1) := by decide +kernel
theorem dX8_nth_2 : decode cX8_nth 2 = .ok (.putfield 61, 3) := by decide +kernel
theorem dX8_nth_5 : decode cX8_nth 5 = .ok (.aload_n 0, 1) := by decide +kernel
theorem dX8_nth_6 : decode cX8_nth 6 = .ok (.iload_n 1, 1) := by decide +kernel
theorem dX8_nth_7 : decode cX8_nth 7 = .ok (.invokevirtual 232, 3) := by decide +kernel
theorem dX8_nth_10 : decode cX8_nth 10 = .ok (.istore_n 2, 1) := by decide +kernel
theorem dX8_nth_11 : decode cX8_nth 11 = .ok (.iload_n 2, 1) := by decide +kernel
theorem dX8_nth_12 : decode cX8_nth 12 = .ok (.iconst (-1), 1) := by decide +kernel
theorem dX8_nth_13 : decode cX8_nth 13 = .ok (.if_icmp .ne 5, 3) := by decide +kernel
theorem dX8_nth_16 : decode cX8_nth 16 = .ok (.iconst (-1), 1) := by decide +kernel
theorem dX8_nth_17 : decode cX8_nth 17 = .ok (.ireturn, 1) := by decide +kernel
theorem dX8_nth_18 : decode cX8_nth 18 = .ok (.aload_n 0, 1) := by decide +kernel
theorem dX8_nth_19 : decode cX8_nth 19 = .ok (.iconst 0, 1) := by decide +kernel
theorem dX8_nth_20 : decode cX8_nth 20 = .ok (.putfield 65, 3) := by decide +kernel
theorem dX8_nth_23 : decode cX8_nth 23 = .ok (.aload_n 0, 1) := by decide +kernel
theorem dX8_nth_24 : decode cX8_nth 24 = .ok (.aload_n 0, 1) := by decide +kernel
theorem dX8_nth_25 : decode cX8_nth 25 = .ok (.iload_n 2, 1) := by decide +kernel
theorem dX8_nth_26 : decode cX8_nth 26 = .ok (.invokevirtual 216, 3) := by decide +kernel
theorem dX8_nth_29 : decode cX8_nth 29 = .ok (.i2l, 1) := by decide +kernel
theorem dX8_nth_30 : decode cX8_nth 30 = .ok (.invokevirtual 182, 3) := by decide +kernel
theorem dX8_nth_33 : decode cX8_nth 33 = .ok (.iload_n 2, 1) := by decide +kernel
theorem dX8_nth_34 : decode cX8_nth 34 = .ok (.ireturn, 1) := by decide +kernel
theorem dX8_with_0 : decode cX8_with 0 = .ok (.aload_n 0, 1) := by decide +kernel
theorem dX8_with_1 : decode cX8_with 1 = .ok (.iconst 0, 1) := by decide +kernel
theorem dX8_with_2 : decode cX8_with 2 = .ok (.putfield 61, 3) := by decide +kernel
theorem dX8_with_5 : decode cX8_with 5 = .ok (.iload_n 1, 1) := by decide +kernel
theorem dX8_with_6 : decode cX8_with 6 = .ok (.iconst 1, 1) := by decide +kernel
theorem dX8_with_7 : decode cX8_with 7 = .ok (.bipush 7, 2) := by decide +kernel
theorem dX8_with_9 : decode cX8_with 9 = .ok (.invokestatic 72, 3) := by decide +kernel
theorem dX8_with_12 : decode cX8_with 12 = .ok (.ifCond .ne 5, 3) := by decide +kernel
theorem dX8_with_15 : decode cX8_with 15 = .ok (.iconst (-1), 1) := by decide +kernel
theorem dX8_with_16 : decode cX8_with 16 = .ok (.ireturn, 1) := by decide +kernel
theorem dX8_with_17 : decode cX8_with 17 = .ok (.iconst 0, 1) := by decide +kernel
theorem dX8_with_18 : decode cX8_with 18 = .ok (.istore_n 2, 1) := by decide +kernel
theorem dX8_with_19 : decode cX8_with 19 = .ok (.iconst (-1), 1) := by decide +kernel
theorem dX8_with_20 : decode cX8_with 20 = .ok (.istore_n 3, 1) := by decide +kernel
theorem dX8_with_21 : decode cX8_with 21 = .ok (.aload_n 0, 1) := by decide +kernel
theorem dX8_with_22 : decode cX8_with 22 = .ok (.invokevirtual 210, 3) := by decide +kernel
theorem dX8_with_25 : decode cX8_with 25 = .ok (.iconst 1, 1) := by decide +kernel
theorem dX8_with_26 : decode cX8_with 26 = .ok (.isub, 1) := by decide +kernel
theorem dX8_with_27 : decode cX8_with 27 = .ok (.istore 4, 2) := by decide +kernel
theorem dX8_with_29 : decode cX8_with 29 = .ok (.iload 4, 2) := by decide +kernel
theorem dX8_with_31 : decode cX8_with 31 = .ok (.ifCond .lt 37, 3) := by decide +kernel
theorem dX8_with_34 : decode cX8_with 34 = .ok (.aload_n 0, 1) := by decide +kernel
theorem dX8_with_35 : decode cX8_with 35 = .ok (.iload 4, 2) := by decide +kernel
theorem dX8_with_37 : decode cX8_with 37 = .ok (.invokevirtual 213, 3) := by decide +kernel
theorem dX8_with_40 : decode cX8_with 40 = .ok (.ifCond .eq 22, 3) := by decide +kernel
theorem dX8_with_43 : decode cX8_with 43 = .ok (.aload_n 0, 1) := by decide +kernel
theorem dX8_with_44 : decode cX8_with 44 = .ok (.iload 4, 2) := by decide +kernel
theorem dX8_with_46 : decode cX8_with 46 = .ok (.invokevirtual 203, 3) := by decide +kernel
theorem dX8_with_49 : decode cX8_with 49 = .ok (.iload_n 1, 1) := by decide +kernel
theorem dX8_with_50 : decode cX8_with 50 = .ok (.if_icmp .eq 6, 3) := by decide +kernel
theorem dX8_with_53 : decode cX8_with 53 = .ok (.goto 9, 3) := by decide +kernel
theorem dX8_with_56 : decode cX8_with 56 = .ok (.iinc 2 1, 3) := by decide +kernel
theorem dX8_with_59 : decode cX8_with 59 = .ok (.iload 4, 2) := by decide +kernel
theorem dX8_with_61 : decode cX8_with 61 = .ok (.istore_n 3, 1) := by decide +kernel
theorem dX8_with_62 : decode cX8_with 62 = .ok (.iinc 4 (-1), 3) := by decide +kernel
theorem dX8_with_65 : decode cX8_with 65 = .ok (.goto (-36), 3) := by decide +kernel
theorem dX8_with_68 : decode cX8_with 68 = .ok (.aload_n 0, 1) := by decide +kernel
theorem dX8_with_69 : decode cX8_with 69 = .ok (.iconst 0, 1) := by decide +kernel
theorem dX8_with_70 : decode cX8_with 70 = .ok (.putfield 65, 3) := by decide +kernel
theorem dX8_with_73 : decode cX8_with 73 = .ok (.aload_n 0, 1) := by decide +kernel
theorem dX8_with_74 : decode cX8_with 74 = .ok (.iload_n 3, 1) := by decide +kernel
theorem dX8_with_75 : decode cX8_with 75 = .ok (.i2l, 1) := by decide +kernel
theorem dX8_with_76 : decode cX8_with 76 = .ok (.invokevirtual 182, 3) := by decide +kernel
theorem dX8_with_79 : decode cX8_with 79 = .ok (.iload_n 2, 1) := by decide +kernel
theorem dX8_with_80 : decode cX8_with 80 = .ok (.ireturn, 1) := by decide +kernel
theorem dX8_isRim_0 : decode cX8_isRim 0 = .ok (.iload_n 1, 1) := by decide +kernel
theorem dX8_isRim_1 : decode cX8_isRim 1 = .ok (.ifCond .eq 17, 3) := by decide +kernel
theorem dX8_isRim_4 : decode cX8_isRim 4 = .ok (.iload_n 2, 1) := by decide +kernel
theorem dX8_isRim_5 : decode cX8_isRim 5 = .ok (.ifCond .eq 13, 3) := by decide +kernel
theorem dX8_isRim_8 : decode cX8_isRim 8 = .ok (.iload_n 1, 1) := by decide +kernel
theorem dX8_isRim_9 : decode cX8_isRim 9 = .ok (.iload_n 2, 1) := by decide +kernel
theorem dX8_isRim_10 : decode cX8_isRim 10 = .ok (.iadd, 1) := by decide +kernel
theorem dX8_isRim_11 : decode cX8_isRim 11 = .ok (.aload_n 0, 1) := by decide +kernel
theorem dX8_isRim_12 : decode cX8_isRim 12 = .ok (.invokevirtual 68, 3) := by decide +kernel
theorem dX8_isRim_15 : decode cX8_isRim 15 = .ok (.if_icmp .ne 7, 3) := by decide +kernel
theorem dX8_isRim_18 : decode cX8_isRim 18 = .ok (.iconst 1, 1) := by decide +kernel
theorem dX8_isRim_19 : decode cX8_isRim 19 = .ok (.goto 4, 3) := by decide +kernel
theorem dX8_isRim_22 : decode cX8_isRim 22 = .ok (.iconst 0, 1) := by decide +kernel
theorem dX8_isRim_23 : decode cX8_isRim 23 = .ok (.ireturn, 1) := by decide +kernel
theorem dX8_many_0 : decode cX8_many 0 = .ok (.aload_n 0, 1) := by decide +kernel
theorem dX8_many_1 : decode cX8_many 1 = .ok (.iconst 0, 1) := by decide +kernel
theorem dX8_many_2 : decode cX8_many 2 = .ok (.putfield 61, 3) := by decide +kernel
theorem dX8_many_5 : decode cX8_many 5 = .ok (.iload_n 1, 1) := by decide +kernel
theorem dX8_many_6 : decode cX8_many 6 = .ok (.iconst 0, 1) := by decide +kernel
theorem dX8_many_7 : decode cX8_many 7 = .ok (.iconst 2, 1) := by decide +kernel
theorem dX8_many_8 : decode cX8_many 8 = .ok (.invokestatic 72, 3) := by decide +kernel
theorem dX8_many_11 : decode cX8_many 11 = .ok (.ifCond .ne 5, 3) := by decide +kernel
theorem dX8_many_14 : decode cX8_many 14 = .ok (.iconst (-1), 1) := by decide +kernel
theorem dX8_many_15 : decode cX8_many 15 = .ok (.ireturn, 1) := by decide +kernel
theorem dX8_many_16 : decode cX8_many 16 = .ok (.iconst 0, 1) := by decide +kernel
theorem dX8_many_17 : decode cX8_many 17 = .ok (.istore_n 2, 1) := by decide +kernel
theorem dX8_many_18 : decode cX8_many 18 = .ok (.iconst 0, 1) := by decide +kernel
theorem dX8_many_19 : decode cX8_many 19 = .ok (.istore_n 3, 1) := by decide +kernel
theorem dX8_many_20 : decode cX8_many 20 = .ok (.iconst 0, 1) := by decide +kernel
theorem dX8_many_21 : decode cX8_many 21 = .ok (.istore 4, 2) := by decide +kernel
theorem dX8_many_23 : decode cX8_many 23 = .ok (.iload 4, 2) := by decide +kernel
theorem dX8_many_25 : decode cX8_many 25 = .ok (.aload_n 0, 1) := by decide +kernel
theorem dX8_many_26 : decode cX8_many 26 = .ok (.invokevirtual 68, 3) := by decide +kernel
theorem dX8_many_29 : decode cX8_many 29 = .ok (.if_icmp .gt 71, 3) := by decide +kernel
theorem dX8_many_32 : decode cX8_many 32 = .ok (.iconst 0, 1) := by decide +kernel
theorem dX8_many_33 : decode cX8_many 33 = .ok (.istore 5, 2) := by decide +kernel
theorem dX8_many_35 : decode cX8_many 35 = .ok (.iload 5, 2) := by decide +kernel
theorem dX8_many_37 : decode cX8_many 37 = .ok (.aload_n 0, 1) := by decide +kernel
theorem dX8_many_38 : decode cX8_many 38 = .ok (.invokevirtual 68, 3) := by decide +kernel
theorem dX8_many_41 : decode cX8_many 41 = .ok (.iload 4, 2) := by decide +kernel
theorem dX8_many_43 : decode cX8_many 43 = .ok (.isub, 1) := by decide +kernel
theorem dX8_many_44 : decode cX8_many 44 = .ok (.if_icmp .gt 50, 3) := by decide +kernel
theorem dX8_many_47 : decode cX8_many 47 = .ok (.aload_n 0, 1) := by decide +kernel
theorem dX8_many_48 : decode cX8_many 48 = .ok (.aload_n 0, 1) := by decide +kernel
theorem dX8_many_49 : decode cX8_many 49 = .ok (.iload 4, 2) := by decide +kernel
theorem dX8_many_51 : decode cX8_many 51 = .ok (.iload 5, 2) := by decide +kernel
theorem dX8_many_53 : decode cX8_many 53 = .ok (.invokevirtual 80, 3) := by decide +kernel
theorem dX8_many_56 : decode cX8_many 56 = .ok (.invokevirtual 188, 3) := by decide +kernel
theorem dX8_many_59 : decode cX8_many 59 = .ok (.iload_n 1, 1) := by decide +kernel
theorem dX8_many_60 : decode cX8_many 60 = .ok (.if_icmp .eq 6, 3) := by decide +kernel
theorem dX8_many_63 : decode cX8_many 63 = .ok (.goto 25, 3) := by decide +kernel
theorem dX8_many_66 : decode cX8_many 66 = .ok (.iinc 2 1, 3) := by decide +kernel
theorem dX8_many_69 : decode cX8_many 69 = .ok (.iload_n 3, 1) := by decide +kernel
theorem dX8_many_70 : decode cX8_many 70 = .ok (.aload_n 0, 1) := by decide +kernel
theorem dX8_many_71 : decode cX8_many 71 = .ok (.iload 4, 2) := by decide +kernel
theorem dX8_many_73 : decode cX8_many 73 = .ok (.iload 5, 2) := by decide +kernel
theorem dX8_many_75 : decode cX8_many 75 = .ok (.invokevirtual 235, 3) := by decide +kernel
theorem dX8_many_78 : decode cX8_many 78 = .ok (.ifCond .eq 7, 3) := by decide +kernel
theorem dX8_many_81 : decode cX8_many 81 = .ok (.iconst 1, 1) := by decide +kernel
theorem dX8_many_82 : decode cX8_many 82 = .ok (.goto 4, 3) := by decide +kernel
theorem dX8_many_85 : decode cX8_many 85 = .ok (.iconst 0, 1) := by decide +kernel
theorem dX8_many_86 : decode cX8_many 86 = .ok (.iadd, 1) := by decide +kernel
theorem dX8_many_87 : decode cX8_many 87 = .ok (.istore_n 3, 1) := by decide +kernel
theorem dX8_many_88 : decode cX8_many 88 = .ok (.iinc 5 1, 3) := by decide +kernel
theorem dX8_many_91 : decode cX8_many 91 = .ok (.goto (-56), 3) := by decide +kernel
theorem dX8_many_94 : decode cX8_many 94 = .ok (.iinc 4 1, 3) := by decide +kernel
theorem dX8_many_97 : decode cX8_many 97 = .ok (.goto (-74), 3) := by decide +kernel
theorem dX8_many_100 : decode cX8_many 100 = .ok (.aload_n 0, 1) := by decide +kernel
theorem dX8_many_101 : decode cX8_many 101 = .ok (.iconst 0, 1) := by decide +kernel
theorem dX8_many_102 : decode cX8_many 102 = .ok (.putfield 65, 3) := by decide +kernel
theorem dX8_many_105 : decode cX8_many 105 = .ok (.aload_n 0, 1) := by decide +kernel
theorem dX8_many_106 : decode cX8_many 106 = .ok (.iload_n 3, 1) := by decide +kernel
theorem dX8_many_107 : decode cX8_many 107 = .ok (.i2l, 1) := by decide +kernel
theorem dX8_many_108 : decode cX8_many 108 = .ok (.invokevirtual 182, 3) := by decide +kernel
theorem dX8_many_111 : decode cX8_many 111 = .ok (.iload_n 2, 1) := by decide +kernel
theorem dX8_many_112 : decode cX8_many 112 = .ok (.ireturn, 1) := by decide +kernel
theorem dX8_isDoor_0 : decode cX8_isDoor 0 = .ok (.aload_n 0, 1) := by decide +kernel
theorem dX8_isDoor_1 : decode cX8_isDoor 1 = .ok (.iload_n 1, 1) := by decide +kernel
theorem dX8_isDoor_2 : decode cX8_isDoor 2 = .ok (.iload_n 2, 1) := by decide +kernel
theorem dX8_isDoor_3 : decode cX8_isDoor 3 = .ok (.iconst 1, 1) := by decide +kernel
theorem dX8_isDoor_4 : decode cX8_isDoor 4 = .ok (.iadd, 1) := by decide +kernel
theorem dX8_isDoor_5 : decode cX8_isDoor 5 = .ok (.iconst 3, 1) := by decide +kernel
theorem dX8_isDoor_6 : decode cX8_isDoor 6 = .ok (.irem, 1) := by decide +kernel
theorem dX8_isDoor_7 : decode cX8_isDoor 7 = .ok (.invokevirtual 200, 3) := by decide +kernel
theorem dX8_isDoor_10 : decode cX8_isDoor 10 = .ok (.istore 4, 2) := by decide +kernel
theorem dX8_isDoor_12 : decode cX8_isDoor 12 = .ok (.aload_n 0, 1) := by decide +kernel
theorem dX8_isDoor_13 : decode cX8_isDoor 13 = .ok (.iload_n 1, 1) := by decide +kernel
theorem dX8_isDoor_14 : decode cX8_isDoor 14 = .ok (.iload_n 2, 1) := by decide +kernel
theorem dX8_isDoor_15 : decode cX8_isDoor 15 = .ok (.iconst 2, 1) := by decide +kernel
theorem dX8_isDoor_16 : decode cX8_isDoor 16 = .ok (.iadd, 1) := by decide +kernel
theorem dX8_isDoor_17 : decode cX8_isDoor 17 = .ok (.iconst 3, 1) := by decide +kernel
theorem dX8_isDoor_18 : decode cX8_isDoor 18 = .ok (.irem, 1) := by decide +kernel
theorem dX8_isDoor_19 : decode cX8_isDoor 19 = .ok (.invokevirtual 200, 3) := by decide +kernel
theorem dX8_isDoor_22 : decode cX8_isDoor 22 = .ok (.istore 5, 2) := by decide +kernel
theorem dX8_isDoor_24 : decode cX8_isDoor 24 = .ok (.iload 4, 2) := by decide +kernel
theorem dX8_isDoor_26 : decode cX8_isDoor 26 = .ok (.iload 5, 2) := by decide +kernel
theorem dX8_isDoor_28 : decode cX8_isDoor 28 = .ok (.if_icmp .eq 19, 3) := by decide +kernel
theorem dX8_isDoor_31 : decode cX8_isDoor 31 = .ok (.iload 4, 2) := by decide +kernel
theorem dX8_isDoor_33 : decode cX8_isDoor 33 = .ok (.iload_n 3, 1) := by decide +kernel
theorem dX8_isDoor_34 : decode cX8_isDoor 34 = .ok (.if_icmp .eq 13, 3) := by decide +kernel
theorem dX8_isDoor_37 : decode cX8_isDoor 37 = .ok (.iload 5, 2) := by decide +kernel
theorem dX8_isDoor_39 : decode cX8_isDoor 39 = .ok (.iload_n 3, 1) := by decide +kernel
theorem dX8_isDoor_40 : decode cX8_isDoor 40 = .ok (.if_icmp .eq 7, 3) := by decide +kernel
theorem dX8_isDoor_43 : decode cX8_isDoor 43 = .ok (.iconst 1, 1) := by decide +kernel
theorem dX8_isDoor_44 : decode cX8_isDoor 44 = .ok (.goto 4, 3) := by decide +kernel
theorem dX8_isDoor_47 : decode cX8_isDoor 47 = .ok (.iconst 0, 1) := by decide +kernel
theorem dX8_isDoor_48 : decode cX8_isDoor 48 = .ok (.ireturn, 1) := by decide +kernel
theorem dX8_doorMany_0 : decode cX8_doorMany 0 = .ok (.iconst 0, 1) := by decide +kernel
theorem dX8_doorMany_1 : decode cX8_doorMany 1 = .ok (.istore_n 3, 1) := by decide +kernel
theorem dX8_doorMany_2 : decode cX8_doorMany 2 = .ok (.iconst 0, 1) := by decide +kernel
theorem dX8_doorMany_3 : decode cX8_doorMany 3 = .ok (.istore 4, 2) := by decide +kernel
theorem dX8_doorMany_5 : decode cX8_doorMany 5 = .ok (.iload 4, 2) := by decide +kernel
theorem dX8_doorMany_7 : decode cX8_doorMany 7 = .ok (.iconst 3, 1) := by decide +kernel
theorem dX8_doorMany_8 : decode cX8_doorMany 8 = .ok (.if_icmp .ge 28, 3) := by decide +kernel
theorem dX8_doorMany_11 : decode cX8_doorMany 11 = .ok (.iload_n 3, 1) := by decide +kernel
theorem dX8_doorMany_12 : decode cX8_doorMany 12 = .ok (.aload_n 0, 1) := by decide +kernel
theorem dX8_doorMany_13 : decode cX8_doorMany 13 = .ok (.iload_n 1, 1) := by decide +kernel
theorem dX8_doorMany_14 : decode cX8_doorMany 14 = .ok (.iload 4, 2) := by decide +kernel
theorem dX8_doorMany_16 : decode cX8_doorMany 16 = .ok (.iload_n 2, 1) := by decide +kernel
theorem dX8_doorMany_17 : decode cX8_doorMany 17 = .ok (.invokevirtual 238, 3) := by decide +kernel
theorem dX8_doorMany_20 : decode cX8_doorMany 20 = .ok (.ifCond .eq 7, 3) := by decide +kernel
theorem dX8_doorMany_23 : decode cX8_doorMany 23 = .ok (.iconst 1, 1) := by decide +kernel
theorem dX8_doorMany_24 : decode cX8_doorMany 24 = .ok (.goto 4, 3) := by decide +kernel
theorem dX8_doorMany_27 : decode cX8_doorMany 27 = .ok (.iconst 0, 1) := by decide +kernel
theorem dX8_doorMany_28 : decode cX8_doorMany 28 = .ok (.iadd, 1) := by decide +kernel
theorem dX8_doorMany_29 : decode cX8_doorMany 29 = .ok (.istore_n 3, 1) := by decide +kernel
theorem dX8_doorMany_30 : decode cX8_doorMany 30 = .ok (.iinc 4 1, 3) := by decide +kernel
theorem dX8_doorMany_33 : decode cX8_doorMany 33 = .ok (.goto (-28), 3) := by decide +kernel
theorem dX8_doorMany_36 : decode cX8_doorMany 36 = .ok (.iload_n 3, 1) := by decide +kernel
theorem dX8_doorMany_37 : decode cX8_doorMany 37 = .ok (.ireturn, 1) := by decide +kernel
theorem dX8_beyond_0 : decode cX8_beyond 0 = .ok (.aload_n 0, 1) := by decide +kernel
theorem dX8_beyond_1 : decode cX8_beyond 1 = .ok (.iload_n 1, 1) := by decide +kernel
theorem dX8_beyond_2 : decode cX8_beyond 2 = .ok (.invokevirtual 191, 3) := by decide +kernel
theorem dX8_beyond_5 : decode cX8_beyond 5 = .ok (.istore_n 3, 1) := by decide +kernel
theorem dX8_beyond_6 : decode cX8_beyond 6 = .ok (.aload_n 0, 1) := by decide +kernel
theorem dX8_beyond_7 : decode cX8_beyond 7 = .ok (.iload_n 1, 1) := by decide +kernel
theorem dX8_beyond_8 : decode cX8_beyond 8 = .ok (.invokevirtual 194, 3) := by decide +kernel
theorem dX8_beyond_11 : decode cX8_beyond 11 = .ok (.istore 4, 2) := by decide +kernel
theorem dX8_beyond_13 : decode cX8_beyond 13 = .ok (.iload_n 1, 1) := by decide +kernel
theorem dX8_beyond_14 : decode cX8_beyond 14 = .ok (.iconst 2, 1) := by decide +kernel
theorem dX8_beyond_15 : decode cX8_beyond 15 = .ok (.irem, 1) := by decide +kernel
theorem dX8_beyond_16 : decode cX8_beyond 16 = .ok (.ifCond .ne 7, 3) := by decide +kernel
theorem dX8_beyond_19 : decode cX8_beyond 19 = .ok (.iconst 1, 1) := by decide +kernel
theorem dX8_beyond_20 : decode cX8_beyond 20 = .ok (.goto 4, 3) := by decide +kernel
theorem dX8_beyond_23 : decode cX8_beyond 23 = .ok (.iconst 0, 1) := by decide +kernel
theorem dX8_beyond_24 : decode cX8_beyond 24 = .ok (.istore 5, 2) := by decide +kernel
theorem dX8_beyond_26 : decode cX8_beyond 26 = .ok (.iload 5, 2) := by decide +kernel
theorem dX8_beyond_28 : decode cX8_beyond 28 = .ok (.ifCond .eq 7, 3) := by decide +kernel
theorem dX8_beyond_31 : decode cX8_beyond 31 = .ok (.iconst (-1), 1) := by decide +kernel
theorem dX8_beyond_32 : decode cX8_beyond 32 = .ok (.goto 4, 3) := by decide +kernel
theorem dX8_beyond_35 : decode cX8_beyond 35 = .ok (.iconst 1, 1) := by decide +kernel
theorem dX8_beyond_36 : decode cX8_beyond 36 = .ok (.istore 6, 2) := by decide +kernel
theorem dX8_beyond_38 : decode cX8_beyond 38 = .ok (.iload_n 3, 1) := by decide +kernel
theorem dX8_beyond_39 : decode cX8_beyond 39 = .ok (.iload_n 2, 1) := by decide +kernel
theorem dX8_beyond_40 : decode cX8_beyond 40 = .ok (.iconst 1, 1) := by decide +kernel
theorem dX8_beyond_41 : decode cX8_beyond 41 = .ok (.if_icmp .ne 8, 3) := by decide +kernel
theorem dX8_beyond_44 : decode cX8_beyond 44 = .ok (.iload 6, 2) := by decide +kernel
theorem dX8_beyond_46 : decode cX8_beyond 46 = .ok (.goto 4, 3) := by decide +kernel
theorem dX8_beyond_49 : decode cX8_beyond 49 = .ok (.iconst 0, 1) := by decide +kernel
theorem dX8_beyond_50 : decode cX8_beyond 50 = .ok (.iadd, 1) := by decide +kernel
theorem dX8_beyond_51 : decode cX8_beyond 51 = .ok (.istore 7, 2) := by decide +kernel
theorem dX8_beyond_53 : decode cX8_beyond 53 = .ok (.iload 4, 2) := by decide +kernel
theorem dX8_beyond_55 : decode cX8_beyond 55 = .ok (.iload_n 2, 1) := by decide +kernel
theorem dX8_beyond_56 : decode cX8_beyond 56 = .ok (.iconst 2, 1) := by decide +kernel
theorem dX8_beyond_57 : decode cX8_beyond 57 = .ok (.if_icmp .ne 8, 3) := by decide +kernel
theorem dX8_beyond_60 : decode cX8_beyond 60 = .ok (.iload 6, 2) := by decide +kernel
theorem dX8_beyond_62 : decode cX8_beyond 62 = .ok (.goto 4, 3) := by decide +kernel
theorem dX8_beyond_65 : decode cX8_beyond 65 = .ok (.iconst 0, 1) := by decide +kernel
theorem dX8_beyond_66 : decode cX8_beyond 66 = .ok (.iadd, 1) := by decide +kernel
theorem dX8_beyond_67 : decode cX8_beyond 67 = .ok (.istore 8, 2) := by decide +kernel
theorem dX8_beyond_69 : decode cX8_beyond 69 = .ok (.iload 7, 2) := by decide +kernel
theorem dX8_beyond_71 : decode cX8_beyond 71 = .ok (.ifCond .lt 31, 3) := by decide +kernel
theorem dX8_beyond_74 : decode cX8_beyond 74 = .ok (.iload 8, 2) := by decide +kernel
theorem dX8_beyond_76 : decode cX8_beyond 76 = .ok (.ifCond .lt 26, 3) := by decide +kernel
theorem dX8_beyond_79 : decode cX8_beyond 79 = .ok (.iload 7, 2) := by decide +kernel
theorem dX8_beyond_81 : decode cX8_beyond 81 = .ok (.iload 8, 2) := by decide +kernel
theorem dX8_beyond_83 : decode cX8_beyond 83 = .ok (.iadd, 1) := by decide +kernel
theorem dX8_beyond_84 : decode cX8_beyond 84 = .ok (.aload_n 0, 1) := by decide +kernel
theorem dX8_beyond_85 : decode cX8_beyond 85 = .ok (.invokevirtual 68, 3) := by decide +kernel
theorem dX8_beyond_88 : decode cX8_beyond 88 = .ok (.iload 5, 2) := by decide +kernel
theorem dX8_beyond_90 : decode cX8_beyond 90 = .ok (.ifCond .eq 7, 3) := by decide +kernel
theorem dX8_beyond_93 : decode cX8_beyond 93 = .ok (.iconst 2, 1) := by decide +kernel
theorem dX8_beyond_94 : decode cX8_beyond 94 = .ok (.goto 4, 3) := by decide +kernel
theorem dX8_beyond_97 : decode cX8_beyond 97 = .ok (.iconst 1, 1) := by decide +kernel
theorem dX8_beyond_98 : decode cX8_beyond 98 = .ok (.isub, 1) := by decide +kernel
theorem dX8_beyond_99 : decode cX8_beyond 99 = .ok (.if_icmp .le 5, 3) := by decide +kernel
theorem dX8_beyond_102 : decode cX8_beyond 102 = .ok (.iconst (-1), 1) := by decide +kernel
theorem dX8_beyond_103 : decode cX8_beyond 103 = .ok (.ireturn, 1) := by decide +kernel
theorem dX8_beyond_104 : decode cX8_beyond 104 = .ok (.iconst 2, 1) := by decide +kernel
theorem dX8_beyond_105 : decode cX8_beyond 105 = .ok (.aload_n 0, 1) := by decide +kernel
theorem dX8_beyond_106 : decode cX8_beyond 106 = .ok (.invokevirtual 68, 3) := by decide +kernel
theorem dX8_beyond_109 : decode cX8_beyond 109 = .ok (.iload 7, 2) := by decide +kernel
theorem dX8_beyond_111 : decode cX8_beyond 111 = .ok (.imul, 1) := by decide +kernel
theorem dX8_beyond_112 : decode cX8_beyond 112 = .ok (.iload 8, 2) := by decide +kernel
theorem dX8_beyond_114 : decode cX8_beyond 114 = .ok (.iadd, 1) := by decide +kernel
theorem dX8_beyond_115 : decode cX8_beyond 115 = .ok (.imul, 1) := by decide +kernel
theorem dX8_beyond_116 : decode cX8_beyond 116 = .ok (.iload 5, 2) := by decide +kernel
theorem dX8_beyond_118 : decode cX8_beyond 118 = .ok (.ifCond .eq 7, 3) := by decide +kernel
theorem dX8_beyond_121 : decode cX8_beyond 121 = .ok (.iconst 1, 1) := by decide +kernel
theorem dX8_beyond_122 : decode cX8_beyond 122 = .ok (.goto 4, 3) := by decide +kernel
theorem dX8_beyond_125 : decode cX8_beyond 125 = .ok (.iconst 0, 1) := by decide +kernel
theorem dX8_beyond_126 : decode cX8_beyond 126 = .ok (.iadd, 1) := by decide +kernel
theorem dX8_beyond_127 : decode cX8_beyond 127 = .ok (.ireturn, 1) := by decide +kernel
theorem dX8_otherDoor_0 : decode cX8_otherDoor 0 = .ok (.iconst 0, 1) := by decide +kernel
theorem dX8_otherDoor_1 : decode cX8_otherDoor 1 = .ok (.istore 4, 2) := by decide +kernel
theorem dX8_otherDoor_3 : decode cX8_otherDoor 3 = .ok (.iload 4, 2) := by decide +kernel
theorem dX8_otherDoor_5 : decode cX8_otherDoor 5 = .ok (.iconst 3, 1) := by decide +kernel
theorem dX8_otherDoor_6 : decode cX8_otherDoor 6 = .ok (.if_icmp .ge 29, 3) := by decide +kernel
theorem dX8_otherDoor_9 : decode cX8_otherDoor 9 = .ok (.iload 4, 2) := by decide +kernel
theorem dX8_otherDoor_11 : decode cX8_otherDoor 11 = .ok (.iload_n 2, 1) := by decide +kernel
theorem dX8_otherDoor_12 : decode cX8_otherDoor 12 = .ok (.if_icmp .eq 17, 3) := by decide +kernel
theorem dX8_otherDoor_15 : decode cX8_otherDoor 15 = .ok (.aload_n 0, 1) := by decide +kernel
theorem dX8_otherDoor_16 : decode cX8_otherDoor 16 = .ok (.iload_n 1, 1) := by decide +kernel
theorem dX8_otherDoor_17 : decode cX8_otherDoor 17 = .ok (.iload 4, 2) := by decide +kernel
theorem dX8_otherDoor_19 : decode cX8_otherDoor 19 = .ok (.iload_n 3, 1) := by decide +kernel
theorem dX8_otherDoor_20 : decode cX8_otherDoor 20 = .ok (.invokevirtual 238, 3) := by decide +kernel
theorem dX8_otherDoor_23 : decode cX8_otherDoor 23 = .ok (.ifCond .eq 6, 3) := by decide +kernel
theorem dX8_otherDoor_26 : decode cX8_otherDoor 26 = .ok (.iload 4, 2) := by decide +kernel
theorem dX8_otherDoor_28 : decode cX8_otherDoor 28 = .ok (.ireturn, 1) := by decide +kernel
theorem dX8_otherDoor_29 : decode cX8_otherDoor 29 = .ok (.iinc 4 1, 3) := by decide +kernel
theorem dX8_otherDoor_32 : decode cX8_otherDoor 32 = .ok (.goto (-29), 3) := by decide +kernel
theorem dX8_otherDoor_35 : decode cX8_otherDoor 35 = .ok (.iconst (-1), 1) := by decide +kernel
theorem dX8_otherDoor_36 : decode cX8_otherDoor 36 = .ok (.ireturn, 1) := by decide +kernel
theorem dX8_layOuter_0 : decode cX8_layOuter 0 = .ok (.aload_n 0, 1) := by decide +kernel
theorem dX8_layOuter_1 : decode cX8_layOuter 1 = .ok (.iconst 0, 1) := by decide +kernel
theorem dX8_layOuter_2 : decode cX8_layOuter 2 = .ok (.putfield 241, 3) := by decide +kernel
theorem dX8_layOuter_5 : decode cX8_layOuter 5 = .ok (.iconst 0, 1) := by decide +kernel
theorem dX8_layOuter_6 : decode cX8_layOuter 6 = .ok (.istore_n 2, 1) := by decide +kernel
theorem dX8_layOuter_7 : decode cX8_layOuter 7 = .ok (.iload_n 2, 1) := by decide +kernel
theorem dX8_layOuter_8 : decode cX8_layOuter 8 = .ok (.aload_n 0, 1) := by decide +kernel
theorem dX8_layOuter_9 : decode cX8_layOuter 9 = .ok (.invokevirtual 68, 3) := by decide +kernel
theorem dX8_layOuter_12 : decode cX8_layOuter 12 = .ok (.if_icmp .ge 118, 3) := by decide +kernel
theorem dX8_layOuter_15 : decode cX8_layOuter 15 = .ok (.iload_n 1, 1) := by decide +kernel
theorem dX8_layOuter_16 : decode cX8_layOuter 16 = .ok (.ifCond .ne 9, 3) := by decide +kernel
theorem dX8_layOuter_19 : decode cX8_layOuter 19 = .ok (.iconst 2, 1) := by decide +kernel
theorem dX8_layOuter_20 : decode cX8_layOuter 20 = .ok (.iload_n 2, 1) := by decide +kernel
theorem dX8_layOuter_21 : decode cX8_layOuter 21 = .ok (.imul, 1) := by decide +kernel
theorem dX8_layOuter_22 : decode cX8_layOuter 22 = .ok (.goto 36, 3) := by decide +kernel
theorem dX8_layOuter_25 : decode cX8_layOuter 25 = .ok (.iload_n 1, 1) := by decide +kernel
theorem dX8_layOuter_26 : decode cX8_layOuter 26 = .ok (.iconst 1, 1) := by decide +kernel
theorem dX8_layOuter_27 : decode cX8_layOuter 27 = .ok (.if_icmp .ne 14, 3) := by decide +kernel
theorem dX8_layOuter_30 : decode cX8_layOuter 30 = .ok (.iconst 2, 1) := by decide +kernel
theorem dX8_layOuter_31 : decode cX8_layOuter 31 = .ok (.aload_n 0, 1) := by decide +kernel
theorem dX8_layOuter_32 : decode cX8_layOuter 32 = .ok (.invokevirtual 68, 3) := by decide +kernel
theorem dX8_layOuter_35 : decode cX8_layOuter 35 = .ok (.imul, 1) := by decide +kernel
theorem dX8_layOuter_36 : decode cX8_layOuter 36 = .ok (.iload_n 2, 1) := by decide +kernel
theorem dX8_layOuter_37 : decode cX8_layOuter 37 = .ok (.imul, 1) := by decide +kernel
theorem dX8_layOuter_38 : decode cX8_layOuter 38 = .ok (.goto 20, 3) := by decide +kernel
theorem dX8_layOuter_41 : decode cX8_layOuter 41 = .ok (.iconst 2, 1) := by decide +kernel
theorem dX8_layOuter_42 : decode cX8_layOuter 42 = .ok (.aload_n 0, 1) := by decide +kernel
theorem dX8_layOuter_43 : decode cX8_layOuter 43 = .ok (.invokevirtual 68, 3) := by decide +kernel
theorem dX8_layOuter_46 : decode cX8_layOuter 46 = .ok (.aload_n 0, 1) := by decide +kernel
theorem dX8_layOuter_47 : decode cX8_layOuter 47 = .ok (.invokevirtual 68, 3) := by decide +kernel
theorem dX8_layOuter_50 : decode cX8_layOuter 50 = .ok (.iconst 1, 1) := by decide +kernel
theorem dX8_layOuter_51 : decode cX8_layOuter 51 = .ok (.isub, 1) := by decide +kernel
theorem dX8_layOuter_52 : decode cX8_layOuter 52 = .ok (.iload_n 2, 1) := by decide +kernel
theorem dX8_layOuter_53 : decode cX8_layOuter 53 = .ok (.isub, 1) := by decide +kernel
theorem dX8_layOuter_54 : decode cX8_layOuter 54 = .ok (.imul, 1) := by decide +kernel
theorem dX8_layOuter_55 : decode cX8_layOuter 55 = .ok (.iload_n 2, 1) := by decide +kernel
theorem dX8_layOuter_56 : decode cX8_layOuter 56 = .ok (.iadd, 1) := by decide +kernel
theorem dX8_layOuter_57 : decode cX8_layOuter 57 = .ok (.imul, 1) := by decide +kernel
theorem dX8_layOuter_58 : decode cX8_layOuter 58 = .ok (.istore_n 3, 1) := by decide +kernel
theorem dX8_layOuter_59 : decode cX8_layOuter 59 = .ok (.iload_n 1, 1) := by decide +kernel
theorem dX8_layOuter_60 : decode cX8_layOuter 60 = .ok (.ifCond .ne 7, 3) := by decide +kernel
theorem dX8_layOuter_63 : decode cX8_layOuter 63 = .ok (.iconst 1, 1) := by decide +kernel
theorem dX8_layOuter_64 : decode cX8_layOuter 64 = .ok (.goto 13, 3) := by decide +kernel
theorem dX8_layOuter_67 : decode cX8_layOuter 67 = .ok (.iload_n 1, 1) := by decide +kernel
theorem dX8_layOuter_68 : decode cX8_layOuter 68 = .ok (.iconst 1, 1) := by decide +kernel
theorem dX8_layOuter_69 : decode cX8_layOuter 69 = .ok (.if_icmp .ne 7, 3) := by decide +kernel
theorem dX8_layOuter_72 : decode cX8_layOuter 72 = .ok (.iconst 2, 1) := by decide +kernel
theorem dX8_layOuter_73 : decode cX8_layOuter 73 = .ok (.goto 4, 3) := by decide +kernel
theorem dX8_layOuter_76 : decode cX8_layOuter 76 = .ok (.iconst 0, 1) := by decide +kernel
theorem dX8_layOuter_77 : decode cX8_layOuter 77 = .ok (.istore 4, 2) := by decide +kernel
theorem dX8_layOuter_79 : decode cX8_layOuter 79 = .ok (.aload_n 0, 1) := by decide +kernel
theorem dX8_layOuter_80 : decode cX8_layOuter 80 = .ok (.iload_n 3, 1) := by decide +kernel
theorem dX8_layOuter_81 : decode cX8_layOuter 81 = .ok (.iload 4, 2) := by decide +kernel
theorem dX8_layOuter_83 : decode cX8_layOuter 83 = .ok (.iload_n 1, 1) := by decide +kernel
theorem dX8_layOuter_84 : decode cX8_layOuter 84 = .ok (.invokevirtual 238, 3) := by decide +kernel
theorem dX8_layOuter_87 : decode cX8_layOuter 87 = .ok (.ifCond .ne 6, 3) := by decide +kernel
theorem dX8_layOuter_90 : decode cX8_layOuter 90 = .ok (.goto 34, 3) := by decide +kernel
theorem dX8_layOuter_93 : decode cX8_layOuter 93 = .ok (.aload_n 0, 1) := by decide +kernel
theorem dX8_layOuter_94 : decode cX8_layOuter 94 = .ok (.getfield 24, 3) := by decide +kernel
theorem dX8_layOuter_97 : decode cX8_layOuter 97 = .ok (.aload_n 0, 1) := by decide +kernel
theorem dX8_layOuter_98 : decode cX8_layOuter 98 = .ok (.getfield 241, 3) := by decide +kernel
theorem dX8_layOuter_101 : decode cX8_layOuter 101 = .ok (.iload_n 3, 1) := by decide +kernel
theorem dX8_layOuter_102 : decode cX8_layOuter 102 = .ok (.iastore, 1) := by decide +kernel
theorem dX8_layOuter_103 : decode cX8_layOuter 103 = .ok (.aload_n 0, 1) := by decide +kernel
theorem dX8_layOuter_104 : decode cX8_layOuter 104 = .ok (.getfield 27, 3) := by decide +kernel
theorem dX8_layOuter_107 : decode cX8_layOuter 107 = .ok (.aload_n 0, 1) := by decide +kernel
theorem dX8_layOuter_108 : decode cX8_layOuter 108 = .ok (.getfield 241, 3) := by decide +kernel
theorem dX8_layOuter_111 : decode cX8_layOuter 111 = .ok (.iload 4, 2) := by decide +kernel
theorem dX8_layOuter_113 : decode cX8_layOuter 113 = .ok (.iastore, 1) := by decide +kernel
theorem dX8_layOuter_114 : decode cX8_layOuter 114 = .ok (.aload_n 0, 1) := by decide +kernel
theorem dX8_layOuter_115 : decode cX8_layOuter 115 = .ok (.dup, 1) := by decide +kernel
theorem dX8_layOuter_116 : decode cX8_layOuter 116 = .ok (.getfield 241, 3) := by decide +kernel
theorem dX8_layOuter_119 : decode cX8_layOuter 119 = .ok (.iconst 1, 1) := by decide +kernel
theorem dX8_layOuter_120 : decode cX8_layOuter 120 = .ok (.iadd, 1) := by decide +kernel
theorem dX8_layOuter_121 : decode cX8_layOuter 121 = .ok (.putfield 241, 3) := by decide +kernel
theorem dX8_layOuter_124 : decode cX8_layOuter 124 = .ok (.iinc 2 1, 3) := by decide +kernel
theorem dX8_layOuter_127 : decode cX8_layOuter 127 = .ok (.goto (-120), 3) := by decide +kernel
theorem dX8_layOuter_130 : decode cX8_layOuter 130 = .ok (.return_, 1) := by decide +kernel
theorem dX8_outerOf_0 : decode cX8_outerOf 0 = .ok (.iconst 0, 1) := by decide +kernel
theorem dX8_outerOf_1 : decode cX8_outerOf 1 = .ok (.istore_n 3, 1) := by decide +kernel
theorem dX8_outerOf_2 : decode cX8_outerOf 2 = .ok (.iload_n 3, 1) := by decide +kernel
theorem dX8_outerOf_3 : decode cX8_outerOf 3 = .ok (.aload_n 0, 1) := by decide +kernel
theorem dX8_outerOf_4 : decode cX8_outerOf 4 = .ok (.getfield 241, 3) := by decide +kernel
theorem dX8_outerOf_7 : decode cX8_outerOf 7 = .ok (.if_icmp .ge 31, 3) := by decide +kernel
theorem dX8_outerOf_10 : decode cX8_outerOf 10 = .ok (.aload_n 0, 1) := by decide +kernel
theorem dX8_outerOf_11 : decode cX8_outerOf 11 = .ok (.getfield 24, 3) := by decide +kernel
theorem dX8_outerOf_14 : decode cX8_outerOf 14 = .ok (.iload_n 3, 1) := by decide +kernel
theorem dX8_outerOf_15 : decode cX8_outerOf 15 = .ok (.iaload, 1) := by decide +kernel
theorem dX8_outerOf_16 : decode cX8_outerOf 16 = .ok (.iload_n 1, 1) := by decide +kernel
theorem dX8_outerOf_17 : decode cX8_outerOf 17 = .ok (.if_icmp .ne 15, 3) := by decide +kernel
theorem dX8_outerOf_20 : decode cX8_outerOf 20 = .ok (.aload_n 0, 1) := by decide +kernel
theorem dX8_outerOf_21 : decode cX8_outerOf 21 = .ok (.getfield 27, 3) := by decide +kernel
theorem dX8_outerOf_24 : decode cX8_outerOf 24 = .ok (.iload_n 3, 1) := by decide +kernel
theorem dX8_outerOf_25 : decode cX8_outerOf 25 = .ok (.iaload, 1) := by decide +kernel
theorem dX8_outerOf_26 : decode cX8_outerOf 26 = .ok (.iload_n 2, 1) := by decide +kernel
theorem dX8_outerOf_27 : decode cX8_outerOf 27 = .ok (.if_icmp .ne 5, 3) := by decide +kernel
theorem dX8_outerOf_30 : decode cX8_outerOf 30 = .ok (.iload_n 3, 1) := by decide +kernel
theorem dX8_outerOf_31 : decode cX8_outerOf 31 = .ok (.ireturn, 1) := by decide +kernel
theorem dX8_outerOf_32 : decode cX8_outerOf 32 = .ok (.iinc 3 1, 3) := by decide +kernel
theorem dX8_outerOf_35 : decode cX8_outerOf 35 = .ok (.goto (-33), 3) := by decide +kernel
theorem dX8_outerOf_38 : decode cX8_outerOf 38 = .ok (.iconst (-1), 1) := by decide +kernel
theorem dX8_outerOf_39 : decode cX8_outerOf 39 = .ok (.ireturn, 1) := by decide +kernel
theorem dX8_isKind_0 : decode cX8_isKind 0 = .ok (.iload_n 0, 1) := by decide +kernel
theorem dX8_isKind_1 : decode cX8_isKind 1 = .ok (.iconst 0, 1) := by decide +kernel
theorem dX8_isKind_2 : decode cX8_isKind 2 = .ok (.iconst 2, 1) := by decide +kernel
theorem dX8_isKind_3 : decode cX8_isKind 3 = .ok (.invokestatic 72, 3) := by decide +kernel
theorem dX8_isKind_6 : decode cX8_isKind 6 = .ok (.ireturn, 1) := by decide +kernel
theorem dX8_outer_0 : decode cX8_outer 0 = .ok (.aload_n 0, 1) := by decide +kernel
theorem dX8_outer_1 : decode cX8_outer 1 = .ok (.iconst 0, 1) := by decide +kernel
theorem dX8_outer_2 : decode cX8_outer 2 = .ok (.putfield 61, 3) := by decide +kernel
theorem dX8_outer_5 : decode cX8_outer 5 = .ok (.iload_n 1, 1) := by decide +kernel
theorem dX8_outer_6 : decode cX8_outer 6 = .ok (.invokestatic 244, 3) := by decide +kernel
theorem dX8_outer_9 : decode cX8_outer 9 = .ok (.ifCond .ne 5, 3) := by decide +kernel
theorem dX8_outer_12 : decode cX8_outer 12 = .ok (.iconst (-1), 1) := by decide +kernel
theorem dX8_outer_13 : decode cX8_outer 13 = .ok (.ireturn, 1) := by decide +kernel
theorem dX8_outer_14 : decode cX8_outer 14 = .ok (.aload_n 0, 1) := by decide +kernel
theorem dX8_outer_15 : decode cX8_outer 15 = .ok (.iload_n 1, 1) := by decide +kernel
theorem dX8_outer_16 : decode cX8_outer 16 = .ok (.invokevirtual 247, 3) := by decide +kernel
theorem dX8_outer_19 : decode cX8_outer 19 = .ok (.aload_n 0, 1) := by decide +kernel
theorem dX8_outer_20 : decode cX8_outer 20 = .ok (.iconst 0, 1) := by decide +kernel
theorem dX8_outer_21 : decode cX8_outer 21 = .ok (.putfield 65, 3) := by decide +kernel
theorem dX8_outer_24 : decode cX8_outer 24 = .ok (.iconst 0, 1) := by decide +kernel
theorem dX8_outer_25 : decode cX8_outer 25 = .ok (.istore_n 2, 1) := by decide +kernel
theorem dX8_outer_26 : decode cX8_outer 26 = .ok (.iload_n 2, 1) := by decide +kernel
theorem dX8_outer_27 : decode cX8_outer 27 = .ok (.aload_n 0, 1) := by decide +kernel
theorem dX8_outer_28 : decode cX8_outer 28 = .ok (.getfield 241, 3) := by decide +kernel
theorem dX8_outer_31 : decode cX8_outer 31 = .ok (.if_icmp .ge 20, 3) := by decide +kernel
theorem dX8_outer_34 : decode cX8_outer 34 = .ok (.aload_n 0, 1) := by decide +kernel
theorem dX8_outer_35 : decode cX8_outer 35 = .ok (.aload_n 0, 1) := by decide +kernel
theorem dX8_outer_36 : decode cX8_outer 36 = .ok (.getfield 24, 3) := by decide +kernel
theorem dX8_outer_39 : decode cX8_outer 39 = .ok (.iload_n 2, 1) := by decide +kernel
theorem dX8_outer_40 : decode cX8_outer 40 = .ok (.iaload, 1) := by decide +kernel
theorem dX8_outer_41 : decode cX8_outer 41 = .ok (.i2l, 1) := by decide +kernel
theorem dX8_outer_42 : decode cX8_outer 42 = .ok (.invokevirtual 182, 3) := by decide +kernel
theorem dX8_outer_45 : decode cX8_outer 45 = .ok (.iinc 2 1, 3) := by decide +kernel
theorem dX8_outer_48 : decode cX8_outer 48 = .ok (.goto (-22), 3) := by decide +kernel
theorem dX8_outer_51 : decode cX8_outer 51 = .ok (.aload_n 0, 1) := by decide +kernel
theorem dX8_outer_52 : decode cX8_outer 52 = .ok (.getfield 241, 3) := by decide +kernel
theorem dX8_outer_55 : decode cX8_outer 55 = .ok (.ireturn, 1) := by decide +kernel
theorem dX8_doors_0 : decode cX8_doors 0 = .ok (.aload_n 0, 1) := by decide +kernel
theorem dX8_doors_1 : decode cX8_doors 1 = .ok (.iconst 0, 1) := by decide +kernel
theorem dX8_doors_2 : decode cX8_doors 2 = .ok (.putfield 61, 3) := by decide +kernel
theorem dX8_doors_5 : decode cX8_doors 5 = .ok (.iload_n 1, 1) := by decide +kernel
theorem dX8_doors_6 : decode cX8_doors 6 = .ok (.invokestatic 244, 3) := by decide +kernel
theorem dX8_doors_9 : decode cX8_doors 9 = .ok (.ifCond .ne 5, 3) := by decide +kernel
theorem dX8_doors_12 : decode cX8_doors 12 = .ok (.iconst (-1), 1) := by decide +kernel
theorem dX8_doors_13 : decode cX8_doors 13 = .ok (.ireturn, 1) := by decide +kernel
theorem dX8_doors_14 : decode cX8_doors 14 = .ok (.aload_n 0, 1) := by decide +kernel
theorem dX8_doors_15 : decode cX8_doors 15 = .ok (.iload_n 1, 1) := by decide +kernel
theorem dX8_doors_16 : decode cX8_doors 16 = .ok (.invokevirtual 247, 3) := by decide +kernel
theorem dX8_doors_19 : decode cX8_doors 19 = .ok (.iconst 0, 1) := by decide +kernel
theorem dX8_doors_20 : decode cX8_doors 20 = .ok (.istore_n 2, 1) := by decide +kernel
theorem dX8_doors_21 : decode cX8_doors 21 = .ok (.iconst 0, 1) := by decide +kernel
theorem dX8_doors_22 : decode cX8_doors 22 = .ok (.istore_n 3, 1) := by decide +kernel
theorem dX8_doors_23 : decode cX8_doors 23 = .ok (.iconst 0, 1) := by decide +kernel
theorem dX8_doors_24 : decode cX8_doors 24 = .ok (.istore 4, 2) := by decide +kernel
theorem dX8_doors_26 : decode cX8_doors 26 = .ok (.iload 4, 2) := by decide +kernel
theorem dX8_doors_28 : decode cX8_doors 28 = .ok (.aload_n 0, 1) := by decide +kernel
theorem dX8_doors_29 : decode cX8_doors 29 = .ok (.invokevirtual 210, 3) := by decide +kernel
theorem dX8_doors_32 : decode cX8_doors 32 = .ok (.if_icmp .ge 59, 3) := by decide +kernel
theorem dX8_doors_35 : decode cX8_doors 35 = .ok (.aload_n 0, 1) := by decide +kernel
theorem dX8_doors_36 : decode cX8_doors 36 = .ok (.iload 4, 2) := by decide +kernel
theorem dX8_doors_38 : decode cX8_doors 38 = .ok (.invokevirtual 213, 3) := by decide +kernel
theorem dX8_doors_41 : decode cX8_doors 41 = .ok (.ifCond .eq 13, 3) := by decide +kernel
theorem dX8_doors_44 : decode cX8_doors 44 = .ok (.aload_n 0, 1) := by decide +kernel
theorem dX8_doors_45 : decode cX8_doors 45 = .ok (.iload 4, 2) := by decide +kernel
theorem dX8_doors_47 : decode cX8_doors 47 = .ok (.iload_n 1, 1) := by decide +kernel
theorem dX8_doors_48 : decode cX8_doors 48 = .ok (.invokevirtual 250, 3) := by decide +kernel
theorem dX8_doors_51 : decode cX8_doors 51 = .ok (.goto 4, 3) := by decide +kernel
theorem dX8_doors_54 : decode cX8_doors 54 = .ok (.iconst 0, 1) := by decide +kernel
theorem dX8_doors_55 : decode cX8_doors 55 = .ok (.istore 5, 2) := by decide +kernel
theorem dX8_doors_57 : decode cX8_doors 57 = .ok (.iload_n 2, 1) := by decide +kernel
theorem dX8_doors_58 : decode cX8_doors 58 = .ok (.iload 5, 2) := by decide +kernel
theorem dX8_doors_60 : decode cX8_doors 60 = .ok (.iconst 1, 1) := by decide +kernel
theorem dX8_doors_61 : decode cX8_doors 61 = .ok (.if_icmp .ne 7, 3) := by decide +kernel
theorem dX8_doors_64 : decode cX8_doors 64 = .ok (.iconst 1, 1) := by decide +kernel
theorem dX8_doors_65 : decode cX8_doors 65 = .ok (.goto 4, 3) := by decide +kernel
theorem dX8_doors_68 : decode cX8_doors 68 = .ok (.iconst 0, 1) := by decide +kernel
theorem dX8_doors_69 : decode cX8_doors 69 = .ok (.iadd, 1) := by decide +kernel
theorem dX8_doors_70 : decode cX8_doors 70 = .ok (.istore_n 2, 1) := by decide +kernel
theorem dX8_doors_71 : decode cX8_doors 71 = .ok (.iload_n 3, 1) := by decide +kernel
theorem dX8_doors_72 : decode cX8_doors 72 = .ok (.iload 5, 2) := by decide +kernel
theorem dX8_doors_74 : decode cX8_doors 74 = .ok (.iconst 2, 1) := by decide +kernel
theorem dX8_doors_75 : decode cX8_doors 75 = .ok (.if_icmp .ne 7, 3) := by decide +kernel
theorem dX8_doors_78 : decode cX8_doors 78 = .ok (.iconst 1, 1) := by decide +kernel
theorem dX8_doors_79 : decode cX8_doors 79 = .ok (.goto 4, 3) := by decide +kernel
theorem dX8_doors_82 : decode cX8_doors 82 = .ok (.iconst 0, 1) := by decide +kernel
theorem dX8_doors_83 : decode cX8_doors 83 = .ok (.iadd, 1) := by decide +kernel
theorem dX8_doors_84 : decode cX8_doors 84 = .ok (.istore_n 3, 1) := by decide +kernel
theorem dX8_doors_85 : decode cX8_doors 85 = .ok (.iinc 4 1, 3) := by decide +kernel
theorem dX8_doors_88 : decode cX8_doors 88 = .ok (.goto (-62), 3) := by decide +kernel
theorem dX8_doors_91 : decode cX8_doors 91 = .ok (.aload_n 0, 1) := by decide +kernel
theorem dX8_doors_92 : decode cX8_doors 92 = .ok (.iconst 0, 1) := by decide +kernel
theorem dX8_doors_93 : decode cX8_doors 93 = .ok (.putfield 65, 3) := by decide +kernel
theorem dX8_doors_96 : decode cX8_doors 96 = .ok (.aload_n 0, 1) := by decide +kernel
theorem dX8_doors_97 : decode cX8_doors 97 = .ok (.iload_n 2, 1) := by decide +kernel
theorem dX8_doors_98 : decode cX8_doors 98 = .ok (.i2l, 1) := by decide +kernel
theorem dX8_doors_99 : decode cX8_doors 99 = .ok (.invokevirtual 182, 3) := by decide +kernel
theorem dX8_doors_102 : decode cX8_doors 102 = .ok (.aload_n 0, 1) := by decide +kernel
theorem dX8_doors_103 : decode cX8_doors 103 = .ok (.iload_n 3, 1) := by decide +kernel
theorem dX8_doors_104 : decode cX8_doors 104 = .ok (.i2l, 1) := by decide +kernel
theorem dX8_doors_105 : decode cX8_doors 105 = .ok (.invokevirtual 182, 3) := by decide +kernel
theorem dX8_doors_108 : decode cX8_doors 108 = .ok (.iload_n 2, 1) := by decide +kernel
theorem dX8_doors_109 : decode cX8_doors 109 = .ok (.iconst 2, 1) := by decide +kernel
theorem dX8_doors_110 : decode cX8_doors 110 = .ok (.iload_n 3, 1) := by decide +kernel
theorem dX8_doors_111 : decode cX8_doors 111 = .ok (.imul, 1) := by decide +kernel
theorem dX8_doors_112 : decode cX8_doors 112 = .ok (.iadd, 1) := by decide +kernel
theorem dX8_doors_113 : decode cX8_doors 113 = .ok (.aload_n 0, 1) := by decide +kernel
theorem dX8_doors_114 : decode cX8_doors 114 = .ok (.getfield 241, 3) := by decide +kernel
theorem dX8_doors_117 : decode cX8_doors 117 = .ok (.iadd, 1) := by decide +kernel
theorem dX8_doors_118 : decode cX8_doors 118 = .ok (.iconst 2, 1) := by decide +kernel
theorem dX8_doors_119 : decode cX8_doors 119 = .ok (.idiv, 1) := by decide +kernel
theorem dX8_doors_120 : decode cX8_doors 120 = .ok (.ireturn, 1) := by decide +kernel
theorem dX8_goIn_0 : decode cX8_goIn 0 = .ok (.aload_n 0, 1) := by decide +kernel
theorem dX8_goIn_1 : decode cX8_goIn 1 = .ok (.iconst 0, 1) := by decide +kernel
theorem dX8_goIn_2 : decode cX8_goIn 2 = .ok (.putfield 253, 3) := by decide +kernel
theorem dX8_goIn_5 : decode cX8_goIn 5 = .ok (.aload_n 0, 1) := by decide +kernel
theorem dX8_goIn_6 : decode cX8_goIn 6 = .ok (.iconst (-1), 1) := by decide +kernel
theorem dX8_goIn_7 : decode cX8_goIn 7 = .ok (.putfield 256, 3) := by decide +kernel
theorem dX8_goIn_10 : decode cX8_goIn 10 = .ok (.iload_n 1, 1) := by decide +kernel
theorem dX8_goIn_11 : decode cX8_goIn 11 = .ok (.istore 4, 2) := by decide +kernel
theorem dX8_goIn_13 : decode cX8_goIn 13 = .ok (.iload_n 2, 1) := by decide +kernel
theorem dX8_goIn_14 : decode cX8_goIn 14 = .ok (.istore 5, 2) := by decide +kernel
theorem dX8_goIn_16 : decode cX8_goIn 16 = .ok (.iload 4, 2) := by decide +kernel
theorem dX8_goIn_18 : decode cX8_goIn 18 = .ok (.iconst (-1), 1) := by decide +kernel
theorem dX8_goIn_19 : decode cX8_goIn 19 = .ok (.if_icmp .eq 90, 3) := by decide +kernel
theorem dX8_goIn_22 : decode cX8_goIn 22 = .ok (.aload_n 0, 1) := by decide +kernel
theorem dX8_goIn_23 : decode cX8_goIn 23 = .ok (.getfield 30, 3) := by decide +kernel
theorem dX8_goIn_26 : decode cX8_goIn 26 = .ok (.aload_n 0, 1) := by decide +kernel
theorem dX8_goIn_27 : decode cX8_goIn 27 = .ok (.getfield 253, 3) := by decide +kernel
theorem dX8_goIn_30 : decode cX8_goIn 30 = .ok (.iload 4, 2) := by decide +kernel
theorem dX8_goIn_32 : decode cX8_goIn 32 = .ok (.iastore, 1) := by decide +kernel
theorem dX8_goIn_33 : decode cX8_goIn 33 = .ok (.aload_n 0, 1) := by decide +kernel
theorem dX8_goIn_34 : decode cX8_goIn 34 = .ok (.dup, 1) := by decide +kernel
theorem dX8_goIn_35 : decode cX8_goIn 35 = .ok (.getfield 253, 3) := by decide +kernel
theorem dX8_goIn_38 : decode cX8_goIn 38 = .ok (.iconst 1, 1) := by decide +kernel
theorem dX8_goIn_39 : decode cX8_goIn 39 = .ok (.iadd, 1) := by decide +kernel
theorem dX8_goIn_40 : decode cX8_goIn 40 = .ok (.putfield 253, 3) := by decide +kernel
theorem dX8_goIn_43 : decode cX8_goIn 43 = .ok (.aload_n 0, 1) := by decide +kernel
theorem dX8_goIn_44 : decode cX8_goIn 44 = .ok (.iload 4, 2) := by decide +kernel
theorem dX8_goIn_46 : decode cX8_goIn 46 = .ok (.iload 5, 2) := by decide +kernel
theorem dX8_goIn_48 : decode cX8_goIn 48 = .ok (.iload_n 3, 1) := by decide +kernel
theorem dX8_goIn_49 : decode cX8_goIn 49 = .ok (.invokevirtual 259, 3) := by decide +kernel
theorem dX8_goIn_52 : decode cX8_goIn 52 = .ok (.istore 6, 2) := by decide +kernel
theorem dX8_goIn_54 : decode cX8_goIn 54 = .ok (.iload 4, 2) := by decide +kernel
theorem dX8_goIn_56 : decode cX8_goIn 56 = .ok (.istore 7, 2) := by decide +kernel
theorem dX8_goIn_58 : decode cX8_goIn 58 = .ok (.iload 6, 2) := by decide +kernel
theorem dX8_goIn_60 : decode cX8_goIn 60 = .ok (.iconst (-1), 1) := by decide +kernel
theorem dX8_goIn_61 : decode cX8_goIn 61 = .ok (.if_icmp .ne 7, 3) := by decide +kernel
theorem dX8_goIn_64 : decode cX8_goIn 64 = .ok (.iconst (-1), 1) := by decide +kernel
theorem dX8_goIn_65 : decode cX8_goIn 65 = .ok (.goto 11, 3) := by decide +kernel
theorem dX8_goIn_68 : decode cX8_goIn 68 = .ok (.aload_n 0, 1) := by decide +kernel
theorem dX8_goIn_69 : decode cX8_goIn 69 = .ok (.iload 4, 2) := by decide +kernel
theorem dX8_goIn_71 : decode cX8_goIn 71 = .ok (.iload 6, 2) := by decide +kernel
theorem dX8_goIn_73 : decode cX8_goIn 73 = .ok (.invokevirtual 262, 3) := by decide +kernel
theorem dX8_goIn_76 : decode cX8_goIn 76 = .ok (.istore 4, 2) := by decide +kernel
theorem dX8_goIn_78 : decode cX8_goIn 78 = .ok (.iload 6, 2) := by decide +kernel
theorem dX8_goIn_80 : decode cX8_goIn 80 = .ok (.iconst (-1), 1) := by decide +kernel
theorem dX8_goIn_81 : decode cX8_goIn 81 = .ok (.if_icmp .eq 21, 3) := by decide +kernel
theorem dX8_goIn_84 : decode cX8_goIn 84 = .ok (.iload 4, 2) := by decide +kernel
theorem dX8_goIn_86 : decode cX8_goIn 86 = .ok (.iconst (-1), 1) := by decide +kernel
theorem dX8_goIn_87 : decode cX8_goIn 87 = .ok (.if_icmp .ne 15, 3) := by decide +kernel
theorem dX8_goIn_90 : decode cX8_goIn 90 = .ok (.aload_n 0, 1) := by decide +kernel
theorem dX8_goIn_91 : decode cX8_goIn 91 = .ok (.aload_n 0, 1) := by decide +kernel
theorem dX8_goIn_92 : decode cX8_goIn 92 = .ok (.iload 7, 2) := by decide +kernel
theorem dX8_goIn_94 : decode cX8_goIn 94 = .ok (.iload 6, 2) := by decide +kernel
theorem dX8_goIn_96 : decode cX8_goIn 96 = .ok (.invokevirtual 265, 3) := by decide +kernel
theorem dX8_goIn_99 : decode cX8_goIn 99 = .ok (.putfield 256, 3) := by decide +kernel
theorem dX8_goIn_102 : decode cX8_goIn 102 = .ok (.iload 6, 2) := by decide +kernel
theorem dX8_goIn_104 : decode cX8_goIn 104 = .ok (.istore 5, 2) := by decide +kernel
theorem dX8_goIn_106 : decode cX8_goIn 106 = .ok (.goto (-90), 3) := by decide +kernel
theorem dX8_goIn_109 : decode cX8_goIn 109 = .ok (.return_, 1) := by decide +kernel
theorem dX8_goWalk_0 : decode cX8_goWalk 0 = .ok (.iload_n 1, 1) := by decide +kernel
theorem dX8_goWalk_1 : decode cX8_goWalk 1 = .ok (.invokestatic 244, 3) := by decide +kernel
theorem dX8_goWalk_4 : decode cX8_goWalk 4 = .ok (.ifCond .ne 5, 3) := by decide +kernel
theorem dX8_goWalk_7 : decode cX8_goWalk 7 = .ok (.iconst 0, 1) := by decide +kernel
theorem dX8_goWalk_8 : decode cX8_goWalk 8 = .ok (.ireturn, 1) := by decide +kernel
theorem dX8_goWalk_9 : decode cX8_goWalk 9 = .ok (.aload_n 0, 1) := by decide +kernel
theorem dX8_goWalk_10 : decode cX8_goWalk 10 = .ok (.iload_n 1, 1) := by decide +kernel
theorem dX8_goWalk_11 : decode cX8_goWalk 11 = .ok (.invokevirtual 247, 3) := by decide +kernel
theorem dX8_goWalk_14 : decode cX8_goWalk 14 = .ok (.iload_n 2, 1) := by decide +kernel
theorem dX8_goWalk_15 : decode cX8_goWalk 15 = .ok (.iconst 0, 1) := by decide +kernel
theorem dX8_goWalk_16 : decode cX8_goWalk 16 = .ok (.aload_n 0, 1) := by decide +kernel
theorem dX8_goWalk_17 : decode cX8_goWalk 17 = .ok (.getfield 241, 3) := by decide +kernel
theorem dX8_goWalk_20 : decode cX8_goWalk 20 = .ok (.iconst 1, 1) := by decide +kernel
theorem dX8_goWalk_21 : decode cX8_goWalk 21 = .ok (.isub, 1) := by decide +kernel
theorem dX8_goWalk_22 : decode cX8_goWalk 22 = .ok (.invokestatic 72, 3) := by decide +kernel
theorem dX8_goWalk_25 : decode cX8_goWalk 25 = .ok (.ifCond .ne 5, 3) := by decide +kernel
theorem dX8_goWalk_28 : decode cX8_goWalk 28 = .ok (.iconst 0, 1) := by decide +kernel
theorem dX8_goWalk_29 : decode cX8_goWalk 29 = .ok (.ireturn, 1) := by decide +kernel
theorem dX8_goWalk_30 : decode cX8_goWalk 30 = .ok (.aload_n 0, 1) := by decide +kernel
theorem dX8_goWalk_31 : decode cX8_goWalk 31 = .ok (.aload_n 0, 1) := by decide +kernel
theorem dX8_goWalk_32 : decode cX8_goWalk 32 = .ok (.getfield 24, 3) := by decide +kernel
theorem dX8_goWalk_35 : decode cX8_goWalk 35 = .ok (.iload_n 2, 1) := by decide +kernel
theorem dX8_goWalk_36 : decode cX8_goWalk 36 = .ok (.iaload, 1) := by decide +kernel
theorem dX8_goWalk_37 : decode cX8_goWalk 37 = .ok (.aload_n 0, 1) := by decide +kernel
theorem dX8_goWalk_38 : decode cX8_goWalk 38 = .ok (.getfield 27, 3) := by decide +kernel
theorem dX8_goWalk_41 : decode cX8_goWalk 41 = .ok (.iload_n 2, 1) := by decide +kernel
theorem dX8_goWalk_42 : decode cX8_goWalk 42 = .ok (.iaload, 1) := by decide +kernel
theorem dX8_goWalk_43 : decode cX8_goWalk 43 = .ok (.iload_n 1, 1) := by decide +kernel
theorem dX8_goWalk_44 : decode cX8_goWalk 44 = .ok (.invokevirtual 268, 3) := by decide +kernel
theorem dX8_goWalk_47 : decode cX8_goWalk 47 = .ok (.iconst 1, 1) := by decide +kernel
theorem dX8_goWalk_48 : decode cX8_goWalk 48 = .ok (.ireturn, 1) := by decide +kernel
theorem dX8_walk_0 : decode cX8_walk 0 = .ok (.aload_n 0, 1) := by decide +kernel
theorem dX8_walk_1 : decode cX8_walk 1 = .ok (.iconst 0, 1) := by decide +kernel
theorem dX8_walk_2 : decode cX8_walk 2 = .ok (.putfield 61, 3) := by decide +kernel
theorem dX8_walk_5 : decode cX8_walk 5 = .ok (.aload_n 0, 1) := by decide +kernel
theorem dX8_walk_6 : decode cX8_walk 6 = .ok (.iload_n 1, 1) := by decide +kernel
theorem dX8_walk_7 : decode cX8_walk 7 = .ok (.iload_n 2, 1) := by decide +kernel
theorem dX8_walk_8 : decode cX8_walk 8 = .ok (.invokevirtual 272, 3) := by decide +kernel
theorem dX8_walk_11 : decode cX8_walk 11 = .ok (.ifCond .ne 5, 3) := by decide +kernel
theorem dX8_walk_14 : decode cX8_walk 14 = .ok (.iconst (-1), 1) := by decide +kernel
theorem dX8_walk_15 : decode cX8_walk 15 = .ok (.ireturn, 1) := by decide +kernel
theorem dX8_walk_16 : decode cX8_walk 16 = .ok (.aload_n 0, 1) := by decide +kernel
theorem dX8_walk_17 : decode cX8_walk 17 = .ok (.iconst 0, 1) := by decide +kernel
theorem dX8_walk_18 : decode cX8_walk 18 = .ok (.putfield 65, 3) := by decide +kernel
theorem dX8_walk_21 : decode cX8_walk 21 = .ok (.aload_n 0, 1) := by decide +kernel
theorem dX8_walk_22 : decode cX8_walk 22 = .ok (.aload_n 0, 1) := by decide +kernel
theorem dX8_walk_23 : decode cX8_walk 23 = .ok (.getfield 30, 3) := by decide +kernel
theorem dX8_walk_26 : decode cX8_walk 26 = .ok (.aload_n 0, 1) := by decide +kernel
theorem dX8_walk_27 : decode cX8_walk 27 = .ok (.getfield 253, 3) := by decide +kernel
theorem dX8_walk_30 : decode cX8_walk 30 = .ok (.iconst 1, 1) := by decide +kernel
theorem dX8_walk_31 : decode cX8_walk 31 = .ok (.isub, 1) := by decide +kernel
theorem dX8_walk_32 : decode cX8_walk 32 = .ok (.iaload, 1) := by decide +kernel
theorem dX8_walk_33 : decode cX8_walk 33 = .ok (.i2l, 1) := by decide +kernel
theorem dX8_walk_34 : decode cX8_walk 34 = .ok (.invokevirtual 182, 3) := by decide +kernel
theorem dX8_walk_37 : decode cX8_walk 37 = .ok (.aload_n 0, 1) := by decide +kernel
theorem dX8_walk_38 : decode cX8_walk 38 = .ok (.aload_n 0, 1) := by decide +kernel
theorem dX8_walk_39 : decode cX8_walk 39 = .ok (.aload_n 0, 1) := by decide +kernel
theorem dX8_walk_40 : decode cX8_walk 40 = .ok (.getfield 30, 3) := by decide +kernel
theorem dX8_walk_43 : decode cX8_walk 43 = .ok (.aload_n 0, 1) := by decide +kernel
theorem dX8_walk_44 : decode cX8_walk 44 = .ok (.getfield 253, 3) := by decide +kernel
theorem dX8_walk_47 : decode cX8_walk 47 = .ok (.iconst 1, 1) := by decide +kernel
theorem dX8_walk_48 : decode cX8_walk 48 = .ok (.isub, 1) := by decide +kernel
theorem dX8_walk_49 : decode cX8_walk 49 = .ok (.iaload, 1) := by decide +kernel
theorem dX8_walk_50 : decode cX8_walk 50 = .ok (.invokevirtual 206, 3) := by decide +kernel
theorem dX8_walk_53 : decode cX8_walk 53 = .ok (.ifCond .eq 7, 3) := by decide +kernel
theorem dX8_walk_56 : decode cX8_walk 56 = .ok (.lconst 1, 1) := by decide +kernel
theorem dX8_walk_57 : decode cX8_walk 57 = .ok (.goto 4, 3) := by decide +kernel
theorem dX8_walk_60 : decode cX8_walk 60 = .ok (.lconst 0, 1) := by decide +kernel
theorem dX8_walk_61 : decode cX8_walk 61 = .ok (.invokevirtual 182, 3) := by decide +kernel
theorem dX8_walk_64 : decode cX8_walk 64 = .ok (.aload_n 0, 1) := by decide +kernel
theorem dX8_walk_65 : decode cX8_walk 65 = .ok (.aload_n 0, 1) := by decide +kernel
theorem dX8_walk_66 : decode cX8_walk 66 = .ok (.getfield 256, 3) := by decide +kernel
theorem dX8_walk_69 : decode cX8_walk 69 = .ok (.i2l, 1) := by decide +kernel
theorem dX8_walk_70 : decode cX8_walk 70 = .ok (.invokevirtual 182, 3) := by decide +kernel
theorem dX8_walk_73 : decode cX8_walk 73 = .ok (.aload_n 0, 1) := by decide +kernel
theorem dX8_walk_74 : decode cX8_walk 74 = .ok (.getfield 253, 3) := by decide +kernel
theorem dX8_walk_77 : decode cX8_walk 77 = .ok (.ireturn, 1) := by decide +kernel
theorem dX8_step_0 : decode cX8_step 0 = .ok (.aload_n 0, 1) := by decide +kernel
theorem dX8_step_1 : decode cX8_step 1 = .ok (.iconst 0, 1) := by decide +kernel
theorem dX8_step_2 : decode cX8_step 2 = .ok (.putfield 61, 3) := by decide +kernel
theorem dX8_step_5 : decode cX8_step 5 = .ok (.aload_n 0, 1) := by decide +kernel
theorem dX8_step_6 : decode cX8_step 6 = .ok (.iload_n 1, 1) := by decide +kernel
theorem dX8_step_7 : decode cX8_step 7 = .ok (.iload_n 2, 1) := by decide +kernel
theorem dX8_step_8 : decode cX8_step 8 = .ok (.invokevirtual 272, 3) := by decide +kernel
theorem dX8_step_11 : decode cX8_step 11 = .ok (.ifCond .eq 26, 3) := by decide +kernel
theorem dX8_step_14 : decode cX8_step 14 = .ok (.iload_n 3, 1) := by decide +kernel
theorem dX8_step_15 : decode cX8_step 15 = .ok (.iconst 0, 1) := by decide +kernel
theorem dX8_step_16 : decode cX8_step 16 = .ok (.aload_n 0, 1) := by decide +kernel
theorem dX8_step_17 : decode cX8_step 17 = .ok (.getfield 253, 3) := by decide +kernel
theorem dX8_step_20 : decode cX8_step 20 = .ok (.iconst 1, 1) := by decide +kernel
theorem dX8_step_21 : decode cX8_step 21 = .ok (.isub, 1) := by decide +kernel
theorem dX8_step_22 : decode cX8_step 22 = .ok (.invokestatic 72, 3) := by decide +kernel
theorem dX8_step_25 : decode cX8_step 25 = .ok (.ifCond .eq 12, 3) := by decide +kernel
theorem dX8_step_28 : decode cX8_step 28 = .ok (.aload_n 0, 1) := by decide +kernel
theorem dX8_step_29 : decode cX8_step 29 = .ok (.getfield 30, 3) := by decide +kernel
theorem dX8_step_32 : decode cX8_step 32 = .ok (.iload_n 3, 1) := by decide +kernel
theorem dX8_step_33 : decode cX8_step 33 = .ok (.iaload, 1) := by decide +kernel
theorem dX8_step_34 : decode cX8_step 34 = .ok (.goto 7, 3) := by decide +kernel
theorem dX8_step_37 : decode cX8_step 37 = .ok (.aload_n 0, 1) := by decide +kernel
theorem dX8_step_38 : decode cX8_step 38 = .ok (.invokevirtual 223, 3) := by decide +kernel
theorem dX8_step_41 : decode cX8_step 41 = .ok (.ireturn, 1) := by decide +kernel
theorem dX8_from_0 : decode cX8_from 0 = .ok (.aload_n 0, 1) := by decide +kernel
theorem dX8_from_1 : decode cX8_from 1 = .ok (.iconst 0, 1) := by decide +kernel
theorem dX8_from_2 : decode cX8_from 2 = .ok (.putfield 61, 3) := by decide +kernel
theorem dX8_from_5 : decode cX8_from 5 = .ok (.aload_n 0, 1) := by decide +kernel
theorem dX8_from_6 : decode cX8_from 6 = .ok (.iload_n 1, 1) := by decide +kernel
theorem dX8_from_7 : decode cX8_from 7 = .ok (.invokevirtual 213, 3) := by decide +kernel
theorem dX8_from_10 : decode cX8_from 10 = .ok (.ifCond .eq 10, 3) := by decide +kernel
theorem dX8_from_13 : decode cX8_from 13 = .ok (.iload_n 2, 1) := by decide +kernel
theorem dX8_from_14 : decode cX8_from 14 = .ok (.invokestatic 244, 3) := by decide +kernel
theorem dX8_from_17 : decode cX8_from 17 = .ok (.ifCond .ne 5, 3) := by decide +kernel
theorem dX8_from_20 : decode cX8_from 20 = .ok (.iconst (-1), 1) := by decide +kernel
theorem dX8_from_21 : decode cX8_from 21 = .ok (.ireturn, 1) := by decide +kernel
theorem dX8_from_22 : decode cX8_from 22 = .ok (.aload_n 0, 1) := by decide +kernel
theorem dX8_from_23 : decode cX8_from 23 = .ok (.iload_n 1, 1) := by decide +kernel
theorem dX8_from_24 : decode cX8_from 24 = .ok (.invokevirtual 206, 3) := by decide +kernel
theorem dX8_from_27 : decode cX8_from 27 = .ok (.ifCond .ne 6, 3) := by decide +kernel
theorem dX8_from_30 : decode cX8_from 30 = .ok (.bipush (-2), 2) := by decide +kernel
theorem dX8_from_32 : decode cX8_from 32 = .ok (.ireturn, 1) := by decide +kernel
theorem dX8_from_33 : decode cX8_from 33 = .ok (.aload_n 0, 1) := by decide +kernel
theorem dX8_from_34 : decode cX8_from 34 = .ok (.iload_n 2, 1) := by decide +kernel
theorem dX8_from_35 : decode cX8_from 35 = .ok (.invokevirtual 247, 3) := by decide +kernel
theorem dX8_from_38 : decode cX8_from 38 = .ok (.aload_n 0, 1) := by decide +kernel
theorem dX8_from_39 : decode cX8_from 39 = .ok (.iload_n 1, 1) := by decide +kernel
theorem dX8_from_40 : decode cX8_from 40 = .ok (.iconst (-1), 1) := by decide +kernel
theorem dX8_from_41 : decode cX8_from 41 = .ok (.iload_n 2, 1) := by decide +kernel
theorem dX8_from_42 : decode cX8_from 42 = .ok (.invokevirtual 259, 3) := by decide +kernel
theorem dX8_from_45 : decode cX8_from 45 = .ok (.istore_n 3, 1) := by decide +kernel
theorem dX8_from_46 : decode cX8_from 46 = .ok (.aload_n 0, 1) := by decide +kernel
theorem dX8_from_47 : decode cX8_from 47 = .ok (.iload_n 1, 1) := by decide +kernel
theorem dX8_from_48 : decode cX8_from 48 = .ok (.iload_n 3, 1) := by decide +kernel
theorem dX8_from_49 : decode cX8_from 49 = .ok (.invokevirtual 262, 3) := by decide +kernel
theorem dX8_from_52 : decode cX8_from 52 = .ok (.istore 4, 2) := by decide +kernel
theorem dX8_from_54 : decode cX8_from 54 = .ok (.aload_n 0, 1) := by decide +kernel
theorem dX8_from_55 : decode cX8_from 55 = .ok (.iconst 0, 1) := by decide +kernel
theorem dX8_from_56 : decode cX8_from 56 = .ok (.putfield 65, 3) := by decide +kernel
theorem dX8_from_59 : decode cX8_from 59 = .ok (.iload 4, 2) := by decide +kernel
theorem dX8_from_61 : decode cX8_from 61 = .ok (.iconst (-1), 1) := by decide +kernel
theorem dX8_from_62 : decode cX8_from 62 = .ok (.if_icmp .ne 22, 3) := by decide +kernel
theorem dX8_from_65 : decode cX8_from 65 = .ok (.aload_n 0, 1) := by decide +kernel
theorem dX8_from_66 : decode cX8_from 66 = .ok (.iload_n 1, 1) := by decide +kernel
theorem dX8_from_67 : decode cX8_from 67 = .ok (.i2l, 1) := by decide +kernel
theorem dX8_from_68 : decode cX8_from 68 = .ok (.invokevirtual 182, 3) := by decide +kernel
theorem dX8_from_71 : decode cX8_from 71 = .ok (.aload_n 0, 1) := by decide +kernel
theorem dX8_from_72 : decode cX8_from 72 = .ok (.aload_n 0, 1) := by decide +kernel
theorem dX8_from_73 : decode cX8_from 73 = .ok (.iload_n 1, 1) := by decide +kernel
theorem dX8_from_74 : decode cX8_from 74 = .ok (.iload_n 3, 1) := by decide +kernel
theorem dX8_from_75 : decode cX8_from 75 = .ok (.invokevirtual 265, 3) := by decide +kernel
theorem dX8_from_78 : decode cX8_from 78 = .ok (.i2l, 1) := by decide +kernel
theorem dX8_from_79 : decode cX8_from 79 = .ok (.invokevirtual 182, 3) := by decide +kernel
theorem dX8_from_82 : decode cX8_from 82 = .ok (.iconst 0, 1) := by decide +kernel
theorem dX8_from_83 : decode cX8_from 83 = .ok (.ireturn, 1) := by decide +kernel
theorem dX8_from_84 : decode cX8_from 84 = .ok (.aload_n 0, 1) := by decide +kernel
theorem dX8_from_85 : decode cX8_from 85 = .ok (.iload 4, 2) := by decide +kernel
theorem dX8_from_87 : decode cX8_from 87 = .ok (.iload_n 3, 1) := by decide +kernel
theorem dX8_from_88 : decode cX8_from 88 = .ok (.iload_n 2, 1) := by decide +kernel
theorem dX8_from_89 : decode cX8_from 89 = .ok (.invokevirtual 268, 3) := by decide +kernel
theorem dX8_from_92 : decode cX8_from 92 = .ok (.aload_n 0, 1) := by decide +kernel
theorem dX8_from_93 : decode cX8_from 93 = .ok (.aload_n 0, 1) := by decide +kernel
theorem dX8_from_94 : decode cX8_from 94 = .ok (.getfield 30, 3) := by decide +kernel
theorem dX8_from_97 : decode cX8_from 97 = .ok (.aload_n 0, 1) := by decide +kernel
theorem dX8_from_98 : decode cX8_from 98 = .ok (.getfield 253, 3) := by decide +kernel
theorem dX8_from_101 : decode cX8_from 101 = .ok (.iconst 1, 1) := by decide +kernel
theorem dX8_from_102 : decode cX8_from 102 = .ok (.isub, 1) := by decide +kernel
theorem dX8_from_103 : decode cX8_from 103 = .ok (.iaload, 1) := by decide +kernel
theorem dX8_from_104 : decode cX8_from 104 = .ok (.i2l, 1) := by decide +kernel
theorem dX8_from_105 : decode cX8_from 105 = .ok (.invokevirtual 182, 3) := by decide +kernel
theorem dX8_from_108 : decode cX8_from 108 = .ok (.aload_n 0, 1) := by decide +kernel
theorem dX8_from_109 : decode cX8_from 109 = .ok (.aload_n 0, 1) := by decide +kernel
theorem dX8_from_110 : decode cX8_from 110 = .ok (.getfield 256, 3) := by decide +kernel
theorem dX8_from_113 : decode cX8_from 113 = .ok (.i2l, 1) := by decide +kernel
theorem dX8_from_114 : decode cX8_from 114 = .ok (.invokevirtual 182, 3) := by decide +kernel
theorem dX8_from_117 : decode cX8_from 117 = .ok (.aload_n 0, 1) := by decide +kernel
theorem dX8_from_118 : decode cX8_from 118 = .ok (.getfield 253, 3) := by decide +kernel
theorem dX8_from_121 : decode cX8_from 121 = .ok (.ireturn, 1) := by decide +kernel
theorem dX8_layWalks_0 : decode cX8_layWalks 0 = .ok (.aload_n 0, 1) := by decide +kernel
theorem dX8_layWalks_1 : decode cX8_layWalks 1 = .ok (.iload_n 1, 1) := by decide +kernel
theorem dX8_layWalks_2 : decode cX8_layWalks 2 = .ok (.invokevirtual 247, 3) := by decide +kernel
theorem dX8_layWalks_5 : decode cX8_layWalks 5 = .ok (.aload_n 0, 1) := by decide +kernel
theorem dX8_layWalks_6 : decode cX8_layWalks 6 = .ok (.getfield 241, 3) := by decide +kernel
theorem dX8_layWalks_9 : decode cX8_layWalks 9 = .ok (.istore_n 2, 1) := by decide +kernel
theorem dX8_layWalks_10 : decode cX8_layWalks 10 = .ok (.iconst 0, 1) := by decide +kernel
theorem dX8_layWalks_11 : decode cX8_layWalks 11 = .ok (.istore_n 3, 1) := by decide +kernel
theorem dX8_layWalks_12 : decode cX8_layWalks 12 = .ok (.iload_n 3, 1) := by decide +kernel
theorem dX8_layWalks_13 : decode cX8_layWalks 13 = .ok (.iload_n 2, 1) := by decide +kernel
theorem dX8_layWalks_14 : decode cX8_layWalks 14 = .ok (.if_icmp .ge 62, 3) := by decide +kernel
theorem dX8_layWalks_17 : decode cX8_layWalks 17 = .ok (.aload_n 0, 1) := by decide +kernel
theorem dX8_layWalks_18 : decode cX8_layWalks 18 = .ok (.aload_n 0, 1) := by decide +kernel
theorem dX8_layWalks_19 : decode cX8_layWalks 19 = .ok (.getfield 24, 3) := by decide +kernel
theorem dX8_layWalks_22 : decode cX8_layWalks 22 = .ok (.iload_n 3, 1) := by decide +kernel
theorem dX8_layWalks_23 : decode cX8_layWalks 23 = .ok (.iaload, 1) := by decide +kernel
theorem dX8_layWalks_24 : decode cX8_layWalks 24 = .ok (.aload_n 0, 1) := by decide +kernel
theorem dX8_layWalks_25 : decode cX8_layWalks 25 = .ok (.getfield 27, 3) := by decide +kernel
theorem dX8_layWalks_28 : decode cX8_layWalks 28 = .ok (.iload_n 3, 1) := by decide +kernel
theorem dX8_layWalks_29 : decode cX8_layWalks 29 = .ok (.iaload, 1) := by decide +kernel
theorem dX8_layWalks_30 : decode cX8_layWalks 30 = .ok (.iload_n 1, 1) := by decide +kernel
theorem dX8_layWalks_31 : decode cX8_layWalks 31 = .ok (.invokevirtual 268, 3) := by decide +kernel
theorem dX8_layWalks_34 : decode cX8_layWalks 34 = .ok (.iconst 0, 1) := by decide +kernel
theorem dX8_layWalks_35 : decode cX8_layWalks 35 = .ok (.istore 4, 2) := by decide +kernel
theorem dX8_layWalks_37 : decode cX8_layWalks 37 = .ok (.iload 4, 2) := by decide +kernel
theorem dX8_layWalks_39 : decode cX8_layWalks 39 = .ok (.aload_n 0, 1) := by decide +kernel
theorem dX8_layWalks_40 : decode cX8_layWalks 40 = .ok (.getfield 253, 3) := by decide +kernel
theorem dX8_layWalks_43 : decode cX8_layWalks 43 = .ok (.if_icmp .ge 27, 3) := by decide +kernel
theorem dX8_layWalks_46 : decode cX8_layWalks 46 = .ok (.aload_n 0, 1) := by decide +kernel
theorem dX8_layWalks_47 : decode cX8_layWalks 47 = .ok (.getfield 33, 3) := by decide +kernel
theorem dX8_layWalks_50 : decode cX8_layWalks 50 = .ok (.aload_n 0, 1) := by decide +kernel
theorem dX8_layWalks_51 : decode cX8_layWalks 51 = .ok (.getfield 30, 3) := by decide +kernel
theorem dX8_layWalks_54 : decode cX8_layWalks 54 = .ok (.iload 4, 2) := by decide +kernel
theorem dX8_layWalks_56 : decode cX8_layWalks 56 = .ok (.iaload, 1) := by decide +kernel
theorem dX8_layWalks_57 : decode cX8_layWalks 57 = .ok (.dup2, 1) := by decide +kernel
theorem dX8_layWalks_58 : decode cX8_layWalks 58 = .ok (.iaload, 1) := by decide +kernel
theorem dX8_layWalks_59 : decode cX8_layWalks 59 = .ok (.iconst 1, 1) := by decide +kernel
theorem dX8_layWalks_60 : decode cX8_layWalks 60 = .ok (.iload_n 1, 1) := by decide +kernel
theorem dX8_layWalks_61 : decode cX8_layWalks 61 = .ok (.ishl, 1) := by decide +kernel
theorem dX8_layWalks_62 : decode cX8_layWalks 62 = .ok (.ior, 1) := by decide +kernel
theorem dX8_layWalks_63 : decode cX8_layWalks 63 = .ok (.iastore, 1) := by decide +kernel
theorem dX8_layWalks_64 : decode cX8_layWalks 64 = .ok (.iinc 4 1, 3) := by decide +kernel
theorem dX8_layWalks_67 : decode cX8_layWalks 67 = .ok (.goto (-30), 3) := by decide +kernel
theorem dX8_layWalks_70 : decode cX8_layWalks 70 = .ok (.iinc 3 1, 3) := by decide +kernel
theorem dX8_layWalks_73 : decode cX8_layWalks 73 = .ok (.goto (-61), 3) := by decide +kernel
theorem dX8_layWalks_76 : decode cX8_layWalks 76 = .ok (.return_, 1) := by decide +kernel
theorem dX8_clearWalks_0 : decode cX8_clearWalks 0 = .ok (.iconst 0, 1) := by decide +kernel
theorem dX8_clearWalks_1 : decode cX8_clearWalks 1 = .ok (.istore_n 1, 1) := by decide +kernel
theorem dX8_clearWalks_2 : decode cX8_clearWalks 2 = .ok (.iload_n 1, 1) := by decide +kernel
theorem dX8_clearWalks_3 : decode cX8_clearWalks 3 = .ok (.sipush 512, 3) := by decide +kernel
theorem dX8_clearWalks_6 : decode cX8_clearWalks 6 = .ok (.if_icmp .ge 16, 3) := by decide +kernel
theorem dX8_clearWalks_9 : decode cX8_clearWalks 9 = .ok (.aload_n 0, 1) := by decide +kernel
theorem dX8_clearWalks_10 : decode cX8_clearWalks 10 = .ok (.getfield 33, 3) := by decide +kernel
theorem dX8_clearWalks_13 : decode cX8_clearWalks 13 = .ok (.iload_n 1, 1) := by decide +kernel
theorem dX8_clearWalks_14 : decode cX8_clearWalks 14 = .ok (.iconst 0, 1) := by decide +kernel
theorem dX8_clearWalks_15 : decode cX8_clearWalks 15 = .ok (.iastore, 1) := by decide +kernel
theorem dX8_clearWalks_16 : decode cX8_clearWalks 16 = .ok (.iinc 1 1, 3) := by decide +kernel
theorem dX8_clearWalks_19 : decode cX8_clearWalks 19 = .ok (.goto (-17), 3) := by decide +kernel
theorem dX8_clearWalks_22 : decode cX8_clearWalks 22 = .ok (.return_, 1) := by decide +kernel
theorem dX8_hidden_0 : decode cX8_hidden 0 = .ok (.aload_n 0, 1) := by decide +kernel
theorem dX8_hidden_1 : decode cX8_hidden 1 = .ok (.iconst 0, 1) := by decide +kernel
theorem dX8_hidden_2 : decode cX8_hidden 2 = .ok (.putfield 61, 3) := by decide +kernel
theorem dX8_hidden_5 : decode cX8_hidden 5 = .ok (.iload_n 1, 1) := by decide +kernel
theorem dX8_hidden_6 : decode cX8_hidden 6 = .ok (.invokestatic 244, 3) := by decide +kernel
theorem dX8_hidden_9 : decode cX8_hidden 9 = .ok (.ifCond .ne 5, 3) := by decide +kernel
theorem dX8_hidden_12 : decode cX8_hidden 12 = .ok (.iconst (-1), 1) := by decide +kernel
theorem dX8_hidden_13 : decode cX8_hidden 13 = .ok (.ireturn, 1) := by decide +kernel
theorem dX8_hidden_14 : decode cX8_hidden 14 = .ok (.aload_n 0, 1) := by decide +kernel
theorem dX8_hidden_15 : decode cX8_hidden 15 = .ok (.invokevirtual 275, 3) := by decide +kernel
theorem dX8_hidden_18 : decode cX8_hidden 18 = .ok (.aload_n 0, 1) := by decide +kernel
theorem dX8_hidden_19 : decode cX8_hidden 19 = .ok (.iload_n 1, 1) := by decide +kernel
theorem dX8_hidden_20 : decode cX8_hidden 20 = .ok (.invokevirtual 278, 3) := by decide +kernel
theorem dX8_hidden_23 : decode cX8_hidden 23 = .ok (.iconst 0, 1) := by decide +kernel
theorem dX8_hidden_24 : decode cX8_hidden 24 = .ok (.istore_n 2, 1) := by decide +kernel
theorem dX8_hidden_25 : decode cX8_hidden 25 = .ok (.iconst (-1), 1) := by decide +kernel
theorem dX8_hidden_26 : decode cX8_hidden 26 = .ok (.istore_n 3, 1) := by decide +kernel
theorem dX8_hidden_27 : decode cX8_hidden 27 = .ok (.aload_n 0, 1) := by decide +kernel
theorem dX8_hidden_28 : decode cX8_hidden 28 = .ok (.invokevirtual 210, 3) := by decide +kernel
theorem dX8_hidden_31 : decode cX8_hidden 31 = .ok (.iconst 1, 1) := by decide +kernel
theorem dX8_hidden_32 : decode cX8_hidden 32 = .ok (.isub, 1) := by decide +kernel
theorem dX8_hidden_33 : decode cX8_hidden 33 = .ok (.istore 4, 2) := by decide +kernel
theorem dX8_hidden_35 : decode cX8_hidden 35 = .ok (.iload 4, 2) := by decide +kernel
theorem dX8_hidden_37 : decode cX8_hidden 37 = .ok (.ifCond .lt 46, 3) := by decide +kernel
theorem dX8_hidden_40 : decode cX8_hidden 40 = .ok (.aload_n 0, 1) := by decide +kernel
theorem dX8_hidden_41 : decode cX8_hidden 41 = .ok (.iload 4, 2) := by decide +kernel
theorem dX8_hidden_43 : decode cX8_hidden 43 = .ok (.invokevirtual 213, 3) := by decide +kernel
theorem dX8_hidden_46 : decode cX8_hidden 46 = .ok (.ifCond .eq 31, 3) := by decide +kernel
theorem dX8_hidden_49 : decode cX8_hidden 49 = .ok (.aload_n 0, 1) := by decide +kernel
theorem dX8_hidden_50 : decode cX8_hidden 50 = .ok (.iload 4, 2) := by decide +kernel
theorem dX8_hidden_52 : decode cX8_hidden 52 = .ok (.invokevirtual 206, 3) := by decide +kernel
theorem dX8_hidden_55 : decode cX8_hidden 55 = .ok (.ifCond .eq 22, 3) := by decide +kernel
theorem dX8_hidden_58 : decode cX8_hidden 58 = .ok (.aload_n 0, 1) := by decide +kernel
theorem dX8_hidden_59 : decode cX8_hidden 59 = .ok (.getfield 33, 3) := by decide +kernel
theorem dX8_hidden_62 : decode cX8_hidden 62 = .ok (.iload 4, 2) := by decide +kernel
theorem dX8_hidden_64 : decode cX8_hidden 64 = .ok (.iaload, 1) := by decide +kernel
theorem dX8_hidden_65 : decode cX8_hidden 65 = .ok (.ifCond .eq 6, 3) := by decide +kernel
theorem dX8_hidden_68 : decode cX8_hidden 68 = .ok (.goto 9, 3) := by decide +kernel
theorem dX8_hidden_71 : decode cX8_hidden 71 = .ok (.iinc 2 1, 3) := by decide +kernel
theorem dX8_hidden_74 : decode cX8_hidden 74 = .ok (.iload 4, 2) := by decide +kernel
theorem dX8_hidden_76 : decode cX8_hidden 76 = .ok (.istore_n 3, 1) := by decide +kernel
theorem dX8_hidden_77 : decode cX8_hidden 77 = .ok (.iinc 4 (-1), 3) := by decide +kernel
theorem dX8_hidden_80 : decode cX8_hidden 80 = .ok (.goto (-45), 3) := by decide +kernel
theorem dX8_hidden_83 : decode cX8_hidden 83 = .ok (.aload_n 0, 1) := by decide +kernel
theorem dX8_hidden_84 : decode cX8_hidden 84 = .ok (.iconst 0, 1) := by decide +kernel
theorem dX8_hidden_85 : decode cX8_hidden 85 = .ok (.putfield 65, 3) := by decide +kernel
theorem dX8_hidden_88 : decode cX8_hidden 88 = .ok (.aload_n 0, 1) := by decide +kernel
theorem dX8_hidden_89 : decode cX8_hidden 89 = .ok (.iload_n 3, 1) := by decide +kernel
theorem dX8_hidden_90 : decode cX8_hidden 90 = .ok (.i2l, 1) := by decide +kernel
theorem dX8_hidden_91 : decode cX8_hidden 91 = .ok (.invokevirtual 182, 3) := by decide +kernel
theorem dX8_hidden_94 : decode cX8_hidden 94 = .ok (.iload_n 2, 1) := by decide +kernel
theorem dX8_hidden_95 : decode cX8_hidden 95 = .ok (.ireturn, 1) := by decide +kernel
theorem dX8_longest_0 : decode cX8_longest 0 = .ok (.aload_n 0, 1) := by decide +kernel
theorem dX8_longest_1 : decode cX8_longest 1 = .ok (.iconst 0, 1) := by decide +kernel
theorem dX8_longest_2 : decode cX8_longest 2 = .ok (.putfield 61, 3) := by decide +kernel
theorem dX8_longest_5 : decode cX8_longest 5 = .ok (.iload_n 1, 1) := by decide +kernel
theorem dX8_longest_6 : decode cX8_longest 6 = .ok (.invokestatic 244, 3) := by decide +kernel
theorem dX8_longest_9 : decode cX8_longest 9 = .ok (.ifCond .ne 5, 3) := by decide +kernel
theorem dX8_longest_12 : decode cX8_longest 12 = .ok (.iconst (-1), 1) := by decide +kernel
theorem dX8_longest_13 : decode cX8_longest 13 = .ok (.ireturn, 1) := by decide +kernel
theorem dX8_longest_14 : decode cX8_longest 14 = .ok (.aload_n 0, 1) := by decide +kernel
theorem dX8_longest_15 : decode cX8_longest 15 = .ok (.invokevirtual 275, 3) := by decide +kernel
theorem dX8_longest_18 : decode cX8_longest 18 = .ok (.aload_n 0, 1) := by decide +kernel
theorem dX8_longest_19 : decode cX8_longest 19 = .ok (.iload_n 1, 1) := by decide +kernel
theorem dX8_longest_20 : decode cX8_longest 20 = .ok (.invokevirtual 278, 3) := by decide +kernel
theorem dX8_longest_23 : decode cX8_longest 23 = .ok (.aload_n 0, 1) := by decide +kernel
theorem dX8_longest_24 : decode cX8_longest 24 = .ok (.getfield 241, 3) := by decide +kernel
theorem dX8_longest_27 : decode cX8_longest 27 = .ok (.ifCond .ne 6, 3) := by decide +kernel
theorem dX8_longest_30 : decode cX8_longest 30 = .ok (.bipush (-2), 2) := by decide +kernel
theorem dX8_longest_32 : decode cX8_longest 32 = .ok (.ireturn, 1) := by decide +kernel
theorem dX8_longest_33 : decode cX8_longest 33 = .ok (.iconst (-1), 1) := by decide +kernel
theorem dX8_longest_34 : decode cX8_longest 34 = .ok (.istore_n 2, 1) := by decide +kernel
theorem dX8_longest_35 : decode cX8_longest 35 = .ok (.iconst 0, 1) := by decide +kernel
theorem dX8_longest_36 : decode cX8_longest 36 = .ok (.istore_n 3, 1) := by decide +kernel
theorem dX8_longest_37 : decode cX8_longest 37 = .ok (.iconst 0, 1) := by decide +kernel
theorem dX8_longest_38 : decode cX8_longest 38 = .ok (.istore 4, 2) := by decide +kernel
theorem dX8_longest_40 : decode cX8_longest 40 = .ok (.iload 4, 2) := by decide +kernel
theorem dX8_longest_42 : decode cX8_longest 42 = .ok (.aload_n 0, 1) := by decide +kernel
theorem dX8_longest_43 : decode cX8_longest 43 = .ok (.getfield 241, 3) := by decide +kernel
theorem dX8_longest_46 : decode cX8_longest 46 = .ok (.if_icmp .ge 47, 3) := by decide +kernel
theorem dX8_longest_49 : decode cX8_longest 49 = .ok (.aload_n 0, 1) := by decide +kernel
theorem dX8_longest_50 : decode cX8_longest 50 = .ok (.aload_n 0, 1) := by decide +kernel
theorem dX8_longest_51 : decode cX8_longest 51 = .ok (.getfield 24, 3) := by decide +kernel
theorem dX8_longest_54 : decode cX8_longest 54 = .ok (.iload 4, 2) := by decide +kernel
theorem dX8_longest_56 : decode cX8_longest 56 = .ok (.iaload, 1) := by decide +kernel
theorem dX8_longest_57 : decode cX8_longest 57 = .ok (.aload_n 0, 1) := by decide +kernel
theorem dX8_longest_58 : decode cX8_longest 58 = .ok (.getfield 27, 3) := by decide +kernel
theorem dX8_longest_61 : decode cX8_longest 61 = .ok (.iload 4, 2) := by decide +kernel
theorem dX8_longest_63 : decode cX8_longest 63 = .ok (.iaload, 1) := by decide +kernel
theorem dX8_longest_64 : decode cX8_longest 64 = .ok (.iload_n 1, 1) := by decide +kernel
theorem dX8_longest_65 : decode cX8_longest 65 = .ok (.invokevirtual 268, 3) := by decide +kernel
theorem dX8_longest_68 : decode cX8_longest 68 = .ok (.aload_n 0, 1) := by decide +kernel
theorem dX8_longest_69 : decode cX8_longest 69 = .ok (.getfield 253, 3) := by decide +kernel
theorem dX8_longest_72 : decode cX8_longest 72 = .ok (.iload_n 3, 1) := by decide +kernel
theorem dX8_longest_73 : decode cX8_longest 73 = .ok (.if_icmp .gt 6, 3) := by decide +kernel
theorem dX8_longest_76 : decode cX8_longest 76 = .ok (.goto 11, 3) := by decide +kernel
theorem dX8_longest_79 : decode cX8_longest 79 = .ok (.iload 4, 2) := by decide +kernel
theorem dX8_longest_81 : decode cX8_longest 81 = .ok (.istore_n 2, 1) := by decide +kernel
theorem dX8_longest_82 : decode cX8_longest 82 = .ok (.aload_n 0, 1) := by decide +kernel
theorem dX8_longest_83 : decode cX8_longest 83 = .ok (.getfield 253, 3) := by decide +kernel
theorem dX8_longest_86 : decode cX8_longest 86 = .ok (.istore_n 3, 1) := by decide +kernel
theorem dX8_longest_87 : decode cX8_longest 87 = .ok (.iinc 4 1, 3) := by decide +kernel
theorem dX8_longest_90 : decode cX8_longest 90 = .ok (.goto (-50), 3) := by decide +kernel
theorem dX8_longest_93 : decode cX8_longest 93 = .ok (.iconst 0, 1) := by decide +kernel
theorem dX8_longest_94 : decode cX8_longest 94 = .ok (.istore 4, 2) := by decide +kernel
theorem dX8_longest_96 : decode cX8_longest 96 = .ok (.iconst 0, 1) := by decide +kernel
theorem dX8_longest_97 : decode cX8_longest 97 = .ok (.istore 5, 2) := by decide +kernel
theorem dX8_longest_99 : decode cX8_longest 99 = .ok (.iload 5, 2) := by decide +kernel
theorem dX8_longest_101 : decode cX8_longest 101 = .ok (.aload_n 0, 1) := by decide +kernel
theorem dX8_longest_102 : decode cX8_longest 102 = .ok (.invokevirtual 210, 3) := by decide +kernel
theorem dX8_longest_105 : decode cX8_longest 105 = .ok (.if_icmp .ge 38, 3) := by decide +kernel
theorem dX8_longest_108 : decode cX8_longest 108 = .ok (.iload 4, 2) := by decide +kernel
theorem dX8_longest_110 : decode cX8_longest 110 = .ok (.aload_n 0, 1) := by decide +kernel
theorem dX8_longest_111 : decode cX8_longest 111 = .ok (.iload 5, 2) := by decide +kernel
theorem dX8_longest_113 : decode cX8_longest 113 = .ok (.invokevirtual 213, 3) := by decide +kernel
theorem dX8_longest_116 : decode cX8_longest 116 = .ok (.ifCond .eq 17, 3) := by decide +kernel
theorem dX8_longest_119 : decode cX8_longest 119 = .ok (.aload_n 0, 1) := by decide +kernel
theorem dX8_longest_120 : decode cX8_longest 120 = .ok (.getfield 33, 3) := by decide +kernel
theorem dX8_longest_123 : decode cX8_longest 123 = .ok (.iload 5, 2) := by decide +kernel
theorem dX8_longest_125 : decode cX8_longest 125 = .ok (.iaload, 1) := by decide +kernel
theorem dX8_longest_126 : decode cX8_longest 126 = .ok (.ifCond .ne 7, 3) := by decide +kernel
theorem dX8_longest_129 : decode cX8_longest 129 = .ok (.iconst 1, 1) := by decide +kernel
theorem dX8_longest_130 : decode cX8_longest 130 = .ok (.goto 4, 3) := by decide +kernel
theorem dX8_longest_133 : decode cX8_longest 133 = .ok (.iconst 0, 1) := by decide +kernel
theorem dX8_longest_134 : decode cX8_longest 134 = .ok (.iadd, 1) := by decide +kernel
theorem dX8_longest_135 : decode cX8_longest 135 = .ok (.istore 4, 2) := by decide +kernel
theorem dX8_longest_137 : decode cX8_longest 137 = .ok (.iinc 5 1, 3) := by decide +kernel
theorem dX8_longest_140 : decode cX8_longest 140 = .ok (.goto (-41), 3) := by decide +kernel
theorem dX8_longest_143 : decode cX8_longest 143 = .ok (.aload_n 0, 1) := by decide +kernel
theorem dX8_longest_144 : decode cX8_longest 144 = .ok (.iconst 0, 1) := by decide +kernel
theorem dX8_longest_145 : decode cX8_longest 145 = .ok (.putfield 65, 3) := by decide +kernel
theorem dX8_longest_148 : decode cX8_longest 148 = .ok (.aload_n 0, 1) := by decide +kernel
theorem dX8_longest_149 : decode cX8_longest 149 = .ok (.iload_n 3, 1) := by decide +kernel
theorem dX8_longest_150 : decode cX8_longest 150 = .ok (.i2l, 1) := by decide +kernel
theorem dX8_longest_151 : decode cX8_longest 151 = .ok (.invokevirtual 182, 3) := by decide +kernel
theorem dX8_longest_154 : decode cX8_longest 154 = .ok (.aload_n 0, 1) := by decide +kernel
theorem dX8_longest_155 : decode cX8_longest 155 = .ok (.iload 4, 2) := by decide +kernel
theorem dX8_longest_157 : decode cX8_longest 157 = .ok (.i2l, 1) := by decide +kernel
theorem dX8_longest_158 : decode cX8_longest 158 = .ok (.invokevirtual 182, 3) := by decide +kernel
theorem dX8_longest_161 : decode cX8_longest 161 = .ok (.iload_n 2, 1) := by decide +kernel
theorem dX8_longest_162 : decode cX8_longest 162 = .ok (.ireturn, 1) := by decide +kernel
theorem dX8_crossed_0 : decode cX8_crossed 0 = .ok (.aload_n 0, 1) := by decide +kernel
theorem dX8_crossed_1 : decode cX8_crossed 1 = .ok (.iconst 0, 1) := by decide +kernel
theorem dX8_crossed_2 : decode cX8_crossed 2 = .ok (.putfield 61, 3) := by decide +kernel
theorem dX8_crossed_5 : decode cX8_crossed 5 = .ok (.aload_n 0, 1) := by decide +kernel
theorem dX8_crossed_6 : decode cX8_crossed 6 = .ok (.invokevirtual 275, 3) := by decide +kernel
theorem dX8_crossed_9 : decode cX8_crossed 9 = .ok (.iconst 0, 1) := by decide +kernel
theorem dX8_crossed_10 : decode cX8_crossed 10 = .ok (.istore_n 1, 1) := by decide +kernel
theorem dX8_crossed_11 : decode cX8_crossed 11 = .ok (.iload_n 1, 1) := by decide +kernel
theorem dX8_crossed_12 : decode cX8_crossed 12 = .ok (.iconst 3, 1) := by decide +kernel
theorem dX8_crossed_13 : decode cX8_crossed 13 = .ok (.if_icmp .ge 14, 3) := by decide +kernel
theorem dX8_crossed_16 : decode cX8_crossed 16 = .ok (.aload_n 0, 1) := by decide +kernel
theorem dX8_crossed_17 : decode cX8_crossed 17 = .ok (.iload_n 1, 1) := by decide +kernel
theorem dX8_crossed_18 : decode cX8_crossed 18 = .ok (.invokevirtual 278, 3) := by decide +kernel
theorem dX8_crossed_21 : decode cX8_crossed 21 = .ok (.iinc 1 1, 3) := by decide +kernel
theorem dX8_crossed_24 : decode cX8_crossed 24 = .ok (.goto (-13), 3) := by decide +kernel
theorem dX8_crossed_27 : decode cX8_crossed 27 = .ok (.iconst 0, 1) := by decide +kernel
theorem dX8_crossed_28 : decode cX8_crossed 28 = .ok (.istore_n 1, 1) := by decide +kernel
theorem dX8_crossed_29 : decode cX8_crossed 29 = .ok (.iconst 0, 1) := by decide +kernel
theorem dX8_crossed_30 : decode cX8_crossed 30 = .ok (.istore_n 2, 1) := by decide +kernel
theorem dX8_crossed_31 : decode cX8_crossed 31 = .ok (.iconst 0, 1) := by decide +kernel
theorem dX8_crossed_32 : decode cX8_crossed 32 = .ok (.istore_n 3, 1) := by decide +kernel
theorem dX8_crossed_33 : decode cX8_crossed 33 = .ok (.iload_n 3, 1) := by decide +kernel
theorem dX8_crossed_34 : decode cX8_crossed 34 = .ok (.aload_n 0, 1) := by decide +kernel
theorem dX8_crossed_35 : decode cX8_crossed 35 = .ok (.invokevirtual 210, 3) := by decide +kernel
theorem dX8_crossed_38 : decode cX8_crossed 38 = .ok (.if_icmp .ge 50, 3) := by decide +kernel
theorem dX8_crossed_41 : decode cX8_crossed 41 = .ok (.aload_n 0, 1) := by decide +kernel
theorem dX8_crossed_42 : decode cX8_crossed 42 = .ok (.iload_n 3, 1) := by decide +kernel
theorem dX8_crossed_43 : decode cX8_crossed 43 = .ok (.invokevirtual 213, 3) := by decide +kernel
theorem dX8_crossed_46 : decode cX8_crossed 46 = .ok (.ifCond .eq 36, 3) := by decide +kernel
theorem dX8_crossed_49 : decode cX8_crossed 49 = .ok (.aload_n 0, 1) := by decide +kernel
theorem dX8_crossed_50 : decode cX8_crossed 50 = .ok (.getfield 33, 3) := by decide +kernel
theorem dX8_crossed_53 : decode cX8_crossed 53 = .ok (.iload_n 3, 1) := by decide +kernel
theorem dX8_crossed_54 : decode cX8_crossed 54 = .ok (.iaload, 1) := by decide +kernel
theorem dX8_crossed_55 : decode cX8_crossed 55 = .ok (.bipush 7, 2) := by decide +kernel
theorem dX8_crossed_57 : decode cX8_crossed 57 = .ok (.if_icmp .eq 6, 3) := by decide +kernel
theorem dX8_crossed_60 : decode cX8_crossed 60 = .ok (.goto 22, 3) := by decide +kernel
theorem dX8_crossed_63 : decode cX8_crossed 63 = .ok (.iinc 1 1, 3) := by decide +kernel
theorem dX8_crossed_66 : decode cX8_crossed 66 = .ok (.iload_n 2, 1) := by decide +kernel
theorem dX8_crossed_67 : decode cX8_crossed 67 = .ok (.aload_n 0, 1) := by decide +kernel
theorem dX8_crossed_68 : decode cX8_crossed 68 = .ok (.iload_n 3, 1) := by decide +kernel
theorem dX8_crossed_69 : decode cX8_crossed 69 = .ok (.invokevirtual 206, 3) := by decide +kernel
theorem dX8_crossed_72 : decode cX8_crossed 72 = .ok (.ifCond .eq 7, 3) := by decide +kernel
theorem dX8_crossed_75 : decode cX8_crossed 75 = .ok (.iconst 1, 1) := by decide +kernel
theorem dX8_crossed_76 : decode cX8_crossed 76 = .ok (.goto 4, 3) := by decide +kernel
theorem dX8_crossed_79 : decode cX8_crossed 79 = .ok (.iconst 0, 1) := by decide +kernel
theorem dX8_crossed_80 : decode cX8_crossed 80 = .ok (.iadd, 1) := by decide +kernel
theorem dX8_crossed_81 : decode cX8_crossed 81 = .ok (.istore_n 2, 1) := by decide +kernel
theorem dX8_crossed_82 : decode cX8_crossed 82 = .ok (.iinc 3 1, 3) := by decide +kernel
theorem dX8_crossed_85 : decode cX8_crossed 85 = .ok (.goto (-52), 3) := by decide +kernel
theorem dX8_crossed_88 : decode cX8_crossed 88 = .ok (.aload_n 0, 1) := by decide +kernel
theorem dX8_crossed_89 : decode cX8_crossed 89 = .ok (.iconst 0, 1) := by decide +kernel
theorem dX8_crossed_90 : decode cX8_crossed 90 = .ok (.putfield 65, 3) := by decide +kernel
theorem dX8_crossed_93 : decode cX8_crossed 93 = .ok (.aload_n 0, 1) := by decide +kernel
theorem dX8_crossed_94 : decode cX8_crossed 94 = .ok (.iload_n 2, 1) := by decide +kernel
theorem dX8_crossed_95 : decode cX8_crossed 95 = .ok (.i2l, 1) := by decide +kernel
theorem dX8_crossed_96 : decode cX8_crossed 96 = .ok (.invokevirtual 182, 3) := by decide +kernel
theorem dX8_crossed_99 : decode cX8_crossed 99 = .ok (.iload_n 1, 1) := by decide +kernel
theorem dX8_crossed_100 : decode cX8_crossed 100 = .ok (.ireturn, 1) := by decide +kernel
theorem dX8_leads_0 : decode cX8_leads 0 = .ok (.aload_n 0, 1) := by decide +kernel
theorem dX8_leads_1 : decode cX8_leads 1 = .ok (.iconst 0, 1) := by decide +kernel
theorem dX8_leads_2 : decode cX8_leads 2 = .ok (.putfield 61, 3) := by decide +kernel
theorem dX8_leads_5 : decode cX8_leads 5 = .ok (.aload_n 0, 1) := by decide +kernel
theorem dX8_leads_6 : decode cX8_leads 6 = .ok (.iload_n 1, 1) := by decide +kernel
theorem dX8_leads_7 : decode cX8_leads 7 = .ok (.invokevirtual 213, 3) := by decide +kernel
theorem dX8_leads_10 : decode cX8_leads 10 = .ok (.ifCond .eq 18, 3) := by decide +kernel
theorem dX8_leads_13 : decode cX8_leads 13 = .ok (.aload_n 0, 1) := by decide +kernel
theorem dX8_leads_14 : decode cX8_leads 14 = .ok (.iload_n 2, 1) := by decide +kernel
theorem dX8_leads_15 : decode cX8_leads 15 = .ok (.invokevirtual 213, 3) := by decide +kernel
theorem dX8_leads_18 : decode cX8_leads 18 = .ok (.ifCond .eq 10, 3) := by decide +kernel
theorem dX8_leads_21 : decode cX8_leads 21 = .ok (.iload_n 3, 1) := by decide +kernel
theorem dX8_leads_22 : decode cX8_leads 22 = .ok (.invokestatic 244, 3) := by decide +kernel
theorem dX8_leads_25 : decode cX8_leads 25 = .ok (.ifCond .ne 5, 3) := by decide +kernel
theorem dX8_leads_28 : decode cX8_leads 28 = .ok (.iconst (-1), 1) := by decide +kernel
theorem dX8_leads_29 : decode cX8_leads 29 = .ok (.ireturn, 1) := by decide +kernel
theorem dX8_leads_30 : decode cX8_leads 30 = .ok (.iconst 0, 1) := by decide +kernel
theorem dX8_leads_31 : decode cX8_leads 31 = .ok (.istore 4, 2) := by decide +kernel
theorem dX8_leads_33 : decode cX8_leads 33 = .ok (.iload 4, 2) := by decide +kernel
theorem dX8_leads_35 : decode cX8_leads 35 = .ok (.sipush 512, 3) := by decide +kernel
theorem dX8_leads_38 : decode cX8_leads 38 = .ok (.if_icmp .ge 17, 3) := by decide +kernel
theorem dX8_leads_41 : decode cX8_leads 41 = .ok (.aload_n 0, 1) := by decide +kernel
theorem dX8_leads_42 : decode cX8_leads 42 = .ok (.getfield 36, 3) := by decide +kernel
theorem dX8_leads_45 : decode cX8_leads 45 = .ok (.iload 4, 2) := by decide +kernel
theorem dX8_leads_47 : decode cX8_leads 47 = .ok (.iconst 0, 1) := by decide +kernel
theorem dX8_leads_48 : decode cX8_leads 48 = .ok (.iastore, 1) := by decide +kernel
theorem dX8_leads_49 : decode cX8_leads 49 = .ok (.iinc 4 1, 3) := by decide +kernel
theorem dX8_leads_52 : decode cX8_leads 52 = .ok (.goto (-19), 3) := by decide +kernel
theorem dX8_leads_55 : decode cX8_leads 55 = .ok (.aload_n 0, 1) := by decide +kernel
theorem dX8_leads_56 : decode cX8_leads 56 = .ok (.getfield 36, 3) := by decide +kernel
theorem dX8_leads_59 : decode cX8_leads 59 = .ok (.iload_n 1, 1) := by decide +kernel
theorem dX8_leads_60 : decode cX8_leads 60 = .ok (.iconst 1, 1) := by decide +kernel
theorem dX8_leads_61 : decode cX8_leads 61 = .ok (.iastore, 1) := by decide +kernel
theorem dX8_leads_62 : decode cX8_leads 62 = .ok (.iconst 1, 1) := by decide +kernel
theorem dX8_leads_63 : decode cX8_leads 63 = .ok (.istore 4, 2) := by decide +kernel
theorem dX8_leads_65 : decode cX8_leads 65 = .ok (.iload 4, 2) := by decide +kernel
theorem dX8_leads_67 : decode cX8_leads 67 = .ok (.aload_n 0, 1) := by decide +kernel
theorem dX8_leads_68 : decode cX8_leads 68 = .ok (.invokevirtual 210, 3) := by decide +kernel
theorem dX8_leads_71 : decode cX8_leads 71 = .ok (.if_icmp .gt 110, 3) := by decide +kernel
theorem dX8_leads_74 : decode cX8_leads 74 = .ok (.iconst 0, 1) := by decide +kernel
theorem dX8_leads_75 : decode cX8_leads 75 = .ok (.istore 5, 2) := by decide +kernel
theorem dX8_leads_77 : decode cX8_leads 77 = .ok (.iload 5, 2) := by decide +kernel
theorem dX8_leads_79 : decode cX8_leads 79 = .ok (.aload_n 0, 1) := by decide +kernel
theorem dX8_leads_80 : decode cX8_leads 80 = .ok (.invokevirtual 210, 3) := by decide +kernel
theorem dX8_leads_83 : decode cX8_leads 83 = .ok (.if_icmp .ge 92, 3) := by decide +kernel
theorem dX8_leads_86 : decode cX8_leads 86 = .ok (.aload_n 0, 1) := by decide +kernel
theorem dX8_leads_87 : decode cX8_leads 87 = .ok (.getfield 36, 3) := by decide +kernel
theorem dX8_leads_90 : decode cX8_leads 90 = .ok (.iload 5, 2) := by decide +kernel
theorem dX8_leads_92 : decode cX8_leads 92 = .ok (.iaload, 1) := by decide +kernel
theorem dX8_leads_93 : decode cX8_leads 93 = .ok (.iload 4, 2) := by decide +kernel
theorem dX8_leads_95 : decode cX8_leads 95 = .ok (.if_icmp .eq 6, 3) := by decide +kernel
theorem dX8_leads_98 : decode cX8_leads 98 = .ok (.goto 71, 3) := by decide +kernel
theorem dX8_leads_101 : decode cX8_leads 101 = .ok (.iconst 0, 1) := by decide +kernel
theorem dX8_leads_102 : decode cX8_leads 102 = .ok (.istore 6, 2) := by decide +kernel
theorem dX8_leads_104 : decode cX8_leads 104 = .ok (.iload 6, 2) := by decide +kernel
theorem dX8_leads_106 : decode cX8_leads 106 = .ok (.iconst 3, 1) := by decide +kernel
theorem dX8_leads_107 : decode cX8_leads 107 = .ok (.if_icmp .ge 62, 3) := by decide +kernel
theorem dX8_leads_110 : decode cX8_leads 110 = .ok (.aload_n 0, 1) := by decide +kernel
theorem dX8_leads_111 : decode cX8_leads 111 = .ok (.iload 5, 2) := by decide +kernel
theorem dX8_leads_113 : decode cX8_leads 113 = .ok (.iload 6, 2) := by decide +kernel
theorem dX8_leads_115 : decode cX8_leads 115 = .ok (.iload_n 3, 1) := by decide +kernel
theorem dX8_leads_116 : decode cX8_leads 116 = .ok (.invokevirtual 238, 3) := by decide +kernel
theorem dX8_leads_119 : decode cX8_leads 119 = .ok (.ifCond .eq 14, 3) := by decide +kernel
theorem dX8_leads_122 : decode cX8_leads 122 = .ok (.aload_n 0, 1) := by decide +kernel
theorem dX8_leads_123 : decode cX8_leads 123 = .ok (.iload 5, 2) := by decide +kernel
theorem dX8_leads_125 : decode cX8_leads 125 = .ok (.iload 6, 2) := by decide +kernel
theorem dX8_leads_127 : decode cX8_leads 127 = .ok (.invokevirtual 262, 3) := by decide +kernel
theorem dX8_leads_130 : decode cX8_leads 130 = .ok (.goto 4, 3) := by decide +kernel
theorem dX8_leads_133 : decode cX8_leads 133 = .ok (.iconst (-1), 1) := by decide +kernel
theorem dX8_leads_134 : decode cX8_leads 134 = .ok (.istore 7, 2) := by decide +kernel
theorem dX8_leads_136 : decode cX8_leads 136 = .ok (.iload 7, 2) := by decide +kernel
theorem dX8_leads_138 : decode cX8_leads 138 = .ok (.iconst (-1), 1) := by decide +kernel
theorem dX8_leads_139 : decode cX8_leads 139 = .ok (.if_icmp .eq 24, 3) := by decide +kernel
theorem dX8_leads_142 : decode cX8_leads 142 = .ok (.aload_n 0, 1) := by decide +kernel
theorem dX8_leads_143 : decode cX8_leads 143 = .ok (.getfield 36, 3) := by decide +kernel
theorem dX8_leads_146 : decode cX8_leads 146 = .ok (.iload 7, 2) := by decide +kernel
theorem dX8_leads_148 : decode cX8_leads 148 = .ok (.iaload, 1) := by decide +kernel
theorem dX8_leads_149 : decode cX8_leads 149 = .ok (.ifCond .ne 14, 3) := by decide +kernel
theorem dX8_leads_152 : decode cX8_leads 152 = .ok (.aload_n 0, 1) := by decide +kernel
theorem dX8_leads_153 : decode cX8_leads 153 = .ok (.getfield 36, 3) := by decide +kernel
theorem dX8_leads_156 : decode cX8_leads 156 = .ok (.iload 7, 2) := by decide +kernel
theorem dX8_leads_158 : decode cX8_leads 158 = .ok (.iload 4, 2) := by decide +kernel
theorem dX8_leads_160 : decode cX8_leads 160 = .ok (.iconst 1, 1) := by decide +kernel
theorem dX8_leads_161 : decode cX8_leads 161 = .ok (.iadd, 1) := by decide +kernel
theorem dX8_leads_162 : decode cX8_leads 162 = .ok (.iastore, 1) := by decide +kernel
theorem dX8_leads_163 : decode cX8_leads 163 = .ok (.iinc 6 1, 3) := by decide +kernel
theorem dX8_leads_166 : decode cX8_leads 166 = .ok (.goto (-62), 3) := by decide +kernel
theorem dX8_leads_169 : decode cX8_leads 169 = .ok (.iinc 5 1, 3) := by decide +kernel
theorem dX8_leads_172 : decode cX8_leads 172 = .ok (.goto (-95), 3) := by decide +kernel
theorem dX8_leads_175 : decode cX8_leads 175 = .ok (.iinc 4 1, 3) := by decide +kernel
theorem dX8_leads_178 : decode cX8_leads 178 = .ok (.goto (-113), 3) := by decide +kernel
theorem dX8_leads_181 : decode cX8_leads 181 = .ok (.aload_n 0, 1) := by decide +kernel
theorem dX8_leads_182 : decode cX8_leads 182 = .ok (.getfield 36, 3) := by decide +kernel
theorem dX8_leads_185 : decode cX8_leads 185 = .ok (.iload_n 2, 1) := by decide +kernel
theorem dX8_leads_186 : decode cX8_leads 186 = .ok (.iaload, 1) := by decide +kernel
theorem dX8_leads_187 : decode cX8_leads 187 = .ok (.ifCond .ne 8, 3) := by decide +kernel
theorem dX8_leads_190 : decode cX8_leads 190 = .ok (.bipush (-2), 2) := by decide +kernel
theorem dX8_leads_192 : decode cX8_leads 192 = .ok (.goto 9, 3) := by decide +kernel
theorem dX8_leads_195 : decode cX8_leads 195 = .ok (.aload_n 0, 1) := by decide +kernel
theorem dX8_leads_196 : decode cX8_leads 196 = .ok (.getfield 36, 3) := by decide +kernel
theorem dX8_leads_199 : decode cX8_leads 199 = .ok (.iload_n 2, 1) := by decide +kernel
theorem dX8_leads_200 : decode cX8_leads 200 = .ok (.iaload, 1) := by decide +kernel
theorem dX8_leads_201 : decode cX8_leads 201 = .ok (.ireturn, 1) := by decide +kernel
theorem dX8_layAside_0 : decode cX8_layAside 0 = .ok (.iconst 0, 1) := by decide +kernel
theorem dX8_layAside_1 : decode cX8_layAside 1 = .ok (.istore_n 1, 1) := by decide +kernel
theorem dX8_layAside_2 : decode cX8_layAside 2 = .ok (.iload_n 1, 1) := by decide +kernel
theorem dX8_layAside_3 : decode cX8_layAside 3 = .ok (.sipush 189, 3) := by decide +kernel
theorem dX8_layAside_6 : decode cX8_layAside 6 = .ok (.if_icmp .ge 21, 3) := by decide +kernel
theorem dX8_layAside_9 : decode cX8_layAside 9 = .ok (.aload_n 0, 1) := by decide +kernel
theorem dX8_layAside_10 : decode cX8_layAside 10 = .ok (.getfield 39, 3) := by decide +kernel
theorem dX8_layAside_13 : decode cX8_layAside 13 = .ok (.iload_n 1, 1) := by decide +kernel
theorem dX8_layAside_14 : decode cX8_layAside 14 = .ok (.aload_n 0, 1) := by decide +kernel
theorem dX8_layAside_15 : decode cX8_layAside 15 = .ok (.getfield 9, 3) := by decide +kernel
theorem dX8_layAside_18 : decode cX8_layAside 18 = .ok (.iload_n 1, 1) := by decide +kernel
theorem dX8_layAside_19 : decode cX8_layAside 19 = .ok (.iaload, 1) := by decide +kernel
theorem dX8_layAside_20 : decode cX8_layAside 20 = .ok (.iastore, 1) := by decide +kernel
theorem dX8_layAside_21 : decode cX8_layAside 21 = .ok (.iinc 1 1, 3) := by decide +kernel
theorem dX8_layAside_24 : decode cX8_layAside 24 = .ok (.goto (-22), 3) := by decide +kernel
theorem dX8_layAside_27 : decode cX8_layAside 27 = .ok (.return_, 1) := by decide +kernel
theorem dX8_comesBack_0 : decode cX8_comesBack 0 = .ok (.iconst 0, 1) := by decide +kernel
theorem dX8_comesBack_1 : decode cX8_comesBack 1 = .ok (.istore_n 1, 1) := by decide +kernel
theorem dX8_comesBack_2 : decode cX8_comesBack 2 = .ok (.iload_n 1, 1) := by decide +kernel
theorem dX8_comesBack_3 : decode cX8_comesBack 3 = .ok (.sipush 189, 3) := by decide +kernel
theorem dX8_comesBack_6 : decode cX8_comesBack 6 = .ok (.if_icmp .ge 21, 3) := by decide +kernel
theorem dX8_comesBack_9 : decode cX8_comesBack 9 = .ok (.aload_n 0, 1) := by decide +kernel
theorem dX8_comesBack_10 : decode cX8_comesBack 10 = .ok (.getfield 9, 3) := by decide +kernel
theorem dX8_comesBack_13 : decode cX8_comesBack 13 = .ok (.iload_n 1, 1) := by decide +kernel
theorem dX8_comesBack_14 : decode cX8_comesBack 14 = .ok (.aload_n 0, 1) := by decide +kernel
theorem dX8_comesBack_15 : decode cX8_comesBack 15 = .ok (.getfield 39, 3) := by decide +kernel
theorem dX8_comesBack_18 : decode cX8_comesBack 18 = .ok (.iload_n 1, 1) := by decide +kernel
theorem dX8_comesBack_19 : decode cX8_comesBack 19 = .ok (.iaload, 1) := by decide +kernel
theorem dX8_comesBack_20 : decode cX8_comesBack 20 = .ok (.iastore, 1) := by decide +kernel
theorem dX8_comesBack_21 : decode cX8_comesBack 21 = .ok (.iinc 1 1, 3) := by decide +kernel
theorem dX8_comesBack_24 : decode cX8_comesBack 24 = .ok (.goto (-22), 3) := by decide +kernel
theorem dX8_comesBack_27 : decode cX8_comesBack 27 = .ok (.return_, 1) := by decide +kernel
theorem dX8_goGrid_0 : decode cX8_goGrid 0 = .ok (.iconst 0, 1) := by decide +kernel
theorem dX8_goGrid_1 : decode cX8_goGrid 1 = .ok (.istore_n 2, 1) := by decide +kernel
theorem dX8_goGrid_2 : decode cX8_goGrid 2 = .ok (.iload_n 2, 1) := by decide +kernel
theorem dX8_goGrid_3 : decode cX8_goGrid 3 = .ok (.sipush 153, 3) := by decide +kernel
theorem dX8_goGrid_6 : decode cX8_goGrid 6 = .ok (.if_icmp .ge 19, 3) := by decide +kernel
theorem dX8_goGrid_9 : decode cX8_goGrid 9 = .ok (.aload_n 0, 1) := by decide +kernel
theorem dX8_goGrid_10 : decode cX8_goGrid 10 = .ok (.getfield 9, 3) := by decide +kernel
theorem dX8_goGrid_13 : decode cX8_goGrid 13 = .ok (.bipush 36, 2) := by decide +kernel
theorem dX8_goGrid_15 : decode cX8_goGrid 15 = .ok (.iload_n 2, 1) := by decide +kernel
theorem dX8_goGrid_16 : decode cX8_goGrid 16 = .ok (.iadd, 1) := by decide +kernel
theorem dX8_goGrid_17 : decode cX8_goGrid 17 = .ok (.iconst 0, 1) := by decide +kernel
theorem dX8_goGrid_18 : decode cX8_goGrid 18 = .ok (.iastore, 1) := by decide +kernel
theorem dX8_goGrid_19 : decode cX8_goGrid 19 = .ok (.iinc 2 1, 3) := by decide +kernel
theorem dX8_goGrid_22 : decode cX8_goGrid 22 = .ok (.goto (-20), 3) := by decide +kernel
theorem dX8_goGrid_25 : decode cX8_goGrid 25 = .ok (.aload_n 0, 1) := by decide +kernel
theorem dX8_goGrid_26 : decode cX8_goGrid 26 = .ok (.getfield 9, 3) := by decide +kernel
theorem dX8_goGrid_29 : decode cX8_goGrid 29 = .ok (.iconst 0, 1) := by decide +kernel
theorem dX8_goGrid_30 : decode cX8_goGrid 30 = .ok (.iload_n 1, 1) := by decide +kernel
theorem dX8_goGrid_31 : decode cX8_goGrid 31 = .ok (.iastore, 1) := by decide +kernel
theorem dX8_goGrid_32 : decode cX8_goGrid 32 = .ok (.aload_n 0, 1) := by decide +kernel
theorem dX8_goGrid_33 : decode cX8_goGrid 33 = .ok (.invokevirtual 169, 3) := by decide +kernel
theorem dX8_goGrid_36 : decode cX8_goGrid 36 = .ok (.return_, 1) := by decide +kernel
theorem dX8_finer_0 : decode cX8_finer 0 = .ok (.aload_n 0, 1) := by decide +kernel
theorem dX8_finer_1 : decode cX8_finer 1 = .ok (.iconst 0, 1) := by decide +kernel
theorem dX8_finer_2 : decode cX8_finer 2 = .ok (.putfield 61, 3) := by decide +kernel
theorem dX8_finer_5 : decode cX8_finer 5 = .ok (.iload_n 1, 1) := by decide +kernel
theorem dX8_finer_6 : decode cX8_finer 6 = .ok (.iconst 1, 1) := by decide +kernel
theorem dX8_finer_7 : decode cX8_finer 7 = .ok (.bipush 16, 2) := by decide +kernel
theorem dX8_finer_9 : decode cX8_finer 9 = .ok (.invokestatic 72, 3) := by decide +kernel
theorem dX8_finer_12 : decode cX8_finer 12 = .ok (.ifCond .ne 5, 3) := by decide +kernel
theorem dX8_finer_15 : decode cX8_finer 15 = .ok (.iconst (-1), 1) := by decide +kernel
theorem dX8_finer_16 : decode cX8_finer 16 = .ok (.ireturn, 1) := by decide +kernel
theorem dX8_finer_17 : decode cX8_finer 17 = .ok (.aload_n 0, 1) := by decide +kernel
theorem dX8_finer_18 : decode cX8_finer 18 = .ok (.getfield 9, 3) := by decide +kernel
theorem dX8_finer_21 : decode cX8_finer 21 = .ok (.iconst 1, 1) := by decide +kernel
theorem dX8_finer_22 : decode cX8_finer 22 = .ok (.iaload, 1) := by decide +kernel
theorem dX8_finer_23 : decode cX8_finer 23 = .ok (.ifCond .ne 6, 3) := by decide +kernel
theorem dX8_finer_26 : decode cX8_finer 26 = .ok (.bipush (-3), 2) := by decide +kernel
theorem dX8_finer_28 : decode cX8_finer 28 = .ok (.ireturn, 1) := by decide +kernel
theorem dX8_finer_29 : decode cX8_finer 29 = .ok (.aload_n 0, 1) := by decide +kernel
theorem dX8_finer_30 : decode cX8_finer 30 = .ok (.invokevirtual 281, 3) := by decide +kernel
theorem dX8_finer_33 : decode cX8_finer 33 = .ok (.aload_n 0, 1) := by decide +kernel
theorem dX8_finer_34 : decode cX8_finer 34 = .ok (.iload_n 1, 1) := by decide +kernel
theorem dX8_finer_35 : decode cX8_finer 35 = .ok (.invokevirtual 284, 3) := by decide +kernel
theorem dX8_finer_38 : decode cX8_finer 38 = .ok (.aload_n 0, 1) := by decide +kernel
theorem dX8_finer_39 : decode cX8_finer 39 = .ok (.invokevirtual 226, 3) := by decide +kernel
theorem dX8_finer_42 : decode cX8_finer 42 = .ok (.istore_n 2, 1) := by decide +kernel
theorem dX8_finer_43 : decode cX8_finer 43 = .ok (.aload_n 0, 1) := by decide +kernel
theorem dX8_finer_44 : decode cX8_finer 44 = .ok (.iconst 0, 1) := by decide +kernel
theorem dX8_finer_45 : decode cX8_finer 45 = .ok (.putfield 65, 3) := by decide +kernel
theorem dX8_finer_48 : decode cX8_finer 48 = .ok (.aload_n 0, 1) := by decide +kernel
theorem dX8_finer_49 : decode cX8_finer 49 = .ok (.aload_n 0, 1) := by decide +kernel
theorem dX8_finer_50 : decode cX8_finer 50 = .ok (.invokevirtual 229, 3) := by decide +kernel
theorem dX8_finer_53 : decode cX8_finer 53 = .ok (.i2l, 1) := by decide +kernel
theorem dX8_finer_54 : decode cX8_finer 54 = .ok (.invokevirtual 182, 3) := by decide +kernel
theorem dX8_finer_57 : decode cX8_finer 57 = .ok (.aload_n 0, 1) := by decide +kernel
theorem dX8_finer_58 : decode cX8_finer 58 = .ok (.aload_n 0, 1) := by decide +kernel
theorem dX8_finer_59 : decode cX8_finer 59 = .ok (.iconst 0, 1) := by decide +kernel
theorem dX8_finer_60 : decode cX8_finer 60 = .ok (.invokevirtual 232, 3) := by decide +kernel
theorem dX8_finer_63 : decode cX8_finer 63 = .ok (.i2l, 1) := by decide +kernel
theorem dX8_finer_64 : decode cX8_finer 64 = .ok (.invokevirtual 182, 3) := by decide +kernel
theorem dX8_finer_67 : decode cX8_finer 67 = .ok (.aload_n 0, 1) := by decide +kernel
theorem dX8_finer_68 : decode cX8_finer 68 = .ok (.invokevirtual 287, 3) := by decide +kernel
theorem dX8_finer_71 : decode cX8_finer 71 = .ok (.iload_n 2, 1) := by decide +kernel
theorem dX8_finer_72 : decode cX8_finer 72 = .ok (.ireturn, 1) := by decide +kernel
theorem dX8_withinOf_0 : decode cX8_withinOf 0 = .ok (.iconst 2, 1) := by decide +kernel
theorem dX8_withinOf_1 : decode cX8_withinOf 1 = .ok (.iload_n 3, 1) := by decide +kernel
theorem dX8_withinOf_2 : decode cX8_withinOf 2 = .ok (.imul, 1) := by decide +kernel
theorem dX8_withinOf_3 : decode cX8_withinOf 3 = .ok (.istore 5, 2) := by decide +kernel
theorem dX8_withinOf_5 : decode cX8_withinOf 5 = .ok (.iload_n 2, 1) := by decide +kernel
theorem dX8_withinOf_6 : decode cX8_withinOf 6 = .ok (.ifCond .eq 61, 3) := by decide +kernel
theorem dX8_withinOf_9 : decode cX8_withinOf 9 = .ok (.iconst 2, 1) := by decide +kernel
theorem dX8_withinOf_10 : decode cX8_withinOf 10 = .ok (.iload 5, 2) := by decide +kernel
theorem dX8_withinOf_12 : decode cX8_withinOf 12 = .ok (.iconst 2, 1) := by decide +kernel
theorem dX8_withinOf_13 : decode cX8_withinOf 13 = .ok (.imul, 1) := by decide +kernel
theorem dX8_withinOf_14 : decode cX8_withinOf 14 = .ok (.iload_n 0, 1) := by decide +kernel
theorem dX8_withinOf_15 : decode cX8_withinOf 15 = .ok (.imul, 1) := by decide +kernel
theorem dX8_withinOf_16 : decode cX8_withinOf 16 = .ok (.iconst 2, 1) := by decide +kernel
theorem dX8_withinOf_17 : decode cX8_withinOf 17 = .ok (.iload_n 1, 1) := by decide +kernel
theorem dX8_withinOf_18 : decode cX8_withinOf 18 = .ok (.imul, 1) := by decide +kernel
theorem dX8_withinOf_19 : decode cX8_withinOf 19 = .ok (.iadd, 1) := by decide +kernel
theorem dX8_withinOf_20 : decode cX8_withinOf 20 = .ok (.imul, 1) := by decide +kernel
theorem dX8_withinOf_21 : decode cX8_withinOf 21 = .ok (.istore 6, 2) := by decide +kernel
theorem dX8_withinOf_23 : decode cX8_withinOf 23 = .ok (.iload 4, 2) := by decide +kernel
theorem dX8_withinOf_25 : decode cX8_withinOf 25 = .ok (.ifCond .ne 8, 3) := by decide +kernel
theorem dX8_withinOf_28 : decode cX8_withinOf 28 = .ok (.iload 6, 2) := by decide +kernel
theorem dX8_withinOf_30 : decode cX8_withinOf 30 = .ok (.goto 36, 3) := by decide +kernel
theorem dX8_withinOf_33 : decode cX8_withinOf 33 = .ok (.iload 4, 2) := by decide +kernel
theorem dX8_withinOf_35 : decode cX8_withinOf 35 = .ok (.iconst 1, 1) := by decide +kernel
theorem dX8_withinOf_36 : decode cX8_withinOf 36 = .ok (.if_icmp .ne 10, 3) := by decide +kernel
theorem dX8_withinOf_39 : decode cX8_withinOf 39 = .ok (.iload 6, 2) := by decide +kernel
theorem dX8_withinOf_41 : decode cX8_withinOf 41 = .ok (.iconst 1, 1) := by decide +kernel
theorem dX8_withinOf_42 : decode cX8_withinOf 42 = .ok (.iadd, 1) := by decide +kernel
theorem dX8_withinOf_43 : decode cX8_withinOf 43 = .ok (.goto 23, 3) := by decide +kernel
theorem dX8_withinOf_46 : decode cX8_withinOf 46 = .ok (.iload 4, 2) := by decide +kernel
theorem dX8_withinOf_48 : decode cX8_withinOf 48 = .ok (.iconst 2, 1) := by decide +kernel
theorem dX8_withinOf_49 : decode cX8_withinOf 49 = .ok (.if_icmp .ne 10, 3) := by decide +kernel
theorem dX8_withinOf_52 : decode cX8_withinOf 52 = .ok (.iload 6, 2) := by decide +kernel
theorem dX8_withinOf_54 : decode cX8_withinOf 54 = .ok (.iconst 2, 1) := by decide +kernel
theorem dX8_withinOf_55 : decode cX8_withinOf 55 = .ok (.iadd, 1) := by decide +kernel
theorem dX8_withinOf_56 : decode cX8_withinOf 56 = .ok (.goto 10, 3) := by decide +kernel
theorem dX8_withinOf_59 : decode cX8_withinOf 59 = .ok (.iload 6, 2) := by decide +kernel
theorem dX8_withinOf_61 : decode cX8_withinOf 61 = .ok (.iconst 2, 1) := by decide +kernel
theorem dX8_withinOf_62 : decode cX8_withinOf 62 = .ok (.iload 5, 2) := by decide +kernel
theorem dX8_withinOf_64 : decode cX8_withinOf 64 = .ok (.imul, 1) := by decide +kernel
theorem dX8_withinOf_65 : decode cX8_withinOf 65 = .ok (.iadd, 1) := by decide +kernel
theorem dX8_withinOf_66 : decode cX8_withinOf 66 = .ok (.ireturn, 1) := by decide +kernel
theorem dX8_withinOf_67 : decode cX8_withinOf 67 = .ok (.iconst 2, 1) := by decide +kernel
theorem dX8_withinOf_68 : decode cX8_withinOf 68 = .ok (.iload 5, 2) := by decide +kernel
theorem dX8_withinOf_70 : decode cX8_withinOf 70 = .ok (.iconst 2, 1) := by decide +kernel
theorem dX8_withinOf_71 : decode cX8_withinOf 71 = .ok (.imul, 1) := by decide +kernel
theorem dX8_withinOf_72 : decode cX8_withinOf 72 = .ok (.iload_n 0, 1) := by decide +kernel
theorem dX8_withinOf_73 : decode cX8_withinOf 73 = .ok (.imul, 1) := by decide +kernel
theorem dX8_withinOf_74 : decode cX8_withinOf 74 = .ok (.iconst 2, 1) := by decide +kernel
theorem dX8_withinOf_75 : decode cX8_withinOf 75 = .ok (.iload_n 1, 1) := by decide +kernel
theorem dX8_withinOf_76 : decode cX8_withinOf 76 = .ok (.imul, 1) := by decide +kernel
theorem dX8_withinOf_77 : decode cX8_withinOf 77 = .ok (.iadd, 1) := by decide +kernel
theorem dX8_withinOf_78 : decode cX8_withinOf 78 = .ok (.iconst 1, 1) := by decide +kernel
theorem dX8_withinOf_79 : decode cX8_withinOf 79 = .ok (.iadd, 1) := by decide +kernel
theorem dX8_withinOf_80 : decode cX8_withinOf 80 = .ok (.imul, 1) := by decide +kernel
theorem dX8_withinOf_81 : decode cX8_withinOf 81 = .ok (.iconst 1, 1) := by decide +kernel
theorem dX8_withinOf_82 : decode cX8_withinOf 82 = .ok (.iadd, 1) := by decide +kernel
theorem dX8_withinOf_83 : decode cX8_withinOf 83 = .ok (.istore 6, 2) := by decide +kernel
theorem dX8_withinOf_85 : decode cX8_withinOf 85 = .ok (.iconst 2, 1) := by decide +kernel
theorem dX8_withinOf_86 : decode cX8_withinOf 86 = .ok (.iload 5, 2) := by decide +kernel
theorem dX8_withinOf_88 : decode cX8_withinOf 88 = .ok (.iconst 2, 1) := by decide +kernel
theorem dX8_withinOf_89 : decode cX8_withinOf 89 = .ok (.iload_n 0, 1) := by decide +kernel
theorem dX8_withinOf_90 : decode cX8_withinOf 90 = .ok (.imul, 1) := by decide +kernel
theorem dX8_withinOf_91 : decode cX8_withinOf 91 = .ok (.iconst 1, 1) := by decide +kernel
theorem dX8_withinOf_92 : decode cX8_withinOf 92 = .ok (.iadd, 1) := by decide +kernel
theorem dX8_withinOf_93 : decode cX8_withinOf 93 = .ok (.imul, 1) := by decide +kernel
theorem dX8_withinOf_94 : decode cX8_withinOf 94 = .ok (.iconst 2, 1) := by decide +kernel
theorem dX8_withinOf_95 : decode cX8_withinOf 95 = .ok (.iload_n 1, 1) := by decide +kernel
theorem dX8_withinOf_96 : decode cX8_withinOf 96 = .ok (.imul, 1) := by decide +kernel
theorem dX8_withinOf_97 : decode cX8_withinOf 97 = .ok (.iadd, 1) := by decide +kernel
theorem dX8_withinOf_98 : decode cX8_withinOf 98 = .ok (.imul, 1) := by decide +kernel
theorem dX8_withinOf_99 : decode cX8_withinOf 99 = .ok (.istore 7, 2) := by decide +kernel
theorem dX8_withinOf_101 : decode cX8_withinOf 101 = .ok (.iload 4, 2) := by decide +kernel
theorem dX8_withinOf_103 : decode cX8_withinOf 103 = .ok (.ifCond .ne 8, 3) := by decide +kernel
theorem dX8_withinOf_106 : decode cX8_withinOf 106 = .ok (.iload 6, 2) := by decide +kernel
theorem dX8_withinOf_108 : decode cX8_withinOf 108 = .ok (.goto 33, 3) := by decide +kernel
theorem dX8_withinOf_111 : decode cX8_withinOf 111 = .ok (.iload 4, 2) := by decide +kernel
theorem dX8_withinOf_113 : decode cX8_withinOf 113 = .ok (.iconst 1, 1) := by decide +kernel
theorem dX8_withinOf_114 : decode cX8_withinOf 114 = .ok (.if_icmp .ne 10, 3) := by decide +kernel
theorem dX8_withinOf_117 : decode cX8_withinOf 117 = .ok (.iload 7, 2) := by decide +kernel
theorem dX8_withinOf_119 : decode cX8_withinOf 119 = .ok (.iconst 1, 1) := by decide +kernel
theorem dX8_withinOf_120 : decode cX8_withinOf 120 = .ok (.iadd, 1) := by decide +kernel
theorem dX8_withinOf_121 : decode cX8_withinOf 121 = .ok (.goto 20, 3) := by decide +kernel
theorem dX8_withinOf_124 : decode cX8_withinOf 124 = .ok (.iload 4, 2) := by decide +kernel
theorem dX8_withinOf_126 : decode cX8_withinOf 126 = .ok (.iconst 2, 1) := by decide +kernel
theorem dX8_withinOf_127 : decode cX8_withinOf 127 = .ok (.if_icmp .ne 10, 3) := by decide +kernel
theorem dX8_withinOf_130 : decode cX8_withinOf 130 = .ok (.iload 7, 2) := by decide +kernel
theorem dX8_withinOf_132 : decode cX8_withinOf 132 = .ok (.iconst 2, 1) := by decide +kernel
theorem dX8_withinOf_133 : decode cX8_withinOf 133 = .ok (.iadd, 1) := by decide +kernel
theorem dX8_withinOf_134 : decode cX8_withinOf 134 = .ok (.goto 7, 3) := by decide +kernel
theorem dX8_withinOf_137 : decode cX8_withinOf 137 = .ok (.iload 7, 2) := by decide +kernel
theorem dX8_withinOf_139 : decode cX8_withinOf 139 = .ok (.iconst 3, 1) := by decide +kernel
theorem dX8_withinOf_140 : decode cX8_withinOf 140 = .ok (.iadd, 1) := by decide +kernel
theorem dX8_withinOf_141 : decode cX8_withinOf 141 = .ok (.ireturn, 1) := by decide +kernel
theorem dX8_within_0 : decode cX8_within 0 = .ok (.aload_n 0, 1) := by decide +kernel
theorem dX8_within_1 : decode cX8_within 1 = .ok (.iconst 0, 1) := by decide +kernel
theorem dX8_within_2 : decode cX8_within 2 = .ok (.putfield 61, 3) := by decide +kernel
theorem dX8_within_5 : decode cX8_within 5 = .ok (.aload_n 0, 1) := by decide +kernel
theorem dX8_within_6 : decode cX8_within 6 = .ok (.iload_n 1, 1) := by decide +kernel
theorem dX8_within_7 : decode cX8_within 7 = .ok (.invokevirtual 213, 3) := by decide +kernel
theorem dX8_within_10 : decode cX8_within 10 = .ok (.ifCond .ne 5, 3) := by decide +kernel
theorem dX8_within_13 : decode cX8_within 13 = .ok (.iconst (-1), 1) := by decide +kernel
theorem dX8_within_14 : decode cX8_within 14 = .ok (.ireturn, 1) := by decide +kernel
theorem dX8_within_15 : decode cX8_within 15 = .ok (.aload_n 0, 1) := by decide +kernel
theorem dX8_within_16 : decode cX8_within 16 = .ok (.getfield 9, 3) := by decide +kernel
theorem dX8_within_19 : decode cX8_within 19 = .ok (.iconst 1, 1) := by decide +kernel
theorem dX8_within_20 : decode cX8_within 20 = .ok (.iaload, 1) := by decide +kernel
theorem dX8_within_21 : decode cX8_within 21 = .ok (.ifCond .ne 6, 3) := by decide +kernel
theorem dX8_within_24 : decode cX8_within 24 = .ok (.bipush (-3), 2) := by decide +kernel
theorem dX8_within_26 : decode cX8_within 26 = .ok (.ireturn, 1) := by decide +kernel
theorem dX8_within_27 : decode cX8_within 27 = .ok (.iconst 2, 1) := by decide +kernel
theorem dX8_within_28 : decode cX8_within 28 = .ok (.aload_n 0, 1) := by decide +kernel
theorem dX8_within_29 : decode cX8_within 29 = .ok (.invokevirtual 68, 3) := by decide +kernel
theorem dX8_within_32 : decode cX8_within 32 = .ok (.imul, 1) := by decide +kernel
theorem dX8_within_33 : decode cX8_within 33 = .ok (.bipush 16, 2) := by decide +kernel
theorem dX8_within_35 : decode cX8_within 35 = .ok (.if_icmp .le 6, 3) := by decide +kernel
theorem dX8_within_38 : decode cX8_within 38 = .ok (.bipush (-4), 2) := by decide +kernel
theorem dX8_within_40 : decode cX8_within 40 = .ok (.ireturn, 1) := by decide +kernel
theorem dX8_within_41 : decode cX8_within 41 = .ok (.aload_n 0, 1) := by decide +kernel
theorem dX8_within_42 : decode cX8_within 42 = .ok (.iload_n 1, 1) := by decide +kernel
theorem dX8_within_43 : decode cX8_within 43 = .ok (.invokevirtual 191, 3) := by decide +kernel
theorem dX8_within_46 : decode cX8_within 46 = .ok (.istore_n 2, 1) := by decide +kernel
theorem dX8_within_47 : decode cX8_within 47 = .ok (.aload_n 0, 1) := by decide +kernel
theorem dX8_within_48 : decode cX8_within 48 = .ok (.iload_n 1, 1) := by decide +kernel
theorem dX8_within_49 : decode cX8_within 49 = .ok (.invokevirtual 194, 3) := by decide +kernel
theorem dX8_within_52 : decode cX8_within 52 = .ok (.istore_n 3, 1) := by decide +kernel
theorem dX8_within_53 : decode cX8_within 53 = .ok (.aload_n 0, 1) := by decide +kernel
theorem dX8_within_54 : decode cX8_within 54 = .ok (.invokevirtual 68, 3) := by decide +kernel
theorem dX8_within_57 : decode cX8_within 57 = .ok (.istore 4, 2) := by decide +kernel
theorem dX8_within_59 : decode cX8_within 59 = .ok (.aload_n 0, 1) := by decide +kernel
theorem dX8_within_60 : decode cX8_within 60 = .ok (.invokevirtual 281, 3) := by decide +kernel
theorem dX8_within_63 : decode cX8_within 63 = .ok (.aload_n 0, 1) := by decide +kernel
theorem dX8_within_64 : decode cX8_within 64 = .ok (.iconst 2, 1) := by decide +kernel
theorem dX8_within_65 : decode cX8_within 65 = .ok (.iload 4, 2) := by decide +kernel
theorem dX8_within_67 : decode cX8_within 67 = .ok (.imul, 1) := by decide +kernel
theorem dX8_within_68 : decode cX8_within 68 = .ok (.invokevirtual 284, 3) := by decide +kernel
theorem dX8_within_71 : decode cX8_within 71 = .ok (.iconst 0, 1) := by decide +kernel
theorem dX8_within_72 : decode cX8_within 72 = .ok (.istore 5, 2) := by decide +kernel
theorem dX8_within_74 : decode cX8_within 74 = .ok (.aload_n 0, 1) := by decide +kernel
theorem dX8_within_75 : decode cX8_within 75 = .ok (.iconst 0, 1) := by decide +kernel
theorem dX8_within_76 : decode cX8_within 76 = .ok (.putfield 65, 3) := by decide +kernel
theorem dX8_within_79 : decode cX8_within 79 = .ok (.iconst 0, 1) := by decide +kernel
theorem dX8_within_80 : decode cX8_within 80 = .ok (.istore 6, 2) := by decide +kernel
theorem dX8_within_82 : decode cX8_within 82 = .ok (.iload 6, 2) := by decide +kernel
theorem dX8_within_84 : decode cX8_within 84 = .ok (.iconst 4, 1) := by decide +kernel
theorem dX8_within_85 : decode cX8_within 85 = .ok (.if_icmp .ge 57, 3) := by decide +kernel
theorem dX8_within_88 : decode cX8_within 88 = .ok (.iload_n 2, 1) := by decide +kernel
theorem dX8_within_89 : decode cX8_within 89 = .ok (.iload_n 3, 1) := by decide +kernel
theorem dX8_within_90 : decode cX8_within 90 = .ok (.iload_n 1, 1) := by decide +kernel
theorem dX8_within_91 : decode cX8_within 91 = .ok (.iconst 2, 1) := by decide +kernel
theorem dX8_within_92 : decode cX8_within 92 = .ok (.irem, 1) := by decide +kernel
theorem dX8_within_93 : decode cX8_within 93 = .ok (.ifCond .ne 7, 3) := by decide +kernel
theorem dX8_within_96 : decode cX8_within 96 = .ok (.iconst 1, 1) := by decide +kernel
theorem dX8_within_97 : decode cX8_within 97 = .ok (.goto 4, 3) := by decide +kernel
theorem dX8_within_100 : decode cX8_within 100 = .ok (.iconst 0, 1) := by decide +kernel
theorem dX8_within_101 : decode cX8_within 101 = .ok (.iload 4, 2) := by decide +kernel
theorem dX8_within_103 : decode cX8_within 103 = .ok (.iload 6, 2) := by decide +kernel
theorem dX8_within_105 : decode cX8_within 105 = .ok (.invokestatic 290, 3) := by decide +kernel
theorem dX8_within_108 : decode cX8_within 108 = .ok (.istore 7, 2) := by decide +kernel
theorem dX8_within_110 : decode cX8_within 110 = .ok (.aload_n 0, 1) := by decide +kernel
theorem dX8_within_111 : decode cX8_within 111 = .ok (.iload 7, 2) := by decide +kernel
theorem dX8_within_113 : decode cX8_within 113 = .ok (.i2l, 1) := by decide +kernel
theorem dX8_within_114 : decode cX8_within 114 = .ok (.invokevirtual 182, 3) := by decide +kernel
theorem dX8_within_117 : decode cX8_within 117 = .ok (.iload 5, 2) := by decide +kernel
theorem dX8_within_119 : decode cX8_within 119 = .ok (.aload_n 0, 1) := by decide +kernel
theorem dX8_within_120 : decode cX8_within 120 = .ok (.iload 7, 2) := by decide +kernel
theorem dX8_within_122 : decode cX8_within 122 = .ok (.invokevirtual 206, 3) := by decide +kernel
theorem dX8_within_125 : decode cX8_within 125 = .ok (.ifCond .eq 7, 3) := by decide +kernel
theorem dX8_within_128 : decode cX8_within 128 = .ok (.iconst 1, 1) := by decide +kernel
theorem dX8_within_129 : decode cX8_within 129 = .ok (.goto 4, 3) := by decide +kernel
theorem dX8_within_132 : decode cX8_within 132 = .ok (.iconst 0, 1) := by decide +kernel
theorem dX8_within_133 : decode cX8_within 133 = .ok (.iadd, 1) := by decide +kernel
theorem dX8_within_134 : decode cX8_within 134 = .ok (.istore 5, 2) := by decide +kernel
theorem dX8_within_136 : decode cX8_within 136 = .ok (.iinc 6 1, 3) := by decide +kernel
theorem dX8_within_139 : decode cX8_within 139 = .ok (.goto (-57), 3) := by decide +kernel
theorem dX8_within_142 : decode cX8_within 142 = .ok (.aload_n 0, 1) := by decide +kernel
theorem dX8_within_143 : decode cX8_within 143 = .ok (.invokevirtual 287, 3) := by decide +kernel
theorem dX8_within_146 : decode cX8_within 146 = .ok (.iload 5, 2) := by decide +kernel
theorem dX8_within_148 : decode cX8_within 148 = .ok (.ireturn, 1) := by decide +kernel
theorem dX8_touchesRim_0 : decode cX8_touchesRim 0 = .ok (.iconst 0, 1) := by decide +kernel
theorem dX8_touchesRim_1 : decode cX8_touchesRim 1 = .ok (.istore_n 2, 1) := by decide +kernel
theorem dX8_touchesRim_2 : decode cX8_touchesRim 2 = .ok (.iload_n 2, 1) := by decide +kernel
theorem dX8_touchesRim_3 : decode cX8_touchesRim 3 = .ok (.iconst 3, 1) := by decide +kernel
theorem dX8_touchesRim_4 : decode cX8_touchesRim 4 = .ok (.if_icmp .ge 38, 3) := by decide +kernel
theorem dX8_touchesRim_7 : decode cX8_touchesRim 7 = .ok (.aload_n 0, 1) := by decide +kernel
theorem dX8_touchesRim_8 : decode cX8_touchesRim 8 = .ok (.aload_n 0, 1) := by decide +kernel
theorem dX8_touchesRim_9 : decode cX8_touchesRim 9 = .ok (.aload_n 0, 1) := by decide +kernel
theorem dX8_touchesRim_10 : decode cX8_touchesRim 10 = .ok (.iload_n 1, 1) := by decide +kernel
theorem dX8_touchesRim_11 : decode cX8_touchesRim 11 = .ok (.iload_n 2, 1) := by decide +kernel
theorem dX8_touchesRim_12 : decode cX8_touchesRim 12 = .ok (.invokevirtual 197, 3) := by decide +kernel
theorem dX8_touchesRim_15 : decode cX8_touchesRim 15 = .ok (.invokevirtual 84, 3) := by decide +kernel
theorem dX8_touchesRim_18 : decode cX8_touchesRim 18 = .ok (.aload_n 0, 1) := by decide +kernel
theorem dX8_touchesRim_19 : decode cX8_touchesRim 19 = .ok (.aload_n 0, 1) := by decide +kernel
theorem dX8_touchesRim_20 : decode cX8_touchesRim 20 = .ok (.iload_n 1, 1) := by decide +kernel
theorem dX8_touchesRim_21 : decode cX8_touchesRim 21 = .ok (.iload_n 2, 1) := by decide +kernel
theorem dX8_touchesRim_22 : decode cX8_touchesRim 22 = .ok (.invokevirtual 197, 3) := by decide +kernel
theorem dX8_touchesRim_25 : decode cX8_touchesRim 25 = .ok (.invokevirtual 179, 3) := by decide +kernel
theorem dX8_touchesRim_28 : decode cX8_touchesRim 28 = .ok (.invokevirtual 235, 3) := by decide +kernel
theorem dX8_touchesRim_31 : decode cX8_touchesRim 31 = .ok (.ifCond .eq 5, 3) := by decide +kernel
theorem dX8_touchesRim_34 : decode cX8_touchesRim 34 = .ok (.iconst 1, 1) := by decide +kernel
theorem dX8_touchesRim_35 : decode cX8_touchesRim 35 = .ok (.ireturn, 1) := by decide +kernel
theorem dX8_touchesRim_36 : decode cX8_touchesRim 36 = .ok (.iinc 2 1, 3) := by decide +kernel
theorem dX8_touchesRim_39 : decode cX8_touchesRim 39 = .ok (.goto (-37), 3) := by decide +kernel
theorem dX8_touchesRim_42 : decode cX8_touchesRim 42 = .ok (.iconst 0, 1) := by decide +kernel
theorem dX8_touchesRim_43 : decode cX8_touchesRim 43 = .ok (.ireturn, 1) := by decide +kernel
theorem dX8_inner_0 : decode cX8_inner 0 = .ok (.aload_n 0, 1) := by decide +kernel
theorem dX8_inner_1 : decode cX8_inner 1 = .ok (.iconst 0, 1) := by decide +kernel
theorem dX8_inner_2 : decode cX8_inner 2 = .ok (.putfield 61, 3) := by decide +kernel
theorem dX8_inner_5 : decode cX8_inner 5 = .ok (.aload_n 0, 1) := by decide +kernel
theorem dX8_inner_6 : decode cX8_inner 6 = .ok (.getfield 9, 3) := by decide +kernel
theorem dX8_inner_9 : decode cX8_inner 9 = .ok (.iconst 1, 1) := by decide +kernel
theorem dX8_inner_10 : decode cX8_inner 10 = .ok (.iaload, 1) := by decide +kernel
theorem dX8_inner_11 : decode cX8_inner 11 = .ok (.ifCond .ne 6, 3) := by decide +kernel
theorem dX8_inner_14 : decode cX8_inner 14 = .ok (.bipush (-3), 2) := by decide +kernel
theorem dX8_inner_16 : decode cX8_inner 16 = .ok (.ireturn, 1) := by decide +kernel
theorem dX8_inner_17 : decode cX8_inner 17 = .ok (.aload_n 0, 1) := by decide +kernel
theorem dX8_inner_18 : decode cX8_inner 18 = .ok (.invokevirtual 281, 3) := by decide +kernel
theorem dX8_inner_21 : decode cX8_inner 21 = .ok (.aload_n 0, 1) := by decide +kernel
theorem dX8_inner_22 : decode cX8_inner 22 = .ok (.invokevirtual 68, 3) := by decide +kernel
theorem dX8_inner_25 : decode cX8_inner 25 = .ok (.istore_n 1, 1) := by decide +kernel
theorem dX8_inner_26 : decode cX8_inner 26 = .ok (.iconst (-1), 1) := by decide +kernel
theorem dX8_inner_27 : decode cX8_inner 27 = .ok (.istore_n 2, 1) := by decide +kernel
theorem dX8_inner_28 : decode cX8_inner 28 = .ok (.iconst (-1), 1) := by decide +kernel
theorem dX8_inner_29 : decode cX8_inner 29 = .ok (.istore_n 3, 1) := by decide +kernel
theorem dX8_inner_30 : decode cX8_inner 30 = .ok (.iload_n 1, 1) := by decide +kernel
theorem dX8_inner_31 : decode cX8_inner 31 = .ok (.bipush 16, 2) := by decide +kernel
theorem dX8_inner_33 : decode cX8_inner 33 = .ok (.if_icmp .gt 40, 3) := by decide +kernel
theorem dX8_inner_36 : decode cX8_inner 36 = .ok (.iload_n 2, 1) := by decide +kernel
theorem dX8_inner_37 : decode cX8_inner 37 = .ok (.iconst (-1), 1) := by decide +kernel
theorem dX8_inner_38 : decode cX8_inner 38 = .ok (.if_icmp .ne 35, 3) := by decide +kernel
theorem dX8_inner_41 : decode cX8_inner 41 = .ok (.aload_n 0, 1) := by decide +kernel
theorem dX8_inner_42 : decode cX8_inner 42 = .ok (.iload_n 1, 1) := by decide +kernel
theorem dX8_inner_43 : decode cX8_inner 43 = .ok (.invokevirtual 284, 3) := by decide +kernel
theorem dX8_inner_46 : decode cX8_inner 46 = .ok (.aload_n 0, 1) := by decide +kernel
theorem dX8_inner_47 : decode cX8_inner 47 = .ok (.iconst 0, 1) := by decide +kernel
theorem dX8_inner_48 : decode cX8_inner 48 = .ok (.invokevirtual 232, 3) := by decide +kernel
theorem dX8_inner_51 : decode cX8_inner 51 = .ok (.istore_n 3, 1) := by decide +kernel
theorem dX8_inner_52 : decode cX8_inner 52 = .ok (.iload_n 3, 1) := by decide +kernel
theorem dX8_inner_53 : decode cX8_inner 53 = .ok (.iconst (-1), 1) := by decide +kernel
theorem dX8_inner_54 : decode cX8_inner 54 = .ok (.if_icmp .eq 13, 3) := by decide +kernel
theorem dX8_inner_57 : decode cX8_inner 57 = .ok (.aload_n 0, 1) := by decide +kernel
theorem dX8_inner_58 : decode cX8_inner 58 = .ok (.iload_n 3, 1) := by decide +kernel
theorem dX8_inner_59 : decode cX8_inner 59 = .ok (.invokevirtual 294, 3) := by decide +kernel
theorem dX8_inner_62 : decode cX8_inner 62 = .ok (.ifCond .ne 5, 3) := by decide +kernel
theorem dX8_inner_65 : decode cX8_inner 65 = .ok (.iload_n 1, 1) := by decide +kernel
theorem dX8_inner_66 : decode cX8_inner 66 = .ok (.istore_n 2, 1) := by decide +kernel
theorem dX8_inner_67 : decode cX8_inner 67 = .ok (.iinc 1 1, 3) := by decide +kernel
theorem dX8_inner_70 : decode cX8_inner 70 = .ok (.goto (-40), 3) := by decide +kernel
theorem dX8_inner_73 : decode cX8_inner 73 = .ok (.aload_n 0, 1) := by decide +kernel
theorem dX8_inner_74 : decode cX8_inner 74 = .ok (.invokevirtual 287, 3) := by decide +kernel
theorem dX8_inner_77 : decode cX8_inner 77 = .ok (.iload_n 2, 1) := by decide +kernel
theorem dX8_inner_78 : decode cX8_inner 78 = .ok (.iconst (-1), 1) := by decide +kernel
theorem dX8_inner_79 : decode cX8_inner 79 = .ok (.if_icmp .ne 6, 3) := by decide +kernel
theorem dX8_inner_82 : decode cX8_inner 82 = .ok (.bipush (-2), 2) := by decide +kernel
theorem dX8_inner_84 : decode cX8_inner 84 = .ok (.ireturn, 1) := by decide +kernel
theorem dX8_inner_85 : decode cX8_inner 85 = .ok (.aload_n 0, 1) := by decide +kernel
theorem dX8_inner_86 : decode cX8_inner 86 = .ok (.iconst 0, 1) := by decide +kernel
theorem dX8_inner_87 : decode cX8_inner 87 = .ok (.putfield 65, 3) := by decide +kernel
theorem dX8_inner_90 : decode cX8_inner 90 = .ok (.aload_n 0, 1) := by decide +kernel
theorem dX8_inner_91 : decode cX8_inner 91 = .ok (.iload_n 3, 1) := by decide +kernel
theorem dX8_inner_92 : decode cX8_inner 92 = .ok (.i2l, 1) := by decide +kernel
theorem dX8_inner_93 : decode cX8_inner 93 = .ok (.invokevirtual 182, 3) := by decide +kernel
theorem dX8_inner_96 : decode cX8_inner 96 = .ok (.iload_n 2, 1) := by decide +kernel
theorem dX8_inner_97 : decode cX8_inner 97 = .ok (.ireturn, 1) := by decide +kernel
theorem dX8_excess_0 : decode cX8_excess 0 = .ok (.aload_n 0, 1) := by decide +kernel
theorem dX8_excess_1 : decode cX8_excess 1 = .ok (.iconst 0, 1) := by decide +kernel
theorem dX8_excess_2 : decode cX8_excess 2 = .ok (.putfield 61, 3) := by decide +kernel
theorem dX8_excess_5 : decode cX8_excess 5 = .ok (.aload_n 0, 1) := by decide +kernel
theorem dX8_excess_6 : decode cX8_excess 6 = .ok (.iload_n 1, 1) := by decide +kernel
theorem dX8_excess_7 : decode cX8_excess 7 = .ok (.iload_n 2, 1) := by decide +kernel
theorem dX8_excess_8 : decode cX8_excess 8 = .ok (.invokevirtual 219, 3) := by decide +kernel
theorem dX8_excess_11 : decode cX8_excess 11 = .ok (.ifCond .ne 5, 3) := by decide +kernel
theorem dX8_excess_14 : decode cX8_excess 14 = .ok (.iconst (-1), 1) := by decide +kernel
theorem dX8_excess_15 : decode cX8_excess 15 = .ok (.ireturn, 1) := by decide +kernel
theorem dX8_excess_16 : decode cX8_excess 16 = .ok (.aload_n 0, 1) := by decide +kernel
theorem dX8_excess_17 : decode cX8_excess 17 = .ok (.getfield 9, 3) := by decide +kernel
theorem dX8_excess_20 : decode cX8_excess 20 = .ok (.iconst 1, 1) := by decide +kernel
theorem dX8_excess_21 : decode cX8_excess 21 = .ok (.iaload, 1) := by decide +kernel
theorem dX8_excess_22 : decode cX8_excess 22 = .ok (.iconst 1, 1) := by decide +kernel
theorem dX8_excess_23 : decode cX8_excess 23 = .ok (.if_icmp .eq 6, 3) := by decide +kernel
theorem dX8_excess_26 : decode cX8_excess 26 = .ok (.bipush (-3), 2) := by decide +kernel
theorem dX8_excess_28 : decode cX8_excess 28 = .ok (.ireturn, 1) := by decide +kernel
theorem dX8_excess_29 : decode cX8_excess 29 = .ok (.aload_n 0, 1) := by decide +kernel
theorem dX8_excess_30 : decode cX8_excess 30 = .ok (.iconst 0, 1) := by decide +kernel
theorem dX8_excess_31 : decode cX8_excess 31 = .ok (.putfield 65, 3) := by decide +kernel
theorem dX8_excess_34 : decode cX8_excess 34 = .ok (.iconst 0, 1) := by decide +kernel
theorem dX8_excess_35 : decode cX8_excess 35 = .ok (.istore_n 3, 1) := by decide +kernel
theorem dX8_excess_36 : decode cX8_excess 36 = .ok (.iload_n 3, 1) := by decide +kernel
theorem dX8_excess_37 : decode cX8_excess 37 = .ok (.iconst 3, 1) := by decide +kernel
theorem dX8_excess_38 : decode cX8_excess 38 = .ok (.if_icmp .ge 21, 3) := by decide +kernel
theorem dX8_excess_41 : decode cX8_excess 41 = .ok (.aload_n 0, 1) := by decide +kernel
theorem dX8_excess_42 : decode cX8_excess 42 = .ok (.aload_n 0, 1) := by decide +kernel
theorem dX8_excess_43 : decode cX8_excess 43 = .ok (.iload_n 1, 1) := by decide +kernel
theorem dX8_excess_44 : decode cX8_excess 44 = .ok (.iload_n 2, 1) := by decide +kernel
theorem dX8_excess_45 : decode cX8_excess 45 = .ok (.iload_n 3, 1) := by decide +kernel
theorem dX8_excess_46 : decode cX8_excess 46 = .ok (.invokevirtual 100, 3) := by decide +kernel
theorem dX8_excess_49 : decode cX8_excess 49 = .ok (.i2l, 1) := by decide +kernel
theorem dX8_excess_50 : decode cX8_excess 50 = .ok (.invokevirtual 182, 3) := by decide +kernel
theorem dX8_excess_53 : decode cX8_excess 53 = .ok (.iinc 3 1, 3) := by decide +kernel
theorem dX8_excess_56 : decode cX8_excess 56 = .ok (.goto (-20), 3) := by decide +kernel
theorem dX8_excess_59 : decode cX8_excess 59 = .ok (.aload_n 0, 1) := by decide +kernel
theorem dX8_excess_60 : decode cX8_excess 60 = .ok (.aload_n 0, 1) := by decide +kernel
theorem dX8_excess_61 : decode cX8_excess 61 = .ok (.iload_n 1, 1) := by decide +kernel
theorem dX8_excess_62 : decode cX8_excess 62 = .ok (.iload_n 2, 1) := by decide +kernel
theorem dX8_excess_63 : decode cX8_excess 63 = .ok (.invokevirtual 297, 3) := by decide +kernel
theorem dX8_excess_66 : decode cX8_excess 66 = .ok (.i2l, 1) := by decide +kernel
theorem dX8_excess_67 : decode cX8_excess 67 = .ok (.invokevirtual 182, 3) := by decide +kernel
theorem dX8_excess_70 : decode cX8_excess 70 = .ok (.iconst 0, 1) := by decide +kernel
theorem dX8_excess_71 : decode cX8_excess 71 = .ok (.ireturn, 1) := by decide +kernel
theorem dX8_offAt_0 : decode cX8_offAt 0 = .ok (.aload_n 0, 1) := by decide +kernel
theorem dX8_offAt_1 : decode cX8_offAt 1 = .ok (.aload_n 0, 1) := by decide +kernel
theorem dX8_offAt_2 : decode cX8_offAt 2 = .ok (.iload_n 1, 1) := by decide +kernel
theorem dX8_offAt_3 : decode cX8_offAt 3 = .ok (.invokevirtual 84, 3) := by decide +kernel
theorem dX8_offAt_6 : decode cX8_offAt 6 = .ok (.aload_n 0, 1) := by decide +kernel
theorem dX8_offAt_7 : decode cX8_offAt 7 = .ok (.iload_n 1, 1) := by decide +kernel
theorem dX8_offAt_8 : decode cX8_offAt 8 = .ok (.invokevirtual 179, 3) := by decide +kernel
theorem dX8_offAt_11 : decode cX8_offAt 11 = .ok (.invokevirtual 297, 3) := by decide +kernel
theorem dX8_offAt_14 : decode cX8_offAt 14 = .ok (.ireturn, 1) := by decide +kernel
theorem dX8_best_0 : decode cX8_best 0 = .ok (.aload_n 0, 1) := by decide +kernel
theorem dX8_best_1 : decode cX8_best 1 = .ok (.iconst 0, 1) := by decide +kernel
theorem dX8_best_2 : decode cX8_best 2 = .ok (.putfield 61, 3) := by decide +kernel
theorem dX8_best_5 : decode cX8_best 5 = .ok (.aload_n 0, 1) := by decide +kernel
theorem dX8_best_6 : decode cX8_best 6 = .ok (.getfield 9, 3) := by decide +kernel
theorem dX8_best_9 : decode cX8_best 9 = .ok (.iconst 1, 1) := by decide +kernel
theorem dX8_best_10 : decode cX8_best 10 = .ok (.iaload, 1) := by decide +kernel
theorem dX8_best_11 : decode cX8_best 11 = .ok (.iconst 1, 1) := by decide +kernel
theorem dX8_best_12 : decode cX8_best 12 = .ok (.if_icmp .eq 6, 3) := by decide +kernel
theorem dX8_best_15 : decode cX8_best 15 = .ok (.bipush (-3), 2) := by decide +kernel
theorem dX8_best_17 : decode cX8_best 17 = .ok (.ireturn, 1) := by decide +kernel
theorem dX8_best_18 : decode cX8_best 18 = .ok (.iconst 0, 1) := by decide +kernel
theorem dX8_best_19 : decode cX8_best 19 = .ok (.istore_n 1, 1) := by decide +kernel
theorem dX8_best_20 : decode cX8_best 20 = .ok (.iconst 1, 1) := by decide +kernel
theorem dX8_best_21 : decode cX8_best 21 = .ok (.istore_n 2, 1) := by decide +kernel
theorem dX8_best_22 : decode cX8_best 22 = .ok (.iload_n 2, 1) := by decide +kernel
theorem dX8_best_23 : decode cX8_best 23 = .ok (.aload_n 0, 1) := by decide +kernel
theorem dX8_best_24 : decode cX8_best 24 = .ok (.invokevirtual 172, 3) := by decide +kernel
theorem dX8_best_27 : decode cX8_best 27 = .ok (.if_icmp .ge 24, 3) := by decide +kernel
theorem dX8_best_30 : decode cX8_best 30 = .ok (.aload_n 0, 1) := by decide +kernel
theorem dX8_best_31 : decode cX8_best 31 = .ok (.iload_n 2, 1) := by decide +kernel
theorem dX8_best_32 : decode cX8_best 32 = .ok (.invokevirtual 300, 3) := by decide +kernel
theorem dX8_best_35 : decode cX8_best 35 = .ok (.aload_n 0, 1) := by decide +kernel
theorem dX8_best_36 : decode cX8_best 36 = .ok (.iload_n 1, 1) := by decide +kernel
theorem dX8_best_37 : decode cX8_best 37 = .ok (.invokevirtual 300, 3) := by decide +kernel
theorem dX8_best_40 : decode cX8_best 40 = .ok (.if_icmp .ge 5, 3) := by decide +kernel
theorem dX8_best_43 : decode cX8_best 43 = .ok (.iload_n 2, 1) := by decide +kernel
theorem dX8_best_44 : decode cX8_best 44 = .ok (.istore_n 1, 1) := by decide +kernel
theorem dX8_best_45 : decode cX8_best 45 = .ok (.iinc 2 1, 3) := by decide +kernel
theorem dX8_best_48 : decode cX8_best 48 = .ok (.goto (-26), 3) := by decide +kernel
theorem dX8_best_51 : decode cX8_best 51 = .ok (.aload_n 0, 1) := by decide +kernel
theorem dX8_best_52 : decode cX8_best 52 = .ok (.iconst 0, 1) := by decide +kernel
theorem dX8_best_53 : decode cX8_best 53 = .ok (.putfield 65, 3) := by decide +kernel
theorem dX8_best_56 : decode cX8_best 56 = .ok (.aload_n 0, 1) := by decide +kernel
theorem dX8_best_57 : decode cX8_best 57 = .ok (.aload_n 0, 1) := by decide +kernel
theorem dX8_best_58 : decode cX8_best 58 = .ok (.iload_n 1, 1) := by decide +kernel
theorem dX8_best_59 : decode cX8_best 59 = .ok (.invokevirtual 84, 3) := by decide +kernel
theorem dX8_best_62 : decode cX8_best 62 = .ok (.i2l, 1) := by decide +kernel
theorem dX8_best_63 : decode cX8_best 63 = .ok (.invokevirtual 182, 3) := by decide +kernel
theorem dX8_best_66 : decode cX8_best 66 = .ok (.aload_n 0, 1) := by decide +kernel
theorem dX8_best_67 : decode cX8_best 67 = .ok (.aload_n 0, 1) := by decide +kernel
theorem dX8_best_68 : decode cX8_best 68 = .ok (.iload_n 1, 1) := by decide +kernel
theorem dX8_best_69 : decode cX8_best 69 = .ok (.invokevirtual 179, 3) := by decide +kernel
theorem dX8_best_72 : decode cX8_best 72 = .ok (.i2l, 1) := by decide +kernel
theorem dX8_best_73 : decode cX8_best 73 = .ok (.invokevirtual 182, 3) := by decide +kernel
theorem dX8_best_76 : decode cX8_best 76 = .ok (.aload_n 0, 1) := by decide +kernel
theorem dX8_best_77 : decode cX8_best 77 = .ok (.aload_n 0, 1) := by decide +kernel
theorem dX8_best_78 : decode cX8_best 78 = .ok (.iload_n 1, 1) := by decide +kernel
theorem dX8_best_79 : decode cX8_best 79 = .ok (.invokevirtual 300, 3) := by decide +kernel
theorem dX8_best_82 : decode cX8_best 82 = .ok (.i2l, 1) := by decide +kernel
theorem dX8_best_83 : decode cX8_best 83 = .ok (.invokevirtual 182, 3) := by decide +kernel
theorem dX8_best_86 : decode cX8_best 86 = .ok (.iload_n 1, 1) := by decide +kernel
theorem dX8_best_87 : decode cX8_best 87 = .ok (.ireturn, 1) := by decide +kernel
theorem dX8_clears_0 : decode cX8_clears 0 = .ok (.aload_n 0, 1) := by decide +kernel
theorem dX8_clears_1 : decode cX8_clears 1 = .ok (.iconst 0, 1) := by decide +kernel
theorem dX8_clears_2 : decode cX8_clears 2 = .ok (.putfield 61, 3) := by decide +kernel
theorem dX8_clears_5 : decode cX8_clears 5 = .ok (.aload_n 0, 1) := by decide +kernel
theorem dX8_clears_6 : decode cX8_clears 6 = .ok (.getfield 9, 3) := by decide +kernel
theorem dX8_clears_9 : decode cX8_clears 9 = .ok (.iconst 1, 1) := by decide +kernel
theorem dX8_clears_10 : decode cX8_clears 10 = .ok (.iaload, 1) := by decide +kernel
theorem dX8_clears_11 : decode cX8_clears 11 = .ok (.iconst 1, 1) := by decide +kernel
theorem dX8_clears_12 : decode cX8_clears 12 = .ok (.if_icmp .eq 6, 3) := by decide +kernel
theorem dX8_clears_15 : decode cX8_clears 15 = .ok (.bipush (-3), 2) := by decide +kernel
theorem dX8_clears_17 : decode cX8_clears 17 = .ok (.ireturn, 1) := by decide +kernel
theorem dX8_clears_18 : decode cX8_clears 18 = .ok (.iconst (-1), 1) := by decide +kernel
theorem dX8_clears_19 : decode cX8_clears 19 = .ok (.istore_n 1, 1) := by decide +kernel
theorem dX8_clears_20 : decode cX8_clears 20 = .ok (.iconst (-1), 1) := by decide +kernel
theorem dX8_clears_21 : decode cX8_clears 21 = .ok (.istore_n 2, 1) := by decide +kernel
theorem dX8_clears_22 : decode cX8_clears 22 = .ok (.iconst 0, 1) := by decide +kernel
theorem dX8_clears_23 : decode cX8_clears 23 = .ok (.istore_n 3, 1) := by decide +kernel
theorem dX8_clears_24 : decode cX8_clears 24 = .ok (.iload_n 3, 1) := by decide +kernel
theorem dX8_clears_25 : decode cX8_clears 25 = .ok (.aload_n 0, 1) := by decide +kernel
theorem dX8_clears_26 : decode cX8_clears 26 = .ok (.invokevirtual 210, 3) := by decide +kernel
theorem dX8_clears_29 : decode cX8_clears 29 = .ok (.if_icmp .ge 77, 3) := by decide +kernel
theorem dX8_clears_32 : decode cX8_clears 32 = .ok (.iconst 0, 1) := by decide +kernel
theorem dX8_clears_33 : decode cX8_clears 33 = .ok (.istore 4, 2) := by decide +kernel
theorem dX8_clears_35 : decode cX8_clears 35 = .ok (.iload 4, 2) := by decide +kernel
theorem dX8_clears_37 : decode cX8_clears 37 = .ok (.iconst 3, 1) := by decide +kernel
theorem dX8_clears_38 : decode cX8_clears 38 = .ok (.if_icmp .ge 62, 3) := by decide +kernel
theorem dX8_clears_41 : decode cX8_clears 41 = .ok (.aload_n 0, 1) := by decide +kernel
theorem dX8_clears_42 : decode cX8_clears 42 = .ok (.iload_n 3, 1) := by decide +kernel
theorem dX8_clears_43 : decode cX8_clears 43 = .ok (.invokevirtual 213, 3) := by decide +kernel
theorem dX8_clears_46 : decode cX8_clears 46 = .ok (.ifCond .eq 54, 3) := by decide +kernel
theorem dX8_clears_49 : decode cX8_clears 49 = .ok (.aload_n 0, 1) := by decide +kernel
theorem dX8_clears_50 : decode cX8_clears 50 = .ok (.iload_n 3, 1) := by decide +kernel
theorem dX8_clears_51 : decode cX8_clears 51 = .ok (.invokevirtual 206, 3) := by decide +kernel
theorem dX8_clears_54 : decode cX8_clears 54 = .ok (.ifCond .eq 46, 3) := by decide +kernel
theorem dX8_clears_57 : decode cX8_clears 57 = .ok (.iload_n 1, 1) := by decide +kernel
theorem dX8_clears_58 : decode cX8_clears 58 = .ok (.iconst (-1), 1) := by decide +kernel
theorem dX8_clears_59 : decode cX8_clears 59 = .ok (.if_icmp .eq 25, 3) := by decide +kernel
theorem dX8_clears_62 : decode cX8_clears 62 = .ok (.aload_n 0, 1) := by decide +kernel
theorem dX8_clears_63 : decode cX8_clears 63 = .ok (.aload_n 0, 1) := by decide +kernel
theorem dX8_clears_64 : decode cX8_clears 64 = .ok (.iload_n 3, 1) := by decide +kernel
theorem dX8_clears_65 : decode cX8_clears 65 = .ok (.iload 4, 2) := by decide +kernel
theorem dX8_clears_67 : decode cX8_clears 67 = .ok (.invokevirtual 197, 3) := by decide +kernel
theorem dX8_clears_70 : decode cX8_clears 70 = .ok (.invokevirtual 300, 3) := by decide +kernel
theorem dX8_clears_73 : decode cX8_clears 73 = .ok (.aload_n 0, 1) := by decide +kernel
theorem dX8_clears_74 : decode cX8_clears 74 = .ok (.iload_n 2, 1) := by decide +kernel
theorem dX8_clears_75 : decode cX8_clears 75 = .ok (.invokevirtual 300, 3) := by decide +kernel
theorem dX8_clears_78 : decode cX8_clears 78 = .ok (.if_icmp .lt 6, 3) := by decide +kernel
theorem dX8_clears_81 : decode cX8_clears 81 = .ok (.goto 13, 3) := by decide +kernel
theorem dX8_clears_84 : decode cX8_clears 84 = .ok (.iload_n 3, 1) := by decide +kernel
theorem dX8_clears_85 : decode cX8_clears 85 = .ok (.istore_n 1, 1) := by decide +kernel
theorem dX8_clears_86 : decode cX8_clears 86 = .ok (.aload_n 0, 1) := by decide +kernel
theorem dX8_clears_87 : decode cX8_clears 87 = .ok (.iload_n 3, 1) := by decide +kernel
theorem dX8_clears_88 : decode cX8_clears 88 = .ok (.iload 4, 2) := by decide +kernel
theorem dX8_clears_90 : decode cX8_clears 90 = .ok (.invokevirtual 197, 3) := by decide +kernel
theorem dX8_clears_93 : decode cX8_clears 93 = .ok (.istore_n 2, 1) := by decide +kernel
theorem dX8_clears_94 : decode cX8_clears 94 = .ok (.iinc 4 1, 3) := by decide +kernel
theorem dX8_clears_97 : decode cX8_clears 97 = .ok (.goto (-62), 3) := by decide +kernel
theorem dX8_clears_100 : decode cX8_clears 100 = .ok (.iinc 3 1, 3) := by decide +kernel
theorem dX8_clears_103 : decode cX8_clears 103 = .ok (.goto (-79), 3) := by decide +kernel
theorem dX8_clears_106 : decode cX8_clears 106 = .ok (.iload_n 1, 1) := by decide +kernel
theorem dX8_clears_107 : decode cX8_clears 107 = .ok (.iconst (-1), 1) := by decide +kernel
theorem dX8_clears_108 : decode cX8_clears 108 = .ok (.if_icmp .ne 6, 3) := by decide +kernel
theorem dX8_clears_111 : decode cX8_clears 111 = .ok (.bipush (-2), 2) := by decide +kernel
theorem dX8_clears_113 : decode cX8_clears 113 = .ok (.ireturn, 1) := by decide +kernel
theorem dX8_clears_114 : decode cX8_clears 114 = .ok (.iconst 0, 1) := by decide +kernel
theorem dX8_clears_115 : decode cX8_clears 115 = .ok (.istore_n 3, 1) := by decide +kernel
theorem dX8_clears_116 : decode cX8_clears 116 = .ok (.iconst 0, 1) := by decide +kernel
theorem dX8_clears_117 : decode cX8_clears 117 = .ok (.istore 4, 2) := by decide +kernel
theorem dX8_clears_119 : decode cX8_clears 119 = .ok (.iload 4, 2) := by decide +kernel
theorem dX8_clears_121 : decode cX8_clears 121 = .ok (.aload_n 0, 1) := by decide +kernel
theorem dX8_clears_122 : decode cX8_clears 122 = .ok (.invokevirtual 172, 3) := by decide +kernel
theorem dX8_clears_125 : decode cX8_clears 125 = .ok (.if_icmp .ge 31, 3) := by decide +kernel
theorem dX8_clears_128 : decode cX8_clears 128 = .ok (.iload_n 3, 1) := by decide +kernel
theorem dX8_clears_129 : decode cX8_clears 129 = .ok (.aload_n 0, 1) := by decide +kernel
theorem dX8_clears_130 : decode cX8_clears 130 = .ok (.iload 4, 2) := by decide +kernel
theorem dX8_clears_132 : decode cX8_clears 132 = .ok (.invokevirtual 300, 3) := by decide +kernel
theorem dX8_clears_135 : decode cX8_clears 135 = .ok (.aload_n 0, 1) := by decide +kernel
theorem dX8_clears_136 : decode cX8_clears 136 = .ok (.iload_n 2, 1) := by decide +kernel
theorem dX8_clears_137 : decode cX8_clears 137 = .ok (.invokevirtual 300, 3) := by decide +kernel
theorem dX8_clears_140 : decode cX8_clears 140 = .ok (.if_icmp .ge 7, 3) := by decide +kernel
theorem dX8_clears_143 : decode cX8_clears 143 = .ok (.iconst 1, 1) := by decide +kernel
theorem dX8_clears_144 : decode cX8_clears 144 = .ok (.goto 4, 3) := by decide +kernel
theorem dX8_clears_147 : decode cX8_clears 147 = .ok (.iconst 0, 1) := by decide +kernel
theorem dX8_clears_148 : decode cX8_clears 148 = .ok (.iadd, 1) := by decide +kernel
theorem dX8_clears_149 : decode cX8_clears 149 = .ok (.istore_n 3, 1) := by decide +kernel
theorem dX8_clears_150 : decode cX8_clears 150 = .ok (.iinc 4 1, 3) := by decide +kernel
theorem dX8_clears_153 : decode cX8_clears 153 = .ok (.goto (-34), 3) := by decide +kernel
theorem dX8_clears_156 : decode cX8_clears 156 = .ok (.aload_n 0, 1) := by decide +kernel
theorem dX8_clears_157 : decode cX8_clears 157 = .ok (.iconst 0, 1) := by decide +kernel
theorem dX8_clears_158 : decode cX8_clears 158 = .ok (.putfield 65, 3) := by decide +kernel
theorem dX8_clears_161 : decode cX8_clears 161 = .ok (.aload_n 0, 1) := by decide +kernel
theorem dX8_clears_162 : decode cX8_clears 162 = .ok (.aload_n 0, 1) := by decide +kernel
theorem dX8_clears_163 : decode cX8_clears 163 = .ok (.iload_n 2, 1) := by decide +kernel
theorem dX8_clears_164 : decode cX8_clears 164 = .ok (.invokevirtual 84, 3) := by decide +kernel
theorem dX8_clears_167 : decode cX8_clears 167 = .ok (.i2l, 1) := by decide +kernel
theorem dX8_clears_168 : decode cX8_clears 168 = .ok (.invokevirtual 182, 3) := by decide +kernel
theorem dX8_clears_171 : decode cX8_clears 171 = .ok (.aload_n 0, 1) := by decide +kernel
theorem dX8_clears_172 : decode cX8_clears 172 = .ok (.aload_n 0, 1) := by decide +kernel
theorem dX8_clears_173 : decode cX8_clears 173 = .ok (.iload_n 2, 1) := by decide +kernel
theorem dX8_clears_174 : decode cX8_clears 174 = .ok (.invokevirtual 179, 3) := by decide +kernel
theorem dX8_clears_177 : decode cX8_clears 177 = .ok (.i2l, 1) := by decide +kernel
theorem dX8_clears_178 : decode cX8_clears 178 = .ok (.invokevirtual 182, 3) := by decide +kernel
theorem dX8_clears_181 : decode cX8_clears 181 = .ok (.aload_n 0, 1) := by decide +kernel
theorem dX8_clears_182 : decode cX8_clears 182 = .ok (.aload_n 0, 1) := by decide +kernel
theorem dX8_clears_183 : decode cX8_clears 183 = .ok (.iload_n 2, 1) := by decide +kernel
theorem dX8_clears_184 : decode cX8_clears 184 = .ok (.invokevirtual 300, 3) := by decide +kernel
theorem dX8_clears_187 : decode cX8_clears 187 = .ok (.i2l, 1) := by decide +kernel
theorem dX8_clears_188 : decode cX8_clears 188 = .ok (.invokevirtual 182, 3) := by decide +kernel
theorem dX8_clears_191 : decode cX8_clears 191 = .ok (.aload_n 0, 1) := by decide +kernel
theorem dX8_clears_192 : decode cX8_clears 192 = .ok (.iload_n 3, 1) := by decide +kernel
theorem dX8_clears_193 : decode cX8_clears 193 = .ok (.i2l, 1) := by decide +kernel
theorem dX8_clears_194 : decode cX8_clears 194 = .ok (.invokevirtual 182, 3) := by decide +kernel
theorem dX8_clears_197 : decode cX8_clears 197 = .ok (.iload_n 1, 1) := by decide +kernel
theorem dX8_clears_198 : decode cX8_clears 198 = .ok (.ireturn, 1) := by decide +kernel
theorem dX8_sells_0 : decode cX8_sells 0 = .ok (.aload_n 0, 1) := by decide +kernel
theorem dX8_sells_1 : decode cX8_sells 1 = .ok (.iconst 0, 1) := by decide +kernel
theorem dX8_sells_2 : decode cX8_sells 2 = .ok (.putfield 61, 3) := by decide +kernel
theorem dX8_sells_5 : decode cX8_sells 5 = .ok (.aload_n 0, 1) := by decide +kernel
theorem dX8_sells_6 : decode cX8_sells 6 = .ok (.iload_n 1, 1) := by decide +kernel
theorem dX8_sells_7 : decode cX8_sells 7 = .ok (.iload_n 2, 1) := by decide +kernel
theorem dX8_sells_8 : decode cX8_sells 8 = .ok (.invokevirtual 219, 3) := by decide +kernel
theorem dX8_sells_11 : decode cX8_sells 11 = .ok (.ifCond .eq 12, 3) := by decide +kernel
theorem dX8_sells_14 : decode cX8_sells 14 = .ok (.iload_n 3, 1) := by decide +kernel
theorem dX8_sells_15 : decode cX8_sells 15 = .ok (.iconst 0, 1) := by decide +kernel
theorem dX8_sells_16 : decode cX8_sells 16 = .ok (.iconst 2, 1) := by decide +kernel
theorem dX8_sells_17 : decode cX8_sells 17 = .ok (.invokestatic 72, 3) := by decide +kernel
theorem dX8_sells_20 : decode cX8_sells 20 = .ok (.ifCond .ne 5, 3) := by decide +kernel
theorem dX8_sells_23 : decode cX8_sells 23 = .ok (.iconst (-1), 1) := by decide +kernel
theorem dX8_sells_24 : decode cX8_sells 24 = .ok (.ireturn, 1) := by decide +kernel
theorem dX8_sells_25 : decode cX8_sells 25 = .ok (.aload_n 0, 1) := by decide +kernel
theorem dX8_sells_26 : decode cX8_sells 26 = .ok (.getfield 9, 3) := by decide +kernel
theorem dX8_sells_29 : decode cX8_sells 29 = .ok (.iconst 1, 1) := by decide +kernel
theorem dX8_sells_30 : decode cX8_sells 30 = .ok (.iaload, 1) := by decide +kernel
theorem dX8_sells_31 : decode cX8_sells 31 = .ok (.iconst 1, 1) := by decide +kernel
theorem dX8_sells_32 : decode cX8_sells 32 = .ok (.if_icmp .eq 6, 3) := by decide +kernel
theorem dX8_sells_35 : decode cX8_sells 35 = .ok (.bipush (-3), 2) := by decide +kernel
theorem dX8_sells_37 : decode cX8_sells 37 = .ok (.ireturn, 1) := by decide +kernel
theorem dX8_sells_38 : decode cX8_sells 38 = .ok (.iconst 0, 1) := by decide +kernel
theorem dX8_sells_39 : decode cX8_sells 39 = .ok (.istore 4, 2) := by decide +kernel
theorem dX8_sells_41 : decode cX8_sells 41 = .ok (.iconst 0, 1) := by decide +kernel
theorem dX8_sells_42 : decode cX8_sells 42 = .ok (.istore 5, 2) := by decide +kernel
theorem dX8_sells_44 : decode cX8_sells 44 = .ok (.iconst 0, 1) := by decide +kernel
theorem dX8_sells_45 : decode cX8_sells 45 = .ok (.istore 6, 2) := by decide +kernel
theorem dX8_sells_47 : decode cX8_sells 47 = .ok (.iload 6, 2) := by decide +kernel
theorem dX8_sells_49 : decode cX8_sells 49 = .ok (.aload_n 0, 1) := by decide +kernel
theorem dX8_sells_50 : decode cX8_sells 50 = .ok (.getfield 9, 3) := by decide +kernel
theorem dX8_sells_53 : decode cX8_sells 53 = .ok (.iconst 2, 1) := by decide +kernel
theorem dX8_sells_54 : decode cX8_sells 54 = .ok (.iaload, 1) := by decide +kernel
theorem dX8_sells_55 : decode cX8_sells 55 = .ok (.if_icmp .ge 65, 3) := by decide +kernel
theorem dX8_sells_58 : decode cX8_sells 58 = .ok (.aload_n 0, 1) := by decide +kernel
theorem dX8_sells_59 : decode cX8_sells 59 = .ok (.iload 6, 2) := by decide +kernel
theorem dX8_sells_61 : decode cX8_sells 61 = .ok (.iload_n 1, 1) := by decide +kernel
theorem dX8_sells_62 : decode cX8_sells 62 = .ok (.iload_n 2, 1) := by decide +kernel
theorem dX8_sells_63 : decode cX8_sells 63 = .ok (.invokevirtual 97, 3) := by decide +kernel
theorem dX8_sells_66 : decode cX8_sells 66 = .ok (.aload_n 0, 1) := by decide +kernel
theorem dX8_sells_67 : decode cX8_sells 67 = .ok (.iload 6, 2) := by decide +kernel
theorem dX8_sells_69 : decode cX8_sells 69 = .ok (.iload_n 3, 1) := by decide +kernel
theorem dX8_sells_70 : decode cX8_sells 70 = .ok (.invokevirtual 88, 3) := by decide +kernel
theorem dX8_sells_73 : decode cX8_sells 73 = .ok (.imul, 1) := by decide +kernel
theorem dX8_sells_74 : decode cX8_sells 74 = .ok (.aload_n 0, 1) := by decide +kernel
theorem dX8_sells_75 : decode cX8_sells 75 = .ok (.iload_n 1, 1) := by decide +kernel
theorem dX8_sells_76 : decode cX8_sells 76 = .ok (.iload_n 2, 1) := by decide +kernel
theorem dX8_sells_77 : decode cX8_sells 77 = .ok (.iload_n 3, 1) := by decide +kernel
theorem dX8_sells_78 : decode cX8_sells 78 = .ok (.invokevirtual 76, 3) := by decide +kernel
theorem dX8_sells_81 : decode cX8_sells 81 = .ok (.aload_n 0, 1) := by decide +kernel
theorem dX8_sells_82 : decode cX8_sells 82 = .ok (.iload 6, 2) := by decide +kernel
theorem dX8_sells_84 : decode cX8_sells 84 = .ok (.iload_n 3, 1) := by decide +kernel
theorem dX8_sells_85 : decode cX8_sells 85 = .ok (.invokevirtual 91, 3) := by decide +kernel
theorem dX8_sells_88 : decode cX8_sells 88 = .ok (.imul, 1) := by decide +kernel
theorem dX8_sells_89 : decode cX8_sells 89 = .ok (.aload_n 0, 1) := by decide +kernel
theorem dX8_sells_90 : decode cX8_sells 90 = .ok (.iload 6, 2) := by decide +kernel
theorem dX8_sells_92 : decode cX8_sells 92 = .ok (.invokevirtual 94, 3) := by decide +kernel
theorem dX8_sells_95 : decode cX8_sells 95 = .ok (.imul, 1) := by decide +kernel
theorem dX8_sells_96 : decode cX8_sells 96 = .ok (.if_icmp .le 6, 3) := by decide +kernel
theorem dX8_sells_99 : decode cX8_sells 99 = .ok (.goto 15, 3) := by decide +kernel
theorem dX8_sells_102 : decode cX8_sells 102 = .ok (.iload 4, 2) := by decide +kernel
theorem dX8_sells_104 : decode cX8_sells 104 = .ok (.iconst 1, 1) := by decide +kernel
theorem dX8_sells_105 : decode cX8_sells 105 = .ok (.iload 6, 2) := by decide +kernel
theorem dX8_sells_107 : decode cX8_sells 107 = .ok (.ishl, 1) := by decide +kernel
theorem dX8_sells_108 : decode cX8_sells 108 = .ok (.ior, 1) := by decide +kernel
theorem dX8_sells_109 : decode cX8_sells 109 = .ok (.istore 4, 2) := by decide +kernel
theorem dX8_sells_111 : decode cX8_sells 111 = .ok (.iinc 5 1, 3) := by decide +kernel
theorem dX8_sells_114 : decode cX8_sells 114 = .ok (.iinc 6 1, 3) := by decide +kernel
theorem dX8_sells_117 : decode cX8_sells 117 = .ok (.goto (-70), 3) := by decide +kernel
theorem dX8_sells_120 : decode cX8_sells 120 = .ok (.aload_n 0, 1) := by decide +kernel
theorem dX8_sells_121 : decode cX8_sells 121 = .ok (.iconst 0, 1) := by decide +kernel
theorem dX8_sells_122 : decode cX8_sells 122 = .ok (.putfield 65, 3) := by decide +kernel
theorem dX8_sells_125 : decode cX8_sells 125 = .ok (.aload_n 0, 1) := by decide +kernel
theorem dX8_sells_126 : decode cX8_sells 126 = .ok (.iload 5, 2) := by decide +kernel
theorem dX8_sells_128 : decode cX8_sells 128 = .ok (.i2l, 1) := by decide +kernel
theorem dX8_sells_129 : decode cX8_sells 129 = .ok (.invokevirtual 182, 3) := by decide +kernel
theorem dX8_sells_132 : decode cX8_sells 132 = .ok (.iload 4, 2) := by decide +kernel
theorem dX8_sells_134 : decode cX8_sells 134 = .ok (.ireturn, 1) := by decide +kernel
theorem dX8_were_0 : decode cX8_were 0 = .ok (.aload_n 0, 1) := by decide +kernel
theorem dX8_were_1 : decode cX8_were 1 = .ok (.iconst 0, 1) := by decide +kernel
theorem dX8_were_2 : decode cX8_were 2 = .ok (.putfield 61, 3) := by decide +kernel
theorem dX8_were_5 : decode cX8_were 5 = .ok (.aload_n 0, 1) := by decide +kernel
theorem dX8_were_6 : decode cX8_were 6 = .ok (.iload_n 1, 1) := by decide +kernel
theorem dX8_were_7 : decode cX8_were 7 = .ok (.iload_n 2, 1) := by decide +kernel
theorem dX8_were_8 : decode cX8_were 8 = .ok (.invokevirtual 219, 3) := by decide +kernel
theorem dX8_were_11 : decode cX8_were 11 = .ok (.ifCond .eq 12, 3) := by decide +kernel
theorem dX8_were_14 : decode cX8_were 14 = .ok (.iload_n 3, 1) := by decide +kernel
theorem dX8_were_15 : decode cX8_were 15 = .ok (.iconst 0, 1) := by decide +kernel
theorem dX8_were_16 : decode cX8_were 16 = .ok (.iconst 2, 1) := by decide +kernel
theorem dX8_were_17 : decode cX8_were 17 = .ok (.invokestatic 72, 3) := by decide +kernel
theorem dX8_were_20 : decode cX8_were 20 = .ok (.ifCond .ne 5, 3) := by decide +kernel
theorem dX8_were_23 : decode cX8_were 23 = .ok (.iconst (-1), 1) := by decide +kernel
theorem dX8_were_24 : decode cX8_were 24 = .ok (.ireturn, 1) := by decide +kernel
theorem dX8_were_25 : decode cX8_were 25 = .ok (.aload_n 0, 1) := by decide +kernel
theorem dX8_were_26 : decode cX8_were 26 = .ok (.iload_n 1, 1) := by decide +kernel
theorem dX8_were_27 : decode cX8_were 27 = .ok (.iload_n 2, 1) := by decide +kernel
theorem dX8_were_28 : decode cX8_were 28 = .ok (.iload_n 3, 1) := by decide +kernel
theorem dX8_were_29 : decode cX8_were 29 = .ok (.invokevirtual 111, 3) := by decide +kernel
theorem dX8_were_32 : decode cX8_were 32 = .ok (.ifCond .ne 6, 3) := by decide +kernel
theorem dX8_were_35 : decode cX8_were 35 = .ok (.bipush (-4), 2) := by decide +kernel
theorem dX8_were_37 : decode cX8_were 37 = .ok (.ireturn, 1) := by decide +kernel
theorem dX8_were_38 : decode cX8_were 38 = .ok (.iconst 0, 1) := by decide +kernel
theorem dX8_were_39 : decode cX8_were 39 = .ok (.istore 4, 2) := by decide +kernel
theorem dX8_were_41 : decode cX8_were 41 = .ok (.iload 4, 2) := by decide +kernel
theorem dX8_were_43 : decode cX8_were 43 = .ok (.aload_n 0, 1) := by decide +kernel
theorem dX8_were_44 : decode cX8_were 44 = .ok (.invokevirtual 210, 3) := by decide +kernel
theorem dX8_were_47 : decode cX8_were 47 = .ok (.if_icmp .ge 39, 3) := by decide +kernel
theorem dX8_were_50 : decode cX8_were 50 = .ok (.aload_n 0, 1) := by decide +kernel
theorem dX8_were_51 : decode cX8_were 51 = .ok (.getfield 42, 3) := by decide +kernel
theorem dX8_were_54 : decode cX8_were 54 = .ok (.iload 4, 2) := by decide +kernel
theorem dX8_were_56 : decode cX8_were 56 = .ok (.aload_n 0, 1) := by decide +kernel
theorem dX8_were_57 : decode cX8_were 57 = .ok (.iload 4, 2) := by decide +kernel
theorem dX8_were_59 : decode cX8_were 59 = .ok (.invokevirtual 213, 3) := by decide +kernel
theorem dX8_were_62 : decode cX8_were 62 = .ok (.ifCond .eq 16, 3) := by decide +kernel
theorem dX8_were_65 : decode cX8_were 65 = .ok (.aload_n 0, 1) := by decide +kernel
theorem dX8_were_66 : decode cX8_were 66 = .ok (.iload 4, 2) := by decide +kernel
theorem dX8_were_68 : decode cX8_were 68 = .ok (.invokevirtual 206, 3) := by decide +kernel
theorem dX8_were_71 : decode cX8_were 71 = .ok (.ifCond .eq 7, 3) := by decide +kernel
theorem dX8_were_74 : decode cX8_were 74 = .ok (.iconst 1, 1) := by decide +kernel
theorem dX8_were_75 : decode cX8_were 75 = .ok (.goto 4, 3) := by decide +kernel
theorem dX8_were_78 : decode cX8_were 78 = .ok (.iconst 0, 1) := by decide +kernel
theorem dX8_were_79 : decode cX8_were 79 = .ok (.bastore, 1) := by decide +kernel
theorem dX8_were_80 : decode cX8_were 80 = .ok (.iinc 4 1, 3) := by decide +kernel
theorem dX8_were_83 : decode cX8_were 83 = .ok (.goto (-42), 3) := by decide +kernel
theorem dX8_were_86 : decode cX8_were 86 = .ok (.aload_n 0, 1) := by decide +kernel
theorem dX8_were_87 : decode cX8_were 87 = .ok (.iload_n 1, 1) := by decide +kernel
theorem dX8_were_88 : decode cX8_were 88 = .ok (.iload_n 2, 1) := by decide +kernel
theorem dX8_were_89 : decode cX8_were 89 = .ok (.invokevirtual 80, 3) := by decide +kernel
theorem dX8_were_92 : decode cX8_were 92 = .ok (.istore 4, 2) := by decide +kernel
theorem dX8_were_94 : decode cX8_were 94 = .ok (.aload_n 0, 1) := by decide +kernel
theorem dX8_were_95 : decode cX8_were 95 = .ok (.iload 4, 2) := by decide +kernel
theorem dX8_were_97 : decode cX8_were 97 = .ok (.invokevirtual 188, 3) := by decide +kernel
theorem dX8_were_100 : decode cX8_were 100 = .ok (.istore 5, 2) := by decide +kernel
theorem dX8_were_102 : decode cX8_were 102 = .ok (.aload_n 0, 1) := by decide +kernel
theorem dX8_were_103 : decode cX8_were 103 = .ok (.getfield 9, 3) := by decide +kernel
theorem dX8_were_106 : decode cX8_were 106 = .ok (.bipush 36, 2) := by decide +kernel
theorem dX8_were_108 : decode cX8_were 108 = .ok (.iload 4, 2) := by decide +kernel
theorem dX8_were_110 : decode cX8_were 110 = .ok (.iadd, 1) := by decide +kernel
theorem dX8_were_111 : decode cX8_were 111 = .ok (.iload_n 3, 1) := by decide +kernel
theorem dX8_were_112 : decode cX8_were 112 = .ok (.iastore, 1) := by decide +kernel
theorem dX8_were_113 : decode cX8_were 113 = .ok (.aload_n 0, 1) := by decide +kernel
theorem dX8_were_114 : decode cX8_were 114 = .ok (.invokevirtual 226, 3) := by decide +kernel
theorem dX8_were_117 : decode cX8_were 117 = .ok (.istore 6, 2) := by decide +kernel
theorem dX8_were_119 : decode cX8_were 119 = .ok (.iconst 0, 1) := by decide +kernel
theorem dX8_were_120 : decode cX8_were 120 = .ok (.istore 7, 2) := by decide +kernel
theorem dX8_were_122 : decode cX8_were 122 = .ok (.iconst 0, 1) := by decide +kernel
theorem dX8_were_123 : decode cX8_were 123 = .ok (.istore 8, 2) := by decide +kernel
theorem dX8_were_125 : decode cX8_were 125 = .ok (.iload 8, 2) := by decide +kernel
theorem dX8_were_127 : decode cX8_were 127 = .ok (.aload_n 0, 1) := by decide +kernel
theorem dX8_were_128 : decode cX8_were 128 = .ok (.invokevirtual 210, 3) := by decide +kernel
theorem dX8_were_131 : decode cX8_were 131 = .ok (.if_icmp .ge 47, 3) := by decide +kernel
theorem dX8_were_134 : decode cX8_were 134 = .ok (.iload 7, 2) := by decide +kernel
theorem dX8_were_136 : decode cX8_were 136 = .ok (.aload_n 0, 1) := by decide +kernel
theorem dX8_were_137 : decode cX8_were 137 = .ok (.iload 8, 2) := by decide +kernel
theorem dX8_were_139 : decode cX8_were 139 = .ok (.invokevirtual 213, 3) := by decide +kernel
theorem dX8_were_142 : decode cX8_were 142 = .ok (.ifCond .eq 26, 3) := by decide +kernel
theorem dX8_were_145 : decode cX8_were 145 = .ok (.aload_n 0, 1) := by decide +kernel
theorem dX8_were_146 : decode cX8_were 146 = .ok (.iload 8, 2) := by decide +kernel
theorem dX8_were_148 : decode cX8_were 148 = .ok (.invokevirtual 206, 3) := by decide +kernel
theorem dX8_were_151 : decode cX8_were 151 = .ok (.ifCond .eq 17, 3) := by decide +kernel
theorem dX8_were_154 : decode cX8_were 154 = .ok (.aload_n 0, 1) := by decide +kernel
theorem dX8_were_155 : decode cX8_were 155 = .ok (.getfield 42, 3) := by decide +kernel
theorem dX8_were_158 : decode cX8_were 158 = .ok (.iload 8, 2) := by decide +kernel
theorem dX8_were_160 : decode cX8_were 160 = .ok (.baload, 1) := by decide +kernel
theorem dX8_were_161 : decode cX8_were 161 = .ok (.ifCond .ne 7, 3) := by decide +kernel
theorem dX8_were_164 : decode cX8_were 164 = .ok (.iconst 1, 1) := by decide +kernel
theorem dX8_were_165 : decode cX8_were 165 = .ok (.goto 4, 3) := by decide +kernel
theorem dX8_were_168 : decode cX8_were 168 = .ok (.iconst 0, 1) := by decide +kernel
theorem dX8_were_169 : decode cX8_were 169 = .ok (.iadd, 1) := by decide +kernel
theorem dX8_were_170 : decode cX8_were 170 = .ok (.istore 7, 2) := by decide +kernel
theorem dX8_were_172 : decode cX8_were 172 = .ok (.iinc 8 1, 3) := by decide +kernel
theorem dX8_were_175 : decode cX8_were 175 = .ok (.goto (-50), 3) := by decide +kernel
theorem dX8_were_178 : decode cX8_were 178 = .ok (.aload_n 0, 1) := by decide +kernel
theorem dX8_were_179 : decode cX8_were 179 = .ok (.iconst 0, 1) := by decide +kernel
theorem dX8_were_180 : decode cX8_were 180 = .ok (.putfield 65, 3) := by decide +kernel
theorem dX8_were_183 : decode cX8_were 183 = .ok (.aload_n 0, 1) := by decide +kernel
theorem dX8_were_184 : decode cX8_were 184 = .ok (.aload_n 0, 1) := by decide +kernel
theorem dX8_were_185 : decode cX8_were 185 = .ok (.invokevirtual 229, 3) := by decide +kernel
theorem dX8_were_188 : decode cX8_were 188 = .ok (.i2l, 1) := by decide +kernel
theorem dX8_were_189 : decode cX8_were 189 = .ok (.invokevirtual 182, 3) := by decide +kernel
theorem dX8_were_192 : decode cX8_were 192 = .ok (.aload_n 0, 1) := by decide +kernel
theorem dX8_were_193 : decode cX8_were 193 = .ok (.iload 7, 2) := by decide +kernel
theorem dX8_were_195 : decode cX8_were 195 = .ok (.i2l, 1) := by decide +kernel
theorem dX8_were_196 : decode cX8_were 196 = .ok (.invokevirtual 182, 3) := by decide +kernel
theorem dX8_were_199 : decode cX8_were 199 = .ok (.aload_n 0, 1) := by decide +kernel
theorem dX8_were_200 : decode cX8_were 200 = .ok (.getfield 9, 3) := by decide +kernel
theorem dX8_were_203 : decode cX8_were 203 = .ok (.bipush 36, 2) := by decide +kernel
theorem dX8_were_205 : decode cX8_were 205 = .ok (.iload 4, 2) := by decide +kernel
theorem dX8_were_207 : decode cX8_were 207 = .ok (.iadd, 1) := by decide +kernel
theorem dX8_were_208 : decode cX8_were 208 = .ok (.iload 5, 2) := by decide +kernel
theorem dX8_were_210 : decode cX8_were 210 = .ok (.iastore, 1) := by decide +kernel
theorem dX8_were_211 : decode cX8_were 211 = .ok (.iload 6, 2) := by decide +kernel
theorem dX8_were_213 : decode cX8_were 213 = .ok (.ireturn, 1) := by decide +kernel
theorem dX8_fullBy_0 : decode cX8_fullBy 0 = .ok (.aload_n 0, 1) := by decide +kernel
theorem dX8_fullBy_1 : decode cX8_fullBy 1 = .ok (.iload_n 1, 1) := by decide +kernel
theorem dX8_fullBy_2 : decode cX8_fullBy 2 = .ok (.invokevirtual 188, 3) := by decide +kernel
theorem dX8_fullBy_5 : decode cX8_fullBy 5 = .ok (.iload_n 2, 1) := by decide +kernel
theorem dX8_fullBy_6 : decode cX8_fullBy 6 = .ok (.if_icmp .eq 21, 3) := by decide +kernel
theorem dX8_fullBy_9 : decode cX8_fullBy 9 = .ok (.aload_n 0, 1) := by decide +kernel
theorem dX8_fullBy_10 : decode cX8_fullBy 10 = .ok (.aload_n 0, 1) := by decide +kernel
theorem dX8_fullBy_11 : decode cX8_fullBy 11 = .ok (.iload_n 1, 1) := by decide +kernel
theorem dX8_fullBy_12 : decode cX8_fullBy 12 = .ok (.invokevirtual 84, 3) := by decide +kernel
theorem dX8_fullBy_15 : decode cX8_fullBy 15 = .ok (.aload_n 0, 1) := by decide +kernel
theorem dX8_fullBy_16 : decode cX8_fullBy 16 = .ok (.iload_n 1, 1) := by decide +kernel
theorem dX8_fullBy_17 : decode cX8_fullBy 17 = .ok (.invokevirtual 179, 3) := by decide +kernel
theorem dX8_fullBy_20 : decode cX8_fullBy 20 = .ok (.iload_n 2, 1) := by decide +kernel
theorem dX8_fullBy_21 : decode cX8_fullBy 21 = .ok (.invokevirtual 111, 3) := by decide +kernel
theorem dX8_fullBy_24 : decode cX8_fullBy 24 = .ok (.ifCond .ne 5, 3) := by decide +kernel
theorem dX8_fullBy_27 : decode cX8_fullBy 27 = .ok (.iconst (-1), 1) := by decide +kernel
theorem dX8_fullBy_28 : decode cX8_fullBy 28 = .ok (.ireturn, 1) := by decide +kernel
theorem dX8_fullBy_29 : decode cX8_fullBy 29 = .ok (.aload_n 0, 1) := by decide +kernel
theorem dX8_fullBy_30 : decode cX8_fullBy 30 = .ok (.iload_n 1, 1) := by decide +kernel
theorem dX8_fullBy_31 : decode cX8_fullBy 31 = .ok (.invokevirtual 188, 3) := by decide +kernel
theorem dX8_fullBy_34 : decode cX8_fullBy 34 = .ok (.istore_n 3, 1) := by decide +kernel
theorem dX8_fullBy_35 : decode cX8_fullBy 35 = .ok (.aload_n 0, 1) := by decide +kernel
theorem dX8_fullBy_36 : decode cX8_fullBy 36 = .ok (.getfield 9, 3) := by decide +kernel
theorem dX8_fullBy_39 : decode cX8_fullBy 39 = .ok (.bipush 36, 2) := by decide +kernel
theorem dX8_fullBy_41 : decode cX8_fullBy 41 = .ok (.iload_n 1, 1) := by decide +kernel
theorem dX8_fullBy_42 : decode cX8_fullBy 42 = .ok (.iadd, 1) := by decide +kernel
theorem dX8_fullBy_43 : decode cX8_fullBy 43 = .ok (.iload_n 2, 1) := by decide +kernel
theorem dX8_fullBy_44 : decode cX8_fullBy 44 = .ok (.iastore, 1) := by decide +kernel
theorem dX8_fullBy_45 : decode cX8_fullBy 45 = .ok (.aload_n 0, 1) := by decide +kernel
theorem dX8_fullBy_46 : decode cX8_fullBy 46 = .ok (.invokevirtual 226, 3) := by decide +kernel
theorem dX8_fullBy_49 : decode cX8_fullBy 49 = .ok (.istore 4, 2) := by decide +kernel
theorem dX8_fullBy_51 : decode cX8_fullBy 51 = .ok (.aload_n 0, 1) := by decide +kernel
theorem dX8_fullBy_52 : decode cX8_fullBy 52 = .ok (.getfield 9, 3) := by decide +kernel
theorem dX8_fullBy_55 : decode cX8_fullBy 55 = .ok (.bipush 36, 2) := by decide +kernel
theorem dX8_fullBy_57 : decode cX8_fullBy 57 = .ok (.iload_n 1, 1) := by decide +kernel
theorem dX8_fullBy_58 : decode cX8_fullBy 58 = .ok (.iadd, 1) := by decide +kernel
theorem dX8_fullBy_59 : decode cX8_fullBy 59 = .ok (.iload_n 3, 1) := by decide +kernel
theorem dX8_fullBy_60 : decode cX8_fullBy 60 = .ok (.iastore, 1) := by decide +kernel
theorem dX8_fullBy_61 : decode cX8_fullBy 61 = .ok (.iload 4, 2) := by decide +kernel
theorem dX8_fullBy_63 : decode cX8_fullBy 63 = .ok (.ireturn, 1) := by decide +kernel
theorem dX8_hangs_0 : decode cX8_hangs 0 = .ok (.aload_n 0, 1) := by decide +kernel
theorem dX8_hangs_1 : decode cX8_hangs 1 = .ok (.iconst 0, 1) := by decide +kernel
theorem dX8_hangs_2 : decode cX8_hangs 2 = .ok (.putfield 61, 3) := by decide +kernel
theorem dX8_hangs_5 : decode cX8_hangs 5 = .ok (.aload_n 0, 1) := by decide +kernel
theorem dX8_hangs_6 : decode cX8_hangs 6 = .ok (.iload_n 1, 1) := by decide +kernel
theorem dX8_hangs_7 : decode cX8_hangs 7 = .ok (.invokevirtual 213, 3) := by decide +kernel
theorem dX8_hangs_10 : decode cX8_hangs 10 = .ok (.ifCond .ne 5, 3) := by decide +kernel
theorem dX8_hangs_13 : decode cX8_hangs 13 = .ok (.iconst (-1), 1) := by decide +kernel
theorem dX8_hangs_14 : decode cX8_hangs 14 = .ok (.ireturn, 1) := by decide +kernel
theorem dX8_hangs_15 : decode cX8_hangs 15 = .ok (.aload_n 0, 1) := by decide +kernel
theorem dX8_hangs_16 : decode cX8_hangs 16 = .ok (.iload_n 1, 1) := by decide +kernel
theorem dX8_hangs_17 : decode cX8_hangs 17 = .ok (.invokevirtual 206, 3) := by decide +kernel
theorem dX8_hangs_20 : decode cX8_hangs 20 = .ok (.ifCond .ne 6, 3) := by decide +kernel
theorem dX8_hangs_23 : decode cX8_hangs 23 = .ok (.bipush (-2), 2) := by decide +kernel
theorem dX8_hangs_25 : decode cX8_hangs 25 = .ok (.ireturn, 1) := by decide +kernel
theorem dX8_hangs_26 : decode cX8_hangs 26 = .ok (.aload_n 0, 1) := by decide +kernel
theorem dX8_hangs_27 : decode cX8_hangs 27 = .ok (.invokevirtual 226, 3) := by decide +kernel
theorem dX8_hangs_30 : decode cX8_hangs 30 = .ok (.istore_n 2, 1) := by decide +kernel
theorem dX8_hangs_31 : decode cX8_hangs 31 = .ok (.iconst 0, 1) := by decide +kernel
theorem dX8_hangs_32 : decode cX8_hangs 32 = .ok (.istore_n 3, 1) := by decide +kernel
theorem dX8_hangs_33 : decode cX8_hangs 33 = .ok (.aload_n 0, 1) := by decide +kernel
theorem dX8_hangs_34 : decode cX8_hangs 34 = .ok (.iconst 0, 1) := by decide +kernel
theorem dX8_hangs_35 : decode cX8_hangs 35 = .ok (.putfield 65, 3) := by decide +kernel
theorem dX8_hangs_38 : decode cX8_hangs 38 = .ok (.iconst 0, 1) := by decide +kernel
theorem dX8_hangs_39 : decode cX8_hangs 39 = .ok (.istore 4, 2) := by decide +kernel
theorem dX8_hangs_41 : decode cX8_hangs 41 = .ok (.iload 4, 2) := by decide +kernel
theorem dX8_hangs_43 : decode cX8_hangs 43 = .ok (.iconst 3, 1) := by decide +kernel
theorem dX8_hangs_44 : decode cX8_hangs 44 = .ok (.if_icmp .ge 68, 3) := by decide +kernel
theorem dX8_hangs_47 : decode cX8_hangs 47 = .ok (.iconst (-1), 1) := by decide +kernel
theorem dX8_hangs_48 : decode cX8_hangs 48 = .ok (.istore 5, 2) := by decide +kernel
theorem dX8_hangs_50 : decode cX8_hangs 50 = .ok (.iconst 2, 1) := by decide +kernel
theorem dX8_hangs_51 : decode cX8_hangs 51 = .ok (.istore 6, 2) := by decide +kernel
theorem dX8_hangs_53 : decode cX8_hangs 53 = .ok (.iload 6, 2) := by decide +kernel
theorem dX8_hangs_55 : decode cX8_hangs 55 = .ok (.ifCond .lt 30, 3) := by decide +kernel
theorem dX8_hangs_58 : decode cX8_hangs 58 = .ok (.aload_n 0, 1) := by decide +kernel
theorem dX8_hangs_59 : decode cX8_hangs 59 = .ok (.aload_n 0, 1) := by decide +kernel
theorem dX8_hangs_60 : decode cX8_hangs 60 = .ok (.iload_n 1, 1) := by decide +kernel
theorem dX8_hangs_61 : decode cX8_hangs 61 = .ok (.iload 4, 2) := by decide +kernel
theorem dX8_hangs_63 : decode cX8_hangs 63 = .ok (.invokevirtual 197, 3) := by decide +kernel
theorem dX8_hangs_66 : decode cX8_hangs 66 = .ok (.iload 6, 2) := by decide +kernel
theorem dX8_hangs_68 : decode cX8_hangs 68 = .ok (.invokevirtual 303, 3) := by decide +kernel
theorem dX8_hangs_71 : decode cX8_hangs 71 = .ok (.iload_n 2, 1) := by decide +kernel
theorem dX8_hangs_72 : decode cX8_hangs 72 = .ok (.if_icmp .lt 7, 3) := by decide +kernel
theorem dX8_hangs_75 : decode cX8_hangs 75 = .ok (.iload 6, 2) := by decide +kernel
theorem dX8_hangs_77 : decode cX8_hangs 77 = .ok (.istore 5, 2) := by decide +kernel
theorem dX8_hangs_79 : decode cX8_hangs 79 = .ok (.iinc 6 (-1), 3) := by decide +kernel
theorem dX8_hangs_82 : decode cX8_hangs 82 = .ok (.goto (-29), 3) := by decide +kernel
theorem dX8_hangs_85 : decode cX8_hangs 85 = .ok (.iload_n 3, 1) := by decide +kernel
theorem dX8_hangs_86 : decode cX8_hangs 86 = .ok (.iload 5, 2) := by decide +kernel
theorem dX8_hangs_88 : decode cX8_hangs 88 = .ok (.iconst (-1), 1) := by decide +kernel
theorem dX8_hangs_89 : decode cX8_hangs 89 = .ok (.if_icmp .ne 7, 3) := by decide +kernel
theorem dX8_hangs_92 : decode cX8_hangs 92 = .ok (.iconst 0, 1) := by decide +kernel
theorem dX8_hangs_93 : decode cX8_hangs 93 = .ok (.goto 4, 3) := by decide +kernel
theorem dX8_hangs_96 : decode cX8_hangs 96 = .ok (.iconst 1, 1) := by decide +kernel
theorem dX8_hangs_97 : decode cX8_hangs 97 = .ok (.iadd, 1) := by decide +kernel
theorem dX8_hangs_98 : decode cX8_hangs 98 = .ok (.istore_n 3, 1) := by decide +kernel
theorem dX8_hangs_99 : decode cX8_hangs 99 = .ok (.aload_n 0, 1) := by decide +kernel
theorem dX8_hangs_100 : decode cX8_hangs 100 = .ok (.iload 5, 2) := by decide +kernel
theorem dX8_hangs_102 : decode cX8_hangs 102 = .ok (.i2l, 1) := by decide +kernel
theorem dX8_hangs_103 : decode cX8_hangs 103 = .ok (.invokevirtual 182, 3) := by decide +kernel
theorem dX8_hangs_106 : decode cX8_hangs 106 = .ok (.iinc 4 1, 3) := by decide +kernel
theorem dX8_hangs_109 : decode cX8_hangs 109 = .ok (.goto (-68), 3) := by decide +kernel
theorem dX8_hangs_112 : decode cX8_hangs 112 = .ok (.iload_n 3, 1) := by decide +kernel
theorem dX8_hangs_113 : decode cX8_hangs 113 = .ok (.ireturn, 1) := by decide +kernel
theorem dX8_lone_0 : decode cX8_lone 0 = .ok (.aload_n 0, 1) := by decide +kernel
theorem dX8_lone_1 : decode cX8_lone 1 = .ok (.iconst 0, 1) := by decide +kernel
theorem dX8_lone_2 : decode cX8_lone 2 = .ok (.putfield 61, 3) := by decide +kernel
theorem dX8_lone_5 : decode cX8_lone 5 = .ok (.aload_n 0, 1) := by decide +kernel
theorem dX8_lone_6 : decode cX8_lone 6 = .ok (.invokevirtual 226, 3) := by decide +kernel
theorem dX8_lone_9 : decode cX8_lone 9 = .ok (.istore_n 1, 1) := by decide +kernel
theorem dX8_lone_10 : decode cX8_lone 10 = .ok (.iconst (-1), 1) := by decide +kernel
theorem dX8_lone_11 : decode cX8_lone 11 = .ok (.istore_n 2, 1) := by decide +kernel
theorem dX8_lone_12 : decode cX8_lone 12 = .ok (.iconst (-1), 1) := by decide +kernel
theorem dX8_lone_13 : decode cX8_lone 13 = .ok (.istore_n 3, 1) := by decide +kernel
theorem dX8_lone_14 : decode cX8_lone 14 = .ok (.aload_n 0, 1) := by decide +kernel
theorem dX8_lone_15 : decode cX8_lone 15 = .ok (.invokevirtual 172, 3) := by decide +kernel
theorem dX8_lone_18 : decode cX8_lone 18 = .ok (.iconst 1, 1) := by decide +kernel
theorem dX8_lone_19 : decode cX8_lone 19 = .ok (.isub, 1) := by decide +kernel
theorem dX8_lone_20 : decode cX8_lone 20 = .ok (.istore 4, 2) := by decide +kernel
theorem dX8_lone_22 : decode cX8_lone 22 = .ok (.iload 4, 2) := by decide +kernel
theorem dX8_lone_24 : decode cX8_lone 24 = .ok (.ifCond .lt 49, 3) := by decide +kernel
theorem dX8_lone_27 : decode cX8_lone 27 = .ok (.iload_n 1, 1) := by decide +kernel
theorem dX8_lone_28 : decode cX8_lone 28 = .ok (.iconst 1, 1) := by decide +kernel
theorem dX8_lone_29 : decode cX8_lone 29 = .ok (.if_icmp .eq 44, 3) := by decide +kernel
theorem dX8_lone_32 : decode cX8_lone 32 = .ok (.iconst 2, 1) := by decide +kernel
theorem dX8_lone_33 : decode cX8_lone 33 = .ok (.istore 5, 2) := by decide +kernel
theorem dX8_lone_35 : decode cX8_lone 35 = .ok (.iload 5, 2) := by decide +kernel
theorem dX8_lone_37 : decode cX8_lone 37 = .ok (.ifCond .lt 30, 3) := by decide +kernel
theorem dX8_lone_40 : decode cX8_lone 40 = .ok (.aload_n 0, 1) := by decide +kernel
theorem dX8_lone_41 : decode cX8_lone 41 = .ok (.iload 4, 2) := by decide +kernel
theorem dX8_lone_43 : decode cX8_lone 43 = .ok (.iload 5, 2) := by decide +kernel
theorem dX8_lone_45 : decode cX8_lone 45 = .ok (.invokevirtual 303, 3) := by decide +kernel
theorem dX8_lone_48 : decode cX8_lone 48 = .ok (.iconst 1, 1) := by decide +kernel
theorem dX8_lone_49 : decode cX8_lone 49 = .ok (.if_icmp .eq 6, 3) := by decide +kernel
theorem dX8_lone_52 : decode cX8_lone 52 = .ok (.goto 9, 3) := by decide +kernel
theorem dX8_lone_55 : decode cX8_lone 55 = .ok (.iload 4, 2) := by decide +kernel
theorem dX8_lone_57 : decode cX8_lone 57 = .ok (.istore_n 2, 1) := by decide +kernel
theorem dX8_lone_58 : decode cX8_lone 58 = .ok (.iload 5, 2) := by decide +kernel
theorem dX8_lone_60 : decode cX8_lone 60 = .ok (.istore_n 3, 1) := by decide +kernel
theorem dX8_lone_61 : decode cX8_lone 61 = .ok (.iinc 5 (-1), 3) := by decide +kernel
theorem dX8_lone_64 : decode cX8_lone 64 = .ok (.goto (-29), 3) := by decide +kernel
theorem dX8_lone_67 : decode cX8_lone 67 = .ok (.iinc 4 (-1), 3) := by decide +kernel
theorem dX8_lone_70 : decode cX8_lone 70 = .ok (.goto (-48), 3) := by decide +kernel
theorem dX8_lone_73 : decode cX8_lone 73 = .ok (.iload_n 1, 1) := by decide +kernel
theorem dX8_lone_74 : decode cX8_lone 74 = .ok (.iconst 1, 1) := by decide +kernel
theorem dX8_lone_75 : decode cX8_lone 75 = .ok (.if_icmp .eq 11, 3) := by decide +kernel
theorem dX8_lone_78 : decode cX8_lone 78 = .ok (.iload_n 2, 1) := by decide +kernel
theorem dX8_lone_79 : decode cX8_lone 79 = .ok (.iconst (-1), 1) := by decide +kernel
theorem dX8_lone_80 : decode cX8_lone 80 = .ok (.if_icmp .ne 6, 3) := by decide +kernel
theorem dX8_lone_83 : decode cX8_lone 83 = .ok (.bipush (-2), 2) := by decide +kernel
theorem dX8_lone_85 : decode cX8_lone 85 = .ok (.ireturn, 1) := by decide +kernel
theorem dX8_lone_86 : decode cX8_lone 86 = .ok (.aload_n 0, 1) := by decide +kernel
theorem dX8_lone_87 : decode cX8_lone 87 = .ok (.iconst 0, 1) := by decide +kernel
theorem dX8_lone_88 : decode cX8_lone 88 = .ok (.putfield 65, 3) := by decide +kernel
theorem dX8_lone_91 : decode cX8_lone 91 = .ok (.aload_n 0, 1) := by decide +kernel
theorem dX8_lone_92 : decode cX8_lone 92 = .ok (.iload_n 1, 1) := by decide +kernel
theorem dX8_lone_93 : decode cX8_lone 93 = .ok (.i2l, 1) := by decide +kernel
theorem dX8_lone_94 : decode cX8_lone 94 = .ok (.invokevirtual 182, 3) := by decide +kernel
theorem dX8_lone_97 : decode cX8_lone 97 = .ok (.aload_n 0, 1) := by decide +kernel
theorem dX8_lone_98 : decode cX8_lone 98 = .ok (.iload_n 2, 1) := by decide +kernel
theorem dX8_lone_99 : decode cX8_lone 99 = .ok (.i2l, 1) := by decide +kernel
theorem dX8_lone_100 : decode cX8_lone 100 = .ok (.invokevirtual 182, 3) := by decide +kernel
theorem dX8_lone_103 : decode cX8_lone 103 = .ok (.aload_n 0, 1) := by decide +kernel
theorem dX8_lone_104 : decode cX8_lone 104 = .ok (.iload_n 3, 1) := by decide +kernel
theorem dX8_lone_105 : decode cX8_lone 105 = .ok (.i2l, 1) := by decide +kernel
theorem dX8_lone_106 : decode cX8_lone 106 = .ok (.invokevirtual 182, 3) := by decide +kernel
theorem dX8_lone_109 : decode cX8_lone 109 = .ok (.iload_n 2, 1) := by decide +kernel
theorem dX8_lone_110 : decode cX8_lone 110 = .ok (.iconst (-1), 1) := by decide +kernel
theorem dX8_lone_111 : decode cX8_lone 111 = .ok (.if_icmp .ne 7, 3) := by decide +kernel
theorem dX8_lone_114 : decode cX8_lone 114 = .ok (.iconst 0, 1) := by decide +kernel
theorem dX8_lone_115 : decode cX8_lone 115 = .ok (.goto 4, 3) := by decide +kernel
theorem dX8_lone_118 : decode cX8_lone 118 = .ok (.iconst 1, 1) := by decide +kernel
theorem dX8_lone_119 : decode cX8_lone 119 = .ok (.ireturn, 1) := by decide +kernel
theorem dX8_lay_0 : decode cX8_lay 0 = .ok (.iconst 0, 1) := by decide +kernel
theorem dX8_lay_1 : decode cX8_lay 1 = .ok (.istore_n 1, 1) := by decide +kernel
theorem dX8_lay_2 : decode cX8_lay 2 = .ok (.iload_n 1, 1) := by decide +kernel
theorem dX8_lay_3 : decode cX8_lay 3 = .ok (.sipush 189, 3) := by decide +kernel
theorem dX8_lay_6 : decode cX8_lay 6 = .ok (.if_icmp .ge 21, 3) := by decide +kernel
theorem dX8_lay_9 : decode cX8_lay 9 = .ok (.aload_n 0, 1) := by decide +kernel
theorem dX8_lay_10 : decode cX8_lay 10 = .ok (.getfield 49, 3) := by decide +kernel
theorem dX8_lay_13 : decode cX8_lay 13 = .ok (.iload_n 1, 1) := by decide +kernel
theorem dX8_lay_14 : decode cX8_lay 14 = .ok (.aload_n 0, 1) := by decide +kernel
theorem dX8_lay_15 : decode cX8_lay 15 = .ok (.getfield 9, 3) := by decide +kernel
theorem dX8_lay_18 : decode cX8_lay 18 = .ok (.iload_n 1, 1) := by decide +kernel
theorem dX8_lay_19 : decode cX8_lay 19 = .ok (.iaload, 1) := by decide +kernel
theorem dX8_lay_20 : decode cX8_lay 20 = .ok (.iastore, 1) := by decide +kernel
theorem dX8_lay_21 : decode cX8_lay 21 = .ok (.iinc 1 1, 3) := by decide +kernel
theorem dX8_lay_24 : decode cX8_lay 24 = .ok (.goto (-22), 3) := by decide +kernel
theorem dX8_lay_27 : decode cX8_lay 27 = .ok (.return_, 1) := by decide +kernel
theorem dX8_note_0 : decode cX8_note 0 = .ok (.aload_n 0, 1) := by decide +kernel
theorem dX8_note_1 : decode cX8_note 1 = .ok (.getfield 306, 3) := by decide +kernel
theorem dX8_note_4 : decode cX8_note 4 = .ok (.bipush 8, 2) := by decide +kernel
theorem dX8_note_6 : decode cX8_note 6 = .ok (.if_icmp .ne 44, 3) := by decide +kernel
theorem dX8_note_9 : decode cX8_note 9 = .ok (.iconst 0, 1) := by decide +kernel
theorem dX8_note_10 : decode cX8_note 10 = .ok (.istore_n 1, 1) := by decide +kernel
theorem dX8_note_11 : decode cX8_note 11 = .ok (.iload_n 1, 1) := by decide +kernel
theorem dX8_note_12 : decode cX8_note 12 = .ok (.sipush 1323, 3) := by decide +kernel
theorem dX8_note_15 : decode cX8_note 15 = .ok (.if_icmp .ge 25, 3) := by decide +kernel
theorem dX8_note_18 : decode cX8_note 18 = .ok (.aload_n 0, 1) := by decide +kernel
theorem dX8_note_19 : decode cX8_note 19 = .ok (.getfield 46, 3) := by decide +kernel
theorem dX8_note_22 : decode cX8_note 22 = .ok (.iload_n 1, 1) := by decide +kernel
theorem dX8_note_23 : decode cX8_note 23 = .ok (.aload_n 0, 1) := by decide +kernel
theorem dX8_note_24 : decode cX8_note 24 = .ok (.getfield 46, 3) := by decide +kernel
theorem dX8_note_27 : decode cX8_note 27 = .ok (.iload_n 1, 1) := by decide +kernel
theorem dX8_note_28 : decode cX8_note 28 = .ok (.sipush 189, 3) := by decide +kernel
theorem dX8_note_31 : decode cX8_note 31 = .ok (.iadd, 1) := by decide +kernel
theorem dX8_note_32 : decode cX8_note 32 = .ok (.iaload, 1) := by decide +kernel
theorem dX8_note_33 : decode cX8_note 33 = .ok (.iastore, 1) := by decide +kernel
theorem dX8_note_34 : decode cX8_note 34 = .ok (.iinc 1 1, 3) := by decide +kernel
theorem dX8_note_37 : decode cX8_note 37 = .ok (.goto (-26), 3) := by decide +kernel
theorem dX8_note_40 : decode cX8_note 40 = .ok (.aload_n 0, 1) := by decide +kernel
theorem dX8_note_41 : decode cX8_note 41 = .ok (.dup, 1) := by decide +kernel
theorem dX8_note_42 : decode cX8_note 42 = .ok (.getfield 306, 3) := by decide +kernel
theorem dX8_note_45 : decode cX8_note 45 = .ok (.iconst 1, 1) := by decide +kernel
theorem dX8_note_46 : decode cX8_note 46 = .ok (.isub, 1) := by decide +kernel
theorem dX8_note_47 : decode cX8_note 47 = .ok (.putfield 306, 3) := by decide +kernel
theorem dX8_note_50 : decode cX8_note 50 = .ok (.iconst 0, 1) := by decide +kernel
theorem dX8_note_51 : decode cX8_note 51 = .ok (.istore_n 1, 1) := by decide +kernel
theorem dX8_note_52 : decode cX8_note 52 = .ok (.iload_n 1, 1) := by decide +kernel
theorem dX8_note_53 : decode cX8_note 53 = .ok (.sipush 189, 3) := by decide +kernel
theorem dX8_note_56 : decode cX8_note 56 = .ok (.if_icmp .ge 30, 3) := by decide +kernel
theorem dX8_note_59 : decode cX8_note 59 = .ok (.aload_n 0, 1) := by decide +kernel
theorem dX8_note_60 : decode cX8_note 60 = .ok (.getfield 46, 3) := by decide +kernel
theorem dX8_note_63 : decode cX8_note 63 = .ok (.sipush 189, 3) := by decide +kernel
theorem dX8_note_66 : decode cX8_note 66 = .ok (.aload_n 0, 1) := by decide +kernel
theorem dX8_note_67 : decode cX8_note 67 = .ok (.getfield 306, 3) := by decide +kernel
theorem dX8_note_70 : decode cX8_note 70 = .ok (.imul, 1) := by decide +kernel
theorem dX8_note_71 : decode cX8_note 71 = .ok (.iload_n 1, 1) := by decide +kernel
theorem dX8_note_72 : decode cX8_note 72 = .ok (.iadd, 1) := by decide +kernel
theorem dX8_note_73 : decode cX8_note 73 = .ok (.aload_n 0, 1) := by decide +kernel
theorem dX8_note_74 : decode cX8_note 74 = .ok (.getfield 49, 3) := by decide +kernel
theorem dX8_note_77 : decode cX8_note 77 = .ok (.iload_n 1, 1) := by decide +kernel
theorem dX8_note_78 : decode cX8_note 78 = .ok (.iaload, 1) := by decide +kernel
theorem dX8_note_79 : decode cX8_note 79 = .ok (.iastore, 1) := by decide +kernel
theorem dX8_note_80 : decode cX8_note 80 = .ok (.iinc 1 1, 3) := by decide +kernel
theorem dX8_note_83 : decode cX8_note 83 = .ok (.goto (-31), 3) := by decide +kernel
theorem dX8_note_86 : decode cX8_note 86 = .ok (.aload_n 0, 1) := by decide +kernel
theorem dX8_note_87 : decode cX8_note 87 = .ok (.dup, 1) := by decide +kernel
theorem dX8_note_88 : decode cX8_note 88 = .ok (.getfield 306, 3) := by decide +kernel
theorem dX8_note_91 : decode cX8_note 91 = .ok (.iconst 1, 1) := by decide +kernel
theorem dX8_note_92 : decode cX8_note 92 = .ok (.iadd, 1) := by decide +kernel
theorem dX8_note_93 : decode cX8_note 93 = .ok (.putfield 306, 3) := by decide +kernel
theorem dX8_note_96 : decode cX8_note 96 = .ok (.return_, 1) := by decide +kernel
theorem dX8_change_0 : decode cX8_change 0 = .ok (.aload_n 0, 1) := by decide +kernel
theorem dX8_change_1 : decode cX8_change 1 = .ok (.invokevirtual 309, 3) := by decide +kernel
theorem dX8_change_4 : decode cX8_change 4 = .ok (.aload_n 0, 1) := by decide +kernel
theorem dX8_change_5 : decode cX8_change 5 = .ok (.invokevirtual 312, 3) := by decide +kernel
theorem dX8_change_8 : decode cX8_change 8 = .ok (.return_, 1) := by decide +kernel
theorem dX8_refusesLay_0 : decode cX8_refusesLay 0 = .ok (.aload_n 0, 1) := by decide +kernel
theorem dX8_refusesLay_1 : decode cX8_refusesLay 1 = .ok (.iload_n 1, 1) := by decide +kernel
theorem dX8_refusesLay_2 : decode cX8_refusesLay 2 = .ok (.iload_n 2, 1) := by decide +kernel
theorem dX8_refusesLay_3 : decode cX8_refusesLay 3 = .ok (.invokevirtual 219, 3) := by decide +kernel
theorem dX8_refusesLay_6 : decode cX8_refusesLay 6 = .ok (.ifCond .eq 12, 3) := by decide +kernel
theorem dX8_refusesLay_9 : decode cX8_refusesLay 9 = .ok (.iload_n 3, 1) := by decide +kernel
theorem dX8_refusesLay_10 : decode cX8_refusesLay 10 = .ok (.iconst 0, 1) := by decide +kernel
theorem dX8_refusesLay_11 : decode cX8_refusesLay 11 = .ok (.iconst 2, 1) := by decide +kernel
theorem dX8_refusesLay_12 : decode cX8_refusesLay 12 = .ok (.invokestatic 72, 3) := by decide +kernel
theorem dX8_refusesLay_15 : decode cX8_refusesLay 15 = .ok (.ifCond .ne 5, 3) := by decide +kernel
theorem dX8_refusesLay_18 : decode cX8_refusesLay 18 = .ok (.iconst (-1), 1) := by decide +kernel
theorem dX8_refusesLay_19 : decode cX8_refusesLay 19 = .ok (.ireturn, 1) := by decide +kernel
theorem dX8_refusesLay_20 : decode cX8_refusesLay 20 = .ok (.aload_n 0, 1) := by decide +kernel
theorem dX8_refusesLay_21 : decode cX8_refusesLay 21 = .ok (.aload_n 0, 1) := by decide +kernel
theorem dX8_refusesLay_22 : decode cX8_refusesLay 22 = .ok (.iload_n 1, 1) := by decide +kernel
theorem dX8_refusesLay_23 : decode cX8_refusesLay 23 = .ok (.iload_n 2, 1) := by decide +kernel
theorem dX8_refusesLay_24 : decode cX8_refusesLay 24 = .ok (.invokevirtual 80, 3) := by decide +kernel
theorem dX8_refusesLay_27 : decode cX8_refusesLay 27 = .ok (.invokevirtual 188, 3) := by decide +kernel
theorem dX8_refusesLay_30 : decode cX8_refusesLay 30 = .ok (.iload_n 3, 1) := by decide +kernel
theorem dX8_refusesLay_31 : decode cX8_refusesLay 31 = .ok (.if_icmp .ne 8, 3) := by decide +kernel
theorem dX8_refusesLay_34 : decode cX8_refusesLay 34 = .ok (.bipush (-2), 2) := by decide +kernel
theorem dX8_refusesLay_36 : decode cX8_refusesLay 36 = .ok (.goto 19, 3) := by decide +kernel
theorem dX8_refusesLay_39 : decode cX8_refusesLay 39 = .ok (.aload_n 0, 1) := by decide +kernel
theorem dX8_refusesLay_40 : decode cX8_refusesLay 40 = .ok (.iload_n 1, 1) := by decide +kernel
theorem dX8_refusesLay_41 : decode cX8_refusesLay 41 = .ok (.iload_n 2, 1) := by decide +kernel
theorem dX8_refusesLay_42 : decode cX8_refusesLay 42 = .ok (.iload_n 3, 1) := by decide +kernel
theorem dX8_refusesLay_43 : decode cX8_refusesLay 43 = .ok (.invokevirtual 111, 3) := by decide +kernel
theorem dX8_refusesLay_46 : decode cX8_refusesLay 46 = .ok (.ifCond .eq 7, 3) := by decide +kernel
theorem dX8_refusesLay_49 : decode cX8_refusesLay 49 = .ok (.iconst 0, 1) := by decide +kernel
theorem dX8_refusesLay_50 : decode cX8_refusesLay 50 = .ok (.goto 5, 3) := by decide +kernel
theorem dX8_refusesLay_53 : decode cX8_refusesLay 53 = .ok (.bipush (-4), 2) := by decide +kernel
theorem dX8_refusesLay_55 : decode cX8_refusesLay 55 = .ok (.ireturn, 1) := by decide +kernel
theorem dX8_goLay_0 : decode cX8_goLay 0 = .ok (.aload_n 0, 1) := by decide +kernel
theorem dX8_goLay_1 : decode cX8_goLay 1 = .ok (.getfield 9, 3) := by decide +kernel
theorem dX8_goLay_4 : decode cX8_goLay 4 = .ok (.bipush 36, 2) := by decide +kernel
theorem dX8_goLay_6 : decode cX8_goLay 6 = .ok (.aload_n 0, 1) := by decide +kernel
theorem dX8_goLay_7 : decode cX8_goLay 7 = .ok (.iload_n 1, 1) := by decide +kernel
theorem dX8_goLay_8 : decode cX8_goLay 8 = .ok (.iload_n 2, 1) := by decide +kernel
theorem dX8_goLay_9 : decode cX8_goLay 9 = .ok (.invokevirtual 80, 3) := by decide +kernel
theorem dX8_goLay_12 : decode cX8_goLay 12 = .ok (.iadd, 1) := by decide +kernel
theorem dX8_goLay_13 : decode cX8_goLay 13 = .ok (.iload_n 3, 1) := by decide +kernel
theorem dX8_goLay_14 : decode cX8_goLay 14 = .ok (.iastore, 1) := by decide +kernel
theorem dX8_goLay_15 : decode cX8_goLay 15 = .ok (.aload_n 0, 1) := by decide +kernel
theorem dX8_goLay_16 : decode cX8_goLay 16 = .ok (.getfield 9, 3) := by decide +kernel
theorem dX8_goLay_19 : decode cX8_goLay 19 = .ok (.iconst 1, 1) := by decide +kernel
theorem dX8_goLay_20 : decode cX8_goLay 20 = .ok (.iconst 0, 1) := by decide +kernel
theorem dX8_goLay_21 : decode cX8_goLay 21 = .ok (.iastore, 1) := by decide +kernel
theorem dX8_goLay_22 : decode cX8_goLay 22 = .ok (.return_, 1) := by decide +kernel
theorem dX8_lays_0 : decode cX8_lays 0 = .ok (.aload_n 0, 1) := by decide +kernel
theorem dX8_lays_1 : decode cX8_lays 1 = .ok (.iconst 0, 1) := by decide +kernel
theorem dX8_lays_2 : decode cX8_lays 2 = .ok (.putfield 61, 3) := by decide +kernel
theorem dX8_lays_5 : decode cX8_lays 5 = .ok (.aload_n 0, 1) := by decide +kernel
theorem dX8_lays_6 : decode cX8_lays 6 = .ok (.iload_n 1, 1) := by decide +kernel
theorem dX8_lays_7 : decode cX8_lays 7 = .ok (.iload_n 2, 1) := by decide +kernel
theorem dX8_lays_8 : decode cX8_lays 8 = .ok (.iload_n 3, 1) := by decide +kernel
theorem dX8_lays_9 : decode cX8_lays 9 = .ok (.invokevirtual 315, 3) := by decide +kernel
theorem dX8_lays_12 : decode cX8_lays 12 = .ok (.istore 4, 2) := by decide +kernel
theorem dX8_lays_14 : decode cX8_lays 14 = .ok (.iload 4, 2) := by decide +kernel
theorem dX8_lays_16 : decode cX8_lays 16 = .ok (.ifCond .ge 6, 3) := by decide +kernel
theorem dX8_lays_19 : decode cX8_lays 19 = .ok (.iload 4, 2) := by decide +kernel
theorem dX8_lays_21 : decode cX8_lays 21 = .ok (.ireturn, 1) := by decide +kernel
theorem dX8_lays_22 : decode cX8_lays 22 = .ok (.aload_n 0, 1) := by decide +kernel
theorem dX8_lays_23 : decode cX8_lays 23 = .ok (.invokevirtual 162, 3) := by decide +kernel
theorem dX8_lays_26 : decode cX8_lays 26 = .ok (.aload_n 0, 1) := by decide +kernel
theorem dX8_lays_27 : decode cX8_lays 27 = .ok (.aload_n 0, 1) := by decide +kernel
theorem dX8_lays_28 : decode cX8_lays 28 = .ok (.iload_n 1, 1) := by decide +kernel
theorem dX8_lays_29 : decode cX8_lays 29 = .ok (.iload_n 2, 1) := by decide +kernel
theorem dX8_lays_30 : decode cX8_lays 30 = .ok (.invokevirtual 80, 3) := by decide +kernel
theorem dX8_lays_33 : decode cX8_lays 33 = .ok (.invokevirtual 188, 3) := by decide +kernel
theorem dX8_lays_36 : decode cX8_lays 36 = .ok (.istore 5, 2) := by decide +kernel
theorem dX8_lays_38 : decode cX8_lays 38 = .ok (.aload_n 0, 1) := by decide +kernel
theorem dX8_lays_39 : decode cX8_lays 39 = .ok (.iload_n 1, 1) := by decide +kernel
theorem dX8_lays_40 : decode cX8_lays 40 = .ok (.iload_n 2, 1) := by decide +kernel
theorem dX8_lays_41 : decode cX8_lays 41 = .ok (.iload_n 3, 1) := by decide +kernel
theorem dX8_lays_42 : decode cX8_lays 42 = .ok (.invokevirtual 318, 3) := by decide +kernel
theorem dX8_lays_45 : decode cX8_lays 45 = .ok (.iload 5, 2) := by decide +kernel
theorem dX8_lays_47 : decode cX8_lays 47 = .ok (.ireturn, 1) := by decide +kernel
theorem dX8_refusesGrid_0 : decode cX8_refusesGrid 0 = .ok (.iload_n 1, 1) := by decide +kernel
theorem dX8_refusesGrid_1 : decode cX8_refusesGrid 1 = .ok (.iconst 1, 1) := by decide +kernel
theorem dX8_refusesGrid_2 : decode cX8_refusesGrid 2 = .ok (.bipush 16, 2) := by decide +kernel
theorem dX8_refusesGrid_4 : decode cX8_refusesGrid 4 = .ok (.invokestatic 72, 3) := by decide +kernel
theorem dX8_refusesGrid_7 : decode cX8_refusesGrid 7 = .ok (.ifCond .ne 7, 3) := by decide +kernel
theorem dX8_refusesGrid_10 : decode cX8_refusesGrid 10 = .ok (.iconst (-1), 1) := by decide +kernel
theorem dX8_refusesGrid_11 : decode cX8_refusesGrid 11 = .ok (.goto 31, 3) := by decide +kernel
theorem dX8_refusesGrid_14 : decode cX8_refusesGrid 14 = .ok (.iload_n 1, 1) := by decide +kernel
theorem dX8_refusesGrid_15 : decode cX8_refusesGrid 15 = .ok (.aload_n 0, 1) := by decide +kernel
theorem dX8_refusesGrid_16 : decode cX8_refusesGrid 16 = .ok (.invokevirtual 68, 3) := by decide +kernel
theorem dX8_refusesGrid_19 : decode cX8_refusesGrid 19 = .ok (.if_icmp .ne 8, 3) := by decide +kernel
theorem dX8_refusesGrid_22 : decode cX8_refusesGrid 22 = .ok (.bipush (-2), 2) := by decide +kernel
theorem dX8_refusesGrid_24 : decode cX8_refusesGrid 24 = .ok (.goto 18, 3) := by decide +kernel
theorem dX8_refusesGrid_27 : decode cX8_refusesGrid 27 = .ok (.aload_n 0, 1) := by decide +kernel
theorem dX8_refusesGrid_28 : decode cX8_refusesGrid 28 = .ok (.getfield 9, 3) := by decide +kernel
theorem dX8_refusesGrid_31 : decode cX8_refusesGrid 31 = .ok (.iconst 1, 1) := by decide +kernel
theorem dX8_refusesGrid_32 : decode cX8_refusesGrid 32 = .ok (.iaload, 1) := by decide +kernel
theorem dX8_refusesGrid_33 : decode cX8_refusesGrid 33 = .ok (.ifCond .ne 8, 3) := by decide +kernel
theorem dX8_refusesGrid_36 : decode cX8_refusesGrid 36 = .ok (.bipush (-3), 2) := by decide +kernel
theorem dX8_refusesGrid_38 : decode cX8_refusesGrid 38 = .ok (.goto 4, 3) := by decide +kernel
theorem dX8_refusesGrid_41 : decode cX8_refusesGrid 41 = .ok (.iconst 0, 1) := by decide +kernel
theorem dX8_refusesGrid_42 : decode cX8_refusesGrid 42 = .ok (.ireturn, 1) := by decide +kernel
theorem dX8_grid_0 : decode cX8_grid 0 = .ok (.aload_n 0, 1) := by decide +kernel
theorem dX8_grid_1 : decode cX8_grid 1 = .ok (.iconst 0, 1) := by decide +kernel
theorem dX8_grid_2 : decode cX8_grid 2 = .ok (.putfield 61, 3) := by decide +kernel
theorem dX8_grid_5 : decode cX8_grid 5 = .ok (.aload_n 0, 1) := by decide +kernel
theorem dX8_grid_6 : decode cX8_grid 6 = .ok (.iload_n 1, 1) := by decide +kernel
theorem dX8_grid_7 : decode cX8_grid 7 = .ok (.invokevirtual 321, 3) := by decide +kernel
theorem dX8_grid_10 : decode cX8_grid 10 = .ok (.istore_n 2, 1) := by decide +kernel
theorem dX8_grid_11 : decode cX8_grid 11 = .ok (.iload_n 2, 1) := by decide +kernel
theorem dX8_grid_12 : decode cX8_grid 12 = .ok (.ifCond .ge 5, 3) := by decide +kernel
theorem dX8_grid_15 : decode cX8_grid 15 = .ok (.iload_n 2, 1) := by decide +kernel
theorem dX8_grid_16 : decode cX8_grid 16 = .ok (.ireturn, 1) := by decide +kernel
theorem dX8_grid_17 : decode cX8_grid 17 = .ok (.aload_n 0, 1) := by decide +kernel
theorem dX8_grid_18 : decode cX8_grid 18 = .ok (.invokevirtual 162, 3) := by decide +kernel
theorem dX8_grid_21 : decode cX8_grid 21 = .ok (.aload_n 0, 1) := by decide +kernel
theorem dX8_grid_22 : decode cX8_grid 22 = .ok (.iload_n 1, 1) := by decide +kernel
theorem dX8_grid_23 : decode cX8_grid 23 = .ok (.invokevirtual 284, 3) := by decide +kernel
theorem dX8_grid_26 : decode cX8_grid 26 = .ok (.aload_n 0, 1) := by decide +kernel
theorem dX8_grid_27 : decode cX8_grid 27 = .ok (.invokevirtual 226, 3) := by decide +kernel
theorem dX8_grid_30 : decode cX8_grid 30 = .ok (.ireturn, 1) := by decide +kernel
theorem dX8_refusesSwap_0 : decode cX8_refusesSwap 0 = .ok (.aload_n 0, 1) := by decide +kernel
theorem dX8_refusesSwap_1 : decode cX8_refusesSwap 1 = .ok (.iload_n 1, 1) := by decide +kernel
theorem dX8_refusesSwap_2 : decode cX8_refusesSwap 2 = .ok (.iload_n 2, 1) := by decide +kernel
theorem dX8_refusesSwap_3 : decode cX8_refusesSwap 3 = .ok (.invokevirtual 219, 3) := by decide +kernel
theorem dX8_refusesSwap_6 : decode cX8_refusesSwap 6 = .ok (.ifCond .eq 24, 3) := by decide +kernel
theorem dX8_refusesSwap_9 : decode cX8_refusesSwap 9 = .ok (.aload_n 0, 1) := by decide +kernel
theorem dX8_refusesSwap_10 : decode cX8_refusesSwap 10 = .ok (.iload_n 3, 1) := by decide +kernel
theorem dX8_refusesSwap_11 : decode cX8_refusesSwap 11 = .ok (.iload 4, 2) := by decide +kernel
theorem dX8_refusesSwap_13 : decode cX8_refusesSwap 13 = .ok (.invokevirtual 219, 3) := by decide +kernel
theorem dX8_refusesSwap_16 : decode cX8_refusesSwap 16 = .ok (.ifCond .eq 14, 3) := by decide +kernel
theorem dX8_refusesSwap_19 : decode cX8_refusesSwap 19 = .ok (.iload_n 1, 1) := by decide +kernel
theorem dX8_refusesSwap_20 : decode cX8_refusesSwap 20 = .ok (.iload_n 3, 1) := by decide +kernel
theorem dX8_refusesSwap_21 : decode cX8_refusesSwap 21 = .ok (.if_icmp .ne 11, 3) := by decide +kernel
theorem dX8_refusesSwap_24 : decode cX8_refusesSwap 24 = .ok (.iload_n 2, 1) := by decide +kernel
theorem dX8_refusesSwap_25 : decode cX8_refusesSwap 25 = .ok (.iload 4, 2) := by decide +kernel
theorem dX8_refusesSwap_27 : decode cX8_refusesSwap 27 = .ok (.if_icmp .ne 5, 3) := by decide +kernel
theorem dX8_refusesSwap_30 : decode cX8_refusesSwap 30 = .ok (.iconst (-1), 1) := by decide +kernel
theorem dX8_refusesSwap_31 : decode cX8_refusesSwap 31 = .ok (.ireturn, 1) := by decide +kernel
theorem dX8_refusesSwap_32 : decode cX8_refusesSwap 32 = .ok (.aload_n 0, 1) := by decide +kernel
theorem dX8_refusesSwap_33 : decode cX8_refusesSwap 33 = .ok (.aload_n 0, 1) := by decide +kernel
theorem dX8_refusesSwap_34 : decode cX8_refusesSwap 34 = .ok (.iload_n 1, 1) := by decide +kernel
theorem dX8_refusesSwap_35 : decode cX8_refusesSwap 35 = .ok (.iload_n 2, 1) := by decide +kernel
theorem dX8_refusesSwap_36 : decode cX8_refusesSwap 36 = .ok (.invokevirtual 80, 3) := by decide +kernel
theorem dX8_refusesSwap_39 : decode cX8_refusesSwap 39 = .ok (.invokevirtual 188, 3) := by decide +kernel
theorem dX8_refusesSwap_42 : decode cX8_refusesSwap 42 = .ok (.istore 5, 2) := by decide +kernel
theorem dX8_refusesSwap_44 : decode cX8_refusesSwap 44 = .ok (.aload_n 0, 1) := by decide +kernel
theorem dX8_refusesSwap_45 : decode cX8_refusesSwap 45 = .ok (.aload_n 0, 1) := by decide +kernel
theorem dX8_refusesSwap_46 : decode cX8_refusesSwap 46 = .ok (.iload_n 3, 1) := by decide +kernel
theorem dX8_refusesSwap_47 : decode cX8_refusesSwap 47 = .ok (.iload 4, 2) := by decide +kernel
theorem dX8_refusesSwap_49 : decode cX8_refusesSwap 49 = .ok (.invokevirtual 80, 3) := by decide +kernel
theorem dX8_refusesSwap_52 : decode cX8_refusesSwap 52 = .ok (.invokevirtual 188, 3) := by decide +kernel
theorem dX8_refusesSwap_55 : decode cX8_refusesSwap 55 = .ok (.istore 6, 2) := by decide +kernel
theorem dX8_refusesSwap_57 : decode cX8_refusesSwap 57 = .ok (.iload 5, 2) := by decide +kernel
theorem dX8_refusesSwap_59 : decode cX8_refusesSwap 59 = .ok (.iload 6, 2) := by decide +kernel
theorem dX8_refusesSwap_61 : decode cX8_refusesSwap 61 = .ok (.if_icmp .ne 8, 3) := by decide +kernel
theorem dX8_refusesSwap_64 : decode cX8_refusesSwap 64 = .ok (.bipush (-2), 2) := by decide +kernel
theorem dX8_refusesSwap_66 : decode cX8_refusesSwap 66 = .ok (.goto 32, 3) := by decide +kernel
theorem dX8_refusesSwap_69 : decode cX8_refusesSwap 69 = .ok (.aload_n 0, 1) := by decide +kernel
theorem dX8_refusesSwap_70 : decode cX8_refusesSwap 70 = .ok (.iload_n 1, 1) := by decide +kernel
theorem dX8_refusesSwap_71 : decode cX8_refusesSwap 71 = .ok (.iload_n 2, 1) := by decide +kernel
theorem dX8_refusesSwap_72 : decode cX8_refusesSwap 72 = .ok (.iload 6, 2) := by decide +kernel
theorem dX8_refusesSwap_74 : decode cX8_refusesSwap 74 = .ok (.invokevirtual 111, 3) := by decide +kernel
theorem dX8_refusesSwap_77 : decode cX8_refusesSwap 77 = .ok (.ifCond .eq 19, 3) := by decide +kernel
theorem dX8_refusesSwap_80 : decode cX8_refusesSwap 80 = .ok (.aload_n 0, 1) := by decide +kernel
theorem dX8_refusesSwap_81 : decode cX8_refusesSwap 81 = .ok (.iload_n 3, 1) := by decide +kernel
theorem dX8_refusesSwap_82 : decode cX8_refusesSwap 82 = .ok (.iload 4, 2) := by decide +kernel
theorem dX8_refusesSwap_84 : decode cX8_refusesSwap 84 = .ok (.iload 5, 2) := by decide +kernel
theorem dX8_refusesSwap_86 : decode cX8_refusesSwap 86 = .ok (.invokevirtual 111, 3) := by decide +kernel
theorem dX8_refusesSwap_89 : decode cX8_refusesSwap 89 = .ok (.ifCond .eq 7, 3) := by decide +kernel
theorem dX8_refusesSwap_92 : decode cX8_refusesSwap 92 = .ok (.iconst 0, 1) := by decide +kernel
theorem dX8_refusesSwap_93 : decode cX8_refusesSwap 93 = .ok (.goto 5, 3) := by decide +kernel
theorem dX8_refusesSwap_96 : decode cX8_refusesSwap 96 = .ok (.bipush (-4), 2) := by decide +kernel
theorem dX8_refusesSwap_98 : decode cX8_refusesSwap 98 = .ok (.ireturn, 1) := by decide +kernel
theorem dX8_goSwap_0 : decode cX8_goSwap 0 = .ok (.aload_n 0, 1) := by decide +kernel
theorem dX8_goSwap_1 : decode cX8_goSwap 1 = .ok (.aload_n 0, 1) := by decide +kernel
theorem dX8_goSwap_2 : decode cX8_goSwap 2 = .ok (.iload_n 1, 1) := by decide +kernel
theorem dX8_goSwap_3 : decode cX8_goSwap 3 = .ok (.iload_n 2, 1) := by decide +kernel
theorem dX8_goSwap_4 : decode cX8_goSwap 4 = .ok (.invokevirtual 80, 3) := by decide +kernel
theorem dX8_goSwap_7 : decode cX8_goSwap 7 = .ok (.invokevirtual 188, 3) := by decide +kernel
theorem dX8_goSwap_10 : decode cX8_goSwap 10 = .ok (.istore 5, 2) := by decide +kernel
theorem dX8_goSwap_12 : decode cX8_goSwap 12 = .ok (.aload_n 0, 1) := by decide +kernel
theorem dX8_goSwap_13 : decode cX8_goSwap 13 = .ok (.getfield 9, 3) := by decide +kernel
theorem dX8_goSwap_16 : decode cX8_goSwap 16 = .ok (.bipush 36, 2) := by decide +kernel
theorem dX8_goSwap_18 : decode cX8_goSwap 18 = .ok (.aload_n 0, 1) := by decide +kernel
theorem dX8_goSwap_19 : decode cX8_goSwap 19 = .ok (.iload_n 1, 1) := by decide +kernel
theorem dX8_goSwap_20 : decode cX8_goSwap 20 = .ok (.iload_n 2, 1) := by decide +kernel
theorem dX8_goSwap_21 : decode cX8_goSwap 21 = .ok (.invokevirtual 80, 3) := by decide +kernel
theorem dX8_goSwap_24 : decode cX8_goSwap 24 = .ok (.iadd, 1) := by decide +kernel
theorem dX8_goSwap_25 : decode cX8_goSwap 25 = .ok (.aload_n 0, 1) := by decide +kernel
theorem dX8_goSwap_26 : decode cX8_goSwap 26 = .ok (.aload_n 0, 1) := by decide +kernel
theorem dX8_goSwap_27 : decode cX8_goSwap 27 = .ok (.iload_n 3, 1) := by decide +kernel
theorem dX8_goSwap_28 : decode cX8_goSwap 28 = .ok (.iload 4, 2) := by decide +kernel
theorem dX8_goSwap_30 : decode cX8_goSwap 30 = .ok (.invokevirtual 80, 3) := by decide +kernel
theorem dX8_goSwap_33 : decode cX8_goSwap 33 = .ok (.invokevirtual 188, 3) := by decide +kernel
theorem dX8_goSwap_36 : decode cX8_goSwap 36 = .ok (.iastore, 1) := by decide +kernel
theorem dX8_goSwap_37 : decode cX8_goSwap 37 = .ok (.aload_n 0, 1) := by decide +kernel
theorem dX8_goSwap_38 : decode cX8_goSwap 38 = .ok (.getfield 9, 3) := by decide +kernel
theorem dX8_goSwap_41 : decode cX8_goSwap 41 = .ok (.bipush 36, 2) := by decide +kernel
theorem dX8_goSwap_43 : decode cX8_goSwap 43 = .ok (.aload_n 0, 1) := by decide +kernel
theorem dX8_goSwap_44 : decode cX8_goSwap 44 = .ok (.iload_n 3, 1) := by decide +kernel
theorem dX8_goSwap_45 : decode cX8_goSwap 45 = .ok (.iload 4, 2) := by decide +kernel
theorem dX8_goSwap_47 : decode cX8_goSwap 47 = .ok (.invokevirtual 80, 3) := by decide +kernel
theorem dX8_goSwap_50 : decode cX8_goSwap 50 = .ok (.iadd, 1) := by decide +kernel
theorem dX8_goSwap_51 : decode cX8_goSwap 51 = .ok (.iload 5, 2) := by decide +kernel
theorem dX8_goSwap_53 : decode cX8_goSwap 53 = .ok (.iastore, 1) := by decide +kernel
theorem dX8_goSwap_54 : decode cX8_goSwap 54 = .ok (.aload_n 0, 1) := by decide +kernel
theorem dX8_goSwap_55 : decode cX8_goSwap 55 = .ok (.getfield 9, 3) := by decide +kernel
theorem dX8_goSwap_58 : decode cX8_goSwap 58 = .ok (.iconst 1, 1) := by decide +kernel
theorem dX8_goSwap_59 : decode cX8_goSwap 59 = .ok (.iconst 0, 1) := by decide +kernel
theorem dX8_goSwap_60 : decode cX8_goSwap 60 = .ok (.iastore, 1) := by decide +kernel
theorem dX8_goSwap_61 : decode cX8_goSwap 61 = .ok (.return_, 1) := by decide +kernel
theorem dX8_swaps_0 : decode cX8_swaps 0 = .ok (.aload_n 0, 1) := by decide +kernel
theorem dX8_swaps_1 : decode cX8_swaps 1 = .ok (.iconst 0, 1) := by decide +kernel
theorem dX8_swaps_2 : decode cX8_swaps 2 = .ok (.putfield 61, 3) := by decide +kernel
theorem dX8_swaps_5 : decode cX8_swaps 5 = .ok (.aload_n 0, 1) := by decide +kernel
theorem dX8_swaps_6 : decode cX8_swaps 6 = .ok (.iload_n 1, 1) := by decide +kernel
theorem dX8_swaps_7 : decode cX8_swaps 7 = .ok (.iload_n 2, 1) := by decide +kernel
theorem dX8_swaps_8 : decode cX8_swaps 8 = .ok (.iload_n 3, 1) := by decide +kernel
theorem dX8_swaps_9 : decode cX8_swaps 9 = .ok (.iload 4, 2) := by decide +kernel
theorem dX8_swaps_11 : decode cX8_swaps 11 = .ok (.invokevirtual 324, 3) := by decide +kernel
theorem dX8_swaps_14 : decode cX8_swaps 14 = .ok (.istore 5, 2) := by decide +kernel
theorem dX8_swaps_16 : decode cX8_swaps 16 = .ok (.iload 5, 2) := by decide +kernel
theorem dX8_swaps_18 : decode cX8_swaps 18 = .ok (.ifCond .ge 6, 3) := by decide +kernel
theorem dX8_swaps_21 : decode cX8_swaps 21 = .ok (.iload 5, 2) := by decide +kernel
theorem dX8_swaps_23 : decode cX8_swaps 23 = .ok (.ireturn, 1) := by decide +kernel
theorem dX8_swaps_24 : decode cX8_swaps 24 = .ok (.aload_n 0, 1) := by decide +kernel
theorem dX8_swaps_25 : decode cX8_swaps 25 = .ok (.invokevirtual 162, 3) := by decide +kernel
theorem dX8_swaps_28 : decode cX8_swaps 28 = .ok (.aload_n 0, 1) := by decide +kernel
theorem dX8_swaps_29 : decode cX8_swaps 29 = .ok (.iload_n 1, 1) := by decide +kernel
theorem dX8_swaps_30 : decode cX8_swaps 30 = .ok (.iload_n 2, 1) := by decide +kernel
theorem dX8_swaps_31 : decode cX8_swaps 31 = .ok (.iload_n 3, 1) := by decide +kernel
theorem dX8_swaps_32 : decode cX8_swaps 32 = .ok (.iload 4, 2) := by decide +kernel
theorem dX8_swaps_34 : decode cX8_swaps 34 = .ok (.invokevirtual 327, 3) := by decide +kernel
theorem dX8_swaps_37 : decode cX8_swaps 37 = .ok (.aload_n 0, 1) := by decide +kernel
theorem dX8_swaps_38 : decode cX8_swaps 38 = .ok (.invokevirtual 226, 3) := by decide +kernel
theorem dX8_swaps_41 : decode cX8_swaps 41 = .ok (.ireturn, 1) := by decide +kernel
theorem dX8_refusesAmount_0 : decode cX8_refusesAmount 0 = .ok (.iload_n 1, 1) := by decide +kernel
theorem dX8_refusesAmount_1 : decode cX8_refusesAmount 1 = .ok (.iconst 0, 1) := by decide +kernel
theorem dX8_refusesAmount_2 : decode cX8_refusesAmount 2 = .ok (.aload_n 0, 1) := by decide +kernel
theorem dX8_refusesAmount_3 : decode cX8_refusesAmount 3 = .ok (.getfield 9, 3) := by decide +kernel
theorem dX8_refusesAmount_6 : decode cX8_refusesAmount 6 = .ok (.iconst 1, 1) := by decide +kernel
theorem dX8_refusesAmount_7 : decode cX8_refusesAmount 7 = .ok (.iaload, 1) := by decide +kernel
theorem dX8_refusesAmount_8 : decode cX8_refusesAmount 8 = .ok (.iconst 1, 1) := by decide +kernel
theorem dX8_refusesAmount_9 : decode cX8_refusesAmount 9 = .ok (.if_icmp .ne 12, 3) := by decide +kernel
theorem dX8_refusesAmount_12 : decode cX8_refusesAmount 12 = .ok (.aload_n 0, 1) := by decide +kernel
theorem dX8_refusesAmount_13 : decode cX8_refusesAmount 13 = .ok (.getfield 9, 3) := by decide +kernel
theorem dX8_refusesAmount_16 : decode cX8_refusesAmount 16 = .ok (.iconst 2, 1) := by decide +kernel
theorem dX8_refusesAmount_17 : decode cX8_refusesAmount 17 = .ok (.iaload, 1) := by decide +kernel
theorem dX8_refusesAmount_18 : decode cX8_refusesAmount 18 = .ok (.goto 4, 3) := by decide +kernel
theorem dX8_refusesAmount_21 : decode cX8_refusesAmount 21 = .ok (.iconst 4, 1) := by decide +kernel
theorem dX8_refusesAmount_22 : decode cX8_refusesAmount 22 = .ok (.iconst 1, 1) := by decide +kernel
theorem dX8_refusesAmount_23 : decode cX8_refusesAmount 23 = .ok (.isub, 1) := by decide +kernel
theorem dX8_refusesAmount_24 : decode cX8_refusesAmount 24 = .ok (.invokestatic 72, 3) := by decide +kernel
theorem dX8_refusesAmount_27 : decode cX8_refusesAmount 27 = .ok (.ifCond .eq 22, 3) := by decide +kernel
theorem dX8_refusesAmount_30 : decode cX8_refusesAmount 30 = .ok (.iload_n 2, 1) := by decide +kernel
theorem dX8_refusesAmount_31 : decode cX8_refusesAmount 31 = .ok (.iconst 0, 1) := by decide +kernel
theorem dX8_refusesAmount_32 : decode cX8_refusesAmount 32 = .ok (.iconst 2, 1) := by decide +kernel
theorem dX8_refusesAmount_33 : decode cX8_refusesAmount 33 = .ok (.invokestatic 72, 3) := by decide +kernel
theorem dX8_refusesAmount_36 : decode cX8_refusesAmount 36 = .ok (.ifCond .eq 13, 3) := by decide +kernel
theorem dX8_refusesAmount_39 : decode cX8_refusesAmount 39 = .ok (.iload_n 3, 1) := by decide +kernel
theorem dX8_refusesAmount_40 : decode cX8_refusesAmount 40 = .ok (.iconst 0, 1) := by decide +kernel
theorem dX8_refusesAmount_41 : decode cX8_refusesAmount 41 = .ok (.bipush 9, 2) := by decide +kernel
theorem dX8_refusesAmount_43 : decode cX8_refusesAmount 43 = .ok (.invokestatic 72, 3) := by decide +kernel
theorem dX8_refusesAmount_46 : decode cX8_refusesAmount 46 = .ok (.ifCond .ne 5, 3) := by decide +kernel
theorem dX8_refusesAmount_49 : decode cX8_refusesAmount 49 = .ok (.iconst (-1), 1) := by decide +kernel
theorem dX8_refusesAmount_50 : decode cX8_refusesAmount 50 = .ok (.ireturn, 1) := by decide +kernel
theorem dX8_refusesAmount_51 : decode cX8_refusesAmount 51 = .ok (.aload_n 0, 1) := by decide +kernel
theorem dX8_refusesAmount_52 : decode cX8_refusesAmount 52 = .ok (.getfield 9, 3) := by decide +kernel
theorem dX8_refusesAmount_55 : decode cX8_refusesAmount 55 = .ok (.iconst 1, 1) := by decide +kernel
theorem dX8_refusesAmount_56 : decode cX8_refusesAmount 56 = .ok (.iaload, 1) := by decide +kernel
theorem dX8_refusesAmount_57 : decode cX8_refusesAmount 57 = .ok (.iconst 1, 1) := by decide +kernel
theorem dX8_refusesAmount_58 : decode cX8_refusesAmount 58 = .ok (.if_icmp .eq 6, 3) := by decide +kernel
theorem dX8_refusesAmount_61 : decode cX8_refusesAmount 61 = .ok (.bipush (-3), 2) := by decide +kernel
theorem dX8_refusesAmount_63 : decode cX8_refusesAmount 63 = .ok (.ireturn, 1) := by decide +kernel
theorem dX8_refusesAmount_64 : decode cX8_refusesAmount 64 = .ok (.aload_n 0, 1) := by decide +kernel
theorem dX8_refusesAmount_65 : decode cX8_refusesAmount 65 = .ok (.iload_n 1, 1) := by decide +kernel
theorem dX8_refusesAmount_66 : decode cX8_refusesAmount 66 = .ok (.iload_n 2, 1) := by decide +kernel
theorem dX8_refusesAmount_67 : decode cX8_refusesAmount 67 = .ok (.invokevirtual 91, 3) := by decide +kernel
theorem dX8_refusesAmount_70 : decode cX8_refusesAmount 70 = .ok (.iload_n 3, 1) := by decide +kernel
theorem dX8_refusesAmount_71 : decode cX8_refusesAmount 71 = .ok (.if_icmp .ne 8, 3) := by decide +kernel
theorem dX8_refusesAmount_74 : decode cX8_refusesAmount 74 = .ok (.bipush (-2), 2) := by decide +kernel
theorem dX8_refusesAmount_76 : decode cX8_refusesAmount 76 = .ok (.goto 4, 3) := by decide +kernel
theorem dX8_refusesAmount_79 : decode cX8_refusesAmount 79 = .ok (.iconst 0, 1) := by decide +kernel
theorem dX8_refusesAmount_80 : decode cX8_refusesAmount 80 = .ok (.ireturn, 1) := by decide +kernel
theorem dX8_goAmount_0 : decode cX8_goAmount 0 = .ok (.aload_n 0, 1) := by decide +kernel
theorem dX8_goAmount_1 : decode cX8_goAmount 1 = .ok (.getfield 9, 3) := by decide +kernel
theorem dX8_goAmount_4 : decode cX8_goAmount 4 = .ok (.iconst 3, 1) := by decide +kernel
theorem dX8_goAmount_5 : decode cX8_goAmount 5 = .ok (.iconst 3, 1) := by decide +kernel
theorem dX8_goAmount_6 : decode cX8_goAmount 6 = .ok (.iload_n 1, 1) := by decide +kernel
theorem dX8_goAmount_7 : decode cX8_goAmount 7 = .ok (.imul, 1) := by decide +kernel
theorem dX8_goAmount_8 : decode cX8_goAmount 8 = .ok (.iadd, 1) := by decide +kernel
theorem dX8_goAmount_9 : decode cX8_goAmount 9 = .ok (.iload_n 2, 1) := by decide +kernel
theorem dX8_goAmount_10 : decode cX8_goAmount 10 = .ok (.iadd, 1) := by decide +kernel
theorem dX8_goAmount_11 : decode cX8_goAmount 11 = .ok (.iload_n 3, 1) := by decide +kernel
theorem dX8_goAmount_12 : decode cX8_goAmount 12 = .ok (.iastore, 1) := by decide +kernel
theorem dX8_goAmount_13 : decode cX8_goAmount 13 = .ok (.aload_n 0, 1) := by decide +kernel
theorem dX8_goAmount_14 : decode cX8_goAmount 14 = .ok (.invokevirtual 169, 3) := by decide +kernel
theorem dX8_goAmount_17 : decode cX8_goAmount 17 = .ok (.return_, 1) := by decide +kernel
theorem dX8_amounts_0 : decode cX8_amounts 0 = .ok (.aload_n 0, 1) := by decide +kernel
theorem dX8_amounts_1 : decode cX8_amounts 1 = .ok (.iconst 0, 1) := by decide +kernel
theorem dX8_amounts_2 : decode cX8_amounts 2 = .ok (.putfield 61, 3) := by decide +kernel
theorem dX8_amounts_5 : decode cX8_amounts 5 = .ok (.aload_n 0, 1) := by decide +kernel
theorem dX8_amounts_6 : decode cX8_amounts 6 = .ok (.iload_n 1, 1) := by decide +kernel
theorem dX8_amounts_7 : decode cX8_amounts 7 = .ok (.iload_n 2, 1) := by decide +kernel
theorem dX8_amounts_8 : decode cX8_amounts 8 = .ok (.iload_n 3, 1) := by decide +kernel
theorem dX8_amounts_9 : decode cX8_amounts 9 = .ok (.invokevirtual 331, 3) := by decide +kernel
theorem dX8_amounts_12 : decode cX8_amounts 12 = .ok (.istore 4, 2) := by decide +kernel
theorem dX8_amounts_14 : decode cX8_amounts 14 = .ok (.iload 4, 2) := by decide +kernel
theorem dX8_amounts_16 : decode cX8_amounts 16 = .ok (.ifCond .ge 6, 3) := by decide +kernel
theorem dX8_amounts_19 : decode cX8_amounts 19 = .ok (.iload 4, 2) := by decide +kernel
theorem dX8_amounts_21 : decode cX8_amounts 21 = .ok (.ireturn, 1) := by decide +kernel
theorem dX8_amounts_22 : decode cX8_amounts 22 = .ok (.aload_n 0, 1) := by decide +kernel
theorem dX8_amounts_23 : decode cX8_amounts 23 = .ok (.invokevirtual 162, 3) := by decide +kernel
theorem dX8_amounts_26 : decode cX8_amounts 26 = .ok (.aload_n 0, 1) := by decide +kernel
theorem dX8_amounts_27 : decode cX8_amounts 27 = .ok (.iload_n 1, 1) := by decide +kernel
theorem dX8_amounts_28 : decode cX8_amounts 28 = .ok (.iload_n 2, 1) := by decide +kernel
theorem dX8_amounts_29 : decode cX8_amounts 29 = .ok (.invokevirtual 91, 3) := by decide +kernel
theorem dX8_amounts_32 : decode cX8_amounts 32 = .ok (.istore 5, 2) := by decide +kernel
theorem dX8_amounts_34 : decode cX8_amounts 34 = .ok (.aload_n 0, 1) := by decide +kernel
theorem dX8_amounts_35 : decode cX8_amounts 35 = .ok (.iload_n 1, 1) := by decide +kernel
theorem dX8_amounts_36 : decode cX8_amounts 36 = .ok (.iload_n 2, 1) := by decide +kernel
theorem dX8_amounts_37 : decode cX8_amounts 37 = .ok (.iload_n 3, 1) := by decide +kernel
theorem dX8_amounts_38 : decode cX8_amounts 38 = .ok (.invokevirtual 334, 3) := by decide +kernel
theorem dX8_amounts_41 : decode cX8_amounts 41 = .ok (.iload 5, 2) := by decide +kernel
theorem dX8_amounts_43 : decode cX8_amounts 43 = .ok (.ireturn, 1) := by decide +kernel
theorem dX8_readAct_0 : decode cX8_readAct 0 = .ok (.aload_n 0, 1) := by decide +kernel
theorem dX8_readAct_1 : decode cX8_readAct 1 = .ok (.invokevirtual 142, 3) := by decide +kernel
theorem dX8_readAct_4 : decode cX8_readAct 4 = .ok (.istore_n 2, 1) := by decide +kernel
theorem dX8_readAct_5 : decode cX8_readAct 5 = .ok (.iload_n 2, 1) := by decide +kernel
theorem dX8_readAct_6 : decode cX8_readAct 6 = .ok (.bipush 108, 2) := by decide +kernel
theorem dX8_readAct_8 : decode cX8_readAct 8 = .ok (.if_icmp .eq 30, 3) := by decide +kernel
theorem dX8_readAct_11 : decode cX8_readAct 11 = .ok (.iload_n 2, 1) := by decide +kernel
theorem dX8_readAct_12 : decode cX8_readAct 12 = .ok (.bipush 103, 2) := by decide +kernel
theorem dX8_readAct_14 : decode cX8_readAct 14 = .ok (.if_icmp .eq 24, 3) := by decide +kernel
theorem dX8_readAct_17 : decode cX8_readAct 17 = .ok (.iload_n 2, 1) := by decide +kernel
theorem dX8_readAct_18 : decode cX8_readAct 18 = .ok (.bipush 115, 2) := by decide +kernel
theorem dX8_readAct_20 : decode cX8_readAct 20 = .ok (.if_icmp .eq 18, 3) := by decide +kernel
theorem dX8_readAct_23 : decode cX8_readAct 23 = .ok (.iload_n 2, 1) := by decide +kernel
theorem dX8_readAct_24 : decode cX8_readAct 24 = .ok (.bipush 97, 2) := by decide +kernel
theorem dX8_readAct_26 : decode cX8_readAct 26 = .ok (.if_icmp .eq 12, 3) := by decide +kernel
theorem dX8_readAct_29 : decode cX8_readAct 29 = .ok (.aload_n 0, 1) := by decide +kernel
theorem dX8_readAct_30 : decode cX8_readAct 30 = .ok (.aload_n 0, 1) := by decide +kernel
theorem dX8_readAct_31 : decode cX8_readAct 31 = .ok (.getfield 132, 3) := by decide +kernel
theorem dX8_readAct_34 : decode cX8_readAct 34 = .ok (.invokevirtual 145, 3) := by decide +kernel
theorem dX8_readAct_37 : decode cX8_readAct 37 = .ok (.return_, 1) := by decide +kernel
theorem dX8_readAct_38 : decode cX8_readAct 38 = .ok (.aload_n 0, 1) := by decide +kernel
theorem dX8_readAct_39 : decode cX8_readAct 39 = .ok (.dup, 1) := by decide +kernel
theorem dX8_readAct_40 : decode cX8_readAct 40 = .ok (.getfield 132, 3) := by decide +kernel
theorem dX8_readAct_43 : decode cX8_readAct 43 = .ok (.iconst 1, 1) := by decide +kernel
theorem dX8_readAct_44 : decode cX8_readAct 44 = .ok (.iadd, 1) := by decide +kernel
theorem dX8_readAct_45 : decode cX8_readAct 45 = .ok (.putfield 132, 3) := by decide +kernel
theorem dX8_readAct_48 : decode cX8_readAct 48 = .ok (.aload_n 0, 1) := by decide +kernel
theorem dX8_readAct_49 : decode cX8_readAct 49 = .ok (.getfield 21, 3) := by decide +kernel
theorem dX8_readAct_52 : decode cX8_readAct 52 = .ok (.iload_n 1, 1) := by decide +kernel
theorem dX8_readAct_53 : decode cX8_readAct 53 = .ok (.iload_n 2, 1) := by decide +kernel
theorem dX8_readAct_54 : decode cX8_readAct 54 = .ok (.iastore, 1) := by decide +kernel
theorem dX8_readAct_55 : decode cX8_readAct 55 = .ok (.iload_n 2, 1) := by decide +kernel
theorem dX8_readAct_56 : decode cX8_readAct 56 = .ok (.bipush 108, 2) := by decide +kernel
theorem dX8_readAct_58 : decode cX8_readAct 58 = .ok (.if_icmp .eq 9, 3) := by decide +kernel
theorem dX8_readAct_61 : decode cX8_readAct 61 = .ok (.iload_n 2, 1) := by decide +kernel
theorem dX8_readAct_62 : decode cX8_readAct 62 = .ok (.bipush 97, 2) := by decide +kernel
theorem dX8_readAct_64 : decode cX8_readAct 64 = .ok (.if_icmp .ne 7, 3) := by decide +kernel
theorem dX8_readAct_67 : decode cX8_readAct 67 = .ok (.iconst 3, 1) := by decide +kernel
theorem dX8_readAct_68 : decode cX8_readAct 68 = .ok (.goto 14, 3) := by decide +kernel
theorem dX8_readAct_71 : decode cX8_readAct 71 = .ok (.iload_n 2, 1) := by decide +kernel
theorem dX8_readAct_72 : decode cX8_readAct 72 = .ok (.bipush 103, 2) := by decide +kernel
theorem dX8_readAct_74 : decode cX8_readAct 74 = .ok (.if_icmp .ne 7, 3) := by decide +kernel
theorem dX8_readAct_77 : decode cX8_readAct 77 = .ok (.iconst 1, 1) := by decide +kernel
theorem dX8_readAct_78 : decode cX8_readAct 78 = .ok (.goto 4, 3) := by decide +kernel
theorem dX8_readAct_81 : decode cX8_readAct 81 = .ok (.iconst 4, 1) := by decide +kernel
theorem dX8_readAct_82 : decode cX8_readAct 82 = .ok (.istore_n 3, 1) := by decide +kernel
theorem dX8_readAct_83 : decode cX8_readAct 83 = .ok (.iconst 1, 1) := by decide +kernel
theorem dX8_readAct_84 : decode cX8_readAct 84 = .ok (.istore 4, 2) := by decide +kernel
theorem dX8_readAct_86 : decode cX8_readAct 86 = .ok (.iload 4, 2) := by decide +kernel
theorem dX8_readAct_88 : decode cX8_readAct 88 = .ok (.iload_n 3, 1) := by decide +kernel
theorem dX8_readAct_89 : decode cX8_readAct 89 = .ok (.if_icmp .gt 45, 3) := by decide +kernel
theorem dX8_readAct_92 : decode cX8_readAct 92 = .ok (.aload_n 0, 1) := by decide +kernel
theorem dX8_readAct_93 : decode cX8_readAct 93 = .ok (.getfield 21, 3) := by decide +kernel
theorem dX8_readAct_96 : decode cX8_readAct 96 = .ok (.iload_n 1, 1) := by decide +kernel
theorem dX8_readAct_97 : decode cX8_readAct 97 = .ok (.iload 4, 2) := by decide +kernel
theorem dX8_readAct_99 : decode cX8_readAct 99 = .ok (.iadd, 1) := by decide +kernel
theorem dX8_readAct_100 : decode cX8_readAct 100 = .ok (.aload_n 0, 1) := by decide +kernel
theorem dX8_readAct_101 : decode cX8_readAct 101 = .ok (.iload_n 2, 1) := by decide +kernel
theorem dX8_readAct_102 : decode cX8_readAct 102 = .ok (.bipush 97, 2) := by decide +kernel
theorem dX8_readAct_104 : decode cX8_readAct 104 = .ok (.if_icmp .eq 15, 3) := by decide +kernel
theorem dX8_readAct_107 : decode cX8_readAct 107 = .ok (.iload_n 2, 1) := by decide +kernel
theorem dX8_readAct_108 : decode cX8_readAct 108 = .ok (.bipush 108, 2) := by decide +kernel
theorem dX8_readAct_110 : decode cX8_readAct 110 = .ok (.if_icmp .ne 13, 3) := by decide +kernel
theorem dX8_readAct_113 : decode cX8_readAct 113 = .ok (.iload 4, 2) := by decide +kernel
theorem dX8_readAct_115 : decode cX8_readAct 115 = .ok (.iconst 3, 1) := by decide +kernel
theorem dX8_readAct_116 : decode cX8_readAct 116 = .ok (.if_icmp .ne 7, 3) := by decide +kernel
theorem dX8_readAct_119 : decode cX8_readAct 119 = .ok (.iconst 1, 1) := by decide +kernel
theorem dX8_readAct_120 : decode cX8_readAct 120 = .ok (.goto 4, 3) := by decide +kernel
theorem dX8_readAct_123 : decode cX8_readAct 123 = .ok (.iconst 2, 1) := by decide +kernel
theorem dX8_readAct_124 : decode cX8_readAct 124 = .ok (.invokevirtual 156, 3) := by decide +kernel
theorem dX8_readAct_127 : decode cX8_readAct 127 = .ok (.iastore, 1) := by decide +kernel
theorem dX8_readAct_128 : decode cX8_readAct 128 = .ok (.iinc 4 1, 3) := by decide +kernel
theorem dX8_readAct_131 : decode cX8_readAct 131 = .ok (.goto (-45), 3) := by decide +kernel
theorem dX8_readAct_134 : decode cX8_readAct 134 = .ok (.return_, 1) := by decide +kernel
theorem dX8_act_0 : decode cX8_act 0 = .ok (.aload_n 0, 1) := by decide +kernel
theorem dX8_act_1 : decode cX8_act 1 = .ok (.getfield 21, 3) := by decide +kernel
theorem dX8_act_4 : decode cX8_act 4 = .ok (.iload_n 1, 1) := by decide +kernel
theorem dX8_act_5 : decode cX8_act 5 = .ok (.iconst 1, 1) := by decide +kernel
theorem dX8_act_6 : decode cX8_act 6 = .ok (.iadd, 1) := by decide +kernel
theorem dX8_act_7 : decode cX8_act 7 = .ok (.iaload, 1) := by decide +kernel
theorem dX8_act_8 : decode cX8_act 8 = .ok (.istore_n 2, 1) := by decide +kernel
theorem dX8_act_9 : decode cX8_act 9 = .ok (.aload_n 0, 1) := by decide +kernel
theorem dX8_act_10 : decode cX8_act 10 = .ok (.getfield 21, 3) := by decide +kernel
theorem dX8_act_13 : decode cX8_act 13 = .ok (.iload_n 1, 1) := by decide +kernel
theorem dX8_act_14 : decode cX8_act 14 = .ok (.iconst 2, 1) := by decide +kernel
theorem dX8_act_15 : decode cX8_act 15 = .ok (.iadd, 1) := by decide +kernel
theorem dX8_act_16 : decode cX8_act 16 = .ok (.iaload, 1) := by decide +kernel
theorem dX8_act_17 : decode cX8_act 17 = .ok (.istore_n 3, 1) := by decide +kernel
theorem dX8_act_18 : decode cX8_act 18 = .ok (.aload_n 0, 1) := by decide +kernel
theorem dX8_act_19 : decode cX8_act 19 = .ok (.getfield 21, 3) := by decide +kernel
theorem dX8_act_22 : decode cX8_act 22 = .ok (.iload_n 1, 1) := by decide +kernel
theorem dX8_act_23 : decode cX8_act 23 = .ok (.iconst 3, 1) := by decide +kernel
theorem dX8_act_24 : decode cX8_act 24 = .ok (.iadd, 1) := by decide +kernel
theorem dX8_act_25 : decode cX8_act 25 = .ok (.iaload, 1) := by decide +kernel
theorem dX8_act_26 : decode cX8_act 26 = .ok (.istore 4, 2) := by decide +kernel
theorem dX8_act_28 : decode cX8_act 28 = .ok (.aload_n 0, 1) := by decide +kernel
theorem dX8_act_29 : decode cX8_act 29 = .ok (.getfield 21, 3) := by decide +kernel
theorem dX8_act_32 : decode cX8_act 32 = .ok (.iload_n 1, 1) := by decide +kernel
theorem dX8_act_33 : decode cX8_act 33 = .ok (.iconst 4, 1) := by decide +kernel
theorem dX8_act_34 : decode cX8_act 34 = .ok (.iadd, 1) := by decide +kernel
theorem dX8_act_35 : decode cX8_act 35 = .ok (.iaload, 1) := by decide +kernel
theorem dX8_act_36 : decode cX8_act 36 = .ok (.istore 5, 2) := by decide +kernel
theorem dX8_act_38 : decode cX8_act 38 = .ok (.aload_n 0, 1) := by decide +kernel
theorem dX8_act_39 : decode cX8_act 39 = .ok (.getfield 21, 3) := by decide +kernel
theorem dX8_act_42 : decode cX8_act 42 = .ok (.iload_n 1, 1) := by decide +kernel
theorem dX8_act_43 : decode cX8_act 43 = .ok (.iaload, 1) := by decide +kernel
theorem dX8_act_44 : decode cX8_act 44 = .ok (.lookupswitch 103 #[(103, 59), (108, 36), (115, 76)], 36) := by decide +kernel
theorem dX8_act_80 : decode cX8_act 80 = .ok (.aload_n 0, 1) := by decide +kernel
theorem dX8_act_81 : decode cX8_act 81 = .ok (.iload_n 2, 1) := by decide +kernel
theorem dX8_act_82 : decode cX8_act 82 = .ok (.iload_n 3, 1) := by decide +kernel
theorem dX8_act_83 : decode cX8_act 83 = .ok (.iload 4, 2) := by decide +kernel
theorem dX8_act_85 : decode cX8_act 85 = .ok (.invokevirtual 315, 3) := by decide +kernel
theorem dX8_act_88 : decode cX8_act 88 = .ok (.ifCond .ge 5, 3) := by decide +kernel
theorem dX8_act_91 : decode cX8_act 91 = .ok (.iconst 0, 1) := by decide +kernel
theorem dX8_act_92 : decode cX8_act 92 = .ok (.ireturn, 1) := by decide +kernel
theorem dX8_act_93 : decode cX8_act 93 = .ok (.aload_n 0, 1) := by decide +kernel
theorem dX8_act_94 : decode cX8_act 94 = .ok (.iload_n 2, 1) := by decide +kernel
theorem dX8_act_95 : decode cX8_act 95 = .ok (.iload_n 3, 1) := by decide +kernel
theorem dX8_act_96 : decode cX8_act 96 = .ok (.iload 4, 2) := by decide +kernel
theorem dX8_act_98 : decode cX8_act 98 = .ok (.invokevirtual 318, 3) := by decide +kernel
theorem dX8_act_101 : decode cX8_act 101 = .ok (.iconst 1, 1) := by decide +kernel
theorem dX8_act_102 : decode cX8_act 102 = .ok (.ireturn, 1) := by decide +kernel
theorem dX8_act_103 : decode cX8_act 103 = .ok (.aload_n 0, 1) := by decide +kernel
theorem dX8_act_104 : decode cX8_act 104 = .ok (.iload_n 2, 1) := by decide +kernel
theorem dX8_act_105 : decode cX8_act 105 = .ok (.invokevirtual 321, 3) := by decide +kernel
theorem dX8_act_108 : decode cX8_act 108 = .ok (.ifCond .ge 5, 3) := by decide +kernel
theorem dX8_act_111 : decode cX8_act 111 = .ok (.iconst 0, 1) := by decide +kernel
theorem dX8_act_112 : decode cX8_act 112 = .ok (.ireturn, 1) := by decide +kernel
theorem dX8_act_113 : decode cX8_act 113 = .ok (.aload_n 0, 1) := by decide +kernel
theorem dX8_act_114 : decode cX8_act 114 = .ok (.iload_n 2, 1) := by decide +kernel
theorem dX8_act_115 : decode cX8_act 115 = .ok (.invokevirtual 284, 3) := by decide +kernel
theorem dX8_act_118 : decode cX8_act 118 = .ok (.iconst 1, 1) := by decide +kernel
theorem dX8_act_119 : decode cX8_act 119 = .ok (.ireturn, 1) := by decide +kernel
theorem dX8_act_120 : decode cX8_act 120 = .ok (.aload_n 0, 1) := by decide +kernel
theorem dX8_act_121 : decode cX8_act 121 = .ok (.iload_n 2, 1) := by decide +kernel
theorem dX8_act_122 : decode cX8_act 122 = .ok (.iload_n 3, 1) := by decide +kernel
theorem dX8_act_123 : decode cX8_act 123 = .ok (.iload 4, 2) := by decide +kernel
theorem dX8_act_125 : decode cX8_act 125 = .ok (.iload 5, 2) := by decide +kernel
theorem dX8_act_127 : decode cX8_act 127 = .ok (.invokevirtual 324, 3) := by decide +kernel
theorem dX8_act_130 : decode cX8_act 130 = .ok (.ifCond .ge 5, 3) := by decide +kernel
theorem dX8_act_133 : decode cX8_act 133 = .ok (.iconst 0, 1) := by decide +kernel
theorem dX8_act_134 : decode cX8_act 134 = .ok (.ireturn, 1) := by decide +kernel
theorem dX8_act_135 : decode cX8_act 135 = .ok (.aload_n 0, 1) := by decide +kernel
theorem dX8_act_136 : decode cX8_act 136 = .ok (.iload_n 2, 1) := by decide +kernel
theorem dX8_act_137 : decode cX8_act 137 = .ok (.iload_n 3, 1) := by decide +kernel
theorem dX8_act_138 : decode cX8_act 138 = .ok (.iload 4, 2) := by decide +kernel
theorem dX8_act_140 : decode cX8_act 140 = .ok (.iload 5, 2) := by decide +kernel
theorem dX8_act_142 : decode cX8_act 142 = .ok (.invokevirtual 327, 3) := by decide +kernel
theorem dX8_act_145 : decode cX8_act 145 = .ok (.iconst 1, 1) := by decide +kernel
theorem dX8_act_146 : decode cX8_act 146 = .ok (.ireturn, 1) := by decide +kernel
theorem dX8_act_147 : decode cX8_act 147 = .ok (.aload_n 0, 1) := by decide +kernel
theorem dX8_act_148 : decode cX8_act 148 = .ok (.iload_n 2, 1) := by decide +kernel
theorem dX8_act_149 : decode cX8_act 149 = .ok (.iload_n 3, 1) := by decide +kernel
theorem dX8_act_150 : decode cX8_act 150 = .ok (.iload 4, 2) := by decide +kernel
theorem dX8_act_152 : decode cX8_act 152 = .ok (.invokevirtual 331, 3) := by decide +kernel
theorem dX8_act_155 : decode cX8_act 155 = .ok (.ifCond .ge 5, 3) := by decide +kernel
theorem dX8_act_158 : decode cX8_act 158 = .ok (.iconst 0, 1) := by decide +kernel
theorem dX8_act_159 : decode cX8_act 159 = .ok (.ireturn, 1) := by decide +kernel
theorem dX8_act_160 : decode cX8_act 160 = .ok (.aload_n 0, 1) := by decide +kernel
theorem dX8_act_161 : decode cX8_act 161 = .ok (.iload_n 2, 1) := by decide +kernel
theorem dX8_act_162 : decode cX8_act 162 = .ok (.iload_n 3, 1) := by decide +kernel
theorem dX8_act_163 : decode cX8_act 163 = .ok (.iload 4, 2) := by decide +kernel
theorem dX8_act_165 : decode cX8_act 165 = .ok (.invokevirtual 334, 3) := by decide +kernel
theorem dX8_act_168 : decode cX8_act 168 = .ok (.iconst 1, 1) := by decide +kernel
theorem dX8_act_169 : decode cX8_act 169 = .ok (.ireturn, 1) := by decide +kernel
theorem dX8_day_0 : decode cX8_day 0 = .ok (.aload_n 0, 1) := by decide +kernel
theorem dX8_day_1 : decode cX8_day 1 = .ok (.iconst 0, 1) := by decide +kernel
theorem dX8_day_2 : decode cX8_day 2 = .ok (.putfield 61, 3) := by decide +kernel
theorem dX8_day_5 : decode cX8_day 5 = .ok (.aload_n 0, 1) := by decide +kernel
theorem dX8_day_6 : decode cX8_day 6 = .ok (.invokevirtual 153, 3) := by decide +kernel
theorem dX8_day_9 : decode cX8_day 9 = .ok (.iconst 0, 1) := by decide +kernel
theorem dX8_day_10 : decode cX8_day 10 = .ok (.istore_n 1, 1) := by decide +kernel
theorem dX8_day_11 : decode cX8_day 11 = .ok (.aload_n 0, 1) := by decide +kernel
theorem dX8_day_12 : decode cX8_day 12 = .ok (.invokevirtual 138, 3) := by decide +kernel
theorem dX8_day_15 : decode cX8_day 15 = .ok (.ifCond .eq 27, 3) := by decide +kernel
theorem dX8_day_18 : decode cX8_day 18 = .ok (.aload_n 0, 1) := by decide +kernel
theorem dX8_day_19 : decode cX8_day 19 = .ok (.getfield 132, 3) := by decide +kernel
theorem dX8_day_22 : decode cX8_day 22 = .ok (.aload_n 0, 1) := by decide +kernel
theorem dX8_day_23 : decode cX8_day 23 = .ok (.getfield 129, 3) := by decide +kernel
theorem dX8_day_26 : decode cX8_day 26 = .ok (.if_icmp .ge 16, 3) := by decide +kernel
theorem dX8_day_29 : decode cX8_day 29 = .ok (.aload_n 0, 1) := by decide +kernel
theorem dX8_day_30 : decode cX8_day 30 = .ok (.iconst 5, 1) := by decide +kernel
theorem dX8_day_31 : decode cX8_day 31 = .ok (.iload_n 1, 1) := by decide +kernel
theorem dX8_day_32 : decode cX8_day 32 = .ok (.imul, 1) := by decide +kernel
theorem dX8_day_33 : decode cX8_day 33 = .ok (.invokevirtual 337, 3) := by decide +kernel
theorem dX8_day_36 : decode cX8_day 36 = .ok (.iinc 1 1, 3) := by decide +kernel
theorem dX8_day_39 : decode cX8_day 39 = .ok (.goto (-28), 3) := by decide +kernel
theorem dX8_day_42 : decode cX8_day 42 = .ok (.aload_n 0, 1) := by decide +kernel
theorem dX8_day_43 : decode cX8_day 43 = .ok (.invokevirtual 159, 3) := by decide +kernel
theorem dX8_day_46 : decode cX8_day 46 = .ok (.ifCond .ne 10, 3) := by decide +kernel
theorem dX8_day_49 : decode cX8_day 49 = .ok (.iconst (-1), 1) := by decide +kernel
theorem dX8_day_50 : decode cX8_day 50 = .ok (.aload_n 0, 1) := by decide +kernel
theorem dX8_day_51 : decode cX8_day 51 = .ok (.getfield 135, 3) := by decide +kernel
theorem dX8_day_54 : decode cX8_day 54 = .ok (.isub, 1) := by decide +kernel
theorem dX8_day_55 : decode cX8_day 55 = .ok (.ireturn, 1) := by decide +kernel
theorem dX8_day_56 : decode cX8_day 56 = .ok (.aload_n 0, 1) := by decide +kernel
theorem dX8_day_57 : decode cX8_day 57 = .ok (.invokevirtual 309, 3) := by decide +kernel
theorem dX8_day_60 : decode cX8_day 60 = .ok (.iconst 0, 1) := by decide +kernel
theorem dX8_day_61 : decode cX8_day 61 = .ok (.istore_n 2, 1) := by decide +kernel
theorem dX8_day_62 : decode cX8_day 62 = .ok (.iload_n 2, 1) := by decide +kernel
theorem dX8_day_63 : decode cX8_day 63 = .ok (.iload_n 1, 1) := by decide +kernel
theorem dX8_day_64 : decode cX8_day 64 = .ok (.if_icmp .ge 19, 3) := by decide +kernel
theorem dX8_day_67 : decode cX8_day 67 = .ok (.aload_n 0, 1) := by decide +kernel
theorem dX8_day_68 : decode cX8_day 68 = .ok (.iconst 5, 1) := by decide +kernel
theorem dX8_day_69 : decode cX8_day 69 = .ok (.iload_n 2, 1) := by decide +kernel
theorem dX8_day_70 : decode cX8_day 70 = .ok (.imul, 1) := by decide +kernel
theorem dX8_day_71 : decode cX8_day 71 = .ok (.invokevirtual 340, 3) := by decide +kernel
theorem dX8_day_74 : decode cX8_day 74 = .ok (.ifCond .eq 9, 3) := by decide +kernel
theorem dX8_day_77 : decode cX8_day 77 = .ok (.iinc 2 1, 3) := by decide +kernel
theorem dX8_day_80 : decode cX8_day 80 = .ok (.goto (-18), 3) := by decide +kernel
theorem dX8_day_83 : decode cX8_day 83 = .ok (.iload_n 2, 1) := by decide +kernel
theorem dX8_day_84 : decode cX8_day 84 = .ok (.ifCond .le 7, 3) := by decide +kernel
theorem dX8_day_87 : decode cX8_day 87 = .ok (.aload_n 0, 1) := by decide +kernel
theorem dX8_day_88 : decode cX8_day 88 = .ok (.invokevirtual 312, 3) := by decide +kernel
theorem dX8_day_91 : decode cX8_day 91 = .ok (.aload_n 0, 1) := by decide +kernel
theorem dX8_day_92 : decode cX8_day 92 = .ok (.iconst 0, 1) := by decide +kernel
theorem dX8_day_93 : decode cX8_day 93 = .ok (.putfield 65, 3) := by decide +kernel
theorem dX8_day_96 : decode cX8_day 96 = .ok (.aload_n 0, 1) := by decide +kernel
theorem dX8_day_97 : decode cX8_day 97 = .ok (.iload_n 2, 1) := by decide +kernel
theorem dX8_day_98 : decode cX8_day 98 = .ok (.iload_n 1, 1) := by decide +kernel
theorem dX8_day_99 : decode cX8_day 99 = .ok (.if_icmp .ge 7, 3) := by decide +kernel
theorem dX8_day_102 : decode cX8_day 102 = .ok (.lconst 1, 1) := by decide +kernel
theorem dX8_day_103 : decode cX8_day 103 = .ok (.goto 4, 3) := by decide +kernel
theorem dX8_day_106 : decode cX8_day 106 = .ok (.lconst 0, 1) := by decide +kernel
theorem dX8_day_107 : decode cX8_day 107 = .ok (.invokevirtual 182, 3) := by decide +kernel
theorem dX8_day_110 : decode cX8_day 110 = .ok (.aload_n 0, 1) := by decide +kernel
theorem dX8_day_111 : decode cX8_day 111 = .ok (.aload_n 0, 1) := by decide +kernel
theorem dX8_day_112 : decode cX8_day 112 = .ok (.invokevirtual 226, 3) := by decide +kernel
theorem dX8_day_115 : decode cX8_day 115 = .ok (.i2l, 1) := by decide +kernel
theorem dX8_day_116 : decode cX8_day 116 = .ok (.invokevirtual 182, 3) := by decide +kernel
theorem dX8_day_119 : decode cX8_day 119 = .ok (.iload_n 2, 1) := by decide +kernel
theorem dX8_day_120 : decode cX8_day 120 = .ok (.ireturn, 1) := by decide +kernel
theorem dX8_undo_0 : decode cX8_undo 0 = .ok (.aload_n 0, 1) := by decide +kernel
theorem dX8_undo_1 : decode cX8_undo 1 = .ok (.iconst 0, 1) := by decide +kernel
theorem dX8_undo_2 : decode cX8_undo 2 = .ok (.putfield 61, 3) := by decide +kernel
theorem dX8_undo_5 : decode cX8_undo 5 = .ok (.aload_n 0, 1) := by decide +kernel
theorem dX8_undo_6 : decode cX8_undo 6 = .ok (.getfield 306, 3) := by decide +kernel
theorem dX8_undo_9 : decode cX8_undo 9 = .ok (.ifCond .ne 5, 3) := by decide +kernel
theorem dX8_undo_12 : decode cX8_undo 12 = .ok (.iconst (-1), 1) := by decide +kernel
theorem dX8_undo_13 : decode cX8_undo 13 = .ok (.ireturn, 1) := by decide +kernel
theorem dX8_undo_14 : decode cX8_undo 14 = .ok (.aload_n 0, 1) := by decide +kernel
theorem dX8_undo_15 : decode cX8_undo 15 = .ok (.dup, 1) := by decide +kernel
theorem dX8_undo_16 : decode cX8_undo 16 = .ok (.getfield 306, 3) := by decide +kernel
theorem dX8_undo_19 : decode cX8_undo 19 = .ok (.iconst 1, 1) := by decide +kernel
theorem dX8_undo_20 : decode cX8_undo 20 = .ok (.isub, 1) := by decide +kernel
theorem dX8_undo_21 : decode cX8_undo 21 = .ok (.putfield 306, 3) := by decide +kernel
theorem dX8_undo_24 : decode cX8_undo 24 = .ok (.iconst 0, 1) := by decide +kernel
theorem dX8_undo_25 : decode cX8_undo 25 = .ok (.istore_n 1, 1) := by decide +kernel
theorem dX8_undo_26 : decode cX8_undo 26 = .ok (.iload_n 1, 1) := by decide +kernel
theorem dX8_undo_27 : decode cX8_undo 27 = .ok (.sipush 189, 3) := by decide +kernel
theorem dX8_undo_30 : decode cX8_undo 30 = .ok (.if_icmp .ge 30, 3) := by decide +kernel
theorem dX8_undo_33 : decode cX8_undo 33 = .ok (.aload_n 0, 1) := by decide +kernel
theorem dX8_undo_34 : decode cX8_undo 34 = .ok (.getfield 9, 3) := by decide +kernel
theorem dX8_undo_37 : decode cX8_undo 37 = .ok (.iload_n 1, 1) := by decide +kernel
theorem dX8_undo_38 : decode cX8_undo 38 = .ok (.aload_n 0, 1) := by decide +kernel
theorem dX8_undo_39 : decode cX8_undo 39 = .ok (.getfield 46, 3) := by decide +kernel
theorem dX8_undo_42 : decode cX8_undo 42 = .ok (.sipush 189, 3) := by decide +kernel
theorem dX8_undo_45 : decode cX8_undo 45 = .ok (.aload_n 0, 1) := by decide +kernel
theorem dX8_undo_46 : decode cX8_undo 46 = .ok (.getfield 306, 3) := by decide +kernel
theorem dX8_undo_49 : decode cX8_undo 49 = .ok (.imul, 1) := by decide +kernel
theorem dX8_undo_50 : decode cX8_undo 50 = .ok (.iload_n 1, 1) := by decide +kernel
theorem dX8_undo_51 : decode cX8_undo 51 = .ok (.iadd, 1) := by decide +kernel
theorem dX8_undo_52 : decode cX8_undo 52 = .ok (.iaload, 1) := by decide +kernel
theorem dX8_undo_53 : decode cX8_undo 53 = .ok (.iastore, 1) := by decide +kernel
theorem dX8_undo_54 : decode cX8_undo 54 = .ok (.iinc 1 1, 3) := by decide +kernel
theorem dX8_undo_57 : decode cX8_undo 57 = .ok (.goto (-31), 3) := by decide +kernel
theorem dX8_undo_60 : decode cX8_undo 60 = .ok (.aload_n 0, 1) := by decide +kernel
theorem dX8_undo_61 : decode cX8_undo 61 = .ok (.getfield 306, 3) := by decide +kernel
theorem dX8_undo_64 : decode cX8_undo 64 = .ok (.ireturn, 1) := by decide +kernel
theorem dX8_draw_0 : decode cX8_draw 0 = .ok (.aload_n 0, 1) := by decide +kernel
theorem dX8_draw_1 : decode cX8_draw 1 = .ok (.aload_n 0, 1) := by decide +kernel
theorem dX8_draw_2 : decode cX8_draw 2 = .ok (.getfield 343, 3) := by decide +kernel
theorem dX8_draw_5 : decode cX8_draw 5 = .ok (.ldc_w 346, 3) := by decide +kernel
theorem dX8_draw_8 : decode cX8_draw 8 = .ok (.imul, 1) := by decide +kernel
theorem dX8_draw_9 : decode cX8_draw 9 = .ok (.sipush 12345, 3) := by decide +kernel
theorem dX8_draw_12 : decode cX8_draw 12 = .ok (.iadd, 1) := by decide +kernel
theorem dX8_draw_13 : decode cX8_draw 13 = .ok (.putfield 343, 3) := by decide +kernel
theorem dX8_draw_16 : decode cX8_draw 16 = .ok (.aload_n 0, 1) := by decide +kernel
theorem dX8_draw_17 : decode cX8_draw 17 = .ok (.getfield 343, 3) := by decide +kernel
theorem dX8_draw_20 : decode cX8_draw 20 = .ok (.bipush 16, 2) := by decide +kernel
theorem dX8_draw_22 : decode cX8_draw 22 = .ok (.iushr, 1) := by decide +kernel
theorem dX8_draw_23 : decode cX8_draw 23 = .ok (.iload_n 1, 1) := by decide +kernel
theorem dX8_draw_24 : decode cX8_draw 24 = .ok (.irem, 1) := by decide +kernel
theorem dX8_draw_25 : decode cX8_draw 25 = .ok (.ireturn, 1) := by decide +kernel
theorem dX8_years_0 : decode cX8_years 0 = .ok (.aload_n 0, 1) := by decide +kernel
theorem dX8_years_1 : decode cX8_years 1 = .ok (.iconst 0, 1) := by decide +kernel
theorem dX8_years_2 : decode cX8_years 2 = .ok (.putfield 61, 3) := by decide +kernel
theorem dX8_years_5 : decode cX8_years 5 = .ok (.iload_n 2, 1) := by decide +kernel
theorem dX8_years_6 : decode cX8_years 6 = .ok (.iconst 1, 1) := by decide +kernel
theorem dX8_years_7 : decode cX8_years 7 = .ok (.bipush 40, 2) := by decide +kernel
theorem dX8_years_9 : decode cX8_years 9 = .ok (.invokestatic 72, 3) := by decide +kernel
theorem dX8_years_12 : decode cX8_years 12 = .ok (.ifCond .ne 5, 3) := by decide +kernel
theorem dX8_years_15 : decode cX8_years 15 = .ok (.iconst (-1), 1) := by decide +kernel
theorem dX8_years_16 : decode cX8_years 16 = .ok (.ireturn, 1) := by decide +kernel
theorem dX8_years_17 : decode cX8_years 17 = .ok (.aload_n 0, 1) := by decide +kernel
theorem dX8_years_18 : decode cX8_years 18 = .ok (.iload_n 1, 1) := by decide +kernel
theorem dX8_years_19 : decode cX8_years 19 = .ok (.putfield 343, 3) := by decide +kernel
theorem dX8_years_22 : decode cX8_years 22 = .ok (.aload_n 0, 1) := by decide +kernel
theorem dX8_years_23 : decode cX8_years 23 = .ok (.invokevirtual 281, 3) := by decide +kernel
theorem dX8_years_26 : decode cX8_years 26 = .ok (.iconst 0, 1) := by decide +kernel
theorem dX8_years_27 : decode cX8_years 27 = .ok (.istore_n 3, 1) := by decide +kernel
theorem dX8_years_28 : decode cX8_years 28 = .ok (.iload_n 3, 1) := by decide +kernel
theorem dX8_years_29 : decode cX8_years 29 = .ok (.iload_n 2, 1) := by decide +kernel
theorem dX8_years_30 : decode cX8_years 30 = .ok (.if_icmp .ge 65, 3) := by decide +kernel
theorem dX8_years_33 : decode cX8_years 33 = .ok (.aload_n 0, 1) := by decide +kernel
theorem dX8_years_34 : decode cX8_years 34 = .ok (.aload_n 0, 1) := by decide +kernel
theorem dX8_years_35 : decode cX8_years 35 = .ok (.invokevirtual 172, 3) := by decide +kernel
theorem dX8_years_38 : decode cX8_years 38 = .ok (.invokevirtual 347, 3) := by decide +kernel
theorem dX8_years_41 : decode cX8_years 41 = .ok (.istore 4, 2) := by decide +kernel
theorem dX8_years_43 : decode cX8_years 43 = .ok (.aload_n 0, 1) := by decide +kernel
theorem dX8_years_44 : decode cX8_years 44 = .ok (.iconst 3, 1) := by decide +kernel
theorem dX8_years_45 : decode cX8_years 45 = .ok (.invokevirtual 347, 3) := by decide +kernel
theorem dX8_years_48 : decode cX8_years 48 = .ok (.istore 5, 2) := by decide +kernel
theorem dX8_years_50 : decode cX8_years 50 = .ok (.aload_n 0, 1) := by decide +kernel
theorem dX8_years_51 : decode cX8_years 51 = .ok (.aload_n 0, 1) := by decide +kernel
theorem dX8_years_52 : decode cX8_years 52 = .ok (.iload 4, 2) := by decide +kernel
theorem dX8_years_54 : decode cX8_years 54 = .ok (.invokevirtual 84, 3) := by decide +kernel
theorem dX8_years_57 : decode cX8_years 57 = .ok (.aload_n 0, 1) := by decide +kernel
theorem dX8_years_58 : decode cX8_years 58 = .ok (.iload 4, 2) := by decide +kernel
theorem dX8_years_60 : decode cX8_years 60 = .ok (.invokevirtual 179, 3) := by decide +kernel
theorem dX8_years_63 : decode cX8_years 63 = .ok (.iload 5, 2) := by decide +kernel
theorem dX8_years_65 : decode cX8_years 65 = .ok (.invokevirtual 315, 3) := by decide +kernel
theorem dX8_years_68 : decode cX8_years 68 = .ok (.ifCond .ne 21, 3) := by decide +kernel
theorem dX8_years_71 : decode cX8_years 71 = .ok (.aload_n 0, 1) := by decide +kernel
theorem dX8_years_72 : decode cX8_years 72 = .ok (.aload_n 0, 1) := by decide +kernel
theorem dX8_years_73 : decode cX8_years 73 = .ok (.iload 4, 2) := by decide +kernel
theorem dX8_years_75 : decode cX8_years 75 = .ok (.invokevirtual 84, 3) := by decide +kernel
theorem dX8_years_78 : decode cX8_years 78 = .ok (.aload_n 0, 1) := by decide +kernel
theorem dX8_years_79 : decode cX8_years 79 = .ok (.iload 4, 2) := by decide +kernel
theorem dX8_years_81 : decode cX8_years 81 = .ok (.invokevirtual 179, 3) := by decide +kernel
theorem dX8_years_84 : decode cX8_years 84 = .ok (.iload 5, 2) := by decide +kernel
theorem dX8_years_86 : decode cX8_years 86 = .ok (.invokevirtual 318, 3) := by decide +kernel
theorem dX8_years_89 : decode cX8_years 89 = .ok (.iinc 3 1, 3) := by decide +kernel
theorem dX8_years_92 : decode cX8_years 92 = .ok (.goto (-64), 3) := by decide +kernel
theorem dX8_years_95 : decode cX8_years 95 = .ok (.aload_n 0, 1) := by decide +kernel
theorem dX8_years_96 : decode cX8_years 96 = .ok (.invokevirtual 226, 3) := by decide +kernel
theorem dX8_years_99 : decode cX8_years 99 = .ok (.istore_n 3, 1) := by decide +kernel
theorem dX8_years_100 : decode cX8_years 100 = .ok (.aload_n 0, 1) := by decide +kernel
theorem dX8_years_101 : decode cX8_years 101 = .ok (.iconst 0, 1) := by decide +kernel
theorem dX8_years_102 : decode cX8_years 102 = .ok (.putfield 65, 3) := by decide +kernel
theorem dX8_years_105 : decode cX8_years 105 = .ok (.aload_n 0, 1) := by decide +kernel
theorem dX8_years_106 : decode cX8_years 106 = .ok (.aload_n 0, 1) := by decide +kernel
theorem dX8_years_107 : decode cX8_years 107 = .ok (.invokevirtual 229, 3) := by decide +kernel
theorem dX8_years_110 : decode cX8_years 110 = .ok (.i2l, 1) := by decide +kernel
theorem dX8_years_111 : decode cX8_years 111 = .ok (.invokevirtual 182, 3) := by decide +kernel
theorem dX8_years_114 : decode cX8_years 114 = .ok (.iconst 0, 1) := by decide +kernel
theorem dX8_years_115 : decode cX8_years 115 = .ok (.istore 4, 2) := by decide +kernel
theorem dX8_years_117 : decode cX8_years 117 = .ok (.iload 4, 2) := by decide +kernel
theorem dX8_years_119 : decode cX8_years 119 = .ok (.iconst 3, 1) := by decide +kernel
theorem dX8_years_120 : decode cX8_years 120 = .ok (.if_icmp .ge 24, 3) := by decide +kernel
theorem dX8_years_123 : decode cX8_years 123 = .ok (.aload_n 0, 1) := by decide +kernel
theorem dX8_years_124 : decode cX8_years 124 = .ok (.iload 4, 2) := by decide +kernel
theorem dX8_years_126 : decode cX8_years 126 = .ok (.invokevirtual 247, 3) := by decide +kernel
theorem dX8_years_129 : decode cX8_years 129 = .ok (.aload_n 0, 1) := by decide +kernel
theorem dX8_years_130 : decode cX8_years 130 = .ok (.aload_n 0, 1) := by decide +kernel
theorem dX8_years_131 : decode cX8_years 131 = .ok (.getfield 241, 3) := by decide +kernel
theorem dX8_years_134 : decode cX8_years 134 = .ok (.i2l, 1) := by decide +kernel
theorem dX8_years_135 : decode cX8_years 135 = .ok (.invokevirtual 182, 3) := by decide +kernel
theorem dX8_years_138 : decode cX8_years 138 = .ok (.iinc 4 1, 3) := by decide +kernel
theorem dX8_years_141 : decode cX8_years 141 = .ok (.goto (-24), 3) := by decide +kernel
theorem dX8_years_144 : decode cX8_years 144 = .ok (.aload_n 0, 1) := by decide +kernel
theorem dX8_years_145 : decode cX8_years 145 = .ok (.invokevirtual 287, 3) := by decide +kernel
theorem dX8_years_148 : decode cX8_years 148 = .ok (.iload_n 3, 1) := by decide +kernel
theorem dX8_years_149 : decode cX8_years 149 = .ok (.ireturn, 1) := by decide +kernel
theorem dX8_keep_0 : decode cX8_keep 0 = .ok (.aload_n 0, 1) := by decide +kernel
theorem dX8_keep_1 : decode cX8_keep 1 = .ok (.iconst 0, 1) := by decide +kernel
theorem dX8_keep_2 : decode cX8_keep 2 = .ok (.putfield 61, 3) := by decide +kernel
theorem dX8_keep_5 : decode cX8_keep 5 = .ok (.iload_n 1, 1) := by decide +kernel
theorem dX8_keep_6 : decode cX8_keep 6 = .ok (.iconst 0, 1) := by decide +kernel
theorem dX8_keep_7 : decode cX8_keep 7 = .ok (.iconst 1, 1) := by decide +kernel
theorem dX8_keep_8 : decode cX8_keep 8 = .ok (.invokestatic 72, 3) := by decide +kernel
theorem dX8_keep_11 : decode cX8_keep 11 = .ok (.ifCond .ne 5, 3) := by decide +kernel
theorem dX8_keep_14 : decode cX8_keep 14 = .ok (.iconst 0, 1) := by decide +kernel
theorem dX8_keep_15 : decode cX8_keep 15 = .ok (.ireturn, 1) := by decide +kernel
theorem dX8_keep_16 : decode cX8_keep 16 = .ok (.aload_n 0, 1) := by decide +kernel
theorem dX8_keep_17 : decode cX8_keep 17 = .ok (.getfield 55, 3) := by decide +kernel
theorem dX8_keep_20 : decode cX8_keep 20 = .ok (.iload_n 1, 1) := by decide +kernel
theorem dX8_keep_21 : decode cX8_keep 21 = .ok (.iconst 1, 1) := by decide +kernel
theorem dX8_keep_22 : decode cX8_keep 22 = .ok (.bastore, 1) := by decide +kernel
theorem dX8_keep_23 : decode cX8_keep 23 = .ok (.iconst 0, 1) := by decide +kernel
theorem dX8_keep_24 : decode cX8_keep 24 = .ok (.istore_n 2, 1) := by decide +kernel
theorem dX8_keep_25 : decode cX8_keep 25 = .ok (.iload_n 2, 1) := by decide +kernel
theorem dX8_keep_26 : decode cX8_keep 26 = .ok (.sipush 189, 3) := by decide +kernel
theorem dX8_keep_29 : decode cX8_keep 29 = .ok (.if_icmp .ge 27, 3) := by decide +kernel
theorem dX8_keep_32 : decode cX8_keep 32 = .ok (.aload_n 0, 1) := by decide +kernel
theorem dX8_keep_33 : decode cX8_keep 33 = .ok (.getfield 52, 3) := by decide +kernel
theorem dX8_keep_36 : decode cX8_keep 36 = .ok (.sipush 189, 3) := by decide +kernel
theorem dX8_keep_39 : decode cX8_keep 39 = .ok (.iload_n 1, 1) := by decide +kernel
theorem dX8_keep_40 : decode cX8_keep 40 = .ok (.imul, 1) := by decide +kernel
theorem dX8_keep_41 : decode cX8_keep 41 = .ok (.iload_n 2, 1) := by decide +kernel
theorem dX8_keep_42 : decode cX8_keep 42 = .ok (.iadd, 1) := by decide +kernel
theorem dX8_keep_43 : decode cX8_keep 43 = .ok (.aload_n 0, 1) := by decide +kernel
theorem dX8_keep_44 : decode cX8_keep 44 = .ok (.getfield 9, 3) := by decide +kernel
theorem dX8_keep_47 : decode cX8_keep 47 = .ok (.iload_n 2, 1) := by decide +kernel
theorem dX8_keep_48 : decode cX8_keep 48 = .ok (.iaload, 1) := by decide +kernel
theorem dX8_keep_49 : decode cX8_keep 49 = .ok (.iastore, 1) := by decide +kernel
theorem dX8_keep_50 : decode cX8_keep 50 = .ok (.iinc 2 1, 3) := by decide +kernel
theorem dX8_keep_53 : decode cX8_keep 53 = .ok (.goto (-28), 3) := by decide +kernel
theorem dX8_keep_56 : decode cX8_keep 56 = .ok (.iconst 1, 1) := by decide +kernel
theorem dX8_keep_57 : decode cX8_keep 57 = .ok (.ireturn, 1) := by decide +kernel
theorem dX8_again_0 : decode cX8_again 0 = .ok (.aload_n 0, 1) := by decide +kernel
theorem dX8_again_1 : decode cX8_again 1 = .ok (.iconst 0, 1) := by decide +kernel
theorem dX8_again_2 : decode cX8_again 2 = .ok (.putfield 61, 3) := by decide +kernel
theorem dX8_again_5 : decode cX8_again 5 = .ok (.iload_n 1, 1) := by decide +kernel
theorem dX8_again_6 : decode cX8_again 6 = .ok (.iconst 0, 1) := by decide +kernel
theorem dX8_again_7 : decode cX8_again 7 = .ok (.iconst 1, 1) := by decide +kernel
theorem dX8_again_8 : decode cX8_again 8 = .ok (.invokestatic 72, 3) := by decide +kernel
theorem dX8_again_11 : decode cX8_again 11 = .ok (.ifCond .eq 12, 3) := by decide +kernel
theorem dX8_again_14 : decode cX8_again 14 = .ok (.aload_n 0, 1) := by decide +kernel
theorem dX8_again_15 : decode cX8_again 15 = .ok (.getfield 55, 3) := by decide +kernel
theorem dX8_again_18 : decode cX8_again 18 = .ok (.iload_n 1, 1) := by decide +kernel
theorem dX8_again_19 : decode cX8_again 19 = .ok (.baload, 1) := by decide +kernel
theorem dX8_again_20 : decode cX8_again 20 = .ok (.ifCond .ne 5, 3) := by decide +kernel
theorem dX8_again_23 : decode cX8_again 23 = .ok (.iconst 0, 1) := by decide +kernel
theorem dX8_again_24 : decode cX8_again 24 = .ok (.ireturn, 1) := by decide +kernel
theorem dX8_again_25 : decode cX8_again 25 = .ok (.iconst 0, 1) := by decide +kernel
theorem dX8_again_26 : decode cX8_again 26 = .ok (.istore_n 2, 1) := by decide +kernel
theorem dX8_again_27 : decode cX8_again 27 = .ok (.iload_n 2, 1) := by decide +kernel
theorem dX8_again_28 : decode cX8_again 28 = .ok (.sipush 189, 3) := by decide +kernel
theorem dX8_again_31 : decode cX8_again 31 = .ok (.if_icmp .ge 27, 3) := by decide +kernel
theorem dX8_again_34 : decode cX8_again 34 = .ok (.aload_n 0, 1) := by decide +kernel
theorem dX8_again_35 : decode cX8_again 35 = .ok (.getfield 9, 3) := by decide +kernel
theorem dX8_again_38 : decode cX8_again 38 = .ok (.iload_n 2, 1) := by decide +kernel
theorem dX8_again_39 : decode cX8_again 39 = .ok (.aload_n 0, 1) := by decide +kernel
theorem dX8_again_40 : decode cX8_again 40 = .ok (.getfield 52, 3) := by decide +kernel
theorem dX8_again_43 : decode cX8_again 43 = .ok (.sipush 189, 3) := by decide +kernel
theorem dX8_again_46 : decode cX8_again 46 = .ok (.iload_n 1, 1) := by decide +kernel
theorem dX8_again_47 : decode cX8_again 47 = .ok (.imul, 1) := by decide +kernel
theorem dX8_again_48 : decode cX8_again 48 = .ok (.iload_n 2, 1) := by decide +kernel
theorem dX8_again_49 : decode cX8_again 49 = .ok (.iadd, 1) := by decide +kernel
theorem dX8_again_50 : decode cX8_again 50 = .ok (.iaload, 1) := by decide +kernel
theorem dX8_again_51 : decode cX8_again 51 = .ok (.iastore, 1) := by decide +kernel
theorem dX8_again_52 : decode cX8_again 52 = .ok (.iinc 2 1, 3) := by decide +kernel
theorem dX8_again_55 : decode cX8_again 55 = .ok (.goto (-28), 3) := by decide +kernel
theorem dX8_again_58 : decode cX8_again 58 = .ok (.aload_n 0, 1) := by decide +kernel
theorem dX8_again_59 : decode cX8_again 59 = .ok (.iconst 0, 1) := by decide +kernel
theorem dX8_again_60 : decode cX8_again 60 = .ok (.putfield 306, 3) := by decide +kernel
theorem dX8_again_63 : decode cX8_again 63 = .ok (.iconst 1, 1) := by decide +kernel
theorem dX8_again_64 : decode cX8_again 64 = .ok (.ireturn, 1) := by decide +kernel
theorem dX8_count_0 : decode cX8_count 0 = .ok (.aload_n 0, 1) := by decide +kernel
theorem dX8_count_1 : decode cX8_count 1 = .ok (.iconst 0, 1) := by decide +kernel
theorem dX8_count_2 : decode cX8_count 2 = .ok (.putfield 61, 3) := by decide +kernel
theorem dX8_count_5 : decode cX8_count 5 = .ok (.iload_n 1, 1) := by decide +kernel
theorem dX8_count_6 : decode cX8_count 6 = .ok (.tableswitch 118 0 8 #[50, 55, 60, 70, 77, 98, 103, 108, 113], 50) := by decide +kernel
theorem dX8_count_56 : decode cX8_count 56 = .ok (.aload_n 0, 1) := by decide +kernel
theorem dX8_count_57 : decode cX8_count 57 = .ok (.invokevirtual 68, 3) := by decide +kernel
theorem dX8_count_60 : decode cX8_count 60 = .ok (.ireturn, 1) := by decide +kernel
theorem dX8_count_61 : decode cX8_count 61 = .ok (.aload_n 0, 1) := by decide +kernel
theorem dX8_count_62 : decode cX8_count 62 = .ok (.invokevirtual 172, 3) := by decide +kernel
theorem dX8_count_65 : decode cX8_count 65 = .ok (.ireturn, 1) := by decide +kernel
theorem dX8_count_66 : decode cX8_count 66 = .ok (.aload_n 0, 1) := by decide +kernel
theorem dX8_count_67 : decode cX8_count 67 = .ok (.invokevirtual 68, 3) := by decide +kernel
theorem dX8_count_70 : decode cX8_count 70 = .ok (.aload_n 0, 1) := by decide +kernel
theorem dX8_count_71 : decode cX8_count 71 = .ok (.invokevirtual 68, 3) := by decide +kernel
theorem dX8_count_74 : decode cX8_count 74 = .ok (.imul, 1) := by decide +kernel
theorem dX8_count_75 : decode cX8_count 75 = .ok (.ireturn, 1) := by decide +kernel
theorem dX8_count_76 : decode cX8_count 76 = .ok (.aload_n 0, 1) := by decide +kernel
theorem dX8_count_77 : decode cX8_count 77 = .ok (.getfield 9, 3) := by decide +kernel
theorem dX8_count_80 : decode cX8_count 80 = .ok (.iconst 1, 1) := by decide +kernel
theorem dX8_count_81 : decode cX8_count 81 = .ok (.iaload, 1) := by decide +kernel
theorem dX8_count_82 : decode cX8_count 82 = .ok (.ireturn, 1) := by decide +kernel
theorem dX8_count_83 : decode cX8_count 83 = .ok (.aload_n 0, 1) := by decide +kernel
theorem dX8_count_84 : decode cX8_count 84 = .ok (.getfield 9, 3) := by decide +kernel
theorem dX8_count_87 : decode cX8_count 87 = .ok (.iconst 1, 1) := by decide +kernel
theorem dX8_count_88 : decode cX8_count 88 = .ok (.iaload, 1) := by decide +kernel
theorem dX8_count_89 : decode cX8_count 89 = .ok (.iconst 1, 1) := by decide +kernel
theorem dX8_count_90 : decode cX8_count 90 = .ok (.if_icmp .ne 12, 3) := by decide +kernel
theorem dX8_count_93 : decode cX8_count 93 = .ok (.aload_n 0, 1) := by decide +kernel
theorem dX8_count_94 : decode cX8_count 94 = .ok (.getfield 9, 3) := by decide +kernel
theorem dX8_count_97 : decode cX8_count 97 = .ok (.iconst 2, 1) := by decide +kernel
theorem dX8_count_98 : decode cX8_count 98 = .ok (.iaload, 1) := by decide +kernel
theorem dX8_count_99 : decode cX8_count 99 = .ok (.goto 4, 3) := by decide +kernel
theorem dX8_count_102 : decode cX8_count 102 = .ok (.iconst 0, 1) := by decide +kernel
theorem dX8_count_103 : decode cX8_count 103 = .ok (.ireturn, 1) := by decide +kernel
theorem dX8_count_104 : decode cX8_count 104 = .ok (.aload_n 0, 1) := by decide +kernel
theorem dX8_count_105 : decode cX8_count 105 = .ok (.invokevirtual 226, 3) := by decide +kernel
theorem dX8_count_108 : decode cX8_count 108 = .ok (.ireturn, 1) := by decide +kernel
theorem dX8_count_109 : decode cX8_count 109 = .ok (.aload_n 0, 1) := by decide +kernel
theorem dX8_count_110 : decode cX8_count 110 = .ok (.getfield 306, 3) := by decide +kernel
theorem dX8_count_113 : decode cX8_count 113 = .ok (.ireturn, 1) := by decide +kernel
theorem dX8_count_114 : decode cX8_count 114 = .ok (.aload_n 0, 1) := by decide +kernel
theorem dX8_count_115 : decode cX8_count 115 = .ok (.getfield 65, 3) := by decide +kernel
theorem dX8_count_118 : decode cX8_count 118 = .ok (.ireturn, 1) := by decide +kernel
theorem dX8_count_119 : decode cX8_count 119 = .ok (.aload_n 0, 1) := by decide +kernel
theorem dX8_count_120 : decode cX8_count 120 = .ok (.getfield 126, 3) := by decide +kernel
theorem dX8_count_123 : decode cX8_count 123 = .ok (.ireturn, 1) := by decide +kernel
theorem dX8_count_124 : decode cX8_count 124 = .ok (.iconst (-1), 1) := by decide +kernel
theorem dX8_count_125 : decode cX8_count 125 = .ok (.ireturn, 1) := by decide +kernel
theorem dX8_row_0 : decode cX8_row 0 = .ok (.aload_n 0, 1) := by decide +kernel
theorem dX8_row_1 : decode cX8_row 1 = .ok (.iconst 0, 1) := by decide +kernel
theorem dX8_row_2 : decode cX8_row 2 = .ok (.putfield 61, 3) := by decide +kernel
theorem dX8_row_5 : decode cX8_row 5 = .ok (.iload_n 1, 1) := by decide +kernel
theorem dX8_row_6 : decode cX8_row 6 = .ok (.iconst 0, 1) := by decide +kernel
theorem dX8_row_7 : decode cX8_row 7 = .ok (.aload_n 0, 1) := by decide +kernel
theorem dX8_row_8 : decode cX8_row 8 = .ok (.getfield 65, 3) := by decide +kernel
theorem dX8_row_11 : decode cX8_row 11 = .ok (.iconst 1, 1) := by decide +kernel
theorem dX8_row_12 : decode cX8_row 12 = .ok (.isub, 1) := by decide +kernel
theorem dX8_row_13 : decode cX8_row 13 = .ok (.invokestatic 72, 3) := by decide +kernel
theorem dX8_row_16 : decode cX8_row 16 = .ok (.ifCond .eq 12, 3) := by decide +kernel
theorem dX8_row_19 : decode cX8_row 19 = .ok (.aload_n 0, 1) := by decide +kernel
theorem dX8_row_20 : decode cX8_row 20 = .ok (.getfield 17, 3) := by decide +kernel
theorem dX8_row_23 : decode cX8_row 23 = .ok (.iload_n 1, 1) := by decide +kernel
theorem dX8_row_24 : decode cX8_row 24 = .ok (.laload, 1) := by decide +kernel
theorem dX8_row_25 : decode cX8_row 25 = .ok (.goto 8, 3) := by decide +kernel
theorem dX8_row_28 : decode cX8_row 28 = .ok (.aload_n 0, 1) := by decide +kernel
theorem dX8_row_29 : decode cX8_row 29 = .ok (.invokevirtual 223, 3) := by decide +kernel
theorem dX8_row_32 : decode cX8_row 32 = .ok (.i2l, 1) := by decide +kernel
theorem dX8_row_33 : decode cX8_row 33 = .ok (.lreturn, 1) := by decide +kernel
