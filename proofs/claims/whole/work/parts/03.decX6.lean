theorem dX6_init_0 : decode cX6_init 0 = .ok (.aload_n 0, 1) := by decide +kernel
theorem dX6_init_1 : decode cX6_init 1 = .ok (.invokespecial 3, 3) := by decide +kernel
theorem dX6_init_4 : decode cX6_init 4 = .ok (.aload_n 0, 1) := by decide +kernel
theorem dX6_init_5 : decode cX6_init 5 = .ok (.bipush 80, 2) := by decide +kernel
theorem dX6_init_7 : decode cX6_init 7 = .ok (.newarray .int, 2) := by decide +kernel
theorem dX6_init_9 : decode cX6_init 9 = .ok (.putfield 9, 3) := by decide +kernel
theorem dX6_init_12 : decode cX6_init 12 = .ok (.aload_n 0, 1) := by decide +kernel
theorem dX6_init_13 : decode cX6_init 13 = .ok (.iconst 0, 1) := by decide +kernel
theorem dX6_init_14 : decode cX6_init 14 = .ok (.putfield 15, 3) := by decide +kernel
theorem dX6_init_17 : decode cX6_init 17 = .ok (.return_, 1) := by decide +kernel
theorem dX6_push_0 : decode cX6_push 0 = .ok (.aload_n 0, 1) := by decide +kernel
theorem dX6_push_1 : decode cX6_push 1 = .ok (.getfield 15, 3) := by decide +kernel
theorem dX6_push_4 : decode cX6_push 4 = .ok (.ifCond .lt 14, 3) := by decide +kernel
theorem dX6_push_7 : decode cX6_push 7 = .ok (.aload_n 0, 1) := by decide +kernel
theorem dX6_push_8 : decode cX6_push 8 = .ok (.getfield 15, 3) := by decide +kernel
theorem dX6_push_11 : decode cX6_push 11 = .ok (.iconst 4, 1) := by decide +kernel
theorem dX6_push_12 : decode cX6_push 12 = .ok (.iadd, 1) := by decide +kernel
theorem dX6_push_13 : decode cX6_push 13 = .ok (.bipush 80, 2) := by decide +kernel
theorem dX6_push_15 : decode cX6_push 15 = .ok (.if_icmp .le 5, 3) := by decide +kernel
theorem dX6_push_18 : decode cX6_push 18 = .ok (.iconst 0, 1) := by decide +kernel
theorem dX6_push_19 : decode cX6_push 19 = .ok (.ireturn, 1) := by decide +kernel
theorem dX6_push_20 : decode cX6_push 20 = .ok (.aload_n 0, 1) := by decide +kernel
theorem dX6_push_21 : decode cX6_push 21 = .ok (.getfield 9, 3) := by decide +kernel
theorem dX6_push_24 : decode cX6_push 24 = .ok (.aload_n 0, 1) := by decide +kernel
theorem dX6_push_25 : decode cX6_push 25 = .ok (.getfield 15, 3) := by decide +kernel
theorem dX6_push_28 : decode cX6_push 28 = .ok (.iload_n 1, 1) := by decide +kernel
theorem dX6_push_29 : decode cX6_push 29 = .ok (.bipush 24, 2) := by decide +kernel
theorem dX6_push_31 : decode cX6_push 31 = .ok (.iushr, 1) := by decide +kernel
theorem dX6_push_32 : decode cX6_push 32 = .ok (.iastore, 1) := by decide +kernel
theorem dX6_push_33 : decode cX6_push 33 = .ok (.aload_n 0, 1) := by decide +kernel
theorem dX6_push_34 : decode cX6_push 34 = .ok (.getfield 9, 3) := by decide +kernel
theorem dX6_push_37 : decode cX6_push 37 = .ok (.aload_n 0, 1) := by decide +kernel
theorem dX6_push_38 : decode cX6_push 38 = .ok (.getfield 15, 3) := by decide +kernel
theorem dX6_push_41 : decode cX6_push 41 = .ok (.iconst 1, 1) := by decide +kernel
theorem dX6_push_42 : decode cX6_push 42 = .ok (.iadd, 1) := by decide +kernel
theorem dX6_push_43 : decode cX6_push 43 = .ok (.iload_n 1, 1) := by decide +kernel
theorem dX6_push_44 : decode cX6_push 44 = .ok (.bipush 16, 2) := by decide +kernel
theorem dX6_push_46 : decode cX6_push 46 = .ok (.iushr, 1) := by decide +kernel
theorem dX6_push_47 : decode cX6_push 47 = .ok (.sipush 255, 3) := by decide +kernel
theorem dX6_push_50 : decode cX6_push 50 = .ok (.iand, 1) := by decide +kernel
theorem dX6_push_51 : decode cX6_push 51 = .ok (.iastore, 1) := by decide +kernel
theorem dX6_push_52 : decode cX6_push 52 = .ok (.aload_n 0, 1) := by decide +kernel
theorem dX6_push_53 : decode cX6_push 53 = .ok (.getfield 9, 3) := by decide +kernel
theorem dX6_push_56 : decode cX6_push 56 = .ok (.aload_n 0, 1) := by decide +kernel
theorem dX6_push_57 : decode cX6_push 57 = .ok (.getfield 15, 3) := by decide +kernel
theorem dX6_push_60 : decode cX6_push 60 = .ok (.iconst 2, 1) := by decide +kernel
theorem dX6_push_61 : decode cX6_push 61 = .ok (.iadd, 1) := by decide +kernel
theorem dX6_push_62 : decode cX6_push 62 = .ok (.iload_n 1, 1) := by decide +kernel
theorem dX6_push_63 : decode cX6_push 63 = .ok (.bipush 8, 2) := by decide +kernel
theorem dX6_push_65 : decode cX6_push 65 = .ok (.iushr, 1) := by decide +kernel
theorem dX6_push_66 : decode cX6_push 66 = .ok (.sipush 255, 3) := by decide +kernel
theorem dX6_push_69 : decode cX6_push 69 = .ok (.iand, 1) := by decide +kernel
theorem dX6_push_70 : decode cX6_push 70 = .ok (.iastore, 1) := by decide +kernel
theorem dX6_push_71 : decode cX6_push 71 = .ok (.aload_n 0, 1) := by decide +kernel
theorem dX6_push_72 : decode cX6_push 72 = .ok (.getfield 9, 3) := by decide +kernel
theorem dX6_push_75 : decode cX6_push 75 = .ok (.aload_n 0, 1) := by decide +kernel
theorem dX6_push_76 : decode cX6_push 76 = .ok (.getfield 15, 3) := by decide +kernel
theorem dX6_push_79 : decode cX6_push 79 = .ok (.iconst 3, 1) := by decide +kernel
theorem dX6_push_80 : decode cX6_push 80 = .ok (.iadd, 1) := by decide +kernel
theorem dX6_push_81 : decode cX6_push 81 = .ok (.iload_n 1, 1) := by decide +kernel
theorem dX6_push_82 : decode cX6_push 82 = .ok (.sipush 255, 3) := by decide +kernel
theorem dX6_push_85 : decode cX6_push 85 = .ok (.iand, 1) := by decide +kernel
theorem dX6_push_86 : decode cX6_push 86 = .ok (.iastore, 1) := by decide +kernel
theorem dX6_push_87 : decode cX6_push 87 = .ok (.aload_n 0, 1) := by decide +kernel
theorem dX6_push_88 : decode cX6_push 88 = .ok (.dup, 1) := by decide +kernel
theorem dX6_push_89 : decode cX6_push 89 = .ok (.getfield 15, 3) := by decide +kernel
theorem dX6_push_92 : decode cX6_push 92 = .ok (.iconst 4, 1) := by decide +kernel
theorem dX6_push_93 : decode cX6_push 93 = .ok (.iadd, 1) := by decide +kernel
theorem dX6_push_94 : decode cX6_push 94 = .ok (.putfield 15, 3) := by decide +kernel
theorem dX6_push_97 : decode cX6_push 97 = .ok (.iconst 1, 1) := by decide +kernel
theorem dX6_push_98 : decode cX6_push 98 = .ok (.ireturn, 1) := by decide +kernel
theorem dX6_at_0 : decode cX6_at 0 = .ok (.iload_n 1, 1) := by decide +kernel
theorem dX6_at_1 : decode cX6_at 1 = .ok (.ifCond .lt 26, 3) := by decide +kernel
theorem dX6_at_4 : decode cX6_at 4 = .ok (.iload_n 1, 1) := by decide +kernel
theorem dX6_at_5 : decode cX6_at 5 = .ok (.aload_n 0, 1) := by decide +kernel
theorem dX6_at_6 : decode cX6_at 6 = .ok (.getfield 15, 3) := by decide +kernel
theorem dX6_at_9 : decode cX6_at 9 = .ok (.if_icmp .ge 18, 3) := by decide +kernel
theorem dX6_at_12 : decode cX6_at 12 = .ok (.iload_n 1, 1) := by decide +kernel
theorem dX6_at_13 : decode cX6_at 13 = .ok (.bipush 80, 2) := by decide +kernel
theorem dX6_at_15 : decode cX6_at 15 = .ok (.if_icmp .ge 12, 3) := by decide +kernel
theorem dX6_at_18 : decode cX6_at 18 = .ok (.aload_n 0, 1) := by decide +kernel
theorem dX6_at_19 : decode cX6_at 19 = .ok (.getfield 9, 3) := by decide +kernel
theorem dX6_at_22 : decode cX6_at 22 = .ok (.iload_n 1, 1) := by decide +kernel
theorem dX6_at_23 : decode cX6_at 23 = .ok (.iaload, 1) := by decide +kernel
theorem dX6_at_24 : decode cX6_at 24 = .ok (.goto 4, 3) := by decide +kernel
theorem dX6_at_27 : decode cX6_at 27 = .ok (.iconst (-1), 1) := by decide +kernel
theorem dX6_at_28 : decode cX6_at 28 = .ok (.ireturn, 1) := by decide +kernel
theorem dX6_digit_0 : decode cX6_digit 0 = .ok (.aload_n 0, 1) := by decide +kernel
theorem dX6_digit_1 : decode cX6_digit 1 = .ok (.iload_n 1, 1) := by decide +kernel
theorem dX6_digit_2 : decode cX6_digit 2 = .ok (.invokevirtual 19, 3) := by decide +kernel
theorem dX6_digit_5 : decode cX6_digit 5 = .ok (.istore_n 2, 1) := by decide +kernel
theorem dX6_digit_6 : decode cX6_digit 6 = .ok (.iload_n 2, 1) := by decide +kernel
theorem dX6_digit_7 : decode cX6_digit 7 = .ok (.bipush 48, 2) := by decide +kernel
theorem dX6_digit_9 : decode cX6_digit 9 = .ok (.if_icmp .lt 16, 3) := by decide +kernel
theorem dX6_digit_12 : decode cX6_digit 12 = .ok (.iload_n 2, 1) := by decide +kernel
theorem dX6_digit_13 : decode cX6_digit 13 = .ok (.bipush 57, 2) := by decide +kernel
theorem dX6_digit_15 : decode cX6_digit 15 = .ok (.if_icmp .gt 10, 3) := by decide +kernel
theorem dX6_digit_18 : decode cX6_digit 18 = .ok (.iload_n 2, 1) := by decide +kernel
theorem dX6_digit_19 : decode cX6_digit 19 = .ok (.bipush 48, 2) := by decide +kernel
theorem dX6_digit_21 : decode cX6_digit 21 = .ok (.isub, 1) := by decide +kernel
theorem dX6_digit_22 : decode cX6_digit 22 = .ok (.goto 4, 3) := by decide +kernel
theorem dX6_digit_25 : decode cX6_digit 25 = .ok (.iconst (-1), 1) := by decide +kernel
theorem dX6_digit_26 : decode cX6_digit 26 = .ok (.ireturn, 1) := by decide +kernel
theorem dX6_twoDigits_0 : decode cX6_twoDigits 0 = .ok (.bipush 10, 2) := by decide +kernel
theorem dX6_twoDigits_2 : decode cX6_twoDigits 2 = .ok (.aload_n 0, 1) := by decide +kernel
theorem dX6_twoDigits_3 : decode cX6_twoDigits 3 = .ok (.iload_n 1, 1) := by decide +kernel
theorem dX6_twoDigits_4 : decode cX6_twoDigits 4 = .ok (.invokevirtual 23, 3) := by decide +kernel
theorem dX6_twoDigits_7 : decode cX6_twoDigits 7 = .ok (.imul, 1) := by decide +kernel
theorem dX6_twoDigits_8 : decode cX6_twoDigits 8 = .ok (.aload_n 0, 1) := by decide +kernel
theorem dX6_twoDigits_9 : decode cX6_twoDigits 9 = .ok (.iload_n 1, 1) := by decide +kernel
theorem dX6_twoDigits_10 : decode cX6_twoDigits 10 = .ok (.iconst 1, 1) := by decide +kernel
theorem dX6_twoDigits_11 : decode cX6_twoDigits 11 = .ok (.iadd, 1) := by decide +kernel
theorem dX6_twoDigits_12 : decode cX6_twoDigits 12 = .ok (.invokevirtual 23, 3) := by decide +kernel
theorem dX6_twoDigits_15 : decode cX6_twoDigits 15 = .ok (.iadd, 1) := by decide +kernel
theorem dX6_twoDigits_16 : decode cX6_twoDigits 16 = .ok (.ireturn, 1) := by decide +kernel
