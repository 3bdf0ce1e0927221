theorem dX2_init_0 : decode cX2_init 0 = .ok (.aload_n 0, 1) := by decide +kernel
theorem dX2_init_1 : decode cX2_init 1 = .ok (.invokespecial 3, 3) := by decide +kernel
theorem dX2_init_4 : decode cX2_init 4 = .ok (.aload_n 0, 1) := by decide +kernel
theorem dX2_init_5 : decode cX2_init 5 = .ok (.bipush 9, 2) := by decide +kernel
theorem dX2_init_7 : decode cX2_init 7 = .ok (.anewarray 9, 3) := by decide +kernel
theorem dX2_init_10 : decode cX2_init 10 = .ok (.putfield 11, 3) := by decide +kernel
theorem dX2_init_13 : decode cX2_init 13 = .ok (.aload_n 0, 1) := by decide +kernel
theorem dX2_init_14 : decode cX2_init 14 = .ok (.iconst 0, 1) := by decide +kernel
theorem dX2_init_15 : decode cX2_init 15 = .ok (.putfield 17, 3) := by decide +kernel
theorem dX2_init_18 : decode cX2_init 18 = .ok (.aload_n 0, 1) := by decide +kernel
theorem dX2_init_19 : decode cX2_init 19 = .ok (.iconst 0, 1) := by decide +kernel
theorem dX2_init_20 : decode cX2_init 20 = .ok (.putfield 21, 3) := by decide +kernel
theorem dX2_init_23 : decode cX2_init 23 = .ok (.return_, 1) := by decide +kernel
theorem dX2_note_0 : decode cX2_note 0 = .ok (.aload_n 0, 1) := by decide +kernel
theorem dX2_note_1 : decode cX2_note 1 = .ok (.getfield 17, 3) := by decide +kernel
theorem dX2_note_4 : decode cX2_note 4 = .ok (.ifCond .lt 12, 3) := by decide +kernel
theorem dX2_note_7 : decode cX2_note 7 = .ok (.aload_n 0, 1) := by decide +kernel
theorem dX2_note_8 : decode cX2_note 8 = .ok (.getfield 17, 3) := by decide +kernel
theorem dX2_note_11 : decode cX2_note 11 = .ok (.bipush 9, 2) := by decide +kernel
theorem dX2_note_13 : decode cX2_note 13 = .ok (.if_icmp .lt 4, 3) := by decide +kernel
theorem dX2_note_16 : decode cX2_note 16 = .ok (.return_, 1) := by decide +kernel
theorem dX2_note_17 : decode cX2_note 17 = .ok (.aload_n 0, 1) := by decide +kernel
theorem dX2_note_18 : decode cX2_note 18 = .ok (.getfield 11, 3) := by decide +kernel
theorem dX2_note_21 : decode cX2_note 21 = .ok (.aload_n 0, 1) := by decide +kernel
theorem dX2_note_22 : decode cX2_note 22 = .ok (.getfield 17, 3) := by decide +kernel
theorem dX2_note_25 : decode cX2_note 25 = .ok (.aaload, 1) := by decide +kernel
theorem dX2_note_26 : decode cX2_note 26 = .ok (.ifnonnull 19, 3) := by decide +kernel
theorem dX2_note_29 : decode cX2_note 29 = .ok (.aload_n 0, 1) := by decide +kernel
theorem dX2_note_30 : decode cX2_note 30 = .ok (.getfield 11, 3) := by decide +kernel
theorem dX2_note_33 : decode cX2_note 33 = .ok (.aload_n 0, 1) := by decide +kernel
theorem dX2_note_34 : decode cX2_note 34 = .ok (.getfield 17, 3) := by decide +kernel
theorem dX2_note_37 : decode cX2_note 37 = .ok (.new 9, 3) := by decide +kernel
theorem dX2_note_40 : decode cX2_note 40 = .ok (.dup, 1) := by decide +kernel
theorem dX2_note_41 : decode cX2_note 41 = .ok (.invokespecial 24, 3) := by decide +kernel
theorem dX2_note_44 : decode cX2_note 44 = .ok (.aastore, 1) := by decide +kernel
theorem dX2_note_45 : decode cX2_note 45 = .ok (.aload_n 0, 1) := by decide +kernel
theorem dX2_note_46 : decode cX2_note 46 = .ok (.getfield 11, 3) := by decide +kernel
theorem dX2_note_49 : decode cX2_note 49 = .ok (.aload_n 0, 1) := by decide +kernel
theorem dX2_note_50 : decode cX2_note 50 = .ok (.getfield 17, 3) := by decide +kernel
theorem dX2_note_53 : decode cX2_note 53 = .ok (.aaload, 1) := by decide +kernel
theorem dX2_note_54 : decode cX2_note 54 = .ok (.aload_n 1, 1) := by decide +kernel
theorem dX2_note_55 : decode cX2_note 55 = .ok (.invokevirtual 25, 3) := by decide +kernel
theorem dX2_note_58 : decode cX2_note 58 = .ok (.return_, 1) := by decide +kernel
theorem dX2_hold_0 : decode cX2_hold 0 = .ok (.aload_n 0, 1) := by decide +kernel
theorem dX2_hold_1 : decode cX2_hold 1 = .ok (.aload_n 0, 1) := by decide +kernel
theorem dX2_hold_2 : decode cX2_hold 2 = .ok (.getfield 17, 3) := by decide +kernel
theorem dX2_hold_5 : decode cX2_hold 5 = .ok (.iconst 1, 1) := by decide +kernel
theorem dX2_hold_6 : decode cX2_hold 6 = .ok (.iadd, 1) := by decide +kernel
theorem dX2_hold_7 : decode cX2_hold 7 = .ok (.bipush 9, 2) := by decide +kernel
theorem dX2_hold_9 : decode cX2_hold 9 = .ok (.irem, 1) := by decide +kernel
theorem dX2_hold_10 : decode cX2_hold 10 = .ok (.putfield 17, 3) := by decide +kernel
theorem dX2_hold_13 : decode cX2_hold 13 = .ok (.aload_n 0, 1) := by decide +kernel
theorem dX2_hold_14 : decode cX2_hold 14 = .ok (.aload_n 0, 1) := by decide +kernel
theorem dX2_hold_15 : decode cX2_hold 15 = .ok (.getfield 21, 3) := by decide +kernel
theorem dX2_hold_18 : decode cX2_hold 18 = .ok (.iconst 1, 1) := by decide +kernel
theorem dX2_hold_19 : decode cX2_hold 19 = .ok (.iadd, 1) := by decide +kernel
theorem dX2_hold_20 : decode cX2_hold 20 = .ok (.bipush 8, 2) := by decide +kernel
theorem dX2_hold_22 : decode cX2_hold 22 = .ok (.invokestatic 29, 3) := by decide +kernel
theorem dX2_hold_25 : decode cX2_hold 25 = .ok (.putfield 21, 3) := by decide +kernel
theorem dX2_hold_28 : decode cX2_hold 28 = .ok (.return_, 1) := by decide +kernel
theorem dX2_back_0 : decode cX2_back 0 = .ok (.aload_n 0, 1) := by decide +kernel
theorem dX2_back_1 : decode cX2_back 1 = .ok (.getfield 21, 3) := by decide +kernel
theorem dX2_back_4 : decode cX2_back 4 = .ok (.iconst 1, 1) := by decide +kernel
theorem dX2_back_5 : decode cX2_back 5 = .ok (.if_icmp .ge 5, 3) := by decide +kernel
theorem dX2_back_8 : decode cX2_back 8 = .ok (.iconst 0, 1) := by decide +kernel
theorem dX2_back_9 : decode cX2_back 9 = .ok (.ireturn, 1) := by decide +kernel
theorem dX2_back_10 : decode cX2_back 10 = .ok (.aload_n 0, 1) := by decide +kernel
theorem dX2_back_11 : decode cX2_back 11 = .ok (.dup, 1) := by decide +kernel
theorem dX2_back_12 : decode cX2_back 12 = .ok (.getfield 21, 3) := by decide +kernel
theorem dX2_back_15 : decode cX2_back 15 = .ok (.iconst 1, 1) := by decide +kernel
theorem dX2_back_16 : decode cX2_back 16 = .ok (.isub, 1) := by decide +kernel
theorem dX2_back_17 : decode cX2_back 17 = .ok (.putfield 21, 3) := by decide +kernel
theorem dX2_back_20 : decode cX2_back 20 = .ok (.aload_n 0, 1) := by decide +kernel
theorem dX2_back_21 : decode cX2_back 21 = .ok (.aload_n 0, 1) := by decide +kernel
theorem dX2_back_22 : decode cX2_back 22 = .ok (.getfield 17, 3) := by decide +kernel
theorem dX2_back_25 : decode cX2_back 25 = .ok (.bipush 8, 2) := by decide +kernel
theorem dX2_back_27 : decode cX2_back 27 = .ok (.iadd, 1) := by decide +kernel
theorem dX2_back_28 : decode cX2_back 28 = .ok (.bipush 9, 2) := by decide +kernel
theorem dX2_back_30 : decode cX2_back 30 = .ok (.irem, 1) := by decide +kernel
theorem dX2_back_31 : decode cX2_back 31 = .ok (.putfield 17, 3) := by decide +kernel
theorem dX2_back_34 : decode cX2_back 34 = .ok (.aload_n 0, 1) := by decide +kernel
theorem dX2_back_35 : decode cX2_back 35 = .ok (.getfield 17, 3) := by decide +kernel
theorem dX2_back_38 : decode cX2_back 38 = .ok (.ifCond .lt 37, 3) := by decide +kernel
theorem dX2_back_41 : decode cX2_back 41 = .ok (.aload_n 0, 1) := by decide +kernel
theorem dX2_back_42 : decode cX2_back 42 = .ok (.getfield 17, 3) := by decide +kernel
theorem dX2_back_45 : decode cX2_back 45 = .ok (.bipush 9, 2) := by decide +kernel
theorem dX2_back_47 : decode cX2_back 47 = .ok (.if_icmp .ge 28, 3) := by decide +kernel
theorem dX2_back_50 : decode cX2_back 50 = .ok (.aload_n 0, 1) := by decide +kernel
theorem dX2_back_51 : decode cX2_back 51 = .ok (.getfield 11, 3) := by decide +kernel
theorem dX2_back_54 : decode cX2_back 54 = .ok (.aload_n 0, 1) := by decide +kernel
theorem dX2_back_55 : decode cX2_back 55 = .ok (.getfield 17, 3) := by decide +kernel
theorem dX2_back_58 : decode cX2_back 58 = .ok (.aaload, 1) := by decide +kernel
theorem dX2_back_59 : decode cX2_back 59 = .ok (.ifnull 16, 3) := by decide +kernel
theorem dX2_back_62 : decode cX2_back 62 = .ok (.aload_n 1, 1) := by decide +kernel
theorem dX2_back_63 : decode cX2_back 63 = .ok (.aload_n 0, 1) := by decide +kernel
theorem dX2_back_64 : decode cX2_back 64 = .ok (.getfield 11, 3) := by decide +kernel
theorem dX2_back_67 : decode cX2_back 67 = .ok (.aload_n 0, 1) := by decide +kernel
theorem dX2_back_68 : decode cX2_back 68 = .ok (.getfield 17, 3) := by decide +kernel
theorem dX2_back_71 : decode cX2_back 71 = .ok (.aaload, 1) := by decide +kernel
theorem dX2_back_72 : decode cX2_back 72 = .ok (.invokevirtual 25, 3) := by decide +kernel
theorem dX2_back_75 : decode cX2_back 75 = .ok (.iconst 1, 1) := by decide +kernel
theorem dX2_back_76 : decode cX2_back 76 = .ok (.ireturn, 1) := by decide +kernel
