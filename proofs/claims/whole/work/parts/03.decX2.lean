theorem dX2_init_0 : decode cX2_init 0 = .ok (.aload_n 0, 1) := by decide +kernel
theorem dX2_init_1 : decode cX2_init 1 = .ok (.invokespecial 3, 3) := by decide +kernel
theorem dX2_init_4 : decode cX2_init 4 = .ok (.aload_n 0, 1) := by decide +kernel
theorem dX2_init_5 : decode cX2_init 5 = .ok (.bipush 9, 2) := by decide +kernel
theorem dX2_init_7 : decode cX2_init 7 = .ok (.anewarray 9, 3) := by decide +kernel
theorem dX2_init_10 : decode cX2_init 10 = .ok (.putfield 11, 3) := by decide +kernel
theorem dX2_init_13 : decode cX2_init 13 = .ok (.aload_n 0, 1) := by decide +kernel
theorem dX2_init_14 : decode cX2_init 14 = .ok (.iconst 0, 1) := by decide +kernel
theorem dX2_init_15 : decode cX2_init 15 = .ok (.putfield 17, 3) := by decide +kernel
theorem dX2_init_18 : decode cX2_init 18 = .ok (.aload_n 0, 1) := by decide +kernel
theorem dX2_init_19 : decode cX2_init 19 = .ok (.iconst 0, 1) := by decide +kernel
theorem dX2_init_20 : decode cX2_init 20 = .ok (.putfield 21, 3) := by decide +kernel
theorem dX2_init_23 : decode cX2_init 23 = .ok (.return_, 1) := by decide +kernel
theorem dX2_note_0 : decode cX2_note 0 = .ok (.aload_n 0, 1) := by decide +kernel
theorem dX2_note_1 : decode cX2_note 1 = .ok (.getfield 17, 3) := by decide +kernel
theorem dX2_note_4 : decode cX2_note 4 = .ok (.ifCond .lt 15, 3) := by decide +kernel
theorem dX2_note_7 : decode cX2_note 7 = .ok (.aload_n 0, 1) := by decide +kernel
theorem dX2_note_8 : decode cX2_note 8 = .ok (.getfield 17, 3) := by decide +kernel
theorem dX2_note_11 : decode cX2_note 11 = .ok (.aload_n 0, 1) := by decide +kernel
theorem dX2_note_12 : decode cX2_note 12 = .ok (.getfield 11, 3) := by decide +kernel
theorem dX2_note_15 : decode cX2_note 15 = .ok (.arraylength, 1) := by decide +kernel
theorem dX2_note_16 : decode cX2_note 16 = .ok (.if_icmp .lt 4, 3) := by decide +kernel
theorem dX2_note_19 : decode cX2_note 19 = .ok (.return_, 1) := by decide +kernel
theorem dX2_note_20 : decode cX2_note 20 = .ok (.aload_n 0, 1) := by decide +kernel
theorem dX2_note_21 : decode cX2_note 21 = .ok (.getfield 11, 3) := by decide +kernel
theorem dX2_note_24 : decode cX2_note 24 = .ok (.aload_n 0, 1) := by decide +kernel
theorem dX2_note_25 : decode cX2_note 25 = .ok (.getfield 17, 3) := by decide +kernel
theorem dX2_note_28 : decode cX2_note 28 = .ok (.aaload, 1) := by decide +kernel
theorem dX2_note_29 : decode cX2_note 29 = .ok (.ifnonnull 19, 3) := by decide +kernel
theorem dX2_note_32 : decode cX2_note 32 = .ok (.aload_n 0, 1) := by decide +kernel
theorem dX2_note_33 : decode cX2_note 33 = .ok (.getfield 11, 3) := by decide +kernel
theorem dX2_note_36 : decode cX2_note 36 = .ok (.aload_n 0, 1) := by decide +kernel
theorem dX2_note_37 : decode cX2_note 37 = .ok (.getfield 17, 3) := by decide +kernel
theorem dX2_note_40 : decode cX2_note 40 = .ok (.new 9, 3) := by decide +kernel
theorem dX2_note_43 : decode cX2_note 43 = .ok (.dup, 1) := by decide +kernel
theorem dX2_note_44 : decode cX2_note 44 = .ok (.invokespecial 24, 3) := by decide +kernel
theorem dX2_note_47 : decode cX2_note 47 = .ok (.aastore, 1) := by decide +kernel
theorem dX2_note_48 : decode cX2_note 48 = .ok (.aload_n 0, 1) := by decide +kernel
theorem dX2_note_49 : decode cX2_note 49 = .ok (.getfield 11, 3) := by decide +kernel
theorem dX2_note_52 : decode cX2_note 52 = .ok (.aload_n 0, 1) := by decide +kernel
theorem dX2_note_53 : decode cX2_note 53 = .ok (.getfield 17, 3) := by decide +kernel
theorem dX2_note_56 : decode cX2_note 56 = .ok (.aaload, 1) := by decide +kernel
theorem dX2_note_57 : decode cX2_note 57 = .ok (.aload_n 1, 1) := by decide +kernel
theorem dX2_note_58 : decode cX2_note 58 = .ok (.invokevirtual 25, 3) := by decide +kernel
theorem dX2_note_61 : decode cX2_note 61 = .ok (.return_, 1) := by decide +kernel
theorem dX2_hold_0 : decode cX2_hold 0 = .ok (.aload_n 0, 1) := by decide +kernel
theorem dX2_hold_1 : decode cX2_hold 1 = .ok (.aload_n 0, 1) := by decide +kernel
theorem dX2_hold_2 : decode cX2_hold 2 = .ok (.getfield 17, 3) := by decide +kernel
theorem dX2_hold_5 : decode cX2_hold 5 = .ok (.iconst 1, 1) := by decide +kernel
theorem dX2_hold_6 : decode cX2_hold 6 = .ok (.iadd, 1) := by decide +kernel
theorem dX2_hold_7 : decode cX2_hold 7 = .ok (.aload_n 0, 1) := by decide +kernel
theorem dX2_hold_8 : decode cX2_hold 8 = .ok (.getfield 11, 3) := by decide +kernel
theorem dX2_hold_11 : decode cX2_hold 11 = .ok (.arraylength, 1) := by decide +kernel
theorem dX2_hold_12 : decode cX2_hold 12 = .ok (.irem, 1) := by decide +kernel
theorem dX2_hold_13 : decode cX2_hold 13 = .ok (.putfield 17, 3) := by decide +kernel
theorem dX2_hold_16 : decode cX2_hold 16 = .ok (.aload_n 0, 1) := by decide +kernel
theorem dX2_hold_17 : decode cX2_hold 17 = .ok (.aload_n 0, 1) := by decide +kernel
theorem dX2_hold_18 : decode cX2_hold 18 = .ok (.getfield 21, 3) := by decide +kernel
theorem dX2_hold_21 : decode cX2_hold 21 = .ok (.iconst 1, 1) := by decide +kernel
theorem dX2_hold_22 : decode cX2_hold 22 = .ok (.iadd, 1) := by decide +kernel
theorem dX2_hold_23 : decode cX2_hold 23 = .ok (.bipush 8, 2) := by decide +kernel
theorem dX2_hold_25 : decode cX2_hold 25 = .ok (.invokestatic 29, 3) := by decide +kernel
theorem dX2_hold_28 : decode cX2_hold 28 = .ok (.putfield 21, 3) := by decide +kernel
theorem dX2_hold_31 : decode cX2_hold 31 = .ok (.return_, 1) := by decide +kernel
theorem dX2_back_0 : decode cX2_back 0 = .ok (.aload_n 0, 1) := by decide +kernel
theorem dX2_back_1 : decode cX2_back 1 = .ok (.getfield 21, 3) := by decide +kernel
theorem dX2_back_4 : decode cX2_back 4 = .ok (.iconst 1, 1) := by decide +kernel
theorem dX2_back_5 : decode cX2_back 5 = .ok (.if_icmp .ge 5, 3) := by decide +kernel
theorem dX2_back_8 : decode cX2_back 8 = .ok (.iconst 0, 1) := by decide +kernel
theorem dX2_back_9 : decode cX2_back 9 = .ok (.ireturn, 1) := by decide +kernel
theorem dX2_back_10 : decode cX2_back 10 = .ok (.aload_n 0, 1) := by decide +kernel
theorem dX2_back_11 : decode cX2_back 11 = .ok (.dup, 1) := by decide +kernel
theorem dX2_back_12 : decode cX2_back 12 = .ok (.getfield 21, 3) := by decide +kernel
theorem dX2_back_15 : decode cX2_back 15 = .ok (.iconst 1, 1) := by decide +kernel
theorem dX2_back_16 : decode cX2_back 16 = .ok (.isub, 1) := by decide +kernel
theorem dX2_back_17 : decode cX2_back 17 = .ok (.putfield 21, 3) := by decide +kernel
theorem dX2_back_20 : decode cX2_back 20 = .ok (.aload_n 0, 1) := by decide +kernel
theorem dX2_back_21 : decode cX2_back 21 = .ok (.aload_n 0, 1) := by decide +kernel
theorem dX2_back_22 : decode cX2_back 22 = .ok (.getfield 17, 3) := by decide +kernel
theorem dX2_back_25 : decode cX2_back 25 = .ok (.bipush 8, 2) := by decide +kernel
theorem dX2_back_27 : decode cX2_back 27 = .ok (.iadd, 1) := by decide +kernel
theorem dX2_back_28 : decode cX2_back 28 = .ok (.aload_n 0, 1) := by decide +kernel
theorem dX2_back_29 : decode cX2_back 29 = .ok (.getfield 11, 3) := by decide +kernel
theorem dX2_back_32 : decode cX2_back 32 = .ok (.arraylength, 1) := by decide +kernel
theorem dX2_back_33 : decode cX2_back 33 = .ok (.irem, 1) := by decide +kernel
theorem dX2_back_34 : decode cX2_back 34 = .ok (.putfield 17, 3) := by decide +kernel
theorem dX2_back_37 : decode cX2_back 37 = .ok (.aload_n 0, 1) := by decide +kernel
theorem dX2_back_38 : decode cX2_back 38 = .ok (.getfield 17, 3) := by decide +kernel
theorem dX2_back_41 : decode cX2_back 41 = .ok (.ifCond .lt 40, 3) := by decide +kernel
theorem dX2_back_44 : decode cX2_back 44 = .ok (.aload_n 0, 1) := by decide +kernel
theorem dX2_back_45 : decode cX2_back 45 = .ok (.getfield 17, 3) := by decide +kernel
theorem dX2_back_48 : decode cX2_back 48 = .ok (.aload_n 0, 1) := by decide +kernel
theorem dX2_back_49 : decode cX2_back 49 = .ok (.getfield 11, 3) := by decide +kernel
theorem dX2_back_52 : decode cX2_back 52 = .ok (.arraylength, 1) := by decide +kernel
theorem dX2_back_53 : decode cX2_back 53 = .ok (.if_icmp .ge 28, 3) := by decide +kernel
theorem dX2_back_56 : decode cX2_back 56 = .ok (.aload_n 0, 1) := by decide +kernel
theorem dX2_back_57 : decode cX2_back 57 = .ok (.getfield 11, 3) := by decide +kernel
theorem dX2_back_60 : decode cX2_back 60 = .ok (.aload_n 0, 1) := by decide +kernel
theorem dX2_back_61 : decode cX2_back 61 = .ok (.getfield 17, 3) := by decide +kernel
theorem dX2_back_64 : decode cX2_back 64 = .ok (.aaload, 1) := by decide +kernel
theorem dX2_back_65 : decode cX2_back 65 = .ok (.ifnull 16, 3) := by decide +kernel
theorem dX2_back_68 : decode cX2_back 68 = .ok (.aload_n 1, 1) := by decide +kernel
theorem dX2_back_69 : decode cX2_back 69 = .ok (.aload_n 0, 1) := by decide +kernel
theorem dX2_back_70 : decode cX2_back 70 = .ok (.getfield 11, 3) := by decide +kernel
theorem dX2_back_73 : decode cX2_back 73 = .ok (.aload_n 0, 1) := by decide +kernel
theorem dX2_back_74 : decode cX2_back 74 = .ok (.getfield 17, 3) := by decide +kernel
theorem dX2_back_77 : decode cX2_back 77 = .ok (.aaload, 1) := by decide +kernel
theorem dX2_back_78 : decode cX2_back 78 = .ok (.invokevirtual 25, 3) := by decide +kernel
theorem dX2_back_81 : decode cX2_back 81 = .ok (.iconst 1, 1) := by decide +kernel
theorem dX2_back_82 : decode cX2_back 82 = .ok (.ireturn, 1) := by decide +kernel
