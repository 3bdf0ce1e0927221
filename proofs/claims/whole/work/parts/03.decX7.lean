theorem dX7_init_0 : decode cX7_init 0 = .ok (.aload_n 0, 1) := by decide +kernel
theorem dX7_init_1 : decode cX7_init 1 = .ok (.invokespecial 3, 3) := by decide +kernel
theorem dX7_init_4 : decode cX7_init 4 = .ok (.aload_n 0, 1) := by decide +kernel
theorem dX7_init_5 : decode cX7_init 5 = .ok (.new 9, 3) := by decide +kernel
theorem dX7_init_8 : decode cX7_init 8 = .ok (.dup, 1) := by decide +kernel
theorem dX7_init_9 : decode cX7_init 9 = .ok (.invokespecial 11, 3) := by decide +kernel
theorem dX7_init_12 : decode cX7_init 12 = .ok (.putfield 12, 3) := by decide +kernel
theorem dX7_init_15 : decode cX7_init 15 = .ok (.aload_n 0, 1) := by decide +kernel
theorem dX7_init_16 : decode cX7_init 16 = .ok (.new 16, 3) := by decide +kernel
theorem dX7_init_19 : decode cX7_init 19 = .ok (.dup, 1) := by decide +kernel
theorem dX7_init_20 : decode cX7_init 20 = .ok (.invokespecial 18, 3) := by decide +kernel
theorem dX7_init_23 : decode cX7_init 23 = .ok (.putfield 19, 3) := by decide +kernel
theorem dX7_init_26 : decode cX7_init 26 = .ok (.aload_n 0, 1) := by decide +kernel
theorem dX7_init_27 : decode cX7_init 27 = .ok (.new 23, 3) := by decide +kernel
theorem dX7_init_30 : decode cX7_init 30 = .ok (.dup, 1) := by decide +kernel
theorem dX7_init_31 : decode cX7_init 31 = .ok (.invokespecial 25, 3) := by decide +kernel
theorem dX7_init_34 : decode cX7_init 34 = .ok (.putfield 26, 3) := by decide +kernel
theorem dX7_init_37 : decode cX7_init 37 = .ok (.aload_n 0, 1) := by decide +kernel
theorem dX7_init_38 : decode cX7_init 38 = .ok (.new 30, 3) := by decide +kernel
theorem dX7_init_41 : decode cX7_init 41 = .ok (.dup, 1) := by decide +kernel
theorem dX7_init_42 : decode cX7_init 42 = .ok (.invokespecial 32, 3) := by decide +kernel
theorem dX7_init_45 : decode cX7_init 45 = .ok (.putfield 33, 3) := by decide +kernel
theorem dX7_init_48 : decode cX7_init 48 = .ok (.aload_n 0, 1) := by decide +kernel
theorem dX7_init_49 : decode cX7_init 49 = .ok (.new 37, 3) := by decide +kernel
theorem dX7_init_52 : decode cX7_init 52 = .ok (.dup, 1) := by decide +kernel
theorem dX7_init_53 : decode cX7_init 53 = .ok (.invokespecial 39, 3) := by decide +kernel
theorem dX7_init_56 : decode cX7_init 56 = .ok (.putfield 40, 3) := by decide +kernel
theorem dX7_init_59 : decode cX7_init 59 = .ok (.aload_n 0, 1) := by decide +kernel
theorem dX7_init_60 : decode cX7_init 60 = .ok (.new 44, 3) := by decide +kernel
theorem dX7_init_63 : decode cX7_init 63 = .ok (.dup, 1) := by decide +kernel
theorem dX7_init_64 : decode cX7_init 64 = .ok (.invokespecial 46, 3) := by decide +kernel
theorem dX7_init_67 : decode cX7_init 67 = .ok (.putfield 47, 3) := by decide +kernel
theorem dX7_init_70 : decode cX7_init 70 = .ok (.aload_n 0, 1) := by decide +kernel
theorem dX7_init_71 : decode cX7_init 71 = .ok (.iconst 2, 1) := by decide +kernel
theorem dX7_init_72 : decode cX7_init 72 = .ok (.anewarray 23, 3) := by decide +kernel
theorem dX7_init_75 : decode cX7_init 75 = .ok (.putfield 51, 3) := by decide +kernel
theorem dX7_init_78 : decode cX7_init 78 = .ok (.return_, 1) := by decide +kernel
theorem dX7_sign_0 : decode cX7_sign 0 = .ok (.aload_n 0, 1) := by decide +kernel
theorem dX7_sign_1 : decode cX7_sign 1 = .ok (.getfield 12, 3) := by decide +kernel
theorem dX7_sign_4 : decode cX7_sign 4 = .ok (.iload_n 1, 1) := by decide +kernel
theorem dX7_sign_5 : decode cX7_sign 5 = .ok (.invokevirtual 55, 3) := by decide +kernel
theorem dX7_sign_8 : decode cX7_sign 8 = .ok (.ifCond .eq 13, 3) := by decide +kernel
theorem dX7_sign_11 : decode cX7_sign 11 = .ok (.aload_n 0, 1) := by decide +kernel
theorem dX7_sign_12 : decode cX7_sign 12 = .ok (.getfield 12, 3) := by decide +kernel
theorem dX7_sign_15 : decode cX7_sign 15 = .ok (.getfield 59, 3) := by decide +kernel
theorem dX7_sign_18 : decode cX7_sign 18 = .ok (.goto 4, 3) := by decide +kernel
theorem dX7_sign_21 : decode cX7_sign 21 = .ok (.iconst (-1), 1) := by decide +kernel
theorem dX7_sign_22 : decode cX7_sign 22 = .ok (.ireturn, 1) := by decide +kernel
theorem dX7_end_0 : decode cX7_end 0 = .ok (.iload_n 1, 1) := by decide +kernel
theorem dX7_end_1 : decode cX7_end 1 = .ok (.ifCond .lt 14, 3) := by decide +kernel
theorem dX7_end_4 : decode cX7_end 4 = .ok (.iload_n 1, 1) := by decide +kernel
theorem dX7_end_5 : decode cX7_end 5 = .ok (.aload_n 0, 1) := by decide +kernel
theorem dX7_end_6 : decode cX7_end 6 = .ok (.getfield 12, 3) := by decide +kernel
theorem dX7_end_9 : decode cX7_end 9 = .ok (.getfield 59, 3) := by decide +kernel
theorem dX7_end_12 : decode cX7_end 12 = .ok (.if_icmp .le 5, 3) := by decide +kernel
theorem dX7_end_15 : decode cX7_end 15 = .ok (.iconst 0, 1) := by decide +kernel
theorem dX7_end_16 : decode cX7_end 16 = .ok (.ireturn, 1) := by decide +kernel
theorem dX7_end_17 : decode cX7_end 17 = .ok (.aload_n 0, 1) := by decide +kernel
theorem dX7_end_18 : decode cX7_end 18 = .ok (.getfield 12, 3) := by decide +kernel
theorem dX7_end_21 : decode cX7_end 21 = .ok (.iload_n 1, 1) := by decide +kernel
theorem dX7_end_22 : decode cX7_end 22 = .ok (.putfield 59, 3) := by decide +kernel
theorem dX7_end_25 : decode cX7_end 25 = .ok (.iconst 1, 1) := by decide +kernel
theorem dX7_end_26 : decode cX7_end 26 = .ok (.ireturn, 1) := by decide +kernel
theorem dX7_labels_0 : decode cX7_labels 0 = .ok (.aload_n 0, 1) := by decide +kernel
theorem dX7_labels_1 : decode cX7_labels 1 = .ok (.invokevirtual 63, 3) := by decide +kernel
theorem dX7_labels_4 : decode cX7_labels 4 = .ok (.istore_n 1, 1) := by decide +kernel
theorem dX7_labels_5 : decode cX7_labels 5 = .ok (.aload_n 0, 1) := by decide +kernel
theorem dX7_labels_6 : decode cX7_labels 6 = .ok (.getfield 12, 3) := by decide +kernel
theorem dX7_labels_9 : decode cX7_labels 9 = .ok (.iconst 0, 1) := by decide +kernel
theorem dX7_labels_10 : decode cX7_labels 10 = .ok (.putfield 59, 3) := by decide +kernel
theorem dX7_labels_13 : decode cX7_labels 13 = .ok (.iload_n 1, 1) := by decide +kernel
theorem dX7_labels_14 : decode cX7_labels 14 = .ok (.iconst (-1), 1) := by decide +kernel
theorem dX7_labels_15 : decode cX7_labels 15 = .ok (.if_icmp .eq 7, 3) := by decide +kernel
theorem dX7_labels_18 : decode cX7_labels 18 = .ok (.iconst (-1), 1) := by decide +kernel
theorem dX7_labels_19 : decode cX7_labels 19 = .ok (.iload_n 1, 1) := by decide +kernel
theorem dX7_labels_20 : decode cX7_labels 20 = .ok (.isub, 1) := by decide +kernel
theorem dX7_labels_21 : decode cX7_labels 21 = .ok (.ireturn, 1) := by decide +kernel
theorem dX7_labels_22 : decode cX7_labels 22 = .ok (.aload_n 0, 1) := by decide +kernel
theorem dX7_labels_23 : decode cX7_labels 23 = .ok (.getfield 47, 3) := by decide +kernel
theorem dX7_labels_26 : decode cX7_labels 26 = .ok (.aload_n 0, 1) := by decide +kernel
theorem dX7_labels_27 : decode cX7_labels 27 = .ok (.getfield 26, 3) := by decide +kernel
theorem dX7_labels_30 : decode cX7_labels 30 = .ok (.invokevirtual 67, 3) := by decide +kernel
theorem dX7_labels_33 : decode cX7_labels 33 = .ok (.aload_n 0, 1) := by decide +kernel
theorem dX7_labels_34 : decode cX7_labels 34 = .ok (.getfield 47, 3) := by decide +kernel
theorem dX7_labels_37 : decode cX7_labels 37 = .ok (.invokevirtual 71, 3) := by decide +kernel
theorem dX7_labels_40 : decode cX7_labels 40 = .ok (.aload_n 0, 1) := by decide +kernel
theorem dX7_labels_41 : decode cX7_labels 41 = .ok (.getfield 26, 3) := by decide +kernel
theorem dX7_labels_44 : decode cX7_labels 44 = .ok (.getfield 74, 3) := by decide +kernel
theorem dX7_labels_47 : decode cX7_labels 47 = .ok (.aload_n 0, 1) := by decide +kernel
theorem dX7_labels_48 : decode cX7_labels 48 = .ok (.getfield 33, 3) := by decide +kernel
theorem dX7_labels_51 : decode cX7_labels 51 = .ok (.invokevirtual 77, 3) := by decide +kernel
theorem dX7_labels_54 : decode cX7_labels 54 = .ok (.aload_n 0, 1) := by decide +kernel
theorem dX7_labels_55 : decode cX7_labels 55 = .ok (.getfield 26, 3) := by decide +kernel
theorem dX7_labels_58 : decode cX7_labels 58 = .ok (.getfield 81, 3) := by decide +kernel
theorem dX7_labels_61 : decode cX7_labels 61 = .ok (.iconst 0, 1) := by decide +kernel
theorem dX7_labels_62 : decode cX7_labels 62 = .ok (.putfield 85, 3) := by decide +kernel
theorem dX7_labels_65 : decode cX7_labels 65 = .ok (.aload_n 0, 1) := by decide +kernel
theorem dX7_labels_66 : decode cX7_labels 66 = .ok (.getfield 26, 3) := by decide +kernel
theorem dX7_labels_69 : decode cX7_labels 69 = .ok (.getfield 74, 3) := by decide +kernel
theorem dX7_labels_72 : decode cX7_labels 72 = .ok (.invokevirtual 90, 3) := by decide +kernel
theorem dX7_labels_75 : decode cX7_labels 75 = .ok (.ireturn, 1) := by decide +kernel
theorem dX7_exchange_0 : decode cX7_exchange 0 = .ok (.aload_n 0, 1) := by decide +kernel
theorem dX7_exchange_1 : decode cX7_exchange 1 = .ok (.invokevirtual 93, 3) := by decide +kernel
theorem dX7_exchange_4 : decode cX7_exchange 4 = .ok (.istore_n 1, 1) := by decide +kernel
theorem dX7_exchange_5 : decode cX7_exchange 5 = .ok (.aload_n 0, 1) := by decide +kernel
theorem dX7_exchange_6 : decode cX7_exchange 6 = .ok (.getfield 12, 3) := by decide +kernel
theorem dX7_exchange_9 : decode cX7_exchange 9 = .ok (.getfield 59, 3) := by decide +kernel
theorem dX7_exchange_12 : decode cX7_exchange 12 = .ok (.iconst 1, 1) := by decide +kernel
theorem dX7_exchange_13 : decode cX7_exchange 13 = .ok (.iadd, 1) := by decide +kernel
theorem dX7_exchange_14 : decode cX7_exchange 14 = .ok (.bipush 7, 2) := by decide +kernel
theorem dX7_exchange_16 : decode cX7_exchange 16 = .ok (.idiv, 1) := by decide +kernel
theorem dX7_exchange_17 : decode cX7_exchange 17 = .ok (.istore_n 2, 1) := by decide +kernel
theorem dX7_exchange_18 : decode cX7_exchange 18 = .ok (.iload_n 1, 1) := by decide +kernel
theorem dX7_exchange_19 : decode cX7_exchange 19 = .ok (.iconst (-1), 1) := by decide +kernel
theorem dX7_exchange_20 : decode cX7_exchange 20 = .ok (.if_icmp .ne 53, 3) := by decide +kernel
theorem dX7_exchange_23 : decode cX7_exchange 23 = .ok (.aload_n 0, 1) := by decide +kernel
theorem dX7_exchange_24 : decode cX7_exchange 24 = .ok (.getfield 47, 3) := by decide +kernel
theorem dX7_exchange_27 : decode cX7_exchange 27 = .ok (.aload_n 0, 1) := by decide +kernel
theorem dX7_exchange_28 : decode cX7_exchange 28 = .ok (.getfield 26, 3) := by decide +kernel
theorem dX7_exchange_31 : decode cX7_exchange 31 = .ok (.invokevirtual 67, 3) := by decide +kernel
theorem dX7_exchange_34 : decode cX7_exchange 34 = .ok (.aload_n 0, 1) := by decide +kernel
theorem dX7_exchange_35 : decode cX7_exchange 35 = .ok (.getfield 47, 3) := by decide +kernel
theorem dX7_exchange_38 : decode cX7_exchange 38 = .ok (.invokevirtual 71, 3) := by decide +kernel
theorem dX7_exchange_41 : decode cX7_exchange 41 = .ok (.aload_n 0, 1) := by decide +kernel
theorem dX7_exchange_42 : decode cX7_exchange 42 = .ok (.getfield 26, 3) := by decide +kernel
theorem dX7_exchange_45 : decode cX7_exchange 45 = .ok (.getfield 81, 3) := by decide +kernel
theorem dX7_exchange_48 : decode cX7_exchange 48 = .ok (.aload_n 0, 1) := by decide +kernel
theorem dX7_exchange_49 : decode cX7_exchange 49 = .ok (.getfield 12, 3) := by decide +kernel
theorem dX7_exchange_52 : decode cX7_exchange 52 = .ok (.iload_n 2, 1) := by decide +kernel
theorem dX7_exchange_53 : decode cX7_exchange 53 = .ok (.invokevirtual 96, 3) := by decide +kernel
theorem dX7_exchange_56 : decode cX7_exchange 56 = .ok (.aload_n 0, 1) := by decide +kernel
theorem dX7_exchange_57 : decode cX7_exchange 57 = .ok (.getfield 26, 3) := by decide +kernel
theorem dX7_exchange_60 : decode cX7_exchange 60 = .ok (.getfield 81, 3) := by decide +kernel
theorem dX7_exchange_63 : decode cX7_exchange 63 = .ok (.aload_n 0, 1) := by decide +kernel
theorem dX7_exchange_64 : decode cX7_exchange 64 = .ok (.getfield 26, 3) := by decide +kernel
theorem dX7_exchange_67 : decode cX7_exchange 67 = .ok (.getfield 74, 3) := by decide +kernel
theorem dX7_exchange_70 : decode cX7_exchange 70 = .ok (.invokevirtual 100, 3) := by decide +kernel
theorem dX7_exchange_73 : decode cX7_exchange 73 = .ok (.aload_n 0, 1) := by decide +kernel
theorem dX7_exchange_74 : decode cX7_exchange 74 = .ok (.getfield 12, 3) := by decide +kernel
theorem dX7_exchange_77 : decode cX7_exchange 77 = .ok (.iconst 0, 1) := by decide +kernel
theorem dX7_exchange_78 : decode cX7_exchange 78 = .ok (.putfield 59, 3) := by decide +kernel
theorem dX7_exchange_81 : decode cX7_exchange 81 = .ok (.iload_n 1, 1) := by decide +kernel
theorem dX7_exchange_82 : decode cX7_exchange 82 = .ok (.iconst (-1), 1) := by decide +kernel
theorem dX7_exchange_83 : decode cX7_exchange 83 = .ok (.if_icmp .ne 7, 3) := by decide +kernel
theorem dX7_exchange_86 : decode cX7_exchange 86 = .ok (.iload_n 2, 1) := by decide +kernel
theorem dX7_exchange_87 : decode cX7_exchange 87 = .ok (.goto 6, 3) := by decide +kernel
theorem dX7_exchange_90 : decode cX7_exchange 90 = .ok (.iconst (-1), 1) := by decide +kernel
theorem dX7_exchange_91 : decode cX7_exchange 91 = .ok (.iload_n 1, 1) := by decide +kernel
theorem dX7_exchange_92 : decode cX7_exchange 92 = .ok (.isub, 1) := by decide +kernel
theorem dX7_exchange_93 : decode cX7_exchange 93 = .ok (.ireturn, 1) := by decide +kernel
theorem dX7_map_0 : decode cX7_map 0 = .ok (.aload_n 0, 1) := by decide +kernel
theorem dX7_map_1 : decode cX7_map 1 = .ok (.invokevirtual 103, 3) := by decide +kernel
theorem dX7_map_4 : decode cX7_map 4 = .ok (.istore_n 1, 1) := by decide +kernel
theorem dX7_map_5 : decode cX7_map 5 = .ok (.iload_n 1, 1) := by decide +kernel
theorem dX7_map_6 : decode cX7_map 6 = .ok (.iconst (-1), 1) := by decide +kernel
theorem dX7_map_7 : decode cX7_map 7 = .ok (.if_icmp .ne 10, 3) := by decide +kernel
theorem dX7_map_10 : decode cX7_map 10 = .ok (.aload_n 0, 1) := by decide +kernel
theorem dX7_map_11 : decode cX7_map 11 = .ok (.invokevirtual 106, 3) := by decide +kernel
theorem dX7_map_14 : decode cX7_map 14 = .ok (.goto 4, 3) := by decide +kernel
theorem dX7_map_17 : decode cX7_map 17 = .ok (.iconst (-1), 1) := by decide +kernel
theorem dX7_map_18 : decode cX7_map 18 = .ok (.istore_n 2, 1) := by decide +kernel
theorem dX7_map_19 : decode cX7_map 19 = .ok (.iload_n 2, 1) := by decide +kernel
theorem dX7_map_20 : decode cX7_map 20 = .ok (.ifCond .le 53, 3) := by decide +kernel
theorem dX7_map_23 : decode cX7_map 23 = .ok (.aload_n 0, 1) := by decide +kernel
theorem dX7_map_24 : decode cX7_map 24 = .ok (.getfield 47, 3) := by decide +kernel
theorem dX7_map_27 : decode cX7_map 27 = .ok (.aload_n 0, 1) := by decide +kernel
theorem dX7_map_28 : decode cX7_map 28 = .ok (.getfield 26, 3) := by decide +kernel
theorem dX7_map_31 : decode cX7_map 31 = .ok (.invokevirtual 67, 3) := by decide +kernel
theorem dX7_map_34 : decode cX7_map 34 = .ok (.aload_n 0, 1) := by decide +kernel
theorem dX7_map_35 : decode cX7_map 35 = .ok (.getfield 47, 3) := by decide +kernel
theorem dX7_map_38 : decode cX7_map 38 = .ok (.invokevirtual 71, 3) := by decide +kernel
theorem dX7_map_41 : decode cX7_map 41 = .ok (.aload_n 0, 1) := by decide +kernel
theorem dX7_map_42 : decode cX7_map 42 = .ok (.getfield 26, 3) := by decide +kernel
theorem dX7_map_45 : decode cX7_map 45 = .ok (.getfield 81, 3) := by decide +kernel
theorem dX7_map_48 : decode cX7_map 48 = .ok (.aload_n 0, 1) := by decide +kernel
theorem dX7_map_49 : decode cX7_map 49 = .ok (.getfield 12, 3) := by decide +kernel
theorem dX7_map_52 : decode cX7_map 52 = .ok (.iload_n 2, 1) := by decide +kernel
theorem dX7_map_53 : decode cX7_map 53 = .ok (.invokevirtual 109, 3) := by decide +kernel
theorem dX7_map_56 : decode cX7_map 56 = .ok (.aload_n 0, 1) := by decide +kernel
theorem dX7_map_57 : decode cX7_map 57 = .ok (.getfield 26, 3) := by decide +kernel
theorem dX7_map_60 : decode cX7_map 60 = .ok (.getfield 81, 3) := by decide +kernel
theorem dX7_map_63 : decode cX7_map 63 = .ok (.aload_n 0, 1) := by decide +kernel
theorem dX7_map_64 : decode cX7_map 64 = .ok (.getfield 26, 3) := by decide +kernel
theorem dX7_map_67 : decode cX7_map 67 = .ok (.getfield 74, 3) := by decide +kernel
theorem dX7_map_70 : decode cX7_map 70 = .ok (.invokevirtual 100, 3) := by decide +kernel
theorem dX7_map_73 : decode cX7_map 73 = .ok (.aload_n 0, 1) := by decide +kernel
theorem dX7_map_74 : decode cX7_map 74 = .ok (.getfield 12, 3) := by decide +kernel
theorem dX7_map_77 : decode cX7_map 77 = .ok (.iconst 0, 1) := by decide +kernel
theorem dX7_map_78 : decode cX7_map 78 = .ok (.putfield 59, 3) := by decide +kernel
theorem dX7_map_81 : decode cX7_map 81 = .ok (.iload_n 1, 1) := by decide +kernel
theorem dX7_map_82 : decode cX7_map 82 = .ok (.iconst (-1), 1) := by decide +kernel
theorem dX7_map_83 : decode cX7_map 83 = .ok (.if_icmp .eq 7, 3) := by decide +kernel
theorem dX7_map_86 : decode cX7_map 86 = .ok (.iconst (-1), 1) := by decide +kernel
theorem dX7_map_87 : decode cX7_map 87 = .ok (.iload_n 1, 1) := by decide +kernel
theorem dX7_map_88 : decode cX7_map 88 = .ok (.isub, 1) := by decide +kernel
theorem dX7_map_89 : decode cX7_map 89 = .ok (.ireturn, 1) := by decide +kernel
theorem dX7_map_90 : decode cX7_map 90 = .ok (.iload_n 2, 1) := by decide +kernel
theorem dX7_map_91 : decode cX7_map 91 = .ok (.ifCond .le 7, 3) := by decide +kernel
theorem dX7_map_94 : decode cX7_map 94 = .ok (.iload_n 2, 1) := by decide +kernel
theorem dX7_map_95 : decode cX7_map 95 = .ok (.goto 6, 3) := by decide +kernel
theorem dX7_map_98 : decode cX7_map 98 = .ok (.sipush (-200), 3) := by decide +kernel
theorem dX7_map_101 : decode cX7_map 101 = .ok (.ireturn, 1) := by decide +kernel
theorem dX7_sheet_0 : decode cX7_sheet 0 = .ok (.iload_n 2, 1) := by decide +kernel
theorem dX7_sheet_1 : decode cX7_sheet 1 = .ok (.ifCond .lt 15, 3) := by decide +kernel
theorem dX7_sheet_4 : decode cX7_sheet 4 = .ok (.iload_n 2, 1) := by decide +kernel
theorem dX7_sheet_5 : decode cX7_sheet 5 = .ok (.iconst 3, 1) := by decide +kernel
theorem dX7_sheet_6 : decode cX7_sheet 6 = .ok (.if_icmp .gt 10, 3) := by decide +kernel
theorem dX7_sheet_9 : decode cX7_sheet 9 = .ok (.iload_n 3, 1) := by decide +kernel
theorem dX7_sheet_10 : decode cX7_sheet 10 = .ok (.sipush 160, 3) := by decide +kernel
theorem dX7_sheet_13 : decode cX7_sheet 13 = .ok (.if_icmp .le 5, 3) := by decide +kernel
theorem dX7_sheet_16 : decode cX7_sheet 16 = .ok (.iconst (-1), 1) := by decide +kernel
theorem dX7_sheet_17 : decode cX7_sheet 17 = .ok (.ireturn, 1) := by decide +kernel
theorem dX7_sheet_18 : decode cX7_sheet 18 = .ok (.iload_n 2, 1) := by decide +kernel
theorem dX7_sheet_19 : decode cX7_sheet 19 = .ok (.iconst 3, 1) := by decide +kernel
theorem dX7_sheet_20 : decode cX7_sheet 20 = .ok (.if_icmp .ne 6, 3) := by decide +kernel
theorem dX7_sheet_23 : decode cX7_sheet 23 = .ok (.bipush (-3), 2) := by decide +kernel
theorem dX7_sheet_25 : decode cX7_sheet 25 = .ok (.ireturn, 1) := by decide +kernel
theorem dX7_sheet_26 : decode cX7_sheet 26 = .ok (.iload_n 3, 1) := by decide +kernel
theorem dX7_sheet_27 : decode cX7_sheet 27 = .ok (.ifCond .ge 6, 3) := by decide +kernel
theorem dX7_sheet_30 : decode cX7_sheet 30 = .ok (.bipush (-2), 2) := by decide +kernel
theorem dX7_sheet_32 : decode cX7_sheet 32 = .ok (.ireturn, 1) := by decide +kernel
theorem dX7_sheet_33 : decode cX7_sheet 33 = .ok (.iconst 0, 1) := by decide +kernel
theorem dX7_sheet_34 : decode cX7_sheet 34 = .ok (.istore 6, 2) := by decide +kernel
theorem dX7_sheet_36 : decode cX7_sheet 36 = .ok (.iload 6, 2) := by decide +kernel
theorem dX7_sheet_38 : decode cX7_sheet 38 = .ok (.iload_n 3, 1) := by decide +kernel
theorem dX7_sheet_39 : decode cX7_sheet 39 = .ok (.if_icmp .ge 49, 3) := by decide +kernel
theorem dX7_sheet_42 : decode cX7_sheet 42 = .ok (.aload_n 0, 1) := by decide +kernel
theorem dX7_sheet_43 : decode cX7_sheet 43 = .ok (.iload_n 1, 1) := by decide +kernel
theorem dX7_sheet_44 : decode cX7_sheet 44 = .ok (.iload 6, 2) := by decide +kernel
theorem dX7_sheet_46 : decode cX7_sheet 46 = .ok (.iload_n 2, 1) := by decide +kernel
theorem dX7_sheet_47 : decode cX7_sheet 47 = .ok (.iload 4, 2) := by decide +kernel
theorem dX7_sheet_49 : decode cX7_sheet 49 = .ok (.iload 5, 2) := by decide +kernel
theorem dX7_sheet_51 : decode cX7_sheet 51 = .ok (.iload 6, 2) := by decide +kernel
theorem dX7_sheet_53 : decode cX7_sheet 53 = .ok (.invokestatic 112, 3) := by decide +kernel
theorem dX7_sheet_56 : decode cX7_sheet 56 = .ok (.invokevirtual 116, 3) := by decide +kernel
theorem dX7_sheet_59 : decode cX7_sheet 59 = .ok (.istore 7, 2) := by decide +kernel
theorem dX7_sheet_61 : decode cX7_sheet 61 = .ok (.iload 7, 2) := by decide +kernel
theorem dX7_sheet_63 : decode cX7_sheet 63 = .ok (.ifCond .eq 19, 3) := by decide +kernel
theorem dX7_sheet_66 : decode cX7_sheet 66 = .ok (.aload_n 0, 1) := by decide +kernel
theorem dX7_sheet_67 : decode cX7_sheet 67 = .ok (.getfield 19, 3) := by decide +kernel
theorem dX7_sheet_70 : decode cX7_sheet 70 = .ok (.iload 6, 2) := by decide +kernel
theorem dX7_sheet_72 : decode cX7_sheet 72 = .ok (.i2l, 1) := by decide +kernel
theorem dX7_sheet_73 : decode cX7_sheet 73 = .ok (.iload 7, 2) := by decide +kernel
theorem dX7_sheet_75 : decode cX7_sheet 75 = .ok (.i2l, 1) := by decide +kernel
theorem dX7_sheet_76 : decode cX7_sheet 76 = .ok (.invokevirtual 120, 3) := by decide +kernel
theorem dX7_sheet_79 : decode cX7_sheet 79 = .ok (.bipush (-4), 2) := by decide +kernel
theorem dX7_sheet_81 : decode cX7_sheet 81 = .ok (.ireturn, 1) := by decide +kernel
theorem dX7_sheet_82 : decode cX7_sheet 82 = .ok (.iinc 6 1, 3) := by decide +kernel
theorem dX7_sheet_85 : decode cX7_sheet 85 = .ok (.goto (-49), 3) := by decide +kernel
theorem dX7_sheet_88 : decode cX7_sheet 88 = .ok (.iconst 0, 1) := by decide +kernel
theorem dX7_sheet_89 : decode cX7_sheet 89 = .ok (.istore 6, 2) := by decide +kernel
theorem dX7_sheet_91 : decode cX7_sheet 91 = .ok (.iconst 0, 1) := by decide +kernel
theorem dX7_sheet_92 : decode cX7_sheet 92 = .ok (.istore 7, 2) := by decide +kernel
theorem dX7_sheet_94 : decode cX7_sheet 94 = .ok (.iload 7, 2) := by decide +kernel
theorem dX7_sheet_96 : decode cX7_sheet 96 = .ok (.iload_n 3, 1) := by decide +kernel
theorem dX7_sheet_97 : decode cX7_sheet 97 = .ok (.if_icmp .ge 59, 3) := by decide +kernel
theorem dX7_sheet_100 : decode cX7_sheet 100 = .ok (.iload_n 2, 1) := by decide +kernel
theorem dX7_sheet_101 : decode cX7_sheet 101 = .ok (.iload 4, 2) := by decide +kernel
theorem dX7_sheet_103 : decode cX7_sheet 103 = .ok (.iload 5, 2) := by decide +kernel
theorem dX7_sheet_105 : decode cX7_sheet 105 = .ok (.iload 7, 2) := by decide +kernel
theorem dX7_sheet_107 : decode cX7_sheet 107 = .ok (.invokestatic 112, 3) := by decide +kernel
theorem dX7_sheet_110 : decode cX7_sheet 110 = .ok (.istore 8, 2) := by decide +kernel
theorem dX7_sheet_112 : decode cX7_sheet 112 = .ok (.aload_n 0, 1) := by decide +kernel
theorem dX7_sheet_113 : decode cX7_sheet 113 = .ok (.getfield 26, 3) := by decide +kernel
theorem dX7_sheet_116 : decode cX7_sheet 116 = .ok (.getfield 74, 3) := by decide +kernel
theorem dX7_sheet_119 : decode cX7_sheet 119 = .ok (.iload_n 1, 1) := by decide +kernel
theorem dX7_sheet_120 : decode cX7_sheet 120 = .ok (.iload 7, 2) := by decide +kernel
theorem dX7_sheet_122 : decode cX7_sheet 122 = .ok (.iadd, 1) := by decide +kernel
theorem dX7_sheet_123 : decode cX7_sheet 123 = .ok (.invokevirtual 124, 3) := by decide +kernel
theorem dX7_sheet_126 : decode cX7_sheet 126 = .ok (.iload 8, 2) := by decide +kernel
theorem dX7_sheet_128 : decode cX7_sheet 128 = .ok (.if_icmp .eq 6, 3) := by decide +kernel
theorem dX7_sheet_131 : decode cX7_sheet 131 = .ok (.iinc 6 1, 3) := by decide +kernel
theorem dX7_sheet_134 : decode cX7_sheet 134 = .ok (.aload_n 0, 1) := by decide +kernel
theorem dX7_sheet_135 : decode cX7_sheet 135 = .ok (.getfield 26, 3) := by decide +kernel
theorem dX7_sheet_138 : decode cX7_sheet 138 = .ok (.getfield 74, 3) := by decide +kernel
theorem dX7_sheet_141 : decode cX7_sheet 141 = .ok (.iload_n 1, 1) := by decide +kernel
theorem dX7_sheet_142 : decode cX7_sheet 142 = .ok (.iload 7, 2) := by decide +kernel
theorem dX7_sheet_144 : decode cX7_sheet 144 = .ok (.iadd, 1) := by decide +kernel
theorem dX7_sheet_145 : decode cX7_sheet 145 = .ok (.iload 8, 2) := by decide +kernel
theorem dX7_sheet_147 : decode cX7_sheet 147 = .ok (.invokevirtual 128, 3) := by decide +kernel
theorem dX7_sheet_150 : decode cX7_sheet 150 = .ok (.iinc 7 1, 3) := by decide +kernel
theorem dX7_sheet_153 : decode cX7_sheet 153 = .ok (.goto (-59), 3) := by decide +kernel
theorem dX7_sheet_156 : decode cX7_sheet 156 = .ok (.aload_n 0, 1) := by decide +kernel
theorem dX7_sheet_157 : decode cX7_sheet 157 = .ok (.getfield 26, 3) := by decide +kernel
theorem dX7_sheet_160 : decode cX7_sheet 160 = .ok (.getfield 81, 3) := by decide +kernel
theorem dX7_sheet_163 : decode cX7_sheet 163 = .ok (.iconst 0, 1) := by decide +kernel
theorem dX7_sheet_164 : decode cX7_sheet 164 = .ok (.putfield 85, 3) := by decide +kernel
theorem dX7_sheet_167 : decode cX7_sheet 167 = .ok (.iload 6, 2) := by decide +kernel
theorem dX7_sheet_169 : decode cX7_sheet 169 = .ok (.ireturn, 1) := by decide +kernel
theorem dX7_label_0 : decode cX7_label 0 = .ok (.aload_n 0, 1) := by decide +kernel
theorem dX7_label_1 : decode cX7_label 1 = .ok (.getfield 26, 3) := by decide +kernel
theorem dX7_label_4 : decode cX7_label 4 = .ok (.getfield 74, 3) := by decide +kernel
theorem dX7_label_7 : decode cX7_label 7 = .ok (.iload_n 1, 1) := by decide +kernel
theorem dX7_label_8 : decode cX7_label 8 = .ok (.iload_n 2, 1) := by decide +kernel
theorem dX7_label_9 : decode cX7_label 9 = .ok (.invokevirtual 132, 3) := by decide +kernel
theorem dX7_label_12 : decode cX7_label 12 = .ok (.ifCond .ne 13, 3) := by decide +kernel
theorem dX7_label_15 : decode cX7_label 15 = .ok (.new 136, 3) := by decide +kernel
theorem dX7_label_18 : decode cX7_label 18 = .ok (.dup, 1) := by decide +kernel
theorem dX7_label_19 : decode cX7_label 19 = .ok (.ldc 138, 2) := by decide +kernel
theorem dX7_label_21 : decode cX7_label 21 = .ok (.invokespecial 140, 3) := by decide +kernel
theorem dX7_label_24 : decode cX7_label 24 = .ok (.athrow, 1) := by decide +kernel
theorem dX7_label_25 : decode cX7_label 25 = .ok (.aload_n 0, 1) := by decide +kernel
theorem dX7_label_26 : decode cX7_label 26 = .ok (.getfield 26, 3) := by decide +kernel
theorem dX7_label_29 : decode cX7_label 29 = .ok (.getfield 74, 3) := by decide +kernel
theorem dX7_label_32 : decode cX7_label 32 = .ok (.iload_n 1, 1) := by decide +kernel
theorem dX7_label_33 : decode cX7_label 33 = .ok (.iload_n 2, 1) := by decide +kernel
theorem dX7_label_34 : decode cX7_label 34 = .ok (.invokevirtual 143, 3) := by decide +kernel
theorem dX7_label_37 : decode cX7_label 37 = .ok (.ireturn, 1) := by decide +kernel
theorem dX7_point_0 : decode cX7_point 0 = .ok (.aload_n 0, 1) := by decide +kernel
theorem dX7_point_1 : decode cX7_point 1 = .ok (.getfield 26, 3) := by decide +kernel
theorem dX7_point_4 : decode cX7_point 4 = .ok (.getfield 74, 3) := by decide +kernel
theorem dX7_point_7 : decode cX7_point 7 = .ok (.astore_n 3, 1) := by decide +kernel
theorem dX7_point_8 : decode cX7_point 8 = .ok (.aload_n 3, 1) := by decide +kernel
theorem dX7_point_9 : decode cX7_point 9 = .ok (.iload_n 1, 1) := by decide +kernel
theorem dX7_point_10 : decode cX7_point 10 = .ok (.iload_n 2, 1) := by decide +kernel
theorem dX7_point_11 : decode cX7_point 11 = .ok (.invokevirtual 132, 3) := by decide +kernel
theorem dX7_point_14 : decode cX7_point 14 = .ok (.ifCond .ne 5, 3) := by decide +kernel
theorem dX7_point_17 : decode cX7_point 17 = .ok (.iconst (-1), 1) := by decide +kernel
theorem dX7_point_18 : decode cX7_point 18 = .ok (.ireturn, 1) := by decide +kernel
theorem dX7_point_19 : decode cX7_point 19 = .ok (.aload_n 0, 1) := by decide +kernel
theorem dX7_point_20 : decode cX7_point 20 = .ok (.getfield 19, 3) := by decide +kernel
theorem dX7_point_23 : decode cX7_point 23 = .ok (.aload_n 3, 1) := by decide +kernel
theorem dX7_point_24 : decode cX7_point 24 = .ok (.iload_n 1, 1) := by decide +kernel
theorem dX7_point_25 : decode cX7_point 25 = .ok (.iload_n 2, 1) := by decide +kernel
theorem dX7_point_26 : decode cX7_point 26 = .ok (.iconst 0, 1) := by decide +kernel
theorem dX7_point_27 : decode cX7_point 27 = .ok (.invokevirtual 147, 3) := by decide +kernel
theorem dX7_point_30 : decode cX7_point 30 = .ok (.i2l, 1) := by decide +kernel
theorem dX7_point_31 : decode cX7_point 31 = .ok (.aload_n 3, 1) := by decide +kernel
theorem dX7_point_32 : decode cX7_point 32 = .ok (.iload_n 1, 1) := by decide +kernel
theorem dX7_point_33 : decode cX7_point 33 = .ok (.iload_n 2, 1) := by decide +kernel
theorem dX7_point_34 : decode cX7_point 34 = .ok (.iconst 1, 1) := by decide +kernel
theorem dX7_point_35 : decode cX7_point 35 = .ok (.invokevirtual 147, 3) := by decide +kernel
theorem dX7_point_38 : decode cX7_point 38 = .ok (.i2l, 1) := by decide +kernel
theorem dX7_point_39 : decode cX7_point 39 = .ok (.aload_n 3, 1) := by decide +kernel
theorem dX7_point_40 : decode cX7_point 40 = .ok (.iload_n 1, 1) := by decide +kernel
theorem dX7_point_41 : decode cX7_point 41 = .ok (.iload_n 2, 1) := by decide +kernel
theorem dX7_point_42 : decode cX7_point 42 = .ok (.iconst 2, 1) := by decide +kernel
theorem dX7_point_43 : decode cX7_point 43 = .ok (.invokevirtual 147, 3) := by decide +kernel
theorem dX7_point_46 : decode cX7_point 46 = .ok (.i2l, 1) := by decide +kernel
theorem dX7_point_47 : decode cX7_point 47 = .ok (.invokevirtual 150, 3) := by decide +kernel
theorem dX7_point_50 : decode cX7_point 50 = .ok (.aload_n 3, 1) := by decide +kernel
theorem dX7_point_51 : decode cX7_point 51 = .ok (.iload_n 1, 1) := by decide +kernel
theorem dX7_point_52 : decode cX7_point 52 = .ok (.iload_n 2, 1) := by decide +kernel
theorem dX7_point_53 : decode cX7_point 53 = .ok (.invokevirtual 153, 3) := by decide +kernel
theorem dX7_point_56 : decode cX7_point 56 = .ok (.ireturn, 1) := by decide +kernel
theorem dX7_cell_0 : decode cX7_cell 0 = .ok (.aload_n 0, 1) := by decide +kernel
theorem dX7_cell_1 : decode cX7_cell 1 = .ok (.getfield 26, 3) := by decide +kernel
theorem dX7_cell_4 : decode cX7_cell 4 = .ok (.getfield 74, 3) := by decide +kernel
theorem dX7_cell_7 : decode cX7_cell 7 = .ok (.astore_n 2, 1) := by decide +kernel
theorem dX7_cell_8 : decode cX7_cell 8 = .ok (.aload_n 2, 1) := by decide +kernel
theorem dX7_cell_9 : decode cX7_cell 9 = .ok (.iload_n 1, 1) := by decide +kernel
theorem dX7_cell_10 : decode cX7_cell 10 = .ok (.invokevirtual 156, 3) := by decide +kernel
theorem dX7_cell_13 : decode cX7_cell 13 = .ok (.ifCond .ne 5, 3) := by decide +kernel
theorem dX7_cell_16 : decode cX7_cell 16 = .ok (.iconst (-1), 1) := by decide +kernel
theorem dX7_cell_17 : decode cX7_cell 17 = .ok (.ireturn, 1) := by decide +kernel
theorem dX7_cell_18 : decode cX7_cell 18 = .ok (.aload_n 2, 1) := by decide +kernel
theorem dX7_cell_19 : decode cX7_cell 19 = .ok (.iload_n 1, 1) := by decide +kernel
theorem dX7_cell_20 : decode cX7_cell 20 = .ok (.invokevirtual 159, 3) := by decide +kernel
theorem dX7_cell_23 : decode cX7_cell 23 = .ok (.istore_n 3, 1) := by decide +kernel
theorem dX7_cell_24 : decode cX7_cell 24 = .ok (.aload_n 0, 1) := by decide +kernel
theorem dX7_cell_25 : decode cX7_cell 25 = .ok (.getfield 19, 3) := by decide +kernel
theorem dX7_cell_28 : decode cX7_cell 28 = .ok (.aload_n 2, 1) := by decide +kernel
theorem dX7_cell_29 : decode cX7_cell 29 = .ok (.iload_n 1, 1) := by decide +kernel
theorem dX7_cell_30 : decode cX7_cell 30 = .ok (.iconst 0, 1) := by decide +kernel
theorem dX7_cell_31 : decode cX7_cell 31 = .ok (.invokevirtual 162, 3) := by decide +kernel
theorem dX7_cell_34 : decode cX7_cell 34 = .ok (.i2l, 1) := by decide +kernel
theorem dX7_cell_35 : decode cX7_cell 35 = .ok (.aload_n 2, 1) := by decide +kernel
theorem dX7_cell_36 : decode cX7_cell 36 = .ok (.iload_n 1, 1) := by decide +kernel
theorem dX7_cell_37 : decode cX7_cell 37 = .ok (.iconst 1, 1) := by decide +kernel
theorem dX7_cell_38 : decode cX7_cell 38 = .ok (.invokevirtual 162, 3) := by decide +kernel
theorem dX7_cell_41 : decode cX7_cell 41 = .ok (.i2l, 1) := by decide +kernel
theorem dX7_cell_42 : decode cX7_cell 42 = .ok (.aload_n 2, 1) := by decide +kernel
theorem dX7_cell_43 : decode cX7_cell 43 = .ok (.iload_n 1, 1) := by decide +kernel
theorem dX7_cell_44 : decode cX7_cell 44 = .ok (.iconst 2, 1) := by decide +kernel
theorem dX7_cell_45 : decode cX7_cell 45 = .ok (.invokevirtual 162, 3) := by decide +kernel
theorem dX7_cell_48 : decode cX7_cell 48 = .ok (.i2l, 1) := by decide +kernel
theorem dX7_cell_49 : decode cX7_cell 49 = .ok (.iload_n 3, 1) := by decide +kernel
theorem dX7_cell_50 : decode cX7_cell 50 = .ok (.i2l, 1) := by decide +kernel
theorem dX7_cell_51 : decode cX7_cell 51 = .ok (.invokevirtual 165, 3) := by decide +kernel
theorem dX7_cell_54 : decode cX7_cell 54 = .ok (.iload_n 3, 1) := by decide +kernel
theorem dX7_cell_55 : decode cX7_cell 55 = .ok (.ifCond .ne 7, 3) := by decide +kernel
theorem dX7_cell_58 : decode cX7_cell 58 = .ok (.iconst 0, 1) := by decide +kernel
theorem dX7_cell_59 : decode cX7_cell 59 = .ok (.goto 4, 3) := by decide +kernel
theorem dX7_cell_62 : decode cX7_cell 62 = .ok (.iconst 1, 1) := by decide +kernel
theorem dX7_cell_63 : decode cX7_cell 63 = .ok (.ireturn, 1) := by decide +kernel
theorem dX7_full_0 : decode cX7_full 0 = .ok (.aload_n 0, 1) := by decide +kernel
theorem dX7_full_1 : decode cX7_full 1 = .ok (.getfield 26, 3) := by decide +kernel
theorem dX7_full_4 : decode cX7_full 4 = .ok (.getfield 74, 3) := by decide +kernel
theorem dX7_full_7 : decode cX7_full 7 = .ok (.astore_n 1, 1) := by decide +kernel
theorem dX7_full_8 : decode cX7_full 8 = .ok (.aload_n 1, 1) := by decide +kernel
theorem dX7_full_9 : decode cX7_full 9 = .ok (.invokevirtual 168, 3) := by decide +kernel
theorem dX7_full_12 : decode cX7_full 12 = .ok (.aload_n 0, 1) := by decide +kernel
theorem dX7_full_13 : decode cX7_full 13 = .ok (.getfield 19, 3) := by decide +kernel
theorem dX7_full_16 : decode cX7_full 16 = .ok (.aload_n 1, 1) := by decide +kernel
theorem dX7_full_17 : decode cX7_full 17 = .ok (.getfield 171, 3) := by decide +kernel
theorem dX7_full_20 : decode cX7_full 20 = .ok (.i2l, 1) := by decide +kernel
theorem dX7_full_21 : decode cX7_full 21 = .ok (.aload_n 1, 1) := by decide +kernel
theorem dX7_full_22 : decode cX7_full 22 = .ok (.getfield 174, 3) := by decide +kernel
theorem dX7_full_25 : decode cX7_full 25 = .ok (.i2l, 1) := by decide +kernel
theorem dX7_full_26 : decode cX7_full 26 = .ok (.aload_n 1, 1) := by decide +kernel
theorem dX7_full_27 : decode cX7_full 27 = .ok (.getfield 177, 3) := by decide +kernel
theorem dX7_full_30 : decode cX7_full 30 = .ok (.i2l, 1) := by decide +kernel
theorem dX7_full_31 : decode cX7_full 31 = .ok (.invokevirtual 150, 3) := by decide +kernel
theorem dX7_full_34 : decode cX7_full 34 = .ok (.aload_n 1, 1) := by decide +kernel
theorem dX7_full_35 : decode cX7_full 35 = .ok (.getfield 180, 3) := by decide +kernel
theorem dX7_full_38 : decode cX7_full 38 = .ok (.ireturn, 1) := by decide +kernel
theorem dX7_nth_0 : decode cX7_nth 0 = .ok (.aload_n 0, 1) := by decide +kernel
theorem dX7_nth_1 : decode cX7_nth 1 = .ok (.getfield 26, 3) := by decide +kernel
theorem dX7_nth_4 : decode cX7_nth 4 = .ok (.getfield 74, 3) := by decide +kernel
theorem dX7_nth_7 : decode cX7_nth 7 = .ok (.iload_n 1, 1) := by decide +kernel
theorem dX7_nth_8 : decode cX7_nth 8 = .ok (.invokevirtual 183, 3) := by decide +kernel
theorem dX7_nth_11 : decode cX7_nth 11 = .ok (.istore_n 2, 1) := by decide +kernel
theorem dX7_nth_12 : decode cX7_nth 12 = .ok (.iload_n 2, 1) := by decide +kernel
theorem dX7_nth_13 : decode cX7_nth 13 = .ok (.iconst (-1), 1) := by decide +kernel
theorem dX7_nth_14 : decode cX7_nth 14 = .ok (.if_icmp .eq 22, 3) := by decide +kernel
theorem dX7_nth_17 : decode cX7_nth 17 = .ok (.aload_n 0, 1) := by decide +kernel
theorem dX7_nth_18 : decode cX7_nth 18 = .ok (.getfield 19, 3) := by decide +kernel
theorem dX7_nth_21 : decode cX7_nth 21 = .ok (.aload_n 0, 1) := by decide +kernel
theorem dX7_nth_22 : decode cX7_nth 22 = .ok (.getfield 26, 3) := by decide +kernel
theorem dX7_nth_25 : decode cX7_nth 25 = .ok (.getfield 74, 3) := by decide +kernel
theorem dX7_nth_28 : decode cX7_nth 28 = .ok (.iload_n 2, 1) := by decide +kernel
theorem dX7_nth_29 : decode cX7_nth 29 = .ok (.invokevirtual 159, 3) := by decide +kernel
theorem dX7_nth_32 : decode cX7_nth 32 = .ok (.i2l, 1) := by decide +kernel
theorem dX7_nth_33 : decode cX7_nth 33 = .ok (.invokevirtual 186, 3) := by decide +kernel
theorem dX7_nth_36 : decode cX7_nth 36 = .ok (.iload_n 2, 1) := by decide +kernel
theorem dX7_nth_37 : decode cX7_nth 37 = .ok (.ireturn, 1) := by decide +kernel
theorem dX7_with_0 : decode cX7_with 0 = .ok (.iload_n 1, 1) := by decide +kernel
theorem dX7_with_1 : decode cX7_with 1 = .ok (.iconst 1, 1) := by decide +kernel
theorem dX7_with_2 : decode cX7_with 2 = .ok (.if_icmp .lt 9, 3) := by decide +kernel
theorem dX7_with_5 : decode cX7_with 5 = .ok (.iload_n 1, 1) := by decide +kernel
theorem dX7_with_6 : decode cX7_with 6 = .ok (.bipush 7, 2) := by decide +kernel
theorem dX7_with_8 : decode cX7_with 8 = .ok (.if_icmp .le 5, 3) := by decide +kernel
theorem dX7_with_11 : decode cX7_with 11 = .ok (.iconst (-1), 1) := by decide +kernel
theorem dX7_with_12 : decode cX7_with 12 = .ok (.ireturn, 1) := by decide +kernel
theorem dX7_with_13 : decode cX7_with 13 = .ok (.iconst 0, 1) := by decide +kernel
theorem dX7_with_14 : decode cX7_with 14 = .ok (.istore_n 2, 1) := by decide +kernel
theorem dX7_with_15 : decode cX7_with 15 = .ok (.iconst (-1), 1) := by decide +kernel
theorem dX7_with_16 : decode cX7_with 16 = .ok (.istore_n 3, 1) := by decide +kernel
theorem dX7_with_17 : decode cX7_with 17 = .ok (.iconst 0, 1) := by decide +kernel
theorem dX7_with_18 : decode cX7_with 18 = .ok (.istore 4, 2) := by decide +kernel
theorem dX7_with_20 : decode cX7_with 20 = .ok (.iload 4, 2) := by decide +kernel
theorem dX7_with_22 : decode cX7_with 22 = .ok (.aload_n 0, 1) := by decide +kernel
theorem dX7_with_23 : decode cX7_with 23 = .ok (.getfield 26, 3) := by decide +kernel
theorem dX7_with_26 : decode cX7_with 26 = .ok (.getfield 74, 3) := by decide +kernel
theorem dX7_with_29 : decode cX7_with 29 = .ok (.invokevirtual 189, 3) := by decide +kernel
theorem dX7_with_32 : decode cX7_with 32 = .ok (.if_icmp .ge 55, 3) := by decide +kernel
theorem dX7_with_35 : decode cX7_with 35 = .ok (.aload_n 0, 1) := by decide +kernel
theorem dX7_with_36 : decode cX7_with 36 = .ok (.getfield 26, 3) := by decide +kernel
theorem dX7_with_39 : decode cX7_with 39 = .ok (.getfield 74, 3) := by decide +kernel
theorem dX7_with_42 : decode cX7_with 42 = .ok (.iload 4, 2) := by decide +kernel
theorem dX7_with_44 : decode cX7_with 44 = .ok (.invokevirtual 156, 3) := by decide +kernel
theorem dX7_with_47 : decode cX7_with 47 = .ok (.ifCond .eq 34, 3) := by decide +kernel
theorem dX7_with_50 : decode cX7_with 50 = .ok (.aload_n 0, 1) := by decide +kernel
theorem dX7_with_51 : decode cX7_with 51 = .ok (.getfield 26, 3) := by decide +kernel
theorem dX7_with_54 : decode cX7_with 54 = .ok (.getfield 74, 3) := by decide +kernel
theorem dX7_with_57 : decode cX7_with 57 = .ok (.iload 4, 2) := by decide +kernel
theorem dX7_with_59 : decode cX7_with 59 = .ok (.invokevirtual 192, 3) := by decide +kernel
theorem dX7_with_62 : decode cX7_with 62 = .ok (.iload_n 1, 1) := by decide +kernel
theorem dX7_with_63 : decode cX7_with 63 = .ok (.if_icmp .ne 18, 3) := by decide +kernel
theorem dX7_with_66 : decode cX7_with 66 = .ok (.iinc 2 1, 3) := by decide +kernel
theorem dX7_with_69 : decode cX7_with 69 = .ok (.iload_n 3, 1) := by decide +kernel
theorem dX7_with_70 : decode cX7_with 70 = .ok (.iconst (-1), 1) := by decide +kernel
theorem dX7_with_71 : decode cX7_with 71 = .ok (.if_icmp .ne 8, 3) := by decide +kernel
theorem dX7_with_74 : decode cX7_with 74 = .ok (.iload 4, 2) := by decide +kernel
theorem dX7_with_76 : decode cX7_with 76 = .ok (.goto 4, 3) := by decide +kernel
theorem dX7_with_79 : decode cX7_with 79 = .ok (.iload_n 3, 1) := by decide +kernel
theorem dX7_with_80 : decode cX7_with 80 = .ok (.istore_n 3, 1) := by decide +kernel
theorem dX7_with_81 : decode cX7_with 81 = .ok (.iinc 4 1, 3) := by decide +kernel
theorem dX7_with_84 : decode cX7_with 84 = .ok (.goto (-64), 3) := by decide +kernel
theorem dX7_with_87 : decode cX7_with 87 = .ok (.aload_n 0, 1) := by decide +kernel
theorem dX7_with_88 : decode cX7_with 88 = .ok (.getfield 19, 3) := by decide +kernel
theorem dX7_with_91 : decode cX7_with 91 = .ok (.iload_n 3, 1) := by decide +kernel
theorem dX7_with_92 : decode cX7_with 92 = .ok (.i2l, 1) := by decide +kernel
theorem dX7_with_93 : decode cX7_with 93 = .ok (.invokevirtual 186, 3) := by decide +kernel
theorem dX7_with_96 : decode cX7_with 96 = .ok (.iload_n 2, 1) := by decide +kernel
theorem dX7_with_97 : decode cX7_with 97 = .ok (.ireturn, 1) := by decide +kernel
theorem dX7_many_0 : decode cX7_many 0 = .ok (.iload_n 1, 1) := by decide +kernel
theorem dX7_many_1 : decode cX7_many 1 = .ok (.invokestatic 195, 3) := by decide +kernel
theorem dX7_many_4 : decode cX7_many 4 = .ok (.ifCond .ne 5, 3) := by decide +kernel
theorem dX7_many_7 : decode cX7_many 7 = .ok (.iconst (-1), 1) := by decide +kernel
theorem dX7_many_8 : decode cX7_many 8 = .ok (.ireturn, 1) := by decide +kernel
theorem dX7_many_9 : decode cX7_many 9 = .ok (.aload_n 0, 1) := by decide +kernel
theorem dX7_many_10 : decode cX7_many 10 = .ok (.getfield 26, 3) := by decide +kernel
theorem dX7_many_13 : decode cX7_many 13 = .ok (.getfield 74, 3) := by decide +kernel
theorem dX7_many_16 : decode cX7_many 16 = .ok (.astore_n 2, 1) := by decide +kernel
theorem dX7_many_17 : decode cX7_many 17 = .ok (.iconst 0, 1) := by decide +kernel
theorem dX7_many_18 : decode cX7_many 18 = .ok (.istore_n 3, 1) := by decide +kernel
theorem dX7_many_19 : decode cX7_many 19 = .ok (.iconst 0, 1) := by decide +kernel
theorem dX7_many_20 : decode cX7_many 20 = .ok (.istore 4, 2) := by decide +kernel
theorem dX7_many_22 : decode cX7_many 22 = .ok (.iconst 0, 1) := by decide +kernel
theorem dX7_many_23 : decode cX7_many 23 = .ok (.istore 5, 2) := by decide +kernel
theorem dX7_many_25 : decode cX7_many 25 = .ok (.iload 5, 2) := by decide +kernel
theorem dX7_many_27 : decode cX7_many 27 = .ok (.aload_n 2, 1) := by decide +kernel
theorem dX7_many_28 : decode cX7_many 28 = .ok (.getfield 198, 3) := by decide +kernel
theorem dX7_many_31 : decode cX7_many 31 = .ok (.if_icmp .gt 66, 3) := by decide +kernel
theorem dX7_many_34 : decode cX7_many 34 = .ok (.iconst 0, 1) := by decide +kernel
theorem dX7_many_35 : decode cX7_many 35 = .ok (.istore 6, 2) := by decide +kernel
theorem dX7_many_37 : decode cX7_many 37 = .ok (.iload 6, 2) := by decide +kernel
theorem dX7_many_39 : decode cX7_many 39 = .ok (.aload_n 2, 1) := by decide +kernel
theorem dX7_many_40 : decode cX7_many 40 = .ok (.getfield 198, 3) := by decide +kernel
theorem dX7_many_43 : decode cX7_many 43 = .ok (.iload 5, 2) := by decide +kernel
theorem dX7_many_45 : decode cX7_many 45 = .ok (.isub, 1) := by decide +kernel
theorem dX7_many_46 : decode cX7_many 46 = .ok (.if_icmp .gt 45, 3) := by decide +kernel
theorem dX7_many_49 : decode cX7_many 49 = .ok (.aload_n 2, 1) := by decide +kernel
theorem dX7_many_50 : decode cX7_many 50 = .ok (.iload 5, 2) := by decide +kernel
theorem dX7_many_52 : decode cX7_many 52 = .ok (.iload 6, 2) := by decide +kernel
theorem dX7_many_54 : decode cX7_many 54 = .ok (.invokevirtual 143, 3) := by decide +kernel
theorem dX7_many_57 : decode cX7_many 57 = .ok (.iload_n 1, 1) := by decide +kernel
theorem dX7_many_58 : decode cX7_many 58 = .ok (.if_icmp .ne 27, 3) := by decide +kernel
theorem dX7_many_61 : decode cX7_many 61 = .ok (.iinc 3 1, 3) := by decide +kernel
theorem dX7_many_64 : decode cX7_many 64 = .ok (.iload 4, 2) := by decide +kernel
theorem dX7_many_66 : decode cX7_many 66 = .ok (.aload_n 2, 1) := by decide +kernel
theorem dX7_many_67 : decode cX7_many 67 = .ok (.iload 5, 2) := by decide +kernel
theorem dX7_many_69 : decode cX7_many 69 = .ok (.iload 6, 2) := by decide +kernel
theorem dX7_many_71 : decode cX7_many 71 = .ok (.invokevirtual 201, 3) := by decide +kernel
theorem dX7_many_74 : decode cX7_many 74 = .ok (.ifCond .eq 7, 3) := by decide +kernel
theorem dX7_many_77 : decode cX7_many 77 = .ok (.iconst 1, 1) := by decide +kernel
theorem dX7_many_78 : decode cX7_many 78 = .ok (.goto 4, 3) := by decide +kernel
theorem dX7_many_81 : decode cX7_many 81 = .ok (.iconst 0, 1) := by decide +kernel
theorem dX7_many_82 : decode cX7_many 82 = .ok (.iadd, 1) := by decide +kernel
theorem dX7_many_83 : decode cX7_many 83 = .ok (.istore 4, 2) := by decide +kernel
theorem dX7_many_85 : decode cX7_many 85 = .ok (.iinc 6 1, 3) := by decide +kernel
theorem dX7_many_88 : decode cX7_many 88 = .ok (.goto (-51), 3) := by decide +kernel
theorem dX7_many_91 : decode cX7_many 91 = .ok (.iinc 5 1, 3) := by decide +kernel
theorem dX7_many_94 : decode cX7_many 94 = .ok (.goto (-69), 3) := by decide +kernel
theorem dX7_many_97 : decode cX7_many 97 = .ok (.aload_n 0, 1) := by decide +kernel
theorem dX7_many_98 : decode cX7_many 98 = .ok (.getfield 19, 3) := by decide +kernel
theorem dX7_many_101 : decode cX7_many 101 = .ok (.iload 4, 2) := by decide +kernel
theorem dX7_many_103 : decode cX7_many 103 = .ok (.i2l, 1) := by decide +kernel
theorem dX7_many_104 : decode cX7_many 104 = .ok (.invokevirtual 186, 3) := by decide +kernel
theorem dX7_many_107 : decode cX7_many 107 = .ok (.iload_n 3, 1) := by decide +kernel
theorem dX7_many_108 : decode cX7_many 108 = .ok (.ireturn, 1) := by decide +kernel
theorem dX7_outer_0 : decode cX7_outer 0 = .ok (.iload_n 1, 1) := by decide +kernel
theorem dX7_outer_1 : decode cX7_outer 1 = .ok (.invokestatic 195, 3) := by decide +kernel
theorem dX7_outer_4 : decode cX7_outer 4 = .ok (.ifCond .ne 5, 3) := by decide +kernel
theorem dX7_outer_7 : decode cX7_outer 7 = .ok (.iconst (-1), 1) := by decide +kernel
theorem dX7_outer_8 : decode cX7_outer 8 = .ok (.ireturn, 1) := by decide +kernel
theorem dX7_outer_9 : decode cX7_outer 9 = .ok (.iconst 0, 1) := by decide +kernel
theorem dX7_outer_10 : decode cX7_outer 10 = .ok (.istore_n 2, 1) := by decide +kernel
theorem dX7_outer_11 : decode cX7_outer 11 = .ok (.aload_n 0, 1) := by decide +kernel
theorem dX7_outer_12 : decode cX7_outer 12 = .ok (.getfield 19, 3) := by decide +kernel
theorem dX7_outer_15 : decode cX7_outer 15 = .ok (.invokevirtual 204, 3) := by decide +kernel
theorem dX7_outer_18 : decode cX7_outer 18 = .ok (.iconst 0, 1) := by decide +kernel
theorem dX7_outer_19 : decode cX7_outer 19 = .ok (.istore_n 3, 1) := by decide +kernel
theorem dX7_outer_20 : decode cX7_outer 20 = .ok (.iload_n 3, 1) := by decide +kernel
theorem dX7_outer_21 : decode cX7_outer 21 = .ok (.aload_n 0, 1) := by decide +kernel
theorem dX7_outer_22 : decode cX7_outer 22 = .ok (.getfield 26, 3) := by decide +kernel
theorem dX7_outer_25 : decode cX7_outer 25 = .ok (.getfield 74, 3) := by decide +kernel
theorem dX7_outer_28 : decode cX7_outer 28 = .ok (.getfield 198, 3) := by decide +kernel
theorem dX7_outer_31 : decode cX7_outer 31 = .ok (.if_icmp .ge 51, 3) := by decide +kernel
theorem dX7_outer_34 : decode cX7_outer 34 = .ok (.aload_n 0, 1) := by decide +kernel
theorem dX7_outer_35 : decode cX7_outer 35 = .ok (.getfield 40, 3) := by decide +kernel
theorem dX7_outer_38 : decode cX7_outer 38 = .ok (.aload_n 0, 1) := by decide +kernel
theorem dX7_outer_39 : decode cX7_outer 39 = .ok (.getfield 26, 3) := by decide +kernel
theorem dX7_outer_42 : decode cX7_outer 42 = .ok (.getfield 74, 3) := by decide +kernel
theorem dX7_outer_45 : decode cX7_outer 45 = .ok (.iload_n 1, 1) := by decide +kernel
theorem dX7_outer_46 : decode cX7_outer 46 = .ok (.iload_n 3, 1) := by decide +kernel
theorem dX7_outer_47 : decode cX7_outer 47 = .ok (.invokevirtual 207, 3) := by decide +kernel
theorem dX7_outer_50 : decode cX7_outer 50 = .ok (.ifCond .eq 26, 3) := by decide +kernel
theorem dX7_outer_53 : decode cX7_outer 53 = .ok (.aload_n 0, 1) := by decide +kernel
theorem dX7_outer_54 : decode cX7_outer 54 = .ok (.getfield 19, 3) := by decide +kernel
theorem dX7_outer_57 : decode cX7_outer 57 = .ok (.aload_n 0, 1) := by decide +kernel
theorem dX7_outer_58 : decode cX7_outer 58 = .ok (.getfield 26, 3) := by decide +kernel
theorem dX7_outer_61 : decode cX7_outer 61 = .ok (.getfield 74, 3) := by decide +kernel
theorem dX7_outer_64 : decode cX7_outer 64 = .ok (.iload_n 1, 1) := by decide +kernel
theorem dX7_outer_65 : decode cX7_outer 65 = .ok (.iload_n 3, 1) := by decide +kernel
theorem dX7_outer_66 : decode cX7_outer 66 = .ok (.invokevirtual 211, 3) := by decide +kernel
theorem dX7_outer_69 : decode cX7_outer 69 = .ok (.i2l, 1) := by decide +kernel
theorem dX7_outer_70 : decode cX7_outer 70 = .ok (.invokevirtual 214, 3) := by decide +kernel
theorem dX7_outer_73 : decode cX7_outer 73 = .ok (.iinc 2 1, 3) := by decide +kernel
theorem dX7_outer_76 : decode cX7_outer 76 = .ok (.iinc 3 1, 3) := by decide +kernel
theorem dX7_outer_79 : decode cX7_outer 79 = .ok (.goto (-59), 3) := by decide +kernel
theorem dX7_outer_82 : decode cX7_outer 82 = .ok (.iload_n 2, 1) := by decide +kernel
theorem dX7_outer_83 : decode cX7_outer 83 = .ok (.ireturn, 1) := by decide +kernel
theorem dX7_doors_0 : decode cX7_doors 0 = .ok (.iload_n 1, 1) := by decide +kernel
theorem dX7_doors_1 : decode cX7_doors 1 = .ok (.invokestatic 195, 3) := by decide +kernel
theorem dX7_doors_4 : decode cX7_doors 4 = .ok (.ifCond .ne 5, 3) := by decide +kernel
theorem dX7_doors_7 : decode cX7_doors 7 = .ok (.iconst (-1), 1) := by decide +kernel
theorem dX7_doors_8 : decode cX7_doors 8 = .ok (.ireturn, 1) := by decide +kernel
theorem dX7_doors_9 : decode cX7_doors 9 = .ok (.aload_n 0, 1) := by decide +kernel
theorem dX7_doors_10 : decode cX7_doors 10 = .ok (.getfield 26, 3) := by decide +kernel
theorem dX7_doors_13 : decode cX7_doors 13 = .ok (.getfield 74, 3) := by decide +kernel
theorem dX7_doors_16 : decode cX7_doors 16 = .ok (.astore_n 2, 1) := by decide +kernel
theorem dX7_doors_17 : decode cX7_doors 17 = .ok (.iconst 0, 1) := by decide +kernel
theorem dX7_doors_18 : decode cX7_doors 18 = .ok (.istore_n 3, 1) := by decide +kernel
theorem dX7_doors_19 : decode cX7_doors 19 = .ok (.iconst 0, 1) := by decide +kernel
theorem dX7_doors_20 : decode cX7_doors 20 = .ok (.istore 4, 2) := by decide +kernel
theorem dX7_doors_22 : decode cX7_doors 22 = .ok (.iconst 0, 1) := by decide +kernel
theorem dX7_doors_23 : decode cX7_doors 23 = .ok (.istore 5, 2) := by decide +kernel
theorem dX7_doors_25 : decode cX7_doors 25 = .ok (.iconst 0, 1) := by decide +kernel
theorem dX7_doors_26 : decode cX7_doors 26 = .ok (.istore 6, 2) := by decide +kernel
theorem dX7_doors_28 : decode cX7_doors 28 = .ok (.iload 6, 2) := by decide +kernel
theorem dX7_doors_30 : decode cX7_doors 30 = .ok (.aload_n 2, 1) := by decide +kernel
theorem dX7_doors_31 : decode cX7_doors 31 = .ok (.invokevirtual 189, 3) := by decide +kernel
theorem dX7_doors_34 : decode cX7_doors 34 = .ok (.if_icmp .ge 105, 3) := by decide +kernel
theorem dX7_doors_37 : decode cX7_doors 37 = .ok (.aload_n 2, 1) := by decide +kernel
theorem dX7_doors_38 : decode cX7_doors 38 = .ok (.iload 6, 2) := by decide +kernel
theorem dX7_doors_40 : decode cX7_doors 40 = .ok (.invokevirtual 156, 3) := by decide +kernel
theorem dX7_doors_43 : decode cX7_doors 43 = .ok (.ifCond .ne 6, 3) := by decide +kernel
theorem dX7_doors_46 : decode cX7_doors 46 = .ok (.goto 87, 3) := by decide +kernel
theorem dX7_doors_49 : decode cX7_doors 49 = .ok (.iconst 0, 1) := by decide +kernel
theorem dX7_doors_50 : decode cX7_doors 50 = .ok (.istore 7, 2) := by decide +kernel
theorem dX7_doors_52 : decode cX7_doors 52 = .ok (.iconst 0, 1) := by decide +kernel
theorem dX7_doors_53 : decode cX7_doors 53 = .ok (.istore 8, 2) := by decide +kernel
theorem dX7_doors_55 : decode cX7_doors 55 = .ok (.iload 8, 2) := by decide +kernel
theorem dX7_doors_57 : decode cX7_doors 57 = .ok (.iconst 3, 1) := by decide +kernel
theorem dX7_doors_58 : decode cX7_doors 58 = .ok (.if_icmp .ge 43, 3) := by decide +kernel
theorem dX7_doors_61 : decode cX7_doors 61 = .ok (.aload_n 0, 1) := by decide +kernel
theorem dX7_doors_62 : decode cX7_doors 62 = .ok (.getfield 40, 3) := by decide +kernel
theorem dX7_doors_65 : decode cX7_doors 65 = .ok (.aload_n 2, 1) := by decide +kernel
theorem dX7_doors_66 : decode cX7_doors 66 = .ok (.iload 6, 2) := by decide +kernel
theorem dX7_doors_68 : decode cX7_doors 68 = .ok (.iload 8, 2) := by decide +kernel
theorem dX7_doors_70 : decode cX7_doors 70 = .ok (.iload_n 1, 1) := by decide +kernel
theorem dX7_doors_71 : decode cX7_doors 71 = .ok (.invokevirtual 217, 3) := by decide +kernel
theorem dX7_doors_74 : decode cX7_doors 74 = .ok (.ifCond .eq 21, 3) := by decide +kernel
theorem dX7_doors_77 : decode cX7_doors 77 = .ok (.iinc 7 1, 3) := by decide +kernel
theorem dX7_doors_80 : decode cX7_doors 80 = .ok (.iload_n 3, 1) := by decide +kernel
theorem dX7_doors_81 : decode cX7_doors 81 = .ok (.iload 6, 2) := by decide +kernel
theorem dX7_doors_83 : decode cX7_doors 83 = .ok (.iconst 1, 1) := by decide +kernel
theorem dX7_doors_84 : decode cX7_doors 84 = .ok (.iand, 1) := by decide +kernel
theorem dX7_doors_85 : decode cX7_doors 85 = .ok (.ifCond .ne 7, 3) := by decide +kernel
theorem dX7_doors_88 : decode cX7_doors 88 = .ok (.iconst 1, 1) := by decide +kernel
theorem dX7_doors_89 : decode cX7_doors 89 = .ok (.goto 4, 3) := by decide +kernel
theorem dX7_doors_92 : decode cX7_doors 92 = .ok (.iconst 0, 1) := by decide +kernel
theorem dX7_doors_93 : decode cX7_doors 93 = .ok (.iadd, 1) := by decide +kernel
theorem dX7_doors_94 : decode cX7_doors 94 = .ok (.istore_n 3, 1) := by decide +kernel
theorem dX7_doors_95 : decode cX7_doors 95 = .ok (.iinc 8 1, 3) := by decide +kernel
theorem dX7_doors_98 : decode cX7_doors 98 = .ok (.goto (-43), 3) := by decide +kernel
theorem dX7_doors_101 : decode cX7_doors 101 = .ok (.iload 4, 2) := by decide +kernel
theorem dX7_doors_103 : decode cX7_doors 103 = .ok (.iload 7, 2) := by decide +kernel
theorem dX7_doors_105 : decode cX7_doors 105 = .ok (.iconst 1, 1) := by decide +kernel
theorem dX7_doors_106 : decode cX7_doors 106 = .ok (.if_icmp .ne 7, 3) := by decide +kernel
theorem dX7_doors_109 : decode cX7_doors 109 = .ok (.iconst 1, 1) := by decide +kernel
theorem dX7_doors_110 : decode cX7_doors 110 = .ok (.goto 4, 3) := by decide +kernel
theorem dX7_doors_113 : decode cX7_doors 113 = .ok (.iconst 0, 1) := by decide +kernel
theorem dX7_doors_114 : decode cX7_doors 114 = .ok (.iadd, 1) := by decide +kernel
theorem dX7_doors_115 : decode cX7_doors 115 = .ok (.istore 4, 2) := by decide +kernel
theorem dX7_doors_117 : decode cX7_doors 117 = .ok (.iload 5, 2) := by decide +kernel
theorem dX7_doors_119 : decode cX7_doors 119 = .ok (.iload 7, 2) := by decide +kernel
theorem dX7_doors_121 : decode cX7_doors 121 = .ok (.iconst 2, 1) := by decide +kernel
theorem dX7_doors_122 : decode cX7_doors 122 = .ok (.if_icmp .ne 7, 3) := by decide +kernel
theorem dX7_doors_125 : decode cX7_doors 125 = .ok (.iconst 1, 1) := by decide +kernel
theorem dX7_doors_126 : decode cX7_doors 126 = .ok (.goto 4, 3) := by decide +kernel
theorem dX7_doors_129 : decode cX7_doors 129 = .ok (.iconst 0, 1) := by decide +kernel
theorem dX7_doors_130 : decode cX7_doors 130 = .ok (.iadd, 1) := by decide +kernel
theorem dX7_doors_131 : decode cX7_doors 131 = .ok (.istore 5, 2) := by decide +kernel
theorem dX7_doors_133 : decode cX7_doors 133 = .ok (.iinc 6 1, 3) := by decide +kernel
theorem dX7_doors_136 : decode cX7_doors 136 = .ok (.goto (-108), 3) := by decide +kernel
theorem dX7_doors_139 : decode cX7_doors 139 = .ok (.aload_n 0, 1) := by decide +kernel
theorem dX7_doors_140 : decode cX7_doors 140 = .ok (.getfield 19, 3) := by decide +kernel
theorem dX7_doors_143 : decode cX7_doors 143 = .ok (.iload 4, 2) := by decide +kernel
theorem dX7_doors_145 : decode cX7_doors 145 = .ok (.i2l, 1) := by decide +kernel
theorem dX7_doors_146 : decode cX7_doors 146 = .ok (.iload 5, 2) := by decide +kernel
theorem dX7_doors_148 : decode cX7_doors 148 = .ok (.i2l, 1) := by decide +kernel
theorem dX7_doors_149 : decode cX7_doors 149 = .ok (.invokevirtual 120, 3) := by decide +kernel
theorem dX7_doors_152 : decode cX7_doors 152 = .ok (.iload_n 3, 1) := by decide +kernel
theorem dX7_doors_153 : decode cX7_doors 153 = .ok (.ireturn, 1) := by decide +kernel
theorem dX7_walk_0 : decode cX7_walk 0 = .ok (.iload_n 1, 1) := by decide +kernel
theorem dX7_walk_1 : decode cX7_walk 1 = .ok (.invokestatic 195, 3) := by decide +kernel
theorem dX7_walk_4 : decode cX7_walk 4 = .ok (.ifCond .eq 22, 3) := by decide +kernel
theorem dX7_walk_7 : decode cX7_walk 7 = .ok (.aload_n 0, 1) := by decide +kernel
theorem dX7_walk_8 : decode cX7_walk 8 = .ok (.getfield 40, 3) := by decide +kernel
theorem dX7_walk_11 : decode cX7_walk 11 = .ok (.aload_n 0, 1) := by decide +kernel
theorem dX7_walk_12 : decode cX7_walk 12 = .ok (.getfield 26, 3) := by decide +kernel
theorem dX7_walk_15 : decode cX7_walk 15 = .ok (.getfield 74, 3) := by decide +kernel
theorem dX7_walk_18 : decode cX7_walk 18 = .ok (.iload_n 1, 1) := by decide +kernel
theorem dX7_walk_19 : decode cX7_walk 19 = .ok (.iload_n 2, 1) := by decide +kernel
theorem dX7_walk_20 : decode cX7_walk 20 = .ok (.invokevirtual 221, 3) := by decide +kernel
theorem dX7_walk_23 : decode cX7_walk 23 = .ok (.goto 4, 3) := by decide +kernel
theorem dX7_walk_26 : decode cX7_walk 26 = .ok (.iconst (-1), 1) := by decide +kernel
theorem dX7_walk_27 : decode cX7_walk 27 = .ok (.istore_n 3, 1) := by decide +kernel
theorem dX7_walk_28 : decode cX7_walk 28 = .ok (.iload_n 3, 1) := by decide +kernel
theorem dX7_walk_29 : decode cX7_walk 29 = .ok (.iconst (-1), 1) := by decide +kernel
theorem dX7_walk_30 : decode cX7_walk 30 = .ok (.if_icmp .ne 5, 3) := by decide +kernel
theorem dX7_walk_33 : decode cX7_walk 33 = .ok (.iconst (-1), 1) := by decide +kernel
theorem dX7_walk_34 : decode cX7_walk 34 = .ok (.ireturn, 1) := by decide +kernel
theorem dX7_walk_35 : decode cX7_walk 35 = .ok (.aload_n 0, 1) := by decide +kernel
theorem dX7_walk_36 : decode cX7_walk 36 = .ok (.getfield 40, 3) := by decide +kernel
theorem dX7_walk_39 : decode cX7_walk 39 = .ok (.aload_n 0, 1) := by decide +kernel
theorem dX7_walk_40 : decode cX7_walk 40 = .ok (.getfield 26, 3) := by decide +kernel
theorem dX7_walk_43 : decode cX7_walk 43 = .ok (.getfield 74, 3) := by decide +kernel
theorem dX7_walk_46 : decode cX7_walk 46 = .ok (.iload_n 1, 1) := by decide +kernel
theorem dX7_walk_47 : decode cX7_walk 47 = .ok (.iload_n 3, 1) := by decide +kernel
theorem dX7_walk_48 : decode cX7_walk 48 = .ok (.invokevirtual 225, 3) := by decide +kernel
theorem dX7_walk_51 : decode cX7_walk 51 = .ok (.aload_n 0, 1) := by decide +kernel
theorem dX7_walk_52 : decode cX7_walk 52 = .ok (.getfield 40, 3) := by decide +kernel
theorem dX7_walk_55 : decode cX7_walk 55 = .ok (.invokevirtual 229, 3) := by decide +kernel
theorem dX7_walk_58 : decode cX7_walk 58 = .ok (.istore 4, 2) := by decide +kernel
theorem dX7_walk_60 : decode cX7_walk 60 = .ok (.aload_n 0, 1) := by decide +kernel
theorem dX7_walk_61 : decode cX7_walk 61 = .ok (.getfield 19, 3) := by decide +kernel
theorem dX7_walk_64 : decode cX7_walk 64 = .ok (.iload 4, 2) := by decide +kernel
theorem dX7_walk_66 : decode cX7_walk 66 = .ok (.i2l, 1) := by decide +kernel
theorem dX7_walk_67 : decode cX7_walk 67 = .ok (.aload_n 0, 1) := by decide +kernel
theorem dX7_walk_68 : decode cX7_walk 68 = .ok (.getfield 26, 3) := by decide +kernel
theorem dX7_walk_71 : decode cX7_walk 71 = .ok (.getfield 74, 3) := by decide +kernel
theorem dX7_walk_74 : decode cX7_walk 74 = .ok (.iload 4, 2) := by decide +kernel
theorem dX7_walk_76 : decode cX7_walk 76 = .ok (.invokevirtual 159, 3) := by decide +kernel
theorem dX7_walk_79 : decode cX7_walk 79 = .ok (.ifCond .ne 7, 3) := by decide +kernel
theorem dX7_walk_82 : decode cX7_walk 82 = .ok (.lconst 0, 1) := by decide +kernel
theorem dX7_walk_83 : decode cX7_walk 83 = .ok (.goto 4, 3) := by decide +kernel
theorem dX7_walk_86 : decode cX7_walk 86 = .ok (.lconst 1, 1) := by decide +kernel
theorem dX7_walk_87 : decode cX7_walk 87 = .ok (.aload_n 0, 1) := by decide +kernel
theorem dX7_walk_88 : decode cX7_walk 88 = .ok (.getfield 40, 3) := by decide +kernel
theorem dX7_walk_91 : decode cX7_walk 91 = .ok (.aload_n 0, 1) := by decide +kernel
theorem dX7_walk_92 : decode cX7_walk 92 = .ok (.getfield 26, 3) := by decide +kernel
theorem dX7_walk_95 : decode cX7_walk 95 = .ok (.getfield 74, 3) := by decide +kernel
theorem dX7_walk_98 : decode cX7_walk 98 = .ok (.iload_n 1, 1) := by decide +kernel
theorem dX7_walk_99 : decode cX7_walk 99 = .ok (.invokevirtual 232, 3) := by decide +kernel
theorem dX7_walk_102 : decode cX7_walk 102 = .ok (.i2l, 1) := by decide +kernel
theorem dX7_walk_103 : decode cX7_walk 103 = .ok (.invokevirtual 150, 3) := by decide +kernel
theorem dX7_walk_106 : decode cX7_walk 106 = .ok (.aload_n 0, 1) := by decide +kernel
theorem dX7_walk_107 : decode cX7_walk 107 = .ok (.getfield 40, 3) := by decide +kernel
theorem dX7_walk_110 : decode cX7_walk 110 = .ok (.getfield 236, 3) := by decide +kernel
theorem dX7_walk_113 : decode cX7_walk 113 = .ok (.ireturn, 1) := by decide +kernel
theorem dX7_step_0 : decode cX7_step 0 = .ok (.iload_n 1, 1) := by decide +kernel
theorem dX7_step_1 : decode cX7_step 1 = .ok (.invokestatic 195, 3) := by decide +kernel
theorem dX7_step_4 : decode cX7_step 4 = .ok (.ifCond .eq 22, 3) := by decide +kernel
theorem dX7_step_7 : decode cX7_step 7 = .ok (.aload_n 0, 1) := by decide +kernel
theorem dX7_step_8 : decode cX7_step 8 = .ok (.getfield 40, 3) := by decide +kernel
theorem dX7_step_11 : decode cX7_step 11 = .ok (.aload_n 0, 1) := by decide +kernel
theorem dX7_step_12 : decode cX7_step 12 = .ok (.getfield 26, 3) := by decide +kernel
theorem dX7_step_15 : decode cX7_step 15 = .ok (.getfield 74, 3) := by decide +kernel
theorem dX7_step_18 : decode cX7_step 18 = .ok (.iload_n 1, 1) := by decide +kernel
theorem dX7_step_19 : decode cX7_step 19 = .ok (.iload_n 2, 1) := by decide +kernel
theorem dX7_step_20 : decode cX7_step 20 = .ok (.invokevirtual 221, 3) := by decide +kernel
theorem dX7_step_23 : decode cX7_step 23 = .ok (.goto 4, 3) := by decide +kernel
theorem dX7_step_26 : decode cX7_step 26 = .ok (.iconst (-1), 1) := by decide +kernel
theorem dX7_step_27 : decode cX7_step 27 = .ok (.istore 4, 2) := by decide +kernel
theorem dX7_step_29 : decode cX7_step 29 = .ok (.iload 4, 2) := by decide +kernel
theorem dX7_step_31 : decode cX7_step 31 = .ok (.iconst (-1), 1) := by decide +kernel
theorem dX7_step_32 : decode cX7_step 32 = .ok (.if_icmp .ne 13, 3) := by decide +kernel
theorem dX7_step_35 : decode cX7_step 35 = .ok (.new 136, 3) := by decide +kernel
theorem dX7_step_38 : decode cX7_step 38 = .ok (.dup, 1) := by decide +kernel
theorem dX7_step_39 : decode cX7_step 39 = .ok (.ldc 237, 2) := by decide +kernel
theorem dX7_step_41 : decode cX7_step 41 = .ok (.invokespecial 140, 3) := by decide +kernel
theorem dX7_step_44 : decode cX7_step 44 = .ok (.athrow, 1) := by decide +kernel
theorem dX7_step_45 : decode cX7_step 45 = .ok (.aload_n 0, 1) := by decide +kernel
theorem dX7_step_46 : decode cX7_step 46 = .ok (.getfield 40, 3) := by decide +kernel
theorem dX7_step_49 : decode cX7_step 49 = .ok (.aload_n 0, 1) := by decide +kernel
theorem dX7_step_50 : decode cX7_step 50 = .ok (.getfield 26, 3) := by decide +kernel
theorem dX7_step_53 : decode cX7_step 53 = .ok (.getfield 74, 3) := by decide +kernel
theorem dX7_step_56 : decode cX7_step 56 = .ok (.iload_n 1, 1) := by decide +kernel
theorem dX7_step_57 : decode cX7_step 57 = .ok (.iload 4, 2) := by decide +kernel
theorem dX7_step_59 : decode cX7_step 59 = .ok (.invokevirtual 225, 3) := by decide +kernel
theorem dX7_step_62 : decode cX7_step 62 = .ok (.iload_n 3, 1) := by decide +kernel
theorem dX7_step_63 : decode cX7_step 63 = .ok (.ifCond .lt 14, 3) := by decide +kernel
theorem dX7_step_66 : decode cX7_step 66 = .ok (.iload_n 3, 1) := by decide +kernel
theorem dX7_step_67 : decode cX7_step 67 = .ok (.aload_n 0, 1) := by decide +kernel
theorem dX7_step_68 : decode cX7_step 68 = .ok (.getfield 40, 3) := by decide +kernel
theorem dX7_step_71 : decode cX7_step 71 = .ok (.getfield 236, 3) := by decide +kernel
theorem dX7_step_74 : decode cX7_step 74 = .ok (.if_icmp .lt 13, 3) := by decide +kernel
theorem dX7_step_77 : decode cX7_step 77 = .ok (.new 136, 3) := by decide +kernel
theorem dX7_step_80 : decode cX7_step 80 = .ok (.dup, 1) := by decide +kernel
theorem dX7_step_81 : decode cX7_step 81 = .ok (.ldc 239, 2) := by decide +kernel
theorem dX7_step_83 : decode cX7_step 83 = .ok (.invokespecial 140, 3) := by decide +kernel
theorem dX7_step_86 : decode cX7_step 86 = .ok (.athrow, 1) := by decide +kernel
theorem dX7_step_87 : decode cX7_step 87 = .ok (.aload_n 0, 1) := by decide +kernel
theorem dX7_step_88 : decode cX7_step 88 = .ok (.getfield 40, 3) := by decide +kernel
theorem dX7_step_91 : decode cX7_step 91 = .ok (.iload_n 3, 1) := by decide +kernel
theorem dX7_step_92 : decode cX7_step 92 = .ok (.invokevirtual 241, 3) := by decide +kernel
theorem dX7_step_95 : decode cX7_step 95 = .ok (.ireturn, 1) := by decide +kernel
theorem dX7_from_0 : decode cX7_from 0 = .ok (.aload_n 0, 1) := by decide +kernel
theorem dX7_from_1 : decode cX7_from 1 = .ok (.getfield 26, 3) := by decide +kernel
theorem dX7_from_4 : decode cX7_from 4 = .ok (.getfield 74, 3) := by decide +kernel
theorem dX7_from_7 : decode cX7_from 7 = .ok (.astore_n 3, 1) := by decide +kernel
theorem dX7_from_8 : decode cX7_from 8 = .ok (.aload_n 3, 1) := by decide +kernel
theorem dX7_from_9 : decode cX7_from 9 = .ok (.iload_n 1, 1) := by decide +kernel
theorem dX7_from_10 : decode cX7_from 10 = .ok (.invokevirtual 156, 3) := by decide +kernel
theorem dX7_from_13 : decode cX7_from 13 = .ok (.ifCond .eq 10, 3) := by decide +kernel
theorem dX7_from_16 : decode cX7_from 16 = .ok (.iload_n 2, 1) := by decide +kernel
theorem dX7_from_17 : decode cX7_from 17 = .ok (.invokestatic 195, 3) := by decide +kernel
theorem dX7_from_20 : decode cX7_from 20 = .ok (.ifCond .ne 5, 3) := by decide +kernel
theorem dX7_from_23 : decode cX7_from 23 = .ok (.iconst (-1), 1) := by decide +kernel
theorem dX7_from_24 : decode cX7_from 24 = .ok (.ireturn, 1) := by decide +kernel
theorem dX7_from_25 : decode cX7_from 25 = .ok (.aload_n 3, 1) := by decide +kernel
theorem dX7_from_26 : decode cX7_from 26 = .ok (.iload_n 1, 1) := by decide +kernel
theorem dX7_from_27 : decode cX7_from 27 = .ok (.invokevirtual 159, 3) := by decide +kernel
theorem dX7_from_30 : decode cX7_from 30 = .ok (.ifCond .ne 6, 3) := by decide +kernel
theorem dX7_from_33 : decode cX7_from 33 = .ok (.bipush (-2), 2) := by decide +kernel
theorem dX7_from_35 : decode cX7_from 35 = .ok (.ireturn, 1) := by decide +kernel
theorem dX7_from_36 : decode cX7_from 36 = .ok (.aload_n 0, 1) := by decide +kernel
theorem dX7_from_37 : decode cX7_from 37 = .ok (.getfield 40, 3) := by decide +kernel
theorem dX7_from_40 : decode cX7_from 40 = .ok (.aload_n 3, 1) := by decide +kernel
theorem dX7_from_41 : decode cX7_from 41 = .ok (.iload_n 1, 1) := by decide +kernel
theorem dX7_from_42 : decode cX7_from 42 = .ok (.iload_n 2, 1) := by decide +kernel
theorem dX7_from_43 : decode cX7_from 43 = .ok (.iconst (-1), 1) := by decide +kernel
theorem dX7_from_44 : decode cX7_from 44 = .ok (.invokevirtual 244, 3) := by decide +kernel
theorem dX7_from_47 : decode cX7_from 47 = .ok (.istore 4, 2) := by decide +kernel
theorem dX7_from_49 : decode cX7_from 49 = .ok (.aload_n 3, 1) := by decide +kernel
theorem dX7_from_50 : decode cX7_from 50 = .ok (.iload_n 1, 1) := by decide +kernel
theorem dX7_from_51 : decode cX7_from 51 = .ok (.iload 4, 2) := by decide +kernel
theorem dX7_from_53 : decode cX7_from 53 = .ok (.invokevirtual 248, 3) := by decide +kernel
theorem dX7_from_56 : decode cX7_from 56 = .ok (.istore 5, 2) := by decide +kernel
theorem dX7_from_58 : decode cX7_from 58 = .ok (.iload 5, 2) := by decide +kernel
theorem dX7_from_60 : decode cX7_from 60 = .ok (.iconst (-1), 1) := by decide +kernel
theorem dX7_from_61 : decode cX7_from 61 = .ok (.if_icmp .ne 30, 3) := by decide +kernel
theorem dX7_from_64 : decode cX7_from 64 = .ok (.aload_n 0, 1) := by decide +kernel
theorem dX7_from_65 : decode cX7_from 65 = .ok (.getfield 19, 3) := by decide +kernel
theorem dX7_from_68 : decode cX7_from 68 = .ok (.iload_n 1, 1) := by decide +kernel
theorem dX7_from_69 : decode cX7_from 69 = .ok (.i2l, 1) := by decide +kernel
theorem dX7_from_70 : decode cX7_from 70 = .ok (.aload_n 0, 1) := by decide +kernel
theorem dX7_from_71 : decode cX7_from 71 = .ok (.getfield 40, 3) := by decide +kernel
theorem dX7_from_74 : decode cX7_from 74 = .ok (.aload_n 3, 1) := by decide +kernel
theorem dX7_from_75 : decode cX7_from 75 = .ok (.iload_n 2, 1) := by decide +kernel
theorem dX7_from_76 : decode cX7_from 76 = .ok (.aload_n 3, 1) := by decide +kernel
theorem dX7_from_77 : decode cX7_from 77 = .ok (.iload_n 2, 1) := by decide +kernel
theorem dX7_from_78 : decode cX7_from 78 = .ok (.iload_n 1, 1) := by decide +kernel
theorem dX7_from_79 : decode cX7_from 79 = .ok (.invokevirtual 251, 3) := by decide +kernel
theorem dX7_from_82 : decode cX7_from 82 = .ok (.invokevirtual 254, 3) := by decide +kernel
theorem dX7_from_85 : decode cX7_from 85 = .ok (.i2l, 1) := by decide +kernel
theorem dX7_from_86 : decode cX7_from 86 = .ok (.invokevirtual 120, 3) := by decide +kernel
theorem dX7_from_89 : decode cX7_from 89 = .ok (.iconst 0, 1) := by decide +kernel
theorem dX7_from_90 : decode cX7_from 90 = .ok (.ireturn, 1) := by decide +kernel
theorem dX7_from_91 : decode cX7_from 91 = .ok (.aload_n 0, 1) := by decide +kernel
theorem dX7_from_92 : decode cX7_from 92 = .ok (.getfield 40, 3) := by decide +kernel
theorem dX7_from_95 : decode cX7_from 95 = .ok (.aload_n 3, 1) := by decide +kernel
theorem dX7_from_96 : decode cX7_from 96 = .ok (.iload_n 2, 1) := by decide +kernel
theorem dX7_from_97 : decode cX7_from 97 = .ok (.iload 5, 2) := by decide +kernel
theorem dX7_from_99 : decode cX7_from 99 = .ok (.iload 4, 2) := by decide +kernel
theorem dX7_from_101 : decode cX7_from 101 = .ok (.invokevirtual 257, 3) := by decide +kernel
theorem dX7_from_104 : decode cX7_from 104 = .ok (.aload_n 0, 1) := by decide +kernel
theorem dX7_from_105 : decode cX7_from 105 = .ok (.getfield 19, 3) := by decide +kernel
theorem dX7_from_108 : decode cX7_from 108 = .ok (.aload_n 0, 1) := by decide +kernel
theorem dX7_from_109 : decode cX7_from 109 = .ok (.getfield 40, 3) := by decide +kernel
theorem dX7_from_112 : decode cX7_from 112 = .ok (.invokevirtual 229, 3) := by decide +kernel
theorem dX7_from_115 : decode cX7_from 115 = .ok (.i2l, 1) := by decide +kernel
theorem dX7_from_116 : decode cX7_from 116 = .ok (.aload_n 0, 1) := by decide +kernel
theorem dX7_from_117 : decode cX7_from 117 = .ok (.getfield 40, 3) := by decide +kernel
theorem dX7_from_120 : decode cX7_from 120 = .ok (.aload_n 3, 1) := by decide +kernel
theorem dX7_from_121 : decode cX7_from 121 = .ok (.iload_n 2, 1) := by decide +kernel
theorem dX7_from_122 : decode cX7_from 122 = .ok (.invokevirtual 232, 3) := by decide +kernel
theorem dX7_from_125 : decode cX7_from 125 = .ok (.i2l, 1) := by decide +kernel
theorem dX7_from_126 : decode cX7_from 126 = .ok (.invokevirtual 120, 3) := by decide +kernel
theorem dX7_from_129 : decode cX7_from 129 = .ok (.aload_n 0, 1) := by decide +kernel
theorem dX7_from_130 : decode cX7_from 130 = .ok (.getfield 40, 3) := by decide +kernel
theorem dX7_from_133 : decode cX7_from 133 = .ok (.getfield 236, 3) := by decide +kernel
theorem dX7_from_136 : decode cX7_from 136 = .ok (.ireturn, 1) := by decide +kernel
theorem dX7_hidden_0 : decode cX7_hidden 0 = .ok (.iload_n 1, 1) := by decide +kernel
theorem dX7_hidden_1 : decode cX7_hidden 1 = .ok (.invokestatic 195, 3) := by decide +kernel
theorem dX7_hidden_4 : decode cX7_hidden 4 = .ok (.ifCond .ne 5, 3) := by decide +kernel
theorem dX7_hidden_7 : decode cX7_hidden 7 = .ok (.iconst (-1), 1) := by decide +kernel
theorem dX7_hidden_8 : decode cX7_hidden 8 = .ok (.ireturn, 1) := by decide +kernel
theorem dX7_hidden_9 : decode cX7_hidden 9 = .ok (.aload_n 0, 1) := by decide +kernel
theorem dX7_hidden_10 : decode cX7_hidden 10 = .ok (.getfield 40, 3) := by decide +kernel
theorem dX7_hidden_13 : decode cX7_hidden 13 = .ok (.invokevirtual 261, 3) := by decide +kernel
theorem dX7_hidden_16 : decode cX7_hidden 16 = .ok (.aload_n 0, 1) := by decide +kernel
theorem dX7_hidden_17 : decode cX7_hidden 17 = .ok (.getfield 40, 3) := by decide +kernel
theorem dX7_hidden_20 : decode cX7_hidden 20 = .ok (.aload_n 0, 1) := by decide +kernel
theorem dX7_hidden_21 : decode cX7_hidden 21 = .ok (.getfield 26, 3) := by decide +kernel
theorem dX7_hidden_24 : decode cX7_hidden 24 = .ok (.getfield 74, 3) := by decide +kernel
theorem dX7_hidden_27 : decode cX7_hidden 27 = .ok (.iload_n 1, 1) := by decide +kernel
theorem dX7_hidden_28 : decode cX7_hidden 28 = .ok (.invokevirtual 264, 3) := by decide +kernel
theorem dX7_hidden_31 : decode cX7_hidden 31 = .ok (.pop, 1) := by decide +kernel
theorem dX7_hidden_32 : decode cX7_hidden 32 = .ok (.iconst 0, 1) := by decide +kernel
theorem dX7_hidden_33 : decode cX7_hidden 33 = .ok (.istore_n 2, 1) := by decide +kernel
theorem dX7_hidden_34 : decode cX7_hidden 34 = .ok (.iconst (-1), 1) := by decide +kernel
theorem dX7_hidden_35 : decode cX7_hidden 35 = .ok (.istore_n 3, 1) := by decide +kernel
theorem dX7_hidden_36 : decode cX7_hidden 36 = .ok (.iconst 0, 1) := by decide +kernel
theorem dX7_hidden_37 : decode cX7_hidden 37 = .ok (.istore 4, 2) := by decide +kernel
theorem dX7_hidden_39 : decode cX7_hidden 39 = .ok (.iload 4, 2) := by decide +kernel
theorem dX7_hidden_41 : decode cX7_hidden 41 = .ok (.aload_n 0, 1) := by decide +kernel
theorem dX7_hidden_42 : decode cX7_hidden 42 = .ok (.getfield 26, 3) := by decide +kernel
theorem dX7_hidden_45 : decode cX7_hidden 45 = .ok (.getfield 74, 3) := by decide +kernel
theorem dX7_hidden_48 : decode cX7_hidden 48 = .ok (.invokevirtual 189, 3) := by decide +kernel
theorem dX7_hidden_51 : decode cX7_hidden 51 = .ok (.if_icmp .ge 51, 3) := by decide +kernel
theorem dX7_hidden_54 : decode cX7_hidden 54 = .ok (.aload_n 0, 1) := by decide +kernel
theorem dX7_hidden_55 : decode cX7_hidden 55 = .ok (.getfield 26, 3) := by decide +kernel
theorem dX7_hidden_58 : decode cX7_hidden 58 = .ok (.getfield 74, 3) := by decide +kernel
theorem dX7_hidden_61 : decode cX7_hidden 61 = .ok (.iload 4, 2) := by decide +kernel
theorem dX7_hidden_63 : decode cX7_hidden 63 = .ok (.invokevirtual 159, 3) := by decide +kernel
theorem dX7_hidden_66 : decode cX7_hidden 66 = .ok (.ifCond .eq 30, 3) := by decide +kernel
theorem dX7_hidden_69 : decode cX7_hidden 69 = .ok (.aload_n 0, 1) := by decide +kernel
theorem dX7_hidden_70 : decode cX7_hidden 70 = .ok (.getfield 40, 3) := by decide +kernel
theorem dX7_hidden_73 : decode cX7_hidden 73 = .ok (.iload 4, 2) := by decide +kernel
theorem dX7_hidden_75 : decode cX7_hidden 75 = .ok (.invokevirtual 267, 3) := by decide +kernel
theorem dX7_hidden_78 : decode cX7_hidden 78 = .ok (.ifCond .ne 18, 3) := by decide +kernel
theorem dX7_hidden_81 : decode cX7_hidden 81 = .ok (.iinc 2 1, 3) := by decide +kernel
theorem dX7_hidden_84 : decode cX7_hidden 84 = .ok (.iload_n 3, 1) := by decide +kernel
theorem dX7_hidden_85 : decode cX7_hidden 85 = .ok (.iconst (-1), 1) := by decide +kernel
theorem dX7_hidden_86 : decode cX7_hidden 86 = .ok (.if_icmp .ne 8, 3) := by decide +kernel
theorem dX7_hidden_89 : decode cX7_hidden 89 = .ok (.iload 4, 2) := by decide +kernel
theorem dX7_hidden_91 : decode cX7_hidden 91 = .ok (.goto 4, 3) := by decide +kernel
theorem dX7_hidden_94 : decode cX7_hidden 94 = .ok (.iload_n 3, 1) := by decide +kernel
theorem dX7_hidden_95 : decode cX7_hidden 95 = .ok (.istore_n 3, 1) := by decide +kernel
theorem dX7_hidden_96 : decode cX7_hidden 96 = .ok (.iinc 4 1, 3) := by decide +kernel
theorem dX7_hidden_99 : decode cX7_hidden 99 = .ok (.goto (-60), 3) := by decide +kernel
theorem dX7_hidden_102 : decode cX7_hidden 102 = .ok (.aload_n 0, 1) := by decide +kernel
theorem dX7_hidden_103 : decode cX7_hidden 103 = .ok (.getfield 19, 3) := by decide +kernel
theorem dX7_hidden_106 : decode cX7_hidden 106 = .ok (.iload_n 3, 1) := by decide +kernel
theorem dX7_hidden_107 : decode cX7_hidden 107 = .ok (.i2l, 1) := by decide +kernel
theorem dX7_hidden_108 : decode cX7_hidden 108 = .ok (.invokevirtual 186, 3) := by decide +kernel
theorem dX7_hidden_111 : decode cX7_hidden 111 = .ok (.iload_n 2, 1) := by decide +kernel
theorem dX7_hidden_112 : decode cX7_hidden 112 = .ok (.ireturn, 1) := by decide +kernel
theorem dX7_longest_0 : decode cX7_longest 0 = .ok (.iload_n 1, 1) := by decide +kernel
theorem dX7_longest_1 : decode cX7_longest 1 = .ok (.invokestatic 195, 3) := by decide +kernel
theorem dX7_longest_4 : decode cX7_longest 4 = .ok (.ifCond .ne 5, 3) := by decide +kernel
theorem dX7_longest_7 : decode cX7_longest 7 = .ok (.iconst (-1), 1) := by decide +kernel
theorem dX7_longest_8 : decode cX7_longest 8 = .ok (.ireturn, 1) := by decide +kernel
theorem dX7_longest_9 : decode cX7_longest 9 = .ok (.aload_n 0, 1) := by decide +kernel
theorem dX7_longest_10 : decode cX7_longest 10 = .ok (.getfield 40, 3) := by decide +kernel
theorem dX7_longest_13 : decode cX7_longest 13 = .ok (.invokevirtual 261, 3) := by decide +kernel
theorem dX7_longest_16 : decode cX7_longest 16 = .ok (.aload_n 0, 1) := by decide +kernel
theorem dX7_longest_17 : decode cX7_longest 17 = .ok (.getfield 40, 3) := by decide +kernel
theorem dX7_longest_20 : decode cX7_longest 20 = .ok (.aload_n 0, 1) := by decide +kernel
theorem dX7_longest_21 : decode cX7_longest 21 = .ok (.getfield 26, 3) := by decide +kernel
theorem dX7_longest_24 : decode cX7_longest 24 = .ok (.getfield 74, 3) := by decide +kernel
theorem dX7_longest_27 : decode cX7_longest 27 = .ok (.iload_n 1, 1) := by decide +kernel
theorem dX7_longest_28 : decode cX7_longest 28 = .ok (.invokevirtual 264, 3) := by decide +kernel
theorem dX7_longest_31 : decode cX7_longest 31 = .ok (.istore_n 2, 1) := by decide +kernel
theorem dX7_longest_32 : decode cX7_longest 32 = .ok (.iload_n 2, 1) := by decide +kernel
theorem dX7_longest_33 : decode cX7_longest 33 = .ok (.iconst (-1), 1) := by decide +kernel
theorem dX7_longest_34 : decode cX7_longest 34 = .ok (.if_icmp .ne 6, 3) := by decide +kernel
theorem dX7_longest_37 : decode cX7_longest 37 = .ok (.bipush (-2), 2) := by decide +kernel
theorem dX7_longest_39 : decode cX7_longest 39 = .ok (.ireturn, 1) := by decide +kernel
theorem dX7_longest_40 : decode cX7_longest 40 = .ok (.iconst 0, 1) := by decide +kernel
theorem dX7_longest_41 : decode cX7_longest 41 = .ok (.istore_n 3, 1) := by decide +kernel
theorem dX7_longest_42 : decode cX7_longest 42 = .ok (.iconst 0, 1) := by decide +kernel
theorem dX7_longest_43 : decode cX7_longest 43 = .ok (.istore 4, 2) := by decide +kernel
theorem dX7_longest_45 : decode cX7_longest 45 = .ok (.iload 4, 2) := by decide +kernel
theorem dX7_longest_47 : decode cX7_longest 47 = .ok (.aload_n 0, 1) := by decide +kernel
theorem dX7_longest_48 : decode cX7_longest 48 = .ok (.getfield 26, 3) := by decide +kernel
theorem dX7_longest_51 : decode cX7_longest 51 = .ok (.getfield 74, 3) := by decide +kernel
theorem dX7_longest_54 : decode cX7_longest 54 = .ok (.invokevirtual 189, 3) := by decide +kernel
theorem dX7_longest_57 : decode cX7_longest 57 = .ok (.if_icmp .ge 44, 3) := by decide +kernel
theorem dX7_longest_60 : decode cX7_longest 60 = .ok (.iload_n 3, 1) := by decide +kernel
theorem dX7_longest_61 : decode cX7_longest 61 = .ok (.aload_n 0, 1) := by decide +kernel
theorem dX7_longest_62 : decode cX7_longest 62 = .ok (.getfield 26, 3) := by decide +kernel
theorem dX7_longest_65 : decode cX7_longest 65 = .ok (.getfield 74, 3) := by decide +kernel
theorem dX7_longest_68 : decode cX7_longest 68 = .ok (.iload 4, 2) := by decide +kernel
theorem dX7_longest_70 : decode cX7_longest 70 = .ok (.invokevirtual 156, 3) := by decide +kernel
theorem dX7_longest_73 : decode cX7_longest 73 = .ok (.ifCond .eq 19, 3) := by decide +kernel
theorem dX7_longest_76 : decode cX7_longest 76 = .ok (.aload_n 0, 1) := by decide +kernel
theorem dX7_longest_77 : decode cX7_longest 77 = .ok (.getfield 40, 3) := by decide +kernel
theorem dX7_longest_80 : decode cX7_longest 80 = .ok (.iload 4, 2) := by decide +kernel
theorem dX7_longest_82 : decode cX7_longest 82 = .ok (.invokevirtual 267, 3) := by decide +kernel
theorem dX7_longest_85 : decode cX7_longest 85 = .ok (.ifCond .ne 7, 3) := by decide +kernel
theorem dX7_longest_88 : decode cX7_longest 88 = .ok (.iconst 1, 1) := by decide +kernel
theorem dX7_longest_89 : decode cX7_longest 89 = .ok (.goto 4, 3) := by decide +kernel
theorem dX7_longest_92 : decode cX7_longest 92 = .ok (.iconst 0, 1) := by decide +kernel
theorem dX7_longest_93 : decode cX7_longest 93 = .ok (.iadd, 1) := by decide +kernel
theorem dX7_longest_94 : decode cX7_longest 94 = .ok (.istore_n 3, 1) := by decide +kernel
theorem dX7_longest_95 : decode cX7_longest 95 = .ok (.iinc 4 1, 3) := by decide +kernel
theorem dX7_longest_98 : decode cX7_longest 98 = .ok (.goto (-53), 3) := by decide +kernel
theorem dX7_longest_101 : decode cX7_longest 101 = .ok (.aload_n 0, 1) := by decide +kernel
theorem dX7_longest_102 : decode cX7_longest 102 = .ok (.getfield 19, 3) := by decide +kernel
theorem dX7_longest_105 : decode cX7_longest 105 = .ok (.aload_n 0, 1) := by decide +kernel
theorem dX7_longest_106 : decode cX7_longest 106 = .ok (.getfield 40, 3) := by decide +kernel
theorem dX7_longest_109 : decode cX7_longest 109 = .ok (.getfield 270, 3) := by decide +kernel
theorem dX7_longest_112 : decode cX7_longest 112 = .ok (.i2l, 1) := by decide +kernel
theorem dX7_longest_113 : decode cX7_longest 113 = .ok (.iload_n 3, 1) := by decide +kernel
theorem dX7_longest_114 : decode cX7_longest 114 = .ok (.i2l, 1) := by decide +kernel
theorem dX7_longest_115 : decode cX7_longest 115 = .ok (.invokevirtual 120, 3) := by decide +kernel
theorem dX7_longest_118 : decode cX7_longest 118 = .ok (.iload_n 2, 1) := by decide +kernel
theorem dX7_longest_119 : decode cX7_longest 119 = .ok (.ireturn, 1) := by decide +kernel
theorem dX7_crossed_0 : decode cX7_crossed 0 = .ok (.aload_n 0, 1) := by decide +kernel
theorem dX7_crossed_1 : decode cX7_crossed 1 = .ok (.getfield 40, 3) := by decide +kernel
theorem dX7_crossed_4 : decode cX7_crossed 4 = .ok (.invokevirtual 261, 3) := by decide +kernel
theorem dX7_crossed_7 : decode cX7_crossed 7 = .ok (.iconst 0, 1) := by decide +kernel
theorem dX7_crossed_8 : decode cX7_crossed 8 = .ok (.istore_n 1, 1) := by decide +kernel
theorem dX7_crossed_9 : decode cX7_crossed 9 = .ok (.iload_n 1, 1) := by decide +kernel
theorem dX7_crossed_10 : decode cX7_crossed 10 = .ok (.iconst 3, 1) := by decide +kernel
theorem dX7_crossed_11 : decode cX7_crossed 11 = .ok (.if_icmp .ge 25, 3) := by decide +kernel
theorem dX7_crossed_14 : decode cX7_crossed 14 = .ok (.aload_n 0, 1) := by decide +kernel
theorem dX7_crossed_15 : decode cX7_crossed 15 = .ok (.getfield 40, 3) := by decide +kernel
theorem dX7_crossed_18 : decode cX7_crossed 18 = .ok (.aload_n 0, 1) := by decide +kernel
theorem dX7_crossed_19 : decode cX7_crossed 19 = .ok (.getfield 26, 3) := by decide +kernel
theorem dX7_crossed_22 : decode cX7_crossed 22 = .ok (.getfield 74, 3) := by decide +kernel
theorem dX7_crossed_25 : decode cX7_crossed 25 = .ok (.iload_n 1, 1) := by decide +kernel
theorem dX7_crossed_26 : decode cX7_crossed 26 = .ok (.invokevirtual 264, 3) := by decide +kernel
theorem dX7_crossed_29 : decode cX7_crossed 29 = .ok (.pop, 1) := by decide +kernel
theorem dX7_crossed_30 : decode cX7_crossed 30 = .ok (.iinc 1 1, 3) := by decide +kernel
theorem dX7_crossed_33 : decode cX7_crossed 33 = .ok (.goto (-24), 3) := by decide +kernel
theorem dX7_crossed_36 : decode cX7_crossed 36 = .ok (.iconst 0, 1) := by decide +kernel
theorem dX7_crossed_37 : decode cX7_crossed 37 = .ok (.istore_n 1, 1) := by decide +kernel
theorem dX7_crossed_38 : decode cX7_crossed 38 = .ok (.iconst 0, 1) := by decide +kernel
theorem dX7_crossed_39 : decode cX7_crossed 39 = .ok (.istore_n 2, 1) := by decide +kernel
theorem dX7_crossed_40 : decode cX7_crossed 40 = .ok (.iconst 0, 1) := by decide +kernel
theorem dX7_crossed_41 : decode cX7_crossed 41 = .ok (.istore_n 3, 1) := by decide +kernel
theorem dX7_crossed_42 : decode cX7_crossed 42 = .ok (.iload_n 3, 1) := by decide +kernel
theorem dX7_crossed_43 : decode cX7_crossed 43 = .ok (.aload_n 0, 1) := by decide +kernel
theorem dX7_crossed_44 : decode cX7_crossed 44 = .ok (.getfield 26, 3) := by decide +kernel
theorem dX7_crossed_47 : decode cX7_crossed 47 = .ok (.getfield 74, 3) := by decide +kernel
theorem dX7_crossed_50 : decode cX7_crossed 50 = .ok (.invokevirtual 189, 3) := by decide +kernel
theorem dX7_crossed_53 : decode cX7_crossed 53 = .ok (.if_icmp .ge 47, 3) := by decide +kernel
theorem dX7_crossed_56 : decode cX7_crossed 56 = .ok (.aload_n 0, 1) := by decide +kernel
theorem dX7_crossed_57 : decode cX7_crossed 57 = .ok (.getfield 40, 3) := by decide +kernel
theorem dX7_crossed_60 : decode cX7_crossed 60 = .ok (.iload_n 3, 1) := by decide +kernel
theorem dX7_crossed_61 : decode cX7_crossed 61 = .ok (.invokevirtual 267, 3) := by decide +kernel
theorem dX7_crossed_64 : decode cX7_crossed 64 = .ok (.bipush 7, 2) := by decide +kernel
theorem dX7_crossed_66 : decode cX7_crossed 66 = .ok (.if_icmp .ne 28, 3) := by decide +kernel
theorem dX7_crossed_69 : decode cX7_crossed 69 = .ok (.iinc 1 1, 3) := by decide +kernel
theorem dX7_crossed_72 : decode cX7_crossed 72 = .ok (.iload_n 2, 1) := by decide +kernel
theorem dX7_crossed_73 : decode cX7_crossed 73 = .ok (.aload_n 0, 1) := by decide +kernel
theorem dX7_crossed_74 : decode cX7_crossed 74 = .ok (.getfield 26, 3) := by decide +kernel
theorem dX7_crossed_77 : decode cX7_crossed 77 = .ok (.getfield 74, 3) := by decide +kernel
theorem dX7_crossed_80 : decode cX7_crossed 80 = .ok (.iload_n 3, 1) := by decide +kernel
theorem dX7_crossed_81 : decode cX7_crossed 81 = .ok (.invokevirtual 159, 3) := by decide +kernel
theorem dX7_crossed_84 : decode cX7_crossed 84 = .ok (.ifCond .ne 7, 3) := by decide +kernel
theorem dX7_crossed_87 : decode cX7_crossed 87 = .ok (.iconst 0, 1) := by decide +kernel
theorem dX7_crossed_88 : decode cX7_crossed 88 = .ok (.goto 4, 3) := by decide +kernel
theorem dX7_crossed_91 : decode cX7_crossed 91 = .ok (.iconst 1, 1) := by decide +kernel
theorem dX7_crossed_92 : decode cX7_crossed 92 = .ok (.iadd, 1) := by decide +kernel
theorem dX7_crossed_93 : decode cX7_crossed 93 = .ok (.istore_n 2, 1) := by decide +kernel
theorem dX7_crossed_94 : decode cX7_crossed 94 = .ok (.iinc 3 1, 3) := by decide +kernel
theorem dX7_crossed_97 : decode cX7_crossed 97 = .ok (.goto (-55), 3) := by decide +kernel
theorem dX7_crossed_100 : decode cX7_crossed 100 = .ok (.aload_n 0, 1) := by decide +kernel
theorem dX7_crossed_101 : decode cX7_crossed 101 = .ok (.getfield 19, 3) := by decide +kernel
theorem dX7_crossed_104 : decode cX7_crossed 104 = .ok (.iload_n 2, 1) := by decide +kernel
theorem dX7_crossed_105 : decode cX7_crossed 105 = .ok (.i2l, 1) := by decide +kernel
theorem dX7_crossed_106 : decode cX7_crossed 106 = .ok (.invokevirtual 186, 3) := by decide +kernel
theorem dX7_crossed_109 : decode cX7_crossed 109 = .ok (.iload_n 1, 1) := by decide +kernel
theorem dX7_crossed_110 : decode cX7_crossed 110 = .ok (.ireturn, 1) := by decide +kernel
theorem dX7_leads_0 : decode cX7_leads 0 = .ok (.aload_n 0, 1) := by decide +kernel
theorem dX7_leads_1 : decode cX7_leads 1 = .ok (.getfield 26, 3) := by decide +kernel
theorem dX7_leads_4 : decode cX7_leads 4 = .ok (.getfield 74, 3) := by decide +kernel
theorem dX7_leads_7 : decode cX7_leads 7 = .ok (.astore 4, 2) := by decide +kernel
theorem dX7_leads_9 : decode cX7_leads 9 = .ok (.aload 4, 2) := by decide +kernel
theorem dX7_leads_11 : decode cX7_leads 11 = .ok (.iload_n 1, 1) := by decide +kernel
theorem dX7_leads_12 : decode cX7_leads 12 = .ok (.invokevirtual 156, 3) := by decide +kernel
theorem dX7_leads_15 : decode cX7_leads 15 = .ok (.ifCond .eq 19, 3) := by decide +kernel
theorem dX7_leads_18 : decode cX7_leads 18 = .ok (.aload 4, 2) := by decide +kernel
theorem dX7_leads_20 : decode cX7_leads 20 = .ok (.iload_n 2, 1) := by decide +kernel
theorem dX7_leads_21 : decode cX7_leads 21 = .ok (.invokevirtual 156, 3) := by decide +kernel
theorem dX7_leads_24 : decode cX7_leads 24 = .ok (.ifCond .eq 10, 3) := by decide +kernel
theorem dX7_leads_27 : decode cX7_leads 27 = .ok (.iload_n 3, 1) := by decide +kernel
theorem dX7_leads_28 : decode cX7_leads 28 = .ok (.invokestatic 195, 3) := by decide +kernel
theorem dX7_leads_31 : decode cX7_leads 31 = .ok (.ifCond .ne 5, 3) := by decide +kernel
theorem dX7_leads_34 : decode cX7_leads 34 = .ok (.iconst (-1), 1) := by decide +kernel
theorem dX7_leads_35 : decode cX7_leads 35 = .ok (.ireturn, 1) := by decide +kernel
theorem dX7_leads_36 : decode cX7_leads 36 = .ok (.iload_n 1, 1) := by decide +kernel
theorem dX7_leads_37 : decode cX7_leads 37 = .ok (.iload_n 2, 1) := by decide +kernel
theorem dX7_leads_38 : decode cX7_leads 38 = .ok (.if_icmp .ne 5, 3) := by decide +kernel
theorem dX7_leads_41 : decode cX7_leads 41 = .ok (.iconst 1, 1) := by decide +kernel
theorem dX7_leads_42 : decode cX7_leads 42 = .ok (.ireturn, 1) := by decide +kernel
theorem dX7_leads_43 : decode cX7_leads 43 = .ok (.bipush (-2), 2) := by decide +kernel
theorem dX7_leads_45 : decode cX7_leads 45 = .ok (.istore 5, 2) := by decide +kernel
theorem dX7_leads_47 : decode cX7_leads 47 = .ok (.iconst 0, 1) := by decide +kernel
theorem dX7_leads_48 : decode cX7_leads 48 = .ok (.istore 6, 2) := by decide +kernel
theorem dX7_leads_50 : decode cX7_leads 50 = .ok (.iload 6, 2) := by decide +kernel
theorem dX7_leads_52 : decode cX7_leads 52 = .ok (.iconst 3, 1) := by decide +kernel
theorem dX7_leads_53 : decode cX7_leads 53 = .ok (.if_icmp .ge 65, 3) := by decide +kernel
theorem dX7_leads_56 : decode cX7_leads 56 = .ok (.aload_n 0, 1) := by decide +kernel
theorem dX7_leads_57 : decode cX7_leads 57 = .ok (.getfield 40, 3) := by decide +kernel
theorem dX7_leads_60 : decode cX7_leads 60 = .ok (.aload 4, 2) := by decide +kernel
theorem dX7_leads_62 : decode cX7_leads 62 = .ok (.iload_n 1, 1) := by decide +kernel
theorem dX7_leads_63 : decode cX7_leads 63 = .ok (.iload 6, 2) := by decide +kernel
theorem dX7_leads_65 : decode cX7_leads 65 = .ok (.iload_n 3, 1) := by decide +kernel
theorem dX7_leads_66 : decode cX7_leads 66 = .ok (.invokevirtual 217, 3) := by decide +kernel
theorem dX7_leads_69 : decode cX7_leads 69 = .ok (.ifCond .eq 43, 3) := by decide +kernel
theorem dX7_leads_72 : decode cX7_leads 72 = .ok (.aload_n 0, 1) := by decide +kernel
theorem dX7_leads_73 : decode cX7_leads 73 = .ok (.getfield 40, 3) := by decide +kernel
theorem dX7_leads_76 : decode cX7_leads 76 = .ok (.aload 4, 2) := by decide +kernel
theorem dX7_leads_78 : decode cX7_leads 78 = .ok (.iload_n 3, 1) := by decide +kernel
theorem dX7_leads_79 : decode cX7_leads 79 = .ok (.iload_n 1, 1) := by decide +kernel
theorem dX7_leads_80 : decode cX7_leads 80 = .ok (.iload 6, 2) := by decide +kernel
theorem dX7_leads_82 : decode cX7_leads 82 = .ok (.iload_n 2, 1) := by decide +kernel
theorem dX7_leads_83 : decode cX7_leads 83 = .ok (.invokevirtual 273, 3) := by decide +kernel
theorem dX7_leads_86 : decode cX7_leads 86 = .ok (.istore 7, 2) := by decide +kernel
theorem dX7_leads_88 : decode cX7_leads 88 = .ok (.iload 7, 2) := by decide +kernel
theorem dX7_leads_90 : decode cX7_leads 90 = .ok (.iconst (-1), 1) := by decide +kernel
theorem dX7_leads_91 : decode cX7_leads 91 = .ok (.if_icmp .eq 21, 3) := by decide +kernel
theorem dX7_leads_94 : decode cX7_leads 94 = .ok (.iload 5, 2) := by decide +kernel
theorem dX7_leads_96 : decode cX7_leads 96 = .ok (.bipush (-2), 2) := by decide +kernel
theorem dX7_leads_98 : decode cX7_leads 98 = .ok (.if_icmp .eq 10, 3) := by decide +kernel
theorem dX7_leads_101 : decode cX7_leads 101 = .ok (.iload 7, 2) := by decide +kernel
theorem dX7_leads_103 : decode cX7_leads 103 = .ok (.iload 5, 2) := by decide +kernel
theorem dX7_leads_105 : decode cX7_leads 105 = .ok (.if_icmp .ge 7, 3) := by decide +kernel
theorem dX7_leads_108 : decode cX7_leads 108 = .ok (.iload 7, 2) := by decide +kernel
theorem dX7_leads_110 : decode cX7_leads 110 = .ok (.istore 5, 2) := by decide +kernel
theorem dX7_leads_112 : decode cX7_leads 112 = .ok (.iinc 6 1, 3) := by decide +kernel
theorem dX7_leads_115 : decode cX7_leads 115 = .ok (.goto (-65), 3) := by decide +kernel
theorem dX7_leads_118 : decode cX7_leads 118 = .ok (.iload 5, 2) := by decide +kernel
theorem dX7_leads_120 : decode cX7_leads 120 = .ok (.ireturn, 1) := by decide +kernel
theorem dX7_finer_0 : decode cX7_finer 0 = .ok (.iload_n 1, 1) := by decide +kernel
theorem dX7_finer_1 : decode cX7_finer 1 = .ok (.invokestatic 277, 3) := by decide +kernel
theorem dX7_finer_4 : decode cX7_finer 4 = .ok (.ifCond .ne 5, 3) := by decide +kernel
theorem dX7_finer_7 : decode cX7_finer 7 = .ok (.iconst (-1), 1) := by decide +kernel
theorem dX7_finer_8 : decode cX7_finer 8 = .ok (.ireturn, 1) := by decide +kernel
theorem dX7_finer_9 : decode cX7_finer 9 = .ok (.aload_n 0, 1) := by decide +kernel
theorem dX7_finer_10 : decode cX7_finer 10 = .ok (.getfield 26, 3) := by decide +kernel
theorem dX7_finer_13 : decode cX7_finer 13 = .ok (.getfield 81, 3) := by decide +kernel
theorem dX7_finer_16 : decode cX7_finer 16 = .ok (.getfield 85, 3) := by decide +kernel
theorem dX7_finer_19 : decode cX7_finer 19 = .ok (.ifCond .ne 6, 3) := by decide +kernel
theorem dX7_finer_22 : decode cX7_finer 22 = .ok (.bipush (-3), 2) := by decide +kernel
theorem dX7_finer_24 : decode cX7_finer 24 = .ok (.ireturn, 1) := by decide +kernel
theorem dX7_finer_25 : decode cX7_finer 25 = .ok (.aload_n 0, 1) := by decide +kernel
theorem dX7_finer_26 : decode cX7_finer 26 = .ok (.iload_n 1, 1) := by decide +kernel
theorem dX7_finer_27 : decode cX7_finer 27 = .ok (.invokevirtual 280, 3) := by decide +kernel
theorem dX7_finer_30 : decode cX7_finer 30 = .ok (.aload_n 0, 1) := by decide +kernel
theorem dX7_finer_31 : decode cX7_finer 31 = .ok (.getfield 33, 3) := by decide +kernel
theorem dX7_finer_34 : decode cX7_finer 34 = .ok (.invokevirtual 168, 3) := by decide +kernel
theorem dX7_finer_37 : decode cX7_finer 37 = .ok (.aload_n 0, 1) := by decide +kernel
theorem dX7_finer_38 : decode cX7_finer 38 = .ok (.getfield 19, 3) := by decide +kernel
theorem dX7_finer_41 : decode cX7_finer 41 = .ok (.aload_n 0, 1) := by decide +kernel
theorem dX7_finer_42 : decode cX7_finer 42 = .ok (.getfield 33, 3) := by decide +kernel
theorem dX7_finer_45 : decode cX7_finer 45 = .ok (.getfield 171, 3) := by decide +kernel
theorem dX7_finer_48 : decode cX7_finer 48 = .ok (.i2l, 1) := by decide +kernel
theorem dX7_finer_49 : decode cX7_finer 49 = .ok (.aload_n 0, 1) := by decide +kernel
theorem dX7_finer_50 : decode cX7_finer 50 = .ok (.getfield 33, 3) := by decide +kernel
theorem dX7_finer_53 : decode cX7_finer 53 = .ok (.getfield 174, 3) := by decide +kernel
theorem dX7_finer_56 : decode cX7_finer 56 = .ok (.i2l, 1) := by decide +kernel
theorem dX7_finer_57 : decode cX7_finer 57 = .ok (.invokevirtual 120, 3) := by decide +kernel
theorem dX7_finer_60 : decode cX7_finer 60 = .ok (.aload_n 0, 1) := by decide +kernel
theorem dX7_finer_61 : decode cX7_finer 61 = .ok (.getfield 33, 3) := by decide +kernel
theorem dX7_finer_64 : decode cX7_finer 64 = .ok (.getfield 180, 3) := by decide +kernel
theorem dX7_finer_67 : decode cX7_finer 67 = .ok (.ireturn, 1) := by decide +kernel
theorem dX7_within_0 : decode cX7_within 0 = .ok (.aload_n 0, 1) := by decide +kernel
theorem dX7_within_1 : decode cX7_within 1 = .ok (.getfield 26, 3) := by decide +kernel
theorem dX7_within_4 : decode cX7_within 4 = .ok (.getfield 74, 3) := by decide +kernel
theorem dX7_within_7 : decode cX7_within 7 = .ok (.astore_n 2, 1) := by decide +kernel
theorem dX7_within_8 : decode cX7_within 8 = .ok (.aload_n 2, 1) := by decide +kernel
theorem dX7_within_9 : decode cX7_within 9 = .ok (.iload_n 1, 1) := by decide +kernel
theorem dX7_within_10 : decode cX7_within 10 = .ok (.invokevirtual 156, 3) := by decide +kernel
theorem dX7_within_13 : decode cX7_within 13 = .ok (.ifCond .ne 5, 3) := by decide +kernel
theorem dX7_within_16 : decode cX7_within 16 = .ok (.iconst (-1), 1) := by decide +kernel
theorem dX7_within_17 : decode cX7_within 17 = .ok (.ireturn, 1) := by decide +kernel
theorem dX7_within_18 : decode cX7_within 18 = .ok (.aload_n 0, 1) := by decide +kernel
theorem dX7_within_19 : decode cX7_within 19 = .ok (.getfield 26, 3) := by decide +kernel
theorem dX7_within_22 : decode cX7_within 22 = .ok (.getfield 81, 3) := by decide +kernel
theorem dX7_within_25 : decode cX7_within 25 = .ok (.getfield 85, 3) := by decide +kernel
theorem dX7_within_28 : decode cX7_within 28 = .ok (.ifCond .ne 6, 3) := by decide +kernel
theorem dX7_within_31 : decode cX7_within 31 = .ok (.bipush (-3), 2) := by decide +kernel
theorem dX7_within_33 : decode cX7_within 33 = .ok (.ireturn, 1) := by decide +kernel
theorem dX7_within_34 : decode cX7_within 34 = .ok (.iconst 2, 1) := by decide +kernel
theorem dX7_within_35 : decode cX7_within 35 = .ok (.aload_n 2, 1) := by decide +kernel
theorem dX7_within_36 : decode cX7_within 36 = .ok (.getfield 198, 3) := by decide +kernel
theorem dX7_within_39 : decode cX7_within 39 = .ok (.imul, 1) := by decide +kernel
theorem dX7_within_40 : decode cX7_within 40 = .ok (.bipush 16, 2) := by decide +kernel
theorem dX7_within_42 : decode cX7_within 42 = .ok (.if_icmp .le 6, 3) := by decide +kernel
theorem dX7_within_45 : decode cX7_within 45 = .ok (.bipush (-4), 2) := by decide +kernel
theorem dX7_within_47 : decode cX7_within 47 = .ok (.ireturn, 1) := by decide +kernel
theorem dX7_within_48 : decode cX7_within 48 = .ok (.aload_n 0, 1) := by decide +kernel
theorem dX7_within_49 : decode cX7_within 49 = .ok (.iconst 2, 1) := by decide +kernel
theorem dX7_within_50 : decode cX7_within 50 = .ok (.aload_n 2, 1) := by decide +kernel
theorem dX7_within_51 : decode cX7_within 51 = .ok (.getfield 198, 3) := by decide +kernel
theorem dX7_within_54 : decode cX7_within 54 = .ok (.imul, 1) := by decide +kernel
theorem dX7_within_55 : decode cX7_within 55 = .ok (.invokevirtual 280, 3) := by decide +kernel
theorem dX7_within_58 : decode cX7_within 58 = .ok (.iconst 2, 1) := by decide +kernel
theorem dX7_within_59 : decode cX7_within 59 = .ok (.aload_n 2, 1) := by decide +kernel
theorem dX7_within_60 : decode cX7_within 60 = .ok (.iload_n 1, 1) := by decide +kernel
theorem dX7_within_61 : decode cX7_within 61 = .ok (.invokevirtual 284, 3) := by decide +kernel
theorem dX7_within_64 : decode cX7_within 64 = .ok (.imul, 1) := by decide +kernel
theorem dX7_within_65 : decode cX7_within 65 = .ok (.istore_n 3, 1) := by decide +kernel
theorem dX7_within_66 : decode cX7_within 66 = .ok (.iconst 2, 1) := by decide +kernel
theorem dX7_within_67 : decode cX7_within 67 = .ok (.aload_n 2, 1) := by decide +kernel
theorem dX7_within_68 : decode cX7_within 68 = .ok (.iload_n 1, 1) := by decide +kernel
theorem dX7_within_69 : decode cX7_within 69 = .ok (.invokevirtual 287, 3) := by decide +kernel
theorem dX7_within_72 : decode cX7_within 72 = .ok (.imul, 1) := by decide +kernel
theorem dX7_within_73 : decode cX7_within 73 = .ok (.istore 4, 2) := by decide +kernel
theorem dX7_within_75 : decode cX7_within 75 = .ok (.iload_n 1, 1) := by decide +kernel
theorem dX7_within_76 : decode cX7_within 76 = .ok (.iconst 1, 1) := by decide +kernel
theorem dX7_within_77 : decode cX7_within 77 = .ok (.iand, 1) := by decide +kernel
theorem dX7_within_78 : decode cX7_within 78 = .ok (.ifCond .ne 65, 3) := by decide +kernel
theorem dX7_within_81 : decode cX7_within 81 = .ok (.aload_n 0, 1) := by decide +kernel
theorem dX7_within_82 : decode cX7_within 82 = .ok (.getfield 19, 3) := by decide +kernel
theorem dX7_within_85 : decode cX7_within 85 = .ok (.aload_n 0, 1) := by decide +kernel
theorem dX7_within_86 : decode cX7_within 86 = .ok (.getfield 33, 3) := by decide +kernel
theorem dX7_within_89 : decode cX7_within 89 = .ok (.iload_n 3, 1) := by decide +kernel
theorem dX7_within_90 : decode cX7_within 90 = .ok (.iload 4, 2) := by decide +kernel
theorem dX7_within_92 : decode cX7_within 92 = .ok (.iconst 0, 1) := by decide +kernel
theorem dX7_within_93 : decode cX7_within 93 = .ok (.invokevirtual 290, 3) := by decide +kernel
theorem dX7_within_96 : decode cX7_within 96 = .ok (.i2l, 1) := by decide +kernel
theorem dX7_within_97 : decode cX7_within 97 = .ok (.aload_n 0, 1) := by decide +kernel
theorem dX7_within_98 : decode cX7_within 98 = .ok (.getfield 33, 3) := by decide +kernel
theorem dX7_within_101 : decode cX7_within 101 = .ok (.iload_n 3, 1) := by decide +kernel
theorem dX7_within_102 : decode cX7_within 102 = .ok (.iload 4, 2) := by decide +kernel
theorem dX7_within_104 : decode cX7_within 104 = .ok (.iconst 1, 1) := by decide +kernel
theorem dX7_within_105 : decode cX7_within 105 = .ok (.invokevirtual 290, 3) := by decide +kernel
theorem dX7_within_108 : decode cX7_within 108 = .ok (.i2l, 1) := by decide +kernel
theorem dX7_within_109 : decode cX7_within 109 = .ok (.aload_n 0, 1) := by decide +kernel
theorem dX7_within_110 : decode cX7_within 110 = .ok (.getfield 33, 3) := by decide +kernel
theorem dX7_within_113 : decode cX7_within 113 = .ok (.iload_n 3, 1) := by decide +kernel
theorem dX7_within_114 : decode cX7_within 114 = .ok (.iload 4, 2) := by decide +kernel
theorem dX7_within_116 : decode cX7_within 116 = .ok (.iconst 1, 1) := by decide +kernel
theorem dX7_within_117 : decode cX7_within 117 = .ok (.iadd, 1) := by decide +kernel
theorem dX7_within_118 : decode cX7_within 118 = .ok (.iconst 0, 1) := by decide +kernel
theorem dX7_within_119 : decode cX7_within 119 = .ok (.invokevirtual 290, 3) := by decide +kernel
theorem dX7_within_122 : decode cX7_within 122 = .ok (.i2l, 1) := by decide +kernel
theorem dX7_within_123 : decode cX7_within 123 = .ok (.aload_n 0, 1) := by decide +kernel
theorem dX7_within_124 : decode cX7_within 124 = .ok (.getfield 33, 3) := by decide +kernel
theorem dX7_within_127 : decode cX7_within 127 = .ok (.iload_n 3, 1) := by decide +kernel
theorem dX7_within_128 : decode cX7_within 128 = .ok (.iconst 1, 1) := by decide +kernel
theorem dX7_within_129 : decode cX7_within 129 = .ok (.iadd, 1) := by decide +kernel
theorem dX7_within_130 : decode cX7_within 130 = .ok (.iload 4, 2) := by decide +kernel
theorem dX7_within_132 : decode cX7_within 132 = .ok (.iconst 0, 1) := by decide +kernel
theorem dX7_within_133 : decode cX7_within 133 = .ok (.invokevirtual 290, 3) := by decide +kernel
theorem dX7_within_136 : decode cX7_within 136 = .ok (.i2l, 1) := by decide +kernel
theorem dX7_within_137 : decode cX7_within 137 = .ok (.invokevirtual 165, 3) := by decide +kernel
theorem dX7_within_140 : decode cX7_within 140 = .ok (.goto 70, 3) := by decide +kernel
theorem dX7_within_143 : decode cX7_within 143 = .ok (.aload_n 0, 1) := by decide +kernel
theorem dX7_within_144 : decode cX7_within 144 = .ok (.getfield 19, 3) := by decide +kernel
theorem dX7_within_147 : decode cX7_within 147 = .ok (.aload_n 0, 1) := by decide +kernel
theorem dX7_within_148 : decode cX7_within 148 = .ok (.getfield 33, 3) := by decide +kernel
theorem dX7_within_151 : decode cX7_within 151 = .ok (.iload_n 3, 1) := by decide +kernel
theorem dX7_within_152 : decode cX7_within 152 = .ok (.iload 4, 2) := by decide +kernel
theorem dX7_within_154 : decode cX7_within 154 = .ok (.iconst 1, 1) := by decide +kernel
theorem dX7_within_155 : decode cX7_within 155 = .ok (.iadd, 1) := by decide +kernel
theorem dX7_within_156 : decode cX7_within 156 = .ok (.iconst 1, 1) := by decide +kernel
theorem dX7_within_157 : decode cX7_within 157 = .ok (.invokevirtual 290, 3) := by decide +kernel
theorem dX7_within_160 : decode cX7_within 160 = .ok (.i2l, 1) := by decide +kernel
theorem dX7_within_161 : decode cX7_within 161 = .ok (.aload_n 0, 1) := by decide +kernel
theorem dX7_within_162 : decode cX7_within 162 = .ok (.getfield 33, 3) := by decide +kernel
theorem dX7_within_165 : decode cX7_within 165 = .ok (.iload_n 3, 1) := by decide +kernel
theorem dX7_within_166 : decode cX7_within 166 = .ok (.iconst 1, 1) := by decide +kernel
theorem dX7_within_167 : decode cX7_within 167 = .ok (.iadd, 1) := by decide +kernel
theorem dX7_within_168 : decode cX7_within 168 = .ok (.iload 4, 2) := by decide +kernel
theorem dX7_within_170 : decode cX7_within 170 = .ok (.iconst 1, 1) := by decide +kernel
theorem dX7_within_171 : decode cX7_within 171 = .ok (.invokevirtual 290, 3) := by decide +kernel
theorem dX7_within_174 : decode cX7_within 174 = .ok (.i2l, 1) := by decide +kernel
theorem dX7_within_175 : decode cX7_within 175 = .ok (.aload_n 0, 1) := by decide +kernel
theorem dX7_within_176 : decode cX7_within 176 = .ok (.getfield 33, 3) := by decide +kernel
theorem dX7_within_179 : decode cX7_within 179 = .ok (.iload_n 3, 1) := by decide +kernel
theorem dX7_within_180 : decode cX7_within 180 = .ok (.iconst 1, 1) := by decide +kernel
theorem dX7_within_181 : decode cX7_within 181 = .ok (.iadd, 1) := by decide +kernel
theorem dX7_within_182 : decode cX7_within 182 = .ok (.iload 4, 2) := by decide +kernel
theorem dX7_within_184 : decode cX7_within 184 = .ok (.iconst 1, 1) := by decide +kernel
theorem dX7_within_185 : decode cX7_within 185 = .ok (.iadd, 1) := by decide +kernel
theorem dX7_within_186 : decode cX7_within 186 = .ok (.iconst 0, 1) := by decide +kernel
theorem dX7_within_187 : decode cX7_within 187 = .ok (.invokevirtual 290, 3) := by decide +kernel
theorem dX7_within_190 : decode cX7_within 190 = .ok (.i2l, 1) := by decide +kernel
theorem dX7_within_191 : decode cX7_within 191 = .ok (.aload_n 0, 1) := by decide +kernel
theorem dX7_within_192 : decode cX7_within 192 = .ok (.getfield 33, 3) := by decide +kernel
theorem dX7_within_195 : decode cX7_within 195 = .ok (.iload_n 3, 1) := by decide +kernel
theorem dX7_within_196 : decode cX7_within 196 = .ok (.iconst 1, 1) := by decide +kernel
theorem dX7_within_197 : decode cX7_within 197 = .ok (.iadd, 1) := by decide +kernel
theorem dX7_within_198 : decode cX7_within 198 = .ok (.iload 4, 2) := by decide +kernel
theorem dX7_within_200 : decode cX7_within 200 = .ok (.iconst 1, 1) := by decide +kernel
theorem dX7_within_201 : decode cX7_within 201 = .ok (.iadd, 1) := by decide +kernel
theorem dX7_within_202 : decode cX7_within 202 = .ok (.iconst 1, 1) := by decide +kernel
theorem dX7_within_203 : decode cX7_within 203 = .ok (.invokevirtual 290, 3) := by decide +kernel
theorem dX7_within_206 : decode cX7_within 206 = .ok (.i2l, 1) := by decide +kernel
theorem dX7_within_207 : decode cX7_within 207 = .ok (.invokevirtual 165, 3) := by decide +kernel
theorem dX7_within_210 : decode cX7_within 210 = .ok (.iconst 0, 1) := by decide +kernel
theorem dX7_within_211 : decode cX7_within 211 = .ok (.istore 5, 2) := by decide +kernel
theorem dX7_within_213 : decode cX7_within 213 = .ok (.iconst 0, 1) := by decide +kernel
theorem dX7_within_214 : decode cX7_within 214 = .ok (.istore 6, 2) := by decide +kernel
theorem dX7_within_216 : decode cX7_within 216 = .ok (.iload 6, 2) := by decide +kernel
theorem dX7_within_218 : decode cX7_within 218 = .ok (.aload_n 0, 1) := by decide +kernel
theorem dX7_within_219 : decode cX7_within 219 = .ok (.getfield 19, 3) := by decide +kernel
theorem dX7_within_222 : decode cX7_within 222 = .ok (.getfield 293, 3) := by decide +kernel
theorem dX7_within_225 : decode cX7_within 225 = .ok (.if_icmp .ge 39, 3) := by decide +kernel
theorem dX7_within_228 : decode cX7_within 228 = .ok (.iload 5, 2) := by decide +kernel
theorem dX7_within_230 : decode cX7_within 230 = .ok (.aload_n 0, 1) := by decide +kernel
theorem dX7_within_231 : decode cX7_within 231 = .ok (.getfield 33, 3) := by decide +kernel
theorem dX7_within_234 : decode cX7_within 234 = .ok (.aload_n 0, 1) := by decide +kernel
theorem dX7_within_235 : decode cX7_within 235 = .ok (.getfield 19, 3) := by decide +kernel
theorem dX7_within_238 : decode cX7_within 238 = .ok (.iload 6, 2) := by decide +kernel
theorem dX7_within_240 : decode cX7_within 240 = .ok (.invokevirtual 294, 3) := by decide +kernel
theorem dX7_within_243 : decode cX7_within 243 = .ok (.l2i, 1) := by decide +kernel
theorem dX7_within_244 : decode cX7_within 244 = .ok (.invokevirtual 159, 3) := by decide +kernel
theorem dX7_within_247 : decode cX7_within 247 = .ok (.ifCond .ne 7, 3) := by decide +kernel
theorem dX7_within_250 : decode cX7_within 250 = .ok (.iconst 0, 1) := by decide +kernel
theorem dX7_within_251 : decode cX7_within 251 = .ok (.goto 4, 3) := by decide +kernel
theorem dX7_within_254 : decode cX7_within 254 = .ok (.iconst 1, 1) := by decide +kernel
theorem dX7_within_255 : decode cX7_within 255 = .ok (.iadd, 1) := by decide +kernel
theorem dX7_within_256 : decode cX7_within 256 = .ok (.istore 5, 2) := by decide +kernel
theorem dX7_within_258 : decode cX7_within 258 = .ok (.iinc 6 1, 3) := by decide +kernel
theorem dX7_within_261 : decode cX7_within 261 = .ok (.goto (-45), 3) := by decide +kernel
theorem dX7_within_264 : decode cX7_within 264 = .ok (.iload 5, 2) := by decide +kernel
theorem dX7_within_266 : decode cX7_within 266 = .ok (.ireturn, 1) := by decide +kernel
theorem dX7_inner_0 : decode cX7_inner 0 = .ok (.aload_n 0, 1) := by decide +kernel
theorem dX7_inner_1 : decode cX7_inner 1 = .ok (.getfield 26, 3) := by decide +kernel
theorem dX7_inner_4 : decode cX7_inner 4 = .ok (.getfield 81, 3) := by decide +kernel
theorem dX7_inner_7 : decode cX7_inner 7 = .ok (.getfield 85, 3) := by decide +kernel
theorem dX7_inner_10 : decode cX7_inner 10 = .ok (.ifCond .ne 6, 3) := by decide +kernel
theorem dX7_inner_13 : decode cX7_inner 13 = .ok (.bipush (-3), 2) := by decide +kernel
theorem dX7_inner_15 : decode cX7_inner 15 = .ok (.ireturn, 1) := by decide +kernel
theorem dX7_inner_16 : decode cX7_inner 16 = .ok (.aload_n 0, 1) := by decide +kernel
theorem dX7_inner_17 : decode cX7_inner 17 = .ok (.getfield 26, 3) := by decide +kernel
theorem dX7_inner_20 : decode cX7_inner 20 = .ok (.getfield 74, 3) := by decide +kernel
theorem dX7_inner_23 : decode cX7_inner 23 = .ok (.getfield 198, 3) := by decide +kernel
theorem dX7_inner_26 : decode cX7_inner 26 = .ok (.istore_n 1, 1) := by decide +kernel
theorem dX7_inner_27 : decode cX7_inner 27 = .ok (.iload_n 1, 1) := by decide +kernel
theorem dX7_inner_28 : decode cX7_inner 28 = .ok (.bipush 16, 2) := by decide +kernel
theorem dX7_inner_30 : decode cX7_inner 30 = .ok (.if_icmp .gt 66, 3) := by decide +kernel
theorem dX7_inner_33 : decode cX7_inner 33 = .ok (.aload_n 0, 1) := by decide +kernel
theorem dX7_inner_34 : decode cX7_inner 34 = .ok (.iload_n 1, 1) := by decide +kernel
theorem dX7_inner_35 : decode cX7_inner 35 = .ok (.invokevirtual 280, 3) := by decide +kernel
theorem dX7_inner_38 : decode cX7_inner 38 = .ok (.aload_n 0, 1) := by decide +kernel
theorem dX7_inner_39 : decode cX7_inner 39 = .ok (.getfield 33, 3) := by decide +kernel
theorem dX7_inner_42 : decode cX7_inner 42 = .ok (.invokevirtual 168, 3) := by decide +kernel
theorem dX7_inner_45 : decode cX7_inner 45 = .ok (.aload_n 0, 1) := by decide +kernel
theorem dX7_inner_46 : decode cX7_inner 46 = .ok (.getfield 33, 3) := by decide +kernel
theorem dX7_inner_49 : decode cX7_inner 49 = .ok (.getfield 174, 3) := by decide +kernel
theorem dX7_inner_52 : decode cX7_inner 52 = .ok (.iconst (-1), 1) := by decide +kernel
theorem dX7_inner_53 : decode cX7_inner 53 = .ok (.if_icmp .eq 37, 3) := by decide +kernel
theorem dX7_inner_56 : decode cX7_inner 56 = .ok (.aload_n 0, 1) := by decide +kernel
theorem dX7_inner_57 : decode cX7_inner 57 = .ok (.getfield 33, 3) := by decide +kernel
theorem dX7_inner_60 : decode cX7_inner 60 = .ok (.aload_n 0, 1) := by decide +kernel
theorem dX7_inner_61 : decode cX7_inner 61 = .ok (.getfield 33, 3) := by decide +kernel
theorem dX7_inner_64 : decode cX7_inner 64 = .ok (.getfield 174, 3) := by decide +kernel
theorem dX7_inner_67 : decode cX7_inner 67 = .ok (.invokevirtual 298, 3) := by decide +kernel
theorem dX7_inner_70 : decode cX7_inner 70 = .ok (.ifCond .eq 20, 3) := by decide +kernel
theorem dX7_inner_73 : decode cX7_inner 73 = .ok (.aload_n 0, 1) := by decide +kernel
theorem dX7_inner_74 : decode cX7_inner 74 = .ok (.getfield 19, 3) := by decide +kernel
theorem dX7_inner_77 : decode cX7_inner 77 = .ok (.aload_n 0, 1) := by decide +kernel
theorem dX7_inner_78 : decode cX7_inner 78 = .ok (.getfield 33, 3) := by decide +kernel
theorem dX7_inner_81 : decode cX7_inner 81 = .ok (.getfield 174, 3) := by decide +kernel
theorem dX7_inner_84 : decode cX7_inner 84 = .ok (.i2l, 1) := by decide +kernel
theorem dX7_inner_85 : decode cX7_inner 85 = .ok (.invokevirtual 186, 3) := by decide +kernel
theorem dX7_inner_88 : decode cX7_inner 88 = .ok (.iload_n 1, 1) := by decide +kernel
theorem dX7_inner_89 : decode cX7_inner 89 = .ok (.ireturn, 1) := by decide +kernel
theorem dX7_inner_90 : decode cX7_inner 90 = .ok (.iinc 1 1, 3) := by decide +kernel
theorem dX7_inner_93 : decode cX7_inner 93 = .ok (.goto (-66), 3) := by decide +kernel
theorem dX7_inner_96 : decode cX7_inner 96 = .ok (.bipush (-2), 2) := by decide +kernel
theorem dX7_inner_98 : decode cX7_inner 98 = .ok (.ireturn, 1) := by decide +kernel
theorem dX7_excess_0 : decode cX7_excess 0 = .ok (.aload_n 0, 1) := by decide +kernel
theorem dX7_excess_1 : decode cX7_excess 1 = .ok (.getfield 26, 3) := by decide +kernel
theorem dX7_excess_4 : decode cX7_excess 4 = .ok (.getfield 74, 3) := by decide +kernel
theorem dX7_excess_7 : decode cX7_excess 7 = .ok (.iload_n 1, 1) := by decide +kernel
theorem dX7_excess_8 : decode cX7_excess 8 = .ok (.iload_n 2, 1) := by decide +kernel
theorem dX7_excess_9 : decode cX7_excess 9 = .ok (.invokevirtual 132, 3) := by decide +kernel
theorem dX7_excess_12 : decode cX7_excess 12 = .ok (.ifCond .ne 5, 3) := by decide +kernel
theorem dX7_excess_15 : decode cX7_excess 15 = .ok (.iconst (-1), 1) := by decide +kernel
theorem dX7_excess_16 : decode cX7_excess 16 = .ok (.ireturn, 1) := by decide +kernel
theorem dX7_excess_17 : decode cX7_excess 17 = .ok (.aload_n 0, 1) := by decide +kernel
theorem dX7_excess_18 : decode cX7_excess 18 = .ok (.getfield 26, 3) := by decide +kernel
theorem dX7_excess_21 : decode cX7_excess 21 = .ok (.getfield 81, 3) := by decide +kernel
theorem dX7_excess_24 : decode cX7_excess 24 = .ok (.getfield 85, 3) := by decide +kernel
theorem dX7_excess_27 : decode cX7_excess 27 = .ok (.iconst 1, 1) := by decide +kernel
theorem dX7_excess_28 : decode cX7_excess 28 = .ok (.if_icmp .eq 6, 3) := by decide +kernel
theorem dX7_excess_31 : decode cX7_excess 31 = .ok (.bipush (-3), 2) := by decide +kernel
theorem dX7_excess_33 : decode cX7_excess 33 = .ok (.ireturn, 1) := by decide +kernel
theorem dX7_excess_34 : decode cX7_excess 34 = .ok (.aload_n 0, 1) := by decide +kernel
theorem dX7_excess_35 : decode cX7_excess 35 = .ok (.getfield 26, 3) := by decide +kernel
theorem dX7_excess_38 : decode cX7_excess 38 = .ok (.getfield 81, 3) := by decide +kernel
theorem dX7_excess_41 : decode cX7_excess 41 = .ok (.astore_n 3, 1) := by decide +kernel
theorem dX7_excess_42 : decode cX7_excess 42 = .ok (.aload_n 0, 1) := by decide +kernel
theorem dX7_excess_43 : decode cX7_excess 43 = .ok (.getfield 26, 3) := by decide +kernel
theorem dX7_excess_46 : decode cX7_excess 46 = .ok (.getfield 74, 3) := by decide +kernel
theorem dX7_excess_49 : decode cX7_excess 49 = .ok (.astore 4, 2) := by decide +kernel
theorem dX7_excess_51 : decode cX7_excess 51 = .ok (.aload_n 0, 1) := by decide +kernel
theorem dX7_excess_52 : decode cX7_excess 52 = .ok (.getfield 19, 3) := by decide +kernel
theorem dX7_excess_55 : decode cX7_excess 55 = .ok (.aload_n 3, 1) := by decide +kernel
theorem dX7_excess_56 : decode cX7_excess 56 = .ok (.aload 4, 2) := by decide +kernel
theorem dX7_excess_58 : decode cX7_excess 58 = .ok (.iload_n 1, 1) := by decide +kernel
theorem dX7_excess_59 : decode cX7_excess 59 = .ok (.iload_n 2, 1) := by decide +kernel
theorem dX7_excess_60 : decode cX7_excess 60 = .ok (.iconst 0, 1) := by decide +kernel
theorem dX7_excess_61 : decode cX7_excess 61 = .ok (.invokevirtual 301, 3) := by decide +kernel
theorem dX7_excess_64 : decode cX7_excess 64 = .ok (.aload_n 3, 1) := by decide +kernel
theorem dX7_excess_65 : decode cX7_excess 65 = .ok (.aload 4, 2) := by decide +kernel
theorem dX7_excess_67 : decode cX7_excess 67 = .ok (.iload_n 1, 1) := by decide +kernel
theorem dX7_excess_68 : decode cX7_excess 68 = .ok (.iload_n 2, 1) := by decide +kernel
theorem dX7_excess_69 : decode cX7_excess 69 = .ok (.iconst 1, 1) := by decide +kernel
theorem dX7_excess_70 : decode cX7_excess 70 = .ok (.invokevirtual 301, 3) := by decide +kernel
theorem dX7_excess_73 : decode cX7_excess 73 = .ok (.aload_n 3, 1) := by decide +kernel
theorem dX7_excess_74 : decode cX7_excess 74 = .ok (.aload 4, 2) := by decide +kernel
theorem dX7_excess_76 : decode cX7_excess 76 = .ok (.iload_n 1, 1) := by decide +kernel
theorem dX7_excess_77 : decode cX7_excess 77 = .ok (.iload_n 2, 1) := by decide +kernel
theorem dX7_excess_78 : decode cX7_excess 78 = .ok (.iconst 2, 1) := by decide +kernel
theorem dX7_excess_79 : decode cX7_excess 79 = .ok (.invokevirtual 301, 3) := by decide +kernel
theorem dX7_excess_82 : decode cX7_excess 82 = .ok (.aload_n 3, 1) := by decide +kernel
theorem dX7_excess_83 : decode cX7_excess 83 = .ok (.aload 4, 2) := by decide +kernel
theorem dX7_excess_85 : decode cX7_excess 85 = .ok (.iload_n 1, 1) := by decide +kernel
theorem dX7_excess_86 : decode cX7_excess 86 = .ok (.iload_n 2, 1) := by decide +kernel
theorem dX7_excess_87 : decode cX7_excess 87 = .ok (.invokevirtual 305, 3) := by decide +kernel
theorem dX7_excess_90 : decode cX7_excess 90 = .ok (.invokevirtual 165, 3) := by decide +kernel
theorem dX7_excess_93 : decode cX7_excess 93 = .ok (.iconst 0, 1) := by decide +kernel
theorem dX7_excess_94 : decode cX7_excess 94 = .ok (.ireturn, 1) := by decide +kernel
theorem dX7_best_0 : decode cX7_best 0 = .ok (.aload_n 0, 1) := by decide +kernel
theorem dX7_best_1 : decode cX7_best 1 = .ok (.getfield 26, 3) := by decide +kernel
theorem dX7_best_4 : decode cX7_best 4 = .ok (.getfield 81, 3) := by decide +kernel
theorem dX7_best_7 : decode cX7_best 7 = .ok (.getfield 85, 3) := by decide +kernel
theorem dX7_best_10 : decode cX7_best 10 = .ok (.iconst 1, 1) := by decide +kernel
theorem dX7_best_11 : decode cX7_best 11 = .ok (.if_icmp .eq 6, 3) := by decide +kernel
theorem dX7_best_14 : decode cX7_best 14 = .ok (.bipush (-3), 2) := by decide +kernel
theorem dX7_best_16 : decode cX7_best 16 = .ok (.ireturn, 1) := by decide +kernel
theorem dX7_best_17 : decode cX7_best 17 = .ok (.aload_n 0, 1) := by decide +kernel
theorem dX7_best_18 : decode cX7_best 18 = .ok (.getfield 26, 3) := by decide +kernel
theorem dX7_best_21 : decode cX7_best 21 = .ok (.getfield 74, 3) := by decide +kernel
theorem dX7_best_24 : decode cX7_best 24 = .ok (.astore_n 1, 1) := by decide +kernel
theorem dX7_best_25 : decode cX7_best 25 = .ok (.iconst 0, 1) := by decide +kernel
theorem dX7_best_26 : decode cX7_best 26 = .ok (.istore_n 2, 1) := by decide +kernel
theorem dX7_best_27 : decode cX7_best 27 = .ok (.iconst 0, 1) := by decide +kernel
theorem dX7_best_28 : decode cX7_best 28 = .ok (.istore_n 3, 1) := by decide +kernel
theorem dX7_best_29 : decode cX7_best 29 = .ok (.aload_n 0, 1) := by decide +kernel
theorem dX7_best_30 : decode cX7_best 30 = .ok (.getfield 26, 3) := by decide +kernel
theorem dX7_best_33 : decode cX7_best 33 = .ok (.getfield 81, 3) := by decide +kernel
theorem dX7_best_36 : decode cX7_best 36 = .ok (.aload_n 1, 1) := by decide +kernel
theorem dX7_best_37 : decode cX7_best 37 = .ok (.iconst 0, 1) := by decide +kernel
theorem dX7_best_38 : decode cX7_best 38 = .ok (.iconst 0, 1) := by decide +kernel
theorem dX7_best_39 : decode cX7_best 39 = .ok (.invokevirtual 305, 3) := by decide +kernel
theorem dX7_best_42 : decode cX7_best 42 = .ok (.lstore 4, 2) := by decide +kernel
theorem dX7_best_44 : decode cX7_best 44 = .ok (.iconst 0, 1) := by decide +kernel
theorem dX7_best_45 : decode cX7_best 45 = .ok (.istore 6, 2) := by decide +kernel
theorem dX7_best_47 : decode cX7_best 47 = .ok (.iload 6, 2) := by decide +kernel
theorem dX7_best_49 : decode cX7_best 49 = .ok (.aload_n 1, 1) := by decide +kernel
theorem dX7_best_50 : decode cX7_best 50 = .ok (.getfield 198, 3) := by decide +kernel
theorem dX7_best_53 : decode cX7_best 53 = .ok (.if_icmp .gt 65, 3) := by decide +kernel
theorem dX7_best_56 : decode cX7_best 56 = .ok (.iconst 0, 1) := by decide +kernel
theorem dX7_best_57 : decode cX7_best 57 = .ok (.istore 7, 2) := by decide +kernel
theorem dX7_best_59 : decode cX7_best 59 = .ok (.iload 7, 2) := by decide +kernel
theorem dX7_best_61 : decode cX7_best 61 = .ok (.aload_n 1, 1) := by decide +kernel
theorem dX7_best_62 : decode cX7_best 62 = .ok (.getfield 198, 3) := by decide +kernel
theorem dX7_best_65 : decode cX7_best 65 = .ok (.iload 6, 2) := by decide +kernel
theorem dX7_best_67 : decode cX7_best 67 = .ok (.isub, 1) := by decide +kernel
theorem dX7_best_68 : decode cX7_best 68 = .ok (.if_icmp .gt 44, 3) := by decide +kernel
theorem dX7_best_71 : decode cX7_best 71 = .ok (.aload_n 0, 1) := by decide +kernel
theorem dX7_best_72 : decode cX7_best 72 = .ok (.getfield 26, 3) := by decide +kernel
theorem dX7_best_75 : decode cX7_best 75 = .ok (.getfield 81, 3) := by decide +kernel
theorem dX7_best_78 : decode cX7_best 78 = .ok (.aload_n 1, 1) := by decide +kernel
theorem dX7_best_79 : decode cX7_best 79 = .ok (.iload 6, 2) := by decide +kernel
theorem dX7_best_81 : decode cX7_best 81 = .ok (.iload 7, 2) := by decide +kernel
theorem dX7_best_83 : decode cX7_best 83 = .ok (.invokevirtual 305, 3) := by decide +kernel
theorem dX7_best_86 : decode cX7_best 86 = .ok (.lstore 8, 2) := by decide +kernel
theorem dX7_best_88 : decode cX7_best 88 = .ok (.lload 8, 2) := by decide +kernel
theorem dX7_best_90 : decode cX7_best 90 = .ok (.lload 4, 2) := by decide +kernel
theorem dX7_best_92 : decode cX7_best 92 = .ok (.lcmp, 1) := by decide +kernel
theorem dX7_best_93 : decode cX7_best 93 = .ok (.ifCond .ge 13, 3) := by decide +kernel
theorem dX7_best_96 : decode cX7_best 96 = .ok (.lload 8, 2) := by decide +kernel
theorem dX7_best_98 : decode cX7_best 98 = .ok (.lstore 4, 2) := by decide +kernel
theorem dX7_best_100 : decode cX7_best 100 = .ok (.iload 6, 2) := by decide +kernel
theorem dX7_best_102 : decode cX7_best 102 = .ok (.istore_n 2, 1) := by decide +kernel
theorem dX7_best_103 : decode cX7_best 103 = .ok (.iload 7, 2) := by decide +kernel
theorem dX7_best_105 : decode cX7_best 105 = .ok (.istore_n 3, 1) := by decide +kernel
theorem dX7_best_106 : decode cX7_best 106 = .ok (.iinc 7 1, 3) := by decide +kernel
theorem dX7_best_109 : decode cX7_best 109 = .ok (.goto (-50), 3) := by decide +kernel
theorem dX7_best_112 : decode cX7_best 112 = .ok (.iinc 6 1, 3) := by decide +kernel
theorem dX7_best_115 : decode cX7_best 115 = .ok (.goto (-68), 3) := by decide +kernel
theorem dX7_best_118 : decode cX7_best 118 = .ok (.aload_n 0, 1) := by decide +kernel
theorem dX7_best_119 : decode cX7_best 119 = .ok (.getfield 19, 3) := by decide +kernel
theorem dX7_best_122 : decode cX7_best 122 = .ok (.iload_n 2, 1) := by decide +kernel
theorem dX7_best_123 : decode cX7_best 123 = .ok (.i2l, 1) := by decide +kernel
theorem dX7_best_124 : decode cX7_best 124 = .ok (.iload_n 3, 1) := by decide +kernel
theorem dX7_best_125 : decode cX7_best 125 = .ok (.i2l, 1) := by decide +kernel
theorem dX7_best_126 : decode cX7_best 126 = .ok (.lload 4, 2) := by decide +kernel
theorem dX7_best_128 : decode cX7_best 128 = .ok (.invokevirtual 150, 3) := by decide +kernel
theorem dX7_best_131 : decode cX7_best 131 = .ok (.aload_n 1, 1) := by decide +kernel
theorem dX7_best_132 : decode cX7_best 132 = .ok (.iload_n 2, 1) := by decide +kernel
theorem dX7_best_133 : decode cX7_best 133 = .ok (.iload_n 3, 1) := by decide +kernel
theorem dX7_best_134 : decode cX7_best 134 = .ok (.invokevirtual 153, 3) := by decide +kernel
theorem dX7_best_137 : decode cX7_best 137 = .ok (.ireturn, 1) := by decide +kernel
theorem dX7_clears_0 : decode cX7_clears 0 = .ok (.aload_n 0, 1) := by decide +kernel
theorem dX7_clears_1 : decode cX7_clears 1 = .ok (.getfield 26, 3) := by decide +kernel
theorem dX7_clears_4 : decode cX7_clears 4 = .ok (.getfield 81, 3) := by decide +kernel
theorem dX7_clears_7 : decode cX7_clears 7 = .ok (.getfield 85, 3) := by decide +kernel
theorem dX7_clears_10 : decode cX7_clears 10 = .ok (.iconst 1, 1) := by decide +kernel
theorem dX7_clears_11 : decode cX7_clears 11 = .ok (.if_icmp .eq 6, 3) := by decide +kernel
theorem dX7_clears_14 : decode cX7_clears 14 = .ok (.bipush (-3), 2) := by decide +kernel
theorem dX7_clears_16 : decode cX7_clears 16 = .ok (.ireturn, 1) := by decide +kernel
theorem dX7_clears_17 : decode cX7_clears 17 = .ok (.aload_n 0, 1) := by decide +kernel
theorem dX7_clears_18 : decode cX7_clears 18 = .ok (.getfield 26, 3) := by decide +kernel
theorem dX7_clears_21 : decode cX7_clears 21 = .ok (.getfield 74, 3) := by decide +kernel
theorem dX7_clears_24 : decode cX7_clears 24 = .ok (.astore_n 1, 1) := by decide +kernel
theorem dX7_clears_25 : decode cX7_clears 25 = .ok (.iconst (-1), 1) := by decide +kernel
theorem dX7_clears_26 : decode cX7_clears 26 = .ok (.istore_n 2, 1) := by decide +kernel
theorem dX7_clears_27 : decode cX7_clears 27 = .ok (.iconst 0, 1) := by decide +kernel
theorem dX7_clears_28 : decode cX7_clears 28 = .ok (.istore_n 3, 1) := by decide +kernel
theorem dX7_clears_29 : decode cX7_clears 29 = .ok (.lconst 0, 1) := by decide +kernel
theorem dX7_clears_30 : decode cX7_clears 30 = .ok (.lstore 4, 2) := by decide +kernel
theorem dX7_clears_32 : decode cX7_clears 32 = .ok (.iconst 0, 1) := by decide +kernel
theorem dX7_clears_33 : decode cX7_clears 33 = .ok (.istore 6, 2) := by decide +kernel
theorem dX7_clears_35 : decode cX7_clears 35 = .ok (.iload 6, 2) := by decide +kernel
theorem dX7_clears_37 : decode cX7_clears 37 = .ok (.aload_n 1, 1) := by decide +kernel
theorem dX7_clears_38 : decode cX7_clears 38 = .ok (.invokevirtual 189, 3) := by decide +kernel
theorem dX7_clears_41 : decode cX7_clears 41 = .ok (.if_icmp .ge 88, 3) := by decide +kernel
theorem dX7_clears_44 : decode cX7_clears 44 = .ok (.aload_n 1, 1) := by decide +kernel
theorem dX7_clears_45 : decode cX7_clears 45 = .ok (.iload 6, 2) := by decide +kernel
theorem dX7_clears_47 : decode cX7_clears 47 = .ok (.invokevirtual 159, 3) := by decide +kernel
theorem dX7_clears_50 : decode cX7_clears 50 = .ok (.ifCond .ne 6, 3) := by decide +kernel
theorem dX7_clears_53 : decode cX7_clears 53 = .ok (.goto 70, 3) := by decide +kernel
theorem dX7_clears_56 : decode cX7_clears 56 = .ok (.iconst 0, 1) := by decide +kernel
theorem dX7_clears_57 : decode cX7_clears 57 = .ok (.istore 7, 2) := by decide +kernel
theorem dX7_clears_59 : decode cX7_clears 59 = .ok (.iload 7, 2) := by decide +kernel
theorem dX7_clears_61 : decode cX7_clears 61 = .ok (.iconst 3, 1) := by decide +kernel
theorem dX7_clears_62 : decode cX7_clears 62 = .ok (.if_icmp .ge 61, 3) := by decide +kernel
theorem dX7_clears_65 : decode cX7_clears 65 = .ok (.aload_n 0, 1) := by decide +kernel
theorem dX7_clears_66 : decode cX7_clears 66 = .ok (.getfield 26, 3) := by decide +kernel
theorem dX7_clears_69 : decode cX7_clears 69 = .ok (.getfield 81, 3) := by decide +kernel
theorem dX7_clears_72 : decode cX7_clears 72 = .ok (.aload_n 1, 1) := by decide +kernel
theorem dX7_clears_73 : decode cX7_clears 73 = .ok (.aload_n 1, 1) := by decide +kernel
theorem dX7_clears_74 : decode cX7_clears 74 = .ok (.iload 6, 2) := by decide +kernel
theorem dX7_clears_76 : decode cX7_clears 76 = .ok (.iload 7, 2) := by decide +kernel
theorem dX7_clears_78 : decode cX7_clears 78 = .ok (.invokevirtual 309, 3) := by decide +kernel
theorem dX7_clears_81 : decode cX7_clears 81 = .ok (.aload_n 1, 1) := by decide +kernel
theorem dX7_clears_82 : decode cX7_clears 82 = .ok (.iload 6, 2) := by decide +kernel
theorem dX7_clears_84 : decode cX7_clears 84 = .ok (.iload 7, 2) := by decide +kernel
theorem dX7_clears_86 : decode cX7_clears 86 = .ok (.invokevirtual 312, 3) := by decide +kernel
theorem dX7_clears_89 : decode cX7_clears 89 = .ok (.invokevirtual 305, 3) := by decide +kernel
theorem dX7_clears_92 : decode cX7_clears 92 = .ok (.lstore 8, 2) := by decide +kernel
theorem dX7_clears_94 : decode cX7_clears 94 = .ok (.iload_n 2, 1) := by decide +kernel
theorem dX7_clears_95 : decode cX7_clears 95 = .ok (.iconst (-1), 1) := by decide +kernel
theorem dX7_clears_96 : decode cX7_clears 96 = .ok (.if_icmp .eq 11, 3) := by decide +kernel
theorem dX7_clears_99 : decode cX7_clears 99 = .ok (.lload 8, 2) := by decide +kernel
theorem dX7_clears_101 : decode cX7_clears 101 = .ok (.lload 4, 2) := by decide +kernel
theorem dX7_clears_103 : decode cX7_clears 103 = .ok (.lcmp, 1) := by decide +kernel
theorem dX7_clears_104 : decode cX7_clears 104 = .ok (.ifCond .ge 13, 3) := by decide +kernel
theorem dX7_clears_107 : decode cX7_clears 107 = .ok (.iload 6, 2) := by decide +kernel
theorem dX7_clears_109 : decode cX7_clears 109 = .ok (.istore_n 2, 1) := by decide +kernel
theorem dX7_clears_110 : decode cX7_clears 110 = .ok (.iload 7, 2) := by decide +kernel
theorem dX7_clears_112 : decode cX7_clears 112 = .ok (.istore_n 3, 1) := by decide +kernel
theorem dX7_clears_113 : decode cX7_clears 113 = .ok (.lload 8, 2) := by decide +kernel
theorem dX7_clears_115 : decode cX7_clears 115 = .ok (.lstore 4, 2) := by decide +kernel
theorem dX7_clears_117 : decode cX7_clears 117 = .ok (.iinc 7 1, 3) := by decide +kernel
theorem dX7_clears_120 : decode cX7_clears 120 = .ok (.goto (-61), 3) := by decide +kernel
theorem dX7_clears_123 : decode cX7_clears 123 = .ok (.iinc 6 1, 3) := by decide +kernel
theorem dX7_clears_126 : decode cX7_clears 126 = .ok (.goto (-91), 3) := by decide +kernel
theorem dX7_clears_129 : decode cX7_clears 129 = .ok (.iload_n 2, 1) := by decide +kernel
theorem dX7_clears_130 : decode cX7_clears 130 = .ok (.iconst (-1), 1) := by decide +kernel
theorem dX7_clears_131 : decode cX7_clears 131 = .ok (.if_icmp .ne 6, 3) := by decide +kernel
theorem dX7_clears_134 : decode cX7_clears 134 = .ok (.bipush (-2), 2) := by decide +kernel
theorem dX7_clears_136 : decode cX7_clears 136 = .ok (.ireturn, 1) := by decide +kernel
theorem dX7_clears_137 : decode cX7_clears 137 = .ok (.aload_n 0, 1) := by decide +kernel
theorem dX7_clears_138 : decode cX7_clears 138 = .ok (.getfield 19, 3) := by decide +kernel
theorem dX7_clears_141 : decode cX7_clears 141 = .ok (.aload_n 1, 1) := by decide +kernel
theorem dX7_clears_142 : decode cX7_clears 142 = .ok (.iload_n 2, 1) := by decide +kernel
theorem dX7_clears_143 : decode cX7_clears 143 = .ok (.iload_n 3, 1) := by decide +kernel
theorem dX7_clears_144 : decode cX7_clears 144 = .ok (.invokevirtual 309, 3) := by decide +kernel
theorem dX7_clears_147 : decode cX7_clears 147 = .ok (.i2l, 1) := by decide +kernel
theorem dX7_clears_148 : decode cX7_clears 148 = .ok (.aload_n 1, 1) := by decide +kernel
theorem dX7_clears_149 : decode cX7_clears 149 = .ok (.iload_n 2, 1) := by decide +kernel
theorem dX7_clears_150 : decode cX7_clears 150 = .ok (.iload_n 3, 1) := by decide +kernel
theorem dX7_clears_151 : decode cX7_clears 151 = .ok (.invokevirtual 312, 3) := by decide +kernel
theorem dX7_clears_154 : decode cX7_clears 154 = .ok (.i2l, 1) := by decide +kernel
theorem dX7_clears_155 : decode cX7_clears 155 = .ok (.lload 4, 2) := by decide +kernel
theorem dX7_clears_157 : decode cX7_clears 157 = .ok (.aload_n 0, 1) := by decide +kernel
theorem dX7_clears_158 : decode cX7_clears 158 = .ok (.getfield 26, 3) := by decide +kernel
theorem dX7_clears_161 : decode cX7_clears 161 = .ok (.getfield 81, 3) := by decide +kernel
theorem dX7_clears_164 : decode cX7_clears 164 = .ok (.aload_n 1, 1) := by decide +kernel
theorem dX7_clears_165 : decode cX7_clears 165 = .ok (.lload 4, 2) := by decide +kernel
theorem dX7_clears_167 : decode cX7_clears 167 = .ok (.invokevirtual 315, 3) := by decide +kernel
theorem dX7_clears_170 : decode cX7_clears 170 = .ok (.i2l, 1) := by decide +kernel
theorem dX7_clears_171 : decode cX7_clears 171 = .ok (.invokevirtual 165, 3) := by decide +kernel
theorem dX7_clears_174 : decode cX7_clears 174 = .ok (.iload_n 2, 1) := by decide +kernel
theorem dX7_clears_175 : decode cX7_clears 175 = .ok (.ireturn, 1) := by decide +kernel
theorem dX7_sells_0 : decode cX7_sells 0 = .ok (.aload_n 0, 1) := by decide +kernel
theorem dX7_sells_1 : decode cX7_sells 1 = .ok (.getfield 26, 3) := by decide +kernel
theorem dX7_sells_4 : decode cX7_sells 4 = .ok (.getfield 74, 3) := by decide +kernel
theorem dX7_sells_7 : decode cX7_sells 7 = .ok (.iload_n 1, 1) := by decide +kernel
theorem dX7_sells_8 : decode cX7_sells 8 = .ok (.iload_n 2, 1) := by decide +kernel
theorem dX7_sells_9 : decode cX7_sells 9 = .ok (.invokevirtual 132, 3) := by decide +kernel
theorem dX7_sells_12 : decode cX7_sells 12 = .ok (.ifCond .eq 10, 3) := by decide +kernel
theorem dX7_sells_15 : decode cX7_sells 15 = .ok (.iload_n 3, 1) := by decide +kernel
theorem dX7_sells_16 : decode cX7_sells 16 = .ok (.invokestatic 195, 3) := by decide +kernel
theorem dX7_sells_19 : decode cX7_sells 19 = .ok (.ifCond .ne 5, 3) := by decide +kernel
theorem dX7_sells_22 : decode cX7_sells 22 = .ok (.iconst (-1), 1) := by decide +kernel
theorem dX7_sells_23 : decode cX7_sells 23 = .ok (.ireturn, 1) := by decide +kernel
theorem dX7_sells_24 : decode cX7_sells 24 = .ok (.aload_n 0, 1) := by decide +kernel
theorem dX7_sells_25 : decode cX7_sells 25 = .ok (.getfield 26, 3) := by decide +kernel
theorem dX7_sells_28 : decode cX7_sells 28 = .ok (.getfield 81, 3) := by decide +kernel
theorem dX7_sells_31 : decode cX7_sells 31 = .ok (.getfield 85, 3) := by decide +kernel
theorem dX7_sells_34 : decode cX7_sells 34 = .ok (.iconst 1, 1) := by decide +kernel
theorem dX7_sells_35 : decode cX7_sells 35 = .ok (.if_icmp .eq 6, 3) := by decide +kernel
theorem dX7_sells_38 : decode cX7_sells 38 = .ok (.bipush (-3), 2) := by decide +kernel
theorem dX7_sells_40 : decode cX7_sells 40 = .ok (.ireturn, 1) := by decide +kernel
theorem dX7_sells_41 : decode cX7_sells 41 = .ok (.iconst 0, 1) := by decide +kernel
theorem dX7_sells_42 : decode cX7_sells 42 = .ok (.istore 4, 2) := by decide +kernel
theorem dX7_sells_44 : decode cX7_sells 44 = .ok (.iconst 0, 1) := by decide +kernel
theorem dX7_sells_45 : decode cX7_sells 45 = .ok (.istore 5, 2) := by decide +kernel
theorem dX7_sells_47 : decode cX7_sells 47 = .ok (.iload 5, 2) := by decide +kernel
theorem dX7_sells_49 : decode cX7_sells 49 = .ok (.aload_n 0, 1) := by decide +kernel
theorem dX7_sells_50 : decode cX7_sells 50 = .ok (.getfield 26, 3) := by decide +kernel
theorem dX7_sells_53 : decode cX7_sells 53 = .ok (.getfield 81, 3) := by decide +kernel
theorem dX7_sells_56 : decode cX7_sells 56 = .ok (.getfield 319, 3) := by decide +kernel
theorem dX7_sells_59 : decode cX7_sells 59 = .ok (.if_icmp .ge 43, 3) := by decide +kernel
theorem dX7_sells_62 : decode cX7_sells 62 = .ok (.aload_n 0, 1) := by decide +kernel
theorem dX7_sells_63 : decode cX7_sells 63 = .ok (.getfield 26, 3) := by decide +kernel
theorem dX7_sells_66 : decode cX7_sells 66 = .ok (.getfield 81, 3) := by decide +kernel
theorem dX7_sells_69 : decode cX7_sells 69 = .ok (.aload_n 0, 1) := by decide +kernel
theorem dX7_sells_70 : decode cX7_sells 70 = .ok (.getfield 26, 3) := by decide +kernel
theorem dX7_sells_73 : decode cX7_sells 73 = .ok (.getfield 74, 3) := by decide +kernel
theorem dX7_sells_76 : decode cX7_sells 76 = .ok (.iload_n 1, 1) := by decide +kernel
theorem dX7_sells_77 : decode cX7_sells 77 = .ok (.iload_n 2, 1) := by decide +kernel
theorem dX7_sells_78 : decode cX7_sells 78 = .ok (.iload 5, 2) := by decide +kernel
theorem dX7_sells_80 : decode cX7_sells 80 = .ok (.iload_n 3, 1) := by decide +kernel
theorem dX7_sells_81 : decode cX7_sells 81 = .ok (.invokevirtual 322, 3) := by decide +kernel
theorem dX7_sells_84 : decode cX7_sells 84 = .ok (.ifCond .eq 12, 3) := by decide +kernel
theorem dX7_sells_87 : decode cX7_sells 87 = .ok (.iload 4, 2) := by decide +kernel
theorem dX7_sells_89 : decode cX7_sells 89 = .ok (.iconst 1, 1) := by decide +kernel
theorem dX7_sells_90 : decode cX7_sells 90 = .ok (.iload 5, 2) := by decide +kernel
theorem dX7_sells_92 : decode cX7_sells 92 = .ok (.ishl, 1) := by decide +kernel
theorem dX7_sells_93 : decode cX7_sells 93 = .ok (.ior, 1) := by decide +kernel
theorem dX7_sells_94 : decode cX7_sells 94 = .ok (.istore 4, 2) := by decide +kernel
theorem dX7_sells_96 : decode cX7_sells 96 = .ok (.iinc 5 1, 3) := by decide +kernel
theorem dX7_sells_99 : decode cX7_sells 99 = .ok (.goto (-52), 3) := by decide +kernel
theorem dX7_sells_102 : decode cX7_sells 102 = .ok (.aload_n 0, 1) := by decide +kernel
theorem dX7_sells_103 : decode cX7_sells 103 = .ok (.getfield 19, 3) := by decide +kernel
theorem dX7_sells_106 : decode cX7_sells 106 = .ok (.iload 4, 2) := by decide +kernel
theorem dX7_sells_108 : decode cX7_sells 108 = .ok (.invokestatic 326, 3) := by decide +kernel
theorem dX7_sells_111 : decode cX7_sells 111 = .ok (.i2l, 1) := by decide +kernel
theorem dX7_sells_112 : decode cX7_sells 112 = .ok (.invokevirtual 186, 3) := by decide +kernel
theorem dX7_sells_115 : decode cX7_sells 115 = .ok (.iload 4, 2) := by decide +kernel
theorem dX7_sells_117 : decode cX7_sells 117 = .ok (.ireturn, 1) := by decide +kernel
theorem dX7_were_0 : decode cX7_were 0 = .ok (.aload_n 0, 1) := by decide +kernel
theorem dX7_were_1 : decode cX7_were 1 = .ok (.getfield 26, 3) := by decide +kernel
theorem dX7_were_4 : decode cX7_were 4 = .ok (.getfield 74, 3) := by decide +kernel
theorem dX7_were_7 : decode cX7_were 7 = .ok (.astore 4, 2) := by decide +kernel
theorem dX7_were_9 : decode cX7_were 9 = .ok (.aload 4, 2) := by decide +kernel
theorem dX7_were_11 : decode cX7_were 11 = .ok (.iload_n 1, 1) := by decide +kernel
theorem dX7_were_12 : decode cX7_were 12 = .ok (.iload_n 2, 1) := by decide +kernel
theorem dX7_were_13 : decode cX7_were 13 = .ok (.invokevirtual 132, 3) := by decide +kernel
theorem dX7_were_16 : decode cX7_were 16 = .ok (.ifCond .eq 10, 3) := by decide +kernel
theorem dX7_were_19 : decode cX7_were 19 = .ok (.iload_n 3, 1) := by decide +kernel
theorem dX7_were_20 : decode cX7_were 20 = .ok (.invokestatic 195, 3) := by decide +kernel
theorem dX7_were_23 : decode cX7_were 23 = .ok (.ifCond .ne 5, 3) := by decide +kernel
theorem dX7_were_26 : decode cX7_were 26 = .ok (.iconst (-1), 1) := by decide +kernel
theorem dX7_were_27 : decode cX7_were 27 = .ok (.ireturn, 1) := by decide +kernel
theorem dX7_were_28 : decode cX7_were 28 = .ok (.aload 4, 2) := by decide +kernel
theorem dX7_were_30 : decode cX7_were 30 = .ok (.iload_n 1, 1) := by decide +kernel
theorem dX7_were_31 : decode cX7_were 31 = .ok (.iload_n 2, 1) := by decide +kernel
theorem dX7_were_32 : decode cX7_were 32 = .ok (.iload_n 3, 1) := by decide +kernel
theorem dX7_were_33 : decode cX7_were 33 = .ok (.invokevirtual 331, 3) := by decide +kernel
theorem dX7_were_36 : decode cX7_were 36 = .ok (.ifCond .ne 6, 3) := by decide +kernel
theorem dX7_were_39 : decode cX7_were 39 = .ok (.bipush (-4), 2) := by decide +kernel
theorem dX7_were_41 : decode cX7_were 41 = .ok (.ireturn, 1) := by decide +kernel
theorem dX7_were_42 : decode cX7_were 42 = .ok (.aload_n 0, 1) := by decide +kernel
theorem dX7_were_43 : decode cX7_were 43 = .ok (.getfield 33, 3) := by decide +kernel
theorem dX7_were_46 : decode cX7_were 46 = .ok (.aload 4, 2) := by decide +kernel
theorem dX7_were_48 : decode cX7_were 48 = .ok (.invokevirtual 77, 3) := by decide +kernel
theorem dX7_were_51 : decode cX7_were 51 = .ok (.aload_n 0, 1) := by decide +kernel
theorem dX7_were_52 : decode cX7_were 52 = .ok (.getfield 33, 3) := by decide +kernel
theorem dX7_were_55 : decode cX7_were 55 = .ok (.iload_n 1, 1) := by decide +kernel
theorem dX7_were_56 : decode cX7_were 56 = .ok (.iload_n 2, 1) := by decide +kernel
theorem dX7_were_57 : decode cX7_were 57 = .ok (.iload_n 3, 1) := by decide +kernel
theorem dX7_were_58 : decode cX7_were 58 = .ok (.invokevirtual 335, 3) := by decide +kernel
theorem dX7_were_61 : decode cX7_were 61 = .ok (.iconst 0, 1) := by decide +kernel
theorem dX7_were_62 : decode cX7_were 62 = .ok (.istore 5, 2) := by decide +kernel
theorem dX7_were_64 : decode cX7_were 64 = .ok (.iconst 0, 1) := by decide +kernel
theorem dX7_were_65 : decode cX7_were 65 = .ok (.istore 6, 2) := by decide +kernel
theorem dX7_were_67 : decode cX7_were 67 = .ok (.iload 6, 2) := by decide +kernel
theorem dX7_were_69 : decode cX7_were 69 = .ok (.bipush 6, 2) := by decide +kernel
theorem dX7_were_71 : decode cX7_were 71 = .ok (.if_icmp .ge 45, 3) := by decide +kernel
theorem dX7_were_74 : decode cX7_were 74 = .ok (.iload 5, 2) := by decide +kernel
theorem dX7_were_76 : decode cX7_were 76 = .ok (.aload_n 0, 1) := by decide +kernel
theorem dX7_were_77 : decode cX7_were 77 = .ok (.getfield 33, 3) := by decide +kernel
theorem dX7_were_80 : decode cX7_were 80 = .ok (.iload_n 1, 1) := by decide +kernel
theorem dX7_were_81 : decode cX7_were 81 = .ok (.iload_n 2, 1) := by decide +kernel
theorem dX7_were_82 : decode cX7_were 82 = .ok (.iload 6, 2) := by decide +kernel
theorem dX7_were_84 : decode cX7_were 84 = .ok (.invokevirtual 339, 3) := by decide +kernel
theorem dX7_were_87 : decode cX7_were 87 = .ok (.ifCond .eq 19, 3) := by decide +kernel
theorem dX7_were_90 : decode cX7_were 90 = .ok (.aload 4, 2) := by decide +kernel
theorem dX7_were_92 : decode cX7_were 92 = .ok (.iload_n 1, 1) := by decide +kernel
theorem dX7_were_93 : decode cX7_were 93 = .ok (.iload_n 2, 1) := by decide +kernel
theorem dX7_were_94 : decode cX7_were 94 = .ok (.iload 6, 2) := by decide +kernel
theorem dX7_were_96 : decode cX7_were 96 = .ok (.invokevirtual 339, 3) := by decide +kernel
theorem dX7_were_99 : decode cX7_were 99 = .ok (.ifCond .ne 7, 3) := by decide +kernel
theorem dX7_were_102 : decode cX7_were 102 = .ok (.iconst 1, 1) := by decide +kernel
theorem dX7_were_103 : decode cX7_were 103 = .ok (.goto 4, 3) := by decide +kernel
theorem dX7_were_106 : decode cX7_were 106 = .ok (.iconst 0, 1) := by decide +kernel
theorem dX7_were_107 : decode cX7_were 107 = .ok (.iadd, 1) := by decide +kernel
theorem dX7_were_108 : decode cX7_were 108 = .ok (.istore 5, 2) := by decide +kernel
theorem dX7_were_110 : decode cX7_were 110 = .ok (.iinc 6 1, 3) := by decide +kernel
theorem dX7_were_113 : decode cX7_were 113 = .ok (.goto (-46), 3) := by decide +kernel
theorem dX7_were_116 : decode cX7_were 116 = .ok (.aload_n 0, 1) := by decide +kernel
theorem dX7_were_117 : decode cX7_were 117 = .ok (.getfield 33, 3) := by decide +kernel
theorem dX7_were_120 : decode cX7_were 120 = .ok (.invokevirtual 168, 3) := by decide +kernel
theorem dX7_were_123 : decode cX7_were 123 = .ok (.aload_n 0, 1) := by decide +kernel
theorem dX7_were_124 : decode cX7_were 124 = .ok (.getfield 19, 3) := by decide +kernel
theorem dX7_were_127 : decode cX7_were 127 = .ok (.aload_n 0, 1) := by decide +kernel
theorem dX7_were_128 : decode cX7_were 128 = .ok (.getfield 33, 3) := by decide +kernel
theorem dX7_were_131 : decode cX7_were 131 = .ok (.getfield 171, 3) := by decide +kernel
theorem dX7_were_134 : decode cX7_were 134 = .ok (.i2l, 1) := by decide +kernel
theorem dX7_were_135 : decode cX7_were 135 = .ok (.iload 5, 2) := by decide +kernel
theorem dX7_were_137 : decode cX7_were 137 = .ok (.i2l, 1) := by decide +kernel
theorem dX7_were_138 : decode cX7_were 138 = .ok (.invokevirtual 120, 3) := by decide +kernel
theorem dX7_were_141 : decode cX7_were 141 = .ok (.aload_n 0, 1) := by decide +kernel
theorem dX7_were_142 : decode cX7_were 142 = .ok (.getfield 33, 3) := by decide +kernel
theorem dX7_were_145 : decode cX7_were 145 = .ok (.getfield 180, 3) := by decide +kernel
theorem dX7_were_148 : decode cX7_were 148 = .ok (.ireturn, 1) := by decide +kernel
theorem dX7_hangs_0 : decode cX7_hangs 0 = .ok (.aload_n 0, 1) := by decide +kernel
theorem dX7_hangs_1 : decode cX7_hangs 1 = .ok (.getfield 26, 3) := by decide +kernel
theorem dX7_hangs_4 : decode cX7_hangs 4 = .ok (.getfield 74, 3) := by decide +kernel
theorem dX7_hangs_7 : decode cX7_hangs 7 = .ok (.astore_n 2, 1) := by decide +kernel
theorem dX7_hangs_8 : decode cX7_hangs 8 = .ok (.aload_n 2, 1) := by decide +kernel
theorem dX7_hangs_9 : decode cX7_hangs 9 = .ok (.iload_n 1, 1) := by decide +kernel
theorem dX7_hangs_10 : decode cX7_hangs 10 = .ok (.invokevirtual 156, 3) := by decide +kernel
theorem dX7_hangs_13 : decode cX7_hangs 13 = .ok (.ifCond .ne 5, 3) := by decide +kernel
theorem dX7_hangs_16 : decode cX7_hangs 16 = .ok (.iconst (-1), 1) := by decide +kernel
theorem dX7_hangs_17 : decode cX7_hangs 17 = .ok (.ireturn, 1) := by decide +kernel
theorem dX7_hangs_18 : decode cX7_hangs 18 = .ok (.aload_n 2, 1) := by decide +kernel
theorem dX7_hangs_19 : decode cX7_hangs 19 = .ok (.iload_n 1, 1) := by decide +kernel
theorem dX7_hangs_20 : decode cX7_hangs 20 = .ok (.invokevirtual 159, 3) := by decide +kernel
theorem dX7_hangs_23 : decode cX7_hangs 23 = .ok (.ifCond .ne 6, 3) := by decide +kernel
theorem dX7_hangs_26 : decode cX7_hangs 26 = .ok (.bipush (-2), 2) := by decide +kernel
theorem dX7_hangs_28 : decode cX7_hangs 28 = .ok (.ireturn, 1) := by decide +kernel
theorem dX7_hangs_29 : decode cX7_hangs 29 = .ok (.iconst 0, 1) := by decide +kernel
theorem dX7_hangs_30 : decode cX7_hangs 30 = .ok (.istore_n 3, 1) := by decide +kernel
theorem dX7_hangs_31 : decode cX7_hangs 31 = .ok (.aload_n 0, 1) := by decide +kernel
theorem dX7_hangs_32 : decode cX7_hangs 32 = .ok (.getfield 19, 3) := by decide +kernel
theorem dX7_hangs_35 : decode cX7_hangs 35 = .ok (.invokevirtual 204, 3) := by decide +kernel
theorem dX7_hangs_38 : decode cX7_hangs 38 = .ok (.iconst 0, 1) := by decide +kernel
theorem dX7_hangs_39 : decode cX7_hangs 39 = .ok (.istore 4, 2) := by decide +kernel
theorem dX7_hangs_41 : decode cX7_hangs 41 = .ok (.iload 4, 2) := by decide +kernel
theorem dX7_hangs_43 : decode cX7_hangs 43 = .ok (.iconst 3, 1) := by decide +kernel
theorem dX7_hangs_44 : decode cX7_hangs 44 = .ok (.if_icmp .ge 53, 3) := by decide +kernel
theorem dX7_hangs_47 : decode cX7_hangs 47 = .ok (.aload_n 0, 1) := by decide +kernel
theorem dX7_hangs_48 : decode cX7_hangs 48 = .ok (.aload_n 2, 1) := by decide +kernel
theorem dX7_hangs_49 : decode cX7_hangs 49 = .ok (.iload_n 1, 1) := by decide +kernel
theorem dX7_hangs_50 : decode cX7_hangs 50 = .ok (.iload 4, 2) := by decide +kernel
theorem dX7_hangs_52 : decode cX7_hangs 52 = .ok (.invokevirtual 309, 3) := by decide +kernel
theorem dX7_hangs_55 : decode cX7_hangs 55 = .ok (.aload_n 2, 1) := by decide +kernel
theorem dX7_hangs_56 : decode cX7_hangs 56 = .ok (.iload_n 1, 1) := by decide +kernel
theorem dX7_hangs_57 : decode cX7_hangs 57 = .ok (.iload 4, 2) := by decide +kernel
theorem dX7_hangs_59 : decode cX7_hangs 59 = .ok (.invokevirtual 312, 3) := by decide +kernel
theorem dX7_hangs_62 : decode cX7_hangs 62 = .ok (.invokevirtual 342, 3) := by decide +kernel
theorem dX7_hangs_65 : decode cX7_hangs 65 = .ok (.istore 5, 2) := by decide +kernel
theorem dX7_hangs_67 : decode cX7_hangs 67 = .ok (.aload_n 0, 1) := by decide +kernel
theorem dX7_hangs_68 : decode cX7_hangs 68 = .ok (.getfield 19, 3) := by decide +kernel
theorem dX7_hangs_71 : decode cX7_hangs 71 = .ok (.iload 5, 2) := by decide +kernel
theorem dX7_hangs_73 : decode cX7_hangs 73 = .ok (.i2l, 1) := by decide +kernel
theorem dX7_hangs_74 : decode cX7_hangs 74 = .ok (.invokevirtual 214, 3) := by decide +kernel
theorem dX7_hangs_77 : decode cX7_hangs 77 = .ok (.iload_n 3, 1) := by decide +kernel
theorem dX7_hangs_78 : decode cX7_hangs 78 = .ok (.iload 5, 2) := by decide +kernel
theorem dX7_hangs_80 : decode cX7_hangs 80 = .ok (.iconst (-1), 1) := by decide +kernel
theorem dX7_hangs_81 : decode cX7_hangs 81 = .ok (.if_icmp .ne 7, 3) := by decide +kernel
theorem dX7_hangs_84 : decode cX7_hangs 84 = .ok (.iconst 0, 1) := by decide +kernel
theorem dX7_hangs_85 : decode cX7_hangs 85 = .ok (.goto 4, 3) := by decide +kernel
theorem dX7_hangs_88 : decode cX7_hangs 88 = .ok (.iconst 1, 1) := by decide +kernel
theorem dX7_hangs_89 : decode cX7_hangs 89 = .ok (.iadd, 1) := by decide +kernel
theorem dX7_hangs_90 : decode cX7_hangs 90 = .ok (.istore_n 3, 1) := by decide +kernel
theorem dX7_hangs_91 : decode cX7_hangs 91 = .ok (.iinc 4 1, 3) := by decide +kernel
theorem dX7_hangs_94 : decode cX7_hangs 94 = .ok (.goto (-53), 3) := by decide +kernel
theorem dX7_hangs_97 : decode cX7_hangs 97 = .ok (.iload_n 3, 1) := by decide +kernel
theorem dX7_hangs_98 : decode cX7_hangs 98 = .ok (.ireturn, 1) := by decide +kernel
theorem dX7_lone_0 : decode cX7_lone 0 = .ok (.aload_n 0, 1) := by decide +kernel
theorem dX7_lone_1 : decode cX7_lone 1 = .ok (.getfield 26, 3) := by decide +kernel
theorem dX7_lone_4 : decode cX7_lone 4 = .ok (.getfield 74, 3) := by decide +kernel
theorem dX7_lone_7 : decode cX7_lone 7 = .ok (.astore_n 1, 1) := by decide +kernel
theorem dX7_lone_8 : decode cX7_lone 8 = .ok (.aload_n 1, 1) := by decide +kernel
theorem dX7_lone_9 : decode cX7_lone 9 = .ok (.invokevirtual 345, 3) := by decide +kernel
theorem dX7_lone_12 : decode cX7_lone 12 = .ok (.istore_n 2, 1) := by decide +kernel
theorem dX7_lone_13 : decode cX7_lone 13 = .ok (.iload_n 2, 1) := by decide +kernel
theorem dX7_lone_14 : decode cX7_lone 14 = .ok (.iconst 1, 1) := by decide +kernel
theorem dX7_lone_15 : decode cX7_lone 15 = .ok (.if_icmp .ne 20, 3) := by decide +kernel
theorem dX7_lone_18 : decode cX7_lone 18 = .ok (.aload_n 0, 1) := by decide +kernel
theorem dX7_lone_19 : decode cX7_lone 19 = .ok (.getfield 19, 3) := by decide +kernel
theorem dX7_lone_22 : decode cX7_lone 22 = .ok (.iload_n 2, 1) := by decide +kernel
theorem dX7_lone_23 : decode cX7_lone 23 = .ok (.i2l, 1) := by decide +kernel
theorem dX7_lone_24 : decode cX7_lone 24 = .ok (.ldc2_w 348, 3) := by decide +kernel
theorem dX7_lone_27 : decode cX7_lone 27 = .ok (.ldc2_w 348, 3) := by decide +kernel
theorem dX7_lone_30 : decode cX7_lone 30 = .ok (.invokevirtual 150, 3) := by decide +kernel
theorem dX7_lone_33 : decode cX7_lone 33 = .ok (.iconst 0, 1) := by decide +kernel
theorem dX7_lone_34 : decode cX7_lone 34 = .ok (.ireturn, 1) := by decide +kernel
theorem dX7_lone_35 : decode cX7_lone 35 = .ok (.iconst 0, 1) := by decide +kernel
theorem dX7_lone_36 : decode cX7_lone 36 = .ok (.istore_n 3, 1) := by decide +kernel
theorem dX7_lone_37 : decode cX7_lone 37 = .ok (.iload_n 3, 1) := by decide +kernel
theorem dX7_lone_38 : decode cX7_lone 38 = .ok (.aload_n 1, 1) := by decide +kernel
theorem dX7_lone_39 : decode cX7_lone 39 = .ok (.getfield 198, 3) := by decide +kernel
theorem dX7_lone_42 : decode cX7_lone 42 = .ok (.if_icmp .gt 67, 3) := by decide +kernel
theorem dX7_lone_45 : decode cX7_lone 45 = .ok (.iconst 0, 1) := by decide +kernel
theorem dX7_lone_46 : decode cX7_lone 46 = .ok (.istore 4, 2) := by decide +kernel
theorem dX7_lone_48 : decode cX7_lone 48 = .ok (.iload 4, 2) := by decide +kernel
theorem dX7_lone_50 : decode cX7_lone 50 = .ok (.aload_n 1, 1) := by decide +kernel
theorem dX7_lone_51 : decode cX7_lone 51 = .ok (.getfield 198, 3) := by decide +kernel
theorem dX7_lone_54 : decode cX7_lone 54 = .ok (.iload_n 3, 1) := by decide +kernel
theorem dX7_lone_55 : decode cX7_lone 55 = .ok (.isub, 1) := by decide +kernel
theorem dX7_lone_56 : decode cX7_lone 56 = .ok (.if_icmp .gt 47, 3) := by decide +kernel
theorem dX7_lone_59 : decode cX7_lone 59 = .ok (.aload_n 0, 1) := by decide +kernel
theorem dX7_lone_60 : decode cX7_lone 60 = .ok (.iload_n 3, 1) := by decide +kernel
theorem dX7_lone_61 : decode cX7_lone 61 = .ok (.iload 4, 2) := by decide +kernel
theorem dX7_lone_63 : decode cX7_lone 63 = .ok (.iload_n 2, 1) := by decide +kernel
theorem dX7_lone_64 : decode cX7_lone 64 = .ok (.invokevirtual 350, 3) := by decide +kernel
theorem dX7_lone_67 : decode cX7_lone 67 = .ok (.istore 5, 2) := by decide +kernel
theorem dX7_lone_69 : decode cX7_lone 69 = .ok (.iload 5, 2) := by decide +kernel
theorem dX7_lone_71 : decode cX7_lone 71 = .ok (.iconst (-1), 1) := by decide +kernel
theorem dX7_lone_72 : decode cX7_lone 72 = .ok (.if_icmp .eq 25, 3) := by decide +kernel
theorem dX7_lone_75 : decode cX7_lone 75 = .ok (.aload_n 0, 1) := by decide +kernel
theorem dX7_lone_76 : decode cX7_lone 76 = .ok (.getfield 19, 3) := by decide +kernel
theorem dX7_lone_79 : decode cX7_lone 79 = .ok (.iload_n 2, 1) := by decide +kernel
theorem dX7_lone_80 : decode cX7_lone 80 = .ok (.i2l, 1) := by decide +kernel
theorem dX7_lone_81 : decode cX7_lone 81 = .ok (.aload_n 1, 1) := by decide +kernel
theorem dX7_lone_82 : decode cX7_lone 82 = .ok (.iload_n 3, 1) := by decide +kernel
theorem dX7_lone_83 : decode cX7_lone 83 = .ok (.iload 4, 2) := by decide +kernel
theorem dX7_lone_85 : decode cX7_lone 85 = .ok (.invokevirtual 153, 3) := by decide +kernel
theorem dX7_lone_88 : decode cX7_lone 88 = .ok (.i2l, 1) := by decide +kernel
theorem dX7_lone_89 : decode cX7_lone 89 = .ok (.iload 5, 2) := by decide +kernel
theorem dX7_lone_91 : decode cX7_lone 91 = .ok (.i2l, 1) := by decide +kernel
theorem dX7_lone_92 : decode cX7_lone 92 = .ok (.invokevirtual 150, 3) := by decide +kernel
theorem dX7_lone_95 : decode cX7_lone 95 = .ok (.iconst 1, 1) := by decide +kernel
theorem dX7_lone_96 : decode cX7_lone 96 = .ok (.ireturn, 1) := by decide +kernel
theorem dX7_lone_97 : decode cX7_lone 97 = .ok (.iinc 4 1, 3) := by decide +kernel
theorem dX7_lone_100 : decode cX7_lone 100 = .ok (.goto (-52), 3) := by decide +kernel
theorem dX7_lone_103 : decode cX7_lone 103 = .ok (.iinc 3 1, 3) := by decide +kernel
theorem dX7_lone_106 : decode cX7_lone 106 = .ok (.goto (-69), 3) := by decide +kernel
theorem dX7_lone_109 : decode cX7_lone 109 = .ok (.bipush (-2), 2) := by decide +kernel
theorem dX7_lone_111 : decode cX7_lone 111 = .ok (.ireturn, 1) := by decide +kernel
theorem dX7_lays_0 : decode cX7_lays 0 = .ok (.aload_n 0, 1) := by decide +kernel
theorem dX7_lays_1 : decode cX7_lays 1 = .ok (.getfield 47, 3) := by decide +kernel
theorem dX7_lays_4 : decode cX7_lays 4 = .ok (.aload_n 0, 1) := by decide +kernel
theorem dX7_lays_5 : decode cX7_lays 5 = .ok (.getfield 26, 3) := by decide +kernel
theorem dX7_lays_8 : decode cX7_lays 8 = .ok (.invokevirtual 67, 3) := by decide +kernel
theorem dX7_lays_11 : decode cX7_lays 11 = .ok (.aload_n 0, 1) := by decide +kernel
theorem dX7_lays_12 : decode cX7_lays 12 = .ok (.aload_n 0, 1) := by decide +kernel
theorem dX7_lays_13 : decode cX7_lays 13 = .ok (.iload_n 1, 1) := by decide +kernel
theorem dX7_lays_14 : decode cX7_lays 14 = .ok (.iload_n 2, 1) := by decide +kernel
theorem dX7_lays_15 : decode cX7_lays 15 = .ok (.iload_n 3, 1) := by decide +kernel
theorem dX7_lays_16 : decode cX7_lays 16 = .ok (.invokevirtual 353, 3) := by decide +kernel
theorem dX7_lays_19 : decode cX7_lays 19 = .ok (.invokevirtual 356, 3) := by decide +kernel
theorem dX7_lays_22 : decode cX7_lays 22 = .ok (.ireturn, 1) := by decide +kernel
theorem dX7_grid_0 : decode cX7_grid 0 = .ok (.aload_n 0, 1) := by decide +kernel
theorem dX7_grid_1 : decode cX7_grid 1 = .ok (.getfield 47, 3) := by decide +kernel
theorem dX7_grid_4 : decode cX7_grid 4 = .ok (.aload_n 0, 1) := by decide +kernel
theorem dX7_grid_5 : decode cX7_grid 5 = .ok (.getfield 26, 3) := by decide +kernel
theorem dX7_grid_8 : decode cX7_grid 8 = .ok (.invokevirtual 67, 3) := by decide +kernel
theorem dX7_grid_11 : decode cX7_grid 11 = .ok (.aload_n 0, 1) := by decide +kernel
theorem dX7_grid_12 : decode cX7_grid 12 = .ok (.aload_n 0, 1) := by decide +kernel
theorem dX7_grid_13 : decode cX7_grid 13 = .ok (.iload_n 1, 1) := by decide +kernel
theorem dX7_grid_14 : decode cX7_grid 14 = .ok (.invokevirtual 359, 3) := by decide +kernel
theorem dX7_grid_17 : decode cX7_grid 17 = .ok (.invokevirtual 356, 3) := by decide +kernel
theorem dX7_grid_20 : decode cX7_grid 20 = .ok (.ireturn, 1) := by decide +kernel
theorem dX7_swaps_0 : decode cX7_swaps 0 = .ok (.aload_n 0, 1) := by decide +kernel
theorem dX7_swaps_1 : decode cX7_swaps 1 = .ok (.getfield 47, 3) := by decide +kernel
theorem dX7_swaps_4 : decode cX7_swaps 4 = .ok (.aload_n 0, 1) := by decide +kernel
theorem dX7_swaps_5 : decode cX7_swaps 5 = .ok (.getfield 26, 3) := by decide +kernel
theorem dX7_swaps_8 : decode cX7_swaps 8 = .ok (.invokevirtual 67, 3) := by decide +kernel
theorem dX7_swaps_11 : decode cX7_swaps 11 = .ok (.aload_n 0, 1) := by decide +kernel
theorem dX7_swaps_12 : decode cX7_swaps 12 = .ok (.aload_n 0, 1) := by decide +kernel
theorem dX7_swaps_13 : decode cX7_swaps 13 = .ok (.iload_n 1, 1) := by decide +kernel
theorem dX7_swaps_14 : decode cX7_swaps 14 = .ok (.iload_n 2, 1) := by decide +kernel
theorem dX7_swaps_15 : decode cX7_swaps 15 = .ok (.iload_n 3, 1) := by decide +kernel
theorem dX7_swaps_16 : decode cX7_swaps 16 = .ok (.iload 4, 2) := by decide +kernel
theorem dX7_swaps_18 : decode cX7_swaps 18 = .ok (.invokevirtual 362, 3) := by decide +kernel
theorem dX7_swaps_21 : decode cX7_swaps 21 = .ok (.invokevirtual 356, 3) := by decide +kernel
theorem dX7_swaps_24 : decode cX7_swaps 24 = .ok (.ireturn, 1) := by decide +kernel
theorem dX7_amounts_0 : decode cX7_amounts 0 = .ok (.aload_n 0, 1) := by decide +kernel
theorem dX7_amounts_1 : decode cX7_amounts 1 = .ok (.getfield 47, 3) := by decide +kernel
theorem dX7_amounts_4 : decode cX7_amounts 4 = .ok (.aload_n 0, 1) := by decide +kernel
theorem dX7_amounts_5 : decode cX7_amounts 5 = .ok (.getfield 26, 3) := by decide +kernel
theorem dX7_amounts_8 : decode cX7_amounts 8 = .ok (.invokevirtual 67, 3) := by decide +kernel
theorem dX7_amounts_11 : decode cX7_amounts 11 = .ok (.aload_n 0, 1) := by decide +kernel
theorem dX7_amounts_12 : decode cX7_amounts 12 = .ok (.aload_n 0, 1) := by decide +kernel
theorem dX7_amounts_13 : decode cX7_amounts 13 = .ok (.iload_n 1, 1) := by decide +kernel
theorem dX7_amounts_14 : decode cX7_amounts 14 = .ok (.iload_n 2, 1) := by decide +kernel
theorem dX7_amounts_15 : decode cX7_amounts 15 = .ok (.iload_n 3, 1) := by decide +kernel
theorem dX7_amounts_16 : decode cX7_amounts 16 = .ok (.invokevirtual 365, 3) := by decide +kernel
theorem dX7_amounts_19 : decode cX7_amounts 19 = .ok (.invokevirtual 356, 3) := by decide +kernel
theorem dX7_amounts_22 : decode cX7_amounts 22 = .ok (.ireturn, 1) := by decide +kernel
theorem dX7_day_0 : decode cX7_day 0 = .ok (.aload_n 0, 1) := by decide +kernel
theorem dX7_day_1 : decode cX7_day 1 = .ok (.invokevirtual 368, 3) := by decide +kernel
theorem dX7_day_4 : decode cX7_day 4 = .ok (.istore_n 1, 1) := by decide +kernel
theorem dX7_day_5 : decode cX7_day 5 = .ok (.iload_n 1, 1) := by decide +kernel
theorem dX7_day_6 : decode cX7_day 6 = .ok (.iconst (-1), 1) := by decide +kernel
theorem dX7_day_7 : decode cX7_day 7 = .ok (.if_icmp .eq 15, 3) := by decide +kernel
theorem dX7_day_10 : decode cX7_day 10 = .ok (.aload_n 0, 1) := by decide +kernel
theorem dX7_day_11 : decode cX7_day 11 = .ok (.getfield 12, 3) := by decide +kernel
theorem dX7_day_14 : decode cX7_day 14 = .ok (.iconst 0, 1) := by decide +kernel
theorem dX7_day_15 : decode cX7_day 15 = .ok (.putfield 59, 3) := by decide +kernel
theorem dX7_day_18 : decode cX7_day 18 = .ok (.iconst (-1), 1) := by decide +kernel
theorem dX7_day_19 : decode cX7_day 19 = .ok (.iload_n 1, 1) := by decide +kernel
theorem dX7_day_20 : decode cX7_day 20 = .ok (.isub, 1) := by decide +kernel
theorem dX7_day_21 : decode cX7_day 21 = .ok (.ireturn, 1) := by decide +kernel
theorem dX7_day_22 : decode cX7_day 22 = .ok (.aload_n 0, 1) := by decide +kernel
theorem dX7_day_23 : decode cX7_day 23 = .ok (.getfield 47, 3) := by decide +kernel
theorem dX7_day_26 : decode cX7_day 26 = .ok (.aload_n 0, 1) := by decide +kernel
theorem dX7_day_27 : decode cX7_day 27 = .ok (.getfield 26, 3) := by decide +kernel
theorem dX7_day_30 : decode cX7_day 30 = .ok (.invokevirtual 67, 3) := by decide +kernel
theorem dX7_day_33 : decode cX7_day 33 = .ok (.iconst 0, 1) := by decide +kernel
theorem dX7_day_34 : decode cX7_day 34 = .ok (.istore_n 2, 1) := by decide +kernel
theorem dX7_day_35 : decode cX7_day 35 = .ok (.iconst 0, 1) := by decide +kernel
theorem dX7_day_36 : decode cX7_day 36 = .ok (.istore_n 3, 1) := by decide +kernel
theorem dX7_day_37 : decode cX7_day 37 = .ok (.iconst 0, 1) := by decide +kernel
theorem dX7_day_38 : decode cX7_day 38 = .ok (.istore 4, 2) := by decide +kernel
theorem dX7_day_40 : decode cX7_day 40 = .ok (.iload 4, 2) := by decide +kernel
theorem dX7_day_42 : decode cX7_day 42 = .ok (.aload_n 0, 1) := by decide +kernel
theorem dX7_day_43 : decode cX7_day 43 = .ok (.getfield 12, 3) := by decide +kernel
theorem dX7_day_46 : decode cX7_day 46 = .ok (.getfield 59, 3) := by decide +kernel
theorem dX7_day_49 : decode cX7_day 49 = .ok (.if_icmp .ge 56, 3) := by decide +kernel
theorem dX7_day_52 : decode cX7_day 52 = .ok (.iload_n 3, 1) := by decide +kernel
theorem dX7_day_53 : decode cX7_day 53 = .ok (.ifCond .ne 52, 3) := by decide +kernel
theorem dX7_day_56 : decode cX7_day 56 = .ok (.aload_n 0, 1) := by decide +kernel
theorem dX7_day_57 : decode cX7_day 57 = .ok (.iload 4, 2) := by decide +kernel
theorem dX7_day_59 : decode cX7_day 59 = .ok (.invokevirtual 371, 3) := by decide +kernel
theorem dX7_day_62 : decode cX7_day 62 = .ok (.ifCond .ge 7, 3) := by decide +kernel
theorem dX7_day_65 : decode cX7_day 65 = .ok (.iconst 1, 1) := by decide +kernel
theorem dX7_day_66 : decode cX7_day 66 = .ok (.goto 4, 3) := by decide +kernel
theorem dX7_day_69 : decode cX7_day 69 = .ok (.iconst 0, 1) := by decide +kernel
theorem dX7_day_70 : decode cX7_day 70 = .ok (.istore_n 3, 1) := by decide +kernel
theorem dX7_day_71 : decode cX7_day 71 = .ok (.iload_n 2, 1) := by decide +kernel
theorem dX7_day_72 : decode cX7_day 72 = .ok (.iload_n 3, 1) := by decide +kernel
theorem dX7_day_73 : decode cX7_day 73 = .ok (.ifCond .eq 7, 3) := by decide +kernel
theorem dX7_day_76 : decode cX7_day 76 = .ok (.iconst 0, 1) := by decide +kernel
theorem dX7_day_77 : decode cX7_day 77 = .ok (.goto 4, 3) := by decide +kernel
theorem dX7_day_80 : decode cX7_day 80 = .ok (.iconst 1, 1) := by decide +kernel
theorem dX7_day_81 : decode cX7_day 81 = .ok (.iadd, 1) := by decide +kernel
theorem dX7_day_82 : decode cX7_day 82 = .ok (.istore_n 2, 1) := by decide +kernel
theorem dX7_day_83 : decode cX7_day 83 = .ok (.iload 4, 2) := by decide +kernel
theorem dX7_day_85 : decode cX7_day 85 = .ok (.iconst 1, 1) := by decide +kernel
theorem dX7_day_86 : decode cX7_day 86 = .ok (.aload_n 0, 1) := by decide +kernel
theorem dX7_day_87 : decode cX7_day 87 = .ok (.getfield 12, 3) := by decide +kernel
theorem dX7_day_90 : decode cX7_day 90 = .ok (.iload 4, 2) := by decide +kernel
theorem dX7_day_92 : decode cX7_day 92 = .ok (.invokevirtual 374, 3) := by decide +kernel
theorem dX7_day_95 : decode cX7_day 95 = .ok (.invokestatic 376, 3) := by decide +kernel
theorem dX7_day_98 : decode cX7_day 98 = .ok (.iadd, 1) := by decide +kernel
theorem dX7_day_99 : decode cX7_day 99 = .ok (.iadd, 1) := by decide +kernel
theorem dX7_day_100 : decode cX7_day 100 = .ok (.istore 4, 2) := by decide +kernel
theorem dX7_day_102 : decode cX7_day 102 = .ok (.goto (-62), 3) := by decide +kernel
theorem dX7_day_105 : decode cX7_day 105 = .ok (.iload_n 2, 1) := by decide +kernel
theorem dX7_day_106 : decode cX7_day 106 = .ok (.ifCond .le 10, 3) := by decide +kernel
theorem dX7_day_109 : decode cX7_day 109 = .ok (.aload_n 0, 1) := by decide +kernel
theorem dX7_day_110 : decode cX7_day 110 = .ok (.getfield 47, 3) := by decide +kernel
theorem dX7_day_113 : decode cX7_day 113 = .ok (.invokevirtual 71, 3) := by decide +kernel
theorem dX7_day_116 : decode cX7_day 116 = .ok (.aload_n 0, 1) := by decide +kernel
theorem dX7_day_117 : decode cX7_day 117 = .ok (.getfield 12, 3) := by decide +kernel
theorem dX7_day_120 : decode cX7_day 120 = .ok (.iconst 0, 1) := by decide +kernel
theorem dX7_day_121 : decode cX7_day 121 = .ok (.putfield 59, 3) := by decide +kernel
theorem dX7_day_124 : decode cX7_day 124 = .ok (.aload_n 0, 1) := by decide +kernel
theorem dX7_day_125 : decode cX7_day 125 = .ok (.getfield 19, 3) := by decide +kernel
theorem dX7_day_128 : decode cX7_day 128 = .ok (.iload_n 3, 1) := by decide +kernel
theorem dX7_day_129 : decode cX7_day 129 = .ok (.ifCond .eq 7, 3) := by decide +kernel
theorem dX7_day_132 : decode cX7_day 132 = .ok (.lconst 1, 1) := by decide +kernel
theorem dX7_day_133 : decode cX7_day 133 = .ok (.goto 4, 3) := by decide +kernel
theorem dX7_day_136 : decode cX7_day 136 = .ok (.lconst 0, 1) := by decide +kernel
theorem dX7_day_137 : decode cX7_day 137 = .ok (.aload_n 0, 1) := by decide +kernel
theorem dX7_day_138 : decode cX7_day 138 = .ok (.getfield 26, 3) := by decide +kernel
theorem dX7_day_141 : decode cX7_day 141 = .ok (.getfield 74, 3) := by decide +kernel
theorem dX7_day_144 : decode cX7_day 144 = .ok (.invokevirtual 345, 3) := by decide +kernel
theorem dX7_day_147 : decode cX7_day 147 = .ok (.i2l, 1) := by decide +kernel
theorem dX7_day_148 : decode cX7_day 148 = .ok (.invokevirtual 120, 3) := by decide +kernel
theorem dX7_day_151 : decode cX7_day 151 = .ok (.iload_n 2, 1) := by decide +kernel
theorem dX7_day_152 : decode cX7_day 152 = .ok (.ireturn, 1) := by decide +kernel
theorem dX7_undo_0 : decode cX7_undo 0 = .ok (.aload_n 0, 1) := by decide +kernel
theorem dX7_undo_1 : decode cX7_undo 1 = .ok (.getfield 47, 3) := by decide +kernel
theorem dX7_undo_4 : decode cX7_undo 4 = .ok (.aload_n 0, 1) := by decide +kernel
theorem dX7_undo_5 : decode cX7_undo 5 = .ok (.getfield 26, 3) := by decide +kernel
theorem dX7_undo_8 : decode cX7_undo 8 = .ok (.invokevirtual 379, 3) := by decide +kernel
theorem dX7_undo_11 : decode cX7_undo 11 = .ok (.ifCond .eq 13, 3) := by decide +kernel
theorem dX7_undo_14 : decode cX7_undo 14 = .ok (.aload_n 0, 1) := by decide +kernel
theorem dX7_undo_15 : decode cX7_undo 15 = .ok (.getfield 47, 3) := by decide +kernel
theorem dX7_undo_18 : decode cX7_undo 18 = .ok (.getfield 383, 3) := by decide +kernel
theorem dX7_undo_21 : decode cX7_undo 21 = .ok (.goto 4, 3) := by decide +kernel
theorem dX7_undo_24 : decode cX7_undo 24 = .ok (.iconst (-1), 1) := by decide +kernel
theorem dX7_undo_25 : decode cX7_undo 25 = .ok (.ireturn, 1) := by decide +kernel
theorem dX7_years_0 : decode cX7_years 0 = .ok (.iload_n 2, 1) := by decide +kernel
theorem dX7_years_1 : decode cX7_years 1 = .ok (.iconst 1, 1) := by decide +kernel
theorem dX7_years_2 : decode cX7_years 2 = .ok (.if_icmp .lt 9, 3) := by decide +kernel
theorem dX7_years_5 : decode cX7_years 5 = .ok (.iload_n 2, 1) := by decide +kernel
theorem dX7_years_6 : decode cX7_years 6 = .ok (.bipush 40, 2) := by decide +kernel
theorem dX7_years_8 : decode cX7_years 8 = .ok (.if_icmp .le 5, 3) := by decide +kernel
theorem dX7_years_11 : decode cX7_years 11 = .ok (.iconst (-1), 1) := by decide +kernel
theorem dX7_years_12 : decode cX7_years 12 = .ok (.ireturn, 1) := by decide +kernel
theorem dX7_years_13 : decode cX7_years 13 = .ok (.aload_n 0, 1) := by decide +kernel
theorem dX7_years_14 : decode cX7_years 14 = .ok (.getfield 33, 3) := by decide +kernel
theorem dX7_years_17 : decode cX7_years 17 = .ok (.aload_n 0, 1) := by decide +kernel
theorem dX7_years_18 : decode cX7_years 18 = .ok (.getfield 26, 3) := by decide +kernel
theorem dX7_years_21 : decode cX7_years 21 = .ok (.getfield 74, 3) := by decide +kernel
theorem dX7_years_24 : decode cX7_years 24 = .ok (.invokevirtual 77, 3) := by decide +kernel
theorem dX7_years_27 : decode cX7_years 27 = .ok (.iload_n 1, 1) := by decide +kernel
theorem dX7_years_28 : decode cX7_years 28 = .ok (.istore_n 3, 1) := by decide +kernel
theorem dX7_years_29 : decode cX7_years 29 = .ok (.iconst 0, 1) := by decide +kernel
theorem dX7_years_30 : decode cX7_years 30 = .ok (.istore 4, 2) := by decide +kernel
theorem dX7_years_32 : decode cX7_years 32 = .ok (.iload 4, 2) := by decide +kernel
theorem dX7_years_34 : decode cX7_years 34 = .ok (.iload_n 2, 1) := by decide +kernel
theorem dX7_years_35 : decode cX7_years 35 = .ok (.if_icmp .ge 63, 3) := by decide +kernel
theorem dX7_years_38 : decode cX7_years 38 = .ok (.iload_n 3, 1) := by decide +kernel
theorem dX7_years_39 : decode cX7_years 39 = .ok (.invokestatic 384, 3) := by decide +kernel
theorem dX7_years_42 : decode cX7_years 42 = .ok (.istore_n 3, 1) := by decide +kernel
theorem dX7_years_43 : decode cX7_years 43 = .ok (.iload_n 3, 1) := by decide +kernel
theorem dX7_years_44 : decode cX7_years 44 = .ok (.aload_n 0, 1) := by decide +kernel
theorem dX7_years_45 : decode cX7_years 45 = .ok (.getfield 33, 3) := by decide +kernel
theorem dX7_years_48 : decode cX7_years 48 = .ok (.invokevirtual 90, 3) := by decide +kernel
theorem dX7_years_51 : decode cX7_years 51 = .ok (.invokestatic 387, 3) := by decide +kernel
theorem dX7_years_54 : decode cX7_years 54 = .ok (.istore 5, 2) := by decide +kernel
theorem dX7_years_56 : decode cX7_years 56 = .ok (.iload_n 3, 1) := by decide +kernel
theorem dX7_years_57 : decode cX7_years 57 = .ok (.invokestatic 384, 3) := by decide +kernel
theorem dX7_years_60 : decode cX7_years 60 = .ok (.istore_n 3, 1) := by decide +kernel
theorem dX7_years_61 : decode cX7_years 61 = .ok (.aload_n 0, 1) := by decide +kernel
theorem dX7_years_62 : decode cX7_years 62 = .ok (.getfield 33, 3) := by decide +kernel
theorem dX7_years_65 : decode cX7_years 65 = .ok (.aload_n 0, 1) := by decide +kernel
theorem dX7_years_66 : decode cX7_years 66 = .ok (.getfield 33, 3) := by decide +kernel
theorem dX7_years_69 : decode cX7_years 69 = .ok (.iload 5, 2) := by decide +kernel
theorem dX7_years_71 : decode cX7_years 71 = .ok (.invokevirtual 390, 3) := by decide +kernel
theorem dX7_years_74 : decode cX7_years 74 = .ok (.aload_n 0, 1) := by decide +kernel
theorem dX7_years_75 : decode cX7_years 75 = .ok (.getfield 33, 3) := by decide +kernel
theorem dX7_years_78 : decode cX7_years 78 = .ok (.iload 5, 2) := by decide +kernel
theorem dX7_years_80 : decode cX7_years 80 = .ok (.invokevirtual 393, 3) := by decide +kernel
theorem dX7_years_83 : decode cX7_years 83 = .ok (.iload_n 3, 1) := by decide +kernel
theorem dX7_years_84 : decode cX7_years 84 = .ok (.iconst 3, 1) := by decide +kernel
theorem dX7_years_85 : decode cX7_years 85 = .ok (.invokestatic 387, 3) := by decide +kernel
theorem dX7_years_88 : decode cX7_years 88 = .ok (.invokevirtual 396, 3) := by decide +kernel
theorem dX7_years_91 : decode cX7_years 91 = .ok (.pop, 1) := by decide +kernel
theorem dX7_years_92 : decode cX7_years 92 = .ok (.iinc 4 1, 3) := by decide +kernel
theorem dX7_years_95 : decode cX7_years 95 = .ok (.goto (-63), 3) := by decide +kernel
theorem dX7_years_98 : decode cX7_years 98 = .ok (.aload_n 0, 1) := by decide +kernel
theorem dX7_years_99 : decode cX7_years 99 = .ok (.getfield 33, 3) := by decide +kernel
theorem dX7_years_102 : decode cX7_years 102 = .ok (.invokevirtual 168, 3) := by decide +kernel
theorem dX7_years_105 : decode cX7_years 105 = .ok (.aload_n 0, 1) := by decide +kernel
theorem dX7_years_106 : decode cX7_years 106 = .ok (.getfield 19, 3) := by decide +kernel
theorem dX7_years_109 : decode cX7_years 109 = .ok (.aload_n 0, 1) := by decide +kernel
theorem dX7_years_110 : decode cX7_years 110 = .ok (.getfield 33, 3) := by decide +kernel
theorem dX7_years_113 : decode cX7_years 113 = .ok (.getfield 171, 3) := by decide +kernel
theorem dX7_years_116 : decode cX7_years 116 = .ok (.i2l, 1) := by decide +kernel
theorem dX7_years_117 : decode cX7_years 117 = .ok (.aload_n 0, 1) := by decide +kernel
theorem dX7_years_118 : decode cX7_years 118 = .ok (.getfield 40, 3) := by decide +kernel
theorem dX7_years_121 : decode cX7_years 121 = .ok (.aload_n 0, 1) := by decide +kernel
theorem dX7_years_122 : decode cX7_years 122 = .ok (.getfield 33, 3) := by decide +kernel
theorem dX7_years_125 : decode cX7_years 125 = .ok (.iconst 0, 1) := by decide +kernel
theorem dX7_years_126 : decode cX7_years 126 = .ok (.invokevirtual 399, 3) := by decide +kernel
theorem dX7_years_129 : decode cX7_years 129 = .ok (.i2l, 1) := by decide +kernel
theorem dX7_years_130 : decode cX7_years 130 = .ok (.aload_n 0, 1) := by decide +kernel
theorem dX7_years_131 : decode cX7_years 131 = .ok (.getfield 40, 3) := by decide +kernel
theorem dX7_years_134 : decode cX7_years 134 = .ok (.aload_n 0, 1) := by decide +kernel
theorem dX7_years_135 : decode cX7_years 135 = .ok (.getfield 33, 3) := by decide +kernel
theorem dX7_years_138 : decode cX7_years 138 = .ok (.iconst 1, 1) := by decide +kernel
theorem dX7_years_139 : decode cX7_years 139 = .ok (.invokevirtual 399, 3) := by decide +kernel
theorem dX7_years_142 : decode cX7_years 142 = .ok (.i2l, 1) := by decide +kernel
theorem dX7_years_143 : decode cX7_years 143 = .ok (.aload_n 0, 1) := by decide +kernel
theorem dX7_years_144 : decode cX7_years 144 = .ok (.getfield 40, 3) := by decide +kernel
theorem dX7_years_147 : decode cX7_years 147 = .ok (.aload_n 0, 1) := by decide +kernel
theorem dX7_years_148 : decode cX7_years 148 = .ok (.getfield 33, 3) := by decide +kernel
theorem dX7_years_151 : decode cX7_years 151 = .ok (.iconst 2, 1) := by decide +kernel
theorem dX7_years_152 : decode cX7_years 152 = .ok (.invokevirtual 399, 3) := by decide +kernel
theorem dX7_years_155 : decode cX7_years 155 = .ok (.i2l, 1) := by decide +kernel
theorem dX7_years_156 : decode cX7_years 156 = .ok (.invokevirtual 165, 3) := by decide +kernel
theorem dX7_years_159 : decode cX7_years 159 = .ok (.aload_n 0, 1) := by decide +kernel
theorem dX7_years_160 : decode cX7_years 160 = .ok (.getfield 33, 3) := by decide +kernel
theorem dX7_years_163 : decode cX7_years 163 = .ok (.getfield 180, 3) := by decide +kernel
theorem dX7_years_166 : decode cX7_years 166 = .ok (.ireturn, 1) := by decide +kernel
theorem dX7_keep_0 : decode cX7_keep 0 = .ok (.iload_n 1, 1) := by decide +kernel
theorem dX7_keep_1 : decode cX7_keep 1 = .ok (.ifCond .lt 8, 3) := by decide +kernel
theorem dX7_keep_4 : decode cX7_keep 4 = .ok (.iload_n 1, 1) := by decide +kernel
theorem dX7_keep_5 : decode cX7_keep 5 = .ok (.iconst 2, 1) := by decide +kernel
theorem dX7_keep_6 : decode cX7_keep 6 = .ok (.if_icmp .lt 5, 3) := by decide +kernel
theorem dX7_keep_9 : decode cX7_keep 9 = .ok (.iconst 0, 1) := by decide +kernel
theorem dX7_keep_10 : decode cX7_keep 10 = .ok (.ireturn, 1) := by decide +kernel
theorem dX7_keep_11 : decode cX7_keep 11 = .ok (.aload_n 0, 1) := by decide +kernel
theorem dX7_keep_12 : decode cX7_keep 12 = .ok (.getfield 51, 3) := by decide +kernel
theorem dX7_keep_15 : decode cX7_keep 15 = .ok (.iload_n 1, 1) := by decide +kernel
theorem dX7_keep_16 : decode cX7_keep 16 = .ok (.aaload, 1) := by decide +kernel
theorem dX7_keep_17 : decode cX7_keep 17 = .ok (.ifnonnull 16, 3) := by decide +kernel
theorem dX7_keep_20 : decode cX7_keep 20 = .ok (.aload_n 0, 1) := by decide +kernel
theorem dX7_keep_21 : decode cX7_keep 21 = .ok (.getfield 51, 3) := by decide +kernel
theorem dX7_keep_24 : decode cX7_keep 24 = .ok (.iload_n 1, 1) := by decide +kernel
theorem dX7_keep_25 : decode cX7_keep 25 = .ok (.new 23, 3) := by decide +kernel
theorem dX7_keep_28 : decode cX7_keep 28 = .ok (.dup, 1) := by decide +kernel
theorem dX7_keep_29 : decode cX7_keep 29 = .ok (.invokespecial 25, 3) := by decide +kernel
theorem dX7_keep_32 : decode cX7_keep 32 = .ok (.aastore, 1) := by decide +kernel
theorem dX7_keep_33 : decode cX7_keep 33 = .ok (.aload_n 0, 1) := by decide +kernel
theorem dX7_keep_34 : decode cX7_keep 34 = .ok (.getfield 51, 3) := by decide +kernel
theorem dX7_keep_37 : decode cX7_keep 37 = .ok (.iload_n 1, 1) := by decide +kernel
theorem dX7_keep_38 : decode cX7_keep 38 = .ok (.aaload, 1) := by decide +kernel
theorem dX7_keep_39 : decode cX7_keep 39 = .ok (.aload_n 0, 1) := by decide +kernel
theorem dX7_keep_40 : decode cX7_keep 40 = .ok (.getfield 26, 3) := by decide +kernel
theorem dX7_keep_43 : decode cX7_keep 43 = .ok (.invokevirtual 402, 3) := by decide +kernel
theorem dX7_keep_46 : decode cX7_keep 46 = .ok (.iconst 1, 1) := by decide +kernel
theorem dX7_keep_47 : decode cX7_keep 47 = .ok (.ireturn, 1) := by decide +kernel
theorem dX7_again_0 : decode cX7_again 0 = .ok (.iload_n 1, 1) := by decide +kernel
theorem dX7_again_1 : decode cX7_again 1 = .ok (.ifCond .lt 17, 3) := by decide +kernel
theorem dX7_again_4 : decode cX7_again 4 = .ok (.iload_n 1, 1) := by decide +kernel
theorem dX7_again_5 : decode cX7_again 5 = .ok (.iconst 2, 1) := by decide +kernel
theorem dX7_again_6 : decode cX7_again 6 = .ok (.if_icmp .ge 12, 3) := by decide +kernel
theorem dX7_again_9 : decode cX7_again 9 = .ok (.aload_n 0, 1) := by decide +kernel
theorem dX7_again_10 : decode cX7_again 10 = .ok (.getfield 51, 3) := by decide +kernel
theorem dX7_again_13 : decode cX7_again 13 = .ok (.iload_n 1, 1) := by decide +kernel
theorem dX7_again_14 : decode cX7_again 14 = .ok (.aaload, 1) := by decide +kernel
theorem dX7_again_15 : decode cX7_again 15 = .ok (.ifnonnull 5, 3) := by decide +kernel
theorem dX7_again_18 : decode cX7_again 18 = .ok (.iconst 0, 1) := by decide +kernel
theorem dX7_again_19 : decode cX7_again 19 = .ok (.ireturn, 1) := by decide +kernel
theorem dX7_again_20 : decode cX7_again 20 = .ok (.aload_n 0, 1) := by decide +kernel
theorem dX7_again_21 : decode cX7_again 21 = .ok (.getfield 26, 3) := by decide +kernel
theorem dX7_again_24 : decode cX7_again 24 = .ok (.aload_n 0, 1) := by decide +kernel
theorem dX7_again_25 : decode cX7_again 25 = .ok (.getfield 51, 3) := by decide +kernel
theorem dX7_again_28 : decode cX7_again 28 = .ok (.iload_n 1, 1) := by decide +kernel
theorem dX7_again_29 : decode cX7_again 29 = .ok (.aaload, 1) := by decide +kernel
theorem dX7_again_30 : decode cX7_again 30 = .ok (.invokevirtual 402, 3) := by decide +kernel
theorem dX7_again_33 : decode cX7_again 33 = .ok (.aload_n 0, 1) := by decide +kernel
theorem dX7_again_34 : decode cX7_again 34 = .ok (.getfield 47, 3) := by decide +kernel
theorem dX7_again_37 : decode cX7_again 37 = .ok (.iconst 0, 1) := by decide +kernel
theorem dX7_again_38 : decode cX7_again 38 = .ok (.putfield 383, 3) := by decide +kernel
theorem dX7_again_41 : decode cX7_again 41 = .ok (.iconst 1, 1) := by decide +kernel
theorem dX7_again_42 : decode cX7_again 42 = .ok (.ireturn, 1) := by decide +kernel
theorem dX7_count_0 : decode cX7_count 0 = .ok (.iload_n 1, 1) := by decide +kernel
theorem dX7_count_1 : decode cX7_count 1 = .ok (.tableswitch 170 0 8 #[51, 62, 73, 95, 106, 135, 146, 154, 162], 51) := by decide +kernel
theorem dX7_count_52 : decode cX7_count 52 = .ok (.aload_n 0, 1) := by decide +kernel
theorem dX7_count_53 : decode cX7_count 53 = .ok (.getfield 26, 3) := by decide +kernel
theorem dX7_count_56 : decode cX7_count 56 = .ok (.getfield 74, 3) := by decide +kernel
theorem dX7_count_59 : decode cX7_count 59 = .ok (.getfield 198, 3) := by decide +kernel
theorem dX7_count_62 : decode cX7_count 62 = .ok (.ireturn, 1) := by decide +kernel
theorem dX7_count_63 : decode cX7_count 63 = .ok (.aload_n 0, 1) := by decide +kernel
theorem dX7_count_64 : decode cX7_count 64 = .ok (.getfield 26, 3) := by decide +kernel
theorem dX7_count_67 : decode cX7_count 67 = .ok (.getfield 74, 3) := by decide +kernel
theorem dX7_count_70 : decode cX7_count 70 = .ok (.invokevirtual 90, 3) := by decide +kernel
theorem dX7_count_73 : decode cX7_count 73 = .ok (.ireturn, 1) := by decide +kernel
theorem dX7_count_74 : decode cX7_count 74 = .ok (.aload_n 0, 1) := by decide +kernel
theorem dX7_count_75 : decode cX7_count 75 = .ok (.getfield 26, 3) := by decide +kernel
theorem dX7_count_78 : decode cX7_count 78 = .ok (.getfield 74, 3) := by decide +kernel
theorem dX7_count_81 : decode cX7_count 81 = .ok (.getfield 198, 3) := by decide +kernel
theorem dX7_count_84 : decode cX7_count 84 = .ok (.aload_n 0, 1) := by decide +kernel
theorem dX7_count_85 : decode cX7_count 85 = .ok (.getfield 26, 3) := by decide +kernel
theorem dX7_count_88 : decode cX7_count 88 = .ok (.getfield 74, 3) := by decide +kernel
theorem dX7_count_91 : decode cX7_count 91 = .ok (.getfield 198, 3) := by decide +kernel
theorem dX7_count_94 : decode cX7_count 94 = .ok (.imul, 1) := by decide +kernel
theorem dX7_count_95 : decode cX7_count 95 = .ok (.ireturn, 1) := by decide +kernel
theorem dX7_count_96 : decode cX7_count 96 = .ok (.aload_n 0, 1) := by decide +kernel
theorem dX7_count_97 : decode cX7_count 97 = .ok (.getfield 26, 3) := by decide +kernel
theorem dX7_count_100 : decode cX7_count 100 = .ok (.getfield 81, 3) := by decide +kernel
theorem dX7_count_103 : decode cX7_count 103 = .ok (.getfield 85, 3) := by decide +kernel
theorem dX7_count_106 : decode cX7_count 106 = .ok (.ireturn, 1) := by decide +kernel
theorem dX7_count_107 : decode cX7_count 107 = .ok (.aload_n 0, 1) := by decide +kernel
theorem dX7_count_108 : decode cX7_count 108 = .ok (.getfield 26, 3) := by decide +kernel
theorem dX7_count_111 : decode cX7_count 111 = .ok (.getfield 81, 3) := by decide +kernel
theorem dX7_count_114 : decode cX7_count 114 = .ok (.getfield 85, 3) := by decide +kernel
theorem dX7_count_117 : decode cX7_count 117 = .ok (.iconst 1, 1) := by decide +kernel
theorem dX7_count_118 : decode cX7_count 118 = .ok (.if_icmp .ne 16, 3) := by decide +kernel
theorem dX7_count_121 : decode cX7_count 121 = .ok (.aload_n 0, 1) := by decide +kernel
theorem dX7_count_122 : decode cX7_count 122 = .ok (.getfield 26, 3) := by decide +kernel
theorem dX7_count_125 : decode cX7_count 125 = .ok (.getfield 81, 3) := by decide +kernel
theorem dX7_count_128 : decode cX7_count 128 = .ok (.getfield 319, 3) := by decide +kernel
theorem dX7_count_131 : decode cX7_count 131 = .ok (.goto 4, 3) := by decide +kernel
theorem dX7_count_134 : decode cX7_count 134 = .ok (.iconst 0, 1) := by decide +kernel
theorem dX7_count_135 : decode cX7_count 135 = .ok (.ireturn, 1) := by decide +kernel
theorem dX7_count_136 : decode cX7_count 136 = .ok (.aload_n 0, 1) := by decide +kernel
theorem dX7_count_137 : decode cX7_count 137 = .ok (.getfield 26, 3) := by decide +kernel
theorem dX7_count_140 : decode cX7_count 140 = .ok (.getfield 74, 3) := by decide +kernel
theorem dX7_count_143 : decode cX7_count 143 = .ok (.invokevirtual 345, 3) := by decide +kernel
theorem dX7_count_146 : decode cX7_count 146 = .ok (.ireturn, 1) := by decide +kernel
theorem dX7_count_147 : decode cX7_count 147 = .ok (.aload_n 0, 1) := by decide +kernel
theorem dX7_count_148 : decode cX7_count 148 = .ok (.getfield 47, 3) := by decide +kernel
theorem dX7_count_151 : decode cX7_count 151 = .ok (.getfield 383, 3) := by decide +kernel
theorem dX7_count_154 : decode cX7_count 154 = .ok (.ireturn, 1) := by decide +kernel
theorem dX7_count_155 : decode cX7_count 155 = .ok (.aload_n 0, 1) := by decide +kernel
theorem dX7_count_156 : decode cX7_count 156 = .ok (.getfield 19, 3) := by decide +kernel
theorem dX7_count_159 : decode cX7_count 159 = .ok (.getfield 293, 3) := by decide +kernel
theorem dX7_count_162 : decode cX7_count 162 = .ok (.ireturn, 1) := by decide +kernel
theorem dX7_count_163 : decode cX7_count 163 = .ok (.aload_n 0, 1) := by decide +kernel
theorem dX7_count_164 : decode cX7_count 164 = .ok (.getfield 12, 3) := by decide +kernel
theorem dX7_count_167 : decode cX7_count 167 = .ok (.getfield 59, 3) := by decide +kernel
theorem dX7_count_170 : decode cX7_count 170 = .ok (.ireturn, 1) := by decide +kernel
theorem dX7_count_171 : decode cX7_count 171 = .ok (.iconst (-1), 1) := by decide +kernel
theorem dX7_count_172 : decode cX7_count 172 = .ok (.ireturn, 1) := by decide +kernel
theorem dX7_row_0 : decode cX7_row 0 = .ok (.iload_n 1, 1) := by decide +kernel
theorem dX7_row_1 : decode cX7_row 1 = .ok (.ifCond .lt 14, 3) := by decide +kernel
theorem dX7_row_4 : decode cX7_row 4 = .ok (.iload_n 1, 1) := by decide +kernel
theorem dX7_row_5 : decode cX7_row 5 = .ok (.aload_n 0, 1) := by decide +kernel
theorem dX7_row_6 : decode cX7_row 6 = .ok (.getfield 19, 3) := by decide +kernel
theorem dX7_row_9 : decode cX7_row 9 = .ok (.getfield 293, 3) := by decide +kernel
theorem dX7_row_12 : decode cX7_row 12 = .ok (.if_icmp .lt 14, 3) := by decide +kernel
theorem dX7_row_15 : decode cX7_row 15 = .ok (.new 136, 3) := by decide +kernel
theorem dX7_row_18 : decode cX7_row 18 = .ok (.dup, 1) := by decide +kernel
theorem dX7_row_19 : decode cX7_row 19 = .ok (.ldc_w 404, 3) := by decide +kernel
theorem dX7_row_22 : decode cX7_row 22 = .ok (.invokespecial 140, 3) := by decide +kernel
theorem dX7_row_25 : decode cX7_row 25 = .ok (.athrow, 1) := by decide +kernel
theorem dX7_row_26 : decode cX7_row 26 = .ok (.aload_n 0, 1) := by decide +kernel
theorem dX7_row_27 : decode cX7_row 27 = .ok (.getfield 19, 3) := by decide +kernel
theorem dX7_row_30 : decode cX7_row 30 = .ok (.iload_n 1, 1) := by decide +kernel
theorem dX7_row_31 : decode cX7_row 31 = .ok (.invokevirtual 294, 3) := by decide +kernel
theorem dX7_row_34 : decode cX7_row 34 = .ok (.lreturn, 1) := by decide +kernel
theorem dX7_readLabels_0 : decode cX7_readLabels 0 = .ok (.aload_n 0, 1) := by decide +kernel
theorem dX7_readLabels_1 : decode cX7_readLabels 1 = .ok (.getfield 12, 3) := by decide +kernel
theorem dX7_readLabels_4 : decode cX7_readLabels 4 = .ok (.iconst 0, 1) := by decide +kernel
theorem dX7_readLabels_5 : decode cX7_readLabels 5 = .ok (.invokevirtual 406, 3) := by decide +kernel
theorem dX7_readLabels_8 : decode cX7_readLabels 8 = .ok (.iconst (-1), 1) := by decide +kernel
theorem dX7_readLabels_9 : decode cX7_readLabels 9 = .ok (.if_icmp .ne 5, 3) := by decide +kernel
theorem dX7_readLabels_12 : decode cX7_readLabels 12 = .ok (.iconst 0, 1) := by decide +kernel
theorem dX7_readLabels_13 : decode cX7_readLabels 13 = .ok (.ireturn, 1) := by decide +kernel
theorem dX7_readLabels_14 : decode cX7_readLabels 14 = .ok (.aload_n 0, 1) := by decide +kernel
theorem dX7_readLabels_15 : decode cX7_readLabels 15 = .ok (.getfield 12, 3) := by decide +kernel
theorem dX7_readLabels_18 : decode cX7_readLabels 18 = .ok (.iconst 1, 1) := by decide +kernel
theorem dX7_readLabels_19 : decode cX7_readLabels 19 = .ok (.invokevirtual 406, 3) := by decide +kernel
theorem dX7_readLabels_22 : decode cX7_readLabels 22 = .ok (.iconst (-1), 1) := by decide +kernel
theorem dX7_readLabels_23 : decode cX7_readLabels 23 = .ok (.if_icmp .eq 28, 3) := by decide +kernel
theorem dX7_readLabels_26 : decode cX7_readLabels 26 = .ok (.aload_n 0, 1) := by decide +kernel
theorem dX7_readLabels_27 : decode cX7_readLabels 27 = .ok (.getfield 12, 3) := by decide +kernel
theorem dX7_readLabels_30 : decode cX7_readLabels 30 = .ok (.iconst 0, 1) := by decide +kernel
theorem dX7_readLabels_31 : decode cX7_readLabels 31 = .ok (.invokevirtual 409, 3) := by decide +kernel
theorem dX7_readLabels_34 : decode cX7_readLabels 34 = .ok (.iconst 1, 1) := by decide +kernel
theorem dX7_readLabels_35 : decode cX7_readLabels 35 = .ok (.if_icmp .lt 16, 3) := by decide +kernel
theorem dX7_readLabels_38 : decode cX7_readLabels 38 = .ok (.aload_n 0, 1) := by decide +kernel
theorem dX7_readLabels_39 : decode cX7_readLabels 39 = .ok (.getfield 12, 3) := by decide +kernel
theorem dX7_readLabels_42 : decode cX7_readLabels 42 = .ok (.iconst 0, 1) := by decide +kernel
theorem dX7_readLabels_43 : decode cX7_readLabels 43 = .ok (.invokevirtual 409, 3) := by decide +kernel
theorem dX7_readLabels_46 : decode cX7_readLabels 46 = .ok (.bipush 10, 2) := by decide +kernel
theorem dX7_readLabels_48 : decode cX7_readLabels 48 = .ok (.if_icmp .le 5, 3) := by decide +kernel
theorem dX7_readLabels_51 : decode cX7_readLabels 51 = .ok (.iconst 1, 1) := by decide +kernel
theorem dX7_readLabels_52 : decode cX7_readLabels 52 = .ok (.ireturn, 1) := by decide +kernel
theorem dX7_readLabels_53 : decode cX7_readLabels 53 = .ok (.aload_n 0, 1) := by decide +kernel
theorem dX7_readLabels_54 : decode cX7_readLabels 54 = .ok (.getfield 33, 3) := by decide +kernel
theorem dX7_readLabels_57 : decode cX7_readLabels 57 = .ok (.aload_n 0, 1) := by decide +kernel
theorem dX7_readLabels_58 : decode cX7_readLabels 58 = .ok (.getfield 12, 3) := by decide +kernel
theorem dX7_readLabels_61 : decode cX7_readLabels 61 = .ok (.iconst 0, 1) := by decide +kernel
theorem dX7_readLabels_62 : decode cX7_readLabels 62 = .ok (.invokevirtual 409, 3) := by decide +kernel
theorem dX7_readLabels_65 : decode cX7_readLabels 65 = .ok (.putfield 198, 3) := by decide +kernel
theorem dX7_readLabels_68 : decode cX7_readLabels 68 = .ok (.iconst 2, 1) := by decide +kernel
theorem dX7_readLabels_69 : decode cX7_readLabels 69 = .ok (.istore_n 1, 1) := by decide +kernel
theorem dX7_readLabels_70 : decode cX7_readLabels 70 = .ok (.iconst 0, 1) := by decide +kernel
theorem dX7_readLabels_71 : decode cX7_readLabels 71 = .ok (.istore_n 2, 1) := by decide +kernel
theorem dX7_readLabels_72 : decode cX7_readLabels 72 = .ok (.iload_n 2, 1) := by decide +kernel
theorem dX7_readLabels_73 : decode cX7_readLabels 73 = .ok (.aload_n 0, 1) := by decide +kernel
theorem dX7_readLabels_74 : decode cX7_readLabels 74 = .ok (.getfield 33, 3) := by decide +kernel
theorem dX7_readLabels_77 : decode cX7_readLabels 77 = .ok (.getfield 198, 3) := by decide +kernel
theorem dX7_readLabels_80 : decode cX7_readLabels 80 = .ok (.if_icmp .gt 72, 3) := by decide +kernel
theorem dX7_readLabels_83 : decode cX7_readLabels 83 = .ok (.iconst 0, 1) := by decide +kernel
theorem dX7_readLabels_84 : decode cX7_readLabels 84 = .ok (.istore_n 3, 1) := by decide +kernel
theorem dX7_readLabels_85 : decode cX7_readLabels 85 = .ok (.iload_n 3, 1) := by decide +kernel
theorem dX7_readLabels_86 : decode cX7_readLabels 86 = .ok (.aload_n 0, 1) := by decide +kernel
theorem dX7_readLabels_87 : decode cX7_readLabels 87 = .ok (.getfield 33, 3) := by decide +kernel
theorem dX7_readLabels_90 : decode cX7_readLabels 90 = .ok (.getfield 198, 3) := by decide +kernel
theorem dX7_readLabels_93 : decode cX7_readLabels 93 = .ok (.iload_n 2, 1) := by decide +kernel
theorem dX7_readLabels_94 : decode cX7_readLabels 94 = .ok (.isub, 1) := by decide +kernel
theorem dX7_readLabels_95 : decode cX7_readLabels 95 = .ok (.if_icmp .gt 51, 3) := by decide +kernel
theorem dX7_readLabels_98 : decode cX7_readLabels 98 = .ok (.aload_n 0, 1) := by decide +kernel
theorem dX7_readLabels_99 : decode cX7_readLabels 99 = .ok (.getfield 33, 3) := by decide +kernel
theorem dX7_readLabels_102 : decode cX7_readLabels 102 = .ok (.iload_n 2, 1) := by decide +kernel
theorem dX7_readLabels_103 : decode cX7_readLabels 103 = .ok (.iload_n 3, 1) := by decide +kernel
theorem dX7_readLabels_104 : decode cX7_readLabels 104 = .ok (.aload_n 0, 1) := by decide +kernel
theorem dX7_readLabels_105 : decode cX7_readLabels 105 = .ok (.getfield 12, 3) := by decide +kernel
theorem dX7_readLabels_108 : decode cX7_readLabels 108 = .ok (.iload_n 1, 1) := by decide +kernel
theorem dX7_readLabels_109 : decode cX7_readLabels 109 = .ok (.invokevirtual 406, 3) := by decide +kernel
theorem dX7_readLabels_112 : decode cX7_readLabels 112 = .ok (.invokevirtual 331, 3) := by decide +kernel
theorem dX7_readLabels_115 : decode cX7_readLabels 115 = .ok (.ifCond .ne 5, 3) := by decide +kernel
theorem dX7_readLabels_118 : decode cX7_readLabels 118 = .ok (.iload_n 1, 1) := by decide +kernel
theorem dX7_readLabels_119 : decode cX7_readLabels 119 = .ok (.ireturn, 1) := by decide +kernel
theorem dX7_readLabels_120 : decode cX7_readLabels 120 = .ok (.aload_n 0, 1) := by decide +kernel
theorem dX7_readLabels_121 : decode cX7_readLabels 121 = .ok (.getfield 33, 3) := by decide +kernel
theorem dX7_readLabels_124 : decode cX7_readLabels 124 = .ok (.iload_n 2, 1) := by decide +kernel
theorem dX7_readLabels_125 : decode cX7_readLabels 125 = .ok (.iload_n 3, 1) := by decide +kernel
theorem dX7_readLabels_126 : decode cX7_readLabels 126 = .ok (.aload_n 0, 1) := by decide +kernel
theorem dX7_readLabels_127 : decode cX7_readLabels 127 = .ok (.getfield 12, 3) := by decide +kernel
theorem dX7_readLabels_130 : decode cX7_readLabels 130 = .ok (.iload_n 1, 1) := by decide +kernel
theorem dX7_readLabels_131 : decode cX7_readLabels 131 = .ok (.invokevirtual 406, 3) := by decide +kernel
theorem dX7_readLabels_134 : decode cX7_readLabels 134 = .ok (.invokevirtual 335, 3) := by decide +kernel
theorem dX7_readLabels_137 : decode cX7_readLabels 137 = .ok (.iinc 1 1, 3) := by decide +kernel
theorem dX7_readLabels_140 : decode cX7_readLabels 140 = .ok (.iinc 3 1, 3) := by decide +kernel
theorem dX7_readLabels_143 : decode cX7_readLabels 143 = .ok (.goto (-58), 3) := by decide +kernel
theorem dX7_readLabels_146 : decode cX7_readLabels 146 = .ok (.iinc 2 1, 3) := by decide +kernel
theorem dX7_readLabels_149 : decode cX7_readLabels 149 = .ok (.goto (-77), 3) := by decide +kernel
theorem dX7_readLabels_152 : decode cX7_readLabels 152 = .ok (.iload_n 1, 1) := by decide +kernel
theorem dX7_readLabels_153 : decode cX7_readLabels 153 = .ok (.aload_n 0, 1) := by decide +kernel
theorem dX7_readLabels_154 : decode cX7_readLabels 154 = .ok (.getfield 12, 3) := by decide +kernel
theorem dX7_readLabels_157 : decode cX7_readLabels 157 = .ok (.getfield 59, 3) := by decide +kernel
theorem dX7_readLabels_160 : decode cX7_readLabels 160 = .ok (.if_icmp .ge 7, 3) := by decide +kernel
theorem dX7_readLabels_163 : decode cX7_readLabels 163 = .ok (.iload_n 1, 1) := by decide +kernel
theorem dX7_readLabels_164 : decode cX7_readLabels 164 = .ok (.goto 4, 3) := by decide +kernel
theorem dX7_readLabels_167 : decode cX7_readLabels 167 = .ok (.iconst (-1), 1) := by decide +kernel
theorem dX7_readLabels_168 : decode cX7_readLabels 168 = .ok (.ireturn, 1) := by decide +kernel
theorem dX7_wrongInExchange_0 : decode cX7_wrongInExchange 0 = .ok (.iconst 0, 1) := by decide +kernel
theorem dX7_wrongInExchange_1 : decode cX7_wrongInExchange 1 = .ok (.istore_n 1, 1) := by decide +kernel
theorem dX7_wrongInExchange_2 : decode cX7_wrongInExchange 2 = .ok (.iload_n 1, 1) := by decide +kernel
theorem dX7_wrongInExchange_3 : decode cX7_wrongInExchange 3 = .ok (.iconst 4, 1) := by decide +kernel
theorem dX7_wrongInExchange_4 : decode cX7_wrongInExchange 4 = .ok (.if_icmp .ge 101, 3) := by decide +kernel
theorem dX7_wrongInExchange_7 : decode cX7_wrongInExchange 7 = .ok (.bipush 7, 2) := by decide +kernel
theorem dX7_wrongInExchange_9 : decode cX7_wrongInExchange 9 = .ok (.iload_n 1, 1) := by decide +kernel
theorem dX7_wrongInExchange_10 : decode cX7_wrongInExchange 10 = .ok (.imul, 1) := by decide +kernel
theorem dX7_wrongInExchange_11 : decode cX7_wrongInExchange 11 = .ok (.istore_n 2, 1) := by decide +kernel
theorem dX7_wrongInExchange_12 : decode cX7_wrongInExchange 12 = .ok (.iload_n 2, 1) := by decide +kernel
theorem dX7_wrongInExchange_13 : decode cX7_wrongInExchange 13 = .ok (.bipush 7, 2) := by decide +kernel
theorem dX7_wrongInExchange_15 : decode cX7_wrongInExchange 15 = .ok (.iadd, 1) := by decide +kernel
theorem dX7_wrongInExchange_16 : decode cX7_wrongInExchange 16 = .ok (.iconst 1, 1) := by decide +kernel
theorem dX7_wrongInExchange_17 : decode cX7_wrongInExchange 17 = .ok (.isub, 1) := by decide +kernel
theorem dX7_wrongInExchange_18 : decode cX7_wrongInExchange 18 = .ok (.istore_n 3, 1) := by decide +kernel
theorem dX7_wrongInExchange_19 : decode cX7_wrongInExchange 19 = .ok (.iload_n 2, 1) := by decide +kernel
theorem dX7_wrongInExchange_20 : decode cX7_wrongInExchange 20 = .ok (.istore 4, 2) := by decide +kernel
theorem dX7_wrongInExchange_22 : decode cX7_wrongInExchange 22 = .ok (.iload 4, 2) := by decide +kernel
theorem dX7_wrongInExchange_24 : decode cX7_wrongInExchange 24 = .ok (.iload_n 3, 1) := by decide +kernel
theorem dX7_wrongInExchange_25 : decode cX7_wrongInExchange 25 = .ok (.if_icmp .ge 41, 3) := by decide +kernel
theorem dX7_wrongInExchange_28 : decode cX7_wrongInExchange 28 = .ok (.iload 4, 2) := by decide +kernel
theorem dX7_wrongInExchange_30 : decode cX7_wrongInExchange 30 = .ok (.iload_n 2, 1) := by decide +kernel
theorem dX7_wrongInExchange_31 : decode cX7_wrongInExchange 31 = .ok (.isub, 1) := by decide +kernel
theorem dX7_wrongInExchange_32 : decode cX7_wrongInExchange 32 = .ok (.iconst 3, 1) := by decide +kernel
theorem dX7_wrongInExchange_33 : decode cX7_wrongInExchange 33 = .ok (.if_icmp .ge 7, 3) := by decide +kernel
theorem dX7_wrongInExchange_36 : decode cX7_wrongInExchange 36 = .ok (.iconst 0, 1) := by decide +kernel
theorem dX7_wrongInExchange_37 : decode cX7_wrongInExchange 37 = .ok (.goto 4, 3) := by decide +kernel
theorem dX7_wrongInExchange_40 : decode cX7_wrongInExchange 40 = .ok (.iconst 1, 1) := by decide +kernel
theorem dX7_wrongInExchange_41 : decode cX7_wrongInExchange 41 = .ok (.istore 5, 2) := by decide +kernel
theorem dX7_wrongInExchange_43 : decode cX7_wrongInExchange 43 = .ok (.aload_n 0, 1) := by decide +kernel
theorem dX7_wrongInExchange_44 : decode cX7_wrongInExchange 44 = .ok (.getfield 12, 3) := by decide +kernel
theorem dX7_wrongInExchange_47 : decode cX7_wrongInExchange 47 = .ok (.iload 4, 2) := by decide +kernel
theorem dX7_wrongInExchange_49 : decode cX7_wrongInExchange 49 = .ok (.invokevirtual 406, 3) := by decide +kernel
theorem dX7_wrongInExchange_52 : decode cX7_wrongInExchange 52 = .ok (.iload 5, 2) := by decide +kernel
theorem dX7_wrongInExchange_54 : decode cX7_wrongInExchange 54 = .ok (.if_icmp .ge 6, 3) := by decide +kernel
theorem dX7_wrongInExchange_57 : decode cX7_wrongInExchange 57 = .ok (.iload 4, 2) := by decide +kernel
theorem dX7_wrongInExchange_59 : decode cX7_wrongInExchange 59 = .ok (.ireturn, 1) := by decide +kernel
theorem dX7_wrongInExchange_60 : decode cX7_wrongInExchange 60 = .ok (.iinc 4 1, 3) := by decide +kernel
theorem dX7_wrongInExchange_63 : decode cX7_wrongInExchange 63 = .ok (.goto (-41), 3) := by decide +kernel
theorem dX7_wrongInExchange_66 : decode cX7_wrongInExchange 66 = .ok (.iload_n 3, 1) := by decide +kernel
theorem dX7_wrongInExchange_67 : decode cX7_wrongInExchange 67 = .ok (.aload_n 0, 1) := by decide +kernel
theorem dX7_wrongInExchange_68 : decode cX7_wrongInExchange 68 = .ok (.getfield 12, 3) := by decide +kernel
theorem dX7_wrongInExchange_71 : decode cX7_wrongInExchange 71 = .ok (.getfield 59, 3) := by decide +kernel
theorem dX7_wrongInExchange_74 : decode cX7_wrongInExchange 74 = .ok (.if_icmp .ne 5, 3) := by decide +kernel
theorem dX7_wrongInExchange_77 : decode cX7_wrongInExchange 77 = .ok (.iconst (-1), 1) := by decide +kernel
theorem dX7_wrongInExchange_78 : decode cX7_wrongInExchange 78 = .ok (.ireturn, 1) := by decide +kernel
theorem dX7_wrongInExchange_79 : decode cX7_wrongInExchange 79 = .ok (.aload_n 0, 1) := by decide +kernel
theorem dX7_wrongInExchange_80 : decode cX7_wrongInExchange 80 = .ok (.getfield 12, 3) := by decide +kernel
theorem dX7_wrongInExchange_83 : decode cX7_wrongInExchange 83 = .ok (.iload_n 3, 1) := by decide +kernel
theorem dX7_wrongInExchange_84 : decode cX7_wrongInExchange 84 = .ok (.invokevirtual 374, 3) := by decide +kernel
theorem dX7_wrongInExchange_87 : decode cX7_wrongInExchange 87 = .ok (.bipush 59, 2) := by decide +kernel
theorem dX7_wrongInExchange_89 : decode cX7_wrongInExchange 89 = .ok (.if_icmp .ne 8, 3) := by decide +kernel
theorem dX7_wrongInExchange_92 : decode cX7_wrongInExchange 92 = .ok (.iload_n 1, 1) := by decide +kernel
theorem dX7_wrongInExchange_93 : decode cX7_wrongInExchange 93 = .ok (.iconst 3, 1) := by decide +kernel
theorem dX7_wrongInExchange_94 : decode cX7_wrongInExchange 94 = .ok (.if_icmp .ne 5, 3) := by decide +kernel
theorem dX7_wrongInExchange_97 : decode cX7_wrongInExchange 97 = .ok (.iload_n 3, 1) := by decide +kernel
theorem dX7_wrongInExchange_98 : decode cX7_wrongInExchange 98 = .ok (.ireturn, 1) := by decide +kernel
theorem dX7_wrongInExchange_99 : decode cX7_wrongInExchange 99 = .ok (.iinc 1 1, 3) := by decide +kernel
theorem dX7_wrongInExchange_102 : decode cX7_wrongInExchange 102 = .ok (.goto (-100), 3) := by decide +kernel
theorem dX7_wrongInExchange_105 : decode cX7_wrongInExchange 105 = .ok (.iconst (-1), 1) := by decide +kernel
theorem dX7_wrongInExchange_106 : decode cX7_wrongInExchange 106 = .ok (.ireturn, 1) := by decide +kernel
theorem dX7_wrongInMap_0 : decode cX7_wrongInMap 0 = .ok (.iconst 0, 1) := by decide +kernel
theorem dX7_wrongInMap_1 : decode cX7_wrongInMap 1 = .ok (.istore_n 1, 1) := by decide +kernel
theorem dX7_wrongInMap_2 : decode cX7_wrongInMap 2 = .ok (.iload_n 1, 1) := by decide +kernel
theorem dX7_wrongInMap_3 : decode cX7_wrongInMap 3 = .ok (.bipush 9, 2) := by decide +kernel
theorem dX7_wrongInMap_5 : decode cX7_wrongInMap 5 = .ok (.if_icmp .ge 23, 3) := by decide +kernel
theorem dX7_wrongInMap_8 : decode cX7_wrongInMap 8 = .ok (.aload_n 0, 1) := by decide +kernel
theorem dX7_wrongInMap_9 : decode cX7_wrongInMap 9 = .ok (.getfield 12, 3) := by decide +kernel
theorem dX7_wrongInMap_12 : decode cX7_wrongInMap 12 = .ok (.iload_n 1, 1) := by decide +kernel
theorem dX7_wrongInMap_13 : decode cX7_wrongInMap 13 = .ok (.invokevirtual 406, 3) := by decide +kernel
theorem dX7_wrongInMap_16 : decode cX7_wrongInMap 16 = .ok (.iconst (-1), 1) := by decide +kernel
theorem dX7_wrongInMap_17 : decode cX7_wrongInMap 17 = .ok (.if_icmp .ne 5, 3) := by decide +kernel
theorem dX7_wrongInMap_20 : decode cX7_wrongInMap 20 = .ok (.iload_n 1, 1) := by decide +kernel
theorem dX7_wrongInMap_21 : decode cX7_wrongInMap 21 = .ok (.ireturn, 1) := by decide +kernel
theorem dX7_wrongInMap_22 : decode cX7_wrongInMap 22 = .ok (.iinc 1 1, 3) := by decide +kernel
theorem dX7_wrongInMap_25 : decode cX7_wrongInMap 25 = .ok (.goto (-23), 3) := by decide +kernel
theorem dX7_wrongInMap_28 : decode cX7_wrongInMap 28 = .ok (.aload_n 0, 1) := by decide +kernel
theorem dX7_wrongInMap_29 : decode cX7_wrongInMap 29 = .ok (.getfield 12, 3) := by decide +kernel
theorem dX7_wrongInMap_32 : decode cX7_wrongInMap 32 = .ok (.getfield 59, 3) := by decide +kernel
theorem dX7_wrongInMap_35 : decode cX7_wrongInMap 35 = .ok (.bipush 9, 2) := by decide +kernel
theorem dX7_wrongInMap_37 : decode cX7_wrongInMap 37 = .ok (.if_icmp .le 8, 3) := by decide +kernel
theorem dX7_wrongInMap_40 : decode cX7_wrongInMap 40 = .ok (.bipush 9, 2) := by decide +kernel
theorem dX7_wrongInMap_42 : decode cX7_wrongInMap 42 = .ok (.goto 4, 3) := by decide +kernel
theorem dX7_wrongInMap_45 : decode cX7_wrongInMap 45 = .ok (.iconst (-1), 1) := by decide +kernel
theorem dX7_wrongInMap_46 : decode cX7_wrongInMap 46 = .ok (.ireturn, 1) := by decide +kernel
theorem dX7_sumOfMap_0 : decode cX7_sumOfMap 0 = .ok (.aload_n 0, 1) := by decide +kernel
theorem dX7_sumOfMap_1 : decode cX7_sumOfMap 1 = .ok (.getfield 12, 3) := by decide +kernel
theorem dX7_sumOfMap_4 : decode cX7_sumOfMap 4 = .ok (.iconst 0, 1) := by decide +kernel
theorem dX7_sumOfMap_5 : decode cX7_sumOfMap 5 = .ok (.invokevirtual 406, 3) := by decide +kernel
theorem dX7_sumOfMap_8 : decode cX7_sumOfMap 8 = .ok (.aload_n 0, 1) := by decide +kernel
theorem dX7_sumOfMap_9 : decode cX7_sumOfMap 9 = .ok (.getfield 12, 3) := by decide +kernel
theorem dX7_sumOfMap_12 : decode cX7_sumOfMap 12 = .ok (.iconst 3, 1) := by decide +kernel
theorem dX7_sumOfMap_13 : decode cX7_sumOfMap 13 = .ok (.invokevirtual 406, 3) := by decide +kernel
theorem dX7_sumOfMap_16 : decode cX7_sumOfMap 16 = .ok (.iadd, 1) := by decide +kernel
theorem dX7_sumOfMap_17 : decode cX7_sumOfMap 17 = .ok (.aload_n 0, 1) := by decide +kernel
theorem dX7_sumOfMap_18 : decode cX7_sumOfMap 18 = .ok (.getfield 12, 3) := by decide +kernel
theorem dX7_sumOfMap_21 : decode cX7_sumOfMap 21 = .ok (.bipush 6, 2) := by decide +kernel
theorem dX7_sumOfMap_23 : decode cX7_sumOfMap 23 = .ok (.invokevirtual 406, 3) := by decide +kernel
theorem dX7_sumOfMap_26 : decode cX7_sumOfMap 26 = .ok (.iadd, 1) := by decide +kernel
theorem dX7_sumOfMap_27 : decode cX7_sumOfMap 27 = .ok (.istore_n 1, 1) := by decide +kernel
theorem dX7_sumOfMap_28 : decode cX7_sumOfMap 28 = .ok (.iconst 1, 1) := by decide +kernel
theorem dX7_sumOfMap_29 : decode cX7_sumOfMap 29 = .ok (.istore_n 2, 1) := by decide +kernel
theorem dX7_sumOfMap_30 : decode cX7_sumOfMap 30 = .ok (.iload_n 2, 1) := by decide +kernel
theorem dX7_sumOfMap_31 : decode cX7_sumOfMap 31 = .ok (.iconst 3, 1) := by decide +kernel
theorem dX7_sumOfMap_32 : decode cX7_sumOfMap 32 = .ok (.if_icmp .ge 46, 3) := by decide +kernel
theorem dX7_sumOfMap_35 : decode cX7_sumOfMap 35 = .ok (.aload_n 0, 1) := by decide +kernel
theorem dX7_sumOfMap_36 : decode cX7_sumOfMap 36 = .ok (.getfield 12, 3) := by decide +kernel
theorem dX7_sumOfMap_39 : decode cX7_sumOfMap 39 = .ok (.iload_n 2, 1) := by decide +kernel
theorem dX7_sumOfMap_40 : decode cX7_sumOfMap 40 = .ok (.invokevirtual 406, 3) := by decide +kernel
theorem dX7_sumOfMap_43 : decode cX7_sumOfMap 43 = .ok (.aload_n 0, 1) := by decide +kernel
theorem dX7_sumOfMap_44 : decode cX7_sumOfMap 44 = .ok (.getfield 12, 3) := by decide +kernel
theorem dX7_sumOfMap_47 : decode cX7_sumOfMap 47 = .ok (.iload_n 2, 1) := by decide +kernel
theorem dX7_sumOfMap_48 : decode cX7_sumOfMap 48 = .ok (.iconst 3, 1) := by decide +kernel
theorem dX7_sumOfMap_49 : decode cX7_sumOfMap 49 = .ok (.iadd, 1) := by decide +kernel
theorem dX7_sumOfMap_50 : decode cX7_sumOfMap 50 = .ok (.invokevirtual 406, 3) := by decide +kernel
theorem dX7_sumOfMap_53 : decode cX7_sumOfMap 53 = .ok (.iadd, 1) := by decide +kernel
theorem dX7_sumOfMap_54 : decode cX7_sumOfMap 54 = .ok (.aload_n 0, 1) := by decide +kernel
theorem dX7_sumOfMap_55 : decode cX7_sumOfMap 55 = .ok (.getfield 12, 3) := by decide +kernel
theorem dX7_sumOfMap_58 : decode cX7_sumOfMap 58 = .ok (.iload_n 2, 1) := by decide +kernel
theorem dX7_sumOfMap_59 : decode cX7_sumOfMap 59 = .ok (.bipush 6, 2) := by decide +kernel
theorem dX7_sumOfMap_61 : decode cX7_sumOfMap 61 = .ok (.iadd, 1) := by decide +kernel
theorem dX7_sumOfMap_62 : decode cX7_sumOfMap 62 = .ok (.invokevirtual 406, 3) := by decide +kernel
theorem dX7_sumOfMap_65 : decode cX7_sumOfMap 65 = .ok (.iadd, 1) := by decide +kernel
theorem dX7_sumOfMap_66 : decode cX7_sumOfMap 66 = .ok (.iload_n 1, 1) := by decide +kernel
theorem dX7_sumOfMap_67 : decode cX7_sumOfMap 67 = .ok (.if_icmp .eq 5, 3) := by decide +kernel
theorem dX7_sumOfMap_70 : decode cX7_sumOfMap 70 = .ok (.iconst (-1), 1) := by decide +kernel
theorem dX7_sumOfMap_71 : decode cX7_sumOfMap 71 = .ok (.ireturn, 1) := by decide +kernel
theorem dX7_sumOfMap_72 : decode cX7_sumOfMap 72 = .ok (.iinc 2 1, 3) := by decide +kernel
theorem dX7_sumOfMap_75 : decode cX7_sumOfMap 75 = .ok (.goto (-45), 3) := by decide +kernel
theorem dX7_sumOfMap_78 : decode cX7_sumOfMap 78 = .ok (.iload_n 1, 1) := by decide +kernel
theorem dX7_sumOfMap_79 : decode cX7_sumOfMap 79 = .ok (.ireturn, 1) := by decide +kernel
theorem dX7_wrongInDay_0 : decode cX7_wrongInDay 0 = .ok (.iconst 0, 1) := by decide +kernel
theorem dX7_wrongInDay_1 : decode cX7_wrongInDay 1 = .ok (.istore_n 1, 1) := by decide +kernel
theorem dX7_wrongInDay_2 : decode cX7_wrongInDay 2 = .ok (.iload_n 1, 1) := by decide +kernel
theorem dX7_wrongInDay_3 : decode cX7_wrongInDay 3 = .ok (.aload_n 0, 1) := by decide +kernel
theorem dX7_wrongInDay_4 : decode cX7_wrongInDay 4 = .ok (.getfield 12, 3) := by decide +kernel
theorem dX7_wrongInDay_7 : decode cX7_wrongInDay 7 = .ok (.getfield 59, 3) := by decide +kernel
theorem dX7_wrongInDay_10 : decode cX7_wrongInDay 10 = .ok (.if_icmp .ge 61, 3) := by decide +kernel
theorem dX7_wrongInDay_13 : decode cX7_wrongInDay 13 = .ok (.aload_n 0, 1) := by decide +kernel
theorem dX7_wrongInDay_14 : decode cX7_wrongInDay 14 = .ok (.getfield 12, 3) := by decide +kernel
theorem dX7_wrongInDay_17 : decode cX7_wrongInDay 17 = .ok (.iload_n 1, 1) := by decide +kernel
theorem dX7_wrongInDay_18 : decode cX7_wrongInDay 18 = .ok (.invokevirtual 374, 3) := by decide +kernel
theorem dX7_wrongInDay_21 : decode cX7_wrongInDay 21 = .ok (.invokestatic 376, 3) := by decide +kernel
theorem dX7_wrongInDay_24 : decode cX7_wrongInDay 24 = .ok (.istore_n 2, 1) := by decide +kernel
theorem dX7_wrongInDay_25 : decode cX7_wrongInDay 25 = .ok (.iload_n 2, 1) := by decide +kernel
theorem dX7_wrongInDay_26 : decode cX7_wrongInDay 26 = .ok (.ifCond .ne 5, 3) := by decide +kernel
theorem dX7_wrongInDay_29 : decode cX7_wrongInDay 29 = .ok (.iload_n 1, 1) := by decide +kernel
theorem dX7_wrongInDay_30 : decode cX7_wrongInDay 30 = .ok (.ireturn, 1) := by decide +kernel
theorem dX7_wrongInDay_31 : decode cX7_wrongInDay 31 = .ok (.iconst 1, 1) := by decide +kernel
theorem dX7_wrongInDay_32 : decode cX7_wrongInDay 32 = .ok (.istore_n 3, 1) := by decide +kernel
theorem dX7_wrongInDay_33 : decode cX7_wrongInDay 33 = .ok (.iload_n 3, 1) := by decide +kernel
theorem dX7_wrongInDay_34 : decode cX7_wrongInDay 34 = .ok (.iload_n 2, 1) := by decide +kernel
theorem dX7_wrongInDay_35 : decode cX7_wrongInDay 35 = .ok (.if_icmp .gt 27, 3) := by decide +kernel
theorem dX7_wrongInDay_38 : decode cX7_wrongInDay 38 = .ok (.aload_n 0, 1) := by decide +kernel
theorem dX7_wrongInDay_39 : decode cX7_wrongInDay 39 = .ok (.getfield 12, 3) := by decide +kernel
theorem dX7_wrongInDay_42 : decode cX7_wrongInDay 42 = .ok (.iload_n 1, 1) := by decide +kernel
theorem dX7_wrongInDay_43 : decode cX7_wrongInDay 43 = .ok (.iload_n 3, 1) := by decide +kernel
theorem dX7_wrongInDay_44 : decode cX7_wrongInDay 44 = .ok (.iadd, 1) := by decide +kernel
theorem dX7_wrongInDay_45 : decode cX7_wrongInDay 45 = .ok (.invokevirtual 406, 3) := by decide +kernel
theorem dX7_wrongInDay_48 : decode cX7_wrongInDay 48 = .ok (.iconst (-1), 1) := by decide +kernel
theorem dX7_wrongInDay_49 : decode cX7_wrongInDay 49 = .ok (.if_icmp .ne 7, 3) := by decide +kernel
theorem dX7_wrongInDay_52 : decode cX7_wrongInDay 52 = .ok (.iload_n 1, 1) := by decide +kernel
theorem dX7_wrongInDay_53 : decode cX7_wrongInDay 53 = .ok (.iload_n 3, 1) := by decide +kernel
theorem dX7_wrongInDay_54 : decode cX7_wrongInDay 54 = .ok (.iadd, 1) := by decide +kernel
theorem dX7_wrongInDay_55 : decode cX7_wrongInDay 55 = .ok (.ireturn, 1) := by decide +kernel
theorem dX7_wrongInDay_56 : decode cX7_wrongInDay 56 = .ok (.iinc 3 1, 3) := by decide +kernel
theorem dX7_wrongInDay_59 : decode cX7_wrongInDay 59 = .ok (.goto (-26), 3) := by decide +kernel
theorem dX7_wrongInDay_62 : decode cX7_wrongInDay 62 = .ok (.iload_n 1, 1) := by decide +kernel
theorem dX7_wrongInDay_63 : decode cX7_wrongInDay 63 = .ok (.iconst 1, 1) := by decide +kernel
theorem dX7_wrongInDay_64 : decode cX7_wrongInDay 64 = .ok (.iload_n 2, 1) := by decide +kernel
theorem dX7_wrongInDay_65 : decode cX7_wrongInDay 65 = .ok (.iadd, 1) := by decide +kernel
theorem dX7_wrongInDay_66 : decode cX7_wrongInDay 66 = .ok (.iadd, 1) := by decide +kernel
theorem dX7_wrongInDay_67 : decode cX7_wrongInDay 67 = .ok (.istore_n 1, 1) := by decide +kernel
theorem dX7_wrongInDay_68 : decode cX7_wrongInDay 68 = .ok (.goto (-66), 3) := by decide +kernel
theorem dX7_wrongInDay_71 : decode cX7_wrongInDay 71 = .ok (.iconst (-1), 1) := by decide +kernel
theorem dX7_wrongInDay_72 : decode cX7_wrongInDay 72 = .ok (.ireturn, 1) := by decide +kernel
theorem dX7_digitsOfAct_0 : decode cX7_digitsOfAct 0 = .ok (.iload_n 0, 1) := by decide +kernel
theorem dX7_digitsOfAct_1 : decode cX7_digitsOfAct 1 = .ok (.lookupswitch 52 #[(97, 50), (103, 45), (108, 43), (115, 47)], 43) := by decide +kernel
theorem dX7_digitsOfAct_44 : decode cX7_digitsOfAct 44 = .ok (.iconst 5, 1) := by decide +kernel
theorem dX7_digitsOfAct_45 : decode cX7_digitsOfAct 45 = .ok (.ireturn, 1) := by decide +kernel
theorem dX7_digitsOfAct_46 : decode cX7_digitsOfAct 46 = .ok (.iconst 2, 1) := by decide +kernel
theorem dX7_digitsOfAct_47 : decode cX7_digitsOfAct 47 = .ok (.ireturn, 1) := by decide +kernel
theorem dX7_digitsOfAct_48 : decode cX7_digitsOfAct 48 = .ok (.bipush 8, 2) := by decide +kernel
theorem dX7_digitsOfAct_50 : decode cX7_digitsOfAct 50 = .ok (.ireturn, 1) := by decide +kernel
theorem dX7_digitsOfAct_51 : decode cX7_digitsOfAct 51 = .ok (.iconst 3, 1) := by decide +kernel
theorem dX7_digitsOfAct_52 : decode cX7_digitsOfAct 52 = .ok (.ireturn, 1) := by decide +kernel
theorem dX7_digitsOfAct_53 : decode cX7_digitsOfAct 53 = .ok (.iconst 0, 1) := by decide +kernel
theorem dX7_digitsOfAct_54 : decode cX7_digitsOfAct 54 = .ok (.ireturn, 1) := by decide +kernel
theorem dX7_doAct_0 : decode cX7_doAct 0 = .ok (.aload_n 0, 1) := by decide +kernel
theorem dX7_doAct_1 : decode cX7_doAct 1 = .ok (.getfield 12, 3) := by decide +kernel
theorem dX7_doAct_4 : decode cX7_doAct 4 = .ok (.iload_n 1, 1) := by decide +kernel
theorem dX7_doAct_5 : decode cX7_doAct 5 = .ok (.invokevirtual 374, 3) := by decide +kernel
theorem dX7_doAct_8 : decode cX7_doAct 8 = .ok (.lookupswitch 175 #[(97, 140), (103, 79), (108, 44), (115, 94)], 44) := by decide +kernel
theorem dX7_doAct_52 : decode cX7_doAct 52 = .ok (.aload_n 0, 1) := by decide +kernel
theorem dX7_doAct_53 : decode cX7_doAct 53 = .ok (.aload_n 0, 1) := by decide +kernel
theorem dX7_doAct_54 : decode cX7_doAct 54 = .ok (.getfield 12, 3) := by decide +kernel
theorem dX7_doAct_57 : decode cX7_doAct 57 = .ok (.iload_n 1, 1) := by decide +kernel
theorem dX7_doAct_58 : decode cX7_doAct 58 = .ok (.iconst 1, 1) := by decide +kernel
theorem dX7_doAct_59 : decode cX7_doAct 59 = .ok (.iadd, 1) := by decide +kernel
theorem dX7_doAct_60 : decode cX7_doAct 60 = .ok (.invokevirtual 409, 3) := by decide +kernel
theorem dX7_doAct_63 : decode cX7_doAct 63 = .ok (.aload_n 0, 1) := by decide +kernel
theorem dX7_doAct_64 : decode cX7_doAct 64 = .ok (.getfield 12, 3) := by decide +kernel
theorem dX7_doAct_67 : decode cX7_doAct 67 = .ok (.iload_n 1, 1) := by decide +kernel
theorem dX7_doAct_68 : decode cX7_doAct 68 = .ok (.iconst 3, 1) := by decide +kernel
theorem dX7_doAct_69 : decode cX7_doAct 69 = .ok (.iadd, 1) := by decide +kernel
theorem dX7_doAct_70 : decode cX7_doAct 70 = .ok (.invokevirtual 409, 3) := by decide +kernel
theorem dX7_doAct_73 : decode cX7_doAct 73 = .ok (.aload_n 0, 1) := by decide +kernel
theorem dX7_doAct_74 : decode cX7_doAct 74 = .ok (.getfield 12, 3) := by decide +kernel
theorem dX7_doAct_77 : decode cX7_doAct 77 = .ok (.iload_n 1, 1) := by decide +kernel
theorem dX7_doAct_78 : decode cX7_doAct 78 = .ok (.iconst 5, 1) := by decide +kernel
theorem dX7_doAct_79 : decode cX7_doAct 79 = .ok (.iadd, 1) := by decide +kernel
theorem dX7_doAct_80 : decode cX7_doAct 80 = .ok (.invokevirtual 406, 3) := by decide +kernel
theorem dX7_doAct_83 : decode cX7_doAct 83 = .ok (.invokevirtual 353, 3) := by decide +kernel
theorem dX7_doAct_86 : decode cX7_doAct 86 = .ok (.ireturn, 1) := by decide +kernel
theorem dX7_doAct_87 : decode cX7_doAct 87 = .ok (.aload_n 0, 1) := by decide +kernel
theorem dX7_doAct_88 : decode cX7_doAct 88 = .ok (.aload_n 0, 1) := by decide +kernel
theorem dX7_doAct_89 : decode cX7_doAct 89 = .ok (.getfield 12, 3) := by decide +kernel
theorem dX7_doAct_92 : decode cX7_doAct 92 = .ok (.iload_n 1, 1) := by decide +kernel
theorem dX7_doAct_93 : decode cX7_doAct 93 = .ok (.iconst 1, 1) := by decide +kernel
theorem dX7_doAct_94 : decode cX7_doAct 94 = .ok (.iadd, 1) := by decide +kernel
theorem dX7_doAct_95 : decode cX7_doAct 95 = .ok (.invokevirtual 409, 3) := by decide +kernel
theorem dX7_doAct_98 : decode cX7_doAct 98 = .ok (.invokevirtual 359, 3) := by decide +kernel
theorem dX7_doAct_101 : decode cX7_doAct 101 = .ok (.ireturn, 1) := by decide +kernel
theorem dX7_doAct_102 : decode cX7_doAct 102 = .ok (.aload_n 0, 1) := by decide +kernel
theorem dX7_doAct_103 : decode cX7_doAct 103 = .ok (.aload_n 0, 1) := by decide +kernel
theorem dX7_doAct_104 : decode cX7_doAct 104 = .ok (.getfield 12, 3) := by decide +kernel
theorem dX7_doAct_107 : decode cX7_doAct 107 = .ok (.iload_n 1, 1) := by decide +kernel
theorem dX7_doAct_108 : decode cX7_doAct 108 = .ok (.iconst 1, 1) := by decide +kernel
theorem dX7_doAct_109 : decode cX7_doAct 109 = .ok (.iadd, 1) := by decide +kernel
theorem dX7_doAct_110 : decode cX7_doAct 110 = .ok (.invokevirtual 409, 3) := by decide +kernel
theorem dX7_doAct_113 : decode cX7_doAct 113 = .ok (.aload_n 0, 1) := by decide +kernel
theorem dX7_doAct_114 : decode cX7_doAct 114 = .ok (.getfield 12, 3) := by decide +kernel
theorem dX7_doAct_117 : decode cX7_doAct 117 = .ok (.iload_n 1, 1) := by decide +kernel
theorem dX7_doAct_118 : decode cX7_doAct 118 = .ok (.iconst 3, 1) := by decide +kernel
theorem dX7_doAct_119 : decode cX7_doAct 119 = .ok (.iadd, 1) := by decide +kernel
theorem dX7_doAct_120 : decode cX7_doAct 120 = .ok (.invokevirtual 409, 3) := by decide +kernel
theorem dX7_doAct_123 : decode cX7_doAct 123 = .ok (.aload_n 0, 1) := by decide +kernel
theorem dX7_doAct_124 : decode cX7_doAct 124 = .ok (.getfield 12, 3) := by decide +kernel
theorem dX7_doAct_127 : decode cX7_doAct 127 = .ok (.iload_n 1, 1) := by decide +kernel
theorem dX7_doAct_128 : decode cX7_doAct 128 = .ok (.iconst 5, 1) := by decide +kernel
theorem dX7_doAct_129 : decode cX7_doAct 129 = .ok (.iadd, 1) := by decide +kernel
theorem dX7_doAct_130 : decode cX7_doAct 130 = .ok (.invokevirtual 409, 3) := by decide +kernel
theorem dX7_doAct_133 : decode cX7_doAct 133 = .ok (.aload_n 0, 1) := by decide +kernel
theorem dX7_doAct_134 : decode cX7_doAct 134 = .ok (.getfield 12, 3) := by decide +kernel
theorem dX7_doAct_137 : decode cX7_doAct 137 = .ok (.iload_n 1, 1) := by decide +kernel
theorem dX7_doAct_138 : decode cX7_doAct 138 = .ok (.bipush 7, 2) := by decide +kernel
theorem dX7_doAct_140 : decode cX7_doAct 140 = .ok (.iadd, 1) := by decide +kernel
theorem dX7_doAct_141 : decode cX7_doAct 141 = .ok (.invokevirtual 409, 3) := by decide +kernel
theorem dX7_doAct_144 : decode cX7_doAct 144 = .ok (.invokevirtual 362, 3) := by decide +kernel
theorem dX7_doAct_147 : decode cX7_doAct 147 = .ok (.ireturn, 1) := by decide +kernel
theorem dX7_doAct_148 : decode cX7_doAct 148 = .ok (.aload_n 0, 1) := by decide +kernel
theorem dX7_doAct_149 : decode cX7_doAct 149 = .ok (.aload_n 0, 1) := by decide +kernel
theorem dX7_doAct_150 : decode cX7_doAct 150 = .ok (.getfield 12, 3) := by decide +kernel
theorem dX7_doAct_153 : decode cX7_doAct 153 = .ok (.iload_n 1, 1) := by decide +kernel
theorem dX7_doAct_154 : decode cX7_doAct 154 = .ok (.iconst 1, 1) := by decide +kernel
theorem dX7_doAct_155 : decode cX7_doAct 155 = .ok (.iadd, 1) := by decide +kernel
theorem dX7_doAct_156 : decode cX7_doAct 156 = .ok (.invokevirtual 406, 3) := by decide +kernel
theorem dX7_doAct_159 : decode cX7_doAct 159 = .ok (.aload_n 0, 1) := by decide +kernel
theorem dX7_doAct_160 : decode cX7_doAct 160 = .ok (.getfield 12, 3) := by decide +kernel
theorem dX7_doAct_163 : decode cX7_doAct 163 = .ok (.iload_n 1, 1) := by decide +kernel
theorem dX7_doAct_164 : decode cX7_doAct 164 = .ok (.iconst 2, 1) := by decide +kernel
theorem dX7_doAct_165 : decode cX7_doAct 165 = .ok (.iadd, 1) := by decide +kernel
theorem dX7_doAct_166 : decode cX7_doAct 166 = .ok (.invokevirtual 406, 3) := by decide +kernel
theorem dX7_doAct_169 : decode cX7_doAct 169 = .ok (.aload_n 0, 1) := by decide +kernel
theorem dX7_doAct_170 : decode cX7_doAct 170 = .ok (.getfield 12, 3) := by decide +kernel
theorem dX7_doAct_173 : decode cX7_doAct 173 = .ok (.iload_n 1, 1) := by decide +kernel
theorem dX7_doAct_174 : decode cX7_doAct 174 = .ok (.iconst 3, 1) := by decide +kernel
theorem dX7_doAct_175 : decode cX7_doAct 175 = .ok (.iadd, 1) := by decide +kernel
theorem dX7_doAct_176 : decode cX7_doAct 176 = .ok (.invokevirtual 406, 3) := by decide +kernel
theorem dX7_doAct_179 : decode cX7_doAct 179 = .ok (.invokevirtual 365, 3) := by decide +kernel
theorem dX7_doAct_182 : decode cX7_doAct 182 = .ok (.ireturn, 1) := by decide +kernel
theorem dX7_doAct_183 : decode cX7_doAct 183 = .ok (.iconst (-1), 1) := by decide +kernel
theorem dX7_doAct_184 : decode cX7_doAct 184 = .ok (.ireturn, 1) := by decide +kernel
theorem dX7_entryAt_0 : decode cX7_entryAt 0 = .ok (.iload_n 1, 1) := by decide +kernel
theorem dX7_entryAt_1 : decode cX7_entryAt 1 = .ok (.iload_n 2, 1) := by decide +kernel
theorem dX7_entryAt_2 : decode cX7_entryAt 2 = .ok (.iload_n 3, 1) := by decide +kernel
theorem dX7_entryAt_3 : decode cX7_entryAt 3 = .ok (.imul, 1) := by decide +kernel
theorem dX7_entryAt_4 : decode cX7_entryAt 4 = .ok (.iadd, 1) := by decide +kernel
theorem dX7_entryAt_5 : decode cX7_entryAt 5 = .ok (.istore 4, 2) := by decide +kernel
theorem dX7_entryAt_7 : decode cX7_entryAt 7 = .ok (.iload_n 0, 1) := by decide +kernel
theorem dX7_entryAt_8 : decode cX7_entryAt 8 = .ok (.ifCond .ne 7, 3) := by decide +kernel
theorem dX7_entryAt_11 : decode cX7_entryAt 11 = .ok (.iload 4, 2) := by decide +kernel
theorem dX7_entryAt_13 : decode cX7_entryAt 13 = .ok (.i2b, 1) := by decide +kernel
theorem dX7_entryAt_14 : decode cX7_entryAt 14 = .ok (.ireturn, 1) := by decide +kernel
theorem dX7_entryAt_15 : decode cX7_entryAt 15 = .ok (.iload_n 0, 1) := by decide +kernel
theorem dX7_entryAt_16 : decode cX7_entryAt 16 = .ok (.iconst 1, 1) := by decide +kernel
theorem dX7_entryAt_17 : decode cX7_entryAt 17 = .ok (.if_icmp .ne 9, 3) := by decide +kernel
theorem dX7_entryAt_20 : decode cX7_entryAt 20 = .ok (.iload 4, 2) := by decide +kernel
theorem dX7_entryAt_22 : decode cX7_entryAt 22 = .ok (.i2s, 1) := by decide +kernel
theorem dX7_entryAt_23 : decode cX7_entryAt 23 = .ok (.goto 5, 3) := by decide +kernel
theorem dX7_entryAt_26 : decode cX7_entryAt 26 = .ok (.iload 4, 2) := by decide +kernel
theorem dX7_entryAt_28 : decode cX7_entryAt 28 = .ok (.ireturn, 1) := by decide +kernel
theorem dX7_faultOfEntry_0 : decode cX7_faultOfEntry 0 = .ok (.aload_n 0, 1) := by decide +kernel
theorem dX7_faultOfEntry_1 : decode cX7_faultOfEntry 1 = .ok (.getfield 26, 3) := by decide +kernel
theorem dX7_faultOfEntry_4 : decode cX7_faultOfEntry 4 = .ok (.getfield 74, 3) := by decide +kernel
theorem dX7_faultOfEntry_7 : decode cX7_faultOfEntry 7 = .ok (.astore 4, 2) := by decide +kernel
theorem dX7_faultOfEntry_9 : decode cX7_faultOfEntry 9 = .ok (.iload_n 1, 1) := by decide +kernel
theorem dX7_faultOfEntry_10 : decode cX7_faultOfEntry 10 = .ok (.iload_n 2, 1) := by decide +kernel
theorem dX7_faultOfEntry_11 : decode cX7_faultOfEntry 11 = .ok (.iadd, 1) := by decide +kernel
theorem dX7_faultOfEntry_12 : decode cX7_faultOfEntry 12 = .ok (.istore 5, 2) := by decide +kernel
theorem dX7_faultOfEntry_14 : decode cX7_faultOfEntry 14 = .ok (.iload_n 1, 1) := by decide +kernel
theorem dX7_faultOfEntry_15 : decode cX7_faultOfEntry 15 = .ok (.ifCond .lt 18, 3) := by decide +kernel
theorem dX7_faultOfEntry_18 : decode cX7_faultOfEntry 18 = .ok (.iload 5, 2) := by decide +kernel
theorem dX7_faultOfEntry_20 : decode cX7_faultOfEntry 20 = .ok (.ifCond .lt 13, 3) := by decide +kernel
theorem dX7_faultOfEntry_23 : decode cX7_faultOfEntry 23 = .ok (.iload 5, 2) := by decide +kernel
theorem dX7_faultOfEntry_25 : decode cX7_faultOfEntry 25 = .ok (.aload 4, 2) := by decide +kernel
theorem dX7_faultOfEntry_27 : decode cX7_faultOfEntry 27 = .ok (.invokevirtual 90, 3) := by decide +kernel
theorem dX7_faultOfEntry_30 : decode cX7_faultOfEntry 30 = .ok (.if_icmp .lt 5, 3) := by decide +kernel
theorem dX7_faultOfEntry_33 : decode cX7_faultOfEntry 33 = .ok (.iconst 1, 1) := by decide +kernel
theorem dX7_faultOfEntry_34 : decode cX7_faultOfEntry 34 = .ok (.ireturn, 1) := by decide +kernel
theorem dX7_faultOfEntry_35 : decode cX7_faultOfEntry 35 = .ok (.aload 4, 2) := by decide +kernel
theorem dX7_faultOfEntry_37 : decode cX7_faultOfEntry 37 = .ok (.aload 4, 2) := by decide +kernel
theorem dX7_faultOfEntry_39 : decode cX7_faultOfEntry 39 = .ok (.iload 5, 2) := by decide +kernel
theorem dX7_faultOfEntry_41 : decode cX7_faultOfEntry 41 = .ok (.invokevirtual 390, 3) := by decide +kernel
theorem dX7_faultOfEntry_44 : decode cX7_faultOfEntry 44 = .ok (.aload 4, 2) := by decide +kernel
theorem dX7_faultOfEntry_46 : decode cX7_faultOfEntry 46 = .ok (.iload 5, 2) := by decide +kernel
theorem dX7_faultOfEntry_48 : decode cX7_faultOfEntry 48 = .ok (.invokevirtual 393, 3) := by decide +kernel
theorem dX7_faultOfEntry_51 : decode cX7_faultOfEntry 51 = .ok (.iload_n 3, 1) := by decide +kernel
theorem dX7_faultOfEntry_52 : decode cX7_faultOfEntry 52 = .ok (.invokevirtual 331, 3) := by decide +kernel
theorem dX7_faultOfEntry_55 : decode cX7_faultOfEntry 55 = .ok (.ifCond .eq 7, 3) := by decide +kernel
theorem dX7_faultOfEntry_58 : decode cX7_faultOfEntry 58 = .ok (.iconst 0, 1) := by decide +kernel
theorem dX7_faultOfEntry_59 : decode cX7_faultOfEntry 59 = .ok (.goto 4, 3) := by decide +kernel
theorem dX7_faultOfEntry_62 : decode cX7_faultOfEntry 62 = .ok (.iconst 2, 1) := by decide +kernel
theorem dX7_faultOfEntry_63 : decode cX7_faultOfEntry 63 = .ok (.ireturn, 1) := by decide +kernel
theorem dX7_layLabel_0 : decode cX7_layLabel 0 = .ok (.aload_n 0, 1) := by decide +kernel
theorem dX7_layLabel_1 : decode cX7_layLabel 1 = .ok (.getfield 26, 3) := by decide +kernel
theorem dX7_layLabel_4 : decode cX7_layLabel 4 = .ok (.getfield 74, 3) := by decide +kernel
theorem dX7_layLabel_7 : decode cX7_layLabel 7 = .ok (.iload_n 1, 1) := by decide +kernel
theorem dX7_layLabel_8 : decode cX7_layLabel 8 = .ok (.iload_n 2, 1) := by decide +kernel
theorem dX7_layLabel_9 : decode cX7_layLabel 9 = .ok (.iload_n 3, 1) := by decide +kernel
theorem dX7_layLabel_10 : decode cX7_layLabel 10 = .ok (.invokevirtual 396, 3) := by decide +kernel
theorem dX7_layLabel_13 : decode cX7_layLabel 13 = .ok (.istore 4, 2) := by decide +kernel
theorem dX7_layLabel_15 : decode cX7_layLabel 15 = .ok (.iload 4, 2) := by decide +kernel
theorem dX7_layLabel_17 : decode cX7_layLabel 17 = .ok (.ifCond .lt 14, 3) := by decide +kernel
theorem dX7_layLabel_20 : decode cX7_layLabel 20 = .ok (.aload_n 0, 1) := by decide +kernel
theorem dX7_layLabel_21 : decode cX7_layLabel 21 = .ok (.getfield 26, 3) := by decide +kernel
theorem dX7_layLabel_24 : decode cX7_layLabel 24 = .ok (.getfield 81, 3) := by decide +kernel
theorem dX7_layLabel_27 : decode cX7_layLabel 27 = .ok (.iconst 0, 1) := by decide +kernel
theorem dX7_layLabel_28 : decode cX7_layLabel 28 = .ok (.putfield 85, 3) := by decide +kernel
theorem dX7_layLabel_31 : decode cX7_layLabel 31 = .ok (.iload 4, 2) := by decide +kernel
theorem dX7_layLabel_33 : decode cX7_layLabel 33 = .ok (.ireturn, 1) := by decide +kernel
theorem dX7_changeGrid_0 : decode cX7_changeGrid 0 = .ok (.iload_n 1, 1) := by decide +kernel
theorem dX7_changeGrid_1 : decode cX7_changeGrid 1 = .ok (.invokestatic 277, 3) := by decide +kernel
theorem dX7_changeGrid_4 : decode cX7_changeGrid 4 = .ok (.ifCond .ne 5, 3) := by decide +kernel
theorem dX7_changeGrid_7 : decode cX7_changeGrid 7 = .ok (.iconst (-1), 1) := by decide +kernel
theorem dX7_changeGrid_8 : decode cX7_changeGrid 8 = .ok (.ireturn, 1) := by decide +kernel
theorem dX7_changeGrid_9 : decode cX7_changeGrid 9 = .ok (.iload_n 1, 1) := by decide +kernel
theorem dX7_changeGrid_10 : decode cX7_changeGrid 10 = .ok (.aload_n 0, 1) := by decide +kernel
theorem dX7_changeGrid_11 : decode cX7_changeGrid 11 = .ok (.getfield 26, 3) := by decide +kernel
theorem dX7_changeGrid_14 : decode cX7_changeGrid 14 = .ok (.getfield 74, 3) := by decide +kernel
theorem dX7_changeGrid_17 : decode cX7_changeGrid 17 = .ok (.getfield 198, 3) := by decide +kernel
theorem dX7_changeGrid_20 : decode cX7_changeGrid 20 = .ok (.if_icmp .ne 6, 3) := by decide +kernel
theorem dX7_changeGrid_23 : decode cX7_changeGrid 23 = .ok (.bipush (-2), 2) := by decide +kernel
theorem dX7_changeGrid_25 : decode cX7_changeGrid 25 = .ok (.ireturn, 1) := by decide +kernel
theorem dX7_changeGrid_26 : decode cX7_changeGrid 26 = .ok (.aload_n 0, 1) := by decide +kernel
theorem dX7_changeGrid_27 : decode cX7_changeGrid 27 = .ok (.getfield 26, 3) := by decide +kernel
theorem dX7_changeGrid_30 : decode cX7_changeGrid 30 = .ok (.getfield 81, 3) := by decide +kernel
theorem dX7_changeGrid_33 : decode cX7_changeGrid 33 = .ok (.getfield 85, 3) := by decide +kernel
theorem dX7_changeGrid_36 : decode cX7_changeGrid 36 = .ok (.ifCond .ne 6, 3) := by decide +kernel
theorem dX7_changeGrid_39 : decode cX7_changeGrid 39 = .ok (.bipush (-3), 2) := by decide +kernel
theorem dX7_changeGrid_41 : decode cX7_changeGrid 41 = .ok (.ireturn, 1) := by decide +kernel
theorem dX7_changeGrid_42 : decode cX7_changeGrid 42 = .ok (.aload_n 0, 1) := by decide +kernel
theorem dX7_changeGrid_43 : decode cX7_changeGrid 43 = .ok (.getfield 26, 3) := by decide +kernel
theorem dX7_changeGrid_46 : decode cX7_changeGrid 46 = .ok (.getfield 74, 3) := by decide +kernel
theorem dX7_changeGrid_49 : decode cX7_changeGrid 49 = .ok (.iload_n 1, 1) := by decide +kernel
theorem dX7_changeGrid_50 : decode cX7_changeGrid 50 = .ok (.putfield 198, 3) := by decide +kernel
theorem dX7_changeGrid_53 : decode cX7_changeGrid 53 = .ok (.aload_n 0, 1) := by decide +kernel
theorem dX7_changeGrid_54 : decode cX7_changeGrid 54 = .ok (.getfield 26, 3) := by decide +kernel
theorem dX7_changeGrid_57 : decode cX7_changeGrid 57 = .ok (.getfield 81, 3) := by decide +kernel
theorem dX7_changeGrid_60 : decode cX7_changeGrid 60 = .ok (.aload_n 0, 1) := by decide +kernel
theorem dX7_changeGrid_61 : decode cX7_changeGrid 61 = .ok (.getfield 26, 3) := by decide +kernel
theorem dX7_changeGrid_64 : decode cX7_changeGrid 64 = .ok (.getfield 74, 3) := by decide +kernel
theorem dX7_changeGrid_67 : decode cX7_changeGrid 67 = .ok (.invokevirtual 100, 3) := by decide +kernel
theorem dX7_changeGrid_70 : decode cX7_changeGrid 70 = .ok (.aload_n 0, 1) := by decide +kernel
theorem dX7_changeGrid_71 : decode cX7_changeGrid 71 = .ok (.getfield 26, 3) := by decide +kernel
theorem dX7_changeGrid_74 : decode cX7_changeGrid 74 = .ok (.getfield 74, 3) := by decide +kernel
theorem dX7_changeGrid_77 : decode cX7_changeGrid 77 = .ok (.invokevirtual 345, 3) := by decide +kernel
theorem dX7_changeGrid_80 : decode cX7_changeGrid 80 = .ok (.ireturn, 1) := by decide +kernel
theorem dX7_swapLabels_0 : decode cX7_swapLabels 0 = .ok (.aload_n 0, 1) := by decide +kernel
theorem dX7_swapLabels_1 : decode cX7_swapLabels 1 = .ok (.getfield 26, 3) := by decide +kernel
theorem dX7_swapLabels_4 : decode cX7_swapLabels 4 = .ok (.getfield 74, 3) := by decide +kernel
theorem dX7_swapLabels_7 : decode cX7_swapLabels 7 = .ok (.astore 5, 2) := by decide +kernel
theorem dX7_swapLabels_9 : decode cX7_swapLabels 9 = .ok (.aload 5, 2) := by decide +kernel
theorem dX7_swapLabels_11 : decode cX7_swapLabels 11 = .ok (.iload_n 1, 1) := by decide +kernel
theorem dX7_swapLabels_12 : decode cX7_swapLabels 12 = .ok (.iload_n 2, 1) := by decide +kernel
theorem dX7_swapLabels_13 : decode cX7_swapLabels 13 = .ok (.invokevirtual 132, 3) := by decide +kernel
theorem dX7_swapLabels_16 : decode cX7_swapLabels 16 = .ok (.ifCond .eq 25, 3) := by decide +kernel
theorem dX7_swapLabels_19 : decode cX7_swapLabels 19 = .ok (.aload 5, 2) := by decide +kernel
theorem dX7_swapLabels_21 : decode cX7_swapLabels 21 = .ok (.iload_n 3, 1) := by decide +kernel
theorem dX7_swapLabels_22 : decode cX7_swapLabels 22 = .ok (.iload 4, 2) := by decide +kernel
theorem dX7_swapLabels_24 : decode cX7_swapLabels 24 = .ok (.invokevirtual 132, 3) := by decide +kernel
theorem dX7_swapLabels_27 : decode cX7_swapLabels 27 = .ok (.ifCond .eq 14, 3) := by decide +kernel
theorem dX7_swapLabels_30 : decode cX7_swapLabels 30 = .ok (.iload_n 1, 1) := by decide +kernel
theorem dX7_swapLabels_31 : decode cX7_swapLabels 31 = .ok (.iload_n 3, 1) := by decide +kernel
theorem dX7_swapLabels_32 : decode cX7_swapLabels 32 = .ok (.if_icmp .ne 11, 3) := by decide +kernel
theorem dX7_swapLabels_35 : decode cX7_swapLabels 35 = .ok (.iload_n 2, 1) := by decide +kernel
theorem dX7_swapLabels_36 : decode cX7_swapLabels 36 = .ok (.iload 4, 2) := by decide +kernel
theorem dX7_swapLabels_38 : decode cX7_swapLabels 38 = .ok (.if_icmp .ne 5, 3) := by decide +kernel
theorem dX7_swapLabels_41 : decode cX7_swapLabels 41 = .ok (.iconst (-1), 1) := by decide +kernel
theorem dX7_swapLabels_42 : decode cX7_swapLabels 42 = .ok (.ireturn, 1) := by decide +kernel
theorem dX7_swapLabels_43 : decode cX7_swapLabels 43 = .ok (.aload 5, 2) := by decide +kernel
theorem dX7_swapLabels_45 : decode cX7_swapLabels 45 = .ok (.iload_n 1, 1) := by decide +kernel
theorem dX7_swapLabels_46 : decode cX7_swapLabels 46 = .ok (.iload_n 2, 1) := by decide +kernel
theorem dX7_swapLabels_47 : decode cX7_swapLabels 47 = .ok (.invokevirtual 143, 3) := by decide +kernel
theorem dX7_swapLabels_50 : decode cX7_swapLabels 50 = .ok (.istore 6, 2) := by decide +kernel
theorem dX7_swapLabels_52 : decode cX7_swapLabels 52 = .ok (.aload 5, 2) := by decide +kernel
theorem dX7_swapLabels_54 : decode cX7_swapLabels 54 = .ok (.iload_n 3, 1) := by decide +kernel
theorem dX7_swapLabels_55 : decode cX7_swapLabels 55 = .ok (.iload 4, 2) := by decide +kernel
theorem dX7_swapLabels_57 : decode cX7_swapLabels 57 = .ok (.invokevirtual 143, 3) := by decide +kernel
theorem dX7_swapLabels_60 : decode cX7_swapLabels 60 = .ok (.istore 7, 2) := by decide +kernel
theorem dX7_swapLabels_62 : decode cX7_swapLabels 62 = .ok (.iload 6, 2) := by decide +kernel
theorem dX7_swapLabels_64 : decode cX7_swapLabels 64 = .ok (.iload 7, 2) := by decide +kernel
theorem dX7_swapLabels_66 : decode cX7_swapLabels 66 = .ok (.if_icmp .ne 6, 3) := by decide +kernel
theorem dX7_swapLabels_69 : decode cX7_swapLabels 69 = .ok (.bipush (-2), 2) := by decide +kernel
theorem dX7_swapLabels_71 : decode cX7_swapLabels 71 = .ok (.ireturn, 1) := by decide +kernel
theorem dX7_swapLabels_72 : decode cX7_swapLabels 72 = .ok (.aload 5, 2) := by decide +kernel
theorem dX7_swapLabels_74 : decode cX7_swapLabels 74 = .ok (.iload_n 1, 1) := by decide +kernel
theorem dX7_swapLabels_75 : decode cX7_swapLabels 75 = .ok (.iload_n 2, 1) := by decide +kernel
theorem dX7_swapLabels_76 : decode cX7_swapLabels 76 = .ok (.iload 7, 2) := by decide +kernel
theorem dX7_swapLabels_78 : decode cX7_swapLabels 78 = .ok (.invokevirtual 331, 3) := by decide +kernel
theorem dX7_swapLabels_81 : decode cX7_swapLabels 81 = .ok (.ifCond .eq 16, 3) := by decide +kernel
theorem dX7_swapLabels_84 : decode cX7_swapLabels 84 = .ok (.aload 5, 2) := by decide +kernel
theorem dX7_swapLabels_86 : decode cX7_swapLabels 86 = .ok (.iload_n 3, 1) := by decide +kernel
theorem dX7_swapLabels_87 : decode cX7_swapLabels 87 = .ok (.iload 4, 2) := by decide +kernel
theorem dX7_swapLabels_89 : decode cX7_swapLabels 89 = .ok (.iload 6, 2) := by decide +kernel
theorem dX7_swapLabels_91 : decode cX7_swapLabels 91 = .ok (.invokevirtual 331, 3) := by decide +kernel
theorem dX7_swapLabels_94 : decode cX7_swapLabels 94 = .ok (.ifCond .ne 6, 3) := by decide +kernel
theorem dX7_swapLabels_97 : decode cX7_swapLabels 97 = .ok (.bipush (-4), 2) := by decide +kernel
theorem dX7_swapLabels_99 : decode cX7_swapLabels 99 = .ok (.ireturn, 1) := by decide +kernel
theorem dX7_swapLabels_100 : decode cX7_swapLabels 100 = .ok (.aload 5, 2) := by decide +kernel
theorem dX7_swapLabels_102 : decode cX7_swapLabels 102 = .ok (.iload_n 1, 1) := by decide +kernel
theorem dX7_swapLabels_103 : decode cX7_swapLabels 103 = .ok (.iload_n 2, 1) := by decide +kernel
theorem dX7_swapLabels_104 : decode cX7_swapLabels 104 = .ok (.iload 7, 2) := by decide +kernel
theorem dX7_swapLabels_106 : decode cX7_swapLabels 106 = .ok (.invokevirtual 335, 3) := by decide +kernel
theorem dX7_swapLabels_109 : decode cX7_swapLabels 109 = .ok (.aload 5, 2) := by decide +kernel
theorem dX7_swapLabels_111 : decode cX7_swapLabels 111 = .ok (.iload_n 3, 1) := by decide +kernel
theorem dX7_swapLabels_112 : decode cX7_swapLabels 112 = .ok (.iload 4, 2) := by decide +kernel
theorem dX7_swapLabels_114 : decode cX7_swapLabels 114 = .ok (.iload 6, 2) := by decide +kernel
theorem dX7_swapLabels_116 : decode cX7_swapLabels 116 = .ok (.invokevirtual 335, 3) := by decide +kernel
theorem dX7_swapLabels_119 : decode cX7_swapLabels 119 = .ok (.aload_n 0, 1) := by decide +kernel
theorem dX7_swapLabels_120 : decode cX7_swapLabels 120 = .ok (.getfield 26, 3) := by decide +kernel
theorem dX7_swapLabels_123 : decode cX7_swapLabels 123 = .ok (.getfield 81, 3) := by decide +kernel
theorem dX7_swapLabels_126 : decode cX7_swapLabels 126 = .ok (.iconst 0, 1) := by decide +kernel
theorem dX7_swapLabels_127 : decode cX7_swapLabels 127 = .ok (.putfield 85, 3) := by decide +kernel
theorem dX7_swapLabels_130 : decode cX7_swapLabels 130 = .ok (.aload 5, 2) := by decide +kernel
theorem dX7_swapLabels_132 : decode cX7_swapLabels 132 = .ok (.invokevirtual 345, 3) := by decide +kernel
theorem dX7_swapLabels_135 : decode cX7_swapLabels 135 = .ok (.ireturn, 1) := by decide +kernel
theorem dX7_changeAmount_0 : decode cX7_changeAmount 0 = .ok (.aload_n 0, 1) := by decide +kernel
theorem dX7_changeAmount_1 : decode cX7_changeAmount 1 = .ok (.getfield 26, 3) := by decide +kernel
theorem dX7_changeAmount_4 : decode cX7_changeAmount 4 = .ok (.getfield 81, 3) := by decide +kernel
theorem dX7_changeAmount_7 : decode cX7_changeAmount 7 = .ok (.astore 4, 2) := by decide +kernel
theorem dX7_changeAmount_9 : decode cX7_changeAmount 9 = .ok (.iload_n 1, 1) := by decide +kernel
theorem dX7_changeAmount_10 : decode cX7_changeAmount 10 = .ok (.ifCond .lt 25, 3) := by decide +kernel
theorem dX7_changeAmount_13 : decode cX7_changeAmount 13 = .ok (.iload_n 1, 1) := by decide +kernel
theorem dX7_changeAmount_14 : decode cX7_changeAmount 14 = .ok (.iconst 4, 1) := by decide +kernel
theorem dX7_changeAmount_15 : decode cX7_changeAmount 15 = .ok (.if_icmp .ge 20, 3) := by decide +kernel
theorem dX7_changeAmount_18 : decode cX7_changeAmount 18 = .ok (.iload_n 2, 1) := by decide +kernel
theorem dX7_changeAmount_19 : decode cX7_changeAmount 19 = .ok (.invokestatic 195, 3) := by decide +kernel
theorem dX7_changeAmount_22 : decode cX7_changeAmount 22 = .ok (.ifCond .eq 13, 3) := by decide +kernel
theorem dX7_changeAmount_25 : decode cX7_changeAmount 25 = .ok (.iload_n 3, 1) := by decide +kernel
theorem dX7_changeAmount_26 : decode cX7_changeAmount 26 = .ok (.ifCond .lt 9, 3) := by decide +kernel
theorem dX7_changeAmount_29 : decode cX7_changeAmount 29 = .ok (.iload_n 3, 1) := by decide +kernel
theorem dX7_changeAmount_30 : decode cX7_changeAmount 30 = .ok (.bipush 9, 2) := by decide +kernel
theorem dX7_changeAmount_32 : decode cX7_changeAmount 32 = .ok (.if_icmp .le 5, 3) := by decide +kernel
theorem dX7_changeAmount_35 : decode cX7_changeAmount 35 = .ok (.iconst (-1), 1) := by decide +kernel
theorem dX7_changeAmount_36 : decode cX7_changeAmount 36 = .ok (.ireturn, 1) := by decide +kernel
theorem dX7_changeAmount_37 : decode cX7_changeAmount 37 = .ok (.aload 4, 2) := by decide +kernel
theorem dX7_changeAmount_39 : decode cX7_changeAmount 39 = .ok (.getfield 85, 3) := by decide +kernel
theorem dX7_changeAmount_42 : decode cX7_changeAmount 42 = .ok (.iconst 1, 1) := by decide +kernel
theorem dX7_changeAmount_43 : decode cX7_changeAmount 43 = .ok (.if_icmp .eq 6, 3) := by decide +kernel
theorem dX7_changeAmount_46 : decode cX7_changeAmount 46 = .ok (.bipush (-3), 2) := by decide +kernel
theorem dX7_changeAmount_48 : decode cX7_changeAmount 48 = .ok (.ireturn, 1) := by decide +kernel
theorem dX7_changeAmount_49 : decode cX7_changeAmount 49 = .ok (.iload_n 1, 1) := by decide +kernel
theorem dX7_changeAmount_50 : decode cX7_changeAmount 50 = .ok (.aload 4, 2) := by decide +kernel
theorem dX7_changeAmount_52 : decode cX7_changeAmount 52 = .ok (.getfield 319, 3) := by decide +kernel
theorem dX7_changeAmount_55 : decode cX7_changeAmount 55 = .ok (.if_icmp .lt 5, 3) := by decide +kernel
theorem dX7_changeAmount_58 : decode cX7_changeAmount 58 = .ok (.iconst (-1), 1) := by decide +kernel
theorem dX7_changeAmount_59 : decode cX7_changeAmount 59 = .ok (.ireturn, 1) := by decide +kernel
theorem dX7_changeAmount_60 : decode cX7_changeAmount 60 = .ok (.aload 4, 2) := by decide +kernel
theorem dX7_changeAmount_62 : decode cX7_changeAmount 62 = .ok (.iload_n 1, 1) := by decide +kernel
theorem dX7_changeAmount_63 : decode cX7_changeAmount 63 = .ok (.iload_n 2, 1) := by decide +kernel
theorem dX7_changeAmount_64 : decode cX7_changeAmount 64 = .ok (.invokevirtual 412, 3) := by decide +kernel
theorem dX7_changeAmount_67 : decode cX7_changeAmount 67 = .ok (.istore 5, 2) := by decide +kernel
theorem dX7_changeAmount_69 : decode cX7_changeAmount 69 = .ok (.iload 5, 2) := by decide +kernel
theorem dX7_changeAmount_71 : decode cX7_changeAmount 71 = .ok (.iload_n 3, 1) := by decide +kernel
theorem dX7_changeAmount_72 : decode cX7_changeAmount 72 = .ok (.if_icmp .ne 6, 3) := by decide +kernel
theorem dX7_changeAmount_75 : decode cX7_changeAmount 75 = .ok (.bipush (-2), 2) := by decide +kernel
theorem dX7_changeAmount_77 : decode cX7_changeAmount 77 = .ok (.ireturn, 1) := by decide +kernel
theorem dX7_changeAmount_78 : decode cX7_changeAmount 78 = .ok (.aload 4, 2) := by decide +kernel
theorem dX7_changeAmount_80 : decode cX7_changeAmount 80 = .ok (.iload_n 1, 1) := by decide +kernel
theorem dX7_changeAmount_81 : decode cX7_changeAmount 81 = .ok (.iload_n 2, 1) := by decide +kernel
theorem dX7_changeAmount_82 : decode cX7_changeAmount 82 = .ok (.iload_n 3, 1) := by decide +kernel
theorem dX7_changeAmount_83 : decode cX7_changeAmount 83 = .ok (.invokevirtual 415, 3) := by decide +kernel
theorem dX7_changeAmount_86 : decode cX7_changeAmount 86 = .ok (.aload 4, 2) := by decide +kernel
theorem dX7_changeAmount_88 : decode cX7_changeAmount 88 = .ok (.invokevirtual 418, 3) := by decide +kernel
theorem dX7_changeAmount_91 : decode cX7_changeAmount 91 = .ok (.aload 4, 2) := by decide +kernel
theorem dX7_changeAmount_93 : decode cX7_changeAmount 93 = .ok (.aload_n 0, 1) := by decide +kernel
theorem dX7_changeAmount_94 : decode cX7_changeAmount 94 = .ok (.getfield 26, 3) := by decide +kernel
theorem dX7_changeAmount_97 : decode cX7_changeAmount 97 = .ok (.getfield 74, 3) := by decide +kernel
theorem dX7_changeAmount_100 : decode cX7_changeAmount 100 = .ok (.invokevirtual 100, 3) := by decide +kernel
theorem dX7_changeAmount_103 : decode cX7_changeAmount 103 = .ok (.iload 5, 2) := by decide +kernel
theorem dX7_changeAmount_105 : decode cX7_changeAmount 105 = .ok (.ireturn, 1) := by decide +kernel
theorem dX7_held_0 : decode cX7_held 0 = .ok (.iload_n 1, 1) := by decide +kernel
theorem dX7_held_1 : decode cX7_held 1 = .ok (.ifCond .lt 10, 3) := by decide +kernel
theorem dX7_held_4 : decode cX7_held 4 = .ok (.aload_n 0, 1) := by decide +kernel
theorem dX7_held_5 : decode cX7_held 5 = .ok (.getfield 47, 3) := by decide +kernel
theorem dX7_held_8 : decode cX7_held 8 = .ok (.invokevirtual 71, 3) := by decide +kernel
theorem dX7_held_11 : decode cX7_held 11 = .ok (.iload_n 1, 1) := by decide +kernel
theorem dX7_held_12 : decode cX7_held 12 = .ok (.ireturn, 1) := by decide +kernel
theorem dX7_isGood_0 : decode cX7_isGood 0 = .ok (.iload_n 0, 1) := by decide +kernel
theorem dX7_isGood_1 : decode cX7_isGood 1 = .ok (.ifCond .lt 12, 3) := by decide +kernel
theorem dX7_isGood_4 : decode cX7_isGood 4 = .ok (.iload_n 0, 1) := by decide +kernel
theorem dX7_isGood_5 : decode cX7_isGood 5 = .ok (.iconst 3, 1) := by decide +kernel
theorem dX7_isGood_6 : decode cX7_isGood 6 = .ok (.if_icmp .ge 7, 3) := by decide +kernel
theorem dX7_isGood_9 : decode cX7_isGood 9 = .ok (.iconst 1, 1) := by decide +kernel
theorem dX7_isGood_10 : decode cX7_isGood 10 = .ok (.goto 4, 3) := by decide +kernel
theorem dX7_isGood_13 : decode cX7_isGood 13 = .ok (.iconst 0, 1) := by decide +kernel
theorem dX7_isGood_14 : decode cX7_isGood 14 = .ok (.ireturn, 1) := by decide +kernel
theorem dX7_isGrid_0 : decode cX7_isGrid 0 = .ok (.iload_n 0, 1) := by decide +kernel
theorem dX7_isGrid_1 : decode cX7_isGrid 1 = .ok (.iconst 1, 1) := by decide +kernel
theorem dX7_isGrid_2 : decode cX7_isGrid 2 = .ok (.if_icmp .lt 13, 3) := by decide +kernel
theorem dX7_isGrid_5 : decode cX7_isGrid 5 = .ok (.iload_n 0, 1) := by decide +kernel
theorem dX7_isGrid_6 : decode cX7_isGrid 6 = .ok (.bipush 16, 2) := by decide +kernel
theorem dX7_isGrid_8 : decode cX7_isGrid 8 = .ok (.if_icmp .gt 7, 3) := by decide +kernel
theorem dX7_isGrid_11 : decode cX7_isGrid 11 = .ok (.iconst 1, 1) := by decide +kernel
theorem dX7_isGrid_12 : decode cX7_isGrid 12 = .ok (.goto 4, 3) := by decide +kernel
theorem dX7_isGrid_15 : decode cX7_isGrid 15 = .ok (.iconst 0, 1) := by decide +kernel
theorem dX7_isGrid_16 : decode cX7_isGrid 16 = .ok (.ireturn, 1) := by decide +kernel
theorem dX7_nextDraw_0 : decode cX7_nextDraw 0 = .ok (.iload_n 0, 1) := by decide +kernel
theorem dX7_nextDraw_1 : decode cX7_nextDraw 1 = .ok (.ldc_w 421, 3) := by decide +kernel
theorem dX7_nextDraw_4 : decode cX7_nextDraw 4 = .ok (.imul, 1) := by decide +kernel
theorem dX7_nextDraw_5 : decode cX7_nextDraw 5 = .ok (.sipush 12345, 3) := by decide +kernel
theorem dX7_nextDraw_8 : decode cX7_nextDraw 8 = .ok (.iadd, 1) := by decide +kernel
theorem dX7_nextDraw_9 : decode cX7_nextDraw 9 = .ok (.ireturn, 1) := by decide +kernel
theorem dX7_drawn_0 : decode cX7_drawn 0 = .ok (.iload_n 1, 1) := by decide +kernel
theorem dX7_drawn_1 : decode cX7_drawn 1 = .ok (.iconst 1, 1) := by decide +kernel
theorem dX7_drawn_2 : decode cX7_drawn 2 = .ok (.if_icmp .ge 7, 3) := by decide +kernel
theorem dX7_drawn_5 : decode cX7_drawn 5 = .ok (.iconst 0, 1) := by decide +kernel
theorem dX7_drawn_6 : decode cX7_drawn 6 = .ok (.goto 9, 3) := by decide +kernel
theorem dX7_drawn_9 : decode cX7_drawn 9 = .ok (.iload_n 0, 1) := by decide +kernel
theorem dX7_drawn_10 : decode cX7_drawn 10 = .ok (.bipush 16, 2) := by decide +kernel
theorem dX7_drawn_12 : decode cX7_drawn 12 = .ok (.iushr, 1) := by decide +kernel
theorem dX7_drawn_13 : decode cX7_drawn 13 = .ok (.iload_n 1, 1) := by decide +kernel
theorem dX7_drawn_14 : decode cX7_drawn 14 = .ok (.irem, 1) := by decide +kernel
theorem dX7_drawn_15 : decode cX7_drawn 15 = .ok (.ireturn, 1) := by decide +kernel
theorem dX7_layTrial_0 : decode cX7_layTrial 0 = .ok (.aload_n 0, 1) := by decide +kernel
theorem dX7_layTrial_1 : decode cX7_layTrial 1 = .ok (.getfield 33, 3) := by decide +kernel
theorem dX7_layTrial_4 : decode cX7_layTrial 4 = .ok (.iload_n 1, 1) := by decide +kernel
theorem dX7_layTrial_5 : decode cX7_layTrial 5 = .ok (.putfield 198, 3) := by decide +kernel
theorem dX7_layTrial_8 : decode cX7_layTrial 8 = .ok (.aload_n 0, 1) := by decide +kernel
theorem dX7_layTrial_9 : decode cX7_layTrial 9 = .ok (.getfield 26, 3) := by decide +kernel
theorem dX7_layTrial_12 : decode cX7_layTrial 12 = .ok (.getfield 81, 3) := by decide +kernel
theorem dX7_layTrial_15 : decode cX7_layTrial 15 = .ok (.aload_n 0, 1) := by decide +kernel
theorem dX7_layTrial_16 : decode cX7_layTrial 16 = .ok (.getfield 33, 3) := by decide +kernel
theorem dX7_layTrial_19 : decode cX7_layTrial 19 = .ok (.invokevirtual 100, 3) := by decide +kernel
theorem dX7_layTrial_22 : decode cX7_layTrial 22 = .ok (.return_, 1) := by decide +kernel
theorem dX7_looseLabel_0 : decode cX7_looseLabel 0 = .ok (.aload_n 0, 1) := by decide +kernel
theorem dX7_looseLabel_1 : decode cX7_looseLabel 1 = .ok (.getfield 26, 3) := by decide +kernel
theorem dX7_looseLabel_4 : decode cX7_looseLabel 4 = .ok (.getfield 74, 3) := by decide +kernel
theorem dX7_looseLabel_7 : decode cX7_looseLabel 7 = .ok (.astore_n 3, 1) := by decide +kernel
theorem dX7_looseLabel_8 : decode cX7_looseLabel 8 = .ok (.iconst 0, 1) := by decide +kernel
theorem dX7_looseLabel_9 : decode cX7_looseLabel 9 = .ok (.istore 4, 2) := by decide +kernel
theorem dX7_looseLabel_11 : decode cX7_looseLabel 11 = .ok (.iload 4, 2) := by decide +kernel
theorem dX7_looseLabel_13 : decode cX7_looseLabel 13 = .ok (.iconst 3, 1) := by decide +kernel
theorem dX7_looseLabel_14 : decode cX7_looseLabel 14 = .ok (.if_icmp .ge 45, 3) := by decide +kernel
theorem dX7_looseLabel_17 : decode cX7_looseLabel 17 = .ok (.iload 4, 2) := by decide +kernel
theorem dX7_looseLabel_19 : decode cX7_looseLabel 19 = .ok (.aload_n 3, 1) := by decide +kernel
theorem dX7_looseLabel_20 : decode cX7_looseLabel 20 = .ok (.iload_n 1, 1) := by decide +kernel
theorem dX7_looseLabel_21 : decode cX7_looseLabel 21 = .ok (.iload_n 2, 1) := by decide +kernel
theorem dX7_looseLabel_22 : decode cX7_looseLabel 22 = .ok (.invokevirtual 143, 3) := by decide +kernel
theorem dX7_looseLabel_25 : decode cX7_looseLabel 25 = .ok (.if_icmp .eq 28, 3) := by decide +kernel
theorem dX7_looseLabel_28 : decode cX7_looseLabel 28 = .ok (.aload_n 3, 1) := by decide +kernel
theorem dX7_looseLabel_29 : decode cX7_looseLabel 29 = .ok (.iload_n 1, 1) := by decide +kernel
theorem dX7_looseLabel_30 : decode cX7_looseLabel 30 = .ok (.iload_n 2, 1) := by decide +kernel
theorem dX7_looseLabel_31 : decode cX7_looseLabel 31 = .ok (.iload 4, 2) := by decide +kernel
theorem dX7_looseLabel_33 : decode cX7_looseLabel 33 = .ok (.invokevirtual 331, 3) := by decide +kernel
theorem dX7_looseLabel_36 : decode cX7_looseLabel 36 = .ok (.ifCond .eq 17, 3) := by decide +kernel
theorem dX7_looseLabel_39 : decode cX7_looseLabel 39 = .ok (.aload_n 3, 1) := by decide +kernel
theorem dX7_looseLabel_40 : decode cX7_looseLabel 40 = .ok (.iload_n 1, 1) := by decide +kernel
theorem dX7_looseLabel_41 : decode cX7_looseLabel 41 = .ok (.iload_n 2, 1) := by decide +kernel
theorem dX7_looseLabel_42 : decode cX7_looseLabel 42 = .ok (.iload 4, 2) := by decide +kernel
theorem dX7_looseLabel_44 : decode cX7_looseLabel 44 = .ok (.invokevirtual 422, 3) := by decide +kernel
theorem dX7_looseLabel_47 : decode cX7_looseLabel 47 = .ok (.ifCond .lt 6, 3) := by decide +kernel
theorem dX7_looseLabel_50 : decode cX7_looseLabel 50 = .ok (.iload 4, 2) := by decide +kernel
theorem dX7_looseLabel_52 : decode cX7_looseLabel 52 = .ok (.ireturn, 1) := by decide +kernel
theorem dX7_looseLabel_53 : decode cX7_looseLabel 53 = .ok (.iinc 4 1, 3) := by decide +kernel
theorem dX7_looseLabel_56 : decode cX7_looseLabel 56 = .ok (.goto (-45), 3) := by decide +kernel
theorem dX7_looseLabel_59 : decode cX7_looseLabel 59 = .ok (.iconst (-1), 1) := by decide +kernel
theorem dX7_looseLabel_60 : decode cX7_looseLabel 60 = .ok (.ireturn, 1) := by decide +kernel
theorem dX7_labelForOne_0 : decode cX7_labelForOne 0 = .ok (.aload_n 0, 1) := by decide +kernel
theorem dX7_labelForOne_1 : decode cX7_labelForOne 1 = .ok (.getfield 26, 3) := by decide +kernel
theorem dX7_labelForOne_4 : decode cX7_labelForOne 4 = .ok (.getfield 74, 3) := by decide +kernel
theorem dX7_labelForOne_7 : decode cX7_labelForOne 7 = .ok (.astore 4, 2) := by decide +kernel
theorem dX7_labelForOne_9 : decode cX7_labelForOne 9 = .ok (.iconst 0, 1) := by decide +kernel
theorem dX7_labelForOne_10 : decode cX7_labelForOne 10 = .ok (.istore 5, 2) := by decide +kernel
theorem dX7_labelForOne_12 : decode cX7_labelForOne 12 = .ok (.iload 5, 2) := by decide +kernel
theorem dX7_labelForOne_14 : decode cX7_labelForOne 14 = .ok (.iconst 3, 1) := by decide +kernel
theorem dX7_labelForOne_15 : decode cX7_labelForOne 15 = .ok (.if_icmp .ge 51, 3) := by decide +kernel
theorem dX7_labelForOne_18 : decode cX7_labelForOne 18 = .ok (.iload 5, 2) := by decide +kernel
theorem dX7_labelForOne_20 : decode cX7_labelForOne 20 = .ok (.aload 4, 2) := by decide +kernel
theorem dX7_labelForOne_22 : decode cX7_labelForOne 22 = .ok (.iload_n 1, 1) := by decide +kernel
theorem dX7_labelForOne_23 : decode cX7_labelForOne 23 = .ok (.iload_n 2, 1) := by decide +kernel
theorem dX7_labelForOne_24 : decode cX7_labelForOne 24 = .ok (.invokevirtual 143, 3) := by decide +kernel
theorem dX7_labelForOne_27 : decode cX7_labelForOne 27 = .ok (.if_icmp .eq 33, 3) := by decide +kernel
theorem dX7_labelForOne_30 : decode cX7_labelForOne 30 = .ok (.aload 4, 2) := by decide +kernel
theorem dX7_labelForOne_32 : decode cX7_labelForOne 32 = .ok (.iload_n 1, 1) := by decide +kernel
theorem dX7_labelForOne_33 : decode cX7_labelForOne 33 = .ok (.iload_n 2, 1) := by decide +kernel
theorem dX7_labelForOne_34 : decode cX7_labelForOne 34 = .ok (.iload 5, 2) := by decide +kernel
theorem dX7_labelForOne_36 : decode cX7_labelForOne 36 = .ok (.invokevirtual 331, 3) := by decide +kernel
theorem dX7_labelForOne_39 : decode cX7_labelForOne 39 = .ok (.ifCond .eq 21, 3) := by decide +kernel
theorem dX7_labelForOne_42 : decode cX7_labelForOne 42 = .ok (.iload_n 3, 1) := by decide +kernel
theorem dX7_labelForOne_43 : decode cX7_labelForOne 43 = .ok (.aload 4, 2) := by decide +kernel
theorem dX7_labelForOne_45 : decode cX7_labelForOne 45 = .ok (.iload_n 1, 1) := by decide +kernel
theorem dX7_labelForOne_46 : decode cX7_labelForOne 46 = .ok (.iload_n 2, 1) := by decide +kernel
theorem dX7_labelForOne_47 : decode cX7_labelForOne 47 = .ok (.iload 5, 2) := by decide +kernel
theorem dX7_labelForOne_49 : decode cX7_labelForOne 49 = .ok (.invokevirtual 422, 3) := by decide +kernel
theorem dX7_labelForOne_52 : decode cX7_labelForOne 52 = .ok (.iadd, 1) := by decide +kernel
theorem dX7_labelForOne_53 : decode cX7_labelForOne 53 = .ok (.iconst 1, 1) := by decide +kernel
theorem dX7_labelForOne_54 : decode cX7_labelForOne 54 = .ok (.if_icmp .ne 6, 3) := by decide +kernel
theorem dX7_labelForOne_57 : decode cX7_labelForOne 57 = .ok (.iload 5, 2) := by decide +kernel
theorem dX7_labelForOne_59 : decode cX7_labelForOne 59 = .ok (.ireturn, 1) := by decide +kernel
theorem dX7_labelForOne_60 : decode cX7_labelForOne 60 = .ok (.iinc 5 1, 3) := by decide +kernel
theorem dX7_labelForOne_63 : decode cX7_labelForOne 63 = .ok (.goto (-51), 3) := by decide +kernel
theorem dX7_labelForOne_66 : decode cX7_labelForOne 66 = .ok (.iconst (-1), 1) := by decide +kernel
theorem dX7_labelForOne_67 : decode cX7_labelForOne 67 = .ok (.ireturn, 1) := by decide +kernel
