theorem dX3_init_0 : decode cX3_init 0 = .ok (.aload_n 0, 1) := by decide +kernel
theorem dX3_init_1 : decode cX3_init 1 = .ok (.invokespecial 3, 3) := by decide +kernel
theorem dX3_init_4 : decode cX3_init 4 = .ok (.aload_n 0, 1) := by decide +kernel
theorem dX3_init_5 : decode cX3_init 5 = .ok (.bipush 16, 2) := by decide +kernel
theorem dX3_init_7 : decode cX3_init 7 = .ok (.newarray .long, 2) := by decide +kernel
theorem dX3_init_9 : decode cX3_init 9 = .ok (.putfield 9, 3) := by decide +kernel
theorem dX3_init_12 : decode cX3_init 12 = .ok (.aload_n 0, 1) := by decide +kernel
theorem dX3_init_13 : decode cX3_init 13 = .ok (.iconst 0, 1) := by decide +kernel
theorem dX3_init_14 : decode cX3_init 14 = .ok (.putfield 15, 3) := by decide +kernel
theorem dX3_init_17 : decode cX3_init 17 = .ok (.return_, 1) := by decide +kernel
theorem dX3_clear_0 : decode cX3_clear 0 = .ok (.aload_n 0, 1) := by decide +kernel
theorem dX3_clear_1 : decode cX3_clear 1 = .ok (.iconst 0, 1) := by decide +kernel
theorem dX3_clear_2 : decode cX3_clear 2 = .ok (.putfield 15, 3) := by decide +kernel
theorem dX3_clear_5 : decode cX3_clear 5 = .ok (.return_, 1) := by decide +kernel
theorem dX3_add_0 : decode cX3_add 0 = .ok (.aload_n 0, 1) := by decide +kernel
theorem dX3_add_1 : decode cX3_add 1 = .ok (.getfield 15, 3) := by decide +kernel
theorem dX3_add_4 : decode cX3_add 4 = .ok (.ifCond .lt 32, 3) := by decide +kernel
theorem dX3_add_7 : decode cX3_add 7 = .ok (.aload_n 0, 1) := by decide +kernel
theorem dX3_add_8 : decode cX3_add 8 = .ok (.getfield 15, 3) := by decide +kernel
theorem dX3_add_11 : decode cX3_add 11 = .ok (.bipush 16, 2) := by decide +kernel
theorem dX3_add_13 : decode cX3_add 13 = .ok (.if_icmp .ge 23, 3) := by decide +kernel
theorem dX3_add_16 : decode cX3_add 16 = .ok (.aload_n 0, 1) := by decide +kernel
theorem dX3_add_17 : decode cX3_add 17 = .ok (.getfield 9, 3) := by decide +kernel
theorem dX3_add_20 : decode cX3_add 20 = .ok (.aload_n 0, 1) := by decide +kernel
theorem dX3_add_21 : decode cX3_add 21 = .ok (.getfield 15, 3) := by decide +kernel
theorem dX3_add_24 : decode cX3_add 24 = .ok (.lload_n 1, 1) := by decide +kernel
theorem dX3_add_25 : decode cX3_add 25 = .ok (.lastore, 1) := by decide +kernel
theorem dX3_add_26 : decode cX3_add 26 = .ok (.aload_n 0, 1) := by decide +kernel
theorem dX3_add_27 : decode cX3_add 27 = .ok (.dup, 1) := by decide +kernel
theorem dX3_add_28 : decode cX3_add 28 = .ok (.getfield 15, 3) := by decide +kernel
theorem dX3_add_31 : decode cX3_add 31 = .ok (.iconst 1, 1) := by decide +kernel
theorem dX3_add_32 : decode cX3_add 32 = .ok (.iadd, 1) := by decide +kernel
theorem dX3_add_33 : decode cX3_add 33 = .ok (.putfield 15, 3) := by decide +kernel
theorem dX3_add_36 : decode cX3_add 36 = .ok (.return_, 1) := by decide +kernel
theorem dX3_tell_0 : decode cX3_tell 0 = .ok (.aload_n 0, 1) := by decide +kernel
theorem dX3_tell_1 : decode cX3_tell 1 = .ok (.invokevirtual 19, 3) := by decide +kernel
theorem dX3_tell_4 : decode cX3_tell 4 = .ok (.aload_n 0, 1) := by decide +kernel
theorem dX3_tell_5 : decode cX3_tell 5 = .ok (.lload_n 1, 1) := by decide +kernel
theorem dX3_tell_6 : decode cX3_tell 6 = .ok (.invokevirtual 22, 3) := by decide +kernel
theorem dX3_tell_9 : decode cX3_tell 9 = .ok (.return_, 1) := by decide +kernel
theorem dX3_tell__0 : decode cX3_tell_ 0 = .ok (.aload_n 0, 1) := by decide +kernel
theorem dX3_tell__1 : decode cX3_tell_ 1 = .ok (.lload_n 1, 1) := by decide +kernel
theorem dX3_tell__2 : decode cX3_tell_ 2 = .ok (.invokevirtual 26, 3) := by decide +kernel
theorem dX3_tell__5 : decode cX3_tell_ 5 = .ok (.aload_n 0, 1) := by decide +kernel
theorem dX3_tell__6 : decode cX3_tell_ 6 = .ok (.lload_n 3, 1) := by decide +kernel
theorem dX3_tell__7 : decode cX3_tell_ 7 = .ok (.invokevirtual 22, 3) := by decide +kernel
theorem dX3_tell__10 : decode cX3_tell_ 10 = .ok (.return_, 1) := by decide +kernel
theorem dX3_tell___0 : decode cX3_tell__ 0 = .ok (.aload_n 0, 1) := by decide +kernel
theorem dX3_tell___1 : decode cX3_tell__ 1 = .ok (.lload_n 1, 1) := by decide +kernel
theorem dX3_tell___2 : decode cX3_tell__ 2 = .ok (.lload_n 3, 1) := by decide +kernel
theorem dX3_tell___3 : decode cX3_tell__ 3 = .ok (.invokevirtual 29, 3) := by decide +kernel
theorem dX3_tell___6 : decode cX3_tell__ 6 = .ok (.aload_n 0, 1) := by decide +kernel
theorem dX3_tell___7 : decode cX3_tell__ 7 = .ok (.lload 5, 2) := by decide +kernel
theorem dX3_tell___9 : decode cX3_tell__ 9 = .ok (.invokevirtual 22, 3) := by decide +kernel
theorem dX3_tell___12 : decode cX3_tell__ 12 = .ok (.return_, 1) := by decide +kernel
theorem dX3_tell____0 : decode cX3_tell___ 0 = .ok (.aload_n 0, 1) := by decide +kernel
theorem dX3_tell____1 : decode cX3_tell___ 1 = .ok (.lload_n 1, 1) := by decide +kernel
theorem dX3_tell____2 : decode cX3_tell___ 2 = .ok (.lload_n 3, 1) := by decide +kernel
theorem dX3_tell____3 : decode cX3_tell___ 3 = .ok (.lload 5, 2) := by decide +kernel
theorem dX3_tell____5 : decode cX3_tell___ 5 = .ok (.invokevirtual 32, 3) := by decide +kernel
theorem dX3_tell____8 : decode cX3_tell___ 8 = .ok (.aload_n 0, 1) := by decide +kernel
theorem dX3_tell____9 : decode cX3_tell___ 9 = .ok (.lload 7, 2) := by decide +kernel
theorem dX3_tell____11 : decode cX3_tell___ 11 = .ok (.invokevirtual 22, 3) := by decide +kernel
theorem dX3_tell____14 : decode cX3_tell___ 14 = .ok (.return_, 1) := by decide +kernel
theorem dX3_at_0 : decode cX3_at 0 = .ok (.iload_n 1, 1) := by decide +kernel
theorem dX3_at_1 : decode cX3_at 1 = .ok (.ifCond .lt 26, 3) := by decide +kernel
theorem dX3_at_4 : decode cX3_at 4 = .ok (.iload_n 1, 1) := by decide +kernel
theorem dX3_at_5 : decode cX3_at 5 = .ok (.aload_n 0, 1) := by decide +kernel
theorem dX3_at_6 : decode cX3_at 6 = .ok (.getfield 15, 3) := by decide +kernel
theorem dX3_at_9 : decode cX3_at 9 = .ok (.if_icmp .ge 18, 3) := by decide +kernel
theorem dX3_at_12 : decode cX3_at 12 = .ok (.iload_n 1, 1) := by decide +kernel
theorem dX3_at_13 : decode cX3_at 13 = .ok (.bipush 16, 2) := by decide +kernel
theorem dX3_at_15 : decode cX3_at 15 = .ok (.if_icmp .ge 12, 3) := by decide +kernel
theorem dX3_at_18 : decode cX3_at 18 = .ok (.aload_n 0, 1) := by decide +kernel
theorem dX3_at_19 : decode cX3_at 19 = .ok (.getfield 9, 3) := by decide +kernel
theorem dX3_at_22 : decode cX3_at 22 = .ok (.iload_n 1, 1) := by decide +kernel
theorem dX3_at_23 : decode cX3_at 23 = .ok (.laload, 1) := by decide +kernel
theorem dX3_at_24 : decode cX3_at 24 = .ok (.goto 6, 3) := by decide +kernel
theorem dX3_at_27 : decode cX3_at 27 = .ok (.ldc2_w 35, 3) := by decide +kernel
theorem dX3_at_30 : decode cX3_at 30 = .ok (.lreturn, 1) := by decide +kernel
