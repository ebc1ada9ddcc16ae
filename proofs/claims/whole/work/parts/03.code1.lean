theorem dX7_byLaw_63 : decode cX7_byLaw 63 = .ok (.goto 4, 3) := by decide +kernel
theorem dX7_byLaw_66 : decode cX7_byLaw 66 = .ok (.iconst 0, 1) := by decide +kernel
theorem dX7_byLaw_67 : decode cX7_byLaw 67 = .ok (.ireturn, 1) := by decide +kernel
theorem dX7_thirstiest_0 : decode cX7_thirstiest 0 = .ok (.iconst 0, 1) := by decide +kernel
theorem dX7_thirstiest_1 : decode cX7_thirstiest 1 = .ok (.istore_n 2, 1) := by decide +kernel
theorem dX7_thirstiest_2 : decode cX7_thirstiest 2 = .ok (.iconst 1, 1) := by decide +kernel
theorem dX7_thirstiest_3 : decode cX7_thirstiest 3 = .ok (.istore_n 3, 1) := by decide +kernel
theorem dX7_thirstiest_4 : decode cX7_thirstiest 4 = .ok (.iload_n 3, 1) := by decide +kernel
theorem dX7_thirstiest_5 : decode cX7_thirstiest 5 = .ok (.aload_n 1, 1) := by decide +kernel
theorem dX7_thirstiest_6 : decode cX7_thirstiest 6 = .ok (.getfield 85, 3) := by decide +kernel
theorem dX7_thirstiest_9 : decode cX7_thirstiest 9 = .ok (.if_icmp .ge 40, 3) := by decide +kernel
theorem dX7_thirstiest_12 : decode cX7_thirstiest 12 = .ok (.aload_n 0, 1) := by decide +kernel
theorem dX7_thirstiest_13 : decode cX7_thirstiest 13 = .ok (.getfield 9, 3) := by decide +kernel
theorem dX7_thirstiest_16 : decode cX7_thirstiest 16 = .ok (.iload_n 3, 1) := by decide +kernel
theorem dX7_thirstiest_17 : decode cX7_thirstiest 17 = .ok (.iaload, 1) := by decide +kernel
theorem dX7_thirstiest_18 : decode cX7_thirstiest 18 = .ok (.aload_n 1, 1) := by decide +kernel
theorem dX7_thirstiest_19 : decode cX7_thirstiest 19 = .ok (.getfield 88, 3) := by decide +kernel
theorem dX7_thirstiest_22 : decode cX7_thirstiest 22 = .ok (.iload_n 3, 1) := by decide +kernel
theorem dX7_thirstiest_23 : decode cX7_thirstiest 23 = .ok (.iaload, 1) := by decide +kernel
theorem dX7_thirstiest_24 : decode cX7_thirstiest 24 = .ok (.isub, 1) := by decide +kernel
theorem dX7_thirstiest_25 : decode cX7_thirstiest 25 = .ok (.aload_n 0, 1) := by decide +kernel
theorem dX7_thirstiest_26 : decode cX7_thirstiest 26 = .ok (.getfield 9, 3) := by decide +kernel
theorem dX7_thirstiest_29 : decode cX7_thirstiest 29 = .ok (.iload_n 2, 1) := by decide +kernel
theorem dX7_thirstiest_30 : decode cX7_thirstiest 30 = .ok (.iaload, 1) := by decide +kernel
theorem dX7_thirstiest_31 : decode cX7_thirstiest 31 = .ok (.aload_n 1, 1) := by decide +kernel
theorem dX7_thirstiest_32 : decode cX7_thirstiest 32 = .ok (.getfield 88, 3) := by decide +kernel
theorem dX7_thirstiest_35 : decode cX7_thirstiest 35 = .ok (.iload_n 2, 1) := by decide +kernel
theorem dX7_thirstiest_36 : decode cX7_thirstiest 36 = .ok (.iaload, 1) := by decide +kernel
theorem dX7_thirstiest_37 : decode cX7_thirstiest 37 = .ok (.isub, 1) := by decide +kernel
theorem dX7_thirstiest_38 : decode cX7_thirstiest 38 = .ok (.if_icmp .ge 5, 3) := by decide +kernel
theorem dX7_thirstiest_41 : decode cX7_thirstiest 41 = .ok (.iload_n 3, 1) := by decide +kernel
theorem dX7_thirstiest_42 : decode cX7_thirstiest 42 = .ok (.istore_n 2, 1) := by decide +kernel
theorem dX7_thirstiest_43 : decode cX7_thirstiest 43 = .ok (.iinc 3 1, 3) := by decide +kernel
theorem dX7_thirstiest_46 : decode cX7_thirstiest 46 = .ok (.goto (-42), 3) := by decide +kernel
theorem dX7_thirstiest_49 : decode cX7_thirstiest 49 = .ok (.iload_n 2, 1) := by decide +kernel
theorem dX7_thirstiest_50 : decode cX7_thirstiest 50 = .ok (.ireturn, 1) := by decide +kernel
theorem dX7_slips_0 : decode cX7_slips 0 = .ok (.iload_n 1, 1) := by decide +kernel
theorem dX7_slips_1 : decode cX7_slips 1 = .ok (.iconst 1, 1) := by decide +kernel
theorem dX7_slips_2 : decode cX7_slips 2 = .ok (.if_icmp .ge 5, 3) := by decide +kernel
theorem dX7_slips_5 : decode cX7_slips 5 = .ok (.iconst 0, 1) := by decide +kernel
theorem dX7_slips_6 : decode cX7_slips 6 = .ok (.ireturn, 1) := by decide +kernel
theorem dX7_slips_7 : decode cX7_slips 7 = .ok (.aload_n 0, 1) := by decide +kernel
theorem dX7_slips_8 : decode cX7_slips 8 = .ok (.aload_n 0, 1) := by decide +kernel
theorem dX7_slips_9 : decode cX7_slips 9 = .ok (.getfield 24, 3) := by decide +kernel
theorem dX7_slips_12 : decode cX7_slips 12 = .ok (.ldc 91, 2) := by decide +kernel
theorem dX7_slips_14 : decode cX7_slips 14 = .ok (.imul, 1) := by decide +kernel
theorem dX7_slips_15 : decode cX7_slips 15 = .ok (.sipush 12345, 3) := by decide +kernel
theorem dX7_slips_18 : decode cX7_slips 18 = .ok (.iadd, 1) := by decide +kernel
theorem dX7_slips_19 : decode cX7_slips 19 = .ok (.putfield 24, 3) := by decide +kernel
theorem dX7_slips_22 : decode cX7_slips 22 = .ok (.aload_n 0, 1) := by decide +kernel
theorem dX7_slips_23 : decode cX7_slips 23 = .ok (.getfield 24, 3) := by decide +kernel
theorem dX7_slips_26 : decode cX7_slips 26 = .ok (.bipush 16, 2) := by decide +kernel
theorem dX7_slips_28 : decode cX7_slips 28 = .ok (.iushr, 1) := by decide +kernel
theorem dX7_slips_29 : decode cX7_slips 29 = .ok (.bipush 10, 2) := by decide +kernel
theorem dX7_slips_31 : decode cX7_slips 31 = .ok (.irem, 1) := by decide +kernel
theorem dX7_slips_32 : decode cX7_slips 32 = .ok (.iload_n 1, 1) := by decide +kernel
theorem dX7_slips_33 : decode cX7_slips 33 = .ok (.if_icmp .ge 7, 3) := by decide +kernel
theorem dX7_slips_36 : decode cX7_slips 36 = .ok (.iconst 1, 1) := by decide +kernel
theorem dX7_slips_37 : decode cX7_slips 37 = .ok (.goto 4, 3) := by decide +kernel
theorem dX7_slips_40 : decode cX7_slips 40 = .ok (.iconst 0, 1) := by decide +kernel
theorem dX7_slips_41 : decode cX7_slips 41 = .ok (.ireturn, 1) := by decide +kernel
set_option maxRecDepth 20000 in
theorem ggX7_endDay_X3_dropsOn : GoodIn wsX7_endDay wsX3_dropsOn := goodIn_r _ [13, 14, 15, 16, 17, 18, 19, 20, 21, 22, 23, 24, 25] (by decide +kernel) (by decide +kernel)
set_option maxRecDepth 20000 in
theorem gX7_endDay_X3_dropsOn : GoodIn wsX7_endDay (wsV RX7 46 RX3 yX3_dropsOn wsX3_dropsOn) := goodIn_app (goodIn_of _ (by decide +kernel)) ggX7_endDay_X3_dropsOn
theorem dX7_endDay_0 : decode cX7_endDay 0 = .ok (.iconst 0, 1) := by decide +kernel
theorem dX7_endDay_1 : decode cX7_endDay 1 = .ok (.istore_n 2, 1) := by decide +kernel
theorem dX7_endDay_2 : decode cX7_endDay 2 = .ok (.iconst 0, 1) := by decide +kernel
theorem dX7_endDay_3 : decode cX7_endDay 3 = .ok (.istore_n 3, 1) := by decide +kernel
theorem dX7_endDay_4 : decode cX7_endDay 4 = .ok (.iload_n 3, 1) := by decide +kernel
theorem dX7_endDay_5 : decode cX7_endDay 5 = .ok (.aload_n 1, 1) := by decide +kernel
theorem dX7_endDay_6 : decode cX7_endDay 6 = .ok (.getfield 85, 3) := by decide +kernel
theorem dX7_endDay_9 : decode cX7_endDay 9 = .ok (.if_icmp .ge 69, 3) := by decide +kernel
theorem dX7_endDay_12 : decode cX7_endDay 12 = .ok (.aload_n 0, 1) := by decide +kernel
theorem dX7_endDay_13 : decode cX7_endDay 13 = .ok (.getfield 9, 3) := by decide +kernel
theorem dX7_endDay_16 : decode cX7_endDay 16 = .ok (.iload_n 3, 1) := by decide +kernel
theorem dX7_endDay_17 : decode cX7_endDay 17 = .ok (.iaload, 1) := by decide +kernel
theorem dX7_endDay_18 : decode cX7_endDay 18 = .ok (.aload_n 1, 1) := by decide +kernel
theorem dX7_endDay_19 : decode cX7_endDay 19 = .ok (.getfield 92, 3) := by decide +kernel
theorem dX7_endDay_22 : decode cX7_endDay 22 = .ok (.iload_n 3, 1) := by decide +kernel
theorem dX7_endDay_23 : decode cX7_endDay 23 = .ok (.iaload, 1) := by decide +kernel
theorem dX7_endDay_24 : decode cX7_endDay 24 = .ok (.iadd, 1) := by decide +kernel
theorem dX7_endDay_25 : decode cX7_endDay 25 = .ok (.aload_n 1, 1) := by decide +kernel
theorem dX7_endDay_26 : decode cX7_endDay 26 = .ok (.getfield 88, 3) := by decide +kernel
theorem dX7_endDay_29 : decode cX7_endDay 29 = .ok (.iload_n 3, 1) := by decide +kernel
theorem dX7_endDay_30 : decode cX7_endDay 30 = .ok (.iaload, 1) := by decide +kernel
theorem dX7_endDay_31 : decode cX7_endDay 31 = .ok (.isub, 1) := by decide +kernel
theorem dX7_endDay_32 : decode cX7_endDay 32 = .ok (.istore 4, 2) := by decide +kernel
theorem dX7_endDay_34 : decode cX7_endDay 34 = .ok (.aload_n 0, 1) := by decide +kernel
theorem dX7_endDay_35 : decode cX7_endDay 35 = .ok (.getfield 9, 3) := by decide +kernel
theorem dX7_endDay_38 : decode cX7_endDay 38 = .ok (.iload_n 3, 1) := by decide +kernel
theorem dX7_endDay_39 : decode cX7_endDay 39 = .ok (.iconst 0, 1) := by decide +kernel
theorem dX7_endDay_40 : decode cX7_endDay 40 = .ok (.iload 4, 2) := by decide +kernel
theorem dX7_endDay_42 : decode cX7_endDay 42 = .ok (.invokestatic 95, 3) := by decide +kernel
theorem dX7_endDay_45 : decode cX7_endDay 45 = .ok (.iastore, 1) := by decide +kernel
theorem dX7_endDay_46 : decode cX7_endDay 46 = .ok (.aload_n 0, 1) := by decide +kernel
theorem dX7_endDay_47 : decode cX7_endDay 47 = .ok (.getfield 15, 3) := by decide +kernel
theorem dX7_endDay_50 : decode cX7_endDay 50 = .ok (.iload_n 3, 1) := by decide +kernel
theorem dX7_endDay_51 : decode cX7_endDay 51 = .ok (.dup2, 1) := by decide +kernel
theorem dX7_endDay_52 : decode cX7_endDay 52 = .ok (.iaload, 1) := by decide +kernel
theorem dX7_endDay_53 : decode cX7_endDay 53 = .ok (.iconst 0, 1) := by decide +kernel
theorem dX7_endDay_54 : decode cX7_endDay 54 = .ok (.iload 4, 2) := by decide +kernel
theorem dX7_endDay_56 : decode cX7_endDay 56 = .ok (.ineg, 1) := by decide +kernel
theorem dX7_endDay_57 : decode cX7_endDay 57 = .ok (.invokestatic 95, 3) := by decide +kernel
theorem dX7_endDay_60 : decode cX7_endDay 60 = .ok (.iadd, 1) := by decide +kernel
theorem dX7_endDay_61 : decode cX7_endDay 61 = .ok (.iastore, 1) := by decide +kernel
theorem dX7_endDay_62 : decode cX7_endDay 62 = .ok (.iload_n 2, 1) := by decide +kernel
theorem dX7_endDay_63 : decode cX7_endDay 63 = .ok (.iconst 0, 1) := by decide +kernel
theorem dX7_endDay_64 : decode cX7_endDay 64 = .ok (.iload 4, 2) := by decide +kernel
theorem dX7_endDay_66 : decode cX7_endDay 66 = .ok (.ineg, 1) := by decide +kernel
theorem dX7_endDay_67 : decode cX7_endDay 67 = .ok (.invokestatic 95, 3) := by decide +kernel
theorem dX7_endDay_70 : decode cX7_endDay 70 = .ok (.iadd, 1) := by decide +kernel
theorem dX7_endDay_71 : decode cX7_endDay 71 = .ok (.istore_n 2, 1) := by decide +kernel
theorem dX7_endDay_72 : decode cX7_endDay 72 = .ok (.iinc 3 1, 3) := by decide +kernel
theorem dX7_endDay_75 : decode cX7_endDay 75 = .ok (.goto (-71), 3) := by decide +kernel
theorem dX7_endDay_78 : decode cX7_endDay 78 = .ok (.aload_n 0, 1) := by decide +kernel
theorem dX7_endDay_79 : decode cX7_endDay 79 = .ok (.dup, 1) := by decide +kernel
theorem dX7_endDay_80 : decode cX7_endDay 80 = .ok (.getfield 43, 3) := by decide +kernel
theorem dX7_endDay_83 : decode cX7_endDay 83 = .ok (.iconst 1, 1) := by decide +kernel
theorem dX7_endDay_84 : decode cX7_endDay 84 = .ok (.iadd, 1) := by decide +kernel
theorem dX7_endDay_85 : decode cX7_endDay 85 = .ok (.putfield 43, 3) := by decide +kernel
theorem dX7_endDay_88 : decode cX7_endDay 88 = .ok (.aload_n 0, 1) := by decide +kernel
theorem dX7_endDay_89 : decode cX7_endDay 89 = .ok (.aload_n 1, 1) := by decide +kernel
theorem dX7_endDay_90 : decode cX7_endDay 90 = .ok (.aload_n 0, 1) := by decide +kernel
theorem dX7_endDay_91 : decode cX7_endDay 91 = .ok (.getfield 43, 3) := by decide +kernel
theorem dX7_endDay_94 : decode cX7_endDay 94 = .ok (.invokevirtual 46, 3) := by decide +kernel
theorem dX7_endDay_97 : decode cX7_endDay 97 = .ok (.putfield 50, 3) := by decide +kernel
theorem dX7_endDay_100 : decode cX7_endDay 100 = .ok (.iload_n 2, 1) := by decide +kernel
theorem dX7_endDay_101 : decode cX7_endDay 101 = .ok (.ireturn, 1) := by decide +kernel
theorem dX7_hear_0 : decode cX7_hear 0 = .ok (.aload_n 0, 1) := by decide +kernel
theorem dX7_hear_1 : decode cX7_hear 1 = .ok (.getfield 56, 3) := by decide +kernel
theorem dX7_hear_4 : decode cX7_hear 4 = .ok (.bipush 8, 2) := by decide +kernel
theorem dX7_hear_6 : decode cX7_hear 6 = .ok (.if_icmp .lt 5, 3) := by decide +kernel
theorem dX7_hear_9 : decode cX7_hear 9 = .ok (.iconst 0, 1) := by decide +kernel
theorem dX7_hear_10 : decode cX7_hear 10 = .ok (.ireturn, 1) := by decide +kernel
theorem dX7_hear_11 : decode cX7_hear 11 = .ok (.aload_n 0, 1) := by decide +kernel
theorem dX7_hear_12 : decode cX7_hear 12 = .ok (.getfield 18, 3) := by decide +kernel
theorem dX7_hear_15 : decode cX7_hear 15 = .ok (.aload_n 0, 1) := by decide +kernel
theorem dX7_hear_16 : decode cX7_hear 16 = .ok (.getfield 56, 3) := by decide +kernel
theorem dX7_hear_19 : decode cX7_hear 19 = .ok (.iload_n 1, 1) := by decide +kernel
theorem dX7_hear_20 : decode cX7_hear 20 = .ok (.iastore, 1) := by decide +kernel
theorem dX7_hear_21 : decode cX7_hear 21 = .ok (.aload_n 0, 1) := by decide +kernel
theorem dX7_hear_22 : decode cX7_hear 22 = .ok (.getfield 21, 3) := by decide +kernel
theorem dX7_hear_25 : decode cX7_hear 25 = .ok (.aload_n 0, 1) := by decide +kernel
theorem dX7_hear_26 : decode cX7_hear 26 = .ok (.getfield 56, 3) := by decide +kernel
theorem dX7_hear_29 : decode cX7_hear 29 = .ok (.iload_n 2, 1) := by decide +kernel
theorem dX7_hear_30 : decode cX7_hear 30 = .ok (.iastore, 1) := by decide +kernel
theorem dX7_hear_31 : decode cX7_hear 31 = .ok (.aload_n 0, 1) := by decide +kernel
theorem dX7_hear_32 : decode cX7_hear 32 = .ok (.dup, 1) := by decide +kernel
theorem dX7_hear_33 : decode cX7_hear 33 = .ok (.getfield 56, 3) := by decide +kernel
theorem dX7_hear_36 : decode cX7_hear 36 = .ok (.iconst 1, 1) := by decide +kernel
theorem dX7_hear_37 : decode cX7_hear 37 = .ok (.iadd, 1) := by decide +kernel
theorem dX7_hear_38 : decode cX7_hear 38 = .ok (.putfield 56, 3) := by decide +kernel
theorem dX7_hear_41 : decode cX7_hear 41 = .ok (.iconst 1, 1) := by decide +kernel
theorem dX7_hear_42 : decode cX7_hear 42 = .ok (.ireturn, 1) := by decide +kernel
theorem dX7_heardOf_0 : decode cX7_heardOf 0 = .ok (.iload_n 2, 1) := by decide +kernel
theorem dX7_heardOf_1 : decode cX7_heardOf 1 = .ok (.istore_n 3, 1) := by decide +kernel
theorem dX7_heardOf_2 : decode cX7_heardOf 2 = .ok (.iconst 0, 1) := by decide +kernel
theorem dX7_heardOf_3 : decode cX7_heardOf 3 = .ok (.istore 4, 2) := by decide +kernel
theorem dX7_heardOf_5 : decode cX7_heardOf 5 = .ok (.iload 4, 2) := by decide +kernel
theorem dX7_heardOf_7 : decode cX7_heardOf 7 = .ok (.aload_n 0, 1) := by decide +kernel
theorem dX7_heardOf_8 : decode cX7_heardOf 8 = .ok (.getfield 56, 3) := by decide +kernel
theorem dX7_heardOf_11 : decode cX7_heardOf 11 = .ok (.if_icmp .ge 30, 3) := by decide +kernel
theorem dX7_heardOf_14 : decode cX7_heardOf 14 = .ok (.aload_n 0, 1) := by decide +kernel
theorem dX7_heardOf_15 : decode cX7_heardOf 15 = .ok (.getfield 18, 3) := by decide +kernel
theorem dX7_heardOf_18 : decode cX7_heardOf 18 = .ok (.iload 4, 2) := by decide +kernel
theorem dX7_heardOf_20 : decode cX7_heardOf 20 = .ok (.iaload, 1) := by decide +kernel
theorem dX7_heardOf_21 : decode cX7_heardOf 21 = .ok (.iload_n 1, 1) := by decide +kernel
theorem dX7_heardOf_22 : decode cX7_heardOf 22 = .ok (.if_icmp .ne 13, 3) := by decide +kernel
theorem dX7_heardOf_25 : decode cX7_heardOf 25 = .ok (.iload_n 3, 1) := by decide +kernel
theorem dX7_heardOf_26 : decode cX7_heardOf 26 = .ok (.aload_n 0, 1) := by decide +kernel
theorem dX7_heardOf_27 : decode cX7_heardOf 27 = .ok (.getfield 21, 3) := by decide +kernel
theorem dX7_heardOf_30 : decode cX7_heardOf 30 = .ok (.iload 4, 2) := by decide +kernel
theorem dX7_heardOf_32 : decode cX7_heardOf 32 = .ok (.iaload, 1) := by decide +kernel
theorem dX7_heardOf_33 : decode cX7_heardOf 33 = .ok (.iand, 1) := by decide +kernel
theorem dX7_heardOf_34 : decode cX7_heardOf 34 = .ok (.istore_n 3, 1) := by decide +kernel
theorem dX7_heardOf_35 : decode cX7_heardOf 35 = .ok (.iinc 4 1, 3) := by decide +kernel
theorem dX7_heardOf_38 : decode cX7_heardOf 38 = .ok (.goto (-33), 3) := by decide +kernel
theorem dX7_heardOf_41 : decode cX7_heardOf 41 = .ok (.iload_n 3, 1) := by decide +kernel
theorem dX7_heardOf_42 : decode cX7_heardOf 42 = .ok (.ireturn, 1) := by decide +kernel
set_option maxRecDepth 20000 in
theorem ggX8_init_X0_init : GoodIn wsX8_init wsX0_init := goodIn_r _ [3, 4, 5, 6, 7, 8, 9] (by decide +kernel) (by decide +kernel)
set_option maxRecDepth 20000 in
theorem gX8_init_X0_init_n1 : GoodIn wsX8_init (wsX0_init) := ggX8_init_X0_init
theorem dX8_init_0 : decode cX8_init 0 = .ok (.aload_n 0, 1) := by decide +kernel
theorem dX8_init_1 : decode cX8_init 1 = .ok (.invokespecial 1, 3) := by decide +kernel
theorem dX8_init_4 : decode cX8_init 4 = .ok (.return_, 1) := by decide +kernel
set_option maxRecDepth 20000 in
theorem ggX8_marked_X4_leave : GoodIn wsX8_marked wsX4_leave := goodIn_r _ [6, 7, 32, 33, 34, 35, 36, 37] (by decide +kernel) (by decide +kernel)
set_option maxRecDepth 20000 in
theorem gX8_marked_X4_leave_u7X8 : GoodIn wsX8_marked (va_wsU RX8 7 RX8 "DropDealers$Kind" ⟨"DropDealers$Old", "leave", "(I)V"⟩ yX4_leave wsX4_leave) := goodIn_app (goodIn_of _ (by decide +kernel)) ggX8_marked_X4_leave
set_option maxRecDepth 20000 in
theorem ggX8_marked_X0_marked : GoodIn wsX8_marked wsX0_marked := goodIn_r _ [13, 14, 15, 16, 4, 5, 6, 7, 17, 18, 19, 20, 21, 22, 23, 24, 25, 26, 27, 28, 29, 30, 31, 38, 39, 40, 41, 42, 43, 44, 45, 46, 47, 32, 33, 34, 35, 36, 37, 48, 49, 50, 51, 52, 53, 54, 55, 56] (by decide +kernel) (by decide +kernel)
set_option maxRecDepth 20000 in
theorem gX8_marked_X0_marked_s13 : GoodIn wsX8_marked (va_wsSU RX8 13 yX0_marked wsX0_marked) := goodIn_app (goodIn_of _ (by decide +kernel)) ggX8_marked_X0_marked
theorem dX8_marked_0 : decode cX8_marked 0 = .ok (.aload_n 0, 1) := by decide +kernel
theorem dX8_marked_1 : decode cX8_marked 1 = .ok (.sipush 1000, 3) := by decide +kernel
theorem dX8_marked_4 : decode cX8_marked 4 = .ok (.invokevirtual 7, 3) := by decide +kernel
theorem dX8_marked_7 : decode cX8_marked 7 = .ok (.aload_n 0, 1) := by decide +kernel
theorem dX8_marked_8 : decode cX8_marked 8 = .ok (.aload_n 1, 1) := by decide +kernel
theorem dX8_marked_9 : decode cX8_marked 9 = .ok (.aload_n 2, 1) := by decide +kernel
theorem dX8_marked_10 : decode cX8_marked 10 = .ok (.iload_n 3, 1) := by decide +kernel
theorem dX8_marked_11 : decode cX8_marked 11 = .ok (.invokespecial 13, 3) := by decide +kernel
theorem dX8_marked_14 : decode cX8_marked 14 = .ok (.iconst 2, 1) := by decide +kernel
theorem dX8_marked_15 : decode cX8_marked 15 = .ok (.imul, 1) := by decide +kernel
theorem dX8_marked_16 : decode cX8_marked 16 = .ok (.ireturn, 1) := by decide +kernel
theorem dX9_init_0 : decode cX9_init 0 = .ok (.aload_n 0, 1) := by decide +kernel
theorem dX9_init_1 : decode cX9_init 1 = .ok (.invokespecial 3, 3) := by decide +kernel
theorem dX9_init_4 : decode cX9_init 4 = .ok (.aload_n 0, 1) := by decide +kernel
theorem dX9_init_5 : decode cX9_init 5 = .ok (.sipush 300, 3) := by decide +kernel
theorem dX9_init_8 : decode cX9_init 8 = .ok (.newarray .byte, 2) := by decide +kernel
theorem dX9_init_10 : decode cX9_init 10 = .ok (.putfield 9, 3) := by decide +kernel
theorem dX9_init_13 : decode cX9_init 13 = .ok (.return_, 1) := by decide +kernel
theorem dX9_size_0 : decode cX9_size 0 = .ok (.aload_n 0, 1) := by decide +kernel
theorem dX9_size_1 : decode cX9_size 1 = .ok (.getfield 15, 3) := by decide +kernel
theorem dX9_size_4 : decode cX9_size 4 = .ok (.ireturn, 1) := by decide +kernel
theorem dX9_empty_0 : decode cX9_empty 0 = .ok (.aload_n 0, 1) := by decide +kernel
theorem dX9_empty_1 : decode cX9_empty 1 = .ok (.iconst 0, 1) := by decide +kernel
theorem dX9_empty_2 : decode cX9_empty 2 = .ok (.putfield 15, 3) := by decide +kernel
theorem dX9_empty_5 : decode cX9_empty 5 = .ok (.return_, 1) := by decide +kernel
theorem dX9_append_0 : decode cX9_append 0 = .ok (.iload_n 3, 1) := by decide +kernel
theorem dX9_append_1 : decode cX9_append 1 = .ok (.sipush 300, 3) := by decide +kernel
theorem dX9_append_4 : decode cX9_append 4 = .ok (.aload_n 0, 1) := by decide +kernel
theorem dX9_append_5 : decode cX9_append 5 = .ok (.getfield 15, 3) := by decide +kernel
theorem dX9_append_8 : decode cX9_append 8 = .ok (.isub, 1) := by decide +kernel
theorem dX9_append_9 : decode cX9_append 9 = .ok (.if_icmp .le 5, 3) := by decide +kernel
theorem dX9_append_12 : decode cX9_append 12 = .ok (.iconst 0, 1) := by decide +kernel
theorem dX9_append_13 : decode cX9_append 13 = .ok (.ireturn, 1) := by decide +kernel
theorem dX9_append_14 : decode cX9_append 14 = .ok (.iload_n 3, 1) := by decide +kernel
theorem dX9_append_15 : decode cX9_append 15 = .ok (.iconst 1, 1) := by decide +kernel
theorem dX9_append_16 : decode cX9_append 16 = .ok (.isub, 1) := by decide +kernel
theorem dX9_append_17 : decode cX9_append 17 = .ok (.istore 4, 2) := by decide +kernel
theorem dX9_append_19 : decode cX9_append 19 = .ok (.iload 4, 2) := by decide +kernel
theorem dX9_append_21 : decode cX9_append 21 = .ok (.ifCond .lt 37, 3) := by decide +kernel
theorem dX9_append_24 : decode cX9_append 24 = .ok (.aload_n 0, 1) := by decide +kernel
theorem dX9_append_25 : decode cX9_append 25 = .ok (.getfield 9, 3) := by decide +kernel
theorem dX9_append_28 : decode cX9_append 28 = .ok (.aload_n 0, 1) := by decide +kernel
theorem dX9_append_29 : decode cX9_append 29 = .ok (.getfield 15, 3) := by decide +kernel
theorem dX9_append_32 : decode cX9_append 32 = .ok (.lload_n 1, 1) := by decide +kernel
theorem dX9_append_33 : decode cX9_append 33 = .ok (.bipush 8, 2) := by decide +kernel
theorem dX9_append_35 : decode cX9_append 35 = .ok (.iload 4, 2) := by decide +kernel
theorem dX9_append_37 : decode cX9_append 37 = .ok (.imul, 1) := by decide +kernel
theorem dX9_append_38 : decode cX9_append 38 = .ok (.lushr, 1) := by decide +kernel
theorem dX9_append_39 : decode cX9_append 39 = .ok (.l2i, 1) := by decide +kernel
theorem dX9_append_40 : decode cX9_append 40 = .ok (.i2b, 1) := by decide +kernel
theorem dX9_append_41 : decode cX9_append 41 = .ok (.bastore, 1) := by decide +kernel
theorem dX9_append_42 : decode cX9_append 42 = .ok (.aload_n 0, 1) := by decide +kernel
theorem dX9_append_43 : decode cX9_append 43 = .ok (.dup, 1) := by decide +kernel
theorem dX9_append_44 : decode cX9_append 44 = .ok (.getfield 15, 3) := by decide +kernel
theorem dX9_append_47 : decode cX9_append 47 = .ok (.iconst 1, 1) := by decide +kernel
theorem dX9_append_48 : decode cX9_append 48 = .ok (.iadd, 1) := by decide +kernel
theorem dX9_append_49 : decode cX9_append 49 = .ok (.putfield 15, 3) := by decide +kernel
theorem dX9_append_52 : decode cX9_append 52 = .ok (.iinc 4 (-1), 3) := by decide +kernel
theorem dX9_append_55 : decode cX9_append 55 = .ok (.goto (-36), 3) := by decide +kernel
theorem dX9_append_58 : decode cX9_append 58 = .ok (.iconst 1, 1) := by decide +kernel
theorem dX9_append_59 : decode cX9_append 59 = .ok (.ireturn, 1) := by decide +kernel
set_option maxRecDepth 20000 in
theorem ggX9_read_X3_untell : GoodIn wsX9_read wsX3_untell := goodIn_r _ [11, 12, 13, 14, 15, 16, 17, 156, 157, 158, 159, 160, 161, 162, 163, 164, 165] (by decide +kernel) (by decide +kernel)
set_option maxRecDepth 20000 in
theorem gX9_read_X3_untell : GoodIn wsX9_read (wsV RX9 19 RX3 yX3_untell wsX3_untell) := goodIn_app (goodIn_of _ (by decide +kernel)) ggX9_read_X3_untell
set_option maxRecDepth 20000 in
theorem ggX9_read_X9_advance : GoodIn wsX9_read wsX9_advance := goodIn_r _ [22, 4, 23, 24, 6, 5, 25, 26, 27, 21, 28, 29, 30, 31, 32, 33, 34, 35, 36, 37, 38, 39, 40, 41, 42, 43, 44, 45, 147, 148, 149, 150, 151, 152, 153, 154, 155] (by decide +kernel) (by decide +kernel)
set_option maxRecDepth 20000 in
theorem gX9_read_X9_advance : GoodIn wsX9_read (wsV RX9 37 RX9 yX9_advance wsX9_advance) := goodIn_app (goodIn_of _ (by decide +kernel)) ggX9_read_X9_advance
set_option maxRecDepth 20000 in
theorem ggX9_read_X9_readItem : GoodIn wsX9_read wsX9_readItem := goodIn_r _ [49, 5, 50, 51, 52, 21, 53, 4, 6, 24, 54, 55, 56, 57, 58, 59, 60, 61, 62, 63, 64, 65, 66, 67, 68, 69, 70, 71, 72, 73, 74, 75, 76, 77, 78, 79, 80, 81, 82, 83, 84, 85, 86, 87, 88, 89, 90, 91, 92, 93, 94, 95, 96, 97, 98, 99, 100, 101, 102, 103, 104, 105, 106, 18, 19, 20, 22, 23, 25, 26, 27, 28, 29, 30, 31, 32, 33, 34, 35, 36, 37, 38, 39, 40, 41, 42, 43, 44, 45, 107, 108, 109, 110, 111, 112, 113, 10, 114, 12, 115, 116, 117, 118, 119, 120, 121, 122, 123, 124, 125, 126, 127, 128, 129, 13, 130, 131, 132, 133, 134, 1, 135, 136, 137, 138, 2, 139, 140, 141, 142, 3, 143, 144, 145, 146, 16, 17, 147, 148, 149, 150, 151, 152, 153, 154, 155, 156, 157, 158, 159, 160, 161, 162, 163, 164, 165] (by decide +kernel) (by decide +kernel)
set_option maxRecDepth 20000 in
theorem gX9_read_X9_readItem : GoodIn wsX9_read (wsV RX9 43 RX9 yX9_readItem wsX9_readItem) := goodIn_app (goodIn_of _ (by decide +kernel)) ggX9_read_X9_readItem
theorem dX9_read_0 : decode cX9_read 0 = .ok (.aload_n 1, 1) := by decide +kernel
theorem dX9_read_1 : decode cX9_read 1 = .ok (.invokevirtual 19, 3) := by decide +kernel
theorem dX9_read_4 : decode cX9_read 4 = .ok (.aload_n 0, 1) := by decide +kernel
theorem dX9_read_5 : decode cX9_read 5 = .ok (.iconst 0, 1) := by decide +kernel
theorem dX9_read_6 : decode cX9_read 6 = .ok (.putfield 24, 3) := by decide +kernel
theorem dX9_read_9 : decode cX9_read 9 = .ok (.aload_n 0, 1) := by decide +kernel
theorem dX9_read_10 : decode cX9_read 10 = .ok (.iconst 0, 1) := by decide +kernel
theorem dX9_read_11 : decode cX9_read 11 = .ok (.putfield 28, 3) := by decide +kernel
theorem dX9_read_14 : decode cX9_read 14 = .ok (.aload_n 0, 1) := by decide +kernel
theorem dX9_read_15 : decode cX9_read 15 = .ok (.iconst 0, 1) := by decide +kernel
theorem dX9_read_16 : decode cX9_read 16 = .ok (.putfield 31, 3) := by decide +kernel
theorem dX9_read_19 : decode cX9_read 19 = .ok (.aload_n 0, 1) := by decide +kernel
theorem dX9_read_20 : decode cX9_read 20 = .ok (.iconst 0, 1) := by decide +kernel
theorem dX9_read_21 : decode cX9_read 21 = .ok (.putfield 34, 3) := by decide +kernel
theorem dX9_read_24 : decode cX9_read 24 = .ok (.aload_n 0, 1) := by decide +kernel
theorem dX9_read_25 : decode cX9_read 25 = .ok (.invokevirtual 37, 3) := by decide +kernel
theorem dX9_read_28 : decode cX9_read 28 = .ok (.iconst 0, 1) := by decide +kernel
theorem dX9_read_29 : decode cX9_read 29 = .ok (.istore_n 2, 1) := by decide +kernel
theorem dX9_read_30 : decode cX9_read 30 = .ok (.iload_n 2, 1) := by decide +kernel
theorem dX9_read_31 : decode cX9_read 31 = .ok (.sipush 300, 3) := by decide +kernel
theorem dX9_read_34 : decode cX9_read 34 = .ok (.if_icmp .gt 29, 3) := by decide +kernel
theorem dX9_read_37 : decode cX9_read 37 = .ok (.aload_n 0, 1) := by decide +kernel
theorem dX9_read_38 : decode cX9_read 38 = .ok (.getfield 40, 3) := by decide +kernel
theorem dX9_read_41 : decode cX9_read 41 = .ok (.ifCond .ne 5, 3) := by decide +kernel
theorem dX9_read_44 : decode cX9_read 44 = .ok (.iload_n 2, 1) := by decide +kernel
theorem dX9_read_45 : decode cX9_read 45 = .ok (.ireturn, 1) := by decide +kernel
theorem dX9_read_46 : decode cX9_read 46 = .ok (.aload_n 0, 1) := by decide +kernel
theorem dX9_read_47 : decode cX9_read 47 = .ok (.aload_n 1, 1) := by decide +kernel
theorem dX9_read_48 : decode cX9_read 48 = .ok (.invokevirtual 43, 3) := by decide +kernel
theorem dX9_read_51 : decode cX9_read 51 = .ok (.ifCond .ne 6, 3) := by decide +kernel
theorem dX9_read_54 : decode cX9_read 54 = .ok (.goto 9, 3) := by decide +kernel
theorem dX9_read_57 : decode cX9_read 57 = .ok (.iinc 2 1, 3) := by decide +kernel
theorem dX9_read_60 : decode cX9_read 60 = .ok (.goto (-30), 3) := by decide +kernel
theorem dX9_read_63 : decode cX9_read 63 = .ok (.bipush (-10), 2) := by decide +kernel
theorem dX9_read_65 : decode cX9_read 65 = .ok (.aload_n 0, 1) := by decide +kernel
theorem dX9_read_66 : decode cX9_read 66 = .ok (.getfield 47, 3) := by decide +kernel
theorem dX9_read_69 : decode cX9_read 69 = .ok (.isub, 1) := by decide +kernel
theorem dX9_read_70 : decode cX9_read 70 = .ok (.ireturn, 1) := by decide +kernel
set_option maxRecDepth 20000 in
theorem ggX9_readItem_X9_isWord : GoodIn wsX9_readItem wsX9_isWord := goodIn_r _ [6, 7, 8, 9, 10, 11, 12, 13, 14, 15, 16, 17, 18, 19, 20, 21, 22, 23, 24, 25, 26, 27, 28, 29, 30, 31, 32, 33, 34, 35, 36, 37, 38, 39, 40, 41, 42, 43, 44, 45, 46, 47, 48, 49, 50, 51, 52, 53, 54, 55, 56, 57, 58, 137, 138, 139, 140, 141, 142, 143, 144, 145] (by decide +kernel) (by decide +kernel)
set_option maxRecDepth 20000 in
theorem gX9_readItem_X9_isWord : GoodIn wsX9_readItem (wsV RX9 52 RX9 yX9_isWord wsX9_isWord) := goodIn_app (goodIn_of _ (by decide +kernel)) ggX9_readItem_X9_isWord
set_option maxRecDepth 20000 in
theorem ggX9_readItem_X9_readTerrace : GoodIn wsX9_readItem wsX9_readTerrace := goodIn_r _ [62, 63, 64, 65, 5, 66, 7, 67, 9, 8, 1, 68, 69, 70, 71, 72, 73, 74, 75, 76, 77, 78, 79, 80, 81, 82, 83, 84, 85, 86, 87, 88, 89, 90, 91, 92, 93, 94, 95, 96, 97, 98, 99, 100, 101, 102, 103, 104, 105, 146, 147, 148, 149, 150, 151, 152, 153, 154, 155, 137, 138, 139, 140, 141, 142, 143, 144, 145] (by decide +kernel) (by decide +kernel)
set_option maxRecDepth 20000 in
theorem gX9_readItem_X9_readTerrace : GoodIn wsX9_readItem (wsV RX9 56 RX9 yX9_readTerrace wsX9_readTerrace) := goodIn_app (goodIn_of _ (by decide +kernel)) ggX9_readItem_X9_readTerrace
set_option maxRecDepth 20000 in
theorem ggX9_readItem_X9_readDrip : GoodIn wsX9_readItem wsX9_readDrip := goodIn_r _ [109, 63, 64, 65, 5, 66, 7, 67, 9, 8, 1, 68, 69, 70, 71, 72, 73, 74, 75, 76, 77, 78, 79, 80, 81, 82, 83, 84, 85, 86, 87, 88, 89, 90, 91, 92, 110, 111, 112, 96, 113, 114, 115, 102, 103, 104, 105, 146, 147, 148, 149, 150, 151, 152, 153, 154, 155, 137, 138, 139, 140, 141, 142, 143, 144, 145] (by decide +kernel) (by decide +kernel)
set_option maxRecDepth 20000 in
theorem gX9_readItem_X9_readDrip : GoodIn wsX9_readItem (wsV RX9 61 RX9 yX9_readDrip wsX9_readDrip) := goodIn_app (goodIn_of _ (by decide +kernel)) ggX9_readItem_X9_readDrip
set_option maxRecDepth 20000 in
theorem ggX9_readItem_X9_readLaw : GoodIn wsX9_readItem wsX9_readLaw := goodIn_r _ [119, 120, 63, 64, 65, 5, 66, 7, 67, 9, 8, 1, 68, 69, 70, 71, 72, 73, 74, 75, 76, 77, 78, 79, 80, 81, 82, 83, 84, 85, 86, 87, 88, 89, 90, 91, 92, 102, 103, 104, 105, 137, 138, 139, 140, 141, 142, 143, 144, 145, 146, 147, 148, 149, 150, 151, 152, 153, 154, 155] (by decide +kernel) (by decide +kernel)
set_option maxRecDepth 20000 in
theorem gX9_readItem_X9_readLaw : GoodIn wsX9_readItem (wsV RX9 66 RX9 yX9_readLaw wsX9_readLaw) := goodIn_app (goodIn_of _ (by decide +kernel)) ggX9_readItem_X9_readLaw
set_option maxRecDepth 20000 in
theorem ggX9_readItem_X9_readSlip : GoodIn wsX9_readItem wsX9_readSlip := goodIn_r _ [124, 125, 63, 64, 65, 5, 66, 7, 67, 9, 8, 1, 68, 69, 70, 71, 72, 73, 74, 75, 76, 77, 78, 79, 80, 81, 82, 83, 84, 85, 86, 87, 88, 89, 90, 91, 92, 102, 103, 104, 105, 137, 138, 139, 140, 141, 142, 143, 144, 145, 146, 147, 148, 149, 150, 151, 152, 153, 154, 155] (by decide +kernel) (by decide +kernel)
set_option maxRecDepth 20000 in
theorem gX9_readItem_X9_readSlip : GoodIn wsX9_readItem (wsV RX9 71 RX9 yX9_readSlip wsX9_readSlip) := goodIn_app (goodIn_of _ (by decide +kernel)) ggX9_readItem_X9_readSlip
set_option maxRecDepth 20000 in
theorem ggX9_readItem_X9_readSong : GoodIn wsX9_readItem wsX9_readSong := goodIn_r _ [129, 130, 1, 63, 64, 65, 5, 66, 7, 67, 9, 8, 68, 69, 70, 71, 72, 73, 74, 75, 76, 77, 78, 79, 80, 81, 82, 83, 84, 85, 86, 87, 88, 89, 90, 91, 92, 131, 132, 133, 96, 134, 135, 136, 102, 103, 104, 105, 137, 138, 139, 140, 141, 142, 143, 144, 145, 146, 147, 148, 149, 150, 151, 152, 153, 154, 155] (by decide +kernel) (by decide +kernel)
set_option maxRecDepth 20000 in
theorem gX9_readItem_X9_readSong : GoodIn wsX9_readItem (wsV RX9 76 RX9 yX9_readSong wsX9_readSong) := goodIn_app (goodIn_of _ (by decide +kernel)) ggX9_readItem_X9_readSong
theorem dX9_readItem_0 : decode cX9_readItem 0 = .ok (.aload_n 0, 1) := by decide +kernel
theorem dX9_readItem_1 : decode cX9_readItem 1 = .ok (.getfield 40, 3) := by decide +kernel
theorem dX9_readItem_4 : decode cX9_readItem 4 = .ok (.iconst 1, 1) := by decide +kernel
theorem dX9_readItem_5 : decode cX9_readItem 5 = .ok (.if_icmp .eq 5, 3) := by decide +kernel
theorem dX9_readItem_8 : decode cX9_readItem 8 = .ok (.iconst 0, 1) := by decide +kernel
theorem dX9_readItem_9 : decode cX9_readItem 9 = .ok (.ireturn, 1) := by decide +kernel
theorem dX9_readItem_10 : decode cX9_readItem 10 = .ok (.aload_n 0, 1) := by decide +kernel
theorem dX9_readItem_11 : decode cX9_readItem 11 = .ok (.ldc 50, 2) := by decide +kernel
theorem dX9_readItem_13 : decode cX9_readItem 13 = .ok (.invokevirtual 52, 3) := by decide +kernel
theorem dX9_readItem_16 : decode cX9_readItem 16 = .ok (.ifCond .eq 9, 3) := by decide +kernel
theorem dX9_readItem_19 : decode cX9_readItem 19 = .ok (.aload_n 0, 1) := by decide +kernel
theorem dX9_readItem_20 : decode cX9_readItem 20 = .ok (.aload_n 1, 1) := by decide +kernel
theorem dX9_readItem_21 : decode cX9_readItem 21 = .ok (.invokevirtual 56, 3) := by decide +kernel
theorem dX9_readItem_24 : decode cX9_readItem 24 = .ok (.ireturn, 1) := by decide +kernel
theorem dX9_readItem_25 : decode cX9_readItem 25 = .ok (.aload_n 0, 1) := by decide +kernel
theorem dX9_readItem_26 : decode cX9_readItem 26 = .ok (.ldc 59, 2) := by decide +kernel
theorem dX9_readItem_28 : decode cX9_readItem 28 = .ok (.invokevirtual 52, 3) := by decide +kernel
theorem dX9_readItem_31 : decode cX9_readItem 31 = .ok (.ifCond .eq 9, 3) := by decide +kernel
theorem dX9_readItem_34 : decode cX9_readItem 34 = .ok (.aload_n 0, 1) := by decide +kernel
theorem dX9_readItem_35 : decode cX9_readItem 35 = .ok (.aload_n 1, 1) := by decide +kernel
theorem dX9_readItem_36 : decode cX9_readItem 36 = .ok (.invokevirtual 61, 3) := by decide +kernel
theorem dX9_readItem_39 : decode cX9_readItem 39 = .ok (.ireturn, 1) := by decide +kernel
theorem dX9_readItem_40 : decode cX9_readItem 40 = .ok (.aload_n 0, 1) := by decide +kernel
theorem dX9_readItem_41 : decode cX9_readItem 41 = .ok (.ldc 64, 2) := by decide +kernel
theorem dX9_readItem_43 : decode cX9_readItem 43 = .ok (.invokevirtual 52, 3) := by decide +kernel
theorem dX9_readItem_46 : decode cX9_readItem 46 = .ok (.ifCond .eq 9, 3) := by decide +kernel
theorem dX9_readItem_49 : decode cX9_readItem 49 = .ok (.aload_n 0, 1) := by decide +kernel
theorem dX9_readItem_50 : decode cX9_readItem 50 = .ok (.aload_n 1, 1) := by decide +kernel
theorem dX9_readItem_51 : decode cX9_readItem 51 = .ok (.invokevirtual 66, 3) := by decide +kernel
theorem dX9_readItem_54 : decode cX9_readItem 54 = .ok (.ireturn, 1) := by decide +kernel
theorem dX9_readItem_55 : decode cX9_readItem 55 = .ok (.aload_n 0, 1) := by decide +kernel
theorem dX9_readItem_56 : decode cX9_readItem 56 = .ok (.ldc 69, 2) := by decide +kernel
theorem dX9_readItem_58 : decode cX9_readItem 58 = .ok (.invokevirtual 52, 3) := by decide +kernel
theorem dX9_readItem_61 : decode cX9_readItem 61 = .ok (.ifCond .eq 9, 3) := by decide +kernel
theorem dX9_readItem_64 : decode cX9_readItem 64 = .ok (.aload_n 0, 1) := by decide +kernel
theorem dX9_readItem_65 : decode cX9_readItem 65 = .ok (.aload_n 1, 1) := by decide +kernel
theorem dX9_readItem_66 : decode cX9_readItem 66 = .ok (.invokevirtual 71, 3) := by decide +kernel
theorem dX9_readItem_69 : decode cX9_readItem 69 = .ok (.ireturn, 1) := by decide +kernel
theorem dX9_readItem_70 : decode cX9_readItem 70 = .ok (.aload_n 0, 1) := by decide +kernel
theorem dX9_readItem_71 : decode cX9_readItem 71 = .ok (.ldc 74, 2) := by decide +kernel
theorem dX9_readItem_73 : decode cX9_readItem 73 = .ok (.invokevirtual 52, 3) := by decide +kernel
theorem dX9_readItem_76 : decode cX9_readItem 76 = .ok (.ifCond .eq 15, 3) := by decide +kernel
theorem dX9_readItem_79 : decode cX9_readItem 79 = .ok (.aload_n 0, 1) := by decide +kernel
theorem dX9_readItem_80 : decode cX9_readItem 80 = .ok (.aload_n 1, 1) := by decide +kernel
theorem dX9_readItem_81 : decode cX9_readItem 81 = .ok (.invokevirtual 76, 3) := by decide +kernel
theorem dX9_readItem_84 : decode cX9_readItem 84 = .ok (.ifCond .eq 7, 3) := by decide +kernel
theorem dX9_readItem_87 : decode cX9_readItem 87 = .ok (.iconst 1, 1) := by decide +kernel
theorem dX9_readItem_88 : decode cX9_readItem 88 = .ok (.goto 4, 3) := by decide +kernel
theorem dX9_readItem_91 : decode cX9_readItem 91 = .ok (.iconst 0, 1) := by decide +kernel
theorem dX9_readItem_92 : decode cX9_readItem 92 = .ok (.ireturn, 1) := by decide +kernel
set_option maxRecDepth 20000 in
theorem ggX9_isWord_J0_length_8abf5 : GoodIn wsX9_isWord wsJ0_length_8abf5 := goodIn_r _ [8, 9, 10, 11, 12, 7, 13, 14, 15] (by decide +kernel) (by decide +kernel)
set_option maxRecDepth 20000 in
theorem gX9_isWord_J0_length_8abf5 : GoodIn wsX9_isWord (wsV RX9 79 RJ0 yJ0_length_8abf5 wsJ0_length_8abf5) := goodIn_app (goodIn_of _ (by decide +kernel)) ggX9_isWord_J0_length_8abf5
set_option maxRecDepth 20000 in
theorem ggX9_isWord_J0_charAt_5068e : GoodIn wsX9_isWord wsJ0_charAt_5068e := goodIn_r _ [19, 9, 20, 21, 22, 7, 23, 14, 15, 24, 25, 26, 27, 28, 29, 30, 31, 32, 33, 34, 35, 36, 37, 38, 39, 40, 41, 42, 43, 44, 45, 46, 47, 48, 49, 50, 51, 52] (by decide +kernel) (by decide +kernel)
set_option maxRecDepth 20000 in
theorem gX9_isWord_J0_charAt_5068e : GoodIn wsX9_isWord (wsV RX9 84 RJ0 yJ0_charAt_5068e wsJ0_charAt_5068e) := goodIn_app (goodIn_of _ (by decide +kernel)) ggX9_isWord_J0_charAt_5068e
theorem dX9_isWord_0 : decode cX9_isWord 0 = .ok (.aload_n 0, 1) := by decide +kernel
theorem dX9_isWord_1 : decode cX9_isWord 1 = .ok (.getfield 34, 3) := by decide +kernel
theorem dX9_isWord_4 : decode cX9_isWord 4 = .ok (.aload_n 0, 1) := by decide +kernel
theorem dX9_isWord_5 : decode cX9_isWord 5 = .ok (.getfield 47, 3) := by decide +kernel
theorem dX9_isWord_8 : decode cX9_isWord 8 = .ok (.isub, 1) := by decide +kernel
theorem dX9_isWord_9 : decode cX9_isWord 9 = .ok (.aload_n 1, 1) := by decide +kernel
theorem dX9_isWord_10 : decode cX9_isWord 10 = .ok (.invokevirtual 79, 3) := by decide +kernel
theorem dX9_isWord_13 : decode cX9_isWord 13 = .ok (.if_icmp .eq 5, 3) := by decide +kernel
theorem dX9_isWord_16 : decode cX9_isWord 16 = .ok (.iconst 0, 1) := by decide +kernel
theorem dX9_isWord_17 : decode cX9_isWord 17 = .ok (.ireturn, 1) := by decide +kernel
theorem dX9_isWord_18 : decode cX9_isWord 18 = .ok (.iconst 0, 1) := by decide +kernel
theorem dX9_isWord_19 : decode cX9_isWord 19 = .ok (.istore_n 2, 1) := by decide +kernel
theorem dX9_isWord_20 : decode cX9_isWord 20 = .ok (.iload_n 2, 1) := by decide +kernel
theorem dX9_isWord_21 : decode cX9_isWord 21 = .ok (.aload_n 1, 1) := by decide +kernel
theorem dX9_isWord_22 : decode cX9_isWord 22 = .ok (.invokevirtual 79, 3) := by decide +kernel
theorem dX9_isWord_25 : decode cX9_isWord 25 = .ok (.if_icmp .ge 30, 3) := by decide +kernel
theorem dX9_isWord_28 : decode cX9_isWord 28 = .ok (.aload_n 0, 1) := by decide +kernel
theorem dX9_isWord_29 : decode cX9_isWord 29 = .ok (.getfield 9, 3) := by decide +kernel
theorem dX9_isWord_32 : decode cX9_isWord 32 = .ok (.aload_n 0, 1) := by decide +kernel
theorem dX9_isWord_33 : decode cX9_isWord 33 = .ok (.getfield 47, 3) := by decide +kernel
theorem dX9_isWord_36 : decode cX9_isWord 36 = .ok (.iload_n 2, 1) := by decide +kernel
theorem dX9_isWord_37 : decode cX9_isWord 37 = .ok (.iadd, 1) := by decide +kernel
theorem dX9_isWord_38 : decode cX9_isWord 38 = .ok (.baload, 1) := by decide +kernel
theorem dX9_isWord_39 : decode cX9_isWord 39 = .ok (.aload_n 1, 1) := by decide +kernel
theorem dX9_isWord_40 : decode cX9_isWord 40 = .ok (.iload_n 2, 1) := by decide +kernel
theorem dX9_isWord_41 : decode cX9_isWord 41 = .ok (.invokevirtual 84, 3) := by decide +kernel
theorem dX9_isWord_44 : decode cX9_isWord 44 = .ok (.if_icmp .eq 5, 3) := by decide +kernel
theorem dX9_isWord_47 : decode cX9_isWord 47 = .ok (.iconst 0, 1) := by decide +kernel
theorem dX9_isWord_48 : decode cX9_isWord 48 = .ok (.ireturn, 1) := by decide +kernel
theorem dX9_isWord_49 : decode cX9_isWord 49 = .ok (.iinc 2 1, 3) := by decide +kernel
theorem dX9_isWord_52 : decode cX9_isWord 52 = .ok (.goto (-32), 3) := by decide +kernel
theorem dX9_isWord_55 : decode cX9_isWord 55 = .ok (.iconst 1, 1) := by decide +kernel
theorem dX9_isWord_56 : decode cX9_isWord 56 = .ok (.ireturn, 1) := by decide +kernel
set_option maxRecDepth 20000 in
theorem ggX9_readTerrace_X9_advance : GoodIn wsX9_readTerrace wsX9_advance := goodIn_r _ [5, 6, 7, 8, 9, 10, 11, 12, 13, 4, 14, 15, 16, 17, 18, 19, 20, 21, 22, 23, 24, 25, 26, 27, 28, 29, 30, 31, 59, 60, 61, 62, 63, 64, 65, 66, 67] (by decide +kernel) (by decide +kernel)
set_option maxRecDepth 20000 in
theorem gX9_readTerrace_X9_advance : GoodIn wsX9_readTerrace (wsV RX9 37 RX9 yX9_advance wsX9_advance) := goodIn_app (goodIn_of _ (by decide +kernel)) ggX9_readTerrace_X9_advance
set_option maxRecDepth 20000 in
theorem ggX9_readTerrace_X9_takeNumber : GoodIn wsX9_readTerrace wsX9_takeNumber := goodIn_r _ [35, 10, 27, 1, 2, 3, 4, 5, 6, 7, 8, 9, 11, 12, 13, 14, 15, 16, 17, 18, 19, 20, 21, 22, 23, 24, 25, 26, 28, 29, 30, 31, 59, 60, 61, 62, 63, 64, 65, 66, 67] (by decide +kernel) (by decide +kernel)
set_option maxRecDepth 20000 in
theorem gX9_readTerrace_X9_takeNumber : GoodIn wsX9_readTerrace (wsV RX9 91 RX9 yX9_takeNumber wsX9_takeNumber) := goodIn_app (goodIn_of _ (by decide +kernel)) ggX9_readTerrace_X9_takeNumber
set_option maxRecDepth 20000 in
theorem ggX9_readTerrace_X3_addTerrace : GoodIn wsX9_readTerrace wsX3_addTerrace := goodIn_r _ [40, 41, 42, 43, 44, 49, 50, 51, 52, 53, 54, 55, 56, 57, 58] (by decide +kernel) (by decide +kernel)
set_option maxRecDepth 20000 in
theorem gX9_readTerrace_X3_addTerrace : GoodIn wsX9_readTerrace (wsV RX9 95 RX3 yX3_addTerrace wsX3_addTerrace) := goodIn_app (goodIn_of _ (by decide +kernel)) ggX9_readTerrace_X3_addTerrace
set_option maxRecDepth 20000 in
theorem ggX9_readTerrace_X9_takeSemicolon : GoodIn wsX9_readTerrace wsX9_takeSemicolon := goodIn_r _ [48, 10, 1, 2, 3, 4, 5, 6, 7, 8, 9, 11, 12, 13, 14, 15, 16, 17, 18, 19, 20, 21, 22, 23, 24, 25, 26, 27, 28, 29, 30, 31, 59, 60, 61, 62, 63, 64, 65, 66, 67] (by decide +kernel) (by decide +kernel)
set_option maxRecDepth 20000 in
theorem gX9_readTerrace_X9_takeSemicolon : GoodIn wsX9_readTerrace (wsV RX9 99 RX9 yX9_takeSemicolon wsX9_takeSemicolon) := goodIn_app (goodIn_of _ (by decide +kernel)) ggX9_readTerrace_X9_takeSemicolon
theorem dX9_readTerrace_0 : decode cX9_readTerrace 0 = .ok (.aload_n 1, 1) := by decide +kernel
theorem dX9_readTerrace_1 : decode cX9_readTerrace 1 = .ok (.getfield 88, 3) := by decide +kernel
theorem dX9_readTerrace_4 : decode cX9_readTerrace 4 = .ok (.bipush 6, 2) := by decide +kernel
theorem dX9_readTerrace_6 : decode cX9_readTerrace 6 = .ok (.if_icmp .lt 5, 3) := by decide +kernel
theorem dX9_readTerrace_9 : decode cX9_readTerrace 9 = .ok (.iconst 0, 1) := by decide +kernel
theorem dX9_readTerrace_10 : decode cX9_readTerrace 10 = .ok (.ireturn, 1) := by decide +kernel
theorem dX9_readTerrace_11 : decode cX9_readTerrace 11 = .ok (.aload_n 0, 1) := by decide +kernel
theorem dX9_readTerrace_12 : decode cX9_readTerrace 12 = .ok (.invokevirtual 37, 3) := by decide +kernel
theorem dX9_readTerrace_15 : decode cX9_readTerrace 15 = .ok (.aload_n 0, 1) := by decide +kernel
theorem dX9_readTerrace_16 : decode cX9_readTerrace 16 = .ok (.iconst 0, 1) := by decide +kernel
theorem dX9_readTerrace_17 : decode cX9_readTerrace 17 = .ok (.bipush 30, 2) := by decide +kernel
theorem dX9_readTerrace_19 : decode cX9_readTerrace 19 = .ok (.invokevirtual 91, 3) := by decide +kernel
theorem dX9_readTerrace_22 : decode cX9_readTerrace 22 = .ok (.istore_n 2, 1) := by decide +kernel
theorem dX9_readTerrace_23 : decode cX9_readTerrace 23 = .ok (.iload_n 2, 1) := by decide +kernel
theorem dX9_readTerrace_24 : decode cX9_readTerrace 24 = .ok (.ifCond .ge 5, 3) := by decide +kernel
theorem dX9_readTerrace_27 : decode cX9_readTerrace 27 = .ok (.iconst 0, 1) := by decide +kernel
theorem dX9_readTerrace_28 : decode cX9_readTerrace 28 = .ok (.ireturn, 1) := by decide +kernel
theorem dX9_readTerrace_29 : decode cX9_readTerrace 29 = .ok (.aload_n 0, 1) := by decide +kernel
theorem dX9_readTerrace_30 : decode cX9_readTerrace 30 = .ok (.iconst 0, 1) := by decide +kernel
theorem dX9_readTerrace_31 : decode cX9_readTerrace 31 = .ok (.bipush 9, 2) := by decide +kernel
theorem dX9_readTerrace_33 : decode cX9_readTerrace 33 = .ok (.invokevirtual 91, 3) := by decide +kernel
theorem dX9_readTerrace_36 : decode cX9_readTerrace 36 = .ok (.istore_n 3, 1) := by decide +kernel
theorem dX9_readTerrace_37 : decode cX9_readTerrace 37 = .ok (.iload_n 3, 1) := by decide +kernel
theorem dX9_readTerrace_38 : decode cX9_readTerrace 38 = .ok (.ifCond .ge 5, 3) := by decide +kernel
theorem dX9_readTerrace_41 : decode cX9_readTerrace 41 = .ok (.iconst 0, 1) := by decide +kernel
theorem dX9_readTerrace_42 : decode cX9_readTerrace 42 = .ok (.ireturn, 1) := by decide +kernel
theorem dX9_readTerrace_43 : decode cX9_readTerrace 43 = .ok (.aload_n 0, 1) := by decide +kernel
theorem dX9_readTerrace_44 : decode cX9_readTerrace 44 = .ok (.iconst 0, 1) := by decide +kernel
theorem dX9_readTerrace_45 : decode cX9_readTerrace 45 = .ok (.iconst 3, 1) := by decide +kernel
theorem dX9_readTerrace_46 : decode cX9_readTerrace 46 = .ok (.invokevirtual 91, 3) := by decide +kernel
theorem dX9_readTerrace_49 : decode cX9_readTerrace 49 = .ok (.istore 4, 2) := by decide +kernel
theorem dX9_readTerrace_51 : decode cX9_readTerrace 51 = .ok (.iload 4, 2) := by decide +kernel
theorem dX9_readTerrace_53 : decode cX9_readTerrace 53 = .ok (.ifCond .ge 5, 3) := by decide +kernel
theorem dX9_readTerrace_56 : decode cX9_readTerrace 56 = .ok (.iconst 0, 1) := by decide +kernel
theorem dX9_readTerrace_57 : decode cX9_readTerrace 57 = .ok (.ireturn, 1) := by decide +kernel
theorem dX9_readTerrace_58 : decode cX9_readTerrace 58 = .ok (.aload_n 1, 1) := by decide +kernel
theorem dX9_readTerrace_59 : decode cX9_readTerrace 59 = .ok (.iload_n 2, 1) := by decide +kernel
theorem dX9_readTerrace_60 : decode cX9_readTerrace 60 = .ok (.iload_n 3, 1) := by decide +kernel
theorem dX9_readTerrace_61 : decode cX9_readTerrace 61 = .ok (.iload 4, 2) := by decide +kernel
theorem dX9_readTerrace_63 : decode cX9_readTerrace 63 = .ok (.invokevirtual 95, 3) := by decide +kernel
theorem dX9_readTerrace_66 : decode cX9_readTerrace 66 = .ok (.aload_n 0, 1) := by decide +kernel
theorem dX9_readTerrace_67 : decode cX9_readTerrace 67 = .ok (.invokevirtual 99, 3) := by decide +kernel
theorem dX9_readTerrace_70 : decode cX9_readTerrace 70 = .ok (.ireturn, 1) := by decide +kernel
set_option maxRecDepth 20000 in
theorem ggX9_readDrip_X9_advance : GoodIn wsX9_readDrip wsX9_advance := goodIn_r _ [5, 6, 7, 8, 9, 10, 11, 12, 13, 4, 14, 15, 16, 17, 18, 19, 20, 21, 22, 23, 24, 25, 26, 27, 28, 29, 30, 31, 57, 58, 59, 60, 61, 62, 63, 64, 65] (by decide +kernel) (by decide +kernel)
set_option maxRecDepth 20000 in
theorem gX9_readDrip_X9_advance : GoodIn wsX9_readDrip (wsV RX9 37 RX9 yX9_advance wsX9_advance) := goodIn_app (goodIn_of _ (by decide +kernel)) ggX9_readDrip_X9_advance
set_option maxRecDepth 20000 in
theorem ggX9_readDrip_X9_takeNumber : GoodIn wsX9_readDrip wsX9_takeNumber := goodIn_r _ [35, 10, 27, 1, 2, 3, 4, 5, 6, 7, 8, 9, 11, 12, 13, 14, 15, 16, 17, 18, 19, 20, 21, 22, 23, 24, 25, 26, 28, 29, 30, 31, 57, 58, 59, 60, 61, 62, 63, 64, 65] (by decide +kernel) (by decide +kernel)
set_option maxRecDepth 20000 in
theorem gX9_readDrip_X9_takeNumber : GoodIn wsX9_readDrip (wsV RX9 91 RX9 yX9_takeNumber wsX9_takeNumber) := goodIn_app (goodIn_of _ (by decide +kernel)) ggX9_readDrip_X9_takeNumber
set_option maxRecDepth 20000 in
theorem ggX9_readDrip_X3_addDays : GoodIn wsX9_readDrip wsX3_addDays := goodIn_r _ [40, 41, 42, 47, 48, 49, 50, 51, 52, 53, 54, 55, 56] (by decide +kernel) (by decide +kernel)
set_option maxRecDepth 20000 in
theorem gX9_readDrip_X3_addDays : GoodIn wsX9_readDrip (wsV RX9 106 RX3 yX3_addDays wsX3_addDays) := goodIn_app (goodIn_of _ (by decide +kernel)) ggX9_readDrip_X3_addDays
set_option maxRecDepth 20000 in
theorem ggX9_readDrip_X9_takeSemicolon : GoodIn wsX9_readDrip wsX9_takeSemicolon := goodIn_r _ [46, 10, 1, 2, 3, 4, 5, 6, 7, 8, 9, 11, 12, 13, 14, 15, 16, 17, 18, 19, 20, 21, 22, 23, 24, 25, 26, 27, 28, 29, 30, 31, 57, 58, 59, 60, 61, 62, 63, 64, 65] (by decide +kernel) (by decide +kernel)
set_option maxRecDepth 20000 in
theorem gX9_readDrip_X9_takeSemicolon : GoodIn wsX9_readDrip (wsV RX9 99 RX9 yX9_takeSemicolon wsX9_takeSemicolon) := goodIn_app (goodIn_of _ (by decide +kernel)) ggX9_readDrip_X9_takeSemicolon
theorem dX9_readDrip_0 : decode cX9_readDrip 0 = .ok (.aload_n 0, 1) := by decide +kernel
theorem dX9_readDrip_1 : decode cX9_readDrip 1 = .ok (.invokevirtual 37, 3) := by decide +kernel
theorem dX9_readDrip_4 : decode cX9_readDrip 4 = .ok (.aload_n 0, 1) := by decide +kernel
theorem dX9_readDrip_5 : decode cX9_readDrip 5 = .ok (.iconst 0, 1) := by decide +kernel
theorem dX9_readDrip_6 : decode cX9_readDrip 6 = .ok (.bipush 30, 2) := by decide +kernel
theorem dX9_readDrip_8 : decode cX9_readDrip 8 = .ok (.invokevirtual 91, 3) := by decide +kernel
theorem dX9_readDrip_11 : decode cX9_readDrip 11 = .ok (.istore_n 2, 1) := by decide +kernel
theorem dX9_readDrip_12 : decode cX9_readDrip 12 = .ok (.iload_n 2, 1) := by decide +kernel
theorem dX9_readDrip_13 : decode cX9_readDrip 13 = .ok (.ifCond .ge 5, 3) := by decide +kernel
theorem dX9_readDrip_16 : decode cX9_readDrip 16 = .ok (.iconst 0, 1) := by decide +kernel
theorem dX9_readDrip_17 : decode cX9_readDrip 17 = .ok (.ireturn, 1) := by decide +kernel
theorem dX9_readDrip_18 : decode cX9_readDrip 18 = .ok (.aload_n 0, 1) := by decide +kernel
theorem dX9_readDrip_19 : decode cX9_readDrip 19 = .ok (.iconst 1, 1) := by decide +kernel
theorem dX9_readDrip_20 : decode cX9_readDrip 20 = .ok (.bipush 20, 2) := by decide +kernel
theorem dX9_readDrip_22 : decode cX9_readDrip 22 = .ok (.aload_n 1, 1) := by decide +kernel
theorem dX9_readDrip_23 : decode cX9_readDrip 23 = .ok (.getfield 103, 3) := by decide +kernel
theorem dX9_readDrip_26 : decode cX9_readDrip 26 = .ok (.isub, 1) := by decide +kernel
theorem dX9_readDrip_27 : decode cX9_readDrip 27 = .ok (.invokevirtual 91, 3) := by decide +kernel
theorem dX9_readDrip_30 : decode cX9_readDrip 30 = .ok (.istore_n 3, 1) := by decide +kernel
theorem dX9_readDrip_31 : decode cX9_readDrip 31 = .ok (.iload_n 3, 1) := by decide +kernel
theorem dX9_readDrip_32 : decode cX9_readDrip 32 = .ok (.ifCond .ge 5, 3) := by decide +kernel
theorem dX9_readDrip_35 : decode cX9_readDrip 35 = .ok (.iconst 0, 1) := by decide +kernel
theorem dX9_readDrip_36 : decode cX9_readDrip 36 = .ok (.ireturn, 1) := by decide +kernel
theorem dX9_readDrip_37 : decode cX9_readDrip 37 = .ok (.aload_n 1, 1) := by decide +kernel
theorem dX9_readDrip_38 : decode cX9_readDrip 38 = .ok (.iload_n 2, 1) := by decide +kernel
theorem dX9_readDrip_39 : decode cX9_readDrip 39 = .ok (.iload_n 3, 1) := by decide +kernel
theorem dX9_readDrip_40 : decode cX9_readDrip 40 = .ok (.invokevirtual 106, 3) := by decide +kernel
theorem dX9_readDrip_43 : decode cX9_readDrip 43 = .ok (.aload_n 0, 1) := by decide +kernel
theorem dX9_readDrip_44 : decode cX9_readDrip 44 = .ok (.invokevirtual 99, 3) := by decide +kernel
theorem dX9_readDrip_47 : decode cX9_readDrip 47 = .ok (.ireturn, 1) := by decide +kernel
set_option maxRecDepth 20000 in
theorem ggX9_readLaw_X9_advance : GoodIn wsX9_readLaw wsX9_advance := goodIn_r _ [6, 7, 8, 9, 10, 11, 12, 13, 14, 5, 15, 16, 17, 18, 19, 20, 21, 22, 23, 24, 25, 26, 27, 28, 29, 30, 31, 32, 41, 42, 43, 44, 45, 46, 47, 48, 49] (by decide +kernel) (by decide +kernel)
set_option maxRecDepth 20000 in
theorem gX9_readLaw_X9_advance : GoodIn wsX9_readLaw (wsV RX9 37 RX9 yX9_advance wsX9_advance) := goodIn_app (goodIn_of _ (by decide +kernel)) ggX9_readLaw_X9_advance
set_option maxRecDepth 20000 in
theorem ggX9_readLaw_X9_takeNumber : GoodIn wsX9_readLaw wsX9_takeNumber := goodIn_r _ [36, 11, 28, 2, 3, 4, 5, 6, 7, 8, 9, 10, 12, 13, 14, 15, 16, 17, 18, 19, 20, 21, 22, 23, 24, 25, 26, 27, 29, 30, 31, 32, 41, 42, 43, 44, 45, 46, 47, 48, 49] (by decide +kernel) (by decide +kernel)
set_option maxRecDepth 20000 in
theorem gX9_readLaw_X9_takeNumber : GoodIn wsX9_readLaw (wsV RX9 91 RX9 yX9_takeNumber wsX9_takeNumber) := goodIn_app (goodIn_of _ (by decide +kernel)) ggX9_readLaw_X9_takeNumber
set_option maxRecDepth 20000 in
theorem ggX9_readLaw_X9_takeSemicolon : GoodIn wsX9_readLaw wsX9_takeSemicolon := goodIn_r _ [40, 11, 2, 3, 4, 5, 6, 7, 8, 9, 10, 12, 13, 14, 15, 16, 17, 18, 19, 20, 21, 22, 23, 24, 25, 26, 27, 28, 29, 30, 31, 32, 41, 42, 43, 44, 45, 46, 47, 48, 49] (by decide +kernel) (by decide +kernel)
set_option maxRecDepth 20000 in
theorem gX9_readLaw_X9_takeSemicolon : GoodIn wsX9_readLaw (wsV RX9 99 RX9 yX9_takeSemicolon wsX9_takeSemicolon) := goodIn_app (goodIn_of _ (by decide +kernel)) ggX9_readLaw_X9_takeSemicolon
theorem dX9_readLaw_0 : decode cX9_readLaw 0 = .ok (.aload_n 0, 1) := by decide +kernel
theorem dX9_readLaw_1 : decode cX9_readLaw 1 = .ok (.getfield 24, 3) := by decide +kernel
theorem dX9_readLaw_4 : decode cX9_readLaw 4 = .ok (.ifCond .eq 5, 3) := by decide +kernel
theorem dX9_readLaw_7 : decode cX9_readLaw 7 = .ok (.iconst 0, 1) := by decide +kernel
theorem dX9_readLaw_8 : decode cX9_readLaw 8 = .ok (.ireturn, 1) := by decide +kernel
theorem dX9_readLaw_9 : decode cX9_readLaw 9 = .ok (.aload_n 0, 1) := by decide +kernel
theorem dX9_readLaw_10 : decode cX9_readLaw 10 = .ok (.iconst 1, 1) := by decide +kernel
theorem dX9_readLaw_11 : decode cX9_readLaw 11 = .ok (.putfield 24, 3) := by decide +kernel
theorem dX9_readLaw_14 : decode cX9_readLaw 14 = .ok (.aload_n 0, 1) := by decide +kernel
theorem dX9_readLaw_15 : decode cX9_readLaw 15 = .ok (.invokevirtual 37, 3) := by decide +kernel
theorem dX9_readLaw_18 : decode cX9_readLaw 18 = .ok (.aload_n 1, 1) := by decide +kernel
theorem dX9_readLaw_19 : decode cX9_readLaw 19 = .ok (.aload_n 0, 1) := by decide +kernel
theorem dX9_readLaw_20 : decode cX9_readLaw 20 = .ok (.iconst 0, 1) := by decide +kernel
theorem dX9_readLaw_21 : decode cX9_readLaw 21 = .ok (.iconst 2, 1) := by decide +kernel
theorem dX9_readLaw_22 : decode cX9_readLaw 22 = .ok (.invokevirtual 91, 3) := by decide +kernel
theorem dX9_readLaw_25 : decode cX9_readLaw 25 = .ok (.putfield 110, 3) := by decide +kernel
theorem dX9_readLaw_28 : decode cX9_readLaw 28 = .ok (.aload_n 1, 1) := by decide +kernel
theorem dX9_readLaw_29 : decode cX9_readLaw 29 = .ok (.getfield 110, 3) := by decide +kernel
theorem dX9_readLaw_32 : decode cX9_readLaw 32 = .ok (.ifCond .lt 14, 3) := by decide +kernel
theorem dX9_readLaw_35 : decode cX9_readLaw 35 = .ok (.aload_n 0, 1) := by decide +kernel
theorem dX9_readLaw_36 : decode cX9_readLaw 36 = .ok (.invokevirtual 99, 3) := by decide +kernel
theorem dX9_readLaw_39 : decode cX9_readLaw 39 = .ok (.ifCond .eq 7, 3) := by decide +kernel
theorem dX9_readLaw_42 : decode cX9_readLaw 42 = .ok (.iconst 1, 1) := by decide +kernel
theorem dX9_readLaw_43 : decode cX9_readLaw 43 = .ok (.goto 4, 3) := by decide +kernel
theorem dX9_readLaw_46 : decode cX9_readLaw 46 = .ok (.iconst 0, 1) := by decide +kernel
theorem dX9_readLaw_47 : decode cX9_readLaw 47 = .ok (.ireturn, 1) := by decide +kernel
set_option maxRecDepth 20000 in
theorem ggX9_readSlip_X9_advance : GoodIn wsX9_readSlip wsX9_advance := goodIn_r _ [6, 7, 8, 9, 10, 11, 12, 13, 14, 5, 15, 16, 17, 18, 19, 20, 21, 22, 23, 24, 25, 26, 27, 28, 29, 30, 31, 32, 41, 42, 43, 44, 45, 46, 47, 48, 49] (by decide +kernel) (by decide +kernel)
set_option maxRecDepth 20000 in
theorem gX9_readSlip_X9_advance : GoodIn wsX9_readSlip (wsV RX9 37 RX9 yX9_advance wsX9_advance) := goodIn_app (goodIn_of _ (by decide +kernel)) ggX9_readSlip_X9_advance
set_option maxRecDepth 20000 in
theorem ggX9_readSlip_X9_takeNumber : GoodIn wsX9_readSlip wsX9_takeNumber := goodIn_r _ [36, 11, 28, 2, 3, 4, 5, 6, 7, 8, 9, 10, 12, 13, 14, 15, 16, 17, 18, 19, 20, 21, 22, 23, 24, 25, 26, 27, 29, 30, 31, 32, 41, 42, 43, 44, 45, 46, 47, 48, 49] (by decide +kernel) (by decide +kernel)
set_option maxRecDepth 20000 in
theorem gX9_readSlip_X9_takeNumber : GoodIn wsX9_readSlip (wsV RX9 91 RX9 yX9_takeNumber wsX9_takeNumber) := goodIn_app (goodIn_of _ (by decide +kernel)) ggX9_readSlip_X9_takeNumber
set_option maxRecDepth 20000 in
theorem ggX9_readSlip_X9_takeSemicolon : GoodIn wsX9_readSlip wsX9_takeSemicolon := goodIn_r _ [40, 11, 2, 3, 4, 5, 6, 7, 8, 9, 10, 12, 13, 14, 15, 16, 17, 18, 19, 20, 21, 22, 23, 24, 25, 26, 27, 28, 29, 30, 31, 32, 41, 42, 43, 44, 45, 46, 47, 48, 49] (by decide +kernel) (by decide +kernel)
set_option maxRecDepth 20000 in
theorem gX9_readSlip_X9_takeSemicolon : GoodIn wsX9_readSlip (wsV RX9 99 RX9 yX9_takeSemicolon wsX9_takeSemicolon) := goodIn_app (goodIn_of _ (by decide +kernel)) ggX9_readSlip_X9_takeSemicolon
theorem dX9_readSlip_0 : decode cX9_readSlip 0 = .ok (.aload_n 0, 1) := by decide +kernel
theorem dX9_readSlip_1 : decode cX9_readSlip 1 = .ok (.getfield 28, 3) := by decide +kernel
theorem dX9_readSlip_4 : decode cX9_readSlip 4 = .ok (.ifCond .eq 5, 3) := by decide +kernel
theorem dX9_readSlip_7 : decode cX9_readSlip 7 = .ok (.iconst 0, 1) := by decide +kernel
theorem dX9_readSlip_8 : decode cX9_readSlip 8 = .ok (.ireturn, 1) := by decide +kernel
theorem dX9_readSlip_9 : decode cX9_readSlip 9 = .ok (.aload_n 0, 1) := by decide +kernel
theorem dX9_readSlip_10 : decode cX9_readSlip 10 = .ok (.iconst 1, 1) := by decide +kernel
theorem dX9_readSlip_11 : decode cX9_readSlip 11 = .ok (.putfield 28, 3) := by decide +kernel
theorem dX9_readSlip_14 : decode cX9_readSlip 14 = .ok (.aload_n 0, 1) := by decide +kernel
theorem dX9_readSlip_15 : decode cX9_readSlip 15 = .ok (.invokevirtual 37, 3) := by decide +kernel
theorem dX9_readSlip_18 : decode cX9_readSlip 18 = .ok (.aload_n 1, 1) := by decide +kernel
theorem dX9_readSlip_19 : decode cX9_readSlip 19 = .ok (.aload_n 0, 1) := by decide +kernel
theorem dX9_readSlip_20 : decode cX9_readSlip 20 = .ok (.iconst 0, 1) := by decide +kernel
theorem dX9_readSlip_21 : decode cX9_readSlip 21 = .ok (.bipush 9, 2) := by decide +kernel
theorem dX9_readSlip_23 : decode cX9_readSlip 23 = .ok (.invokevirtual 91, 3) := by decide +kernel
theorem dX9_readSlip_26 : decode cX9_readSlip 26 = .ok (.putfield 112, 3) := by decide +kernel
theorem dX9_readSlip_29 : decode cX9_readSlip 29 = .ok (.aload_n 1, 1) := by decide +kernel
theorem dX9_readSlip_30 : decode cX9_readSlip 30 = .ok (.getfield 112, 3) := by decide +kernel
theorem dX9_readSlip_33 : decode cX9_readSlip 33 = .ok (.ifCond .lt 14, 3) := by decide +kernel
theorem dX9_readSlip_36 : decode cX9_readSlip 36 = .ok (.aload_n 0, 1) := by decide +kernel
theorem dX9_readSlip_37 : decode cX9_readSlip 37 = .ok (.invokevirtual 99, 3) := by decide +kernel
theorem dX9_readSlip_40 : decode cX9_readSlip 40 = .ok (.ifCond .eq 7, 3) := by decide +kernel
theorem dX9_readSlip_43 : decode cX9_readSlip 43 = .ok (.iconst 1, 1) := by decide +kernel
theorem dX9_readSlip_44 : decode cX9_readSlip 44 = .ok (.goto 4, 3) := by decide +kernel
theorem dX9_readSlip_47 : decode cX9_readSlip 47 = .ok (.iconst 0, 1) := by decide +kernel
theorem dX9_readSlip_48 : decode cX9_readSlip 48 = .ok (.ireturn, 1) := by decide +kernel
set_option maxRecDepth 20000 in
theorem ggX9_readSong_X9_advance : GoodIn wsX9_readSong wsX9_advance := goodIn_r _ [7, 8, 9, 10, 11, 2, 12, 13, 14, 6, 15, 16, 17, 18, 19, 20, 21, 22, 23, 24, 25, 26, 27, 28, 29, 30, 31, 32, 48, 49, 50, 51, 52, 53, 54, 55, 56] (by decide +kernel) (by decide +kernel)
set_option maxRecDepth 20000 in
theorem gX9_readSong_X9_advance : GoodIn wsX9_readSong (wsV RX9 37 RX9 yX9_advance wsX9_advance) := goodIn_app (goodIn_of _ (by decide +kernel)) ggX9_readSong_X9_advance
set_option maxRecDepth 20000 in
theorem ggX9_readSong_X9_takeNumber : GoodIn wsX9_readSong wsX9_takeNumber := goodIn_r _ [36, 2, 28, 3, 4, 5, 6, 7, 8, 9, 10, 11, 12, 13, 14, 15, 16, 17, 18, 19, 20, 21, 22, 23, 24, 25, 26, 27, 29, 30, 31, 32, 48, 49, 50, 51, 52, 53, 54, 55, 56] (by decide +kernel) (by decide +kernel)
set_option maxRecDepth 20000 in
theorem gX9_readSong_X9_takeNumber : GoodIn wsX9_readSong (wsV RX9 91 RX9 yX9_takeNumber wsX9_takeNumber) := goodIn_app (goodIn_of _ (by decide +kernel)) ggX9_readSong_X9_takeNumber
set_option maxRecDepth 20000 in
theorem ggX9_readSong_X3_sing : GoodIn wsX9_readSong wsX3_sing := goodIn_r _ [41, 42, 43, 57, 58, 59, 60, 61, 62, 63, 64, 65, 66] (by decide +kernel) (by decide +kernel)
set_option maxRecDepth 20000 in
theorem gX9_readSong_X3_sing : GoodIn wsX9_readSong (wsV RX9 114 RX3 yX3_sing wsX3_sing) := goodIn_app (goodIn_of _ (by decide +kernel)) ggX9_readSong_X3_sing
set_option maxRecDepth 20000 in
theorem ggX9_readSong_X9_takeSemicolon : GoodIn wsX9_readSong wsX9_takeSemicolon := goodIn_r _ [47, 2, 3, 4, 5, 6, 7, 8, 9, 10, 11, 12, 13, 14, 15, 16, 17, 18, 19, 20, 21, 22, 23, 24, 25, 26, 27, 28, 29, 30, 31, 32, 48, 49, 50, 51, 52, 53, 54, 55, 56] (by decide +kernel) (by decide +kernel)
set_option maxRecDepth 20000 in
theorem gX9_readSong_X9_takeSemicolon : GoodIn wsX9_readSong (wsV RX9 99 RX9 yX9_takeSemicolon wsX9_takeSemicolon) := goodIn_app (goodIn_of _ (by decide +kernel)) ggX9_readSong_X9_takeSemicolon
theorem dX9_readSong_0 : decode cX9_readSong 0 = .ok (.aload_n 0, 1) := by decide +kernel
theorem dX9_readSong_1 : decode cX9_readSong 1 = .ok (.getfield 31, 3) := by decide +kernel
theorem dX9_readSong_4 : decode cX9_readSong 4 = .ok (.ifCond .eq 5, 3) := by decide +kernel
theorem dX9_readSong_7 : decode cX9_readSong 7 = .ok (.iconst 0, 1) := by decide +kernel
theorem dX9_readSong_8 : decode cX9_readSong 8 = .ok (.ireturn, 1) := by decide +kernel
theorem dX9_readSong_9 : decode cX9_readSong 9 = .ok (.aload_n 0, 1) := by decide +kernel
theorem dX9_readSong_10 : decode cX9_readSong 10 = .ok (.iconst 1, 1) := by decide +kernel
theorem dX9_readSong_11 : decode cX9_readSong 11 = .ok (.putfield 31, 3) := by decide +kernel
theorem dX9_readSong_14 : decode cX9_readSong 14 = .ok (.aload_n 0, 1) := by decide +kernel
theorem dX9_readSong_15 : decode cX9_readSong 15 = .ok (.invokevirtual 37, 3) := by decide +kernel
theorem dX9_readSong_18 : decode cX9_readSong 18 = .ok (.iconst 0, 1) := by decide +kernel
theorem dX9_readSong_19 : decode cX9_readSong 19 = .ok (.istore_n 2, 1) := by decide +kernel
theorem dX9_readSong_20 : decode cX9_readSong 20 = .ok (.iload_n 2, 1) := by decide +kernel
theorem dX9_readSong_21 : decode cX9_readSong 21 = .ok (.bipush 8, 2) := by decide +kernel
theorem dX9_readSong_23 : decode cX9_readSong 23 = .ok (.if_icmp .ge 48, 3) := by decide +kernel
theorem dX9_readSong_26 : decode cX9_readSong 26 = .ok (.iload_n 2, 1) := by decide +kernel
theorem dX9_readSong_27 : decode cX9_readSong 27 = .ok (.ifCond .le 14, 3) := by decide +kernel
theorem dX9_readSong_30 : decode cX9_readSong 30 = .ok (.aload_n 0, 1) := by decide +kernel
theorem dX9_readSong_31 : decode cX9_readSong 31 = .ok (.getfield 40, 3) := by decide +kernel
theorem dX9_readSong_34 : decode cX9_readSong 34 = .ok (.iconst 3, 1) := by decide +kernel
theorem dX9_readSong_35 : decode cX9_readSong 35 = .ok (.if_icmp .ne 6, 3) := by decide +kernel
theorem dX9_readSong_38 : decode cX9_readSong 38 = .ok (.goto 33, 3) := by decide +kernel
theorem dX9_readSong_41 : decode cX9_readSong 41 = .ok (.aload_n 0, 1) := by decide +kernel
theorem dX9_readSong_42 : decode cX9_readSong 42 = .ok (.iconst 0, 1) := by decide +kernel
theorem dX9_readSong_43 : decode cX9_readSong 43 = .ok (.aload_n 1, 1) := by decide +kernel
theorem dX9_readSong_44 : decode cX9_readSong 44 = .ok (.getfield 88, 3) := by decide +kernel
theorem dX9_readSong_47 : decode cX9_readSong 47 = .ok (.iconst 1, 1) := by decide +kernel
theorem dX9_readSong_48 : decode cX9_readSong 48 = .ok (.isub, 1) := by decide +kernel
theorem dX9_readSong_49 : decode cX9_readSong 49 = .ok (.invokevirtual 91, 3) := by decide +kernel
theorem dX9_readSong_52 : decode cX9_readSong 52 = .ok (.istore_n 3, 1) := by decide +kernel
theorem dX9_readSong_53 : decode cX9_readSong 53 = .ok (.iload_n 3, 1) := by decide +kernel
theorem dX9_readSong_54 : decode cX9_readSong 54 = .ok (.ifCond .ge 5, 3) := by decide +kernel
theorem dX9_readSong_57 : decode cX9_readSong 57 = .ok (.iconst 0, 1) := by decide +kernel
theorem dX9_readSong_58 : decode cX9_readSong 58 = .ok (.ireturn, 1) := by decide +kernel
theorem dX9_readSong_59 : decode cX9_readSong 59 = .ok (.aload_n 1, 1) := by decide +kernel
theorem dX9_readSong_60 : decode cX9_readSong 60 = .ok (.iload_n 2, 1) := by decide +kernel
theorem dX9_readSong_61 : decode cX9_readSong 61 = .ok (.iload_n 3, 1) := by decide +kernel
theorem dX9_readSong_62 : decode cX9_readSong 62 = .ok (.invokevirtual 114, 3) := by decide +kernel
theorem dX9_readSong_65 : decode cX9_readSong 65 = .ok (.iinc 2 1, 3) := by decide +kernel
theorem dX9_readSong_68 : decode cX9_readSong 68 = .ok (.goto (-48), 3) := by decide +kernel
theorem dX9_readSong_71 : decode cX9_readSong 71 = .ok (.aload_n 0, 1) := by decide +kernel
theorem dX9_readSong_72 : decode cX9_readSong 72 = .ok (.invokevirtual 99, 3) := by decide +kernel
theorem dX9_readSong_75 : decode cX9_readSong 75 = .ok (.ireturn, 1) := by decide +kernel
set_option maxRecDepth 20000 in
theorem ggX9_takeNumber_X9_advance : GoodIn wsX9_takeNumber wsX9_advance := goodIn_r _ [7, 8, 9, 10, 11, 1, 12, 13, 14, 6, 15, 16, 17, 18, 19, 20, 21, 22, 23, 24, 25, 26, 27, 2, 28, 29, 30, 31, 32, 33, 34, 35, 36, 37, 38, 39, 40] (by decide +kernel) (by decide +kernel)
set_option maxRecDepth 20000 in
theorem gX9_takeNumber_X9_advance : GoodIn wsX9_takeNumber (wsV RX9 37 RX9 yX9_advance wsX9_advance) := goodIn_app (goodIn_of _ (by decide +kernel)) ggX9_takeNumber_X9_advance
theorem dX9_takeNumber_0 : decode cX9_takeNumber 0 = .ok (.aload_n 0, 1) := by decide +kernel
theorem dX9_takeNumber_1 : decode cX9_takeNumber 1 = .ok (.getfield 40, 3) := by decide +kernel
theorem dX9_takeNumber_4 : decode cX9_takeNumber 4 = .ok (.iconst 2, 1) := by decide +kernel
theorem dX9_takeNumber_5 : decode cX9_takeNumber 5 = .ok (.if_icmp .ne 19, 3) := by decide +kernel
theorem dX9_takeNumber_8 : decode cX9_takeNumber 8 = .ok (.aload_n 0, 1) := by decide +kernel
theorem dX9_takeNumber_9 : decode cX9_takeNumber 9 = .ok (.getfield 117, 3) := by decide +kernel
theorem dX9_takeNumber_12 : decode cX9_takeNumber 12 = .ok (.iload_n 1, 1) := by decide +kernel
theorem dX9_takeNumber_13 : decode cX9_takeNumber 13 = .ok (.if_icmp .lt 11, 3) := by decide +kernel
theorem dX9_takeNumber_16 : decode cX9_takeNumber 16 = .ok (.aload_n 0, 1) := by decide +kernel
theorem dX9_takeNumber_17 : decode cX9_takeNumber 17 = .ok (.getfield 117, 3) := by decide +kernel
theorem dX9_takeNumber_20 : decode cX9_takeNumber 20 = .ok (.iload_n 2, 1) := by decide +kernel
theorem dX9_takeNumber_21 : decode cX9_takeNumber 21 = .ok (.if_icmp .le 5, 3) := by decide +kernel
theorem dX9_takeNumber_24 : decode cX9_takeNumber 24 = .ok (.iconst (-1), 1) := by decide +kernel
theorem dX9_takeNumber_25 : decode cX9_takeNumber 25 = .ok (.ireturn, 1) := by decide +kernel
theorem dX9_takeNumber_26 : decode cX9_takeNumber 26 = .ok (.aload_n 0, 1) := by decide +kernel
theorem dX9_takeNumber_27 : decode cX9_takeNumber 27 = .ok (.getfield 117, 3) := by decide +kernel
theorem dX9_takeNumber_30 : decode cX9_takeNumber 30 = .ok (.istore_n 3, 1) := by decide +kernel
theorem dX9_takeNumber_31 : decode cX9_takeNumber 31 = .ok (.aload_n 0, 1) := by decide +kernel
theorem dX9_takeNumber_32 : decode cX9_takeNumber 32 = .ok (.invokevirtual 37, 3) := by decide +kernel
theorem dX9_takeNumber_35 : decode cX9_takeNumber 35 = .ok (.iload_n 3, 1) := by decide +kernel
theorem dX9_takeNumber_36 : decode cX9_takeNumber 36 = .ok (.ireturn, 1) := by decide +kernel
set_option maxRecDepth 20000 in
theorem ggX9_takeSemicolon_X9_advance : GoodIn wsX9_takeSemicolon wsX9_advance := goodIn_r _ [6, 7, 8, 9, 10, 1, 11, 12, 13, 5, 14, 15, 16, 17, 18, 19, 20, 21, 22, 23, 24, 25, 26, 27, 28, 29, 30, 31, 32, 33, 34, 35, 36, 37, 38, 39, 40] (by decide +kernel) (by decide +kernel)
set_option maxRecDepth 20000 in
theorem gX9_takeSemicolon_X9_advance : GoodIn wsX9_takeSemicolon (wsV RX9 37 RX9 yX9_advance wsX9_advance) := goodIn_app (goodIn_of _ (by decide +kernel)) ggX9_takeSemicolon_X9_advance
theorem dX9_takeSemicolon_0 : decode cX9_takeSemicolon 0 = .ok (.aload_n 0, 1) := by decide +kernel
theorem dX9_takeSemicolon_1 : decode cX9_takeSemicolon 1 = .ok (.getfield 40, 3) := by decide +kernel
theorem dX9_takeSemicolon_4 : decode cX9_takeSemicolon 4 = .ok (.iconst 3, 1) := by decide +kernel
theorem dX9_takeSemicolon_5 : decode cX9_takeSemicolon 5 = .ok (.if_icmp .eq 5, 3) := by decide +kernel
theorem dX9_takeSemicolon_8 : decode cX9_takeSemicolon 8 = .ok (.iconst 0, 1) := by decide +kernel
theorem dX9_takeSemicolon_9 : decode cX9_takeSemicolon 9 = .ok (.ireturn, 1) := by decide +kernel
theorem dX9_takeSemicolon_10 : decode cX9_takeSemicolon 10 = .ok (.aload_n 0, 1) := by decide +kernel
theorem dX9_takeSemicolon_11 : decode cX9_takeSemicolon 11 = .ok (.invokevirtual 37, 3) := by decide +kernel
theorem dX9_takeSemicolon_14 : decode cX9_takeSemicolon 14 = .ok (.iconst 1, 1) := by decide +kernel
theorem dX9_takeSemicolon_15 : decode cX9_takeSemicolon 15 = .ok (.ireturn, 1) := by decide +kernel
set_option maxRecDepth 20000 in
theorem ggX9_advance_X9_isLetter : GoodIn wsX9_advance wsX9_isLetter := goodIn_r _ [10, 2, 3, 28, 29, 30, 31, 32, 33, 34, 35, 36] (by decide +kernel) (by decide +kernel)
set_option maxRecDepth 20000 in
theorem gX9_advance_X9_isLetter : GoodIn wsX9_advance (wsV RX9 120 RX9 yX9_isLetter wsX9_isLetter) := goodIn_app (goodIn_of _ (by decide +kernel)) ggX9_advance_X9_isLetter
set_option maxRecDepth 20000 in
theorem ggX9_advance_X9_wordAtPlace : GoodIn wsX9_advance wsX9_wordAtPlace := goodIn_r _ [14, 1, 2, 6, 7, 8, 9, 10, 3, 28, 29, 30, 31, 32, 33, 34, 35, 36] (by decide +kernel) (by decide +kernel)
set_option maxRecDepth 20000 in
theorem gX9_advance_X9_wordAtPlace : GoodIn wsX9_advance (wsV RX9 124 RX9 yX9_wordAtPlace wsX9_wordAtPlace) := goodIn_app (goodIn_of _ (by decide +kernel)) ggX9_advance_X9_wordAtPlace
set_option maxRecDepth 20000 in
theorem ggX9_advance_X9_isDigit : GoodIn wsX9_advance wsX9_isDigit := goodIn_r _ [18, 2, 3, 28, 29, 30, 31, 32, 33, 34, 35, 36] (by decide +kernel) (by decide +kernel)
set_option maxRecDepth 20000 in
theorem gX9_advance_X9_isDigit : GoodIn wsX9_advance (wsV RX9 127 RX9 yX9_isDigit wsX9_isDigit) := goodIn_app (goodIn_of _ (by decide +kernel)) ggX9_advance_X9_isDigit
set_option maxRecDepth 20000 in
theorem ggX9_advance_X9_numberAtPlace : GoodIn wsX9_advance wsX9_numberAtPlace := goodIn_r _ [22, 23, 1, 2, 3, 24, 25, 26, 27, 4, 15, 16, 17, 9, 18, 28, 29, 30, 31, 32, 33, 34, 35, 36] (by decide +kernel) (by decide +kernel)
set_option maxRecDepth 20000 in
theorem gX9_advance_X9_numberAtPlace : GoodIn wsX9_advance (wsV RX9 130 RX9 yX9_numberAtPlace wsX9_numberAtPlace) := goodIn_app (goodIn_of _ (by decide +kernel)) ggX9_advance_X9_numberAtPlace
theorem dX9_advance_0 : decode cX9_advance 0 = .ok (.aload_n 0, 1) := by decide +kernel
theorem dX9_advance_1 : decode cX9_advance 1 = .ok (.getfield 34, 3) := by decide +kernel
theorem dX9_advance_4 : decode cX9_advance 4 = .ok (.aload_n 0, 1) := by decide +kernel
theorem dX9_advance_5 : decode cX9_advance 5 = .ok (.getfield 15, 3) := by decide +kernel
theorem dX9_advance_8 : decode cX9_advance 8 = .ok (.if_icmp .ge 30, 3) := by decide +kernel
theorem dX9_advance_11 : decode cX9_advance 11 = .ok (.aload_n 0, 1) := by decide +kernel
theorem dX9_advance_12 : decode cX9_advance 12 = .ok (.getfield 9, 3) := by decide +kernel
theorem dX9_advance_15 : decode cX9_advance 15 = .ok (.aload_n 0, 1) := by decide +kernel
theorem dX9_advance_16 : decode cX9_advance 16 = .ok (.getfield 34, 3) := by decide +kernel
theorem dX9_advance_19 : decode cX9_advance 19 = .ok (.baload, 1) := by decide +kernel
theorem dX9_advance_20 : decode cX9_advance 20 = .ok (.bipush 32, 2) := by decide +kernel
theorem dX9_advance_22 : decode cX9_advance 22 = .ok (.if_icmp .ne 16, 3) := by decide +kernel
theorem dX9_advance_25 : decode cX9_advance 25 = .ok (.aload_n 0, 1) := by decide +kernel
theorem dX9_advance_26 : decode cX9_advance 26 = .ok (.dup, 1) := by decide +kernel
theorem dX9_advance_27 : decode cX9_advance 27 = .ok (.getfield 34, 3) := by decide +kernel
theorem dX9_advance_30 : decode cX9_advance 30 = .ok (.iconst 1, 1) := by decide +kernel
theorem dX9_advance_31 : decode cX9_advance 31 = .ok (.iadd, 1) := by decide +kernel
theorem dX9_advance_32 : decode cX9_advance 32 = .ok (.putfield 34, 3) := by decide +kernel
theorem dX9_advance_35 : decode cX9_advance 35 = .ok (.goto (-35), 3) := by decide +kernel
theorem dX9_advance_38 : decode cX9_advance 38 = .ok (.aload_n 0, 1) := by decide +kernel
theorem dX9_advance_39 : decode cX9_advance 39 = .ok (.aload_n 0, 1) := by decide +kernel
theorem dX9_advance_40 : decode cX9_advance 40 = .ok (.getfield 34, 3) := by decide +kernel
theorem dX9_advance_43 : decode cX9_advance 43 = .ok (.putfield 47, 3) := by decide +kernel
theorem dX9_advance_46 : decode cX9_advance 46 = .ok (.aload_n 0, 1) := by decide +kernel
theorem dX9_advance_47 : decode cX9_advance 47 = .ok (.getfield 34, 3) := by decide +kernel
theorem dX9_advance_50 : decode cX9_advance 50 = .ok (.aload_n 0, 1) := by decide +kernel
theorem dX9_advance_51 : decode cX9_advance 51 = .ok (.getfield 15, 3) := by decide +kernel
theorem dX9_advance_54 : decode cX9_advance 54 = .ok (.if_icmp .lt 11, 3) := by decide +kernel
theorem dX9_advance_57 : decode cX9_advance 57 = .ok (.aload_n 0, 1) := by decide +kernel
theorem dX9_advance_58 : decode cX9_advance 58 = .ok (.iconst 0, 1) := by decide +kernel
theorem dX9_advance_59 : decode cX9_advance 59 = .ok (.putfield 40, 3) := by decide +kernel
theorem dX9_advance_62 : decode cX9_advance 62 = .ok (.goto 80, 3) := by decide +kernel
theorem dX9_advance_65 : decode cX9_advance 65 = .ok (.aload_n 0, 1) := by decide +kernel
theorem dX9_advance_66 : decode cX9_advance 66 = .ok (.aload_n 0, 1) := by decide +kernel
theorem dX9_advance_67 : decode cX9_advance 67 = .ok (.getfield 34, 3) := by decide +kernel
theorem dX9_advance_70 : decode cX9_advance 70 = .ok (.invokevirtual 120, 3) := by decide +kernel
theorem dX9_advance_73 : decode cX9_advance 73 = .ok (.ifCond .eq 14, 3) := by decide +kernel
theorem dX9_advance_76 : decode cX9_advance 76 = .ok (.aload_n 0, 1) := by decide +kernel
theorem dX9_advance_77 : decode cX9_advance 77 = .ok (.aload_n 0, 1) := by decide +kernel
theorem dX9_advance_78 : decode cX9_advance 78 = .ok (.invokevirtual 124, 3) := by decide +kernel
theorem dX9_advance_81 : decode cX9_advance 81 = .ok (.putfield 40, 3) := by decide +kernel
theorem dX9_advance_84 : decode cX9_advance 84 = .ok (.goto 58, 3) := by decide +kernel
theorem dX9_advance_87 : decode cX9_advance 87 = .ok (.aload_n 0, 1) := by decide +kernel
theorem dX9_advance_88 : decode cX9_advance 88 = .ok (.aload_n 0, 1) := by decide +kernel
theorem dX9_advance_89 : decode cX9_advance 89 = .ok (.getfield 34, 3) := by decide +kernel
theorem dX9_advance_92 : decode cX9_advance 92 = .ok (.invokevirtual 127, 3) := by decide +kernel
theorem dX9_advance_95 : decode cX9_advance 95 = .ok (.ifCond .eq 14, 3) := by decide +kernel
theorem dX9_advance_98 : decode cX9_advance 98 = .ok (.aload_n 0, 1) := by decide +kernel
theorem dX9_advance_99 : decode cX9_advance 99 = .ok (.aload_n 0, 1) := by decide +kernel
theorem dX9_advance_100 : decode cX9_advance 100 = .ok (.invokevirtual 130, 3) := by decide +kernel
theorem dX9_advance_103 : decode cX9_advance 103 = .ok (.putfield 40, 3) := by decide +kernel
theorem dX9_advance_106 : decode cX9_advance 106 = .ok (.goto 36, 3) := by decide +kernel
theorem dX9_advance_109 : decode cX9_advance 109 = .ok (.aload_n 0, 1) := by decide +kernel
theorem dX9_advance_110 : decode cX9_advance 110 = .ok (.aload_n 0, 1) := by decide +kernel
theorem dX9_advance_111 : decode cX9_advance 111 = .ok (.getfield 9, 3) := by decide +kernel
theorem dX9_advance_114 : decode cX9_advance 114 = .ok (.aload_n 0, 1) := by decide +kernel
theorem dX9_advance_115 : decode cX9_advance 115 = .ok (.getfield 34, 3) := by decide +kernel
theorem dX9_advance_118 : decode cX9_advance 118 = .ok (.baload, 1) := by decide +kernel
theorem dX9_advance_119 : decode cX9_advance 119 = .ok (.bipush 59, 2) := by decide +kernel
theorem dX9_advance_121 : decode cX9_advance 121 = .ok (.if_icmp .ne 7, 3) := by decide +kernel
theorem dX9_advance_124 : decode cX9_advance 124 = .ok (.iconst 3, 1) := by decide +kernel
theorem dX9_advance_125 : decode cX9_advance 125 = .ok (.goto 4, 3) := by decide +kernel
theorem dX9_advance_128 : decode cX9_advance 128 = .ok (.iconst 4, 1) := by decide +kernel
theorem dX9_advance_129 : decode cX9_advance 129 = .ok (.putfield 40, 3) := by decide +kernel
theorem dX9_advance_132 : decode cX9_advance 132 = .ok (.aload_n 0, 1) := by decide +kernel
theorem dX9_advance_133 : decode cX9_advance 133 = .ok (.dup, 1) := by decide +kernel
theorem dX9_advance_134 : decode cX9_advance 134 = .ok (.getfield 34, 3) := by decide +kernel
theorem dX9_advance_137 : decode cX9_advance 137 = .ok (.iconst 1, 1) := by decide +kernel
theorem dX9_advance_138 : decode cX9_advance 138 = .ok (.iadd, 1) := by decide +kernel
theorem dX9_advance_139 : decode cX9_advance 139 = .ok (.putfield 34, 3) := by decide +kernel
theorem dX9_advance_142 : decode cX9_advance 142 = .ok (.return_, 1) := by decide +kernel
theorem dX9_isLetter_0 : decode cX9_isLetter 0 = .ok (.iload_n 1, 1) := by decide +kernel
theorem dX9_isLetter_1 : decode cX9_isLetter 1 = .ok (.ifCond .lt 37, 3) := by decide +kernel
theorem dX9_isLetter_4 : decode cX9_isLetter 4 = .ok (.iload_n 1, 1) := by decide +kernel
theorem dX9_isLetter_5 : decode cX9_isLetter 5 = .ok (.aload_n 0, 1) := by decide +kernel
theorem dX9_isLetter_6 : decode cX9_isLetter 6 = .ok (.getfield 15, 3) := by decide +kernel
theorem dX9_isLetter_9 : decode cX9_isLetter 9 = .ok (.if_icmp .ge 29, 3) := by decide +kernel
theorem dX9_isLetter_12 : decode cX9_isLetter 12 = .ok (.aload_n 0, 1) := by decide +kernel
theorem dX9_isLetter_13 : decode cX9_isLetter 13 = .ok (.getfield 9, 3) := by decide +kernel
theorem dX9_isLetter_16 : decode cX9_isLetter 16 = .ok (.iload_n 1, 1) := by decide +kernel
theorem dX9_isLetter_17 : decode cX9_isLetter 17 = .ok (.baload, 1) := by decide +kernel
theorem dX9_isLetter_18 : decode cX9_isLetter 18 = .ok (.bipush 97, 2) := by decide +kernel
theorem dX9_isLetter_20 : decode cX9_isLetter 20 = .ok (.if_icmp .lt 18, 3) := by decide +kernel
theorem dX9_isLetter_23 : decode cX9_isLetter 23 = .ok (.aload_n 0, 1) := by decide +kernel
theorem dX9_isLetter_24 : decode cX9_isLetter 24 = .ok (.getfield 9, 3) := by decide +kernel
theorem dX9_isLetter_27 : decode cX9_isLetter 27 = .ok (.iload_n 1, 1) := by decide +kernel
theorem dX9_isLetter_28 : decode cX9_isLetter 28 = .ok (.baload, 1) := by decide +kernel
theorem dX9_isLetter_29 : decode cX9_isLetter 29 = .ok (.bipush 122, 2) := by decide +kernel
theorem dX9_isLetter_31 : decode cX9_isLetter 31 = .ok (.if_icmp .gt 7, 3) := by decide +kernel
theorem dX9_isLetter_34 : decode cX9_isLetter 34 = .ok (.iconst 1, 1) := by decide +kernel
theorem dX9_isLetter_35 : decode cX9_isLetter 35 = .ok (.goto 4, 3) := by decide +kernel
theorem dX9_isLetter_38 : decode cX9_isLetter 38 = .ok (.iconst 0, 1) := by decide +kernel
theorem dX9_isLetter_39 : decode cX9_isLetter 39 = .ok (.ireturn, 1) := by decide +kernel
theorem dX9_isDigit_0 : decode cX9_isDigit 0 = .ok (.iload_n 1, 1) := by decide +kernel
theorem dX9_isDigit_1 : decode cX9_isDigit 1 = .ok (.ifCond .lt 37, 3) := by decide +kernel
theorem dX9_isDigit_4 : decode cX9_isDigit 4 = .ok (.iload_n 1, 1) := by decide +kernel
theorem dX9_isDigit_5 : decode cX9_isDigit 5 = .ok (.aload_n 0, 1) := by decide +kernel
theorem dX9_isDigit_6 : decode cX9_isDigit 6 = .ok (.getfield 15, 3) := by decide +kernel
theorem dX9_isDigit_9 : decode cX9_isDigit 9 = .ok (.if_icmp .ge 29, 3) := by decide +kernel
theorem dX9_isDigit_12 : decode cX9_isDigit 12 = .ok (.aload_n 0, 1) := by decide +kernel
theorem dX9_isDigit_13 : decode cX9_isDigit 13 = .ok (.getfield 9, 3) := by decide +kernel
theorem dX9_isDigit_16 : decode cX9_isDigit 16 = .ok (.iload_n 1, 1) := by decide +kernel
theorem dX9_isDigit_17 : decode cX9_isDigit 17 = .ok (.baload, 1) := by decide +kernel
theorem dX9_isDigit_18 : decode cX9_isDigit 18 = .ok (.bipush 48, 2) := by decide +kernel
theorem dX9_isDigit_20 : decode cX9_isDigit 20 = .ok (.if_icmp .lt 18, 3) := by decide +kernel
theorem dX9_isDigit_23 : decode cX9_isDigit 23 = .ok (.aload_n 0, 1) := by decide +kernel
theorem dX9_isDigit_24 : decode cX9_isDigit 24 = .ok (.getfield 9, 3) := by decide +kernel
theorem dX9_isDigit_27 : decode cX9_isDigit 27 = .ok (.iload_n 1, 1) := by decide +kernel
theorem dX9_isDigit_28 : decode cX9_isDigit 28 = .ok (.baload, 1) := by decide +kernel
theorem dX9_isDigit_29 : decode cX9_isDigit 29 = .ok (.bipush 57, 2) := by decide +kernel
theorem dX9_isDigit_31 : decode cX9_isDigit 31 = .ok (.if_icmp .gt 7, 3) := by decide +kernel
theorem dX9_isDigit_34 : decode cX9_isDigit 34 = .ok (.iconst 1, 1) := by decide +kernel
theorem dX9_isDigit_35 : decode cX9_isDigit 35 = .ok (.goto 4, 3) := by decide +kernel
theorem dX9_isDigit_38 : decode cX9_isDigit 38 = .ok (.iconst 0, 1) := by decide +kernel
theorem dX9_isDigit_39 : decode cX9_isDigit 39 = .ok (.ireturn, 1) := by decide +kernel
set_option maxRecDepth 20000 in
theorem ggX9_wordAtPlace_X9_isLetter : GoodIn wsX9_wordAtPlace wsX9_isLetter := goodIn_r _ [7, 2, 8, 9, 10, 11, 12, 13, 14, 15, 16, 17] (by decide +kernel) (by decide +kernel)
set_option maxRecDepth 20000 in
theorem gX9_wordAtPlace_X9_isLetter : GoodIn wsX9_wordAtPlace (wsV RX9 120 RX9 yX9_isLetter wsX9_isLetter) := goodIn_app (goodIn_of _ (by decide +kernel)) ggX9_wordAtPlace_X9_isLetter
theorem dX9_wordAtPlace_0 : decode cX9_wordAtPlace 0 = .ok (.aload_n 0, 1) := by decide +kernel
theorem dX9_wordAtPlace_1 : decode cX9_wordAtPlace 1 = .ok (.getfield 34, 3) := by decide +kernel
theorem dX9_wordAtPlace_4 : decode cX9_wordAtPlace 4 = .ok (.aload_n 0, 1) := by decide +kernel
theorem dX9_wordAtPlace_5 : decode cX9_wordAtPlace 5 = .ok (.getfield 15, 3) := by decide +kernel
theorem dX9_wordAtPlace_8 : decode cX9_wordAtPlace 8 = .ok (.if_icmp .ge 27, 3) := by decide +kernel
theorem dX9_wordAtPlace_11 : decode cX9_wordAtPlace 11 = .ok (.aload_n 0, 1) := by decide +kernel
theorem dX9_wordAtPlace_12 : decode cX9_wordAtPlace 12 = .ok (.aload_n 0, 1) := by decide +kernel
theorem dX9_wordAtPlace_13 : decode cX9_wordAtPlace 13 = .ok (.getfield 34, 3) := by decide +kernel
theorem dX9_wordAtPlace_16 : decode cX9_wordAtPlace 16 = .ok (.invokevirtual 120, 3) := by decide +kernel
theorem dX9_wordAtPlace_19 : decode cX9_wordAtPlace 19 = .ok (.ifCond .eq 16, 3) := by decide +kernel
theorem dX9_wordAtPlace_22 : decode cX9_wordAtPlace 22 = .ok (.aload_n 0, 1) := by decide +kernel
theorem dX9_wordAtPlace_23 : decode cX9_wordAtPlace 23 = .ok (.dup, 1) := by decide +kernel
theorem dX9_wordAtPlace_24 : decode cX9_wordAtPlace 24 = .ok (.getfield 34, 3) := by decide +kernel
theorem dX9_wordAtPlace_27 : decode cX9_wordAtPlace 27 = .ok (.iconst 1, 1) := by decide +kernel
theorem dX9_wordAtPlace_28 : decode cX9_wordAtPlace 28 = .ok (.iadd, 1) := by decide +kernel
theorem dX9_wordAtPlace_29 : decode cX9_wordAtPlace 29 = .ok (.putfield 34, 3) := by decide +kernel
theorem dX9_wordAtPlace_32 : decode cX9_wordAtPlace 32 = .ok (.goto (-32), 3) := by decide +kernel
theorem dX9_wordAtPlace_35 : decode cX9_wordAtPlace 35 = .ok (.iconst 1, 1) := by decide +kernel
theorem dX9_wordAtPlace_36 : decode cX9_wordAtPlace 36 = .ok (.ireturn, 1) := by decide +kernel
set_option maxRecDepth 20000 in
theorem ggX9_numberAtPlace_X9_isDigit : GoodIn wsX9_numberAtPlace wsX9_isDigit := goodIn_r _ [14, 3, 4, 15, 16, 17, 18, 19, 20, 21, 22, 23] (by decide +kernel) (by decide +kernel)
set_option maxRecDepth 20000 in
theorem gX9_numberAtPlace_X9_isDigit : GoodIn wsX9_numberAtPlace (wsV RX9 127 RX9 yX9_isDigit wsX9_isDigit) := goodIn_app (goodIn_of _ (by decide +kernel)) ggX9_numberAtPlace_X9_isDigit
theorem dX9_numberAtPlace_0 : decode cX9_numberAtPlace 0 = .ok (.aload_n 0, 1) := by decide +kernel
theorem dX9_numberAtPlace_1 : decode cX9_numberAtPlace 1 = .ok (.iconst 0, 1) := by decide +kernel
theorem dX9_numberAtPlace_2 : decode cX9_numberAtPlace 2 = .ok (.putfield 117, 3) := by decide +kernel
theorem dX9_numberAtPlace_5 : decode cX9_numberAtPlace 5 = .ok (.aload_n 0, 1) := by decide +kernel
theorem dX9_numberAtPlace_6 : decode cX9_numberAtPlace 6 = .ok (.getfield 34, 3) := by decide +kernel
theorem dX9_numberAtPlace_9 : decode cX9_numberAtPlace 9 = .ok (.aload_n 0, 1) := by decide +kernel
theorem dX9_numberAtPlace_10 : decode cX9_numberAtPlace 10 = .ok (.getfield 15, 3) := by decide +kernel
theorem dX9_numberAtPlace_13 : decode cX9_numberAtPlace 13 = .ok (.if_icmp .ge 56, 3) := by decide +kernel
theorem dX9_numberAtPlace_16 : decode cX9_numberAtPlace 16 = .ok (.aload_n 0, 1) := by decide +kernel
theorem dX9_numberAtPlace_17 : decode cX9_numberAtPlace 17 = .ok (.aload_n 0, 1) := by decide +kernel
theorem dX9_numberAtPlace_18 : decode cX9_numberAtPlace 18 = .ok (.getfield 34, 3) := by decide +kernel
theorem dX9_numberAtPlace_21 : decode cX9_numberAtPlace 21 = .ok (.invokevirtual 127, 3) := by decide +kernel
theorem dX9_numberAtPlace_24 : decode cX9_numberAtPlace 24 = .ok (.ifCond .eq 45, 3) := by decide +kernel
theorem dX9_numberAtPlace_27 : decode cX9_numberAtPlace 27 = .ok (.aload_n 0, 1) := by decide +kernel
theorem dX9_numberAtPlace_28 : decode cX9_numberAtPlace 28 = .ok (.bipush 100, 2) := by decide +kernel
theorem dX9_numberAtPlace_30 : decode cX9_numberAtPlace 30 = .ok (.aload_n 0, 1) := by decide +kernel
theorem dX9_numberAtPlace_31 : decode cX9_numberAtPlace 31 = .ok (.getfield 117, 3) := by decide +kernel
theorem dX9_numberAtPlace_34 : decode cX9_numberAtPlace 34 = .ok (.bipush 10, 2) := by decide +kernel
theorem dX9_numberAtPlace_36 : decode cX9_numberAtPlace 36 = .ok (.imul, 1) := by decide +kernel
theorem dX9_numberAtPlace_37 : decode cX9_numberAtPlace 37 = .ok (.aload_n 0, 1) := by decide +kernel
theorem dX9_numberAtPlace_38 : decode cX9_numberAtPlace 38 = .ok (.getfield 9, 3) := by decide +kernel
theorem dX9_numberAtPlace_41 : decode cX9_numberAtPlace 41 = .ok (.aload_n 0, 1) := by decide +kernel
theorem dX9_numberAtPlace_42 : decode cX9_numberAtPlace 42 = .ok (.getfield 34, 3) := by decide +kernel
theorem dX9_numberAtPlace_45 : decode cX9_numberAtPlace 45 = .ok (.baload, 1) := by decide +kernel
theorem dX9_numberAtPlace_46 : decode cX9_numberAtPlace 46 = .ok (.iadd, 1) := by decide +kernel
theorem dX9_numberAtPlace_47 : decode cX9_numberAtPlace 47 = .ok (.bipush 48, 2) := by decide +kernel
theorem dX9_numberAtPlace_49 : decode cX9_numberAtPlace 49 = .ok (.isub, 1) := by decide +kernel
theorem dX9_numberAtPlace_50 : decode cX9_numberAtPlace 50 = .ok (.invokestatic 133, 3) := by decide +kernel
theorem dX9_numberAtPlace_53 : decode cX9_numberAtPlace 53 = .ok (.putfield 117, 3) := by decide +kernel
theorem dX9_numberAtPlace_56 : decode cX9_numberAtPlace 56 = .ok (.aload_n 0, 1) := by decide +kernel
theorem dX9_numberAtPlace_57 : decode cX9_numberAtPlace 57 = .ok (.dup, 1) := by decide +kernel
theorem dX9_numberAtPlace_58 : decode cX9_numberAtPlace 58 = .ok (.getfield 34, 3) := by decide +kernel
theorem dX9_numberAtPlace_61 : decode cX9_numberAtPlace 61 = .ok (.iconst 1, 1) := by decide +kernel
theorem dX9_numberAtPlace_62 : decode cX9_numberAtPlace 62 = .ok (.iadd, 1) := by decide +kernel
theorem dX9_numberAtPlace_63 : decode cX9_numberAtPlace 63 = .ok (.putfield 34, 3) := by decide +kernel
theorem dX9_numberAtPlace_66 : decode cX9_numberAtPlace 66 = .ok (.goto (-61), 3) := by decide +kernel
theorem dX9_numberAtPlace_69 : decode cX9_numberAtPlace 69 = .ok (.aload_n 0, 1) := by decide +kernel
theorem dX9_numberAtPlace_70 : decode cX9_numberAtPlace 70 = .ok (.getfield 34, 3) := by decide +kernel
theorem dX9_numberAtPlace_73 : decode cX9_numberAtPlace 73 = .ok (.aload_n 0, 1) := by decide +kernel
theorem dX9_numberAtPlace_74 : decode cX9_numberAtPlace 74 = .ok (.getfield 47, 3) := by decide +kernel
theorem dX9_numberAtPlace_77 : decode cX9_numberAtPlace 77 = .ok (.isub, 1) := by decide +kernel
theorem dX9_numberAtPlace_78 : decode cX9_numberAtPlace 78 = .ok (.iconst 1, 1) := by decide +kernel
theorem dX9_numberAtPlace_79 : decode cX9_numberAtPlace 79 = .ok (.if_icmp .le 21, 3) := by decide +kernel
theorem dX9_numberAtPlace_82 : decode cX9_numberAtPlace 82 = .ok (.aload_n 0, 1) := by decide +kernel
theorem dX9_numberAtPlace_83 : decode cX9_numberAtPlace 83 = .ok (.getfield 9, 3) := by decide +kernel
theorem dX9_numberAtPlace_86 : decode cX9_numberAtPlace 86 = .ok (.aload_n 0, 1) := by decide +kernel
theorem dX9_numberAtPlace_87 : decode cX9_numberAtPlace 87 = .ok (.getfield 47, 3) := by decide +kernel
theorem dX9_numberAtPlace_90 : decode cX9_numberAtPlace 90 = .ok (.baload, 1) := by decide +kernel
theorem dX9_numberAtPlace_91 : decode cX9_numberAtPlace 91 = .ok (.bipush 48, 2) := by decide +kernel
theorem dX9_numberAtPlace_93 : decode cX9_numberAtPlace 93 = .ok (.if_icmp .ne 7, 3) := by decide +kernel
theorem dX9_numberAtPlace_96 : decode cX9_numberAtPlace 96 = .ok (.iconst 1, 1) := by decide +kernel
theorem dX9_numberAtPlace_97 : decode cX9_numberAtPlace 97 = .ok (.goto 4, 3) := by decide +kernel
theorem dX9_numberAtPlace_100 : decode cX9_numberAtPlace 100 = .ok (.iconst 0, 1) := by decide +kernel
theorem dX9_numberAtPlace_101 : decode cX9_numberAtPlace 101 = .ok (.istore_n 1, 1) := by decide +kernel
theorem dX9_numberAtPlace_102 : decode cX9_numberAtPlace 102 = .ok (.iload_n 1, 1) := by decide +kernel
theorem dX9_numberAtPlace_103 : decode cX9_numberAtPlace 103 = .ok (.ifCond .ne 12, 3) := by decide +kernel
theorem dX9_numberAtPlace_106 : decode cX9_numberAtPlace 106 = .ok (.aload_n 0, 1) := by decide +kernel
theorem dX9_numberAtPlace_107 : decode cX9_numberAtPlace 107 = .ok (.getfield 117, 3) := by decide +kernel
theorem dX9_numberAtPlace_110 : decode cX9_numberAtPlace 110 = .ok (.bipush 99, 2) := by decide +kernel
theorem dX9_numberAtPlace_112 : decode cX9_numberAtPlace 112 = .ok (.if_icmp .le 7, 3) := by decide +kernel
theorem dX9_numberAtPlace_115 : decode cX9_numberAtPlace 115 = .ok (.iconst 4, 1) := by decide +kernel
theorem dX9_numberAtPlace_116 : decode cX9_numberAtPlace 116 = .ok (.goto 4, 3) := by decide +kernel
theorem dX9_numberAtPlace_119 : decode cX9_numberAtPlace 119 = .ok (.iconst 2, 1) := by decide +kernel
theorem dX9_numberAtPlace_120 : decode cX9_numberAtPlace 120 = .ok (.ireturn, 1) := by decide +kernel
theorem dX10_init_0 : decode cX10_init 0 = .ok (.aload_n 0, 1) := by decide +kernel
theorem dX10_init_1 : decode cX10_init 1 = .ok (.invokespecial 3, 3) := by decide +kernel
theorem dX10_init_4 : decode cX10_init 4 = .ok (.aload_n 0, 1) := by decide +kernel
theorem dX10_init_5 : decode cX10_init 5 = .ok (.bipush 13, 2) := by decide +kernel
theorem dX10_init_7 : decode cX10_init 7 = .ok (.newarray .long, 2) := by decide +kernel
theorem dX10_init_9 : decode cX10_init 9 = .ok (.putfield 9, 3) := by decide +kernel
theorem dX10_init_12 : decode cX10_init 12 = .ok (.return_, 1) := by decide +kernel
theorem dX10_waysInAll_0 : decode cX10_waysInAll 0 = .ok (.lconst 1, 1) := by decide +kernel
theorem dX10_waysInAll_1 : decode cX10_waysInAll 1 = .ok (.lstore_n 2, 1) := by decide +kernel
theorem dX10_waysInAll_2 : decode cX10_waysInAll 2 = .ok (.iconst 0, 1) := by decide +kernel
theorem dX10_waysInAll_3 : decode cX10_waysInAll 3 = .ok (.istore 4, 2) := by decide +kernel
theorem dX10_waysInAll_5 : decode cX10_waysInAll 5 = .ok (.iload 4, 2) := by decide +kernel
theorem dX10_waysInAll_7 : decode cX10_waysInAll 7 = .ok (.iload_n 1, 1) := by decide +kernel
theorem dX10_waysInAll_8 : decode cX10_waysInAll 8 = .ok (.if_icmp .ge 15, 3) := by decide +kernel
theorem dX10_waysInAll_11 : decode cX10_waysInAll 11 = .ok (.lload_n 2, 1) := by decide +kernel
theorem dX10_waysInAll_12 : decode cX10_waysInAll 12 = .ok (.ldc2_w 15, 3) := by decide +kernel
theorem dX10_waysInAll_15 : decode cX10_waysInAll 15 = .ok (.lmul, 1) := by decide +kernel
theorem dX10_waysInAll_16 : decode cX10_waysInAll 16 = .ok (.lstore_n 2, 1) := by decide +kernel
theorem dX10_waysInAll_17 : decode cX10_waysInAll 17 = .ok (.iinc 4 1, 3) := by decide +kernel
theorem dX10_waysInAll_20 : decode cX10_waysInAll 20 = .ok (.goto (-15), 3) := by decide +kernel
theorem dX10_waysInAll_23 : decode cX10_waysInAll 23 = .ok (.lload_n 2, 1) := by decide +kernel
theorem dX10_waysInAll_24 : decode cX10_waysInAll 24 = .ok (.lreturn, 1) := by decide +kernel
set_option maxRecDepth 20000 in
theorem ggX10_waysToGet_J7_fill_d0a16 : GoodIn wsX10_waysToGet wsJ7_fill_d0a16 := goodIn_r _ [5] (by decide +kernel) (by decide +kernel)
set_option maxRecDepth 20000 in
theorem gX10_waysToGet_J7_fill_d0a16 : GoodIn wsX10_waysToGet (va_wsS RX10 17 yJ7_fill_d0a16 wsJ7_fill_d0a16) := goodIn_app (goodIn_of _ (by decide +kernel)) ggX10_waysToGet_J7_fill_d0a16
set_option maxRecDepth 20000 in
theorem ggX10_waysToGet_X10_hitsOf : GoodIn wsX10_waysToGet wsX10_hitsOf := goodIn_r _ [9, 10, 11, 12, 13, 14, 15, 16, 17, 18, 19, 20, 21, 28, 29, 30, 31, 32, 33, 34, 35, 36, 37] (by decide +kernel) (by decide +kernel)
set_option maxRecDepth 20000 in
theorem gX10_waysToGet_X10_hitsOf : GoodIn wsX10_waysToGet (va_wsS RX10 23 yX10_hitsOf wsX10_hitsOf) := goodIn_app (goodIn_of _ (by decide +kernel)) ggX10_waysToGet_X10_hitsOf
set_option maxRecDepth 20000 in
theorem ggX10_waysToGet_X10_addDrop : GoodIn wsX10_waysToGet wsX10_addDrop := goodIn_r _ [25, 1, 26, 27] (by decide +kernel) (by decide +kernel)
set_option maxRecDepth 20000 in
theorem gX10_waysToGet_X10_addDrop : GoodIn wsX10_waysToGet (wsV RX10 27 RX10 yX10_addDrop wsX10_addDrop) := goodIn_app (goodIn_of _ (by decide +kernel)) ggX10_waysToGet_X10_addDrop
theorem dX10_waysToGet_0 : decode cX10_waysToGet 0 = .ok (.iload_n 3, 1) := by decide +kernel
theorem dX10_waysToGet_1 : decode cX10_waysToGet 1 = .ok (.bipush 12, 2) := by decide +kernel
theorem dX10_waysToGet_3 : decode cX10_waysToGet 3 = .ok (.if_icmp .gt 14, 3) := by decide +kernel
theorem dX10_waysToGet_6 : decode cX10_waysToGet 6 = .ok (.iload 5, 2) := by decide +kernel
theorem dX10_waysToGet_8 : decode cX10_waysToGet 8 = .ok (.ifCond .lt 9, 3) := by decide +kernel
theorem dX10_waysToGet_11 : decode cX10_waysToGet 11 = .ok (.iload 5, 2) := by decide +kernel
theorem dX10_waysToGet_13 : decode cX10_waysToGet 13 = .ok (.iload_n 3, 1) := by decide +kernel
theorem dX10_waysToGet_14 : decode cX10_waysToGet 14 = .ok (.if_icmp .le 5, 3) := by decide +kernel
theorem dX10_waysToGet_17 : decode cX10_waysToGet 17 = .ok (.lconst 0, 1) := by decide +kernel
theorem dX10_waysToGet_18 : decode cX10_waysToGet 18 = .ok (.lreturn, 1) := by decide +kernel
theorem dX10_waysToGet_19 : decode cX10_waysToGet 19 = .ok (.aload_n 0, 1) := by decide +kernel
theorem dX10_waysToGet_20 : decode cX10_waysToGet 20 = .ok (.getfield 9, 3) := by decide +kernel
theorem dX10_waysToGet_23 : decode cX10_waysToGet 23 = .ok (.lconst 0, 1) := by decide +kernel
theorem dX10_waysToGet_24 : decode cX10_waysToGet 24 = .ok (.invokestatic 17, 3) := by decide +kernel
theorem dX10_waysToGet_27 : decode cX10_waysToGet 27 = .ok (.aload_n 0, 1) := by decide +kernel
theorem dX10_waysToGet_28 : decode cX10_waysToGet 28 = .ok (.getfield 9, 3) := by decide +kernel
theorem dX10_waysToGet_31 : decode cX10_waysToGet 31 = .ok (.iconst 0, 1) := by decide +kernel
theorem dX10_waysToGet_32 : decode cX10_waysToGet 32 = .ok (.lconst 1, 1) := by decide +kernel
theorem dX10_waysToGet_33 : decode cX10_waysToGet 33 = .ok (.lastore, 1) := by decide +kernel
theorem dX10_waysToGet_34 : decode cX10_waysToGet 34 = .ok (.iconst 0, 1) := by decide +kernel
theorem dX10_waysToGet_35 : decode cX10_waysToGet 35 = .ok (.istore 6, 2) := by decide +kernel
theorem dX10_waysToGet_37 : decode cX10_waysToGet 37 = .ok (.iload 6, 2) := by decide +kernel
theorem dX10_waysToGet_39 : decode cX10_waysToGet 39 = .ok (.iload_n 3, 1) := by decide +kernel
theorem dX10_waysToGet_40 : decode cX10_waysToGet 40 = .ok (.if_icmp .ge 26, 3) := by decide +kernel
theorem dX10_waysToGet_43 : decode cX10_waysToGet 43 = .ok (.aload_n 0, 1) := by decide +kernel
theorem dX10_waysToGet_44 : decode cX10_waysToGet 44 = .ok (.iload 6, 2) := by decide +kernel
theorem dX10_waysToGet_46 : decode cX10_waysToGet 46 = .ok (.aload_n 1, 1) := by decide +kernel
theorem dX10_waysToGet_47 : decode cX10_waysToGet 47 = .ok (.iload_n 2, 1) := by decide +kernel
theorem dX10_waysToGet_48 : decode cX10_waysToGet 48 = .ok (.iload 6, 2) := by decide +kernel
theorem dX10_waysToGet_50 : decode cX10_waysToGet 50 = .ok (.iadd, 1) := by decide +kernel
theorem dX10_waysToGet_51 : decode cX10_waysToGet 51 = .ok (.iload 4, 2) := by decide +kernel
theorem dX10_waysToGet_53 : decode cX10_waysToGet 53 = .ok (.invokestatic 23, 3) := by decide +kernel
theorem dX10_waysToGet_56 : decode cX10_waysToGet 56 = .ok (.i2l, 1) := by decide +kernel
theorem dX10_waysToGet_57 : decode cX10_waysToGet 57 = .ok (.invokevirtual 27, 3) := by decide +kernel
theorem dX10_waysToGet_60 : decode cX10_waysToGet 60 = .ok (.iinc 6 1, 3) := by decide +kernel
theorem dX10_waysToGet_63 : decode cX10_waysToGet 63 = .ok (.goto (-26), 3) := by decide +kernel
theorem dX10_waysToGet_66 : decode cX10_waysToGet 66 = .ok (.aload_n 0, 1) := by decide +kernel
theorem dX10_waysToGet_67 : decode cX10_waysToGet 67 = .ok (.getfield 9, 3) := by decide +kernel
theorem dX10_waysToGet_70 : decode cX10_waysToGet 70 = .ok (.iload 5, 2) := by decide +kernel
theorem dX10_waysToGet_72 : decode cX10_waysToGet 72 = .ok (.laload, 1) := by decide +kernel
theorem dX10_waysToGet_73 : decode cX10_waysToGet 73 = .ok (.lreturn, 1) := by decide +kernel
theorem dX10_addDrop_0 : decode cX10_addDrop 0 = .ok (.iload_n 1, 1) := by decide +kernel
theorem dX10_addDrop_1 : decode cX10_addDrop 1 = .ok (.iconst 1, 1) := by decide +kernel
theorem dX10_addDrop_2 : decode cX10_addDrop 2 = .ok (.iadd, 1) := by decide +kernel
theorem dX10_addDrop_3 : decode cX10_addDrop 3 = .ok (.istore 4, 2) := by decide +kernel
theorem dX10_addDrop_5 : decode cX10_addDrop 5 = .ok (.iload 4, 2) := by decide +kernel
theorem dX10_addDrop_7 : decode cX10_addDrop 7 = .ok (.ifCond .le 41, 3) := by decide +kernel
theorem dX10_addDrop_10 : decode cX10_addDrop 10 = .ok (.aload_n 0, 1) := by decide +kernel
theorem dX10_addDrop_11 : decode cX10_addDrop 11 = .ok (.getfield 9, 3) := by decide +kernel
theorem dX10_addDrop_14 : decode cX10_addDrop 14 = .ok (.iload 4, 2) := by decide +kernel
theorem dX10_addDrop_16 : decode cX10_addDrop 16 = .ok (.aload_n 0, 1) := by decide +kernel
theorem dX10_addDrop_17 : decode cX10_addDrop 17 = .ok (.getfield 9, 3) := by decide +kernel
theorem dX10_addDrop_20 : decode cX10_addDrop 20 = .ok (.iload 4, 2) := by decide +kernel
theorem dX10_addDrop_22 : decode cX10_addDrop 22 = .ok (.laload, 1) := by decide +kernel
theorem dX10_addDrop_23 : decode cX10_addDrop 23 = .ok (.ldc2_w 15, 3) := by decide +kernel
theorem dX10_addDrop_26 : decode cX10_addDrop 26 = .ok (.lload_n 2, 1) := by decide +kernel
theorem dX10_addDrop_27 : decode cX10_addDrop 27 = .ok (.lsub, 1) := by decide +kernel
theorem dX10_addDrop_28 : decode cX10_addDrop 28 = .ok (.lmul, 1) := by decide +kernel
theorem dX10_addDrop_29 : decode cX10_addDrop 29 = .ok (.aload_n 0, 1) := by decide +kernel
theorem dX10_addDrop_30 : decode cX10_addDrop 30 = .ok (.getfield 9, 3) := by decide +kernel
theorem dX10_addDrop_33 : decode cX10_addDrop 33 = .ok (.iload 4, 2) := by decide +kernel
theorem dX10_addDrop_35 : decode cX10_addDrop 35 = .ok (.iconst 1, 1) := by decide +kernel
theorem dX10_addDrop_36 : decode cX10_addDrop 36 = .ok (.isub, 1) := by decide +kernel
theorem dX10_addDrop_37 : decode cX10_addDrop 37 = .ok (.laload, 1) := by decide +kernel
theorem dX10_addDrop_38 : decode cX10_addDrop 38 = .ok (.lload_n 2, 1) := by decide +kernel
theorem dX10_addDrop_39 : decode cX10_addDrop 39 = .ok (.lmul, 1) := by decide +kernel
theorem dX10_addDrop_40 : decode cX10_addDrop 40 = .ok (.ladd, 1) := by decide +kernel
theorem dX10_addDrop_41 : decode cX10_addDrop 41 = .ok (.lastore, 1) := by decide +kernel
theorem dX10_addDrop_42 : decode cX10_addDrop 42 = .ok (.iinc 4 (-1), 3) := by decide +kernel
theorem dX10_addDrop_45 : decode cX10_addDrop 45 = .ok (.goto (-40), 3) := by decide +kernel
theorem dX10_addDrop_48 : decode cX10_addDrop 48 = .ok (.aload_n 0, 1) := by decide +kernel
theorem dX10_addDrop_49 : decode cX10_addDrop 49 = .ok (.getfield 9, 3) := by decide +kernel
theorem dX10_addDrop_52 : decode cX10_addDrop 52 = .ok (.iconst 0, 1) := by decide +kernel
theorem dX10_addDrop_53 : decode cX10_addDrop 53 = .ok (.dup2, 1) := by decide +kernel
theorem dX10_addDrop_54 : decode cX10_addDrop 54 = .ok (.laload, 1) := by decide +kernel
theorem dX10_addDrop_55 : decode cX10_addDrop 55 = .ok (.ldc2_w 15, 3) := by decide +kernel
theorem dX10_addDrop_58 : decode cX10_addDrop 58 = .ok (.lload_n 2, 1) := by decide +kernel
theorem dX10_addDrop_59 : decode cX10_addDrop 59 = .ok (.lsub, 1) := by decide +kernel
theorem dX10_addDrop_60 : decode cX10_addDrop 60 = .ok (.lmul, 1) := by decide +kernel
theorem dX10_addDrop_61 : decode cX10_addDrop 61 = .ok (.lastore, 1) := by decide +kernel
theorem dX10_addDrop_62 : decode cX10_addDrop 62 = .ok (.return_, 1) := by decide +kernel
set_option maxRecDepth 20000 in
theorem ggX10_hitsOf_X3_sung : GoodIn wsX10_hitsOf wsX3_sung := goodIn_r _ [5, 6, 7, 13, 14, 15, 16, 17, 18, 19, 20, 21, 22] (by decide +kernel) (by decide +kernel)
set_option maxRecDepth 20000 in
theorem gX10_hitsOf_X3_sung : GoodIn wsX10_hitsOf (wsV RX10 31 RX3 yX3_sung wsX3_sung) := goodIn_app (goodIn_of _ (by decide +kernel)) ggX10_hitsOf_X3_sung
set_option maxRecDepth 20000 in
theorem ggX10_hitsOf_X3_nextTo : GoodIn wsX10_hitsOf wsX3_nextTo := goodIn_r _ [11, 12, 13, 14, 15, 16, 17, 18, 19, 20, 21, 22] (by decide +kernel) (by decide +kernel)
set_option maxRecDepth 20000 in
theorem gX10_hitsOf_X3_nextTo : GoodIn wsX10_hitsOf (wsV RX10 41 RX3 yX3_nextTo wsX3_nextTo) := goodIn_app (goodIn_of _ (by decide +kernel)) ggX10_hitsOf_X3_nextTo
theorem dX10_hitsOf_0 : decode cX10_hitsOf 0 = .ok (.aload_n 0, 1) := by decide +kernel
theorem dX10_hitsOf_1 : decode cX10_hitsOf 1 = .ok (.iload_n 1, 1) := by decide +kernel
theorem dX10_hitsOf_2 : decode cX10_hitsOf 2 = .ok (.invokevirtual 31, 3) := by decide +kernel
theorem dX10_hitsOf_5 : decode cX10_hitsOf 5 = .ok (.istore_n 3, 1) := by decide +kernel
theorem dX10_hitsOf_6 : decode cX10_hitsOf 6 = .ok (.iload_n 3, 1) := by decide +kernel
theorem dX10_hitsOf_7 : decode cX10_hitsOf 7 = .ok (.iload_n 2, 1) := by decide +kernel
theorem dX10_hitsOf_8 : decode cX10_hitsOf 8 = .ok (.if_icmp .ne 13, 3) := by decide +kernel
theorem dX10_hitsOf_11 : decode cX10_hitsOf 11 = .ok (.bipush 10, 2) := by decide +kernel
theorem dX10_hitsOf_13 : decode cX10_hitsOf 13 = .ok (.aload_n 0, 1) := by decide +kernel
theorem dX10_hitsOf_14 : decode cX10_hitsOf 14 = .ok (.getfield 37, 3) := by decide +kernel
theorem dX10_hitsOf_17 : decode cX10_hitsOf 17 = .ok (.isub, 1) := by decide +kernel
theorem dX10_hitsOf_18 : decode cX10_hitsOf 18 = .ok (.goto 4, 3) := by decide +kernel
theorem dX10_hitsOf_21 : decode cX10_hitsOf 21 = .ok (.iconst 0, 1) := by decide +kernel
theorem dX10_hitsOf_22 : decode cX10_hitsOf 22 = .ok (.istore 4, 2) := by decide +kernel
theorem dX10_hitsOf_24 : decode cX10_hitsOf 24 = .ok (.aload_n 0, 1) := by decide +kernel
theorem dX10_hitsOf_25 : decode cX10_hitsOf 25 = .ok (.iload_n 3, 1) := by decide +kernel
theorem dX10_hitsOf_26 : decode cX10_hitsOf 26 = .ok (.invokevirtual 41, 3) := by decide +kernel
theorem dX10_hitsOf_29 : decode cX10_hitsOf 29 = .ok (.iload_n 2, 1) := by decide +kernel
theorem dX10_hitsOf_30 : decode cX10_hitsOf 30 = .ok (.if_icmp .ne 13, 3) := by decide +kernel
theorem dX10_hitsOf_33 : decode cX10_hitsOf 33 = .ok (.iload 4, 2) := by decide +kernel
theorem dX10_hitsOf_35 : decode cX10_hitsOf 35 = .ok (.aload_n 0, 1) := by decide +kernel
theorem dX10_hitsOf_36 : decode cX10_hitsOf 36 = .ok (.getfield 37, 3) := by decide +kernel
theorem dX10_hitsOf_39 : decode cX10_hitsOf 39 = .ok (.iadd, 1) := by decide +kernel
theorem dX10_hitsOf_40 : decode cX10_hitsOf 40 = .ok (.goto 5, 3) := by decide +kernel
theorem dX10_hitsOf_43 : decode cX10_hitsOf 43 = .ok (.iload 4, 2) := by decide +kernel
theorem dX10_hitsOf_45 : decode cX10_hitsOf 45 = .ok (.ireturn, 1) := by decide +kernel
theorem dX10_greatestDivisor_0 : decode cX10_greatestDivisor 0 = .ok (.lload_n 1, 1) := by decide +kernel
theorem dX10_greatestDivisor_1 : decode cX10_greatestDivisor 1 = .ok (.lstore 5, 2) := by decide +kernel
theorem dX10_greatestDivisor_3 : decode cX10_greatestDivisor 3 = .ok (.lload_n 3, 1) := by decide +kernel
theorem dX10_greatestDivisor_4 : decode cX10_greatestDivisor 4 = .ok (.lstore 7, 2) := by decide +kernel
theorem dX10_greatestDivisor_6 : decode cX10_greatestDivisor 6 = .ok (.iconst 0, 1) := by decide +kernel
theorem dX10_greatestDivisor_7 : decode cX10_greatestDivisor 7 = .ok (.istore 9, 2) := by decide +kernel
theorem dX10_greatestDivisor_9 : decode cX10_greatestDivisor 9 = .ok (.iload 9, 2) := by decide +kernel
theorem dX10_greatestDivisor_11 : decode cX10_greatestDivisor 11 = .ok (.bipush 100, 2) := by decide +kernel
theorem dX10_greatestDivisor_13 : decode cX10_greatestDivisor 13 = .ok (.if_icmp .ge 31, 3) := by decide +kernel
theorem dX10_greatestDivisor_16 : decode cX10_greatestDivisor 16 = .ok (.lload 7, 2) := by decide +kernel
theorem dX10_greatestDivisor_18 : decode cX10_greatestDivisor 18 = .ok (.lconst 0, 1) := by decide +kernel
theorem dX10_greatestDivisor_19 : decode cX10_greatestDivisor 19 = .ok (.lcmp, 1) := by decide +kernel
theorem dX10_greatestDivisor_20 : decode cX10_greatestDivisor 20 = .ok (.ifCond .eq 24, 3) := by decide +kernel
theorem dX10_greatestDivisor_23 : decode cX10_greatestDivisor 23 = .ok (.lload 5, 2) := by decide +kernel
theorem dX10_greatestDivisor_25 : decode cX10_greatestDivisor 25 = .ok (.lload 7, 2) := by decide +kernel
theorem dX10_greatestDivisor_27 : decode cX10_greatestDivisor 27 = .ok (.lrem, 1) := by decide +kernel
theorem dX10_greatestDivisor_28 : decode cX10_greatestDivisor 28 = .ok (.lstore 10, 2) := by decide +kernel
theorem dX10_greatestDivisor_30 : decode cX10_greatestDivisor 30 = .ok (.lload 7, 2) := by decide +kernel
theorem dX10_greatestDivisor_32 : decode cX10_greatestDivisor 32 = .ok (.lstore 5, 2) := by decide +kernel
theorem dX10_greatestDivisor_34 : decode cX10_greatestDivisor 34 = .ok (.lload 10, 2) := by decide +kernel
theorem dX10_greatestDivisor_36 : decode cX10_greatestDivisor 36 = .ok (.lstore 7, 2) := by decide +kernel
theorem dX10_greatestDivisor_38 : decode cX10_greatestDivisor 38 = .ok (.iinc 9 1, 3) := by decide +kernel
theorem dX10_greatestDivisor_41 : decode cX10_greatestDivisor 41 = .ok (.goto (-32), 3) := by decide +kernel
theorem dX10_greatestDivisor_44 : decode cX10_greatestDivisor 44 = .ok (.lconst 1, 1) := by decide +kernel
theorem dX10_greatestDivisor_45 : decode cX10_greatestDivisor 45 = .ok (.lload 5, 2) := by decide +kernel
theorem dX10_greatestDivisor_47 : decode cX10_greatestDivisor 47 = .ok (.invokestatic 44, 3) := by decide +kernel
theorem dX10_greatestDivisor_50 : decode cX10_greatestDivisor 50 = .ok (.lreturn, 1) := by decide +kernel
set_option maxRecDepth 20000 in
theorem ggX10_waysHeard_X10_waysOfTurn : GoodIn wsX10_waysHeard wsX10_waysOfTurn := goodIn_r _ [4, 5, 6, 7, 8, 9, 10, 11, 12, 13, 14, 15, 16, 17, 18, 19, 20, 21, 22, 23, 24, 25, 26, 27, 28, 29, 30, 31, 32, 33, 34, 35, 36, 37, 38, 39, 40, 41, 42, 43, 44, 45, 46, 47] (by decide +kernel) (by decide +kernel)
set_option maxRecDepth 20000 in
theorem gX10_waysHeard_X10_waysOfTurn : GoodIn wsX10_waysHeard (va_wsS RX10 50 yX10_waysOfTurn wsX10_waysOfTurn) := goodIn_app (goodIn_of _ (by decide +kernel)) ggX10_waysHeard_X10_waysOfTurn
theorem dX10_waysHeard_0 : decode cX10_waysHeard 0 = .ok (.iconst 1, 1) := by decide +kernel
theorem dX10_waysHeard_1 : decode cX10_waysHeard 1 = .ok (.istore 4, 2) := by decide +kernel
theorem dX10_waysHeard_3 : decode cX10_waysHeard 3 = .ok (.iconst 0, 1) := by decide +kernel
theorem dX10_waysHeard_4 : decode cX10_waysHeard 4 = .ok (.istore 5, 2) := by decide +kernel
theorem dX10_waysHeard_6 : decode cX10_waysHeard 6 = .ok (.iload 5, 2) := by decide +kernel
theorem dX10_waysHeard_8 : decode cX10_waysHeard 8 = .ok (.iload_n 3, 1) := by decide +kernel
theorem dX10_waysHeard_9 : decode cX10_waysHeard 9 = .ok (.if_icmp .ge 21, 3) := by decide +kernel
theorem dX10_waysHeard_12 : decode cX10_waysHeard 12 = .ok (.iload 4, 2) := by decide +kernel
theorem dX10_waysHeard_14 : decode cX10_waysHeard 14 = .ok (.aload_n 1, 1) := by decide +kernel
theorem dX10_waysHeard_15 : decode cX10_waysHeard 15 = .ok (.aload_n 2, 1) := by decide +kernel
theorem dX10_waysHeard_16 : decode cX10_waysHeard 16 = .ok (.iload 5, 2) := by decide +kernel
theorem dX10_waysHeard_18 : decode cX10_waysHeard 18 = .ok (.invokestatic 50, 3) := by decide +kernel
theorem dX10_waysHeard_21 : decode cX10_waysHeard 21 = .ok (.imul, 1) := by decide +kernel
theorem dX10_waysHeard_22 : decode cX10_waysHeard 22 = .ok (.istore 4, 2) := by decide +kernel
theorem dX10_waysHeard_24 : decode cX10_waysHeard 24 = .ok (.iinc 5 1, 3) := by decide +kernel
theorem dX10_waysHeard_27 : decode cX10_waysHeard 27 = .ok (.goto (-21), 3) := by decide +kernel
theorem dX10_waysHeard_30 : decode cX10_waysHeard 30 = .ok (.iload 4, 2) := by decide +kernel
theorem dX10_waysHeard_32 : decode cX10_waysHeard 32 = .ok (.ireturn, 1) := by decide +kernel
set_option maxRecDepth 20000 in
theorem ggX10_waysOfTurn_X3_allBits : GoodIn wsX10_waysOfTurn wsX3_allBits := goodIn_r _ [5, 6, 25, 26, 27, 28, 29, 30, 31, 32, 33, 34] (by decide +kernel) (by decide +kernel)
set_option maxRecDepth 20000 in
theorem gX10_waysOfTurn_X3_allBits : GoodIn wsX10_waysOfTurn (wsV RX10 54 RX3 yX3_allBits wsX3_allBits) := goodIn_app (goodIn_of _ (by decide +kernel)) ggX10_waysOfTurn_X3_allBits
set_option maxRecDepth 20000 in
theorem ggX10_waysOfTurn_X7_heardOf : GoodIn wsX10_waysOfTurn wsX7_heardOf := goodIn_r _ [11, 12, 13, 14, 35, 36, 37, 38, 39, 40, 41, 42, 43] (by decide +kernel) (by decide +kernel)
set_option maxRecDepth 20000 in
theorem gX10_waysOfTurn_X7_heardOf : GoodIn wsX10_waysOfTurn (wsV RX10 58 RX7 yX7_heardOf wsX7_heardOf) := goodIn_app (goodIn_of _ (by decide +kernel)) ggX10_waysOfTurn_X7_heardOf
set_option maxRecDepth 20000 in
theorem ggX10_waysOfTurn_X3_sung : GoodIn wsX10_waysOfTurn wsX3_sung := goodIn_r _ [18, 19, 20, 25, 26, 27, 28, 29, 30, 31, 32, 33, 34] (by decide +kernel) (by decide +kernel)
set_option maxRecDepth 20000 in
theorem gX10_waysOfTurn_X3_sung : GoodIn wsX10_waysOfTurn (wsV RX10 31 RX3 yX3_sung wsX3_sung) := goodIn_app (goodIn_of _ (by decide +kernel)) ggX10_waysOfTurn_X3_sung
set_option maxRecDepth 20000 in
theorem ggX10_waysOfTurn_X3_nextTo : GoodIn wsX10_waysOfTurn wsX3_nextTo := goodIn_r _ [24, 6, 25, 26, 27, 28, 29, 30, 31, 32, 33, 34] (by decide +kernel) (by decide +kernel)
set_option maxRecDepth 20000 in
theorem gX10_waysOfTurn_X3_nextTo : GoodIn wsX10_waysOfTurn (wsV RX10 41 RX3 yX3_nextTo wsX3_nextTo) := goodIn_app (goodIn_of _ (by decide +kernel)) ggX10_waysOfTurn_X3_nextTo
theorem dX10_waysOfTurn_0 : decode cX10_waysOfTurn 0 = .ok (.aload_n 1, 1) := by decide +kernel
theorem dX10_waysOfTurn_1 : decode cX10_waysOfTurn 1 = .ok (.iload_n 2, 1) := by decide +kernel
theorem dX10_waysOfTurn_2 : decode cX10_waysOfTurn 2 = .ok (.aload_n 0, 1) := by decide +kernel
theorem dX10_waysOfTurn_3 : decode cX10_waysOfTurn 3 = .ok (.invokevirtual 54, 3) := by decide +kernel
theorem dX10_waysOfTurn_6 : decode cX10_waysOfTurn 6 = .ok (.invokevirtual 58, 3) := by decide +kernel
theorem dX10_waysOfTurn_9 : decode cX10_waysOfTurn 9 = .ok (.istore_n 3, 1) := by decide +kernel
theorem dX10_waysOfTurn_10 : decode cX10_waysOfTurn 10 = .ok (.aload_n 0, 1) := by decide +kernel
theorem dX10_waysOfTurn_11 : decode cX10_waysOfTurn 11 = .ok (.iload_n 2, 1) := by decide +kernel
theorem dX10_waysOfTurn_12 : decode cX10_waysOfTurn 12 = .ok (.invokevirtual 31, 3) := by decide +kernel
theorem dX10_waysOfTurn_15 : decode cX10_waysOfTurn 15 = .ok (.istore 4, 2) := by decide +kernel
theorem dX10_waysOfTurn_17 : decode cX10_waysOfTurn 17 = .ok (.iload_n 3, 1) := by decide +kernel
theorem dX10_waysOfTurn_18 : decode cX10_waysOfTurn 18 = .ok (.iload 4, 2) := by decide +kernel
theorem dX10_waysOfTurn_20 : decode cX10_waysOfTurn 20 = .ok (.ishr, 1) := by decide +kernel
theorem dX10_waysOfTurn_21 : decode cX10_waysOfTurn 21 = .ok (.iconst 1, 1) := by decide +kernel
theorem dX10_waysOfTurn_22 : decode cX10_waysOfTurn 22 = .ok (.iand, 1) := by decide +kernel
theorem dX10_waysOfTurn_23 : decode cX10_waysOfTurn 23 = .ok (.iload_n 3, 1) := by decide +kernel
theorem dX10_waysOfTurn_24 : decode cX10_waysOfTurn 24 = .ok (.aload_n 0, 1) := by decide +kernel
theorem dX10_waysOfTurn_25 : decode cX10_waysOfTurn 25 = .ok (.iload 4, 2) := by decide +kernel
theorem dX10_waysOfTurn_27 : decode cX10_waysOfTurn 27 = .ok (.invokevirtual 41, 3) := by decide +kernel
theorem dX10_waysOfTurn_30 : decode cX10_waysOfTurn 30 = .ok (.ishr, 1) := by decide +kernel
theorem dX10_waysOfTurn_31 : decode cX10_waysOfTurn 31 = .ok (.iconst 1, 1) := by decide +kernel
theorem dX10_waysOfTurn_32 : decode cX10_waysOfTurn 32 = .ok (.iand, 1) := by decide +kernel
theorem dX10_waysOfTurn_33 : decode cX10_waysOfTurn 33 = .ok (.iadd, 1) := by decide +kernel
theorem dX10_waysOfTurn_34 : decode cX10_waysOfTurn 34 = .ok (.ireturn, 1) := by decide +kernel
set_option maxRecDepth 20000 in
theorem ggX10_placesHeard_X10_waysHeard : GoodIn wsX10_placesHeard wsX10_waysHeard := goodIn_r _ [5, 6, 7, 4, 8, 9, 10, 11, 12, 13, 14, 15, 16, 17, 18, 19, 20, 21, 22, 23, 24, 25, 26, 27, 28, 29, 30, 31, 32, 33, 34, 35, 36, 37, 38, 39, 40, 41, 42, 43, 44, 45, 46, 47, 48, 49, 50, 51] (by decide +kernel) (by decide +kernel)
set_option maxRecDepth 20000 in
theorem gX10_placesHeard_X10_waysHeard : GoodIn wsX10_placesHeard (wsV RX10 64 RX10 yX10_waysHeard wsX10_waysHeard) := goodIn_app (goodIn_of _ (by decide +kernel)) ggX10_placesHeard_X10_waysHeard
set_option maxRecDepth 20000 in
theorem ggX10_placesHeard_X3_sung : GoodIn wsX10_placesHeard wsX3_sung := goodIn_r _ [26, 27, 28, 33, 34, 35, 36, 37, 38, 39, 40, 41, 42] (by decide +kernel) (by decide +kernel)
set_option maxRecDepth 20000 in
theorem gX10_placesHeard_X3_sung : GoodIn wsX10_placesHeard (wsV RX10 31 RX3 yX3_sung wsX3_sung) := goodIn_app (goodIn_of _ (by decide +kernel)) ggX10_placesHeard_X3_sung
set_option maxRecDepth 20000 in
theorem ggX10_placesHeard_X3_allBits : GoodIn wsX10_placesHeard wsX3_allBits := goodIn_r _ [13, 14, 33, 34, 35, 36, 37, 38, 39, 40, 41, 42] (by decide +kernel) (by decide +kernel)
set_option maxRecDepth 20000 in
theorem gX10_placesHeard_X3_allBits : GoodIn wsX10_placesHeard (wsV RX10 54 RX3 yX3_allBits wsX3_allBits) := goodIn_app (goodIn_of _ (by decide +kernel)) ggX10_placesHeard_X3_allBits
set_option maxRecDepth 20000 in
theorem ggX10_placesHeard_X7_heardOf : GoodIn wsX10_placesHeard wsX7_heardOf := goodIn_r _ [19, 20, 21, 22, 43, 44, 45, 46, 47, 48, 49, 50, 51] (by decide +kernel) (by decide +kernel)
set_option maxRecDepth 20000 in
theorem gX10_placesHeard_X7_heardOf : GoodIn wsX10_placesHeard (wsV RX10 58 RX7 yX7_heardOf wsX7_heardOf) := goodIn_app (goodIn_of _ (by decide +kernel)) ggX10_placesHeard_X7_heardOf
set_option maxRecDepth 20000 in
theorem ggX10_placesHeard_X3_nextTo : GoodIn wsX10_placesHeard wsX3_nextTo := goodIn_r _ [32, 14, 33, 34, 35, 36, 37, 38, 39, 40, 41, 42] (by decide +kernel) (by decide +kernel)
set_option maxRecDepth 20000 in
theorem gX10_placesHeard_X3_nextTo : GoodIn wsX10_placesHeard (wsV RX10 41 RX3 yX3_nextTo wsX3_nextTo) := goodIn_app (goodIn_of _ (by decide +kernel)) ggX10_placesHeard_X3_nextTo
theorem dX10_placesHeard_0 : decode cX10_placesHeard 0 = .ok (.aload_n 0, 1) := by decide +kernel
theorem dX10_placesHeard_1 : decode cX10_placesHeard 1 = .ok (.aload_n 1, 1) := by decide +kernel
theorem dX10_placesHeard_2 : decode cX10_placesHeard 2 = .ok (.aload_n 2, 1) := by decide +kernel
theorem dX10_placesHeard_3 : decode cX10_placesHeard 3 = .ok (.iload_n 3, 1) := by decide +kernel
theorem dX10_placesHeard_4 : decode cX10_placesHeard 4 = .ok (.invokevirtual 64, 3) := by decide +kernel
theorem dX10_placesHeard_7 : decode cX10_placesHeard 7 = .ok (.ifCond .ne 5, 3) := by decide +kernel
theorem dX10_placesHeard_10 : decode cX10_placesHeard 10 = .ok (.iconst 0, 1) := by decide +kernel
theorem dX10_placesHeard_11 : decode cX10_placesHeard 11 = .ok (.ireturn, 1) := by decide +kernel
theorem dX10_placesHeard_12 : decode cX10_placesHeard 12 = .ok (.aload_n 1, 1) := by decide +kernel
theorem dX10_placesHeard_13 : decode cX10_placesHeard 13 = .ok (.iload 4, 2) := by decide +kernel
theorem dX10_placesHeard_15 : decode cX10_placesHeard 15 = .ok (.invokevirtual 31, 3) := by decide +kernel
theorem dX10_placesHeard_18 : decode cX10_placesHeard 18 = .ok (.istore 5, 2) := by decide +kernel
theorem dX10_placesHeard_20 : decode cX10_placesHeard 20 = .ok (.aload_n 2, 1) := by decide +kernel
theorem dX10_placesHeard_21 : decode cX10_placesHeard 21 = .ok (.iload 4, 2) := by decide +kernel
theorem dX10_placesHeard_23 : decode cX10_placesHeard 23 = .ok (.aload_n 1, 1) := by decide +kernel
theorem dX10_placesHeard_24 : decode cX10_placesHeard 24 = .ok (.invokevirtual 54, 3) := by decide +kernel
theorem dX10_placesHeard_27 : decode cX10_placesHeard 27 = .ok (.invokevirtual 58, 3) := by decide +kernel
theorem dX10_placesHeard_30 : decode cX10_placesHeard 30 = .ok (.iconst 1, 1) := by decide +kernel
theorem dX10_placesHeard_31 : decode cX10_placesHeard 31 = .ok (.iload 5, 2) := by decide +kernel
theorem dX10_placesHeard_33 : decode cX10_placesHeard 33 = .ok (.ishl, 1) := by decide +kernel
