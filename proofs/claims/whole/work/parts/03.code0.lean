set_option maxRecDepth 20000 in
theorem ggX0_init_X4_init : GoodIn wsX0_init wsX4_init := goodIn_r _ [3, 4, 5, 6] (by decide +kernel) (by decide +kernel)
set_option maxRecDepth 20000 in
theorem gX0_init_X4_init_n1 : GoodIn wsX0_init (wsX4_init) := ggX0_init_X4_init
theorem dX0_init_0 : decode cX0_init 0 = .ok (.aload_n 0, 1) := by decide +kernel
theorem dX0_init_1 : decode cX0_init 1 = .ok (.invokespecial 1, 3) := by decide +kernel
theorem dX0_init_4 : decode cX0_init 4 = .ok (.return_, 1) := by decide +kernel
set_option maxRecDepth 20000 in
theorem ggX0_marked_X4_leave : GoodIn wsX0_marked wsX4_leave := goodIn_r _ [6, 7, 33, 34, 35, 36, 37, 38] (by decide +kernel) (by decide +kernel)
set_option maxRecDepth 20000 in
theorem gX0_marked_X4_leave_u7X0 : GoodIn wsX0_marked (va_wsU RX0 7 RX0 "DropDealers$Kind" ⟨"DropDealers$Beans", "leave", "(I)V"⟩ yX4_leave wsX4_leave) := goodIn_app (goodIn_of _ (by decide +kernel)) ggX0_marked_X4_leave
set_option maxRecDepth 20000 in
theorem gX0_marked_X4_leave_u7X8 : GoodIn wsX0_marked (va_wsU RX0 7 RX8 "DropDealers$Kind" ⟨"DropDealers$Beans", "leave", "(I)V"⟩ yX4_leave wsX4_leave) := goodIn_app (goodIn_of _ (by decide +kernel)) ggX0_marked_X4_leave
set_option maxRecDepth 20000 in
theorem ggX0_marked_X4_marked : GoodIn wsX0_marked wsX4_marked := goodIn_r _ [13, 14, 15, 16, 4, 5, 6, 7, 17, 18, 19, 20, 21, 22, 39, 40, 41, 42, 43, 44, 45, 46, 47, 33, 34, 35, 36, 37, 38] (by decide +kernel) (by decide +kernel)
set_option maxRecDepth 20000 in
theorem gX0_marked_X4_marked_s13 : GoodIn wsX0_marked (va_wsSU RX0 13 yX4_marked wsX4_marked) := goodIn_app (goodIn_of _ (by decide +kernel)) ggX0_marked_X4_marked
theorem dX0_marked_0 : decode cX0_marked 0 = .ok (.aload_n 0, 1) := by decide +kernel
theorem dX0_marked_1 : decode cX0_marked 1 = .ok (.bipush 10, 2) := by decide +kernel
theorem dX0_marked_3 : decode cX0_marked 3 = .ok (.invokevirtual 7, 3) := by decide +kernel
theorem dX0_marked_6 : decode cX0_marked 6 = .ok (.aload_n 0, 1) := by decide +kernel
theorem dX0_marked_7 : decode cX0_marked 7 = .ok (.aload_n 1, 1) := by decide +kernel
theorem dX0_marked_8 : decode cX0_marked 8 = .ok (.aload_n 2, 1) := by decide +kernel
theorem dX0_marked_9 : decode cX0_marked 9 = .ok (.iload_n 3, 1) := by decide +kernel
theorem dX0_marked_10 : decode cX0_marked 10 = .ok (.invokespecial 13, 3) := by decide +kernel
theorem dX0_marked_13 : decode cX0_marked 13 = .ok (.aload_n 1, 1) := by decide +kernel
theorem dX0_marked_14 : decode cX0_marked 14 = .ok (.getfield 17, 3) := by decide +kernel
theorem dX0_marked_17 : decode cX0_marked 17 = .ok (.iload_n 3, 1) := by decide +kernel
theorem dX0_marked_18 : decode cX0_marked 18 = .ok (.iaload, 1) := by decide +kernel
theorem dX0_marked_19 : decode cX0_marked 19 = .ok (.isub, 1) := by decide +kernel
theorem dX0_marked_20 : decode cX0_marked 20 = .ok (.ireturn, 1) := by decide +kernel
theorem dX1_init_0 : decode cX1_init 0 = .ok (.aload_n 0, 1) := by decide +kernel
theorem dX1_init_1 : decode cX1_init 1 = .ok (.invokespecial 3, 3) := by decide +kernel
theorem dX1_init_4 : decode cX1_init 4 = .ok (.aload_n 0, 1) := by decide +kernel
theorem dX1_init_5 : decode cX1_init 5 = .ok (.bipush 6, 2) := by decide +kernel
theorem dX1_init_7 : decode cX1_init 7 = .ok (.newarray .int, 2) := by decide +kernel
theorem dX1_init_9 : decode cX1_init 9 = .ok (.putfield 9, 3) := by decide +kernel
theorem dX1_init_12 : decode cX1_init 12 = .ok (.aload_n 0, 1) := by decide +kernel
theorem dX1_init_13 : decode cX1_init 13 = .ok (.bipush 6, 2) := by decide +kernel
theorem dX1_init_15 : decode cX1_init 15 = .ok (.newarray .int, 2) := by decide +kernel
theorem dX1_init_17 : decode cX1_init 17 = .ok (.putfield 15, 3) := by decide +kernel
theorem dX1_init_20 : decode cX1_init 20 = .ok (.aload_n 0, 1) := by decide +kernel
theorem dX1_init_21 : decode cX1_init 21 = .ok (.bipush 40, 2) := by decide +kernel
theorem dX1_init_23 : decode cX1_init 23 = .ok (.newarray .int, 2) := by decide +kernel
theorem dX1_init_25 : decode cX1_init 25 = .ok (.putfield 18, 3) := by decide +kernel
theorem dX1_init_28 : decode cX1_init 28 = .ok (.aload_n 0, 1) := by decide +kernel
theorem dX1_init_29 : decode cX1_init 29 = .ok (.bipush 6, 2) := by decide +kernel
theorem dX1_init_31 : decode cX1_init 31 = .ok (.newarray .int, 2) := by decide +kernel
theorem dX1_init_33 : decode cX1_init 33 = .ok (.putfield 21, 3) := by decide +kernel
theorem dX1_init_36 : decode cX1_init 36 = .ok (.aload_n 0, 1) := by decide +kernel
theorem dX1_init_37 : decode cX1_init 37 = .ok (.bipush 6, 2) := by decide +kernel
theorem dX1_init_39 : decode cX1_init 39 = .ok (.newarray .int, 2) := by decide +kernel
theorem dX1_init_41 : decode cX1_init 41 = .ok (.putfield 24, 3) := by decide +kernel
theorem dX1_init_44 : decode cX1_init 44 = .ok (.aload_n 0, 1) := by decide +kernel
theorem dX1_init_45 : decode cX1_init 45 = .ok (.iconst 3, 1) := by decide +kernel
theorem dX1_init_46 : decode cX1_init 46 = .ok (.newarray .int, 2) := by decide +kernel
theorem dX1_init_48 : decode cX1_init 48 = .ok (.putfield 27, 3) := by decide +kernel
theorem dX1_init_51 : decode cX1_init 51 = .ok (.return_, 1) := by decide +kernel
set_option maxRecDepth 20000 in
theorem ggX1_from_X3_dropsOn : GoodIn wsX1_from wsX3_dropsOn := goodIn_r _ [9, 10, 11, 12, 13, 14, 15, 16, 17, 18, 19, 20, 21] (by decide +kernel) (by decide +kernel)
set_option maxRecDepth 20000 in
theorem gX1_from_X3_dropsOn : GoodIn wsX1_from (wsV RX1 52 RX3 yX3_dropsOn wsX3_dropsOn) := goodIn_app (goodIn_of _ (by decide +kernel)) ggX1_from_X3_dropsOn
theorem dX1_from_0 : decode cX1_from 0 = .ok (.aload_n 0, 1) := by decide +kernel
theorem dX1_from_1 : decode cX1_from 1 = .ok (.aload_n 1, 1) := by decide +kernel
theorem dX1_from_2 : decode cX1_from 2 = .ok (.getfield 30, 3) := by decide +kernel
theorem dX1_from_5 : decode cX1_from 5 = .ok (.putfield 36, 3) := by decide +kernel
theorem dX1_from_8 : decode cX1_from 8 = .ok (.iconst 0, 1) := by decide +kernel
theorem dX1_from_9 : decode cX1_from 9 = .ok (.istore_n 3, 1) := by decide +kernel
theorem dX1_from_10 : decode cX1_from 10 = .ok (.iload_n 3, 1) := by decide +kernel
theorem dX1_from_11 : decode cX1_from 11 = .ok (.aload_n 0, 1) := by decide +kernel
theorem dX1_from_12 : decode cX1_from 12 = .ok (.getfield 36, 3) := by decide +kernel
theorem dX1_from_15 : decode cX1_from 15 = .ok (.if_icmp .ge 40, 3) := by decide +kernel
theorem dX1_from_18 : decode cX1_from 18 = .ok (.aload_n 0, 1) := by decide +kernel
theorem dX1_from_19 : decode cX1_from 19 = .ok (.getfield 9, 3) := by decide +kernel
theorem dX1_from_22 : decode cX1_from 22 = .ok (.iload_n 3, 1) := by decide +kernel
theorem dX1_from_23 : decode cX1_from 23 = .ok (.aload_n 2, 1) := by decide +kernel
theorem dX1_from_24 : decode cX1_from 24 = .ok (.getfield 37, 3) := by decide +kernel
theorem dX1_from_27 : decode cX1_from 27 = .ok (.iload_n 3, 1) := by decide +kernel
theorem dX1_from_28 : decode cX1_from 28 = .ok (.iaload, 1) := by decide +kernel
theorem dX1_from_29 : decode cX1_from 29 = .ok (.iastore, 1) := by decide +kernel
theorem dX1_from_30 : decode cX1_from 30 = .ok (.aload_n 0, 1) := by decide +kernel
theorem dX1_from_31 : decode cX1_from 31 = .ok (.getfield 15, 3) := by decide +kernel
theorem dX1_from_34 : decode cX1_from 34 = .ok (.iload_n 3, 1) := by decide +kernel
theorem dX1_from_35 : decode cX1_from 35 = .ok (.aload_n 1, 1) := by decide +kernel
theorem dX1_from_36 : decode cX1_from 36 = .ok (.getfield 40, 3) := by decide +kernel
theorem dX1_from_39 : decode cX1_from 39 = .ok (.iload_n 3, 1) := by decide +kernel
theorem dX1_from_40 : decode cX1_from 40 = .ok (.iaload, 1) := by decide +kernel
theorem dX1_from_41 : decode cX1_from 41 = .ok (.aload_n 1, 1) := by decide +kernel
theorem dX1_from_42 : decode cX1_from 42 = .ok (.getfield 43, 3) := by decide +kernel
theorem dX1_from_45 : decode cX1_from 45 = .ok (.iload_n 3, 1) := by decide +kernel
theorem dX1_from_46 : decode cX1_from 46 = .ok (.iaload, 1) := by decide +kernel
theorem dX1_from_47 : decode cX1_from 47 = .ok (.isub, 1) := by decide +kernel
theorem dX1_from_48 : decode cX1_from 48 = .ok (.iastore, 1) := by decide +kernel
theorem dX1_from_49 : decode cX1_from 49 = .ok (.iinc 3 1, 3) := by decide +kernel
theorem dX1_from_52 : decode cX1_from 52 = .ok (.goto (-42), 3) := by decide +kernel
theorem dX1_from_55 : decode cX1_from 55 = .ok (.aload_n 0, 1) := by decide +kernel
theorem dX1_from_56 : decode cX1_from 56 = .ok (.getfield 18, 3) := by decide +kernel
theorem dX1_from_59 : decode cX1_from 59 = .ok (.iconst 0, 1) := by decide +kernel
theorem dX1_from_60 : decode cX1_from 60 = .ok (.aload_n 2, 1) := by decide +kernel
theorem dX1_from_61 : decode cX1_from 61 = .ok (.getfield 46, 3) := by decide +kernel
theorem dX1_from_64 : decode cX1_from 64 = .ok (.iastore, 1) := by decide +kernel
theorem dX1_from_65 : decode cX1_from 65 = .ok (.iconst 1, 1) := by decide +kernel
theorem dX1_from_66 : decode cX1_from 66 = .ok (.istore_n 3, 1) := by decide +kernel
theorem dX1_from_67 : decode cX1_from 67 = .ok (.iload_n 3, 1) := by decide +kernel
theorem dX1_from_68 : decode cX1_from 68 = .ok (.bipush 40, 2) := by decide +kernel
theorem dX1_from_70 : decode cX1_from 70 = .ok (.if_icmp .ge 25, 3) := by decide +kernel
theorem dX1_from_73 : decode cX1_from 73 = .ok (.aload_n 0, 1) := by decide +kernel
theorem dX1_from_74 : decode cX1_from 74 = .ok (.getfield 18, 3) := by decide +kernel
theorem dX1_from_77 : decode cX1_from 77 = .ok (.iload_n 3, 1) := by decide +kernel
theorem dX1_from_78 : decode cX1_from 78 = .ok (.aload_n 1, 1) := by decide +kernel
theorem dX1_from_79 : decode cX1_from 79 = .ok (.aload_n 2, 1) := by decide +kernel
theorem dX1_from_80 : decode cX1_from 80 = .ok (.getfield 49, 3) := by decide +kernel
theorem dX1_from_83 : decode cX1_from 83 = .ok (.iload_n 3, 1) := by decide +kernel
theorem dX1_from_84 : decode cX1_from 84 = .ok (.iadd, 1) := by decide +kernel
theorem dX1_from_85 : decode cX1_from 85 = .ok (.invokevirtual 52, 3) := by decide +kernel
theorem dX1_from_88 : decode cX1_from 88 = .ok (.iastore, 1) := by decide +kernel
theorem dX1_from_89 : decode cX1_from 89 = .ok (.iinc 3 1, 3) := by decide +kernel
theorem dX1_from_92 : decode cX1_from 92 = .ok (.goto (-25), 3) := by decide +kernel
theorem dX1_from_95 : decode cX1_from 95 = .ok (.aload_n 0, 1) := by decide +kernel
theorem dX1_from_96 : decode cX1_from 96 = .ok (.areturn, 1) := by decide +kernel
set_option maxRecDepth 20000 in
theorem ggX1_safeDays_X1_startDays : GoodIn wsX1_safeDays wsX1_startDays := goodIn_r _ [5, 6, 7, 8, 9, 10, 11, 12, 31, 32, 33, 34, 35, 36, 37, 38] (by decide +kernel) (by decide +kernel)
set_option maxRecDepth 20000 in
theorem gX1_safeDays_X1_startDays : GoodIn wsX1_safeDays (wsV RX1 56 RX1 yX1_startDays wsX1_startDays) := goodIn_app (goodIn_of _ (by decide +kernel)) ggX1_safeDays_X1_startDays
set_option maxRecDepth 20000 in
theorem ggX1_safeDays_X1_lackOfDay : GoodIn wsX1_safeDays wsX1_lackOfDay := goodIn_r _ [16, 12, 17, 18, 19, 20, 21, 22, 23, 24, 4, 25, 26, 7, 27, 28, 29, 30, 31, 32, 33, 34, 35, 36, 37, 38] (by decide +kernel) (by decide +kernel)
set_option maxRecDepth 20000 in
theorem gX1_safeDays_X1_lackOfDay : GoodIn wsX1_safeDays (wsV RX1 59 RX1 yX1_lackOfDay wsX1_lackOfDay) := goodIn_app (goodIn_of _ (by decide +kernel)) ggX1_safeDays_X1_lackOfDay
theorem dX1_safeDays_0 : decode cX1_safeDays 0 = .ok (.aload_n 0, 1) := by decide +kernel
theorem dX1_safeDays_1 : decode cX1_safeDays 1 = .ok (.invokevirtual 56, 3) := by decide +kernel
theorem dX1_safeDays_4 : decode cX1_safeDays 4 = .ok (.iconst 0, 1) := by decide +kernel
theorem dX1_safeDays_5 : decode cX1_safeDays 5 = .ok (.istore_n 1, 1) := by decide +kernel
theorem dX1_safeDays_6 : decode cX1_safeDays 6 = .ok (.iload_n 1, 1) := by decide +kernel
theorem dX1_safeDays_7 : decode cX1_safeDays 7 = .ok (.bipush 40, 2) := by decide +kernel
theorem dX1_safeDays_9 : decode cX1_safeDays 9 = .ok (.if_icmp .ge 19, 3) := by decide +kernel
theorem dX1_safeDays_12 : decode cX1_safeDays 12 = .ok (.aload_n 0, 1) := by decide +kernel
theorem dX1_safeDays_13 : decode cX1_safeDays 13 = .ok (.iload_n 1, 1) := by decide +kernel
theorem dX1_safeDays_14 : decode cX1_safeDays 14 = .ok (.invokevirtual 59, 3) := by decide +kernel
theorem dX1_safeDays_17 : decode cX1_safeDays 17 = .ok (.ifCond .le 5, 3) := by decide +kernel
theorem dX1_safeDays_20 : decode cX1_safeDays 20 = .ok (.iload_n 1, 1) := by decide +kernel
theorem dX1_safeDays_21 : decode cX1_safeDays 21 = .ok (.ireturn, 1) := by decide +kernel
theorem dX1_safeDays_22 : decode cX1_safeDays 22 = .ok (.iinc 1 1, 3) := by decide +kernel
theorem dX1_safeDays_25 : decode cX1_safeDays 25 = .ok (.goto (-19), 3) := by decide +kernel
theorem dX1_safeDays_28 : decode cX1_safeDays 28 = .ok (.bipush 40, 2) := by decide +kernel
theorem dX1_safeDays_30 : decode cX1_safeDays 30 = .ok (.ireturn, 1) := by decide +kernel
set_option maxRecDepth 20000 in
theorem ggX1_leastLack_X1_startDays : GoodIn wsX1_leastLack wsX1_startDays := goodIn_r _ [5, 6, 7, 8, 9, 10, 11, 12, 31, 32, 33, 34, 35, 36, 37, 38] (by decide +kernel) (by decide +kernel)
set_option maxRecDepth 20000 in
theorem gX1_leastLack_X1_startDays : GoodIn wsX1_leastLack (wsV RX1 56 RX1 yX1_startDays wsX1_startDays) := goodIn_app (goodIn_of _ (by decide +kernel)) ggX1_leastLack_X1_startDays
set_option maxRecDepth 20000 in
theorem ggX1_leastLack_X1_lackOfDay : GoodIn wsX1_leastLack wsX1_lackOfDay := goodIn_r _ [16, 12, 17, 18, 19, 20, 21, 22, 23, 24, 4, 25, 26, 7, 27, 28, 29, 30, 31, 32, 33, 34, 35, 36, 37, 38] (by decide +kernel) (by decide +kernel)
set_option maxRecDepth 20000 in
theorem gX1_leastLack_X1_lackOfDay : GoodIn wsX1_leastLack (wsV RX1 59 RX1 yX1_lackOfDay wsX1_lackOfDay) := goodIn_app (goodIn_of _ (by decide +kernel)) ggX1_leastLack_X1_lackOfDay
theorem dX1_leastLack_0 : decode cX1_leastLack 0 = .ok (.aload_n 0, 1) := by decide +kernel
theorem dX1_leastLack_1 : decode cX1_leastLack 1 = .ok (.invokevirtual 56, 3) := by decide +kernel
theorem dX1_leastLack_4 : decode cX1_leastLack 4 = .ok (.iconst 0, 1) := by decide +kernel
theorem dX1_leastLack_5 : decode cX1_leastLack 5 = .ok (.istore_n 2, 1) := by decide +kernel
theorem dX1_leastLack_6 : decode cX1_leastLack 6 = .ok (.iconst 0, 1) := by decide +kernel
theorem dX1_leastLack_7 : decode cX1_leastLack 7 = .ok (.istore_n 3, 1) := by decide +kernel
theorem dX1_leastLack_8 : decode cX1_leastLack 8 = .ok (.iload_n 3, 1) := by decide +kernel
theorem dX1_leastLack_9 : decode cX1_leastLack 9 = .ok (.iload_n 1, 1) := by decide +kernel
theorem dX1_leastLack_10 : decode cX1_leastLack 10 = .ok (.if_icmp .ge 23, 3) := by decide +kernel
theorem dX1_leastLack_13 : decode cX1_leastLack 13 = .ok (.iload_n 3, 1) := by decide +kernel
theorem dX1_leastLack_14 : decode cX1_leastLack 14 = .ok (.bipush 40, 2) := by decide +kernel
theorem dX1_leastLack_16 : decode cX1_leastLack 16 = .ok (.if_icmp .ge 17, 3) := by decide +kernel
theorem dX1_leastLack_19 : decode cX1_leastLack 19 = .ok (.iload_n 2, 1) := by decide +kernel
theorem dX1_leastLack_20 : decode cX1_leastLack 20 = .ok (.aload_n 0, 1) := by decide +kernel
theorem dX1_leastLack_21 : decode cX1_leastLack 21 = .ok (.iload_n 3, 1) := by decide +kernel
theorem dX1_leastLack_22 : decode cX1_leastLack 22 = .ok (.invokevirtual 59, 3) := by decide +kernel
theorem dX1_leastLack_25 : decode cX1_leastLack 25 = .ok (.iadd, 1) := by decide +kernel
theorem dX1_leastLack_26 : decode cX1_leastLack 26 = .ok (.istore_n 2, 1) := by decide +kernel
theorem dX1_leastLack_27 : decode cX1_leastLack 27 = .ok (.iinc 3 1, 3) := by decide +kernel
theorem dX1_leastLack_30 : decode cX1_leastLack 30 = .ok (.goto (-22), 3) := by decide +kernel
theorem dX1_leastLack_33 : decode cX1_leastLack 33 = .ok (.iload_n 2, 1) := by decide +kernel
theorem dX1_leastLack_34 : decode cX1_leastLack 34 = .ok (.ireturn, 1) := by decide +kernel
theorem dX1_startDays_0 : decode cX1_startDays 0 = .ok (.aload_n 0, 1) := by decide +kernel
theorem dX1_startDays_1 : decode cX1_startDays 1 = .ok (.getfield 9, 3) := by decide +kernel
theorem dX1_startDays_4 : decode cX1_startDays 4 = .ok (.iconst 0, 1) := by decide +kernel
theorem dX1_startDays_5 : decode cX1_startDays 5 = .ok (.aload_n 0, 1) := by decide +kernel
theorem dX1_startDays_6 : decode cX1_startDays 6 = .ok (.getfield 21, 3) := by decide +kernel
theorem dX1_startDays_9 : decode cX1_startDays 9 = .ok (.iconst 0, 1) := by decide +kernel
theorem dX1_startDays_10 : decode cX1_startDays 10 = .ok (.bipush 6, 2) := by decide +kernel
theorem dX1_startDays_12 : decode cX1_startDays 12 = .ok (.invokestatic 62, 3) := by decide +kernel
theorem dX1_startDays_15 : decode cX1_startDays 15 = .ok (.aload_n 0, 1) := by decide +kernel
theorem dX1_startDays_16 : decode cX1_startDays 16 = .ok (.iconst 0, 1) := by decide +kernel
theorem dX1_startDays_17 : decode cX1_startDays 17 = .ok (.putfield 68, 3) := by decide +kernel
theorem dX1_startDays_20 : decode cX1_startDays 20 = .ok (.return_, 1) := by decide +kernel
set_option maxRecDepth 20000 in
theorem ggX1_lackOfDay_X1_passDay : GoodIn wsX1_lackOfDay wsX1_passDay := goodIn_r _ [11, 12, 13, 14, 15, 16, 5, 17, 18, 19, 20, 21, 22, 23, 24, 25] (by decide +kernel) (by decide +kernel)
set_option maxRecDepth 20000 in
theorem gX1_lackOfDay_X1_passDay : GoodIn wsX1_lackOfDay (wsV RX1 71 RX1 yX1_passDay wsX1_passDay) := goodIn_app (goodIn_of _ (by decide +kernel)) ggX1_lackOfDay_X1_passDay
theorem dX1_lackOfDay_0 : decode cX1_lackOfDay 0 = .ok (.aload_n 0, 1) := by decide +kernel
theorem dX1_lackOfDay_1 : decode cX1_lackOfDay 1 = .ok (.dup, 1) := by decide +kernel
theorem dX1_lackOfDay_2 : decode cX1_lackOfDay 2 = .ok (.getfield 68, 3) := by decide +kernel
theorem dX1_lackOfDay_5 : decode cX1_lackOfDay 5 = .ok (.aload_n 0, 1) := by decide +kernel
theorem dX1_lackOfDay_6 : decode cX1_lackOfDay 6 = .ok (.getfield 18, 3) := by decide +kernel
theorem dX1_lackOfDay_9 : decode cX1_lackOfDay 9 = .ok (.iload_n 1, 1) := by decide +kernel
theorem dX1_lackOfDay_10 : decode cX1_lackOfDay 10 = .ok (.iaload, 1) := by decide +kernel
theorem dX1_lackOfDay_11 : decode cX1_lackOfDay 11 = .ok (.iadd, 1) := by decide +kernel
theorem dX1_lackOfDay_12 : decode cX1_lackOfDay 12 = .ok (.putfield 68, 3) := by decide +kernel
theorem dX1_lackOfDay_15 : decode cX1_lackOfDay 15 = .ok (.aload_n 0, 1) := by decide +kernel
theorem dX1_lackOfDay_16 : decode cX1_lackOfDay 16 = .ok (.invokevirtual 71, 3) := by decide +kernel
theorem dX1_lackOfDay_19 : decode cX1_lackOfDay 19 = .ok (.istore_n 2, 1) := by decide +kernel
theorem dX1_lackOfDay_20 : decode cX1_lackOfDay 20 = .ok (.aload_n 0, 1) := by decide +kernel
theorem dX1_lackOfDay_21 : decode cX1_lackOfDay 21 = .ok (.getfield 68, 3) := by decide +kernel
theorem dX1_lackOfDay_24 : decode cX1_lackOfDay 24 = .ok (.iload_n 2, 1) := by decide +kernel
theorem dX1_lackOfDay_25 : decode cX1_lackOfDay 25 = .ok (.invokestatic 75, 3) := by decide +kernel
theorem dX1_lackOfDay_28 : decode cX1_lackOfDay 28 = .ok (.istore_n 3, 1) := by decide +kernel
theorem dX1_lackOfDay_29 : decode cX1_lackOfDay 29 = .ok (.aload_n 0, 1) := by decide +kernel
theorem dX1_lackOfDay_30 : decode cX1_lackOfDay 30 = .ok (.dup, 1) := by decide +kernel
theorem dX1_lackOfDay_31 : decode cX1_lackOfDay 31 = .ok (.getfield 68, 3) := by decide +kernel
theorem dX1_lackOfDay_34 : decode cX1_lackOfDay 34 = .ok (.iload_n 3, 1) := by decide +kernel
theorem dX1_lackOfDay_35 : decode cX1_lackOfDay 35 = .ok (.isub, 1) := by decide +kernel
theorem dX1_lackOfDay_36 : decode cX1_lackOfDay 36 = .ok (.putfield 68, 3) := by decide +kernel
theorem dX1_lackOfDay_39 : decode cX1_lackOfDay 39 = .ok (.iload_n 2, 1) := by decide +kernel
theorem dX1_lackOfDay_40 : decode cX1_lackOfDay 40 = .ok (.iload_n 3, 1) := by decide +kernel
theorem dX1_lackOfDay_41 : decode cX1_lackOfDay 41 = .ok (.isub, 1) := by decide +kernel
theorem dX1_lackOfDay_42 : decode cX1_lackOfDay 42 = .ok (.ireturn, 1) := by decide +kernel
theorem dX1_passDay_0 : decode cX1_passDay 0 = .ok (.iconst 0, 1) := by decide +kernel
theorem dX1_passDay_1 : decode cX1_passDay 1 = .ok (.istore_n 1, 1) := by decide +kernel
theorem dX1_passDay_2 : decode cX1_passDay 2 = .ok (.iconst 0, 1) := by decide +kernel
theorem dX1_passDay_3 : decode cX1_passDay 3 = .ok (.istore_n 2, 1) := by decide +kernel
theorem dX1_passDay_4 : decode cX1_passDay 4 = .ok (.iload_n 2, 1) := by decide +kernel
theorem dX1_passDay_5 : decode cX1_passDay 5 = .ok (.aload_n 0, 1) := by decide +kernel
theorem dX1_passDay_6 : decode cX1_passDay 6 = .ok (.getfield 36, 3) := by decide +kernel
theorem dX1_passDay_9 : decode cX1_passDay 9 = .ok (.if_icmp .ge 43, 3) := by decide +kernel
theorem dX1_passDay_12 : decode cX1_passDay 12 = .ok (.aload_n 0, 1) := by decide +kernel
theorem dX1_passDay_13 : decode cX1_passDay 13 = .ok (.getfield 21, 3) := by decide +kernel
theorem dX1_passDay_16 : decode cX1_passDay 16 = .ok (.iload_n 2, 1) := by decide +kernel
theorem dX1_passDay_17 : decode cX1_passDay 17 = .ok (.iaload, 1) := by decide +kernel
theorem dX1_passDay_18 : decode cX1_passDay 18 = .ok (.aload_n 0, 1) := by decide +kernel
theorem dX1_passDay_19 : decode cX1_passDay 19 = .ok (.getfield 15, 3) := by decide +kernel
theorem dX1_passDay_22 : decode cX1_passDay 22 = .ok (.iload_n 2, 1) := by decide +kernel
theorem dX1_passDay_23 : decode cX1_passDay 23 = .ok (.iaload, 1) := by decide +kernel
theorem dX1_passDay_24 : decode cX1_passDay 24 = .ok (.iadd, 1) := by decide +kernel
theorem dX1_passDay_25 : decode cX1_passDay 25 = .ok (.istore_n 3, 1) := by decide +kernel
theorem dX1_passDay_26 : decode cX1_passDay 26 = .ok (.aload_n 0, 1) := by decide +kernel
theorem dX1_passDay_27 : decode cX1_passDay 27 = .ok (.getfield 21, 3) := by decide +kernel
theorem dX1_passDay_30 : decode cX1_passDay 30 = .ok (.iload_n 2, 1) := by decide +kernel
theorem dX1_passDay_31 : decode cX1_passDay 31 = .ok (.iconst 0, 1) := by decide +kernel
theorem dX1_passDay_32 : decode cX1_passDay 32 = .ok (.iload_n 3, 1) := by decide +kernel
theorem dX1_passDay_33 : decode cX1_passDay 33 = .ok (.invokestatic 81, 3) := by decide +kernel
theorem dX1_passDay_36 : decode cX1_passDay 36 = .ok (.iastore, 1) := by decide +kernel
theorem dX1_passDay_37 : decode cX1_passDay 37 = .ok (.iload_n 1, 1) := by decide +kernel
theorem dX1_passDay_38 : decode cX1_passDay 38 = .ok (.iconst 0, 1) := by decide +kernel
theorem dX1_passDay_39 : decode cX1_passDay 39 = .ok (.iload_n 3, 1) := by decide +kernel
theorem dX1_passDay_40 : decode cX1_passDay 40 = .ok (.ineg, 1) := by decide +kernel
theorem dX1_passDay_41 : decode cX1_passDay 41 = .ok (.invokestatic 81, 3) := by decide +kernel
theorem dX1_passDay_44 : decode cX1_passDay 44 = .ok (.iadd, 1) := by decide +kernel
theorem dX1_passDay_45 : decode cX1_passDay 45 = .ok (.istore_n 1, 1) := by decide +kernel
theorem dX1_passDay_46 : decode cX1_passDay 46 = .ok (.iinc 2 1, 3) := by decide +kernel
theorem dX1_passDay_49 : decode cX1_passDay 49 = .ok (.goto (-45), 3) := by decide +kernel
theorem dX1_passDay_52 : decode cX1_passDay 52 = .ok (.iload_n 1, 1) := by decide +kernel
theorem dX1_passDay_53 : decode cX1_passDay 53 = .ok (.ireturn, 1) := by decide +kernel
set_option maxRecDepth 20000 in
theorem ggX1_shareOut_X1_costOfAll : GoodIn wsX1_shareOut wsX1_costOfAll := goodIn_r _ [6, 7, 8, 9, 10, 5, 11, 12, 13, 14, 15, 16, 17, 39, 40, 41, 42, 43, 44, 45, 46] (by decide +kernel) (by decide +kernel)
set_option maxRecDepth 20000 in
theorem gX1_shareOut_X1_costOfAll : GoodIn wsX1_shareOut (wsV RX1 84 RX1 yX1_costOfAll wsX1_costOfAll) := goodIn_app (goodIn_of _ (by decide +kernel)) ggX1_shareOut_X1_costOfAll
set_option maxRecDepth 20000 in
theorem ggX1_shareOut_X1_shareTooFew : GoodIn wsX1_shareOut wsX1_shareTooFew := goodIn_r _ [21, 1, 7, 22, 23, 24, 16, 25, 8, 9, 10, 5, 11, 12, 13, 14, 15, 17, 39, 40, 41, 42, 43, 44, 45, 46] (by decide +kernel) (by decide +kernel)
set_option maxRecDepth 20000 in
theorem gX1_shareOut_X1_shareTooFew : GoodIn wsX1_shareOut (wsV RX1 87 RX1 yX1_shareTooFew wsX1_shareTooFew) := goodIn_app (goodIn_of _ (by decide +kernel)) ggX1_shareOut_X1_shareTooFew
set_option maxRecDepth 20000 in
theorem ggX1_shareOut_X1_shareEnough : GoodIn wsX1_shareOut wsX1_shareEnough := goodIn_r _ [29, 1, 7, 22, 30, 31, 32, 5, 33, 34, 35, 36, 37, 38, 12, 13, 14, 15, 16, 17, 23, 24, 25, 2, 3, 4, 6, 8, 9, 10, 11, 39, 40, 41, 42, 43, 44, 45, 46] (by decide +kernel) (by decide +kernel)
set_option maxRecDepth 20000 in
theorem gX1_shareOut_X1_shareEnough : GoodIn wsX1_shareOut (wsV RX1 90 RX1 yX1_shareEnough wsX1_shareEnough) := goodIn_app (goodIn_of _ (by decide +kernel)) ggX1_shareOut_X1_shareEnough
theorem dX1_shareOut_0 : decode cX1_shareOut 0 = .ok (.aload_n 0, 1) := by decide +kernel
theorem dX1_shareOut_1 : decode cX1_shareOut 1 = .ok (.iconst 0, 1) := by decide +kernel
theorem dX1_shareOut_2 : decode cX1_shareOut 2 = .ok (.invokevirtual 84, 3) := by decide +kernel
theorem dX1_shareOut_5 : decode cX1_shareOut 5 = .ok (.istore_n 1, 1) := by decide +kernel
theorem dX1_shareOut_6 : decode cX1_shareOut 6 = .ok (.iload_n 1, 1) := by decide +kernel
theorem dX1_shareOut_7 : decode cX1_shareOut 7 = .ok (.aload_n 0, 1) := by decide +kernel
theorem dX1_shareOut_8 : decode cX1_shareOut 8 = .ok (.getfield 18, 3) := by decide +kernel
theorem dX1_shareOut_11 : decode cX1_shareOut 11 = .ok (.iconst 0, 1) := by decide +kernel
theorem dX1_shareOut_12 : decode cX1_shareOut 12 = .ok (.iaload, 1) := by decide +kernel
theorem dX1_shareOut_13 : decode cX1_shareOut 13 = .ok (.if_icmp .le 16, 3) := by decide +kernel
theorem dX1_shareOut_16 : decode cX1_shareOut 16 = .ok (.aload_n 0, 1) := by decide +kernel
theorem dX1_shareOut_17 : decode cX1_shareOut 17 = .ok (.invokevirtual 87, 3) := by decide +kernel
theorem dX1_shareOut_20 : decode cX1_shareOut 20 = .ok (.iload_n 1, 1) := by decide +kernel
theorem dX1_shareOut_21 : decode cX1_shareOut 21 = .ok (.aload_n 0, 1) := by decide +kernel
theorem dX1_shareOut_22 : decode cX1_shareOut 22 = .ok (.getfield 18, 3) := by decide +kernel
theorem dX1_shareOut_25 : decode cX1_shareOut 25 = .ok (.iconst 0, 1) := by decide +kernel
theorem dX1_shareOut_26 : decode cX1_shareOut 26 = .ok (.iaload, 1) := by decide +kernel
theorem dX1_shareOut_27 : decode cX1_shareOut 27 = .ok (.isub, 1) := by decide +kernel
theorem dX1_shareOut_28 : decode cX1_shareOut 28 = .ok (.ireturn, 1) := by decide +kernel
theorem dX1_shareOut_29 : decode cX1_shareOut 29 = .ok (.aload_n 0, 1) := by decide +kernel
theorem dX1_shareOut_30 : decode cX1_shareOut 30 = .ok (.invokevirtual 90, 3) := by decide +kernel
theorem dX1_shareOut_33 : decode cX1_shareOut 33 = .ok (.iconst 0, 1) := by decide +kernel
theorem dX1_shareOut_34 : decode cX1_shareOut 34 = .ok (.ireturn, 1) := by decide +kernel
set_option maxRecDepth 20000 in
theorem ggX1_costOfAll_X1_costOf : GoodIn wsX1_costOfAll wsX1_costOf := goodIn_r _ [6, 7, 8, 9, 10, 11, 12, 13, 14, 15, 16, 17, 18, 19, 20] (by decide +kernel) (by decide +kernel)
set_option maxRecDepth 20000 in
theorem gX1_costOfAll_X1_costOf : GoodIn wsX1_costOfAll (wsV RX1 93 RX1 yX1_costOf wsX1_costOf) := goodIn_app (goodIn_of _ (by decide +kernel)) ggX1_costOfAll_X1_costOf
theorem dX1_costOfAll_0 : decode cX1_costOfAll 0 = .ok (.iconst 0, 1) := by decide +kernel
theorem dX1_costOfAll_1 : decode cX1_costOfAll 1 = .ok (.istore_n 2, 1) := by decide +kernel
theorem dX1_costOfAll_2 : decode cX1_costOfAll 2 = .ok (.iconst 0, 1) := by decide +kernel
theorem dX1_costOfAll_3 : decode cX1_costOfAll 3 = .ok (.istore_n 3, 1) := by decide +kernel
theorem dX1_costOfAll_4 : decode cX1_costOfAll 4 = .ok (.iload_n 3, 1) := by decide +kernel
theorem dX1_costOfAll_5 : decode cX1_costOfAll 5 = .ok (.aload_n 0, 1) := by decide +kernel
theorem dX1_costOfAll_6 : decode cX1_costOfAll 6 = .ok (.getfield 36, 3) := by decide +kernel
theorem dX1_costOfAll_9 : decode cX1_costOfAll 9 = .ok (.if_icmp .ge 18, 3) := by decide +kernel
theorem dX1_costOfAll_12 : decode cX1_costOfAll 12 = .ok (.iload_n 2, 1) := by decide +kernel
theorem dX1_costOfAll_13 : decode cX1_costOfAll 13 = .ok (.aload_n 0, 1) := by decide +kernel
theorem dX1_costOfAll_14 : decode cX1_costOfAll 14 = .ok (.iload_n 3, 1) := by decide +kernel
theorem dX1_costOfAll_15 : decode cX1_costOfAll 15 = .ok (.iload_n 1, 1) := by decide +kernel
theorem dX1_costOfAll_16 : decode cX1_costOfAll 16 = .ok (.invokevirtual 93, 3) := by decide +kernel
theorem dX1_costOfAll_19 : decode cX1_costOfAll 19 = .ok (.iadd, 1) := by decide +kernel
theorem dX1_costOfAll_20 : decode cX1_costOfAll 20 = .ok (.istore_n 2, 1) := by decide +kernel
theorem dX1_costOfAll_21 : decode cX1_costOfAll 21 = .ok (.iinc 3 1, 3) := by decide +kernel
theorem dX1_costOfAll_24 : decode cX1_costOfAll 24 = .ok (.goto (-20), 3) := by decide +kernel
theorem dX1_costOfAll_27 : decode cX1_costOfAll 27 = .ok (.iload_n 2, 1) := by decide +kernel
theorem dX1_costOfAll_28 : decode cX1_costOfAll 28 = .ok (.ireturn, 1) := by decide +kernel
theorem dX1_costOf_0 : decode cX1_costOf 0 = .ok (.iconst 0, 1) := by decide +kernel
theorem dX1_costOf_1 : decode cX1_costOf 1 = .ok (.iload_n 2, 1) := by decide +kernel
theorem dX1_costOf_2 : decode cX1_costOf 2 = .ok (.aload_n 0, 1) := by decide +kernel
theorem dX1_costOf_3 : decode cX1_costOf 3 = .ok (.getfield 9, 3) := by decide +kernel
theorem dX1_costOf_6 : decode cX1_costOf 6 = .ok (.iload_n 1, 1) := by decide +kernel
theorem dX1_costOf_7 : decode cX1_costOf 7 = .ok (.iaload, 1) := by decide +kernel
theorem dX1_costOf_8 : decode cX1_costOf 8 = .ok (.isub, 1) := by decide +kernel
theorem dX1_costOf_9 : decode cX1_costOf 9 = .ok (.aload_n 0, 1) := by decide +kernel
theorem dX1_costOf_10 : decode cX1_costOf 10 = .ok (.getfield 15, 3) := by decide +kernel
theorem dX1_costOf_13 : decode cX1_costOf 13 = .ok (.iload_n 1, 1) := by decide +kernel
theorem dX1_costOf_14 : decode cX1_costOf 14 = .ok (.iaload, 1) := by decide +kernel
theorem dX1_costOf_15 : decode cX1_costOf 15 = .ok (.isub, 1) := by decide +kernel
theorem dX1_costOf_16 : decode cX1_costOf 16 = .ok (.invokestatic 81, 3) := by decide +kernel
theorem dX1_costOf_19 : decode cX1_costOf 19 = .ok (.ireturn, 1) := by decide +kernel
set_option maxRecDepth 20000 in
theorem ggX1_shareTooFew_X1_costOf : GoodIn wsX1_shareTooFew wsX1_costOf := goodIn_r _ [12, 13, 14, 15, 16, 6, 17, 18, 19, 20, 21, 22, 23, 24, 25] (by decide +kernel) (by decide +kernel)
set_option maxRecDepth 20000 in
theorem gX1_shareTooFew_X1_costOf : GoodIn wsX1_shareTooFew (wsV RX1 93 RX1 yX1_costOf wsX1_costOf) := goodIn_app (goodIn_of _ (by decide +kernel)) ggX1_shareTooFew_X1_costOf
theorem dX1_shareTooFew_0 : decode cX1_shareTooFew 0 = .ok (.aload_n 0, 1) := by decide +kernel
theorem dX1_shareTooFew_1 : decode cX1_shareTooFew 1 = .ok (.getfield 18, 3) := by decide +kernel
theorem dX1_shareTooFew_4 : decode cX1_shareTooFew 4 = .ok (.iconst 0, 1) := by decide +kernel
theorem dX1_shareTooFew_5 : decode cX1_shareTooFew 5 = .ok (.iaload, 1) := by decide +kernel
theorem dX1_shareTooFew_6 : decode cX1_shareTooFew 6 = .ok (.istore_n 1, 1) := by decide +kernel
theorem dX1_shareTooFew_7 : decode cX1_shareTooFew 7 = .ok (.aload_n 0, 1) := by decide +kernel
theorem dX1_shareTooFew_8 : decode cX1_shareTooFew 8 = .ok (.getfield 36, 3) := by decide +kernel
theorem dX1_shareTooFew_11 : decode cX1_shareTooFew 11 = .ok (.iconst 1, 1) := by decide +kernel
theorem dX1_shareTooFew_12 : decode cX1_shareTooFew 12 = .ok (.isub, 1) := by decide +kernel
theorem dX1_shareTooFew_13 : decode cX1_shareTooFew 13 = .ok (.istore_n 2, 1) := by decide +kernel
theorem dX1_shareTooFew_14 : decode cX1_shareTooFew 14 = .ok (.iload_n 2, 1) := by decide +kernel
theorem dX1_shareTooFew_15 : decode cX1_shareTooFew 15 = .ok (.ifCond .lt 34, 3) := by decide +kernel
theorem dX1_shareTooFew_18 : decode cX1_shareTooFew 18 = .ok (.aload_n 0, 1) := by decide +kernel
theorem dX1_shareTooFew_19 : decode cX1_shareTooFew 19 = .ok (.getfield 24, 3) := by decide +kernel
theorem dX1_shareTooFew_22 : decode cX1_shareTooFew 22 = .ok (.iload_n 2, 1) := by decide +kernel
theorem dX1_shareTooFew_23 : decode cX1_shareTooFew 23 = .ok (.iload_n 1, 1) := by decide +kernel
theorem dX1_shareTooFew_24 : decode cX1_shareTooFew 24 = .ok (.aload_n 0, 1) := by decide +kernel
theorem dX1_shareTooFew_25 : decode cX1_shareTooFew 25 = .ok (.iload_n 2, 1) := by decide +kernel
theorem dX1_shareTooFew_26 : decode cX1_shareTooFew 26 = .ok (.iconst 0, 1) := by decide +kernel
theorem dX1_shareTooFew_27 : decode cX1_shareTooFew 27 = .ok (.invokevirtual 93, 3) := by decide +kernel
theorem dX1_shareTooFew_30 : decode cX1_shareTooFew 30 = .ok (.invokestatic 75, 3) := by decide +kernel
theorem dX1_shareTooFew_33 : decode cX1_shareTooFew 33 = .ok (.iastore, 1) := by decide +kernel
theorem dX1_shareTooFew_34 : decode cX1_shareTooFew 34 = .ok (.iload_n 1, 1) := by decide +kernel
theorem dX1_shareTooFew_35 : decode cX1_shareTooFew 35 = .ok (.aload_n 0, 1) := by decide +kernel
theorem dX1_shareTooFew_36 : decode cX1_shareTooFew 36 = .ok (.getfield 24, 3) := by decide +kernel
theorem dX1_shareTooFew_39 : decode cX1_shareTooFew 39 = .ok (.iload_n 2, 1) := by decide +kernel
theorem dX1_shareTooFew_40 : decode cX1_shareTooFew 40 = .ok (.iaload, 1) := by decide +kernel
theorem dX1_shareTooFew_41 : decode cX1_shareTooFew 41 = .ok (.isub, 1) := by decide +kernel
theorem dX1_shareTooFew_42 : decode cX1_shareTooFew 42 = .ok (.istore_n 1, 1) := by decide +kernel
theorem dX1_shareTooFew_43 : decode cX1_shareTooFew 43 = .ok (.iinc 2 (-1), 3) := by decide +kernel
theorem dX1_shareTooFew_46 : decode cX1_shareTooFew 46 = .ok (.goto (-32), 3) := by decide +kernel
theorem dX1_shareTooFew_49 : decode cX1_shareTooFew 49 = .ok (.return_, 1) := by decide +kernel
set_option maxRecDepth 20000 in
theorem ggX1_shareEnough_X1_greatestHeight : GoodIn wsX1_shareEnough wsX1_greatestHeight := goodIn_r _ [8, 1, 9, 10, 11, 7, 12, 13, 2, 14, 15, 16, 17, 18, 19, 20, 21, 22, 23, 24, 25, 26, 27, 28, 29, 30, 31, 32, 33, 34, 35, 36, 37, 38] (by decide +kernel) (by decide +kernel)
set_option maxRecDepth 20000 in
theorem gX1_shareEnough_X1_greatestHeight : GoodIn wsX1_shareEnough (wsV RX1 96 RX1 yX1_greatestHeight wsX1_greatestHeight) := goodIn_app (goodIn_of _ (by decide +kernel)) ggX1_shareEnough_X1_greatestHeight
set_option maxRecDepth 20000 in
theorem ggX1_shareEnough_X1_costOf : GoodIn wsX1_shareEnough wsX1_costOf := goodIn_r _ [30, 14, 15, 16, 17, 18, 19, 31, 32, 33, 34, 35, 36, 37, 38] (by decide +kernel) (by decide +kernel)
set_option maxRecDepth 20000 in
theorem gX1_shareEnough_X1_costOf : GoodIn wsX1_shareEnough (wsV RX1 93 RX1 yX1_costOf wsX1_costOf) := goodIn_app (goodIn_of _ (by decide +kernel)) ggX1_shareEnough_X1_costOf
theorem dX1_shareEnough_0 : decode cX1_shareEnough 0 = .ok (.aload_n 0, 1) := by decide +kernel
theorem dX1_shareEnough_1 : decode cX1_shareEnough 1 = .ok (.invokevirtual 96, 3) := by decide +kernel
theorem dX1_shareEnough_4 : decode cX1_shareEnough 4 = .ok (.istore_n 1, 1) := by decide +kernel
theorem dX1_shareEnough_5 : decode cX1_shareEnough 5 = .ok (.aload_n 0, 1) := by decide +kernel
theorem dX1_shareEnough_6 : decode cX1_shareEnough 6 = .ok (.getfield 18, 3) := by decide +kernel
theorem dX1_shareEnough_9 : decode cX1_shareEnough 9 = .ok (.iconst 0, 1) := by decide +kernel
theorem dX1_shareEnough_10 : decode cX1_shareEnough 10 = .ok (.iaload, 1) := by decide +kernel
theorem dX1_shareEnough_11 : decode cX1_shareEnough 11 = .ok (.istore_n 2, 1) := by decide +kernel
theorem dX1_shareEnough_12 : decode cX1_shareEnough 12 = .ok (.iconst 0, 1) := by decide +kernel
theorem dX1_shareEnough_13 : decode cX1_shareEnough 13 = .ok (.istore_n 3, 1) := by decide +kernel
theorem dX1_shareEnough_14 : decode cX1_shareEnough 14 = .ok (.iload_n 3, 1) := by decide +kernel
theorem dX1_shareEnough_15 : decode cX1_shareEnough 15 = .ok (.aload_n 0, 1) := by decide +kernel
theorem dX1_shareEnough_16 : decode cX1_shareEnough 16 = .ok (.getfield 36, 3) := by decide +kernel
theorem dX1_shareEnough_19 : decode cX1_shareEnough 19 = .ok (.if_icmp .ge 44, 3) := by decide +kernel
theorem dX1_shareEnough_22 : decode cX1_shareEnough 22 = .ok (.aload_n 0, 1) := by decide +kernel
theorem dX1_shareEnough_23 : decode cX1_shareEnough 23 = .ok (.getfield 24, 3) := by decide +kernel
theorem dX1_shareEnough_26 : decode cX1_shareEnough 26 = .ok (.iload_n 3, 1) := by decide +kernel
theorem dX1_shareEnough_27 : decode cX1_shareEnough 27 = .ok (.iload_n 3, 1) := by decide +kernel
theorem dX1_shareEnough_28 : decode cX1_shareEnough 28 = .ok (.aload_n 0, 1) := by decide +kernel
theorem dX1_shareEnough_29 : decode cX1_shareEnough 29 = .ok (.getfield 36, 3) := by decide +kernel
theorem dX1_shareEnough_32 : decode cX1_shareEnough 32 = .ok (.iconst 1, 1) := by decide +kernel
theorem dX1_shareEnough_33 : decode cX1_shareEnough 33 = .ok (.isub, 1) := by decide +kernel
theorem dX1_shareEnough_34 : decode cX1_shareEnough 34 = .ok (.if_icmp .ne 7, 3) := by decide +kernel
theorem dX1_shareEnough_37 : decode cX1_shareEnough 37 = .ok (.iload_n 2, 1) := by decide +kernel
theorem dX1_shareEnough_38 : decode cX1_shareEnough 38 = .ok (.goto 9, 3) := by decide +kernel
theorem dX1_shareEnough_41 : decode cX1_shareEnough 41 = .ok (.aload_n 0, 1) := by decide +kernel
theorem dX1_shareEnough_42 : decode cX1_shareEnough 42 = .ok (.iload_n 3, 1) := by decide +kernel
theorem dX1_shareEnough_43 : decode cX1_shareEnough 43 = .ok (.iload_n 1, 1) := by decide +kernel
theorem dX1_shareEnough_44 : decode cX1_shareEnough 44 = .ok (.invokevirtual 93, 3) := by decide +kernel
theorem dX1_shareEnough_47 : decode cX1_shareEnough 47 = .ok (.iastore, 1) := by decide +kernel
theorem dX1_shareEnough_48 : decode cX1_shareEnough 48 = .ok (.iload_n 2, 1) := by decide +kernel
theorem dX1_shareEnough_49 : decode cX1_shareEnough 49 = .ok (.aload_n 0, 1) := by decide +kernel
theorem dX1_shareEnough_50 : decode cX1_shareEnough 50 = .ok (.getfield 24, 3) := by decide +kernel
theorem dX1_shareEnough_53 : decode cX1_shareEnough 53 = .ok (.iload_n 3, 1) := by decide +kernel
theorem dX1_shareEnough_54 : decode cX1_shareEnough 54 = .ok (.iaload, 1) := by decide +kernel
theorem dX1_shareEnough_55 : decode cX1_shareEnough 55 = .ok (.isub, 1) := by decide +kernel
theorem dX1_shareEnough_56 : decode cX1_shareEnough 56 = .ok (.istore_n 2, 1) := by decide +kernel
theorem dX1_shareEnough_57 : decode cX1_shareEnough 57 = .ok (.iinc 3 1, 3) := by decide +kernel
theorem dX1_shareEnough_60 : decode cX1_shareEnough 60 = .ok (.goto (-46), 3) := by decide +kernel
theorem dX1_shareEnough_63 : decode cX1_shareEnough 63 = .ok (.return_, 1) := by decide +kernel
set_option maxRecDepth 20000 in
theorem ggX1_greatestHeight_X1_leastAfterDay : GoodIn wsX1_greatestHeight wsX1_leastAfterDay := goodIn_r _ [6, 7, 8, 9, 10, 11, 12, 13, 14, 15, 16, 17, 26, 27, 28, 29, 30, 31, 32, 33] (by decide +kernel) (by decide +kernel)
set_option maxRecDepth 20000 in
theorem gX1_greatestHeight_X1_leastAfterDay : GoodIn wsX1_greatestHeight (wsV RX1 99 RX1 yX1_leastAfterDay wsX1_leastAfterDay) := goodIn_app (goodIn_of _ (by decide +kernel)) ggX1_greatestHeight_X1_leastAfterDay
set_option maxRecDepth 20000 in
theorem ggX1_greatestHeight_X1_costOfAll : GoodIn wsX1_greatestHeight wsX1_costOfAll := goodIn_r _ [21, 8, 22, 23, 24, 5, 25, 9, 10, 11, 12, 13, 14, 26, 27, 28, 29, 30, 31, 32, 33] (by decide +kernel) (by decide +kernel)
set_option maxRecDepth 20000 in
theorem gX1_greatestHeight_X1_costOfAll : GoodIn wsX1_greatestHeight (wsV RX1 84 RX1 yX1_costOfAll wsX1_costOfAll) := goodIn_app (goodIn_of _ (by decide +kernel)) ggX1_greatestHeight_X1_costOfAll
theorem dX1_greatestHeight_0 : decode cX1_greatestHeight 0 = .ok (.aload_n 0, 1) := by decide +kernel
theorem dX1_greatestHeight_1 : decode cX1_greatestHeight 1 = .ok (.invokevirtual 99, 3) := by decide +kernel
theorem dX1_greatestHeight_4 : decode cX1_greatestHeight 4 = .ok (.istore_n 1, 1) := by decide +kernel
theorem dX1_greatestHeight_5 : decode cX1_greatestHeight 5 = .ok (.iconst 0, 1) := by decide +kernel
theorem dX1_greatestHeight_6 : decode cX1_greatestHeight 6 = .ok (.istore_n 2, 1) := by decide +kernel
theorem dX1_greatestHeight_7 : decode cX1_greatestHeight 7 = .ok (.iload_n 2, 1) := by decide +kernel
theorem dX1_greatestHeight_8 : decode cX1_greatestHeight 8 = .ok (.bipush 12, 2) := by decide +kernel
theorem dX1_greatestHeight_10 : decode cX1_greatestHeight 10 = .ok (.if_icmp .ge 28, 3) := by decide +kernel
theorem dX1_greatestHeight_13 : decode cX1_greatestHeight 13 = .ok (.aload_n 0, 1) := by decide +kernel
theorem dX1_greatestHeight_14 : decode cX1_greatestHeight 14 = .ok (.iload_n 1, 1) := by decide +kernel
theorem dX1_greatestHeight_15 : decode cX1_greatestHeight 15 = .ok (.iconst 1, 1) := by decide +kernel
theorem dX1_greatestHeight_16 : decode cX1_greatestHeight 16 = .ok (.iadd, 1) := by decide +kernel
theorem dX1_greatestHeight_17 : decode cX1_greatestHeight 17 = .ok (.invokevirtual 84, 3) := by decide +kernel
theorem dX1_greatestHeight_20 : decode cX1_greatestHeight 20 = .ok (.aload_n 0, 1) := by decide +kernel
theorem dX1_greatestHeight_21 : decode cX1_greatestHeight 21 = .ok (.getfield 18, 3) := by decide +kernel
theorem dX1_greatestHeight_24 : decode cX1_greatestHeight 24 = .ok (.iconst 0, 1) := by decide +kernel
theorem dX1_greatestHeight_25 : decode cX1_greatestHeight 25 = .ok (.iaload, 1) := by decide +kernel
theorem dX1_greatestHeight_26 : decode cX1_greatestHeight 26 = .ok (.if_icmp .gt 12, 3) := by decide +kernel
theorem dX1_greatestHeight_29 : decode cX1_greatestHeight 29 = .ok (.iinc 1 1, 3) := by decide +kernel
theorem dX1_greatestHeight_32 : decode cX1_greatestHeight 32 = .ok (.iinc 2 1, 3) := by decide +kernel
theorem dX1_greatestHeight_35 : decode cX1_greatestHeight 35 = .ok (.goto (-28), 3) := by decide +kernel
theorem dX1_greatestHeight_38 : decode cX1_greatestHeight 38 = .ok (.iload_n 1, 1) := by decide +kernel
theorem dX1_greatestHeight_39 : decode cX1_greatestHeight 39 = .ok (.ireturn, 1) := by decide +kernel
theorem dX1_leastAfterDay_0 : decode cX1_leastAfterDay 0 = .ok (.ldc 102, 2) := by decide +kernel
theorem dX1_leastAfterDay_2 : decode cX1_leastAfterDay 2 = .ok (.istore_n 1, 1) := by decide +kernel
theorem dX1_leastAfterDay_3 : decode cX1_leastAfterDay 3 = .ok (.iconst 0, 1) := by decide +kernel
theorem dX1_leastAfterDay_4 : decode cX1_leastAfterDay 4 = .ok (.istore_n 2, 1) := by decide +kernel
theorem dX1_leastAfterDay_5 : decode cX1_leastAfterDay 5 = .ok (.iload_n 2, 1) := by decide +kernel
theorem dX1_leastAfterDay_6 : decode cX1_leastAfterDay 6 = .ok (.aload_n 0, 1) := by decide +kernel
theorem dX1_leastAfterDay_7 : decode cX1_leastAfterDay 7 = .ok (.getfield 36, 3) := by decide +kernel
theorem dX1_leastAfterDay_10 : decode cX1_leastAfterDay 10 = .ok (.if_icmp .ge 31, 3) := by decide +kernel
theorem dX1_leastAfterDay_13 : decode cX1_leastAfterDay 13 = .ok (.iload_n 1, 1) := by decide +kernel
theorem dX1_leastAfterDay_14 : decode cX1_leastAfterDay 14 = .ok (.iconst 0, 1) := by decide +kernel
theorem dX1_leastAfterDay_15 : decode cX1_leastAfterDay 15 = .ok (.aload_n 0, 1) := by decide +kernel
theorem dX1_leastAfterDay_16 : decode cX1_leastAfterDay 16 = .ok (.getfield 9, 3) := by decide +kernel
theorem dX1_leastAfterDay_19 : decode cX1_leastAfterDay 19 = .ok (.iload_n 2, 1) := by decide +kernel
theorem dX1_leastAfterDay_20 : decode cX1_leastAfterDay 20 = .ok (.iaload, 1) := by decide +kernel
theorem dX1_leastAfterDay_21 : decode cX1_leastAfterDay 21 = .ok (.aload_n 0, 1) := by decide +kernel
theorem dX1_leastAfterDay_22 : decode cX1_leastAfterDay 22 = .ok (.getfield 15, 3) := by decide +kernel
theorem dX1_leastAfterDay_25 : decode cX1_leastAfterDay 25 = .ok (.iload_n 2, 1) := by decide +kernel
theorem dX1_leastAfterDay_26 : decode cX1_leastAfterDay 26 = .ok (.iaload, 1) := by decide +kernel
theorem dX1_leastAfterDay_27 : decode cX1_leastAfterDay 27 = .ok (.iadd, 1) := by decide +kernel
theorem dX1_leastAfterDay_28 : decode cX1_leastAfterDay 28 = .ok (.invokestatic 81, 3) := by decide +kernel
theorem dX1_leastAfterDay_31 : decode cX1_leastAfterDay 31 = .ok (.invokestatic 75, 3) := by decide +kernel
theorem dX1_leastAfterDay_34 : decode cX1_leastAfterDay 34 = .ok (.istore_n 1, 1) := by decide +kernel
theorem dX1_leastAfterDay_35 : decode cX1_leastAfterDay 35 = .ok (.iinc 2 1, 3) := by decide +kernel
theorem dX1_leastAfterDay_38 : decode cX1_leastAfterDay 38 = .ok (.goto (-33), 3) := by decide +kernel
theorem dX1_leastAfterDay_41 : decode cX1_leastAfterDay 41 = .ok (.iload_n 1, 1) := by decide +kernel
theorem dX1_leastAfterDay_42 : decode cX1_leastAfterDay 42 = .ok (.ireturn, 1) := by decide +kernel
set_option maxRecDepth 20000 in
theorem ggX1_trySongs_X1_songsOf : GoodIn wsX1_trySongs wsX1_songsOf := goodIn_r _ [6, 7, 45, 46, 47, 48, 49, 50, 51, 52] (by decide +kernel) (by decide +kernel)
set_option maxRecDepth 20000 in
theorem gX1_trySongs_X1_songsOf : GoodIn wsX1_trySongs (wsV RX1 103 RX1 yX1_songsOf wsX1_songsOf) := goodIn_app (goodIn_of _ (by decide +kernel)) ggX1_trySongs_X1_songsOf
set_option maxRecDepth 20000 in
theorem ggX1_trySongs_X1_spell : GoodIn wsX1_trySongs wsX1_spell := goodIn_r _ [11, 12, 13, 14, 15, 7, 16, 45, 46, 47, 48, 49, 50, 51, 52] (by decide +kernel) (by decide +kernel)
set_option maxRecDepth 20000 in
theorem gX1_trySongs_X1_spell : GoodIn wsX1_trySongs (wsV RX1 106 RX1 yX1_spell wsX1_spell) := goodIn_app (goodIn_of _ (by decide +kernel)) ggX1_trySongs_X1_spell
set_option maxRecDepth 20000 in
theorem ggX1_trySongs_X1_lackBySong : GoodIn wsX1_trySongs wsX1_lackBySong := goodIn_r _ [20, 21, 22, 23, 24, 5, 25, 26, 27, 28, 29, 30, 31, 32, 33, 34, 35, 36, 16, 37, 38, 39, 40, 7, 41, 42, 43, 14, 44, 45, 46, 47, 48, 49, 50, 51, 52] (by decide +kernel) (by decide +kernel)
set_option maxRecDepth 20000 in
theorem gX1_trySongs_X1_lackBySong : GoodIn wsX1_trySongs (wsV RX1 110 RX1 yX1_lackBySong wsX1_lackBySong) := goodIn_app (goodIn_of _ (by decide +kernel)) ggX1_trySongs_X1_lackBySong
theorem dX1_trySongs_0 : decode cX1_trySongs 0 = .ok (.aload_n 0, 1) := by decide +kernel
theorem dX1_trySongs_1 : decode cX1_trySongs 1 = .ok (.iload_n 1, 1) := by decide +kernel
theorem dX1_trySongs_2 : decode cX1_trySongs 2 = .ok (.invokevirtual 103, 3) := by decide +kernel
theorem dX1_trySongs_5 : decode cX1_trySongs 5 = .ok (.istore_n 3, 1) := by decide +kernel
theorem dX1_trySongs_6 : decode cX1_trySongs 6 = .ok (.ldc 102, 2) := by decide +kernel
theorem dX1_trySongs_8 : decode cX1_trySongs 8 = .ok (.istore 4, 2) := by decide +kernel
theorem dX1_trySongs_10 : decode cX1_trySongs 10 = .ok (.iconst 0, 1) := by decide +kernel
theorem dX1_trySongs_11 : decode cX1_trySongs 11 = .ok (.istore 5, 2) := by decide +kernel
theorem dX1_trySongs_13 : decode cX1_trySongs 13 = .ok (.iconst 0, 1) := by decide +kernel
theorem dX1_trySongs_14 : decode cX1_trySongs 14 = .ok (.istore 6, 2) := by decide +kernel
theorem dX1_trySongs_16 : decode cX1_trySongs 16 = .ok (.iload 6, 2) := by decide +kernel
theorem dX1_trySongs_18 : decode cX1_trySongs 18 = .ok (.iload_n 3, 1) := by decide +kernel
theorem dX1_trySongs_19 : decode cX1_trySongs 19 = .ok (.if_icmp .ge 46, 3) := by decide +kernel
theorem dX1_trySongs_22 : decode cX1_trySongs 22 = .ok (.iload 4, 2) := by decide +kernel
theorem dX1_trySongs_24 : decode cX1_trySongs 24 = .ok (.ifCond .le 41, 3) := by decide +kernel
theorem dX1_trySongs_27 : decode cX1_trySongs 27 = .ok (.aload_n 0, 1) := by decide +kernel
theorem dX1_trySongs_28 : decode cX1_trySongs 28 = .ok (.iload 6, 2) := by decide +kernel
theorem dX1_trySongs_30 : decode cX1_trySongs 30 = .ok (.iload_n 1, 1) := by decide +kernel
theorem dX1_trySongs_31 : decode cX1_trySongs 31 = .ok (.invokevirtual 106, 3) := by decide +kernel
theorem dX1_trySongs_34 : decode cX1_trySongs 34 = .ok (.aload_n 0, 1) := by decide +kernel
theorem dX1_trySongs_35 : decode cX1_trySongs 35 = .ok (.iload_n 1, 1) := by decide +kernel
theorem dX1_trySongs_36 : decode cX1_trySongs 36 = .ok (.iload_n 2, 1) := by decide +kernel
theorem dX1_trySongs_37 : decode cX1_trySongs 37 = .ok (.iload 4, 2) := by decide +kernel
theorem dX1_trySongs_39 : decode cX1_trySongs 39 = .ok (.invokevirtual 110, 3) := by decide +kernel
theorem dX1_trySongs_42 : decode cX1_trySongs 42 = .ok (.istore 7, 2) := by decide +kernel
theorem dX1_trySongs_44 : decode cX1_trySongs 44 = .ok (.iload 7, 2) := by decide +kernel
theorem dX1_trySongs_46 : decode cX1_trySongs 46 = .ok (.iload 4, 2) := by decide +kernel
theorem dX1_trySongs_48 : decode cX1_trySongs 48 = .ok (.if_icmp .ge 11, 3) := by decide +kernel
theorem dX1_trySongs_51 : decode cX1_trySongs 51 = .ok (.iload 7, 2) := by decide +kernel
theorem dX1_trySongs_53 : decode cX1_trySongs 53 = .ok (.istore 4, 2) := by decide +kernel
theorem dX1_trySongs_55 : decode cX1_trySongs 55 = .ok (.iload 6, 2) := by decide +kernel
theorem dX1_trySongs_57 : decode cX1_trySongs 57 = .ok (.istore 5, 2) := by decide +kernel
theorem dX1_trySongs_59 : decode cX1_trySongs 59 = .ok (.iinc 6 1, 3) := by decide +kernel
theorem dX1_trySongs_62 : decode cX1_trySongs 62 = .ok (.goto (-46), 3) := by decide +kernel
theorem dX1_trySongs_65 : decode cX1_trySongs 65 = .ok (.aload_n 0, 1) := by decide +kernel
theorem dX1_trySongs_66 : decode cX1_trySongs 66 = .ok (.iload 5, 2) := by decide +kernel
theorem dX1_trySongs_68 : decode cX1_trySongs 68 = .ok (.iload_n 1, 1) := by decide +kernel
theorem dX1_trySongs_69 : decode cX1_trySongs 69 = .ok (.invokevirtual 106, 3) := by decide +kernel
theorem dX1_trySongs_72 : decode cX1_trySongs 72 = .ok (.iload 4, 2) := by decide +kernel
theorem dX1_trySongs_74 : decode cX1_trySongs 74 = .ok (.ireturn, 1) := by decide +kernel
theorem dX1_songsOf_0 : decode cX1_songsOf 0 = .ok (.iconst 1, 1) := by decide +kernel
theorem dX1_songsOf_1 : decode cX1_songsOf 1 = .ok (.istore_n 2, 1) := by decide +kernel
theorem dX1_songsOf_2 : decode cX1_songsOf 2 = .ok (.iconst 0, 1) := by decide +kernel
theorem dX1_songsOf_3 : decode cX1_songsOf 3 = .ok (.istore_n 3, 1) := by decide +kernel
theorem dX1_songsOf_4 : decode cX1_songsOf 4 = .ok (.iload_n 3, 1) := by decide +kernel
theorem dX1_songsOf_5 : decode cX1_songsOf 5 = .ok (.iload_n 1, 1) := by decide +kernel
theorem dX1_songsOf_6 : decode cX1_songsOf 6 = .ok (.if_icmp .ge 16, 3) := by decide +kernel
theorem dX1_songsOf_9 : decode cX1_songsOf 9 = .ok (.iload_n 2, 1) := by decide +kernel
theorem dX1_songsOf_10 : decode cX1_songsOf 10 = .ok (.aload_n 0, 1) := by decide +kernel
theorem dX1_songsOf_11 : decode cX1_songsOf 11 = .ok (.getfield 36, 3) := by decide +kernel
theorem dX1_songsOf_14 : decode cX1_songsOf 14 = .ok (.imul, 1) := by decide +kernel
theorem dX1_songsOf_15 : decode cX1_songsOf 15 = .ok (.istore_n 2, 1) := by decide +kernel
theorem dX1_songsOf_16 : decode cX1_songsOf 16 = .ok (.iinc 3 1, 3) := by decide +kernel
theorem dX1_songsOf_19 : decode cX1_songsOf 19 = .ok (.goto (-15), 3) := by decide +kernel
theorem dX1_songsOf_22 : decode cX1_songsOf 22 = .ok (.iload_n 2, 1) := by decide +kernel
theorem dX1_songsOf_23 : decode cX1_songsOf 23 = .ok (.ireturn, 1) := by decide +kernel
theorem dX1_spell_0 : decode cX1_spell 0 = .ok (.iload_n 1, 1) := by decide +kernel
theorem dX1_spell_1 : decode cX1_spell 1 = .ok (.istore_n 3, 1) := by decide +kernel
theorem dX1_spell_2 : decode cX1_spell 2 = .ok (.iload_n 2, 1) := by decide +kernel
theorem dX1_spell_3 : decode cX1_spell 3 = .ok (.iconst 3, 1) := by decide +kernel
theorem dX1_spell_4 : decode cX1_spell 4 = .ok (.invokestatic 75, 3) := by decide +kernel
theorem dX1_spell_7 : decode cX1_spell 7 = .ok (.iconst 1, 1) := by decide +kernel
theorem dX1_spell_8 : decode cX1_spell 8 = .ok (.isub, 1) := by decide +kernel
theorem dX1_spell_9 : decode cX1_spell 9 = .ok (.istore 4, 2) := by decide +kernel
theorem dX1_spell_11 : decode cX1_spell 11 = .ok (.iload 4, 2) := by decide +kernel
theorem dX1_spell_13 : decode cX1_spell 13 = .ok (.ifCond .lt 36, 3) := by decide +kernel
theorem dX1_spell_16 : decode cX1_spell 16 = .ok (.aload_n 0, 1) := by decide +kernel
theorem dX1_spell_17 : decode cX1_spell 17 = .ok (.getfield 36, 3) := by decide +kernel
theorem dX1_spell_20 : decode cX1_spell 20 = .ok (.ifCond .le 29, 3) := by decide +kernel
theorem dX1_spell_23 : decode cX1_spell 23 = .ok (.aload_n 0, 1) := by decide +kernel
theorem dX1_spell_24 : decode cX1_spell 24 = .ok (.getfield 27, 3) := by decide +kernel
theorem dX1_spell_27 : decode cX1_spell 27 = .ok (.iload 4, 2) := by decide +kernel
theorem dX1_spell_29 : decode cX1_spell 29 = .ok (.iload_n 3, 1) := by decide +kernel
theorem dX1_spell_30 : decode cX1_spell 30 = .ok (.aload_n 0, 1) := by decide +kernel
theorem dX1_spell_31 : decode cX1_spell 31 = .ok (.getfield 36, 3) := by decide +kernel
theorem dX1_spell_34 : decode cX1_spell 34 = .ok (.irem, 1) := by decide +kernel
theorem dX1_spell_35 : decode cX1_spell 35 = .ok (.iastore, 1) := by decide +kernel
theorem dX1_spell_36 : decode cX1_spell 36 = .ok (.iload_n 3, 1) := by decide +kernel
theorem dX1_spell_37 : decode cX1_spell 37 = .ok (.aload_n 0, 1) := by decide +kernel
theorem dX1_spell_38 : decode cX1_spell 38 = .ok (.getfield 36, 3) := by decide +kernel
theorem dX1_spell_41 : decode cX1_spell 41 = .ok (.idiv, 1) := by decide +kernel
theorem dX1_spell_42 : decode cX1_spell 42 = .ok (.istore_n 3, 1) := by decide +kernel
theorem dX1_spell_43 : decode cX1_spell 43 = .ok (.iinc 4 (-1), 3) := by decide +kernel
theorem dX1_spell_46 : decode cX1_spell 46 = .ok (.goto (-35), 3) := by decide +kernel
theorem dX1_spell_49 : decode cX1_spell 49 = .ok (.return_, 1) := by decide +kernel
set_option maxRecDepth 20000 in
theorem ggX1_lackBySong_X1_startDays : GoodIn wsX1_lackBySong wsX1_startDays := goodIn_r _ [6, 7, 8, 9, 10, 11, 12, 13, 29, 30, 31, 32, 33, 34, 35, 36] (by decide +kernel) (by decide +kernel)
set_option maxRecDepth 20000 in
theorem gX1_lackBySong_X1_startDays : GoodIn wsX1_lackBySong (wsV RX1 56 RX1 yX1_startDays wsX1_startDays) := goodIn_app (goodIn_of _ (by decide +kernel)) ggX1_lackBySong_X1_startDays
set_option maxRecDepth 20000 in
theorem ggX1_lackBySong_X1_singDay : GoodIn wsX1_lackBySong wsX1_singDay := goodIn_r _ [17, 8, 18, 29, 30, 31, 32, 33, 34, 35, 36] (by decide +kernel) (by decide +kernel)
set_option maxRecDepth 20000 in
theorem gX1_lackBySong_X1_singDay : GoodIn wsX1_lackBySong (wsV RX1 114 RX1 yX1_singDay wsX1_singDay) := goodIn_app (goodIn_of _ (by decide +kernel)) ggX1_lackBySong_X1_singDay
set_option maxRecDepth 20000 in
theorem ggX1_lackBySong_X1_passDay : GoodIn wsX1_lackBySong wsX1_passDay := goodIn_r _ [22, 23, 8, 24, 25, 26, 27, 28, 29, 30, 31, 32, 33, 34, 35, 36] (by decide +kernel) (by decide +kernel)
set_option maxRecDepth 20000 in
theorem gX1_lackBySong_X1_passDay : GoodIn wsX1_lackBySong (wsV RX1 71 RX1 yX1_passDay wsX1_passDay) := goodIn_app (goodIn_of _ (by decide +kernel)) ggX1_lackBySong_X1_passDay
theorem dX1_lackBySong_0 : decode cX1_lackBySong 0 = .ok (.aload_n 0, 1) := by decide +kernel
theorem dX1_lackBySong_1 : decode cX1_lackBySong 1 = .ok (.invokevirtual 56, 3) := by decide +kernel
theorem dX1_lackBySong_4 : decode cX1_lackBySong 4 = .ok (.iconst 0, 1) := by decide +kernel
theorem dX1_lackBySong_5 : decode cX1_lackBySong 5 = .ok (.istore 4, 2) := by decide +kernel
theorem dX1_lackBySong_7 : decode cX1_lackBySong 7 = .ok (.iconst 0, 1) := by decide +kernel
theorem dX1_lackBySong_8 : decode cX1_lackBySong 8 = .ok (.istore 5, 2) := by decide +kernel
theorem dX1_lackBySong_10 : decode cX1_lackBySong 10 = .ok (.iconst 0, 1) := by decide +kernel
theorem dX1_lackBySong_11 : decode cX1_lackBySong 11 = .ok (.istore 6, 2) := by decide +kernel
theorem dX1_lackBySong_13 : decode cX1_lackBySong 13 = .ok (.iload 6, 2) := by decide +kernel
theorem dX1_lackBySong_15 : decode cX1_lackBySong 15 = .ok (.iload_n 2, 1) := by decide +kernel
theorem dX1_lackBySong_16 : decode cX1_lackBySong 16 = .ok (.if_icmp .ge 57, 3) := by decide +kernel
theorem dX1_lackBySong_19 : decode cX1_lackBySong 19 = .ok (.iload 6, 2) := by decide +kernel
theorem dX1_lackBySong_21 : decode cX1_lackBySong 21 = .ok (.bipush 40, 2) := by decide +kernel
theorem dX1_lackBySong_23 : decode cX1_lackBySong 23 = .ok (.if_icmp .ge 50, 3) := by decide +kernel
theorem dX1_lackBySong_26 : decode cX1_lackBySong 26 = .ok (.iload 5, 2) := by decide +kernel
theorem dX1_lackBySong_28 : decode cX1_lackBySong 28 = .ok (.iload_n 3, 1) := by decide +kernel
theorem dX1_lackBySong_29 : decode cX1_lackBySong 29 = .ok (.if_icmp .ge 44, 3) := by decide +kernel
theorem dX1_lackBySong_32 : decode cX1_lackBySong 32 = .ok (.aload_n 0, 1) := by decide +kernel
theorem dX1_lackBySong_33 : decode cX1_lackBySong 33 = .ok (.iload_n 1, 1) := by decide +kernel
theorem dX1_lackBySong_34 : decode cX1_lackBySong 34 = .ok (.iload 4, 2) := by decide +kernel
theorem dX1_lackBySong_36 : decode cX1_lackBySong 36 = .ok (.aload_n 0, 1) := by decide +kernel
theorem dX1_lackBySong_37 : decode cX1_lackBySong 37 = .ok (.getfield 18, 3) := by decide +kernel
theorem dX1_lackBySong_40 : decode cX1_lackBySong 40 = .ok (.iload 6, 2) := by decide +kernel
theorem dX1_lackBySong_42 : decode cX1_lackBySong 42 = .ok (.iaload, 1) := by decide +kernel
theorem dX1_lackBySong_43 : decode cX1_lackBySong 43 = .ok (.invokevirtual 114, 3) := by decide +kernel
theorem dX1_lackBySong_46 : decode cX1_lackBySong 46 = .ok (.iload 4, 2) := by decide +kernel
theorem dX1_lackBySong_48 : decode cX1_lackBySong 48 = .ok (.aload_n 0, 1) := by decide +kernel
theorem dX1_lackBySong_49 : decode cX1_lackBySong 49 = .ok (.getfield 18, 3) := by decide +kernel
theorem dX1_lackBySong_52 : decode cX1_lackBySong 52 = .ok (.iload 6, 2) := by decide +kernel
theorem dX1_lackBySong_54 : decode cX1_lackBySong 54 = .ok (.iaload, 1) := by decide +kernel
theorem dX1_lackBySong_55 : decode cX1_lackBySong 55 = .ok (.iadd, 1) := by decide +kernel
theorem dX1_lackBySong_56 : decode cX1_lackBySong 56 = .ok (.istore 4, 2) := by decide +kernel
theorem dX1_lackBySong_58 : decode cX1_lackBySong 58 = .ok (.iload 5, 2) := by decide +kernel
theorem dX1_lackBySong_60 : decode cX1_lackBySong 60 = .ok (.aload_n 0, 1) := by decide +kernel
theorem dX1_lackBySong_61 : decode cX1_lackBySong 61 = .ok (.invokevirtual 71, 3) := by decide +kernel
theorem dX1_lackBySong_64 : decode cX1_lackBySong 64 = .ok (.iadd, 1) := by decide +kernel
theorem dX1_lackBySong_65 : decode cX1_lackBySong 65 = .ok (.istore 5, 2) := by decide +kernel
theorem dX1_lackBySong_67 : decode cX1_lackBySong 67 = .ok (.iinc 6 1, 3) := by decide +kernel
theorem dX1_lackBySong_70 : decode cX1_lackBySong 70 = .ok (.goto (-57), 3) := by decide +kernel
theorem dX1_lackBySong_73 : decode cX1_lackBySong 73 = .ok (.iload 5, 2) := by decide +kernel
theorem dX1_lackBySong_75 : decode cX1_lackBySong 75 = .ok (.ireturn, 1) := by decide +kernel
theorem dX1_singDay_0 : decode cX1_singDay 0 = .ok (.iconst 0, 1) := by decide +kernel
theorem dX1_singDay_1 : decode cX1_singDay 1 = .ok (.istore 4, 2) := by decide +kernel
theorem dX1_singDay_3 : decode cX1_singDay 3 = .ok (.iload 4, 2) := by decide +kernel
theorem dX1_singDay_5 : decode cX1_singDay 5 = .ok (.iload_n 1, 1) := by decide +kernel
theorem dX1_singDay_6 : decode cX1_singDay 6 = .ok (.if_icmp .ge 43, 3) := by decide +kernel
theorem dX1_singDay_9 : decode cX1_singDay 9 = .ok (.iload_n 1, 1) := by decide +kernel
theorem dX1_singDay_10 : decode cX1_singDay 10 = .ok (.iconst 3, 1) := by decide +kernel
theorem dX1_singDay_11 : decode cX1_singDay 11 = .ok (.if_icmp .gt 38, 3) := by decide +kernel
theorem dX1_singDay_14 : decode cX1_singDay 14 = .ok (.aload_n 0, 1) := by decide +kernel
theorem dX1_singDay_15 : decode cX1_singDay 15 = .ok (.getfield 21, 3) := by decide +kernel
theorem dX1_singDay_18 : decode cX1_singDay 18 = .ok (.aload_n 0, 1) := by decide +kernel
theorem dX1_singDay_19 : decode cX1_singDay 19 = .ok (.getfield 27, 3) := by decide +kernel
theorem dX1_singDay_22 : decode cX1_singDay 22 = .ok (.iload_n 2, 1) := by decide +kernel
theorem dX1_singDay_23 : decode cX1_singDay 23 = .ok (.iload 4, 2) := by decide +kernel
theorem dX1_singDay_25 : decode cX1_singDay 25 = .ok (.iadd, 1) := by decide +kernel
theorem dX1_singDay_26 : decode cX1_singDay 26 = .ok (.iload_n 1, 1) := by decide +kernel
theorem dX1_singDay_27 : decode cX1_singDay 27 = .ok (.irem, 1) := by decide +kernel
theorem dX1_singDay_28 : decode cX1_singDay 28 = .ok (.iaload, 1) := by decide +kernel
theorem dX1_singDay_29 : decode cX1_singDay 29 = .ok (.dup2, 1) := by decide +kernel
theorem dX1_singDay_30 : decode cX1_singDay 30 = .ok (.iaload, 1) := by decide +kernel
theorem dX1_singDay_31 : decode cX1_singDay 31 = .ok (.iload_n 3, 1) := by decide +kernel
theorem dX1_singDay_32 : decode cX1_singDay 32 = .ok (.iload 4, 2) := by decide +kernel
theorem dX1_singDay_34 : decode cX1_singDay 34 = .ok (.isub, 1) := by decide +kernel
theorem dX1_singDay_35 : decode cX1_singDay 35 = .ok (.iload_n 1, 1) := by decide +kernel
theorem dX1_singDay_36 : decode cX1_singDay 36 = .ok (.iadd, 1) := by decide +kernel
theorem dX1_singDay_37 : decode cX1_singDay 37 = .ok (.iconst 1, 1) := by decide +kernel
theorem dX1_singDay_38 : decode cX1_singDay 38 = .ok (.isub, 1) := by decide +kernel
theorem dX1_singDay_39 : decode cX1_singDay 39 = .ok (.iload_n 1, 1) := by decide +kernel
theorem dX1_singDay_40 : decode cX1_singDay 40 = .ok (.idiv, 1) := by decide +kernel
theorem dX1_singDay_41 : decode cX1_singDay 41 = .ok (.iadd, 1) := by decide +kernel
theorem dX1_singDay_42 : decode cX1_singDay 42 = .ok (.iastore, 1) := by decide +kernel
theorem dX1_singDay_43 : decode cX1_singDay 43 = .ok (.iinc 4 1, 3) := by decide +kernel
theorem dX1_singDay_46 : decode cX1_singDay 46 = .ok (.goto (-43), 3) := by decide +kernel
theorem dX1_singDay_49 : decode cX1_singDay 49 = .ok (.return_, 1) := by decide +kernel
set_option maxRecDepth 20000 in
theorem ggX2_init_X5_init : GoodIn wsX2_init wsX5_init := goodIn_r _ [3, 4, 5, 6, 7, 8, 9] (by decide +kernel) (by decide +kernel)
set_option maxRecDepth 20000 in
theorem gX2_init_X5_init_n1 : GoodIn wsX2_init (wsX5_init) := ggX2_init_X5_init
theorem dX2_init_0 : decode cX2_init 0 = .ok (.aload_n 0, 1) := by decide +kernel
theorem dX2_init_1 : decode cX2_init 1 = .ok (.invokespecial 1, 3) := by decide +kernel
theorem dX2_init_4 : decode cX2_init 4 = .ok (.return_, 1) := by decide +kernel
set_option maxRecDepth 20000 in
theorem ggX2_marked_X4_leave : GoodIn wsX2_marked wsX4_leave := goodIn_r _ [6, 7, 32, 33, 34, 35, 36, 37] (by decide +kernel) (by decide +kernel)
set_option maxRecDepth 20000 in
theorem gX2_marked_X4_leave_u7X2 : GoodIn wsX2_marked (va_wsU RX2 7 RX2 "DropDealers$Kind" ⟨"DropDealers$High", "leave", "(I)V"⟩ yX4_leave wsX4_leave) := goodIn_app (goodIn_of _ (by decide +kernel)) ggX2_marked_X4_leave
set_option maxRecDepth 20000 in
theorem ggX2_marked_X5_marked : GoodIn wsX2_marked wsX5_marked := goodIn_r _ [13, 14, 15, 16, 4, 5, 6, 7, 17, 18, 19, 20, 21, 22, 23, 24, 25, 26, 27, 28, 29, 30, 31, 38, 39, 40, 41, 42, 43, 44, 45, 46, 47, 32, 33, 34, 35, 36, 37, 48, 49, 50, 51, 52, 53, 54, 55, 56] (by decide +kernel) (by decide +kernel)
set_option maxRecDepth 20000 in
theorem gX2_marked_X5_marked_s13 : GoodIn wsX2_marked (va_wsSU RX2 13 yX5_marked wsX5_marked) := goodIn_app (goodIn_of _ (by decide +kernel)) ggX2_marked_X5_marked
theorem dX2_marked_0 : decode cX2_marked 0 = .ok (.aload_n 0, 1) := by decide +kernel
theorem dX2_marked_1 : decode cX2_marked 1 = .ok (.sipush 10000, 3) := by decide +kernel
theorem dX2_marked_4 : decode cX2_marked 4 = .ok (.invokevirtual 7, 3) := by decide +kernel
theorem dX2_marked_7 : decode cX2_marked 7 = .ok (.aload_n 0, 1) := by decide +kernel
theorem dX2_marked_8 : decode cX2_marked 8 = .ok (.aload_n 1, 1) := by decide +kernel
theorem dX2_marked_9 : decode cX2_marked 9 = .ok (.aload_n 2, 1) := by decide +kernel
theorem dX2_marked_10 : decode cX2_marked 10 = .ok (.iload_n 3, 1) := by decide +kernel
theorem dX2_marked_11 : decode cX2_marked 11 = .ok (.invokespecial 13, 3) := by decide +kernel
theorem dX2_marked_14 : decode cX2_marked 14 = .ok (.iload_n 3, 1) := by decide +kernel
theorem dX2_marked_15 : decode cX2_marked 15 = .ok (.iadd, 1) := by decide +kernel
theorem dX2_marked_16 : decode cX2_marked 16 = .ok (.ireturn, 1) := by decide +kernel
theorem dX3_init_0 : decode cX3_init 0 = .ok (.aload_n 0, 1) := by decide +kernel
theorem dX3_init_1 : decode cX3_init 1 = .ok (.invokespecial 3, 3) := by decide +kernel
theorem dX3_init_4 : decode cX3_init 4 = .ok (.aload_n 0, 1) := by decide +kernel
theorem dX3_init_5 : decode cX3_init 5 = .ok (.bipush 6, 2) := by decide +kernel
theorem dX3_init_7 : decode cX3_init 7 = .ok (.newarray .int, 2) := by decide +kernel
theorem dX3_init_9 : decode cX3_init 9 = .ok (.putfield 9, 3) := by decide +kernel
theorem dX3_init_12 : decode cX3_init 12 = .ok (.aload_n 0, 1) := by decide +kernel
theorem dX3_init_13 : decode cX3_init 13 = .ok (.bipush 6, 2) := by decide +kernel
theorem dX3_init_15 : decode cX3_init 15 = .ok (.newarray .int, 2) := by decide +kernel
theorem dX3_init_17 : decode cX3_init 17 = .ok (.putfield 15, 3) := by decide +kernel
theorem dX3_init_20 : decode cX3_init 20 = .ok (.aload_n 0, 1) := by decide +kernel
theorem dX3_init_21 : decode cX3_init 21 = .ok (.bipush 6, 2) := by decide +kernel
theorem dX3_init_23 : decode cX3_init 23 = .ok (.newarray .int, 2) := by decide +kernel
theorem dX3_init_25 : decode cX3_init 25 = .ok (.putfield 18, 3) := by decide +kernel
theorem dX3_init_28 : decode cX3_init 28 = .ok (.aload_n 0, 1) := by decide +kernel
theorem dX3_init_29 : decode cX3_init 29 = .ok (.bipush 20, 2) := by decide +kernel
theorem dX3_init_31 : decode cX3_init 31 = .ok (.newarray .int, 2) := by decide +kernel
theorem dX3_init_33 : decode cX3_init 33 = .ok (.putfield 21, 3) := by decide +kernel
theorem dX3_init_36 : decode cX3_init 36 = .ok (.aload_n 0, 1) := by decide +kernel
theorem dX3_init_37 : decode cX3_init 37 = .ok (.bipush 8, 2) := by decide +kernel
theorem dX3_init_39 : decode cX3_init 39 = .ok (.newarray .int, 2) := by decide +kernel
theorem dX3_init_41 : decode cX3_init 41 = .ok (.putfield 24, 3) := by decide +kernel
theorem dX3_init_44 : decode cX3_init 44 = .ok (.aload_n 0, 1) := by decide +kernel
theorem dX3_init_45 : decode cX3_init 45 = .ok (.iconst 0, 1) := by decide +kernel
theorem dX3_init_46 : decode cX3_init 46 = .ok (.putfield 27, 3) := by decide +kernel
theorem dX3_init_49 : decode cX3_init 49 = .ok (.aload_n 0, 1) := by decide +kernel
theorem dX3_init_50 : decode cX3_init 50 = .ok (.iconst 1, 1) := by decide +kernel
theorem dX3_init_51 : decode cX3_init 51 = .ok (.putfield 31, 3) := by decide +kernel
theorem dX3_init_54 : decode cX3_init 54 = .ok (.return_, 1) := by decide +kernel
theorem dX3_untell_0 : decode cX3_untell 0 = .ok (.aload_n 0, 1) := by decide +kernel
theorem dX3_untell_1 : decode cX3_untell 1 = .ok (.iconst 0, 1) := by decide +kernel
theorem dX3_untell_2 : decode cX3_untell 2 = .ok (.putfield 34, 3) := by decide +kernel
theorem dX3_untell_5 : decode cX3_untell 5 = .ok (.aload_n 0, 1) := by decide +kernel
theorem dX3_untell_6 : decode cX3_untell 6 = .ok (.iconst 0, 1) := by decide +kernel
theorem dX3_untell_7 : decode cX3_untell 7 = .ok (.putfield 37, 3) := by decide +kernel
theorem dX3_untell_10 : decode cX3_untell 10 = .ok (.aload_n 0, 1) := by decide +kernel
theorem dX3_untell_11 : decode cX3_untell 11 = .ok (.iconst 0, 1) := by decide +kernel
theorem dX3_untell_12 : decode cX3_untell 12 = .ok (.putfield 27, 3) := by decide +kernel
theorem dX3_untell_15 : decode cX3_untell 15 = .ok (.aload_n 0, 1) := by decide +kernel
theorem dX3_untell_16 : decode cX3_untell 16 = .ok (.iconst 0, 1) := by decide +kernel
theorem dX3_untell_17 : decode cX3_untell 17 = .ok (.putfield 40, 3) := by decide +kernel
theorem dX3_untell_20 : decode cX3_untell 20 = .ok (.aload_n 0, 1) := by decide +kernel
theorem dX3_untell_21 : decode cX3_untell 21 = .ok (.getfield 24, 3) := by decide +kernel
theorem dX3_untell_24 : decode cX3_untell 24 = .ok (.iconst 0, 1) := by decide +kernel
theorem dX3_untell_25 : decode cX3_untell 25 = .ok (.iconst 0, 1) := by decide +kernel
theorem dX3_untell_26 : decode cX3_untell 26 = .ok (.iastore, 1) := by decide +kernel
theorem dX3_untell_27 : decode cX3_untell 27 = .ok (.aload_n 0, 1) := by decide +kernel
theorem dX3_untell_28 : decode cX3_untell 28 = .ok (.iconst 1, 1) := by decide +kernel
theorem dX3_untell_29 : decode cX3_untell 29 = .ok (.putfield 31, 3) := by decide +kernel
theorem dX3_untell_32 : decode cX3_untell 32 = .ok (.return_, 1) := by decide +kernel
theorem dX3_become_0 : decode cX3_become 0 = .ok (.aload_n 1, 1) := by decide +kernel
theorem dX3_become_1 : decode cX3_become 1 = .ok (.getfield 9, 3) := by decide +kernel
theorem dX3_become_4 : decode cX3_become 4 = .ok (.iconst 0, 1) := by decide +kernel
theorem dX3_become_5 : decode cX3_become 5 = .ok (.aload_n 0, 1) := by decide +kernel
theorem dX3_become_6 : decode cX3_become 6 = .ok (.getfield 9, 3) := by decide +kernel
theorem dX3_become_9 : decode cX3_become 9 = .ok (.iconst 0, 1) := by decide +kernel
theorem dX3_become_10 : decode cX3_become 10 = .ok (.bipush 6, 2) := by decide +kernel
theorem dX3_become_12 : decode cX3_become 12 = .ok (.invokestatic 43, 3) := by decide +kernel
theorem dX3_become_15 : decode cX3_become 15 = .ok (.aload_n 1, 1) := by decide +kernel
theorem dX3_become_16 : decode cX3_become 16 = .ok (.getfield 15, 3) := by decide +kernel
theorem dX3_become_19 : decode cX3_become 19 = .ok (.iconst 0, 1) := by decide +kernel
theorem dX3_become_20 : decode cX3_become 20 = .ok (.aload_n 0, 1) := by decide +kernel
theorem dX3_become_21 : decode cX3_become 21 = .ok (.getfield 15, 3) := by decide +kernel
theorem dX3_become_24 : decode cX3_become 24 = .ok (.iconst 0, 1) := by decide +kernel
theorem dX3_become_25 : decode cX3_become 25 = .ok (.bipush 6, 2) := by decide +kernel
theorem dX3_become_27 : decode cX3_become 27 = .ok (.invokestatic 43, 3) := by decide +kernel
theorem dX3_become_30 : decode cX3_become 30 = .ok (.aload_n 1, 1) := by decide +kernel
theorem dX3_become_31 : decode cX3_become 31 = .ok (.getfield 18, 3) := by decide +kernel
theorem dX3_become_34 : decode cX3_become 34 = .ok (.iconst 0, 1) := by decide +kernel
theorem dX3_become_35 : decode cX3_become 35 = .ok (.aload_n 0, 1) := by decide +kernel
theorem dX3_become_36 : decode cX3_become 36 = .ok (.getfield 18, 3) := by decide +kernel
theorem dX3_become_39 : decode cX3_become 39 = .ok (.iconst 0, 1) := by decide +kernel
theorem dX3_become_40 : decode cX3_become 40 = .ok (.bipush 6, 2) := by decide +kernel
theorem dX3_become_42 : decode cX3_become 42 = .ok (.invokestatic 43, 3) := by decide +kernel
theorem dX3_become_45 : decode cX3_become 45 = .ok (.aload_n 1, 1) := by decide +kernel
theorem dX3_become_46 : decode cX3_become 46 = .ok (.getfield 21, 3) := by decide +kernel
theorem dX3_become_49 : decode cX3_become 49 = .ok (.iconst 0, 1) := by decide +kernel
theorem dX3_become_50 : decode cX3_become 50 = .ok (.aload_n 0, 1) := by decide +kernel
theorem dX3_become_51 : decode cX3_become 51 = .ok (.getfield 21, 3) := by decide +kernel
theorem dX3_become_54 : decode cX3_become 54 = .ok (.iconst 0, 1) := by decide +kernel
theorem dX3_become_55 : decode cX3_become 55 = .ok (.bipush 20, 2) := by decide +kernel
theorem dX3_become_57 : decode cX3_become 57 = .ok (.invokestatic 43, 3) := by decide +kernel
theorem dX3_become_60 : decode cX3_become 60 = .ok (.aload_n 1, 1) := by decide +kernel
theorem dX3_become_61 : decode cX3_become 61 = .ok (.getfield 24, 3) := by decide +kernel
theorem dX3_become_64 : decode cX3_become 64 = .ok (.iconst 0, 1) := by decide +kernel
theorem dX3_become_65 : decode cX3_become 65 = .ok (.aload_n 0, 1) := by decide +kernel
theorem dX3_become_66 : decode cX3_become 66 = .ok (.getfield 24, 3) := by decide +kernel
theorem dX3_become_69 : decode cX3_become 69 = .ok (.iconst 0, 1) := by decide +kernel
theorem dX3_become_70 : decode cX3_become 70 = .ok (.bipush 8, 2) := by decide +kernel
theorem dX3_become_72 : decode cX3_become 72 = .ok (.invokestatic 43, 3) := by decide +kernel
theorem dX3_become_75 : decode cX3_become 75 = .ok (.aload_n 0, 1) := by decide +kernel
theorem dX3_become_76 : decode cX3_become 76 = .ok (.aload_n 1, 1) := by decide +kernel
theorem dX3_become_77 : decode cX3_become 77 = .ok (.getfield 34, 3) := by decide +kernel
theorem dX3_become_80 : decode cX3_become 80 = .ok (.putfield 34, 3) := by decide +kernel
theorem dX3_become_83 : decode cX3_become 83 = .ok (.aload_n 0, 1) := by decide +kernel
theorem dX3_become_84 : decode cX3_become 84 = .ok (.aload_n 1, 1) := by decide +kernel
theorem dX3_become_85 : decode cX3_become 85 = .ok (.getfield 37, 3) := by decide +kernel
theorem dX3_become_88 : decode cX3_become 88 = .ok (.putfield 37, 3) := by decide +kernel
theorem dX3_become_91 : decode cX3_become 91 = .ok (.aload_n 0, 1) := by decide +kernel
theorem dX3_become_92 : decode cX3_become 92 = .ok (.aload_n 1, 1) := by decide +kernel
theorem dX3_become_93 : decode cX3_become 93 = .ok (.getfield 27, 3) := by decide +kernel
theorem dX3_become_96 : decode cX3_become 96 = .ok (.putfield 27, 3) := by decide +kernel
theorem dX3_become_99 : decode cX3_become 99 = .ok (.aload_n 0, 1) := by decide +kernel
theorem dX3_become_100 : decode cX3_become 100 = .ok (.aload_n 1, 1) := by decide +kernel
theorem dX3_become_101 : decode cX3_become 101 = .ok (.getfield 40, 3) := by decide +kernel
theorem dX3_become_104 : decode cX3_become 104 = .ok (.putfield 40, 3) := by decide +kernel
theorem dX3_become_107 : decode cX3_become 107 = .ok (.aload_n 0, 1) := by decide +kernel
theorem dX3_become_108 : decode cX3_become 108 = .ok (.aload_n 1, 1) := by decide +kernel
theorem dX3_become_109 : decode cX3_become 109 = .ok (.getfield 31, 3) := by decide +kernel
theorem dX3_become_112 : decode cX3_become 112 = .ok (.putfield 31, 3) := by decide +kernel
theorem dX3_become_115 : decode cX3_become 115 = .ok (.return_, 1) := by decide +kernel
theorem dX3_addTerrace_0 : decode cX3_addTerrace 0 = .ok (.aload_n 0, 1) := by decide +kernel
theorem dX3_addTerrace_1 : decode cX3_addTerrace 1 = .ok (.getfield 34, 3) := by decide +kernel
theorem dX3_addTerrace_4 : decode cX3_addTerrace 4 = .ok (.bipush 6, 2) := by decide +kernel
theorem dX3_addTerrace_6 : decode cX3_addTerrace 6 = .ok (.if_icmp .ge 43, 3) := by decide +kernel
theorem dX3_addTerrace_9 : decode cX3_addTerrace 9 = .ok (.aload_n 0, 1) := by decide +kernel
theorem dX3_addTerrace_10 : decode cX3_addTerrace 10 = .ok (.getfield 9, 3) := by decide +kernel
theorem dX3_addTerrace_13 : decode cX3_addTerrace 13 = .ok (.aload_n 0, 1) := by decide +kernel
theorem dX3_addTerrace_14 : decode cX3_addTerrace 14 = .ok (.getfield 34, 3) := by decide +kernel
theorem dX3_addTerrace_17 : decode cX3_addTerrace 17 = .ok (.iload_n 1, 1) := by decide +kernel
theorem dX3_addTerrace_18 : decode cX3_addTerrace 18 = .ok (.iastore, 1) := by decide +kernel
theorem dX3_addTerrace_19 : decode cX3_addTerrace 19 = .ok (.aload_n 0, 1) := by decide +kernel
theorem dX3_addTerrace_20 : decode cX3_addTerrace 20 = .ok (.getfield 15, 3) := by decide +kernel
theorem dX3_addTerrace_23 : decode cX3_addTerrace 23 = .ok (.aload_n 0, 1) := by decide +kernel
theorem dX3_addTerrace_24 : decode cX3_addTerrace 24 = .ok (.getfield 34, 3) := by decide +kernel
theorem dX3_addTerrace_27 : decode cX3_addTerrace 27 = .ok (.iload_n 2, 1) := by decide +kernel
theorem dX3_addTerrace_28 : decode cX3_addTerrace 28 = .ok (.iastore, 1) := by decide +kernel
theorem dX3_addTerrace_29 : decode cX3_addTerrace 29 = .ok (.aload_n 0, 1) := by decide +kernel
theorem dX3_addTerrace_30 : decode cX3_addTerrace 30 = .ok (.getfield 18, 3) := by decide +kernel
theorem dX3_addTerrace_33 : decode cX3_addTerrace 33 = .ok (.aload_n 0, 1) := by decide +kernel
theorem dX3_addTerrace_34 : decode cX3_addTerrace 34 = .ok (.getfield 34, 3) := by decide +kernel
theorem dX3_addTerrace_37 : decode cX3_addTerrace 37 = .ok (.iload_n 3, 1) := by decide +kernel
theorem dX3_addTerrace_38 : decode cX3_addTerrace 38 = .ok (.iastore, 1) := by decide +kernel
theorem dX3_addTerrace_39 : decode cX3_addTerrace 39 = .ok (.aload_n 0, 1) := by decide +kernel
theorem dX3_addTerrace_40 : decode cX3_addTerrace 40 = .ok (.dup, 1) := by decide +kernel
theorem dX3_addTerrace_41 : decode cX3_addTerrace 41 = .ok (.getfield 34, 3) := by decide +kernel
theorem dX3_addTerrace_44 : decode cX3_addTerrace 44 = .ok (.iconst 1, 1) := by decide +kernel
theorem dX3_addTerrace_45 : decode cX3_addTerrace 45 = .ok (.iadd, 1) := by decide +kernel
theorem dX3_addTerrace_46 : decode cX3_addTerrace 46 = .ok (.putfield 34, 3) := by decide +kernel
theorem dX3_addTerrace_49 : decode cX3_addTerrace 49 = .ok (.return_, 1) := by decide +kernel
theorem dX3_addDays_0 : decode cX3_addDays 0 = .ok (.iconst 0, 1) := by decide +kernel
theorem dX3_addDays_1 : decode cX3_addDays 1 = .ok (.istore_n 3, 1) := by decide +kernel
theorem dX3_addDays_2 : decode cX3_addDays 2 = .ok (.iload_n 3, 1) := by decide +kernel
theorem dX3_addDays_3 : decode cX3_addDays 3 = .ok (.iload_n 2, 1) := by decide +kernel
theorem dX3_addDays_4 : decode cX3_addDays 4 = .ok (.if_icmp .ge 38, 3) := by decide +kernel
theorem dX3_addDays_7 : decode cX3_addDays 7 = .ok (.aload_n 0, 1) := by decide +kernel
theorem dX3_addDays_8 : decode cX3_addDays 8 = .ok (.getfield 37, 3) := by decide +kernel
theorem dX3_addDays_11 : decode cX3_addDays 11 = .ok (.bipush 20, 2) := by decide +kernel
theorem dX3_addDays_13 : decode cX3_addDays 13 = .ok (.if_icmp .ge 29, 3) := by decide +kernel
theorem dX3_addDays_16 : decode cX3_addDays 16 = .ok (.aload_n 0, 1) := by decide +kernel
theorem dX3_addDays_17 : decode cX3_addDays 17 = .ok (.getfield 21, 3) := by decide +kernel
theorem dX3_addDays_20 : decode cX3_addDays 20 = .ok (.aload_n 0, 1) := by decide +kernel
theorem dX3_addDays_21 : decode cX3_addDays 21 = .ok (.getfield 37, 3) := by decide +kernel
theorem dX3_addDays_24 : decode cX3_addDays 24 = .ok (.iload_n 1, 1) := by decide +kernel
theorem dX3_addDays_25 : decode cX3_addDays 25 = .ok (.iastore, 1) := by decide +kernel
theorem dX3_addDays_26 : decode cX3_addDays 26 = .ok (.aload_n 0, 1) := by decide +kernel
theorem dX3_addDays_27 : decode cX3_addDays 27 = .ok (.dup, 1) := by decide +kernel
theorem dX3_addDays_28 : decode cX3_addDays 28 = .ok (.getfield 37, 3) := by decide +kernel
theorem dX3_addDays_31 : decode cX3_addDays 31 = .ok (.iconst 1, 1) := by decide +kernel
theorem dX3_addDays_32 : decode cX3_addDays 32 = .ok (.iadd, 1) := by decide +kernel
theorem dX3_addDays_33 : decode cX3_addDays 33 = .ok (.putfield 37, 3) := by decide +kernel
theorem dX3_addDays_36 : decode cX3_addDays 36 = .ok (.iinc 3 1, 3) := by decide +kernel
theorem dX3_addDays_39 : decode cX3_addDays 39 = .ok (.goto (-37), 3) := by decide +kernel
theorem dX3_addDays_42 : decode cX3_addDays 42 = .ok (.return_, 1) := by decide +kernel
theorem dX3_sing_0 : decode cX3_sing 0 = .ok (.iload_n 1, 1) := by decide +kernel
theorem dX3_sing_1 : decode cX3_sing 1 = .ok (.ifCond .lt 23, 3) := by decide +kernel
theorem dX3_sing_4 : decode cX3_sing 4 = .ok (.iload_n 1, 1) := by decide +kernel
theorem dX3_sing_5 : decode cX3_sing 5 = .ok (.bipush 8, 2) := by decide +kernel
theorem dX3_sing_7 : decode cX3_sing 7 = .ok (.if_icmp .ge 17, 3) := by decide +kernel
theorem dX3_sing_10 : decode cX3_sing 10 = .ok (.aload_n 0, 1) := by decide +kernel
theorem dX3_sing_11 : decode cX3_sing 11 = .ok (.getfield 24, 3) := by decide +kernel
theorem dX3_sing_14 : decode cX3_sing 14 = .ok (.iload_n 1, 1) := by decide +kernel
theorem dX3_sing_15 : decode cX3_sing 15 = .ok (.iload_n 2, 1) := by decide +kernel
theorem dX3_sing_16 : decode cX3_sing 16 = .ok (.iastore, 1) := by decide +kernel
theorem dX3_sing_17 : decode cX3_sing 17 = .ok (.aload_n 0, 1) := by decide +kernel
theorem dX3_sing_18 : decode cX3_sing 18 = .ok (.iload_n 1, 1) := by decide +kernel
theorem dX3_sing_19 : decode cX3_sing 19 = .ok (.iconst 1, 1) := by decide +kernel
theorem dX3_sing_20 : decode cX3_sing 20 = .ok (.iadd, 1) := by decide +kernel
theorem dX3_sing_21 : decode cX3_sing 21 = .ok (.putfield 31, 3) := by decide +kernel
theorem dX3_sing_24 : decode cX3_sing 24 = .ok (.return_, 1) := by decide +kernel
theorem dX3_has_0 : decode cX3_has 0 = .ok (.iload_n 1, 1) := by decide +kernel
theorem dX3_has_1 : decode cX3_has 1 = .ok (.ifCond .lt 15, 3) := by decide +kernel
theorem dX3_has_4 : decode cX3_has 4 = .ok (.iload_n 1, 1) := by decide +kernel
theorem dX3_has_5 : decode cX3_has 5 = .ok (.aload_n 0, 1) := by decide +kernel
theorem dX3_has_6 : decode cX3_has 6 = .ok (.getfield 34, 3) := by decide +kernel
theorem dX3_has_9 : decode cX3_has 9 = .ok (.if_icmp .ge 7, 3) := by decide +kernel
theorem dX3_has_12 : decode cX3_has 12 = .ok (.iconst 1, 1) := by decide +kernel
theorem dX3_has_13 : decode cX3_has 13 = .ok (.goto 4, 3) := by decide +kernel
theorem dX3_has_16 : decode cX3_has 16 = .ok (.iconst 0, 1) := by decide +kernel
theorem dX3_has_17 : decode cX3_has 17 = .ok (.ireturn, 1) := by decide +kernel
theorem dX3_allBits_0 : decode cX3_allBits 0 = .ok (.iconst 1, 1) := by decide +kernel
theorem dX3_allBits_1 : decode cX3_allBits 1 = .ok (.aload_n 0, 1) := by decide +kernel
theorem dX3_allBits_2 : decode cX3_allBits 2 = .ok (.getfield 34, 3) := by decide +kernel
theorem dX3_allBits_5 : decode cX3_allBits 5 = .ok (.ishl, 1) := by decide +kernel
theorem dX3_allBits_6 : decode cX3_allBits 6 = .ok (.iconst 1, 1) := by decide +kernel
theorem dX3_allBits_7 : decode cX3_allBits 7 = .ok (.isub, 1) := by decide +kernel
theorem dX3_allBits_8 : decode cX3_allBits 8 = .ok (.ireturn, 1) := by decide +kernel
theorem dX3_dropsOn_0 : decode cX3_dropsOn 0 = .ok (.iload_n 1, 1) := by decide +kernel
theorem dX3_dropsOn_1 : decode cX3_dropsOn 1 = .ok (.ifCond .lt 20, 3) := by decide +kernel
theorem dX3_dropsOn_4 : decode cX3_dropsOn 4 = .ok (.iload_n 1, 1) := by decide +kernel
theorem dX3_dropsOn_5 : decode cX3_dropsOn 5 = .ok (.aload_n 0, 1) := by decide +kernel
theorem dX3_dropsOn_6 : decode cX3_dropsOn 6 = .ok (.getfield 37, 3) := by decide +kernel
theorem dX3_dropsOn_9 : decode cX3_dropsOn 9 = .ok (.if_icmp .ge 12, 3) := by decide +kernel
theorem dX3_dropsOn_12 : decode cX3_dropsOn 12 = .ok (.aload_n 0, 1) := by decide +kernel
theorem dX3_dropsOn_13 : decode cX3_dropsOn 13 = .ok (.getfield 21, 3) := by decide +kernel
theorem dX3_dropsOn_16 : decode cX3_dropsOn 16 = .ok (.iload_n 1, 1) := by decide +kernel
theorem dX3_dropsOn_17 : decode cX3_dropsOn 17 = .ok (.iaload, 1) := by decide +kernel
theorem dX3_dropsOn_18 : decode cX3_dropsOn 18 = .ok (.goto 4, 3) := by decide +kernel
theorem dX3_dropsOn_21 : decode cX3_dropsOn 21 = .ok (.iconst 0, 1) := by decide +kernel
theorem dX3_dropsOn_22 : decode cX3_dropsOn 22 = .ok (.ireturn, 1) := by decide +kernel
theorem dX3_sung_0 : decode cX3_sung 0 = .ok (.iload_n 1, 1) := by decide +kernel
theorem dX3_sung_1 : decode cX3_sung 1 = .ok (.ifCond .lt 24, 3) := by decide +kernel
theorem dX3_sung_4 : decode cX3_sung 4 = .ok (.aload_n 0, 1) := by decide +kernel
theorem dX3_sung_5 : decode cX3_sung 5 = .ok (.getfield 31, 3) := by decide +kernel
theorem dX3_sung_8 : decode cX3_sung 8 = .ok (.ifCond .le 17, 3) := by decide +kernel
theorem dX3_sung_11 : decode cX3_sung 11 = .ok (.aload_n 0, 1) := by decide +kernel
theorem dX3_sung_12 : decode cX3_sung 12 = .ok (.getfield 24, 3) := by decide +kernel
theorem dX3_sung_15 : decode cX3_sung 15 = .ok (.iload_n 1, 1) := by decide +kernel
theorem dX3_sung_16 : decode cX3_sung 16 = .ok (.aload_n 0, 1) := by decide +kernel
theorem dX3_sung_17 : decode cX3_sung 17 = .ok (.getfield 31, 3) := by decide +kernel
theorem dX3_sung_20 : decode cX3_sung 20 = .ok (.irem, 1) := by decide +kernel
theorem dX3_sung_21 : decode cX3_sung 21 = .ok (.iaload, 1) := by decide +kernel
theorem dX3_sung_22 : decode cX3_sung 22 = .ok (.goto 4, 3) := by decide +kernel
theorem dX3_sung_25 : decode cX3_sung 25 = .ok (.iconst 0, 1) := by decide +kernel
theorem dX3_sung_26 : decode cX3_sung 26 = .ok (.ireturn, 1) := by decide +kernel
theorem dX3_nextTo_0 : decode cX3_nextTo 0 = .ok (.iload_n 1, 1) := by decide +kernel
theorem dX3_nextTo_1 : decode cX3_nextTo 1 = .ok (.iconst 1, 1) := by decide +kernel
theorem dX3_nextTo_2 : decode cX3_nextTo 2 = .ok (.iadd, 1) := by decide +kernel
theorem dX3_nextTo_3 : decode cX3_nextTo 3 = .ok (.aload_n 0, 1) := by decide +kernel
theorem dX3_nextTo_4 : decode cX3_nextTo 4 = .ok (.getfield 34, 3) := by decide +kernel
theorem dX3_nextTo_7 : decode cX3_nextTo 7 = .ok (.if_icmp .ge 9, 3) := by decide +kernel
theorem dX3_nextTo_10 : decode cX3_nextTo 10 = .ok (.iload_n 1, 1) := by decide +kernel
theorem dX3_nextTo_11 : decode cX3_nextTo 11 = .ok (.iconst 1, 1) := by decide +kernel
theorem dX3_nextTo_12 : decode cX3_nextTo 12 = .ok (.iadd, 1) := by decide +kernel
theorem dX3_nextTo_13 : decode cX3_nextTo 13 = .ok (.goto 4, 3) := by decide +kernel
theorem dX3_nextTo_16 : decode cX3_nextTo 16 = .ok (.iconst 0, 1) := by decide +kernel
theorem dX3_nextTo_17 : decode cX3_nextTo 17 = .ok (.ireturn, 1) := by decide +kernel
theorem dX4_init_0 : decode cX4_init 0 = .ok (.aload_n 0, 1) := by decide +kernel
theorem dX4_init_1 : decode cX4_init 1 = .ok (.invokespecial 1, 3) := by decide +kernel
theorem dX4_init_4 : decode cX4_init 4 = .ok (.return_, 1) := by decide +kernel
theorem dX4_leave_0 : decode cX4_leave 0 = .ok (.aload_n 0, 1) := by decide +kernel
theorem dX4_leave_1 : decode cX4_leave 1 = .ok (.dup, 1) := by decide +kernel
theorem dX4_leave_2 : decode cX4_leave 2 = .ok (.getfield 7, 3) := by decide +kernel
theorem dX4_leave_5 : decode cX4_leave 5 = .ok (.iload_n 1, 1) := by decide +kernel
theorem dX4_leave_6 : decode cX4_leave 6 = .ok (.i2l, 1) := by decide +kernel
theorem dX4_leave_7 : decode cX4_leave 7 = .ok (.ladd, 1) := by decide +kernel
theorem dX4_leave_8 : decode cX4_leave 8 = .ok (.putfield 7, 3) := by decide +kernel
theorem dX4_leave_11 : decode cX4_leave 11 = .ok (.return_, 1) := by decide +kernel
theorem dX4_traced_0 : decode cX4_traced 0 = .ok (.aload_n 0, 1) := by decide +kernel
theorem dX4_traced_1 : decode cX4_traced 1 = .ok (.getfield 7, 3) := by decide +kernel
theorem dX4_traced_4 : decode cX4_traced 4 = .ok (.lreturn, 1) := by decide +kernel
set_option maxRecDepth 20000 in
theorem ggX4_marked_X4_leave : GoodIn wsX4_marked wsX4_leave := goodIn_r _ [6, 7, 23, 24, 25, 26, 27, 28] (by decide +kernel) (by decide +kernel)
set_option maxRecDepth 20000 in
theorem gX4_marked_X4_leave_u13X0 : GoodIn wsX4_marked (va_wsU RX4 13 RX0 "DropDealers$Kind" ⟨"DropDealers$Kind", "leave", "(I)V"⟩ yX4_leave wsX4_leave) := goodIn_app (goodIn_of _ (by decide +kernel)) ggX4_marked_X4_leave
set_option maxRecDepth 20000 in
theorem gX4_marked_X4_leave_u13X2 : GoodIn wsX4_marked (va_wsU RX4 13 RX2 "DropDealers$Kind" ⟨"DropDealers$Kind", "leave", "(I)V"⟩ yX4_leave wsX4_leave) := goodIn_app (goodIn_of _ (by decide +kernel)) ggX4_marked_X4_leave
set_option maxRecDepth 20000 in
theorem gX4_marked_X4_leave : GoodIn wsX4_marked (wsV RX4 13 RX4 yX4_leave wsX4_leave) := goodIn_app (goodIn_of _ (by decide +kernel)) ggX4_marked_X4_leave
set_option maxRecDepth 20000 in
theorem gX4_marked_X4_leave_u13X5 : GoodIn wsX4_marked (va_wsU RX4 13 RX5 "DropDealers$Kind" ⟨"DropDealers$Kind", "leave", "(I)V"⟩ yX4_leave wsX4_leave) := goodIn_app (goodIn_of _ (by decide +kernel)) ggX4_marked_X4_leave
set_option maxRecDepth 20000 in
theorem gX4_marked_X4_leave_u13X6 : GoodIn wsX4_marked (va_wsU RX4 13 RX6 "DropDealers$Kind" ⟨"DropDealers$Kind", "leave", "(I)V"⟩ yX4_leave wsX4_leave) := goodIn_app (goodIn_of _ (by decide +kernel)) ggX4_marked_X4_leave
set_option maxRecDepth 20000 in
theorem gX4_marked_X4_leave_u13X8 : GoodIn wsX4_marked (va_wsU RX4 13 RX8 "DropDealers$Kind" ⟨"DropDealers$Kind", "leave", "(I)V"⟩ yX4_leave wsX4_leave) := goodIn_app (goodIn_of _ (by decide +kernel)) ggX4_marked_X4_leave
theorem dX4_marked_0 : decode cX4_marked 0 = .ok (.aload_n 0, 1) := by decide +kernel
theorem dX4_marked_1 : decode cX4_marked 1 = .ok (.iconst 1, 1) := by decide +kernel
theorem dX4_marked_2 : decode cX4_marked 2 = .ok (.invokevirtual 13, 3) := by decide +kernel
theorem dX4_marked_5 : decode cX4_marked 5 = .ok (.aload_n 2, 1) := by decide +kernel
theorem dX4_marked_6 : decode cX4_marked 6 = .ok (.getfield 17, 3) := by decide +kernel
theorem dX4_marked_9 : decode cX4_marked 9 = .ok (.iload_n 3, 1) := by decide +kernel
theorem dX4_marked_10 : decode cX4_marked 10 = .ok (.iaload, 1) := by decide +kernel
theorem dX4_marked_11 : decode cX4_marked 11 = .ok (.ireturn, 1) := by decide +kernel
set_option maxRecDepth 20000 in
theorem ggX5_init_X4_init : GoodIn wsX5_init wsX4_init := goodIn_r _ [3, 4, 5, 6] (by decide +kernel) (by decide +kernel)
set_option maxRecDepth 20000 in
theorem gX5_init_X4_init_n1 : GoodIn wsX5_init (wsX4_init) := ggX5_init_X4_init
theorem dX5_init_0 : decode cX5_init 0 = .ok (.aload_n 0, 1) := by decide +kernel
theorem dX5_init_1 : decode cX5_init 1 = .ok (.invokespecial 1, 3) := by decide +kernel
theorem dX5_init_4 : decode cX5_init 4 = .ok (.return_, 1) := by decide +kernel
set_option maxRecDepth 20000 in
theorem ggX5_marked_X4_leave : GoodIn wsX5_marked wsX4_leave := goodIn_r _ [6, 7, 33, 34, 35, 36, 37, 38] (by decide +kernel) (by decide +kernel)
set_option maxRecDepth 20000 in
theorem gX5_marked_X4_leave_u7X2 : GoodIn wsX5_marked (va_wsU RX5 7 RX2 "DropDealers$Kind" ⟨"DropDealers$Maize", "leave", "(I)V"⟩ yX4_leave wsX4_leave) := goodIn_app (goodIn_of _ (by decide +kernel)) ggX5_marked_X4_leave
set_option maxRecDepth 20000 in
theorem gX5_marked_X4_leave_u7X5 : GoodIn wsX5_marked (va_wsU RX5 7 RX5 "DropDealers$Kind" ⟨"DropDealers$Maize", "leave", "(I)V"⟩ yX4_leave wsX4_leave) := goodIn_app (goodIn_of _ (by decide +kernel)) ggX5_marked_X4_leave
set_option maxRecDepth 20000 in
theorem ggX5_marked_X4_marked : GoodIn wsX5_marked wsX4_marked := goodIn_r _ [13, 14, 15, 16, 4, 5, 6, 7, 17, 18, 19, 20, 21, 22, 39, 40, 41, 42, 43, 44, 45, 46, 47, 33, 34, 35, 36, 37, 38] (by decide +kernel) (by decide +kernel)
set_option maxRecDepth 20000 in
theorem gX5_marked_X4_marked_s13 : GoodIn wsX5_marked (va_wsSU RX5 13 yX4_marked wsX4_marked) := goodIn_app (goodIn_of _ (by decide +kernel)) ggX5_marked_X4_marked
theorem dX5_marked_0 : decode cX5_marked 0 = .ok (.aload_n 0, 1) := by decide +kernel
theorem dX5_marked_1 : decode cX5_marked 1 = .ok (.bipush 100, 2) := by decide +kernel
theorem dX5_marked_3 : decode cX5_marked 3 = .ok (.invokevirtual 7, 3) := by decide +kernel
theorem dX5_marked_6 : decode cX5_marked 6 = .ok (.aload_n 0, 1) := by decide +kernel
theorem dX5_marked_7 : decode cX5_marked 7 = .ok (.aload_n 1, 1) := by decide +kernel
theorem dX5_marked_8 : decode cX5_marked 8 = .ok (.aload_n 2, 1) := by decide +kernel
theorem dX5_marked_9 : decode cX5_marked 9 = .ok (.iload_n 3, 1) := by decide +kernel
theorem dX5_marked_10 : decode cX5_marked 10 = .ok (.invokespecial 13, 3) := by decide +kernel
theorem dX5_marked_13 : decode cX5_marked 13 = .ok (.aload_n 1, 1) := by decide +kernel
theorem dX5_marked_14 : decode cX5_marked 14 = .ok (.getfield 17, 3) := by decide +kernel
theorem dX5_marked_17 : decode cX5_marked 17 = .ok (.iload_n 3, 1) := by decide +kernel
theorem dX5_marked_18 : decode cX5_marked 18 = .ok (.iaload, 1) := by decide +kernel
theorem dX5_marked_19 : decode cX5_marked 19 = .ok (.iadd, 1) := by decide +kernel
theorem dX5_marked_20 : decode cX5_marked 20 = .ok (.ireturn, 1) := by decide +kernel
set_option maxRecDepth 20000 in
theorem ggX6_init_X4_init : GoodIn wsX6_init wsX4_init := goodIn_r _ [3, 4, 5, 6] (by decide +kernel) (by decide +kernel)
set_option maxRecDepth 20000 in
theorem gX6_init_X4_init_n1 : GoodIn wsX6_init (wsX4_init) := ggX6_init_X4_init
theorem dX6_init_0 : decode cX6_init 0 = .ok (.aload_n 0, 1) := by decide +kernel
theorem dX6_init_1 : decode cX6_init 1 = .ok (.invokespecial 1, 3) := by decide +kernel
theorem dX6_init_4 : decode cX6_init 4 = .ok (.return_, 1) := by decide +kernel
set_option maxRecDepth 20000 in
theorem ggX6_marked_X4_leave : GoodIn wsX6_marked wsX4_leave := goodIn_r _ [7, 8, 32, 33, 34, 35, 36, 37] (by decide +kernel) (by decide +kernel)
set_option maxRecDepth 20000 in
theorem gX6_marked_X4_leave_u8X6 : GoodIn wsX6_marked (va_wsU RX6 8 RX6 "DropDealers$Kind" ⟨"DropDealers$Moss", "leave", "(I)V"⟩ yX4_leave wsX4_leave) := goodIn_app (goodIn_of _ (by decide +kernel)) ggX6_marked_X4_leave
set_option maxRecDepth 20000 in
theorem ggX6_marked_X4_marked : GoodIn wsX6_marked wsX4_marked := goodIn_r _ [13, 14, 15, 16, 5, 6, 7, 8, 17, 18, 19, 20, 21, 22, 23, 24, 25, 26, 27, 28, 29, 30, 31, 32, 33, 34, 35, 36, 37] (by decide +kernel) (by decide +kernel)
set_option maxRecDepth 20000 in
theorem gX6_marked_X4_marked_s14 : GoodIn wsX6_marked (va_wsSU RX6 14 yX4_marked wsX4_marked) := goodIn_app (goodIn_of _ (by decide +kernel)) ggX6_marked_X4_marked
theorem dX6_marked_0 : decode cX6_marked 0 = .ok (.aload_n 0, 1) := by decide +kernel
theorem dX6_marked_1 : decode cX6_marked 1 = .ok (.ldc 7, 2) := by decide +kernel
theorem dX6_marked_3 : decode cX6_marked 3 = .ok (.invokevirtual 8, 3) := by decide +kernel
theorem dX6_marked_6 : decode cX6_marked 6 = .ok (.aload_n 0, 1) := by decide +kernel
theorem dX6_marked_7 : decode cX6_marked 7 = .ok (.aload_n 1, 1) := by decide +kernel
theorem dX6_marked_8 : decode cX6_marked 8 = .ok (.aload_n 2, 1) := by decide +kernel
theorem dX6_marked_9 : decode cX6_marked 9 = .ok (.iload_n 3, 1) := by decide +kernel
theorem dX6_marked_10 : decode cX6_marked 10 = .ok (.invokespecial 14, 3) := by decide +kernel
theorem dX6_marked_13 : decode cX6_marked 13 = .ok (.aload_n 2, 1) := by decide +kernel
theorem dX6_marked_14 : decode cX6_marked 14 = .ok (.getfield 18, 3) := by decide +kernel
theorem dX6_marked_17 : decode cX6_marked 17 = .ok (.iload_n 3, 1) := by decide +kernel
theorem dX6_marked_18 : decode cX6_marked 18 = .ok (.iaload, 1) := by decide +kernel
theorem dX6_marked_19 : decode cX6_marked 19 = .ok (.isub, 1) := by decide +kernel
theorem dX6_marked_20 : decode cX6_marked 20 = .ok (.ireturn, 1) := by decide +kernel
theorem dX7_init_0 : decode cX7_init 0 = .ok (.aload_n 0, 1) := by decide +kernel
theorem dX7_init_1 : decode cX7_init 1 = .ok (.invokespecial 3, 3) := by decide +kernel
theorem dX7_init_4 : decode cX7_init 4 = .ok (.aload_n 0, 1) := by decide +kernel
theorem dX7_init_5 : decode cX7_init 5 = .ok (.bipush 6, 2) := by decide +kernel
theorem dX7_init_7 : decode cX7_init 7 = .ok (.newarray .int, 2) := by decide +kernel
theorem dX7_init_9 : decode cX7_init 9 = .ok (.putfield 9, 3) := by decide +kernel
theorem dX7_init_12 : decode cX7_init 12 = .ok (.aload_n 0, 1) := by decide +kernel
theorem dX7_init_13 : decode cX7_init 13 = .ok (.bipush 6, 2) := by decide +kernel
theorem dX7_init_15 : decode cX7_init 15 = .ok (.newarray .int, 2) := by decide +kernel
theorem dX7_init_17 : decode cX7_init 17 = .ok (.putfield 15, 3) := by decide +kernel
theorem dX7_init_20 : decode cX7_init 20 = .ok (.aload_n 0, 1) := by decide +kernel
theorem dX7_init_21 : decode cX7_init 21 = .ok (.bipush 8, 2) := by decide +kernel
theorem dX7_init_23 : decode cX7_init 23 = .ok (.newarray .int, 2) := by decide +kernel
theorem dX7_init_25 : decode cX7_init 25 = .ok (.putfield 18, 3) := by decide +kernel
theorem dX7_init_28 : decode cX7_init 28 = .ok (.aload_n 0, 1) := by decide +kernel
theorem dX7_init_29 : decode cX7_init 29 = .ok (.bipush 8, 2) := by decide +kernel
theorem dX7_init_31 : decode cX7_init 31 = .ok (.newarray .int, 2) := by decide +kernel
theorem dX7_init_33 : decode cX7_init 33 = .ok (.putfield 21, 3) := by decide +kernel
theorem dX7_init_36 : decode cX7_init 36 = .ok (.aload_n 0, 1) := by decide +kernel
theorem dX7_init_37 : decode cX7_init 37 = .ok (.iconst 1, 1) := by decide +kernel
theorem dX7_init_38 : decode cX7_init 38 = .ok (.putfield 24, 3) := by decide +kernel
theorem dX7_init_41 : decode cX7_init 41 = .ok (.return_, 1) := by decide +kernel
set_option maxRecDepth 20000 in
theorem ggX7_begin_J7_fill_53178 : GoodIn wsX7_begin wsJ7_fill_53178 := goodIn_r _ [14] (by decide +kernel) (by decide +kernel)
set_option maxRecDepth 20000 in
theorem gX7_begin_J7_fill_53178 : GoodIn wsX7_begin (va_wsS RX7 37 yJ7_fill_53178 wsJ7_fill_53178) := goodIn_app (goodIn_of _ (by decide +kernel)) ggX7_begin_J7_fill_53178
set_option maxRecDepth 20000 in
theorem ggX7_begin_X3_dropsOn : GoodIn wsX7_begin wsX3_dropsOn := goodIn_r _ [19, 20, 21, 22, 23, 24, 25, 26, 27, 28, 29, 30, 31] (by decide +kernel) (by decide +kernel)
set_option maxRecDepth 20000 in
theorem gX7_begin_X3_dropsOn : GoodIn wsX7_begin (wsV RX7 46 RX3 yX3_dropsOn wsX3_dropsOn) := goodIn_app (goodIn_of _ (by decide +kernel)) ggX7_begin_X3_dropsOn
theorem dX7_begin_0 : decode cX7_begin 0 = .ok (.aload_n 1, 1) := by decide +kernel
theorem dX7_begin_1 : decode cX7_begin 1 = .ok (.getfield 28, 3) := by decide +kernel
theorem dX7_begin_4 : decode cX7_begin 4 = .ok (.iconst 0, 1) := by decide +kernel
theorem dX7_begin_5 : decode cX7_begin 5 = .ok (.aload_n 0, 1) := by decide +kernel
theorem dX7_begin_6 : decode cX7_begin 6 = .ok (.getfield 9, 3) := by decide +kernel
theorem dX7_begin_9 : decode cX7_begin 9 = .ok (.iconst 0, 1) := by decide +kernel
theorem dX7_begin_10 : decode cX7_begin 10 = .ok (.bipush 6, 2) := by decide +kernel
theorem dX7_begin_12 : decode cX7_begin 12 = .ok (.invokestatic 31, 3) := by decide +kernel
theorem dX7_begin_15 : decode cX7_begin 15 = .ok (.aload_n 0, 1) := by decide +kernel
theorem dX7_begin_16 : decode cX7_begin 16 = .ok (.getfield 15, 3) := by decide +kernel
theorem dX7_begin_19 : decode cX7_begin 19 = .ok (.iconst 0, 1) := by decide +kernel
theorem dX7_begin_20 : decode cX7_begin 20 = .ok (.invokestatic 37, 3) := by decide +kernel
theorem dX7_begin_23 : decode cX7_begin 23 = .ok (.aload_n 0, 1) := by decide +kernel
theorem dX7_begin_24 : decode cX7_begin 24 = .ok (.iconst 0, 1) := by decide +kernel
theorem dX7_begin_25 : decode cX7_begin 25 = .ok (.putfield 43, 3) := by decide +kernel
theorem dX7_begin_28 : decode cX7_begin 28 = .ok (.aload_n 0, 1) := by decide +kernel
theorem dX7_begin_29 : decode cX7_begin 29 = .ok (.aload_n 1, 1) := by decide +kernel
theorem dX7_begin_30 : decode cX7_begin 30 = .ok (.iconst 0, 1) := by decide +kernel
theorem dX7_begin_31 : decode cX7_begin 31 = .ok (.invokevirtual 46, 3) := by decide +kernel
theorem dX7_begin_34 : decode cX7_begin 34 = .ok (.putfield 50, 3) := by decide +kernel
theorem dX7_begin_37 : decode cX7_begin 37 = .ok (.aload_n 0, 1) := by decide +kernel
theorem dX7_begin_38 : decode cX7_begin 38 = .ok (.iconst 0, 1) := by decide +kernel
theorem dX7_begin_39 : decode cX7_begin 39 = .ok (.putfield 53, 3) := by decide +kernel
theorem dX7_begin_42 : decode cX7_begin 42 = .ok (.aload_n 0, 1) := by decide +kernel
theorem dX7_begin_43 : decode cX7_begin 43 = .ok (.iconst 0, 1) := by decide +kernel
theorem dX7_begin_44 : decode cX7_begin 44 = .ok (.putfield 56, 3) := by decide +kernel
theorem dX7_begin_47 : decode cX7_begin 47 = .ok (.return_, 1) := by decide +kernel
theorem dX7_become_0 : decode cX7_become 0 = .ok (.aload_n 1, 1) := by decide +kernel
theorem dX7_become_1 : decode cX7_become 1 = .ok (.getfield 9, 3) := by decide +kernel
theorem dX7_become_4 : decode cX7_become 4 = .ok (.iconst 0, 1) := by decide +kernel
theorem dX7_become_5 : decode cX7_become 5 = .ok (.aload_n 0, 1) := by decide +kernel
theorem dX7_become_6 : decode cX7_become 6 = .ok (.getfield 9, 3) := by decide +kernel
theorem dX7_become_9 : decode cX7_become 9 = .ok (.iconst 0, 1) := by decide +kernel
theorem dX7_become_10 : decode cX7_become 10 = .ok (.bipush 6, 2) := by decide +kernel
theorem dX7_become_12 : decode cX7_become 12 = .ok (.invokestatic 31, 3) := by decide +kernel
theorem dX7_become_15 : decode cX7_become 15 = .ok (.aload_n 1, 1) := by decide +kernel
theorem dX7_become_16 : decode cX7_become 16 = .ok (.getfield 15, 3) := by decide +kernel
theorem dX7_become_19 : decode cX7_become 19 = .ok (.iconst 0, 1) := by decide +kernel
theorem dX7_become_20 : decode cX7_become 20 = .ok (.aload_n 0, 1) := by decide +kernel
theorem dX7_become_21 : decode cX7_become 21 = .ok (.getfield 15, 3) := by decide +kernel
theorem dX7_become_24 : decode cX7_become 24 = .ok (.iconst 0, 1) := by decide +kernel
theorem dX7_become_25 : decode cX7_become 25 = .ok (.bipush 6, 2) := by decide +kernel
theorem dX7_become_27 : decode cX7_become 27 = .ok (.invokestatic 31, 3) := by decide +kernel
theorem dX7_become_30 : decode cX7_become 30 = .ok (.aload_n 1, 1) := by decide +kernel
theorem dX7_become_31 : decode cX7_become 31 = .ok (.getfield 18, 3) := by decide +kernel
theorem dX7_become_34 : decode cX7_become 34 = .ok (.iconst 0, 1) := by decide +kernel
theorem dX7_become_35 : decode cX7_become 35 = .ok (.aload_n 0, 1) := by decide +kernel
theorem dX7_become_36 : decode cX7_become 36 = .ok (.getfield 18, 3) := by decide +kernel
theorem dX7_become_39 : decode cX7_become 39 = .ok (.iconst 0, 1) := by decide +kernel
theorem dX7_become_40 : decode cX7_become 40 = .ok (.bipush 8, 2) := by decide +kernel
theorem dX7_become_42 : decode cX7_become 42 = .ok (.invokestatic 31, 3) := by decide +kernel
theorem dX7_become_45 : decode cX7_become 45 = .ok (.aload_n 1, 1) := by decide +kernel
theorem dX7_become_46 : decode cX7_become 46 = .ok (.getfield 21, 3) := by decide +kernel
theorem dX7_become_49 : decode cX7_become 49 = .ok (.iconst 0, 1) := by decide +kernel
theorem dX7_become_50 : decode cX7_become 50 = .ok (.aload_n 0, 1) := by decide +kernel
theorem dX7_become_51 : decode cX7_become 51 = .ok (.getfield 21, 3) := by decide +kernel
theorem dX7_become_54 : decode cX7_become 54 = .ok (.iconst 0, 1) := by decide +kernel
theorem dX7_become_55 : decode cX7_become 55 = .ok (.bipush 8, 2) := by decide +kernel
theorem dX7_become_57 : decode cX7_become 57 = .ok (.invokestatic 31, 3) := by decide +kernel
theorem dX7_become_60 : decode cX7_become 60 = .ok (.aload_n 0, 1) := by decide +kernel
theorem dX7_become_61 : decode cX7_become 61 = .ok (.aload_n 1, 1) := by decide +kernel
theorem dX7_become_62 : decode cX7_become 62 = .ok (.getfield 43, 3) := by decide +kernel
theorem dX7_become_65 : decode cX7_become 65 = .ok (.putfield 43, 3) := by decide +kernel
theorem dX7_become_68 : decode cX7_become 68 = .ok (.aload_n 0, 1) := by decide +kernel
theorem dX7_become_69 : decode cX7_become 69 = .ok (.aload_n 1, 1) := by decide +kernel
theorem dX7_become_70 : decode cX7_become 70 = .ok (.getfield 50, 3) := by decide +kernel
theorem dX7_become_73 : decode cX7_become 73 = .ok (.putfield 50, 3) := by decide +kernel
theorem dX7_become_76 : decode cX7_become 76 = .ok (.aload_n 0, 1) := by decide +kernel
theorem dX7_become_77 : decode cX7_become 77 = .ok (.aload_n 1, 1) := by decide +kernel
theorem dX7_become_78 : decode cX7_become 78 = .ok (.getfield 53, 3) := by decide +kernel
theorem dX7_become_81 : decode cX7_become 81 = .ok (.putfield 53, 3) := by decide +kernel
theorem dX7_become_84 : decode cX7_become 84 = .ok (.aload_n 0, 1) := by decide +kernel
theorem dX7_become_85 : decode cX7_become 85 = .ok (.aload_n 1, 1) := by decide +kernel
theorem dX7_become_86 : decode cX7_become 86 = .ok (.getfield 24, 3) := by decide +kernel
theorem dX7_become_89 : decode cX7_become 89 = .ok (.putfield 24, 3) := by decide +kernel
theorem dX7_become_92 : decode cX7_become 92 = .ok (.aload_n 0, 1) := by decide +kernel
theorem dX7_become_93 : decode cX7_become 93 = .ok (.aload_n 1, 1) := by decide +kernel
theorem dX7_become_94 : decode cX7_become 94 = .ok (.getfield 56, 3) := by decide +kernel
theorem dX7_become_97 : decode cX7_become 97 = .ok (.putfield 56, 3) := by decide +kernel
theorem dX7_become_100 : decode cX7_become 100 = .ok (.return_, 1) := by decide +kernel
set_option maxRecDepth 20000 in
theorem ggX7_dealOne_X7_byLaw : GoodIn wsX7_dealOne wsX7_byLaw := goodIn_r _ [8, 2, 9, 10, 11, 7, 12, 3, 13, 14, 15, 16, 17, 18, 19, 35, 36, 37, 38, 39, 40, 41, 42, 43, 44, 45, 46, 47, 48, 49, 50, 51, 52, 53] (by decide +kernel) (by decide +kernel)
set_option maxRecDepth 20000 in
theorem gX7_dealOne_X7_byLaw : GoodIn wsX7_dealOne (wsV RX7 59 RX7 yX7_byLaw wsX7_byLaw) := goodIn_app (goodIn_of _ (by decide +kernel)) ggX7_dealOne_X7_byLaw
set_option maxRecDepth 20000 in
theorem ggX7_dealOne_X7_slips : GoodIn wsX7_dealOne wsX7_slips := goodIn_r _ [23, 24, 25, 45, 46, 47, 48, 49, 50, 51, 52, 53] (by decide +kernel) (by decide +kernel)
set_option maxRecDepth 20000 in
theorem gX7_dealOne_X7_slips : GoodIn wsX7_dealOne (wsV RX7 66 RX7 yX7_slips wsX7_slips) := goodIn_app (goodIn_of _ (by decide +kernel)) ggX7_dealOne_X7_slips
set_option maxRecDepth 20000 in
theorem ggX7_dealOne_X3_nextTo : GoodIn wsX7_dealOne wsX3_nextTo := goodIn_r _ [29, 30, 35, 36, 37, 38, 39, 40, 41, 42, 43, 44] (by decide +kernel) (by decide +kernel)
set_option maxRecDepth 20000 in
theorem gX7_dealOne_X3_nextTo : GoodIn wsX7_dealOne (wsV RX7 70 RX3 yX3_nextTo wsX3_nextTo) := goodIn_app (goodIn_of _ (by decide +kernel)) ggX7_dealOne_X3_nextTo
set_option maxRecDepth 20000 in
theorem ggX7_dealOne_X3_has : GoodIn wsX7_dealOne wsX3_has := goodIn_r _ [34, 30, 35, 36, 37, 38, 39, 40, 41, 42, 43, 44] (by decide +kernel) (by decide +kernel)
set_option maxRecDepth 20000 in
theorem gX7_dealOne_X3_has : GoodIn wsX7_dealOne (wsV RX7 73 RX3 yX3_has wsX3_has) := goodIn_app (goodIn_of _ (by decide +kernel)) ggX7_dealOne_X3_has
theorem dX7_dealOne_0 : decode cX7_dealOne 0 = .ok (.aload_n 0, 1) := by decide +kernel
theorem dX7_dealOne_1 : decode cX7_dealOne 1 = .ok (.aload_n 1, 1) := by decide +kernel
theorem dX7_dealOne_2 : decode cX7_dealOne 2 = .ok (.invokevirtual 59, 3) := by decide +kernel
theorem dX7_dealOne_5 : decode cX7_dealOne 5 = .ok (.istore_n 2, 1) := by decide +kernel
theorem dX7_dealOne_6 : decode cX7_dealOne 6 = .ok (.aload_n 0, 1) := by decide +kernel
theorem dX7_dealOne_7 : decode cX7_dealOne 7 = .ok (.aload_n 1, 1) := by decide +kernel
theorem dX7_dealOne_8 : decode cX7_dealOne 8 = .ok (.getfield 63, 3) := by decide +kernel
theorem dX7_dealOne_11 : decode cX7_dealOne 11 = .ok (.invokevirtual 66, 3) := by decide +kernel
theorem dX7_dealOne_14 : decode cX7_dealOne 14 = .ok (.ifCond .eq 9, 3) := by decide +kernel
theorem dX7_dealOne_17 : decode cX7_dealOne 17 = .ok (.aload_n 1, 1) := by decide +kernel
theorem dX7_dealOne_18 : decode cX7_dealOne 18 = .ok (.iload_n 2, 1) := by decide +kernel
theorem dX7_dealOne_19 : decode cX7_dealOne 19 = .ok (.invokevirtual 70, 3) := by decide +kernel
theorem dX7_dealOne_22 : decode cX7_dealOne 22 = .ok (.istore_n 2, 1) := by decide +kernel
theorem dX7_dealOne_23 : decode cX7_dealOne 23 = .ok (.aload_n 0, 1) := by decide +kernel
theorem dX7_dealOne_24 : decode cX7_dealOne 24 = .ok (.dup, 1) := by decide +kernel
theorem dX7_dealOne_25 : decode cX7_dealOne 25 = .ok (.getfield 50, 3) := by decide +kernel
theorem dX7_dealOne_28 : decode cX7_dealOne 28 = .ok (.iconst 1, 1) := by decide +kernel
theorem dX7_dealOne_29 : decode cX7_dealOne 29 = .ok (.isub, 1) := by decide +kernel
theorem dX7_dealOne_30 : decode cX7_dealOne 30 = .ok (.putfield 50, 3) := by decide +kernel
theorem dX7_dealOne_33 : decode cX7_dealOne 33 = .ok (.aload_n 0, 1) := by decide +kernel
theorem dX7_dealOne_34 : decode cX7_dealOne 34 = .ok (.dup, 1) := by decide +kernel
theorem dX7_dealOne_35 : decode cX7_dealOne 35 = .ok (.getfield 53, 3) := by decide +kernel
theorem dX7_dealOne_38 : decode cX7_dealOne 38 = .ok (.iconst 1, 1) := by decide +kernel
theorem dX7_dealOne_39 : decode cX7_dealOne 39 = .ok (.iadd, 1) := by decide +kernel
theorem dX7_dealOne_40 : decode cX7_dealOne 40 = .ok (.putfield 53, 3) := by decide +kernel
theorem dX7_dealOne_43 : decode cX7_dealOne 43 = .ok (.aload_n 1, 1) := by decide +kernel
theorem dX7_dealOne_44 : decode cX7_dealOne 44 = .ok (.iload_n 2, 1) := by decide +kernel
theorem dX7_dealOne_45 : decode cX7_dealOne 45 = .ok (.invokevirtual 73, 3) := by decide +kernel
theorem dX7_dealOne_48 : decode cX7_dealOne 48 = .ok (.ifCond .eq 13, 3) := by decide +kernel
theorem dX7_dealOne_51 : decode cX7_dealOne 51 = .ok (.aload_n 0, 1) := by decide +kernel
theorem dX7_dealOne_52 : decode cX7_dealOne 52 = .ok (.getfield 9, 3) := by decide +kernel
theorem dX7_dealOne_55 : decode cX7_dealOne 55 = .ok (.iload_n 2, 1) := by decide +kernel
theorem dX7_dealOne_56 : decode cX7_dealOne 56 = .ok (.dup2, 1) := by decide +kernel
theorem dX7_dealOne_57 : decode cX7_dealOne 57 = .ok (.iaload, 1) := by decide +kernel
theorem dX7_dealOne_58 : decode cX7_dealOne 58 = .ok (.iconst 1, 1) := by decide +kernel
theorem dX7_dealOne_59 : decode cX7_dealOne 59 = .ok (.iadd, 1) := by decide +kernel
theorem dX7_dealOne_60 : decode cX7_dealOne 60 = .ok (.iastore, 1) := by decide +kernel
theorem dX7_dealOne_61 : decode cX7_dealOne 61 = .ok (.iload_n 2, 1) := by decide +kernel
theorem dX7_dealOne_62 : decode cX7_dealOne 62 = .ok (.ireturn, 1) := by decide +kernel
set_option maxRecDepth 20000 in
theorem ggX7_byLaw_X7_thirstiest : GoodIn wsX7_byLaw wsX7_thirstiest := goodIn_r _ [6, 7, 15, 16, 17, 18, 19, 20, 21, 22, 23, 24, 25, 26, 27, 28, 29, 30, 31, 32, 33] (by decide +kernel) (by decide +kernel)
set_option maxRecDepth 20000 in
theorem gX7_byLaw_X7_thirstiest : GoodIn wsX7_byLaw (wsV RX7 79 RX7 yX7_thirstiest wsX7_thirstiest) := goodIn_app (goodIn_of _ (by decide +kernel)) ggX7_byLaw_X7_thirstiest
set_option maxRecDepth 20000 in
theorem ggX7_byLaw_X3_sung : GoodIn wsX7_byLaw wsX3_sung := goodIn_r _ [12, 13, 14, 15, 16, 17, 18, 19, 20, 21, 22, 23, 24] (by decide +kernel) (by decide +kernel)
set_option maxRecDepth 20000 in
theorem gX7_byLaw_X3_sung : GoodIn wsX7_byLaw (wsV RX7 82 RX3 yX3_sung wsX3_sung) := goodIn_app (goodIn_of _ (by decide +kernel)) ggX7_byLaw_X3_sung
theorem dX7_byLaw_0 : decode cX7_byLaw 0 = .ok (.aload_n 1, 1) := by decide +kernel
theorem dX7_byLaw_1 : decode cX7_byLaw 1 = .ok (.getfield 76, 3) := by decide +kernel
theorem dX7_byLaw_4 : decode cX7_byLaw 4 = .ok (.lookupswitch 43 #[(1, 28), (2, 34)], 28) := by decide +kernel
theorem dX7_byLaw_32 : decode cX7_byLaw 32 = .ok (.aload_n 0, 1) := by decide +kernel
theorem dX7_byLaw_33 : decode cX7_byLaw 33 = .ok (.aload_n 1, 1) := by decide +kernel
theorem dX7_byLaw_34 : decode cX7_byLaw 34 = .ok (.invokevirtual 79, 3) := by decide +kernel
theorem dX7_byLaw_37 : decode cX7_byLaw 37 = .ok (.ireturn, 1) := by decide +kernel
theorem dX7_byLaw_38 : decode cX7_byLaw 38 = .ok (.aload_n 1, 1) := by decide +kernel
theorem dX7_byLaw_39 : decode cX7_byLaw 39 = .ok (.aload_n 0, 1) := by decide +kernel
theorem dX7_byLaw_40 : decode cX7_byLaw 40 = .ok (.getfield 53, 3) := by decide +kernel
theorem dX7_byLaw_43 : decode cX7_byLaw 43 = .ok (.invokevirtual 82, 3) := by decide +kernel
theorem dX7_byLaw_46 : decode cX7_byLaw 46 = .ok (.ireturn, 1) := by decide +kernel
theorem dX7_byLaw_47 : decode cX7_byLaw 47 = .ok (.aload_n 1, 1) := by decide +kernel
theorem dX7_byLaw_48 : decode cX7_byLaw 48 = .ok (.getfield 85, 3) := by decide +kernel
theorem dX7_byLaw_51 : decode cX7_byLaw 51 = .ok (.ifCond .le 15, 3) := by decide +kernel
theorem dX7_byLaw_54 : decode cX7_byLaw 54 = .ok (.aload_n 0, 1) := by decide +kernel
theorem dX7_byLaw_55 : decode cX7_byLaw 55 = .ok (.getfield 53, 3) := by decide +kernel
theorem dX7_byLaw_58 : decode cX7_byLaw 58 = .ok (.aload_n 1, 1) := by decide +kernel
theorem dX7_byLaw_59 : decode cX7_byLaw 59 = .ok (.getfield 85, 3) := by decide +kernel
theorem dX7_byLaw_62 : decode cX7_byLaw 62 = .ok (.irem, 1) := by decide +kernel
