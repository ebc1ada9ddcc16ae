theorem dX12_wants_30 : decode cX12_wants 30 = .ok (.ifCond .gt 7, 3) := by decide +kernel
theorem dX12_wants_33 : decode cX12_wants 33 = .ok (.iconst 0, 1) := by decide +kernel
theorem dX12_wants_34 : decode cX12_wants 34 = .ok (.goto 15, 3) := by decide +kernel
theorem dX12_wants_37 : decode cX12_wants 37 = .ok (.iload 4, 2) := by decide +kernel
theorem dX12_wants_39 : decode cX12_wants 39 = .ok (.iload_n 3, 1) := by decide +kernel
theorem dX12_wants_40 : decode cX12_wants 40 = .ok (.if_icmp .ge 8, 3) := by decide +kernel
theorem dX12_wants_43 : decode cX12_wants 43 = .ok (.iload 4, 2) := by decide +kernel
theorem dX12_wants_45 : decode cX12_wants 45 = .ok (.goto 4, 3) := by decide +kernel
theorem dX12_wants_48 : decode cX12_wants 48 = .ok (.iload_n 3, 1) := by decide +kernel
theorem dX12_wants_49 : decode cX12_wants 49 = .ok (.ireturn, 1) := by decide +kernel
set_option maxRecDepth 20000 in
theorem ggX12_lacks_X12_dripOf : GoodIn wsX12_lacks wsX12_dripOf := goodIn_r _ [8, 9, 10, 18, 19, 20, 21, 22, 23, 24, 25, 26, 27, 28, 29, 30, 31, 32, 33, 34, 35, 36, 37, 38, 39, 40, 41, 42, 43, 44, 45, 46, 47, 48, 49, 50, 51, 52, 53, 54, 55] (by decide +kernel) (by decide +kernel)
set_option maxRecDepth 20000 in
theorem gX12_lacks_X12_dripOf : GoodIn wsX12_lacks (wsV RX12 182 RX12 yX12_dripOf wsX12_dripOf) := goodIn_app (goodIn_of _ (by decide +kernel)) ggX12_lacks_X12_dripOf
set_option maxRecDepth 20000 in
theorem ggX12_lacks_X12_wants : GoodIn wsX12_lacks wsX12_wants := goodIn_r _ [14, 15, 16, 17, 18, 19, 20, 21, 22, 23, 24, 25, 26, 27, 28, 29, 30, 31, 32, 33, 34, 35, 36, 37, 38, 39, 40, 41, 42, 43, 44, 45, 46, 47, 48, 49, 50, 51, 52, 53, 54, 55] (by decide +kernel) (by decide +kernel)
set_option maxRecDepth 20000 in
theorem gX12_lacks_X12_wants : GoodIn wsX12_lacks (wsV RX12 205 RX12 yX12_wants wsX12_wants) := goodIn_app (goodIn_of _ (by decide +kernel)) ggX12_lacks_X12_wants
theorem dX12_lacks_0 : decode cX12_lacks 0 = .ok (.iconst 0, 1) := by decide +kernel
theorem dX12_lacks_1 : decode cX12_lacks 1 = .ok (.istore_n 3, 1) := by decide +kernel
theorem dX12_lacks_2 : decode cX12_lacks 2 = .ok (.iconst 0, 1) := by decide +kernel
theorem dX12_lacks_3 : decode cX12_lacks 3 = .ok (.istore 4, 2) := by decide +kernel
theorem dX12_lacks_5 : decode cX12_lacks 5 = .ok (.iconst 0, 1) := by decide +kernel
theorem dX12_lacks_6 : decode cX12_lacks 6 = .ok (.istore 5, 2) := by decide +kernel
theorem dX12_lacks_8 : decode cX12_lacks 8 = .ok (.iload 5, 2) := by decide +kernel
theorem dX12_lacks_10 : decode cX12_lacks 10 = .ok (.iload_n 1, 1) := by decide +kernel
theorem dX12_lacks_11 : decode cX12_lacks 11 = .ok (.if_icmp .ge 116, 3) := by decide +kernel
theorem dX12_lacks_14 : decode cX12_lacks 14 = .ok (.iload_n 3, 1) := by decide +kernel
theorem dX12_lacks_15 : decode cX12_lacks 15 = .ok (.iload 5, 2) := by decide +kernel
theorem dX12_lacks_17 : decode cX12_lacks 17 = .ok (.ifCond .ne 10, 3) := by decide +kernel
theorem dX12_lacks_20 : decode cX12_lacks 20 = .ok (.aload_n 0, 1) := by decide +kernel
theorem dX12_lacks_21 : decode cX12_lacks 21 = .ok (.getfield 186, 3) := by decide +kernel
theorem dX12_lacks_24 : decode cX12_lacks 24 = .ok (.goto 14, 3) := by decide +kernel
theorem dX12_lacks_27 : decode cX12_lacks 27 = .ok (.aload_n 0, 1) := by decide +kernel
theorem dX12_lacks_28 : decode cX12_lacks 28 = .ok (.aload_n 0, 1) := by decide +kernel
theorem dX12_lacks_29 : decode cX12_lacks 29 = .ok (.getfield 179, 3) := by decide +kernel
theorem dX12_lacks_32 : decode cX12_lacks 32 = .ok (.iload 5, 2) := by decide +kernel
theorem dX12_lacks_34 : decode cX12_lacks 34 = .ok (.iadd, 1) := by decide +kernel
theorem dX12_lacks_35 : decode cX12_lacks 35 = .ok (.invokevirtual 182, 3) := by decide +kernel
theorem dX12_lacks_38 : decode cX12_lacks 38 = .ok (.iadd, 1) := by decide +kernel
theorem dX12_lacks_39 : decode cX12_lacks 39 = .ok (.istore_n 3, 1) := by decide +kernel
theorem dX12_lacks_40 : decode cX12_lacks 40 = .ok (.iconst 0, 1) := by decide +kernel
theorem dX12_lacks_41 : decode cX12_lacks 41 = .ok (.istore 6, 2) := by decide +kernel
theorem dX12_lacks_43 : decode cX12_lacks 43 = .ok (.iconst 0, 1) := by decide +kernel
theorem dX12_lacks_44 : decode cX12_lacks 44 = .ok (.istore 7, 2) := by decide +kernel
theorem dX12_lacks_46 : decode cX12_lacks 46 = .ok (.iload 7, 2) := by decide +kernel
theorem dX12_lacks_48 : decode cX12_lacks 48 = .ok (.aload_n 0, 1) := by decide +kernel
theorem dX12_lacks_49 : decode cX12_lacks 49 = .ok (.getfield 69, 3) := by decide +kernel
theorem dX12_lacks_52 : decode cX12_lacks 52 = .ok (.if_icmp .ge 22, 3) := by decide +kernel
theorem dX12_lacks_55 : decode cX12_lacks 55 = .ok (.iload 6, 2) := by decide +kernel
theorem dX12_lacks_57 : decode cX12_lacks 57 = .ok (.aload_n 0, 1) := by decide +kernel
theorem dX12_lacks_58 : decode cX12_lacks 58 = .ok (.iload 7, 2) := by decide +kernel
theorem dX12_lacks_60 : decode cX12_lacks 60 = .ok (.iload 5, 2) := by decide +kernel
theorem dX12_lacks_62 : decode cX12_lacks 62 = .ok (.invokevirtual 205, 3) := by decide +kernel
theorem dX12_lacks_65 : decode cX12_lacks 65 = .ok (.iadd, 1) := by decide +kernel
theorem dX12_lacks_66 : decode cX12_lacks 66 = .ok (.istore 6, 2) := by decide +kernel
theorem dX12_lacks_68 : decode cX12_lacks 68 = .ok (.iinc 7 1, 3) := by decide +kernel
theorem dX12_lacks_71 : decode cX12_lacks 71 = .ok (.goto (-25), 3) := by decide +kernel
theorem dX12_lacks_74 : decode cX12_lacks 74 = .ok (.iload 6, 2) := by decide +kernel
theorem dX12_lacks_76 : decode cX12_lacks 76 = .ok (.iload_n 3, 1) := by decide +kernel
theorem dX12_lacks_77 : decode cX12_lacks 77 = .ok (.if_icmp .le 10, 3) := by decide +kernel
theorem dX12_lacks_80 : decode cX12_lacks 80 = .ok (.iload_n 2, 1) := by decide +kernel
theorem dX12_lacks_81 : decode cX12_lacks 81 = .ok (.ifCond .eq 6, 3) := by decide +kernel
theorem dX12_lacks_84 : decode cX12_lacks 84 = .ok (.iload 5, 2) := by decide +kernel
theorem dX12_lacks_86 : decode cX12_lacks 86 = .ok (.ireturn, 1) := by decide +kernel
theorem dX12_lacks_87 : decode cX12_lacks 87 = .ok (.iload 4, 2) := by decide +kernel
theorem dX12_lacks_89 : decode cX12_lacks 89 = .ok (.iload 6, 2) := by decide +kernel
theorem dX12_lacks_91 : decode cX12_lacks 91 = .ok (.iload_n 3, 1) := by decide +kernel
theorem dX12_lacks_92 : decode cX12_lacks 92 = .ok (.if_icmp .le 10, 3) := by decide +kernel
theorem dX12_lacks_95 : decode cX12_lacks 95 = .ok (.iload 6, 2) := by decide +kernel
theorem dX12_lacks_97 : decode cX12_lacks 97 = .ok (.iload_n 3, 1) := by decide +kernel
theorem dX12_lacks_98 : decode cX12_lacks 98 = .ok (.isub, 1) := by decide +kernel
theorem dX12_lacks_99 : decode cX12_lacks 99 = .ok (.goto 4, 3) := by decide +kernel
theorem dX12_lacks_102 : decode cX12_lacks 102 = .ok (.iconst 0, 1) := by decide +kernel
theorem dX12_lacks_103 : decode cX12_lacks 103 = .ok (.iadd, 1) := by decide +kernel
theorem dX12_lacks_104 : decode cX12_lacks 104 = .ok (.istore 4, 2) := by decide +kernel
theorem dX12_lacks_106 : decode cX12_lacks 106 = .ok (.iload_n 3, 1) := by decide +kernel
theorem dX12_lacks_107 : decode cX12_lacks 107 = .ok (.iload 6, 2) := by decide +kernel
theorem dX12_lacks_109 : decode cX12_lacks 109 = .ok (.iload_n 3, 1) := by decide +kernel
theorem dX12_lacks_110 : decode cX12_lacks 110 = .ok (.if_icmp .ge 8, 3) := by decide +kernel
theorem dX12_lacks_113 : decode cX12_lacks 113 = .ok (.iload 6, 2) := by decide +kernel
theorem dX12_lacks_115 : decode cX12_lacks 115 = .ok (.goto 4, 3) := by decide +kernel
theorem dX12_lacks_118 : decode cX12_lacks 118 = .ok (.iload_n 3, 1) := by decide +kernel
theorem dX12_lacks_119 : decode cX12_lacks 119 = .ok (.isub, 1) := by decide +kernel
theorem dX12_lacks_120 : decode cX12_lacks 120 = .ok (.istore_n 3, 1) := by decide +kernel
theorem dX12_lacks_121 : decode cX12_lacks 121 = .ok (.iinc 5 1, 3) := by decide +kernel
theorem dX12_lacks_124 : decode cX12_lacks 124 = .ok (.goto (-116), 3) := by decide +kernel
theorem dX12_lacks_127 : decode cX12_lacks 127 = .ok (.iload_n 2, 1) := by decide +kernel
theorem dX12_lacks_128 : decode cX12_lacks 128 = .ok (.ifCond .eq 7, 3) := by decide +kernel
theorem dX12_lacks_131 : decode cX12_lacks 131 = .ok (.iload_n 1, 1) := by decide +kernel
theorem dX12_lacks_132 : decode cX12_lacks 132 = .ok (.goto 5, 3) := by decide +kernel
theorem dX12_lacks_135 : decode cX12_lacks 135 = .ok (.iload 4, 2) := by decide +kernel
theorem dX12_lacks_137 : decode cX12_lacks 137 = .ok (.ireturn, 1) := by decide +kernel
set_option maxRecDepth 20000 in
theorem ggX12_safe_X12_lacks : GoodIn wsX12_safe wsX12_lacks := goodIn_r _ [5, 6, 7, 8, 9, 10, 11, 4, 12, 13, 14, 15, 16, 17, 18, 19, 20, 21, 22, 23, 24, 25, 26, 27, 28, 29, 30, 31, 32, 33, 34, 35, 36, 37, 38, 39, 40, 41, 42, 43, 44, 45, 46, 47, 48, 49, 50, 51, 52, 53, 54, 55, 56, 57, 58, 59] (by decide +kernel) (by decide +kernel)
set_option maxRecDepth 20000 in
theorem gX12_safe_X12_lacks : GoodIn wsX12_safe (wsV RX12 209 RX12 yX12_lacks wsX12_lacks) := goodIn_app (goodIn_of _ (by decide +kernel)) ggX12_safe_X12_lacks
theorem dX12_safe_0 : decode cX12_safe 0 = .ok (.aload_n 0, 1) := by decide +kernel
theorem dX12_safe_1 : decode cX12_safe 1 = .ok (.bipush 40, 2) := by decide +kernel
theorem dX12_safe_3 : decode cX12_safe 3 = .ok (.iconst 1, 1) := by decide +kernel
theorem dX12_safe_4 : decode cX12_safe 4 = .ok (.invokevirtual 209, 3) := by decide +kernel
theorem dX12_safe_7 : decode cX12_safe 7 = .ok (.ireturn, 1) := by decide +kernel
set_option maxRecDepth 20000 in
theorem ggX12_least_X12_in : GoodIn wsX12_least wsX12_in := goodIn_r _ [5] (by decide +kernel) (by decide +kernel)
set_option maxRecDepth 20000 in
theorem gX12_least_X12_in : GoodIn wsX12_least (va_wsS RX12 72 yX12_in wsX12_in) := goodIn_app (goodIn_of _ (by decide +kernel)) ggX12_least_X12_in
set_option maxRecDepth 20000 in
theorem ggX12_least_X12_lacks : GoodIn wsX12_least wsX12_lacks := goodIn_r _ [9, 10, 11, 12, 13, 14, 15, 4, 16, 17, 18, 19, 20, 21, 22, 23, 24, 25, 26, 27, 28, 29, 30, 31, 32, 33, 34, 35, 36, 37, 38, 39, 40, 41, 42, 43, 44, 45, 46, 47, 48, 49, 50, 51, 52, 53, 54, 55, 56, 57, 58, 59, 60, 61, 62, 63] (by decide +kernel) (by decide +kernel)
set_option maxRecDepth 20000 in
theorem gX12_least_X12_lacks : GoodIn wsX12_least (wsV RX12 209 RX12 yX12_lacks wsX12_lacks) := goodIn_app (goodIn_of _ (by decide +kernel)) ggX12_least_X12_lacks
theorem dX12_least_0 : decode cX12_least 0 = .ok (.iload_n 1, 1) := by decide +kernel
theorem dX12_least_1 : decode cX12_least 1 = .ok (.i2l, 1) := by decide +kernel
theorem dX12_least_2 : decode cX12_least 2 = .ok (.lconst 1, 1) := by decide +kernel
theorem dX12_least_3 : decode cX12_least 3 = .ok (.ldc2_w 213, 3) := by decide +kernel
theorem dX12_least_6 : decode cX12_least 6 = .ok (.invokestatic 72, 3) := by decide +kernel
theorem dX12_least_9 : decode cX12_least 9 = .ok (.ifCond .eq 12, 3) := by decide +kernel
theorem dX12_least_12 : decode cX12_least 12 = .ok (.aload_n 0, 1) := by decide +kernel
theorem dX12_least_13 : decode cX12_least 13 = .ok (.iload_n 1, 1) := by decide +kernel
theorem dX12_least_14 : decode cX12_least 14 = .ok (.iconst 0, 1) := by decide +kernel
theorem dX12_least_15 : decode cX12_least 15 = .ok (.invokevirtual 209, 3) := by decide +kernel
theorem dX12_least_18 : decode cX12_least 18 = .ok (.goto 4, 3) := by decide +kernel
theorem dX12_least_21 : decode cX12_least 21 = .ok (.iconst (-1), 1) := by decide +kernel
theorem dX12_least_22 : decode cX12_least 22 = .ok (.ireturn, 1) := by decide +kernel
theorem dX12_goesOn_0 : decode cX12_goesOn 0 = .ok (.aload_n 0, 1) := by decide +kernel
theorem dX12_goesOn_1 : decode cX12_goesOn 1 = .ok (.getfield 56, 3) := by decide +kernel
theorem dX12_goesOn_4 : decode cX12_goesOn 4 = .ok (.aload_n 0, 1) := by decide +kernel
theorem dX12_goesOn_5 : decode cX12_goesOn 5 = .ok (.getfield 69, 3) := by decide +kernel
theorem dX12_goesOn_8 : decode cX12_goesOn 8 = .ok (.iconst 1, 1) := by decide +kernel
theorem dX12_goesOn_9 : decode cX12_goesOn 9 = .ok (.isub, 1) := by decide +kernel
theorem dX12_goesOn_10 : decode cX12_goesOn 10 = .ok (.iaload, 1) := by decide +kernel
theorem dX12_goesOn_11 : decode cX12_goesOn 11 = .ok (.istore_n 1, 1) := by decide +kernel
theorem dX12_goesOn_12 : decode cX12_goesOn 12 = .ok (.aload_n 0, 1) := by decide +kernel
theorem dX12_goesOn_13 : decode cX12_goesOn 13 = .ok (.getfield 69, 3) := by decide +kernel
theorem dX12_goesOn_16 : decode cX12_goesOn 16 = .ok (.iconst 2, 1) := by decide +kernel
theorem dX12_goesOn_17 : decode cX12_goesOn 17 = .ok (.isub, 1) := by decide +kernel
theorem dX12_goesOn_18 : decode cX12_goesOn 18 = .ok (.istore_n 2, 1) := by decide +kernel
theorem dX12_goesOn_19 : decode cX12_goesOn 19 = .ok (.iload_n 2, 1) := by decide +kernel
theorem dX12_goesOn_20 : decode cX12_goesOn 20 = .ok (.ifCond .lt 73, 3) := by decide +kernel
theorem dX12_goesOn_23 : decode cX12_goesOn 23 = .ok (.iload_n 1, 1) := by decide +kernel
theorem dX12_goesOn_24 : decode cX12_goesOn 24 = .ok (.ifCond .le 54, 3) := by decide +kernel
theorem dX12_goesOn_27 : decode cX12_goesOn 27 = .ok (.aload_n 0, 1) := by decide +kernel
theorem dX12_goesOn_28 : decode cX12_goesOn 28 = .ok (.getfield 56, 3) := by decide +kernel
theorem dX12_goesOn_31 : decode cX12_goesOn 31 = .ok (.iload_n 2, 1) := by decide +kernel
theorem dX12_goesOn_32 : decode cX12_goesOn 32 = .ok (.dup2, 1) := by decide +kernel
theorem dX12_goesOn_33 : decode cX12_goesOn 33 = .ok (.iaload, 1) := by decide +kernel
theorem dX12_goesOn_34 : decode cX12_goesOn 34 = .ok (.iconst 1, 1) := by decide +kernel
theorem dX12_goesOn_35 : decode cX12_goesOn 35 = .ok (.iadd, 1) := by decide +kernel
theorem dX12_goesOn_36 : decode cX12_goesOn 36 = .ok (.iastore, 1) := by decide +kernel
theorem dX12_goesOn_37 : decode cX12_goesOn 37 = .ok (.iload_n 2, 1) := by decide +kernel
theorem dX12_goesOn_38 : decode cX12_goesOn 38 = .ok (.iconst 1, 1) := by decide +kernel
theorem dX12_goesOn_39 : decode cX12_goesOn 39 = .ok (.iadd, 1) := by decide +kernel
theorem dX12_goesOn_40 : decode cX12_goesOn 40 = .ok (.istore_n 3, 1) := by decide +kernel
theorem dX12_goesOn_41 : decode cX12_goesOn 41 = .ok (.iload_n 3, 1) := by decide +kernel
theorem dX12_goesOn_42 : decode cX12_goesOn 42 = .ok (.aload_n 0, 1) := by decide +kernel
theorem dX12_goesOn_43 : decode cX12_goesOn 43 = .ok (.getfield 69, 3) := by decide +kernel
theorem dX12_goesOn_46 : decode cX12_goesOn 46 = .ok (.if_icmp .ge 16, 3) := by decide +kernel
theorem dX12_goesOn_49 : decode cX12_goesOn 49 = .ok (.aload_n 0, 1) := by decide +kernel
theorem dX12_goesOn_50 : decode cX12_goesOn 50 = .ok (.getfield 56, 3) := by decide +kernel
theorem dX12_goesOn_53 : decode cX12_goesOn 53 = .ok (.iload_n 3, 1) := by decide +kernel
theorem dX12_goesOn_54 : decode cX12_goesOn 54 = .ok (.iconst 0, 1) := by decide +kernel
theorem dX12_goesOn_55 : decode cX12_goesOn 55 = .ok (.iastore, 1) := by decide +kernel
theorem dX12_goesOn_56 : decode cX12_goesOn 56 = .ok (.iinc 3 1, 3) := by decide +kernel
theorem dX12_goesOn_59 : decode cX12_goesOn 59 = .ok (.goto (-18), 3) := by decide +kernel
theorem dX12_goesOn_62 : decode cX12_goesOn 62 = .ok (.aload_n 0, 1) := by decide +kernel
theorem dX12_goesOn_63 : decode cX12_goesOn 63 = .ok (.getfield 56, 3) := by decide +kernel
theorem dX12_goesOn_66 : decode cX12_goesOn 66 = .ok (.aload_n 0, 1) := by decide +kernel
theorem dX12_goesOn_67 : decode cX12_goesOn 67 = .ok (.getfield 69, 3) := by decide +kernel
theorem dX12_goesOn_70 : decode cX12_goesOn 70 = .ok (.iconst 1, 1) := by decide +kernel
theorem dX12_goesOn_71 : decode cX12_goesOn 71 = .ok (.isub, 1) := by decide +kernel
theorem dX12_goesOn_72 : decode cX12_goesOn 72 = .ok (.iload_n 1, 1) := by decide +kernel
theorem dX12_goesOn_73 : decode cX12_goesOn 73 = .ok (.iconst 1, 1) := by decide +kernel
theorem dX12_goesOn_74 : decode cX12_goesOn 74 = .ok (.isub, 1) := by decide +kernel
theorem dX12_goesOn_75 : decode cX12_goesOn 75 = .ok (.iastore, 1) := by decide +kernel
theorem dX12_goesOn_76 : decode cX12_goesOn 76 = .ok (.iconst 1, 1) := by decide +kernel
theorem dX12_goesOn_77 : decode cX12_goesOn 77 = .ok (.ireturn, 1) := by decide +kernel
theorem dX12_goesOn_78 : decode cX12_goesOn 78 = .ok (.iload_n 1, 1) := by decide +kernel
theorem dX12_goesOn_79 : decode cX12_goesOn 79 = .ok (.aload_n 0, 1) := by decide +kernel
theorem dX12_goesOn_80 : decode cX12_goesOn 80 = .ok (.getfield 56, 3) := by decide +kernel
theorem dX12_goesOn_83 : decode cX12_goesOn 83 = .ok (.iload_n 2, 1) := by decide +kernel
theorem dX12_goesOn_84 : decode cX12_goesOn 84 = .ok (.iaload, 1) := by decide +kernel
theorem dX12_goesOn_85 : decode cX12_goesOn 85 = .ok (.iadd, 1) := by decide +kernel
theorem dX12_goesOn_86 : decode cX12_goesOn 86 = .ok (.istore_n 1, 1) := by decide +kernel
theorem dX12_goesOn_87 : decode cX12_goesOn 87 = .ok (.iinc 2 (-1), 3) := by decide +kernel
theorem dX12_goesOn_90 : decode cX12_goesOn 90 = .ok (.goto (-71), 3) := by decide +kernel
theorem dX12_goesOn_93 : decode cX12_goesOn 93 = .ok (.iconst 0, 1) := by decide +kernel
theorem dX12_goesOn_94 : decode cX12_goesOn 94 = .ok (.ireturn, 1) := by decide +kernel
set_option maxRecDepth 20000 in
theorem ggX12_today_X12_in : GoodIn wsX12_today wsX12_in := goodIn_r _ [13] (by decide +kernel) (by decide +kernel)
set_option maxRecDepth 20000 in
theorem gX12_today_X12_in : GoodIn wsX12_today (va_wsS RX12 72 yX12_in wsX12_in) := goodIn_app (goodIn_of _ (by decide +kernel)) ggX12_today_X12_in
set_option maxRecDepth 20000 in
theorem ggX12_today_X12_goesOn : GoodIn wsX12_today wsX12_goesOn := goodIn_r _ [17, 4, 2, 18, 19, 20, 21, 22, 23, 24, 25, 26, 27, 28, 29, 30, 31, 32, 33, 34, 35, 36, 37, 38, 39, 40, 41, 42, 43, 44, 45, 46, 47, 48, 49, 50, 51, 52, 53, 54, 55] (by decide +kernel) (by decide +kernel)
set_option maxRecDepth 20000 in
theorem gX12_today_X12_goesOn : GoodIn wsX12_today (wsV RX12 216 RX12 yX12_goesOn wsX12_goesOn) := goodIn_app (goodIn_of _ (by decide +kernel)) ggX12_today_X12_goesOn
theorem dX12_today_0 : decode cX12_today 0 = .ok (.iload_n 1, 1) := by decide +kernel
theorem dX12_today_1 : decode cX12_today 1 = .ok (.i2l, 1) := by decide +kernel
theorem dX12_today_2 : decode cX12_today 2 = .ok (.ldc2_w 107, 3) := by decide +kernel
theorem dX12_today_5 : decode cX12_today 5 = .ok (.aload_n 0, 1) := by decide +kernel
theorem dX12_today_6 : decode cX12_today 6 = .ok (.getfield 69, 3) := by decide +kernel
theorem dX12_today_9 : decode cX12_today 9 = .ok (.iconst 1, 1) := by decide +kernel
theorem dX12_today_10 : decode cX12_today 10 = .ok (.isub, 1) := by decide +kernel
theorem dX12_today_11 : decode cX12_today 11 = .ok (.i2l, 1) := by decide +kernel
theorem dX12_today_12 : decode cX12_today 12 = .ok (.invokestatic 72, 3) := by decide +kernel
theorem dX12_today_15 : decode cX12_today 15 = .ok (.ifCond .ne 5, 3) := by decide +kernel
theorem dX12_today_18 : decode cX12_today 18 = .ok (.iconst (-1), 1) := by decide +kernel
theorem dX12_today_19 : decode cX12_today 19 = .ok (.ireturn, 1) := by decide +kernel
theorem dX12_today_20 : decode cX12_today 20 = .ok (.aload_n 0, 1) := by decide +kernel
theorem dX12_today_21 : decode cX12_today 21 = .ok (.getfield 186, 3) := by decide +kernel
theorem dX12_today_24 : decode cX12_today 24 = .ok (.bipush 12, 2) := by decide +kernel
theorem dX12_today_26 : decode cX12_today 26 = .ok (.if_icmp .le 6, 3) := by decide +kernel
theorem dX12_today_29 : decode cX12_today 29 = .ok (.bipush (-2), 2) := by decide +kernel
theorem dX12_today_31 : decode cX12_today 31 = .ok (.ireturn, 1) := by decide +kernel
theorem dX12_today_32 : decode cX12_today 32 = .ok (.aload_n 0, 1) := by decide +kernel
theorem dX12_today_33 : decode cX12_today 33 = .ok (.getfield 69, 3) := by decide +kernel
theorem dX12_today_36 : decode cX12_today 36 = .ok (.ifCond .ne 6, 3) := by decide +kernel
theorem dX12_today_39 : decode cX12_today 39 = .ok (.bipush (-9), 2) := by decide +kernel
theorem dX12_today_41 : decode cX12_today 41 = .ok (.ireturn, 1) := by decide +kernel
theorem dX12_today_42 : decode cX12_today 42 = .ok (.iconst 0, 1) := by decide +kernel
theorem dX12_today_43 : decode cX12_today 43 = .ok (.istore_n 2, 1) := by decide +kernel
theorem dX12_today_44 : decode cX12_today 44 = .ok (.iload_n 2, 1) := by decide +kernel
theorem dX12_today_45 : decode cX12_today 45 = .ok (.aload_n 0, 1) := by decide +kernel
theorem dX12_today_46 : decode cX12_today 46 = .ok (.getfield 69, 3) := by decide +kernel
theorem dX12_today_49 : decode cX12_today 49 = .ok (.if_icmp .ge 33, 3) := by decide +kernel
theorem dX12_today_52 : decode cX12_today 52 = .ok (.aload_n 0, 1) := by decide +kernel
theorem dX12_today_53 : decode cX12_today 53 = .ok (.getfield 56, 3) := by decide +kernel
theorem dX12_today_56 : decode cX12_today 56 = .ok (.iload_n 2, 1) := by decide +kernel
theorem dX12_today_57 : decode cX12_today 57 = .ok (.iload_n 2, 1) := by decide +kernel
theorem dX12_today_58 : decode cX12_today 58 = .ok (.aload_n 0, 1) := by decide +kernel
theorem dX12_today_59 : decode cX12_today 59 = .ok (.getfield 69, 3) := by decide +kernel
theorem dX12_today_62 : decode cX12_today 62 = .ok (.iconst 1, 1) := by decide +kernel
theorem dX12_today_63 : decode cX12_today 63 = .ok (.isub, 1) := by decide +kernel
theorem dX12_today_64 : decode cX12_today 64 = .ok (.if_icmp .ne 10, 3) := by decide +kernel
theorem dX12_today_67 : decode cX12_today 67 = .ok (.aload_n 0, 1) := by decide +kernel
theorem dX12_today_68 : decode cX12_today 68 = .ok (.getfield 186, 3) := by decide +kernel
theorem dX12_today_71 : decode cX12_today 71 = .ok (.goto 4, 3) := by decide +kernel
theorem dX12_today_74 : decode cX12_today 74 = .ok (.iconst 0, 1) := by decide +kernel
theorem dX12_today_75 : decode cX12_today 75 = .ok (.iastore, 1) := by decide +kernel
theorem dX12_today_76 : decode cX12_today 76 = .ok (.iinc 2 1, 3) := by decide +kernel
theorem dX12_today_79 : decode cX12_today 79 = .ok (.goto (-35), 3) := by decide +kernel
theorem dX12_today_82 : decode cX12_today 82 = .ok (.iconst (-1), 1) := by decide +kernel
theorem dX12_today_83 : decode cX12_today 83 = .ok (.istore_n 2, 1) := by decide +kernel
theorem dX12_today_84 : decode cX12_today 84 = .ok (.iconst 0, 1) := by decide +kernel
theorem dX12_today_85 : decode cX12_today 85 = .ok (.istore_n 3, 1) := by decide +kernel
theorem dX12_today_86 : decode cX12_today 86 = .ok (.iconst 1, 1) := by decide +kernel
theorem dX12_today_87 : decode cX12_today 87 = .ok (.istore 4, 2) := by decide +kernel
theorem dX12_today_89 : decode cX12_today 89 = .ok (.iload 4, 2) := by decide +kernel
theorem dX12_today_91 : decode cX12_today 91 = .ok (.ifCond .eq 172, 3) := by decide +kernel
theorem dX12_today_94 : decode cX12_today 94 = .ok (.iconst 0, 1) := by decide +kernel
theorem dX12_today_95 : decode cX12_today 95 = .ok (.istore 5, 2) := by decide +kernel
theorem dX12_today_97 : decode cX12_today 97 = .ok (.ldc 215, 2) := by decide +kernel
theorem dX12_today_99 : decode cX12_today 99 = .ok (.istore 6, 2) := by decide +kernel
theorem dX12_today_101 : decode cX12_today 101 = .ok (.iconst 0, 1) := by decide +kernel
theorem dX12_today_102 : decode cX12_today 102 = .ok (.istore 7, 2) := by decide +kernel
theorem dX12_today_104 : decode cX12_today 104 = .ok (.iload 7, 2) := by decide +kernel
theorem dX12_today_106 : decode cX12_today 106 = .ok (.aload_n 0, 1) := by decide +kernel
theorem dX12_today_107 : decode cX12_today 107 = .ok (.getfield 69, 3) := by decide +kernel
theorem dX12_today_110 : decode cX12_today 110 = .ok (.if_icmp .ge 84, 3) := by decide +kernel
theorem dX12_today_113 : decode cX12_today 113 = .ok (.aload_n 0, 1) := by decide +kernel
theorem dX12_today_114 : decode cX12_today 114 = .ok (.getfield 29, 3) := by decide +kernel
theorem dX12_today_117 : decode cX12_today 117 = .ok (.iload 7, 2) := by decide +kernel
theorem dX12_today_119 : decode cX12_today 119 = .ok (.iaload, 1) := by decide +kernel
theorem dX12_today_120 : decode cX12_today 120 = .ok (.aload_n 0, 1) := by decide +kernel
theorem dX12_today_121 : decode cX12_today 121 = .ok (.getfield 56, 3) := by decide +kernel
theorem dX12_today_124 : decode cX12_today 124 = .ok (.iload 7, 2) := by decide +kernel
theorem dX12_today_126 : decode cX12_today 126 = .ok (.iaload, 1) := by decide +kernel
theorem dX12_today_127 : decode cX12_today 127 = .ok (.iadd, 1) := by decide +kernel
theorem dX12_today_128 : decode cX12_today 128 = .ok (.aload_n 0, 1) := by decide +kernel
theorem dX12_today_129 : decode cX12_today 129 = .ok (.getfield 16, 3) := by decide +kernel
theorem dX12_today_132 : decode cX12_today 132 = .ok (.iload 7, 2) := by decide +kernel
theorem dX12_today_134 : decode cX12_today 134 = .ok (.iaload, 1) := by decide +kernel
theorem dX12_today_135 : decode cX12_today 135 = .ok (.iadd, 1) := by decide +kernel
theorem dX12_today_136 : decode cX12_today 136 = .ok (.aload_n 0, 1) := by decide +kernel
theorem dX12_today_137 : decode cX12_today 137 = .ok (.getfield 13, 3) := by decide +kernel
theorem dX12_today_140 : decode cX12_today 140 = .ok (.iload 7, 2) := by decide +kernel
theorem dX12_today_142 : decode cX12_today 142 = .ok (.iaload, 1) := by decide +kernel
theorem dX12_today_143 : decode cX12_today 143 = .ok (.isub, 1) := by decide +kernel
theorem dX12_today_144 : decode cX12_today 144 = .ok (.istore 8, 2) := by decide +kernel
theorem dX12_today_146 : decode cX12_today 146 = .ok (.iload 5, 2) := by decide +kernel
theorem dX12_today_148 : decode cX12_today 148 = .ok (.iload 8, 2) := by decide +kernel
theorem dX12_today_150 : decode cX12_today 150 = .ok (.ifCond .ge 9, 3) := by decide +kernel
theorem dX12_today_153 : decode cX12_today 153 = .ok (.iload 8, 2) := by decide +kernel
theorem dX12_today_155 : decode cX12_today 155 = .ok (.ineg, 1) := by decide +kernel
theorem dX12_today_156 : decode cX12_today 156 = .ok (.goto 4, 3) := by decide +kernel
theorem dX12_today_159 : decode cX12_today 159 = .ok (.iconst 0, 1) := by decide +kernel
theorem dX12_today_160 : decode cX12_today 160 = .ok (.iadd, 1) := by decide +kernel
theorem dX12_today_161 : decode cX12_today 161 = .ok (.istore 5, 2) := by decide +kernel
theorem dX12_today_163 : decode cX12_today 163 = .ok (.iload 8, 2) := by decide +kernel
theorem dX12_today_165 : decode cX12_today 165 = .ok (.ifCond .ge 7, 3) := by decide +kernel
theorem dX12_today_168 : decode cX12_today 168 = .ok (.iconst 0, 1) := by decide +kernel
theorem dX12_today_169 : decode cX12_today 169 = .ok (.goto 17, 3) := by decide +kernel
theorem dX12_today_172 : decode cX12_today 172 = .ok (.iload 8, 2) := by decide +kernel
theorem dX12_today_174 : decode cX12_today 174 = .ok (.iload 6, 2) := by decide +kernel
theorem dX12_today_176 : decode cX12_today 176 = .ok (.if_icmp .ge 8, 3) := by decide +kernel
theorem dX12_today_179 : decode cX12_today 179 = .ok (.iload 8, 2) := by decide +kernel
theorem dX12_today_181 : decode cX12_today 181 = .ok (.goto 5, 3) := by decide +kernel
theorem dX12_today_184 : decode cX12_today 184 = .ok (.iload 6, 2) := by decide +kernel
theorem dX12_today_186 : decode cX12_today 186 = .ok (.istore 6, 2) := by decide +kernel
theorem dX12_today_188 : decode cX12_today 188 = .ok (.iinc 7 1, 3) := by decide +kernel
theorem dX12_today_191 : decode cX12_today 191 = .ok (.goto (-87), 3) := by decide +kernel
theorem dX12_today_194 : decode cX12_today 194 = .ok (.iload_n 2, 1) := by decide +kernel
theorem dX12_today_195 : decode cX12_today 195 = .ok (.ifCond .lt 21, 3) := by decide +kernel
theorem dX12_today_198 : decode cX12_today 198 = .ok (.iload 5, 2) := by decide +kernel
theorem dX12_today_200 : decode cX12_today 200 = .ok (.iload_n 2, 1) := by decide +kernel
theorem dX12_today_201 : decode cX12_today 201 = .ok (.if_icmp .lt 15, 3) := by decide +kernel
theorem dX12_today_204 : decode cX12_today 204 = .ok (.iload 5, 2) := by decide +kernel
theorem dX12_today_206 : decode cX12_today 206 = .ok (.iload_n 2, 1) := by decide +kernel
theorem dX12_today_207 : decode cX12_today 207 = .ok (.if_icmp .ne 47, 3) := by decide +kernel
theorem dX12_today_210 : decode cX12_today 210 = .ok (.iload 6, 2) := by decide +kernel
theorem dX12_today_212 : decode cX12_today 212 = .ok (.iload_n 3, 1) := by decide +kernel
theorem dX12_today_213 : decode cX12_today 213 = .ok (.if_icmp .le 41, 3) := by decide +kernel
theorem dX12_today_216 : decode cX12_today 216 = .ok (.iload 5, 2) := by decide +kernel
theorem dX12_today_218 : decode cX12_today 218 = .ok (.istore_n 2, 1) := by decide +kernel
theorem dX12_today_219 : decode cX12_today 219 = .ok (.iload 6, 2) := by decide +kernel
theorem dX12_today_221 : decode cX12_today 221 = .ok (.istore_n 3, 1) := by decide +kernel
theorem dX12_today_222 : decode cX12_today 222 = .ok (.iconst 0, 1) := by decide +kernel
theorem dX12_today_223 : decode cX12_today 223 = .ok (.istore 7, 2) := by decide +kernel
theorem dX12_today_225 : decode cX12_today 225 = .ok (.iload 7, 2) := by decide +kernel
theorem dX12_today_227 : decode cX12_today 227 = .ok (.aload_n 0, 1) := by decide +kernel
theorem dX12_today_228 : decode cX12_today 228 = .ok (.getfield 69, 3) := by decide +kernel
theorem dX12_today_231 : decode cX12_today 231 = .ok (.if_icmp .ge 23, 3) := by decide +kernel
theorem dX12_today_234 : decode cX12_today 234 = .ok (.aload_n 0, 1) := by decide +kernel
theorem dX12_today_235 : decode cX12_today 235 = .ok (.getfield 59, 3) := by decide +kernel
theorem dX12_today_238 : decode cX12_today 238 = .ok (.iload 7, 2) := by decide +kernel
theorem dX12_today_240 : decode cX12_today 240 = .ok (.aload_n 0, 1) := by decide +kernel
theorem dX12_today_241 : decode cX12_today 241 = .ok (.getfield 56, 3) := by decide +kernel
theorem dX12_today_244 : decode cX12_today 244 = .ok (.iload 7, 2) := by decide +kernel
theorem dX12_today_246 : decode cX12_today 246 = .ok (.iaload, 1) := by decide +kernel
theorem dX12_today_247 : decode cX12_today 247 = .ok (.iastore, 1) := by decide +kernel
theorem dX12_today_248 : decode cX12_today 248 = .ok (.iinc 7 1, 3) := by decide +kernel
theorem dX12_today_251 : decode cX12_today 251 = .ok (.goto (-26), 3) := by decide +kernel
theorem dX12_today_254 : decode cX12_today 254 = .ok (.aload_n 0, 1) := by decide +kernel
theorem dX12_today_255 : decode cX12_today 255 = .ok (.invokevirtual 216, 3) := by decide +kernel
theorem dX12_today_258 : decode cX12_today 258 = .ok (.istore 4, 2) := by decide +kernel
theorem dX12_today_260 : decode cX12_today 260 = .ok (.goto (-171), 3) := by decide +kernel
theorem dX12_today_263 : decode cX12_today 263 = .ok (.iload_n 1, 1) := by decide +kernel
theorem dX12_today_264 : decode cX12_today 264 = .ok (.ifCond .ge 7, 3) := by decide +kernel
theorem dX12_today_267 : decode cX12_today 267 = .ok (.iload_n 2, 1) := by decide +kernel
theorem dX12_today_268 : decode cX12_today 268 = .ok (.goto 9, 3) := by decide +kernel
theorem dX12_today_271 : decode cX12_today 271 = .ok (.aload_n 0, 1) := by decide +kernel
theorem dX12_today_272 : decode cX12_today 272 = .ok (.getfield 59, 3) := by decide +kernel
theorem dX12_today_275 : decode cX12_today 275 = .ok (.iload_n 1, 1) := by decide +kernel
theorem dX12_today_276 : decode cX12_today 276 = .ok (.iaload, 1) := by decide +kernel
theorem dX12_today_277 : decode cX12_today 277 = .ok (.ireturn, 1) := by decide +kernel
set_option maxRecDepth 20000 in
theorem ggX12_got_X12_in : GoodIn wsX12_got wsX12_in := goodIn_r _ [13] (by decide +kernel) (by decide +kernel)
set_option maxRecDepth 20000 in
theorem gX12_got_X12_in : GoodIn wsX12_got (va_wsS RX12 72 yX12_in wsX12_in) := goodIn_app (goodIn_of _ (by decide +kernel)) ggX12_got_X12_in
set_option maxRecDepth 20000 in
theorem ggX12_got_X12_isTerrace : GoodIn wsX12_got wsX12_isTerrace := goodIn_r _ [17, 8, 10, 11, 12, 13, 18, 19, 20, 21, 22, 23, 24, 25, 26, 27, 28, 29, 30, 31, 32, 33, 34, 35, 36, 37, 38, 39, 40, 41, 42, 43, 44, 45, 46, 47, 48, 49, 50, 51, 52, 53, 54, 55] (by decide +kernel) (by decide +kernel)
set_option maxRecDepth 20000 in
theorem gX12_got_X12_isTerrace : GoodIn wsX12_got (wsV RX12 195 RX12 yX12_isTerrace wsX12_isTerrace) := goodIn_app (goodIn_of _ (by decide +kernel)) ggX12_got_X12_isTerrace
theorem dX12_got_0 : decode cX12_got 0 = .ok (.iload_n 1, 1) := by decide +kernel
theorem dX12_got_1 : decode cX12_got 1 = .ok (.i2l, 1) := by decide +kernel
theorem dX12_got_2 : decode cX12_got 2 = .ok (.lconst 1, 1) := by decide +kernel
theorem dX12_got_3 : decode cX12_got 3 = .ok (.ldc2_w 219, 3) := by decide +kernel
theorem dX12_got_6 : decode cX12_got 6 = .ok (.invokestatic 72, 3) := by decide +kernel
theorem dX12_got_9 : decode cX12_got 9 = .ok (.ifCond .eq 34, 3) := by decide +kernel
theorem dX12_got_12 : decode cX12_got 12 = .ok (.aload_n 0, 1) := by decide +kernel
theorem dX12_got_13 : decode cX12_got 13 = .ok (.iload_n 2, 1) := by decide +kernel
theorem dX12_got_14 : decode cX12_got 14 = .ok (.invokevirtual 195, 3) := by decide +kernel
theorem dX12_got_17 : decode cX12_got 17 = .ok (.ifCond .eq 26, 3) := by decide +kernel
theorem dX12_got_20 : decode cX12_got 20 = .ok (.iload_n 3, 1) := by decide +kernel
theorem dX12_got_21 : decode cX12_got 21 = .ok (.i2l, 1) := by decide +kernel
theorem dX12_got_22 : decode cX12_got 22 = .ok (.lconst 0, 1) := by decide +kernel
theorem dX12_got_23 : decode cX12_got 23 = .ok (.ldc2_w 219, 3) := by decide +kernel
theorem dX12_got_26 : decode cX12_got 26 = .ok (.invokestatic 72, 3) := by decide +kernel
theorem dX12_got_29 : decode cX12_got 29 = .ok (.ifCond .eq 14, 3) := by decide +kernel
theorem dX12_got_32 : decode cX12_got 32 = .ok (.iload 4, 2) := by decide +kernel
theorem dX12_got_34 : decode cX12_got 34 = .ok (.i2l, 1) := by decide +kernel
theorem dX12_got_35 : decode cX12_got 35 = .ok (.lconst 0, 1) := by decide +kernel
theorem dX12_got_36 : decode cX12_got 36 = .ok (.lconst 1, 1) := by decide +kernel
theorem dX12_got_37 : decode cX12_got 37 = .ok (.invokestatic 72, 3) := by decide +kernel
theorem dX12_got_40 : decode cX12_got 40 = .ok (.ifCond .ne 7, 3) := by decide +kernel
theorem dX12_got_43 : decode cX12_got 43 = .ok (.ldc2_w 107, 3) := by decide +kernel
theorem dX12_got_46 : decode cX12_got 46 = .ok (.lreturn, 1) := by decide +kernel
theorem dX12_got_47 : decode cX12_got 47 = .ok (.iconst 0, 1) := by decide +kernel
theorem dX12_got_48 : decode cX12_got 48 = .ok (.istore 5, 2) := by decide +kernel
theorem dX12_got_50 : decode cX12_got 50 = .ok (.iload 5, 2) := by decide +kernel
theorem dX12_got_52 : decode cX12_got 52 = .ok (.bipush 13, 2) := by decide +kernel
theorem dX12_got_54 : decode cX12_got 54 = .ok (.if_icmp .ge 26, 3) := by decide +kernel
theorem dX12_got_57 : decode cX12_got 57 = .ok (.aload_n 0, 1) := by decide +kernel
theorem dX12_got_58 : decode cX12_got 58 = .ok (.getfield 62, 3) := by decide +kernel
theorem dX12_got_61 : decode cX12_got 61 = .ok (.iload 5, 2) := by decide +kernel
theorem dX12_got_63 : decode cX12_got 63 = .ok (.iload 5, 2) := by decide +kernel
theorem dX12_got_65 : decode cX12_got 65 = .ok (.ifCond .ne 7, 3) := by decide +kernel
theorem dX12_got_68 : decode cX12_got 68 = .ok (.lconst 1, 1) := by decide +kernel
theorem dX12_got_69 : decode cX12_got 69 = .ok (.goto 4, 3) := by decide +kernel
theorem dX12_got_72 : decode cX12_got 72 = .ok (.lconst 0, 1) := by decide +kernel
theorem dX12_got_73 : decode cX12_got 73 = .ok (.lastore, 1) := by decide +kernel
theorem dX12_got_74 : decode cX12_got 74 = .ok (.iinc 5 1, 3) := by decide +kernel
theorem dX12_got_77 : decode cX12_got 77 = .ok (.goto (-27), 3) := by decide +kernel
theorem dX12_got_80 : decode cX12_got 80 = .ok (.lconst 1, 1) := by decide +kernel
theorem dX12_got_81 : decode cX12_got 81 = .ok (.lstore 5, 2) := by decide +kernel
theorem dX12_got_83 : decode cX12_got 83 = .ok (.iconst 0, 1) := by decide +kernel
theorem dX12_got_84 : decode cX12_got 84 = .ok (.istore 7, 2) := by decide +kernel
theorem dX12_got_86 : decode cX12_got 86 = .ok (.iload 7, 2) := by decide +kernel
theorem dX12_got_88 : decode cX12_got 88 = .ok (.iload_n 1, 1) := by decide +kernel
theorem dX12_got_89 : decode cX12_got 89 = .ok (.if_icmp .ge 138, 3) := by decide +kernel
theorem dX12_got_92 : decode cX12_got 92 = .ok (.aload_n 0, 1) := by decide +kernel
theorem dX12_got_93 : decode cX12_got 93 = .ok (.getfield 26, 3) := by decide +kernel
theorem dX12_got_96 : decode cX12_got 96 = .ok (.aload_n 0, 1) := by decide +kernel
theorem dX12_got_97 : decode cX12_got 97 = .ok (.getfield 189, 3) := by decide +kernel
theorem dX12_got_100 : decode cX12_got 100 = .ok (.iload 7, 2) := by decide +kernel
theorem dX12_got_102 : decode cX12_got 102 = .ok (.iadd, 1) := by decide +kernel
theorem dX12_got_103 : decode cX12_got 103 = .ok (.aload_n 0, 1) := by decide +kernel
theorem dX12_got_104 : decode cX12_got 104 = .ok (.getfield 22, 3) := by decide +kernel
theorem dX12_got_107 : decode cX12_got 107 = .ok (.irem, 1) := by decide +kernel
theorem dX12_got_108 : decode cX12_got 108 = .ok (.iaload, 1) := by decide +kernel
theorem dX12_got_109 : decode cX12_got 109 = .ok (.istore 8, 2) := by decide +kernel
theorem dX12_got_111 : decode cX12_got 111 = .ok (.iload 8, 2) := by decide +kernel
theorem dX12_got_113 : decode cX12_got 113 = .ok (.iload_n 2, 1) := by decide +kernel
theorem dX12_got_114 : decode cX12_got 114 = .ok (.if_icmp .ne 13, 3) := by decide +kernel
theorem dX12_got_117 : decode cX12_got 117 = .ok (.bipush 10, 2) := by decide +kernel
theorem dX12_got_119 : decode cX12_got 119 = .ok (.aload_n 0, 1) := by decide +kernel
theorem dX12_got_120 : decode cX12_got 120 = .ok (.getfield 176, 3) := by decide +kernel
theorem dX12_got_123 : decode cX12_got 123 = .ok (.isub, 1) := by decide +kernel
theorem dX12_got_124 : decode cX12_got 124 = .ok (.goto 4, 3) := by decide +kernel
theorem dX12_got_127 : decode cX12_got 127 = .ok (.iconst 0, 1) := by decide +kernel
theorem dX12_got_128 : decode cX12_got 128 = .ok (.iload 8, 2) := by decide +kernel
theorem dX12_got_130 : decode cX12_got 130 = .ok (.iconst 1, 1) := by decide +kernel
theorem dX12_got_131 : decode cX12_got 131 = .ok (.iadd, 1) := by decide +kernel
theorem dX12_got_132 : decode cX12_got 132 = .ok (.aload_n 0, 1) := by decide +kernel
theorem dX12_got_133 : decode cX12_got 133 = .ok (.getfield 69, 3) := by decide +kernel
theorem dX12_got_136 : decode cX12_got 136 = .ok (.irem, 1) := by decide +kernel
theorem dX12_got_137 : decode cX12_got 137 = .ok (.iload_n 2, 1) := by decide +kernel
theorem dX12_got_138 : decode cX12_got 138 = .ok (.if_icmp .ne 10, 3) := by decide +kernel
theorem dX12_got_141 : decode cX12_got 141 = .ok (.aload_n 0, 1) := by decide +kernel
theorem dX12_got_142 : decode cX12_got 142 = .ok (.getfield 176, 3) := by decide +kernel
theorem dX12_got_145 : decode cX12_got 145 = .ok (.goto 4, 3) := by decide +kernel
theorem dX12_got_148 : decode cX12_got 148 = .ok (.iconst 0, 1) := by decide +kernel
theorem dX12_got_149 : decode cX12_got 149 = .ok (.iadd, 1) := by decide +kernel
theorem dX12_got_150 : decode cX12_got 150 = .ok (.istore 9, 2) := by decide +kernel
theorem dX12_got_152 : decode cX12_got 152 = .ok (.iload 7, 2) := by decide +kernel
theorem dX12_got_154 : decode cX12_got 154 = .ok (.iconst 1, 1) := by decide +kernel
theorem dX12_got_155 : decode cX12_got 155 = .ok (.iadd, 1) := by decide +kernel
theorem dX12_got_156 : decode cX12_got 156 = .ok (.istore 10, 2) := by decide +kernel
theorem dX12_got_158 : decode cX12_got 158 = .ok (.iload 10, 2) := by decide +kernel
theorem dX12_got_160 : decode cX12_got 160 = .ok (.ifCond .lt 53, 3) := by decide +kernel
theorem dX12_got_163 : decode cX12_got 163 = .ok (.aload_n 0, 1) := by decide +kernel
theorem dX12_got_164 : decode cX12_got 164 = .ok (.getfield 62, 3) := by decide +kernel
theorem dX12_got_167 : decode cX12_got 167 = .ok (.iload 10, 2) := by decide +kernel
theorem dX12_got_169 : decode cX12_got 169 = .ok (.aload_n 0, 1) := by decide +kernel
theorem dX12_got_170 : decode cX12_got 170 = .ok (.getfield 62, 3) := by decide +kernel
theorem dX12_got_173 : decode cX12_got 173 = .ok (.iload 10, 2) := by decide +kernel
theorem dX12_got_175 : decode cX12_got 175 = .ok (.laload, 1) := by decide +kernel
theorem dX12_got_176 : decode cX12_got 176 = .ok (.bipush 10, 2) := by decide +kernel
theorem dX12_got_178 : decode cX12_got 178 = .ok (.iload 9, 2) := by decide +kernel
theorem dX12_got_180 : decode cX12_got 180 = .ok (.isub, 1) := by decide +kernel
theorem dX12_got_181 : decode cX12_got 181 = .ok (.i2l, 1) := by decide +kernel
theorem dX12_got_182 : decode cX12_got 182 = .ok (.lmul, 1) := by decide +kernel
theorem dX12_got_183 : decode cX12_got 183 = .ok (.iload 10, 2) := by decide +kernel
theorem dX12_got_185 : decode cX12_got 185 = .ok (.ifCond .ne 7, 3) := by decide +kernel
theorem dX12_got_188 : decode cX12_got 188 = .ok (.lconst 0, 1) := by decide +kernel
theorem dX12_got_189 : decode cX12_got 189 = .ok (.goto 16, 3) := by decide +kernel
theorem dX12_got_192 : decode cX12_got 192 = .ok (.aload_n 0, 1) := by decide +kernel
theorem dX12_got_193 : decode cX12_got 193 = .ok (.getfield 62, 3) := by decide +kernel
theorem dX12_got_196 : decode cX12_got 196 = .ok (.iload 10, 2) := by decide +kernel
theorem dX12_got_198 : decode cX12_got 198 = .ok (.iconst 1, 1) := by decide +kernel
theorem dX12_got_199 : decode cX12_got 199 = .ok (.isub, 1) := by decide +kernel
theorem dX12_got_200 : decode cX12_got 200 = .ok (.laload, 1) := by decide +kernel
theorem dX12_got_201 : decode cX12_got 201 = .ok (.iload 9, 2) := by decide +kernel
theorem dX12_got_203 : decode cX12_got 203 = .ok (.i2l, 1) := by decide +kernel
theorem dX12_got_204 : decode cX12_got 204 = .ok (.lmul, 1) := by decide +kernel
theorem dX12_got_205 : decode cX12_got 205 = .ok (.ladd, 1) := by decide +kernel
theorem dX12_got_206 : decode cX12_got 206 = .ok (.lastore, 1) := by decide +kernel
theorem dX12_got_207 : decode cX12_got 207 = .ok (.iinc 10 (-1), 3) := by decide +kernel
theorem dX12_got_210 : decode cX12_got 210 = .ok (.goto (-52), 3) := by decide +kernel
theorem dX12_got_213 : decode cX12_got 213 = .ok (.lload 5, 2) := by decide +kernel
theorem dX12_got_215 : decode cX12_got 215 = .ok (.ldc2_w 109, 3) := by decide +kernel
theorem dX12_got_218 : decode cX12_got 218 = .ok (.lmul, 1) := by decide +kernel
theorem dX12_got_219 : decode cX12_got 219 = .ok (.lstore 5, 2) := by decide +kernel
theorem dX12_got_221 : decode cX12_got 221 = .ok (.iinc 7 1, 3) := by decide +kernel
theorem dX12_got_224 : decode cX12_got 224 = .ok (.goto (-138), 3) := by decide +kernel
theorem dX12_got_227 : decode cX12_got 227 = .ok (.aload_n 0, 1) := by decide +kernel
theorem dX12_got_228 : decode cX12_got 228 = .ok (.getfield 62, 3) := by decide +kernel
theorem dX12_got_231 : decode cX12_got 231 = .ok (.iload_n 3, 1) := by decide +kernel
theorem dX12_got_232 : decode cX12_got 232 = .ok (.laload, 1) := by decide +kernel
theorem dX12_got_233 : decode cX12_got 233 = .ok (.lstore 7, 2) := by decide +kernel
theorem dX12_got_235 : decode cX12_got 235 = .ok (.lload 5, 2) := by decide +kernel
theorem dX12_got_237 : decode cX12_got 237 = .ok (.lstore 9, 2) := by decide +kernel
theorem dX12_got_239 : decode cX12_got 239 = .ok (.lload 9, 2) := by decide +kernel
theorem dX12_got_241 : decode cX12_got 241 = .ok (.lconst 0, 1) := by decide +kernel
theorem dX12_got_242 : decode cX12_got 242 = .ok (.lcmp, 1) := by decide +kernel
theorem dX12_got_243 : decode cX12_got 243 = .ok (.ifCond .eq 21, 3) := by decide +kernel
theorem dX12_got_246 : decode cX12_got 246 = .ok (.lload 7, 2) := by decide +kernel
theorem dX12_got_248 : decode cX12_got 248 = .ok (.lload 9, 2) := by decide +kernel
theorem dX12_got_250 : decode cX12_got 250 = .ok (.lrem, 1) := by decide +kernel
theorem dX12_got_251 : decode cX12_got 251 = .ok (.lstore 11, 2) := by decide +kernel
theorem dX12_got_253 : decode cX12_got 253 = .ok (.lload 9, 2) := by decide +kernel
theorem dX12_got_255 : decode cX12_got 255 = .ok (.lstore 7, 2) := by decide +kernel
theorem dX12_got_257 : decode cX12_got 257 = .ok (.lload 11, 2) := by decide +kernel
theorem dX12_got_259 : decode cX12_got 259 = .ok (.lstore 9, 2) := by decide +kernel
theorem dX12_got_261 : decode cX12_got 261 = .ok (.goto (-22), 3) := by decide +kernel
theorem dX12_got_264 : decode cX12_got 264 = .ok (.iload 4, 2) := by decide +kernel
theorem dX12_got_266 : decode cX12_got 266 = .ok (.ifCond .ne 15, 3) := by decide +kernel
theorem dX12_got_269 : decode cX12_got 269 = .ok (.aload_n 0, 1) := by decide +kernel
theorem dX12_got_270 : decode cX12_got 270 = .ok (.getfield 62, 3) := by decide +kernel
theorem dX12_got_273 : decode cX12_got 273 = .ok (.iload_n 3, 1) := by decide +kernel
theorem dX12_got_274 : decode cX12_got 274 = .ok (.laload, 1) := by decide +kernel
theorem dX12_got_275 : decode cX12_got 275 = .ok (.lload 7, 2) := by decide +kernel
theorem dX12_got_277 : decode cX12_got 277 = .ok (.ldiv, 1) := by decide +kernel
theorem dX12_got_278 : decode cX12_got 278 = .ok (.goto 8, 3) := by decide +kernel
theorem dX12_got_281 : decode cX12_got 281 = .ok (.lload 5, 2) := by decide +kernel
theorem dX12_got_283 : decode cX12_got 283 = .ok (.lload 7, 2) := by decide +kernel
theorem dX12_got_285 : decode cX12_got 285 = .ok (.ldiv, 1) := by decide +kernel
theorem dX12_got_286 : decode cX12_got 286 = .ok (.lreturn, 1) := by decide +kernel
set_option maxRecDepth 20000 in
theorem ggX12_lacksBy_X12_dripOf : GoodIn wsX12_lacksBy wsX12_dripOf := goodIn_r _ [12, 13, 14, 19, 20, 21, 22, 23, 24, 25, 26, 27, 28, 29, 30, 31, 32, 33, 34, 35, 36, 37, 38, 39, 40, 41, 42, 43, 44, 45, 46, 47, 48, 49, 50, 51, 52, 53, 54, 55, 56] (by decide +kernel) (by decide +kernel)
set_option maxRecDepth 20000 in
theorem gX12_lacksBy_X12_dripOf : GoodIn wsX12_lacksBy (wsV RX12 182 RX12 yX12_dripOf wsX12_dripOf) := goodIn_app (goodIn_of _ (by decide +kernel)) ggX12_lacksBy_X12_dripOf
set_option maxRecDepth 20000 in
theorem ggX12_lacksBy_X12_figure : GoodIn wsX12_lacksBy wsX12_figure := goodIn_r _ [18, 1, 19, 20, 21, 22, 23, 24, 25, 26, 27, 28, 29, 30, 31, 32, 33, 34, 35, 36, 37, 38, 39, 40, 41, 42, 43, 44, 45, 46, 47, 48, 49, 50, 51, 52, 53, 54, 55, 56] (by decide +kernel) (by decide +kernel)
set_option maxRecDepth 20000 in
theorem gX12_lacksBy_X12_figure : GoodIn wsX12_lacksBy (wsV RX12 221 RX12 yX12_figure wsX12_figure) := goodIn_app (goodIn_of _ (by decide +kernel)) ggX12_lacksBy_X12_figure
theorem dX12_lacksBy_0 : decode cX12_lacksBy 0 = .ok (.iconst 0, 1) := by decide +kernel
theorem dX12_lacksBy_1 : decode cX12_lacksBy 1 = .ok (.istore 4, 2) := by decide +kernel
theorem dX12_lacksBy_3 : decode cX12_lacksBy 3 = .ok (.iload 4, 2) := by decide +kernel
theorem dX12_lacksBy_5 : decode cX12_lacksBy 5 = .ok (.aload_n 0, 1) := by decide +kernel
theorem dX12_lacksBy_6 : decode cX12_lacksBy 6 = .ok (.getfield 69, 3) := by decide +kernel
theorem dX12_lacksBy_9 : decode cX12_lacksBy 9 = .ok (.if_icmp .ge 23, 3) := by decide +kernel
theorem dX12_lacksBy_12 : decode cX12_lacksBy 12 = .ok (.aload_n 0, 1) := by decide +kernel
theorem dX12_lacksBy_13 : decode cX12_lacksBy 13 = .ok (.getfield 66, 3) := by decide +kernel
theorem dX12_lacksBy_16 : decode cX12_lacksBy 16 = .ok (.iload 4, 2) := by decide +kernel
theorem dX12_lacksBy_18 : decode cX12_lacksBy 18 = .ok (.aload_n 0, 1) := by decide +kernel
theorem dX12_lacksBy_19 : decode cX12_lacksBy 19 = .ok (.getfield 29, 3) := by decide +kernel
theorem dX12_lacksBy_22 : decode cX12_lacksBy 22 = .ok (.iload 4, 2) := by decide +kernel
theorem dX12_lacksBy_24 : decode cX12_lacksBy 24 = .ok (.iaload, 1) := by decide +kernel
theorem dX12_lacksBy_25 : decode cX12_lacksBy 25 = .ok (.iastore, 1) := by decide +kernel
theorem dX12_lacksBy_26 : decode cX12_lacksBy 26 = .ok (.iinc 4 1, 3) := by decide +kernel
theorem dX12_lacksBy_29 : decode cX12_lacksBy 29 = .ok (.goto (-26), 3) := by decide +kernel
theorem dX12_lacksBy_32 : decode cX12_lacksBy 32 = .ok (.iconst 0, 1) := by decide +kernel
theorem dX12_lacksBy_33 : decode cX12_lacksBy 33 = .ok (.istore 4, 2) := by decide +kernel
theorem dX12_lacksBy_35 : decode cX12_lacksBy 35 = .ok (.iconst 0, 1) := by decide +kernel
theorem dX12_lacksBy_36 : decode cX12_lacksBy 36 = .ok (.istore 5, 2) := by decide +kernel
theorem dX12_lacksBy_38 : decode cX12_lacksBy 38 = .ok (.iconst 0, 1) := by decide +kernel
theorem dX12_lacksBy_39 : decode cX12_lacksBy 39 = .ok (.istore 6, 2) := by decide +kernel
theorem dX12_lacksBy_41 : decode cX12_lacksBy 41 = .ok (.iload 6, 2) := by decide +kernel
theorem dX12_lacksBy_43 : decode cX12_lacksBy 43 = .ok (.iload_n 3, 1) := by decide +kernel
theorem dX12_lacksBy_44 : decode cX12_lacksBy 44 = .ok (.if_icmp .ge 170, 3) := by decide +kernel
theorem dX12_lacksBy_47 : decode cX12_lacksBy 47 = .ok (.iload 6, 2) := by decide +kernel
theorem dX12_lacksBy_49 : decode cX12_lacksBy 49 = .ok (.ifCond .ne 10, 3) := by decide +kernel
theorem dX12_lacksBy_52 : decode cX12_lacksBy 52 = .ok (.aload_n 0, 1) := by decide +kernel
theorem dX12_lacksBy_53 : decode cX12_lacksBy 53 = .ok (.getfield 186, 3) := by decide +kernel
theorem dX12_lacksBy_56 : decode cX12_lacksBy 56 = .ok (.goto 14, 3) := by decide +kernel
theorem dX12_lacksBy_59 : decode cX12_lacksBy 59 = .ok (.aload_n 0, 1) := by decide +kernel
theorem dX12_lacksBy_60 : decode cX12_lacksBy 60 = .ok (.aload_n 0, 1) := by decide +kernel
theorem dX12_lacksBy_61 : decode cX12_lacksBy 61 = .ok (.getfield 179, 3) := by decide +kernel
theorem dX12_lacksBy_64 : decode cX12_lacksBy 64 = .ok (.iload 6, 2) := by decide +kernel
theorem dX12_lacksBy_66 : decode cX12_lacksBy 66 = .ok (.iadd, 1) := by decide +kernel
theorem dX12_lacksBy_67 : decode cX12_lacksBy 67 = .ok (.invokevirtual 182, 3) := by decide +kernel
theorem dX12_lacksBy_70 : decode cX12_lacksBy 70 = .ok (.istore 7, 2) := by decide +kernel
theorem dX12_lacksBy_72 : decode cX12_lacksBy 72 = .ok (.iconst 0, 1) := by decide +kernel
theorem dX12_lacksBy_73 : decode cX12_lacksBy 73 = .ok (.istore 8, 2) := by decide +kernel
theorem dX12_lacksBy_75 : decode cX12_lacksBy 75 = .ok (.iload 8, 2) := by decide +kernel
theorem dX12_lacksBy_77 : decode cX12_lacksBy 77 = .ok (.iload 7, 2) := by decide +kernel
theorem dX12_lacksBy_79 : decode cX12_lacksBy 79 = .ok (.if_icmp .ge 31, 3) := by decide +kernel
theorem dX12_lacksBy_82 : decode cX12_lacksBy 82 = .ok (.aload_n 0, 1) := by decide +kernel
theorem dX12_lacksBy_83 : decode cX12_lacksBy 83 = .ok (.getfield 66, 3) := by decide +kernel
theorem dX12_lacksBy_86 : decode cX12_lacksBy 86 = .ok (.aload_n 0, 1) := by decide +kernel
theorem dX12_lacksBy_87 : decode cX12_lacksBy 87 = .ok (.iload_n 1, 1) := by decide +kernel
theorem dX12_lacksBy_88 : decode cX12_lacksBy 88 = .ok (.iload_n 2, 1) := by decide +kernel
theorem dX12_lacksBy_89 : decode cX12_lacksBy 89 = .ok (.iload 5, 2) := by decide +kernel
theorem dX12_lacksBy_91 : decode cX12_lacksBy 91 = .ok (.iload_n 2, 1) := by decide +kernel
theorem dX12_lacksBy_92 : decode cX12_lacksBy 92 = .ok (.irem, 1) := by decide +kernel
theorem dX12_lacksBy_93 : decode cX12_lacksBy 93 = .ok (.invokevirtual 221, 3) := by decide +kernel
theorem dX12_lacksBy_96 : decode cX12_lacksBy 96 = .ok (.dup2, 1) := by decide +kernel
theorem dX12_lacksBy_97 : decode cX12_lacksBy 97 = .ok (.iaload, 1) := by decide +kernel
theorem dX12_lacksBy_98 : decode cX12_lacksBy 98 = .ok (.iconst 1, 1) := by decide +kernel
theorem dX12_lacksBy_99 : decode cX12_lacksBy 99 = .ok (.iadd, 1) := by decide +kernel
theorem dX12_lacksBy_100 : decode cX12_lacksBy 100 = .ok (.iastore, 1) := by decide +kernel
theorem dX12_lacksBy_101 : decode cX12_lacksBy 101 = .ok (.iinc 5 1, 3) := by decide +kernel
theorem dX12_lacksBy_104 : decode cX12_lacksBy 104 = .ok (.iinc 8 1, 3) := by decide +kernel
theorem dX12_lacksBy_107 : decode cX12_lacksBy 107 = .ok (.goto (-32), 3) := by decide +kernel
theorem dX12_lacksBy_110 : decode cX12_lacksBy 110 = .ok (.iconst 0, 1) := by decide +kernel
theorem dX12_lacksBy_111 : decode cX12_lacksBy 111 = .ok (.istore 8, 2) := by decide +kernel
theorem dX12_lacksBy_113 : decode cX12_lacksBy 113 = .ok (.iload 8, 2) := by decide +kernel
theorem dX12_lacksBy_115 : decode cX12_lacksBy 115 = .ok (.aload_n 0, 1) := by decide +kernel
theorem dX12_lacksBy_116 : decode cX12_lacksBy 116 = .ok (.getfield 69, 3) := by decide +kernel
theorem dX12_lacksBy_119 : decode cX12_lacksBy 119 = .ok (.if_icmp .ge 89, 3) := by decide +kernel
theorem dX12_lacksBy_122 : decode cX12_lacksBy 122 = .ok (.aload_n 0, 1) := by decide +kernel
theorem dX12_lacksBy_123 : decode cX12_lacksBy 123 = .ok (.getfield 66, 3) := by decide +kernel
theorem dX12_lacksBy_126 : decode cX12_lacksBy 126 = .ok (.iload 8, 2) := by decide +kernel
theorem dX12_lacksBy_128 : decode cX12_lacksBy 128 = .ok (.dup2, 1) := by decide +kernel
theorem dX12_lacksBy_129 : decode cX12_lacksBy 129 = .ok (.iaload, 1) := by decide +kernel
theorem dX12_lacksBy_130 : decode cX12_lacksBy 130 = .ok (.aload_n 0, 1) := by decide +kernel
theorem dX12_lacksBy_131 : decode cX12_lacksBy 131 = .ok (.getfield 16, 3) := by decide +kernel
theorem dX12_lacksBy_134 : decode cX12_lacksBy 134 = .ok (.iload 8, 2) := by decide +kernel
theorem dX12_lacksBy_136 : decode cX12_lacksBy 136 = .ok (.iaload, 1) := by decide +kernel
theorem dX12_lacksBy_137 : decode cX12_lacksBy 137 = .ok (.aload_n 0, 1) := by decide +kernel
theorem dX12_lacksBy_138 : decode cX12_lacksBy 138 = .ok (.getfield 13, 3) := by decide +kernel
theorem dX12_lacksBy_141 : decode cX12_lacksBy 141 = .ok (.iload 8, 2) := by decide +kernel
theorem dX12_lacksBy_143 : decode cX12_lacksBy 143 = .ok (.iaload, 1) := by decide +kernel
theorem dX12_lacksBy_144 : decode cX12_lacksBy 144 = .ok (.isub, 1) := by decide +kernel
theorem dX12_lacksBy_145 : decode cX12_lacksBy 145 = .ok (.iadd, 1) := by decide +kernel
theorem dX12_lacksBy_146 : decode cX12_lacksBy 146 = .ok (.iastore, 1) := by decide +kernel
theorem dX12_lacksBy_147 : decode cX12_lacksBy 147 = .ok (.iload 4, 2) := by decide +kernel
theorem dX12_lacksBy_149 : decode cX12_lacksBy 149 = .ok (.aload_n 0, 1) := by decide +kernel
theorem dX12_lacksBy_150 : decode cX12_lacksBy 150 = .ok (.getfield 66, 3) := by decide +kernel
theorem dX12_lacksBy_153 : decode cX12_lacksBy 153 = .ok (.iload 8, 2) := by decide +kernel
theorem dX12_lacksBy_155 : decode cX12_lacksBy 155 = .ok (.iaload, 1) := by decide +kernel
theorem dX12_lacksBy_156 : decode cX12_lacksBy 156 = .ok (.ifCond .ge 14, 3) := by decide +kernel
theorem dX12_lacksBy_159 : decode cX12_lacksBy 159 = .ok (.aload_n 0, 1) := by decide +kernel
theorem dX12_lacksBy_160 : decode cX12_lacksBy 160 = .ok (.getfield 66, 3) := by decide +kernel
theorem dX12_lacksBy_163 : decode cX12_lacksBy 163 = .ok (.iload 8, 2) := by decide +kernel
theorem dX12_lacksBy_165 : decode cX12_lacksBy 165 = .ok (.iaload, 1) := by decide +kernel
theorem dX12_lacksBy_166 : decode cX12_lacksBy 166 = .ok (.ineg, 1) := by decide +kernel
theorem dX12_lacksBy_167 : decode cX12_lacksBy 167 = .ok (.goto 4, 3) := by decide +kernel
theorem dX12_lacksBy_170 : decode cX12_lacksBy 170 = .ok (.iconst 0, 1) := by decide +kernel
theorem dX12_lacksBy_171 : decode cX12_lacksBy 171 = .ok (.iadd, 1) := by decide +kernel
theorem dX12_lacksBy_172 : decode cX12_lacksBy 172 = .ok (.istore 4, 2) := by decide +kernel
theorem dX12_lacksBy_174 : decode cX12_lacksBy 174 = .ok (.aload_n 0, 1) := by decide +kernel
theorem dX12_lacksBy_175 : decode cX12_lacksBy 175 = .ok (.getfield 66, 3) := by decide +kernel
theorem dX12_lacksBy_178 : decode cX12_lacksBy 178 = .ok (.iload 8, 2) := by decide +kernel
theorem dX12_lacksBy_180 : decode cX12_lacksBy 180 = .ok (.aload_n 0, 1) := by decide +kernel
theorem dX12_lacksBy_181 : decode cX12_lacksBy 181 = .ok (.getfield 66, 3) := by decide +kernel
theorem dX12_lacksBy_184 : decode cX12_lacksBy 184 = .ok (.iload 8, 2) := by decide +kernel
theorem dX12_lacksBy_186 : decode cX12_lacksBy 186 = .ok (.iaload, 1) := by decide +kernel
theorem dX12_lacksBy_187 : decode cX12_lacksBy 187 = .ok (.ifCond .ge 7, 3) := by decide +kernel
theorem dX12_lacksBy_190 : decode cX12_lacksBy 190 = .ok (.iconst 0, 1) := by decide +kernel
theorem dX12_lacksBy_191 : decode cX12_lacksBy 191 = .ok (.goto 10, 3) := by decide +kernel
theorem dX12_lacksBy_194 : decode cX12_lacksBy 194 = .ok (.aload_n 0, 1) := by decide +kernel
theorem dX12_lacksBy_195 : decode cX12_lacksBy 195 = .ok (.getfield 66, 3) := by decide +kernel
theorem dX12_lacksBy_198 : decode cX12_lacksBy 198 = .ok (.iload 8, 2) := by decide +kernel
theorem dX12_lacksBy_200 : decode cX12_lacksBy 200 = .ok (.iaload, 1) := by decide +kernel
theorem dX12_lacksBy_201 : decode cX12_lacksBy 201 = .ok (.iastore, 1) := by decide +kernel
theorem dX12_lacksBy_202 : decode cX12_lacksBy 202 = .ok (.iinc 8 1, 3) := by decide +kernel
theorem dX12_lacksBy_205 : decode cX12_lacksBy 205 = .ok (.goto (-92), 3) := by decide +kernel
theorem dX12_lacksBy_208 : decode cX12_lacksBy 208 = .ok (.iinc 6 1, 3) := by decide +kernel
theorem dX12_lacksBy_211 : decode cX12_lacksBy 211 = .ok (.goto (-170), 3) := by decide +kernel
theorem dX12_lacksBy_214 : decode cX12_lacksBy 214 = .ok (.iload 4, 2) := by decide +kernel
theorem dX12_lacksBy_216 : decode cX12_lacksBy 216 = .ok (.ireturn, 1) := by decide +kernel
theorem dX12_figure_0 : decode cX12_figure 0 = .ok (.iload_n 1, 1) := by decide +kernel
theorem dX12_figure_1 : decode cX12_figure 1 = .ok (.istore 4, 2) := by decide +kernel
theorem dX12_figure_3 : decode cX12_figure 3 = .ok (.iload_n 3, 1) := by decide +kernel
theorem dX12_figure_4 : decode cX12_figure 4 = .ok (.iconst 1, 1) := by decide +kernel
theorem dX12_figure_5 : decode cX12_figure 5 = .ok (.iadd, 1) := by decide +kernel
theorem dX12_figure_6 : decode cX12_figure 6 = .ok (.istore 5, 2) := by decide +kernel
theorem dX12_figure_8 : decode cX12_figure 8 = .ok (.iload 5, 2) := by decide +kernel
theorem dX12_figure_10 : decode cX12_figure 10 = .ok (.iload_n 2, 1) := by decide +kernel
theorem dX12_figure_11 : decode cX12_figure 11 = .ok (.if_icmp .ge 18, 3) := by decide +kernel
theorem dX12_figure_14 : decode cX12_figure 14 = .ok (.iload 4, 2) := by decide +kernel
theorem dX12_figure_16 : decode cX12_figure 16 = .ok (.aload_n 0, 1) := by decide +kernel
theorem dX12_figure_17 : decode cX12_figure 17 = .ok (.getfield 69, 3) := by decide +kernel
theorem dX12_figure_20 : decode cX12_figure 20 = .ok (.idiv, 1) := by decide +kernel
theorem dX12_figure_21 : decode cX12_figure 21 = .ok (.istore 4, 2) := by decide +kernel
theorem dX12_figure_23 : decode cX12_figure 23 = .ok (.iinc 5 1, 3) := by decide +kernel
theorem dX12_figure_26 : decode cX12_figure 26 = .ok (.goto (-18), 3) := by decide +kernel
theorem dX12_figure_29 : decode cX12_figure 29 = .ok (.iload 4, 2) := by decide +kernel
theorem dX12_figure_31 : decode cX12_figure 31 = .ok (.aload_n 0, 1) := by decide +kernel
theorem dX12_figure_32 : decode cX12_figure 32 = .ok (.getfield 69, 3) := by decide +kernel
theorem dX12_figure_35 : decode cX12_figure 35 = .ok (.irem, 1) := by decide +kernel
theorem dX12_figure_36 : decode cX12_figure 36 = .ok (.ireturn, 1) := by decide +kernel
set_option maxRecDepth 20000 in
theorem ggX12_tried_X12_in : GoodIn wsX12_tried wsX12_in := goodIn_r _ [9] (by decide +kernel) (by decide +kernel)
set_option maxRecDepth 20000 in
theorem gX12_tried_X12_in : GoodIn wsX12_tried (va_wsS RX12 72 yX12_in wsX12_in) := goodIn_app (goodIn_of _ (by decide +kernel)) ggX12_tried_X12_in
set_option maxRecDepth 20000 in
theorem ggX12_tried_X12_lacksBy : GoodIn wsX12_tried wsX12_lacksBy := goodIn_r _ [13, 5, 14, 15, 16, 17, 18, 19, 20, 21, 22, 8, 23, 24, 25, 26, 27, 28, 29, 30, 31, 32, 33, 34, 35, 36, 37, 38, 39, 40, 41, 42, 43, 44, 45, 46, 47, 48, 49, 50, 51, 52, 53, 54, 55, 56, 57, 58, 59, 60, 61, 62, 63, 64, 65, 66, 67] (by decide +kernel) (by decide +kernel)
set_option maxRecDepth 20000 in
theorem gX12_tried_X12_lacksBy : GoodIn wsX12_tried (wsV RX12 229 RX12 yX12_lacksBy wsX12_lacksBy) := goodIn_app (goodIn_of _ (by decide +kernel)) ggX12_tried_X12_lacksBy
set_option maxRecDepth 20000 in
theorem ggX12_tried_X12_figure : GoodIn wsX12_tried wsX12_figure := goodIn_r _ [29, 5, 30, 31, 32, 33, 34, 35, 36, 37, 38, 39, 40, 41, 42, 43, 44, 45, 46, 47, 48, 49, 50, 51, 52, 53, 54, 55, 56, 57, 58, 59, 60, 61, 62, 63, 64, 65, 66, 67] (by decide +kernel) (by decide +kernel)
set_option maxRecDepth 20000 in
theorem gX12_tried_X12_figure : GoodIn wsX12_tried (wsV RX12 221 RX12 yX12_figure wsX12_figure) := goodIn_app (goodIn_of _ (by decide +kernel)) ggX12_tried_X12_figure
theorem dX12_tried_0 : decode cX12_tried 0 = .ok (.iload_n 1, 1) := by decide +kernel
theorem dX12_tried_1 : decode cX12_tried 1 = .ok (.i2l, 1) := by decide +kernel
theorem dX12_tried_2 : decode cX12_tried 2 = .ok (.lconst 1, 1) := by decide +kernel
theorem dX12_tried_3 : decode cX12_tried 3 = .ok (.ldc2_w 198, 3) := by decide +kernel
theorem dX12_tried_6 : decode cX12_tried 6 = .ok (.invokestatic 72, 3) := by decide +kernel
theorem dX12_tried_9 : decode cX12_tried 9 = .ok (.ifCond .eq 29, 3) := by decide +kernel
theorem dX12_tried_12 : decode cX12_tried 12 = .ok (.iload_n 2, 1) := by decide +kernel
theorem dX12_tried_13 : decode cX12_tried 13 = .ok (.i2l, 1) := by decide +kernel
theorem dX12_tried_14 : decode cX12_tried 14 = .ok (.lconst 1, 1) := by decide +kernel
theorem dX12_tried_15 : decode cX12_tried 15 = .ok (.ldc2_w 225, 3) := by decide +kernel
theorem dX12_tried_18 : decode cX12_tried 18 = .ok (.invokestatic 72, 3) := by decide +kernel
theorem dX12_tried_21 : decode cX12_tried 21 = .ok (.ifCond .eq 17, 3) := by decide +kernel
theorem dX12_tried_24 : decode cX12_tried 24 = .ok (.iload_n 3, 1) := by decide +kernel
theorem dX12_tried_25 : decode cX12_tried 25 = .ok (.i2l, 1) := by decide +kernel
theorem dX12_tried_26 : decode cX12_tried 26 = .ok (.ldc2_w 107, 3) := by decide +kernel
theorem dX12_tried_29 : decode cX12_tried 29 = .ok (.ldc2_w 227, 3) := by decide +kernel
theorem dX12_tried_32 : decode cX12_tried 32 = .ok (.invokestatic 72, 3) := by decide +kernel
theorem dX12_tried_35 : decode cX12_tried 35 = .ok (.ifCond .ne 5, 3) := by decide +kernel
theorem dX12_tried_38 : decode cX12_tried 38 = .ok (.iconst (-1), 1) := by decide +kernel
theorem dX12_tried_39 : decode cX12_tried 39 = .ok (.ireturn, 1) := by decide +kernel
theorem dX12_tried_40 : decode cX12_tried 40 = .ok (.aload_n 0, 1) := by decide +kernel
theorem dX12_tried_41 : decode cX12_tried 41 = .ok (.getfield 69, 3) := by decide +kernel
theorem dX12_tried_44 : decode cX12_tried 44 = .ok (.ifCond .ne 6, 3) := by decide +kernel
theorem dX12_tried_47 : decode cX12_tried 47 = .ok (.bipush (-9), 2) := by decide +kernel
theorem dX12_tried_49 : decode cX12_tried 49 = .ok (.ireturn, 1) := by decide +kernel
theorem dX12_tried_50 : decode cX12_tried 50 = .ok (.iload_n 1, 1) := by decide +kernel
theorem dX12_tried_51 : decode cX12_tried 51 = .ok (.iconst 1, 1) := by decide +kernel
theorem dX12_tried_52 : decode cX12_tried 52 = .ok (.if_icmp .ne 10, 3) := by decide +kernel
theorem dX12_tried_55 : decode cX12_tried 55 = .ok (.aload_n 0, 1) := by decide +kernel
theorem dX12_tried_56 : decode cX12_tried 56 = .ok (.getfield 69, 3) := by decide +kernel
theorem dX12_tried_59 : decode cX12_tried 59 = .ok (.goto 34, 3) := by decide +kernel
theorem dX12_tried_62 : decode cX12_tried 62 = .ok (.iload_n 1, 1) := by decide +kernel
theorem dX12_tried_63 : decode cX12_tried 63 = .ok (.iconst 2, 1) := by decide +kernel
theorem dX12_tried_64 : decode cX12_tried 64 = .ok (.if_icmp .ne 15, 3) := by decide +kernel
theorem dX12_tried_67 : decode cX12_tried 67 = .ok (.aload_n 0, 1) := by decide +kernel
theorem dX12_tried_68 : decode cX12_tried 68 = .ok (.getfield 69, 3) := by decide +kernel
theorem dX12_tried_71 : decode cX12_tried 71 = .ok (.aload_n 0, 1) := by decide +kernel
theorem dX12_tried_72 : decode cX12_tried 72 = .ok (.getfield 69, 3) := by decide +kernel
theorem dX12_tried_75 : decode cX12_tried 75 = .ok (.imul, 1) := by decide +kernel
theorem dX12_tried_76 : decode cX12_tried 76 = .ok (.goto 17, 3) := by decide +kernel
theorem dX12_tried_79 : decode cX12_tried 79 = .ok (.aload_n 0, 1) := by decide +kernel
theorem dX12_tried_80 : decode cX12_tried 80 = .ok (.getfield 69, 3) := by decide +kernel
theorem dX12_tried_83 : decode cX12_tried 83 = .ok (.aload_n 0, 1) := by decide +kernel
theorem dX12_tried_84 : decode cX12_tried 84 = .ok (.getfield 69, 3) := by decide +kernel
theorem dX12_tried_87 : decode cX12_tried 87 = .ok (.imul, 1) := by decide +kernel
theorem dX12_tried_88 : decode cX12_tried 88 = .ok (.aload_n 0, 1) := by decide +kernel
theorem dX12_tried_89 : decode cX12_tried 89 = .ok (.getfield 69, 3) := by decide +kernel
theorem dX12_tried_92 : decode cX12_tried 92 = .ok (.imul, 1) := by decide +kernel
theorem dX12_tried_93 : decode cX12_tried 93 = .ok (.istore 4, 2) := by decide +kernel
theorem dX12_tried_95 : decode cX12_tried 95 = .ok (.iconst (-1), 1) := by decide +kernel
theorem dX12_tried_96 : decode cX12_tried 96 = .ok (.istore 5, 2) := by decide +kernel
theorem dX12_tried_98 : decode cX12_tried 98 = .ok (.iconst 0, 1) := by decide +kernel
theorem dX12_tried_99 : decode cX12_tried 99 = .ok (.istore 6, 2) := by decide +kernel
theorem dX12_tried_101 : decode cX12_tried 101 = .ok (.iconst 0, 1) := by decide +kernel
theorem dX12_tried_102 : decode cX12_tried 102 = .ok (.istore 7, 2) := by decide +kernel
theorem dX12_tried_104 : decode cX12_tried 104 = .ok (.iload 7, 2) := by decide +kernel
theorem dX12_tried_106 : decode cX12_tried 106 = .ok (.iload 4, 2) := by decide +kernel
theorem dX12_tried_108 : decode cX12_tried 108 = .ok (.if_icmp .ge 39, 3) := by decide +kernel
theorem dX12_tried_111 : decode cX12_tried 111 = .ok (.aload_n 0, 1) := by decide +kernel
theorem dX12_tried_112 : decode cX12_tried 112 = .ok (.iload 7, 2) := by decide +kernel
theorem dX12_tried_114 : decode cX12_tried 114 = .ok (.iload_n 1, 1) := by decide +kernel
theorem dX12_tried_115 : decode cX12_tried 115 = .ok (.iload_n 2, 1) := by decide +kernel
theorem dX12_tried_116 : decode cX12_tried 116 = .ok (.invokevirtual 229, 3) := by decide +kernel
theorem dX12_tried_119 : decode cX12_tried 119 = .ok (.istore 8, 2) := by decide +kernel
theorem dX12_tried_121 : decode cX12_tried 121 = .ok (.iload 5, 2) := by decide +kernel
theorem dX12_tried_123 : decode cX12_tried 123 = .ok (.ifCond .lt 10, 3) := by decide +kernel
theorem dX12_tried_126 : decode cX12_tried 126 = .ok (.iload 8, 2) := by decide +kernel
theorem dX12_tried_128 : decode cX12_tried 128 = .ok (.iload 5, 2) := by decide +kernel
theorem dX12_tried_130 : decode cX12_tried 130 = .ok (.if_icmp .ge 11, 3) := by decide +kernel
theorem dX12_tried_133 : decode cX12_tried 133 = .ok (.iload 8, 2) := by decide +kernel
theorem dX12_tried_135 : decode cX12_tried 135 = .ok (.istore 5, 2) := by decide +kernel
theorem dX12_tried_137 : decode cX12_tried 137 = .ok (.iload 7, 2) := by decide +kernel
theorem dX12_tried_139 : decode cX12_tried 139 = .ok (.istore 6, 2) := by decide +kernel
theorem dX12_tried_141 : decode cX12_tried 141 = .ok (.iinc 7 1, 3) := by decide +kernel
theorem dX12_tried_144 : decode cX12_tried 144 = .ok (.goto (-40), 3) := by decide +kernel
theorem dX12_tried_147 : decode cX12_tried 147 = .ok (.iload_n 3, 1) := by decide +kernel
theorem dX12_tried_148 : decode cX12_tried 148 = .ok (.ifCond .ge 8, 3) := by decide +kernel
theorem dX12_tried_151 : decode cX12_tried 151 = .ok (.iload 5, 2) := by decide +kernel
theorem dX12_tried_153 : decode cX12_tried 153 = .ok (.goto 21, 3) := by decide +kernel
theorem dX12_tried_156 : decode cX12_tried 156 = .ok (.iload_n 3, 1) := by decide +kernel
theorem dX12_tried_157 : decode cX12_tried 157 = .ok (.iload_n 1, 1) := by decide +kernel
theorem dX12_tried_158 : decode cX12_tried 158 = .ok (.if_icmp .ge 14, 3) := by decide +kernel
theorem dX12_tried_161 : decode cX12_tried 161 = .ok (.aload_n 0, 1) := by decide +kernel
theorem dX12_tried_162 : decode cX12_tried 162 = .ok (.iload 6, 2) := by decide +kernel
theorem dX12_tried_164 : decode cX12_tried 164 = .ok (.iload_n 1, 1) := by decide +kernel
theorem dX12_tried_165 : decode cX12_tried 165 = .ok (.iload_n 3, 1) := by decide +kernel
theorem dX12_tried_166 : decode cX12_tried 166 = .ok (.invokevirtual 221, 3) := by decide +kernel
theorem dX12_tried_169 : decode cX12_tried 169 = .ok (.goto 5, 3) := by decide +kernel
theorem dX12_tried_172 : decode cX12_tried 172 = .ok (.bipush (-5), 2) := by decide +kernel
theorem dX12_tried_174 : decode cX12_tried 174 = .ok (.ireturn, 1) := by decide +kernel
set_option maxRecDepth 20000 in
theorem ggX12_saw_X12_in : GoodIn wsX12_saw wsX12_in := goodIn_r _ [9] (by decide +kernel) (by decide +kernel)
set_option maxRecDepth 20000 in
theorem gX12_saw_X12_in : GoodIn wsX12_saw (va_wsS RX12 72 yX12_in wsX12_in) := goodIn_app (goodIn_of _ (by decide +kernel)) ggX12_saw_X12_in
theorem dX12_saw_0 : decode cX12_saw 0 = .ok (.iload_n 1, 1) := by decide +kernel
theorem dX12_saw_1 : decode cX12_saw 1 = .ok (.i2l, 1) := by decide +kernel
theorem dX12_saw_2 : decode cX12_saw 2 = .ok (.lconst 0, 1) := by decide +kernel
theorem dX12_saw_3 : decode cX12_saw 3 = .ok (.ldc2_w 232, 3) := by decide +kernel
theorem dX12_saw_6 : decode cX12_saw 6 = .ok (.invokestatic 72, 3) := by decide +kernel
theorem dX12_saw_9 : decode cX12_saw 9 = .ok (.ifCond .eq 21, 3) := by decide +kernel
theorem dX12_saw_12 : decode cX12_saw 12 = .ok (.iload_n 2, 1) := by decide +kernel
theorem dX12_saw_13 : decode cX12_saw 13 = .ok (.i2l, 1) := by decide +kernel
theorem dX12_saw_14 : decode cX12_saw 14 = .ok (.lconst 1, 1) := by decide +kernel
theorem dX12_saw_15 : decode cX12_saw 15 = .ok (.iconst 1, 1) := by decide +kernel
theorem dX12_saw_16 : decode cX12_saw 16 = .ok (.aload_n 0, 1) := by decide +kernel
theorem dX12_saw_17 : decode cX12_saw 17 = .ok (.getfield 69, 3) := by decide +kernel
theorem dX12_saw_20 : decode cX12_saw 20 = .ok (.ishl, 1) := by decide +kernel
theorem dX12_saw_21 : decode cX12_saw 21 = .ok (.iconst 1, 1) := by decide +kernel
theorem dX12_saw_22 : decode cX12_saw 22 = .ok (.isub, 1) := by decide +kernel
theorem dX12_saw_23 : decode cX12_saw 23 = .ok (.i2l, 1) := by decide +kernel
theorem dX12_saw_24 : decode cX12_saw 24 = .ok (.invokestatic 72, 3) := by decide +kernel
theorem dX12_saw_27 : decode cX12_saw 27 = .ok (.ifCond .ne 5, 3) := by decide +kernel
theorem dX12_saw_30 : decode cX12_saw 30 = .ok (.iconst (-1), 1) := by decide +kernel
theorem dX12_saw_31 : decode cX12_saw 31 = .ok (.ireturn, 1) := by decide +kernel
theorem dX12_saw_32 : decode cX12_saw 32 = .ok (.aload_n 0, 1) := by decide +kernel
theorem dX12_saw_33 : decode cX12_saw 33 = .ok (.getfield 192, 3) := by decide +kernel
theorem dX12_saw_36 : decode cX12_saw 36 = .ok (.bipush 8, 2) := by decide +kernel
theorem dX12_saw_38 : decode cX12_saw 38 = .ok (.if_icmp .ne 6, 3) := by decide +kernel
theorem dX12_saw_41 : decode cX12_saw 41 = .ok (.bipush (-3), 2) := by decide +kernel
theorem dX12_saw_43 : decode cX12_saw 43 = .ok (.ireturn, 1) := by decide +kernel
theorem dX12_saw_44 : decode cX12_saw 44 = .ok (.aload_n 0, 1) := by decide +kernel
theorem dX12_saw_45 : decode cX12_saw 45 = .ok (.getfield 38, 3) := by decide +kernel
theorem dX12_saw_48 : decode cX12_saw 48 = .ok (.aload_n 0, 1) := by decide +kernel
theorem dX12_saw_49 : decode cX12_saw 49 = .ok (.getfield 192, 3) := by decide +kernel
theorem dX12_saw_52 : decode cX12_saw 52 = .ok (.iload_n 1, 1) := by decide +kernel
theorem dX12_saw_53 : decode cX12_saw 53 = .ok (.iastore, 1) := by decide +kernel
theorem dX12_saw_54 : decode cX12_saw 54 = .ok (.aload_n 0, 1) := by decide +kernel
theorem dX12_saw_55 : decode cX12_saw 55 = .ok (.getfield 41, 3) := by decide +kernel
theorem dX12_saw_58 : decode cX12_saw 58 = .ok (.aload_n 0, 1) := by decide +kernel
theorem dX12_saw_59 : decode cX12_saw 59 = .ok (.getfield 192, 3) := by decide +kernel
theorem dX12_saw_62 : decode cX12_saw 62 = .ok (.iload_n 2, 1) := by decide +kernel
theorem dX12_saw_63 : decode cX12_saw 63 = .ok (.iastore, 1) := by decide +kernel
theorem dX12_saw_64 : decode cX12_saw 64 = .ok (.aload_n 0, 1) := by decide +kernel
theorem dX12_saw_65 : decode cX12_saw 65 = .ok (.dup, 1) := by decide +kernel
theorem dX12_saw_66 : decode cX12_saw 66 = .ok (.getfield 192, 3) := by decide +kernel
theorem dX12_saw_69 : decode cX12_saw 69 = .ok (.iconst 1, 1) := by decide +kernel
theorem dX12_saw_70 : decode cX12_saw 70 = .ok (.iadd, 1) := by decide +kernel
theorem dX12_saw_71 : decode cX12_saw 71 = .ok (.putfield 192, 3) := by decide +kernel
theorem dX12_saw_74 : decode cX12_saw 74 = .ok (.aload_n 0, 1) := by decide +kernel
theorem dX12_saw_75 : decode cX12_saw 75 = .ok (.getfield 192, 3) := by decide +kernel
theorem dX12_saw_78 : decode cX12_saw 78 = .ok (.ireturn, 1) := by decide +kernel
theorem dX12_forget_0 : decode cX12_forget 0 = .ok (.aload_n 0, 1) := by decide +kernel
theorem dX12_forget_1 : decode cX12_forget 1 = .ok (.getfield 192, 3) := by decide +kernel
theorem dX12_forget_4 : decode cX12_forget 4 = .ok (.istore_n 1, 1) := by decide +kernel
theorem dX12_forget_5 : decode cX12_forget 5 = .ok (.aload_n 0, 1) := by decide +kernel
theorem dX12_forget_6 : decode cX12_forget 6 = .ok (.iconst 0, 1) := by decide +kernel
theorem dX12_forget_7 : decode cX12_forget 7 = .ok (.putfield 192, 3) := by decide +kernel
theorem dX12_forget_10 : decode cX12_forget 10 = .ok (.iload_n 1, 1) := by decide +kernel
theorem dX12_forget_11 : decode cX12_forget 11 = .ok (.ireturn, 1) := by decide +kernel
theorem dX12_heard_0 : decode cX12_heard 0 = .ok (.bipush 63, 2) := by decide +kernel
theorem dX12_heard_2 : decode cX12_heard 2 = .ok (.istore_n 2, 1) := by decide +kernel
theorem dX12_heard_3 : decode cX12_heard 3 = .ok (.iconst 0, 1) := by decide +kernel
theorem dX12_heard_4 : decode cX12_heard 4 = .ok (.istore_n 3, 1) := by decide +kernel
theorem dX12_heard_5 : decode cX12_heard 5 = .ok (.iload_n 3, 1) := by decide +kernel
theorem dX12_heard_6 : decode cX12_heard 6 = .ok (.aload_n 0, 1) := by decide +kernel
theorem dX12_heard_7 : decode cX12_heard 7 = .ok (.getfield 192, 3) := by decide +kernel
theorem dX12_heard_10 : decode cX12_heard 10 = .ok (.if_icmp .ge 33, 3) := by decide +kernel
theorem dX12_heard_13 : decode cX12_heard 13 = .ok (.iload_n 2, 1) := by decide +kernel
theorem dX12_heard_14 : decode cX12_heard 14 = .ok (.aload_n 0, 1) := by decide +kernel
theorem dX12_heard_15 : decode cX12_heard 15 = .ok (.getfield 38, 3) := by decide +kernel
theorem dX12_heard_18 : decode cX12_heard 18 = .ok (.iload_n 3, 1) := by decide +kernel
theorem dX12_heard_19 : decode cX12_heard 19 = .ok (.iaload, 1) := by decide +kernel
theorem dX12_heard_20 : decode cX12_heard 20 = .ok (.iload_n 1, 1) := by decide +kernel
theorem dX12_heard_21 : decode cX12_heard 21 = .ok (.if_icmp .ne 12, 3) := by decide +kernel
theorem dX12_heard_24 : decode cX12_heard 24 = .ok (.aload_n 0, 1) := by decide +kernel
theorem dX12_heard_25 : decode cX12_heard 25 = .ok (.getfield 41, 3) := by decide +kernel
theorem dX12_heard_28 : decode cX12_heard 28 = .ok (.iload_n 3, 1) := by decide +kernel
theorem dX12_heard_29 : decode cX12_heard 29 = .ok (.iaload, 1) := by decide +kernel
theorem dX12_heard_30 : decode cX12_heard 30 = .ok (.goto 5, 3) := by decide +kernel
theorem dX12_heard_33 : decode cX12_heard 33 = .ok (.bipush 63, 2) := by decide +kernel
theorem dX12_heard_35 : decode cX12_heard 35 = .ok (.iand, 1) := by decide +kernel
theorem dX12_heard_36 : decode cX12_heard 36 = .ok (.istore_n 2, 1) := by decide +kernel
theorem dX12_heard_37 : decode cX12_heard 37 = .ok (.iinc 3 1, 3) := by decide +kernel
theorem dX12_heard_40 : decode cX12_heard 40 = .ok (.goto (-35), 3) := by decide +kernel
theorem dX12_heard_43 : decode cX12_heard 43 = .ok (.iload_n 2, 1) := by decide +kernel
theorem dX12_heard_44 : decode cX12_heard 44 = .ok (.ireturn, 1) := by decide +kernel
set_option maxRecDepth 20000 in
theorem ggX12_waysOf_X12_heard : GoodIn wsX12_waysOf wsX12_heard := goodIn_r _ [8, 9, 10, 11, 12, 13, 14, 15, 16, 17, 18, 19, 20, 21, 22, 23, 24, 25, 26, 27, 28, 29, 30, 31, 32, 33, 34, 35, 36, 37, 38, 39, 40, 41, 42, 43, 44, 45, 46, 47, 48, 49] (by decide +kernel) (by decide +kernel)
set_option maxRecDepth 20000 in
theorem gX12_waysOf_X12_heard : GoodIn wsX12_waysOf (wsV RX12 234 RX12 yX12_heard wsX12_heard) := goodIn_app (goodIn_of _ (by decide +kernel)) ggX12_waysOf_X12_heard
theorem dX12_waysOf_0 : decode cX12_waysOf 0 = .ok (.aload_n 0, 1) := by decide +kernel
theorem dX12_waysOf_1 : decode cX12_waysOf 1 = .ok (.getfield 26, 3) := by decide +kernel
theorem dX12_waysOf_4 : decode cX12_waysOf 4 = .ok (.iload_n 1, 1) := by decide +kernel
theorem dX12_waysOf_5 : decode cX12_waysOf 5 = .ok (.aload_n 0, 1) := by decide +kernel
theorem dX12_waysOf_6 : decode cX12_waysOf 6 = .ok (.getfield 22, 3) := by decide +kernel
theorem dX12_waysOf_9 : decode cX12_waysOf 9 = .ok (.irem, 1) := by decide +kernel
theorem dX12_waysOf_10 : decode cX12_waysOf 10 = .ok (.iaload, 1) := by decide +kernel
theorem dX12_waysOf_11 : decode cX12_waysOf 11 = .ok (.istore_n 2, 1) := by decide +kernel
theorem dX12_waysOf_12 : decode cX12_waysOf 12 = .ok (.aload_n 0, 1) := by decide +kernel
theorem dX12_waysOf_13 : decode cX12_waysOf 13 = .ok (.iload_n 1, 1) := by decide +kernel
theorem dX12_waysOf_14 : decode cX12_waysOf 14 = .ok (.invokevirtual 234, 3) := by decide +kernel
theorem dX12_waysOf_17 : decode cX12_waysOf 17 = .ok (.istore_n 3, 1) := by decide +kernel
theorem dX12_waysOf_18 : decode cX12_waysOf 18 = .ok (.iload_n 3, 1) := by decide +kernel
theorem dX12_waysOf_19 : decode cX12_waysOf 19 = .ok (.iload_n 2, 1) := by decide +kernel
theorem dX12_waysOf_20 : decode cX12_waysOf 20 = .ok (.ishr, 1) := by decide +kernel
theorem dX12_waysOf_21 : decode cX12_waysOf 21 = .ok (.iconst 1, 1) := by decide +kernel
theorem dX12_waysOf_22 : decode cX12_waysOf 22 = .ok (.iand, 1) := by decide +kernel
theorem dX12_waysOf_23 : decode cX12_waysOf 23 = .ok (.iload_n 3, 1) := by decide +kernel
theorem dX12_waysOf_24 : decode cX12_waysOf 24 = .ok (.iload_n 2, 1) := by decide +kernel
theorem dX12_waysOf_25 : decode cX12_waysOf 25 = .ok (.iconst 1, 1) := by decide +kernel
theorem dX12_waysOf_26 : decode cX12_waysOf 26 = .ok (.iadd, 1) := by decide +kernel
theorem dX12_waysOf_27 : decode cX12_waysOf 27 = .ok (.aload_n 0, 1) := by decide +kernel
theorem dX12_waysOf_28 : decode cX12_waysOf 28 = .ok (.getfield 69, 3) := by decide +kernel
theorem dX12_waysOf_31 : decode cX12_waysOf 31 = .ok (.irem, 1) := by decide +kernel
theorem dX12_waysOf_32 : decode cX12_waysOf 32 = .ok (.ishr, 1) := by decide +kernel
theorem dX12_waysOf_33 : decode cX12_waysOf 33 = .ok (.iconst 1, 1) := by decide +kernel
theorem dX12_waysOf_34 : decode cX12_waysOf 34 = .ok (.iand, 1) := by decide +kernel
theorem dX12_waysOf_35 : decode cX12_waysOf 35 = .ok (.iadd, 1) := by decide +kernel
theorem dX12_waysOf_36 : decode cX12_waysOf 36 = .ok (.ireturn, 1) := by decide +kernel
set_option maxRecDepth 20000 in
theorem ggX12_couldBe_X12_waysOf : GoodIn wsX12_couldBe wsX12_waysOf := goodIn_r _ [6, 7, 8, 1, 9, 10, 11, 5, 12, 13, 14, 15, 16, 17, 18, 19, 20, 21, 22, 23, 24, 25, 26, 27, 28, 29, 30, 31, 32, 33, 34, 35, 36, 37, 38, 39, 40, 41, 42, 43, 44, 45, 46, 47, 48, 49, 50, 51, 52, 53] (by decide +kernel) (by decide +kernel)
set_option maxRecDepth 20000 in
theorem gX12_couldBe_X12_waysOf : GoodIn wsX12_couldBe (wsV RX12 237 RX12 yX12_waysOf wsX12_waysOf) := goodIn_app (goodIn_of _ (by decide +kernel)) ggX12_couldBe_X12_waysOf
theorem dX12_couldBe_0 : decode cX12_couldBe 0 = .ok (.aload_n 0, 1) := by decide +kernel
theorem dX12_couldBe_1 : decode cX12_couldBe 1 = .ok (.getfield 69, 3) := by decide +kernel
theorem dX12_couldBe_4 : decode cX12_couldBe 4 = .ok (.ifCond .ne 7, 3) := by decide +kernel
theorem dX12_couldBe_7 : decode cX12_couldBe 7 = .ok (.iconst 0, 1) := by decide +kernel
theorem dX12_couldBe_8 : decode cX12_couldBe 8 = .ok (.goto 4, 3) := by decide +kernel
theorem dX12_couldBe_11 : decode cX12_couldBe 11 = .ok (.iconst 1, 1) := by decide +kernel
theorem dX12_couldBe_12 : decode cX12_couldBe 12 = .ok (.istore_n 2, 1) := by decide +kernel
theorem dX12_couldBe_13 : decode cX12_couldBe 13 = .ok (.iconst 0, 1) := by decide +kernel
theorem dX12_couldBe_14 : decode cX12_couldBe 14 = .ok (.istore_n 3, 1) := by decide +kernel
theorem dX12_couldBe_15 : decode cX12_couldBe 15 = .ok (.iload_n 3, 1) := by decide +kernel
theorem dX12_couldBe_16 : decode cX12_couldBe 16 = .ok (.iload_n 1, 1) := by decide +kernel
theorem dX12_couldBe_17 : decode cX12_couldBe 17 = .ok (.if_icmp .ge 24, 3) := by decide +kernel
theorem dX12_couldBe_20 : decode cX12_couldBe 20 = .ok (.aload_n 0, 1) := by decide +kernel
theorem dX12_couldBe_21 : decode cX12_couldBe 21 = .ok (.getfield 69, 3) := by decide +kernel
theorem dX12_couldBe_24 : decode cX12_couldBe 24 = .ok (.ifCond .le 17, 3) := by decide +kernel
theorem dX12_couldBe_27 : decode cX12_couldBe 27 = .ok (.iload_n 2, 1) := by decide +kernel
theorem dX12_couldBe_28 : decode cX12_couldBe 28 = .ok (.aload_n 0, 1) := by decide +kernel
theorem dX12_couldBe_29 : decode cX12_couldBe 29 = .ok (.iload_n 3, 1) := by decide +kernel
theorem dX12_couldBe_30 : decode cX12_couldBe 30 = .ok (.invokevirtual 237, 3) := by decide +kernel
theorem dX12_couldBe_33 : decode cX12_couldBe 33 = .ok (.imul, 1) := by decide +kernel
theorem dX12_couldBe_34 : decode cX12_couldBe 34 = .ok (.istore_n 2, 1) := by decide +kernel
theorem dX12_couldBe_35 : decode cX12_couldBe 35 = .ok (.iinc 3 1, 3) := by decide +kernel
theorem dX12_couldBe_38 : decode cX12_couldBe 38 = .ok (.goto (-23), 3) := by decide +kernel
theorem dX12_couldBe_41 : decode cX12_couldBe 41 = .ok (.iload_n 2, 1) := by decide +kernel
theorem dX12_couldBe_42 : decode cX12_couldBe 42 = .ok (.ireturn, 1) := by decide +kernel
set_option maxRecDepth 20000 in
theorem ggX12_could_X12_in : GoodIn wsX12_could wsX12_in := goodIn_r _ [5] (by decide +kernel) (by decide +kernel)
set_option maxRecDepth 20000 in
theorem gX12_could_X12_in : GoodIn wsX12_could (va_wsS RX12 72 yX12_in wsX12_in) := goodIn_app (goodIn_of _ (by decide +kernel)) ggX12_could_X12_in
set_option maxRecDepth 20000 in
theorem ggX12_could_X12_couldBe : GoodIn wsX12_could wsX12_couldBe := goodIn_r _ [9, 10, 11, 12, 13, 4, 14, 15, 16, 17, 18, 19, 20, 21, 22, 23, 24, 25, 26, 27, 28, 29, 30, 31, 32, 33, 34, 35, 36, 37, 38, 39, 40, 41, 42, 43, 44, 45, 46, 47, 48, 49, 50, 51, 52, 53, 54, 55, 56, 57, 58, 59, 60, 61] (by decide +kernel) (by decide +kernel)
set_option maxRecDepth 20000 in
theorem gX12_could_X12_couldBe : GoodIn wsX12_could (wsV RX12 240 RX12 yX12_couldBe wsX12_couldBe) := goodIn_app (goodIn_of _ (by decide +kernel)) ggX12_could_X12_couldBe
theorem dX12_could_0 : decode cX12_could 0 = .ok (.iload_n 1, 1) := by decide +kernel
theorem dX12_could_1 : decode cX12_could 1 = .ok (.i2l, 1) := by decide +kernel
theorem dX12_could_2 : decode cX12_could 2 = .ok (.lconst 1, 1) := by decide +kernel
theorem dX12_could_3 : decode cX12_could 3 = .ok (.ldc2_w 219, 3) := by decide +kernel
theorem dX12_could_6 : decode cX12_could 6 = .ok (.invokestatic 72, 3) := by decide +kernel
theorem dX12_could_9 : decode cX12_could 9 = .ok (.ifCond .eq 11, 3) := by decide +kernel
theorem dX12_could_12 : decode cX12_could 12 = .ok (.aload_n 0, 1) := by decide +kernel
theorem dX12_could_13 : decode cX12_could 13 = .ok (.iload_n 1, 1) := by decide +kernel
theorem dX12_could_14 : decode cX12_could 14 = .ok (.invokevirtual 240, 3) := by decide +kernel
theorem dX12_could_17 : decode cX12_could 17 = .ok (.goto 4, 3) := by decide +kernel
theorem dX12_could_20 : decode cX12_could 20 = .ok (.iconst (-1), 1) := by decide +kernel
theorem dX12_could_21 : decode cX12_could 21 = .ok (.ireturn, 1) := by decide +kernel
set_option maxRecDepth 20000 in
theorem ggX12_who_X12_in : GoodIn wsX12_who wsX12_in := goodIn_r _ [8] (by decide +kernel) (by decide +kernel)
set_option maxRecDepth 20000 in
theorem gX12_who_X12_in : GoodIn wsX12_who (va_wsS RX12 72 yX12_in wsX12_in) := goodIn_app (goodIn_of _ (by decide +kernel)) ggX12_who_X12_in
set_option maxRecDepth 20000 in
theorem ggX12_who_X12_couldBe : GoodIn wsX12_who wsX12_couldBe := goodIn_r _ [12, 4, 13, 14, 15, 7, 16, 2, 3, 17, 18, 19, 20, 21, 22, 23, 24, 25, 26, 27, 28, 29, 30, 31, 32, 33, 34, 35, 36, 37, 38, 39, 40, 41, 42, 43, 44, 45, 46, 47, 48, 49, 50, 51, 52, 53, 54, 55, 56, 57, 58, 59, 60, 61] (by decide +kernel) (by decide +kernel)
set_option maxRecDepth 20000 in
theorem gX12_who_X12_couldBe : GoodIn wsX12_who (wsV RX12 240 RX12 yX12_couldBe wsX12_couldBe) := goodIn_app (goodIn_of _ (by decide +kernel)) ggX12_who_X12_couldBe
set_option maxRecDepth 20000 in
theorem ggX12_who_X12_heard : GoodIn wsX12_who wsX12_heard := goodIn_r _ [20, 21, 22, 23, 24, 25, 26, 27, 28, 29, 30, 31, 32, 33, 34, 35, 36, 37, 38, 39, 40, 41, 42, 43, 44, 45, 46, 47, 48, 49, 50, 51, 52, 53, 54, 55, 56, 57, 58, 59, 60, 61] (by decide +kernel) (by decide +kernel)
set_option maxRecDepth 20000 in
theorem gX12_who_X12_heard : GoodIn wsX12_who (wsV RX12 234 RX12 yX12_heard wsX12_heard) := goodIn_app (goodIn_of _ (by decide +kernel)) ggX12_who_X12_heard
theorem dX12_who_0 : decode cX12_who 0 = .ok (.iload_n 1, 1) := by decide +kernel
theorem dX12_who_1 : decode cX12_who 1 = .ok (.i2l, 1) := by decide +kernel
theorem dX12_who_2 : decode cX12_who 2 = .ok (.lconst 1, 1) := by decide +kernel
theorem dX12_who_3 : decode cX12_who 3 = .ok (.ldc2_w 219, 3) := by decide +kernel
theorem dX12_who_6 : decode cX12_who 6 = .ok (.invokestatic 72, 3) := by decide +kernel
theorem dX12_who_9 : decode cX12_who 9 = .ok (.ifCond .eq 16, 3) := by decide +kernel
theorem dX12_who_12 : decode cX12_who 12 = .ok (.iload_n 2, 1) := by decide +kernel
theorem dX12_who_13 : decode cX12_who 13 = .ok (.i2l, 1) := by decide +kernel
theorem dX12_who_14 : decode cX12_who 14 = .ok (.lconst 0, 1) := by decide +kernel
theorem dX12_who_15 : decode cX12_who 15 = .ok (.iload_n 1, 1) := by decide +kernel
theorem dX12_who_16 : decode cX12_who 16 = .ok (.iconst 1, 1) := by decide +kernel
theorem dX12_who_17 : decode cX12_who 17 = .ok (.isub, 1) := by decide +kernel
theorem dX12_who_18 : decode cX12_who 18 = .ok (.i2l, 1) := by decide +kernel
theorem dX12_who_19 : decode cX12_who 19 = .ok (.invokestatic 72, 3) := by decide +kernel
theorem dX12_who_22 : decode cX12_who 22 = .ok (.ifCond .ne 5, 3) := by decide +kernel
theorem dX12_who_25 : decode cX12_who 25 = .ok (.iconst (-1), 1) := by decide +kernel
theorem dX12_who_26 : decode cX12_who 26 = .ok (.ireturn, 1) := by decide +kernel
theorem dX12_who_27 : decode cX12_who 27 = .ok (.aload_n 0, 1) := by decide +kernel
theorem dX12_who_28 : decode cX12_who 28 = .ok (.iload_n 1, 1) := by decide +kernel
theorem dX12_who_29 : decode cX12_who 29 = .ok (.invokevirtual 240, 3) := by decide +kernel
theorem dX12_who_32 : decode cX12_who 32 = .ok (.ifCond .ne 5, 3) := by decide +kernel
theorem dX12_who_35 : decode cX12_who 35 = .ok (.iconst 0, 1) := by decide +kernel
theorem dX12_who_36 : decode cX12_who 36 = .ok (.ireturn, 1) := by decide +kernel
theorem dX12_who_37 : decode cX12_who 37 = .ok (.aload_n 0, 1) := by decide +kernel
theorem dX12_who_38 : decode cX12_who 38 = .ok (.getfield 26, 3) := by decide +kernel
theorem dX12_who_41 : decode cX12_who 41 = .ok (.iload_n 2, 1) := by decide +kernel
theorem dX12_who_42 : decode cX12_who 42 = .ok (.aload_n 0, 1) := by decide +kernel
theorem dX12_who_43 : decode cX12_who 43 = .ok (.getfield 22, 3) := by decide +kernel
theorem dX12_who_46 : decode cX12_who 46 = .ok (.irem, 1) := by decide +kernel
theorem dX12_who_47 : decode cX12_who 47 = .ok (.iaload, 1) := by decide +kernel
theorem dX12_who_48 : decode cX12_who 48 = .ok (.istore_n 3, 1) := by decide +kernel
theorem dX12_who_49 : decode cX12_who 49 = .ok (.iconst 1, 1) := by decide +kernel
theorem dX12_who_50 : decode cX12_who 50 = .ok (.iload_n 3, 1) := by decide +kernel
theorem dX12_who_51 : decode cX12_who 51 = .ok (.ishl, 1) := by decide +kernel
theorem dX12_who_52 : decode cX12_who 52 = .ok (.iconst 1, 1) := by decide +kernel
theorem dX12_who_53 : decode cX12_who 53 = .ok (.iload_n 3, 1) := by decide +kernel
theorem dX12_who_54 : decode cX12_who 54 = .ok (.iconst 1, 1) := by decide +kernel
theorem dX12_who_55 : decode cX12_who 55 = .ok (.iadd, 1) := by decide +kernel
theorem dX12_who_56 : decode cX12_who 56 = .ok (.aload_n 0, 1) := by decide +kernel
theorem dX12_who_57 : decode cX12_who 57 = .ok (.getfield 69, 3) := by decide +kernel
theorem dX12_who_60 : decode cX12_who 60 = .ok (.irem, 1) := by decide +kernel
theorem dX12_who_61 : decode cX12_who 61 = .ok (.ishl, 1) := by decide +kernel
theorem dX12_who_62 : decode cX12_who 62 = .ok (.ior, 1) := by decide +kernel
theorem dX12_who_63 : decode cX12_who 63 = .ok (.aload_n 0, 1) := by decide +kernel
theorem dX12_who_64 : decode cX12_who 64 = .ok (.iload_n 2, 1) := by decide +kernel
theorem dX12_who_65 : decode cX12_who 65 = .ok (.invokevirtual 234, 3) := by decide +kernel
theorem dX12_who_68 : decode cX12_who 68 = .ok (.iand, 1) := by decide +kernel
theorem dX12_who_69 : decode cX12_who 69 = .ok (.ireturn, 1) := by decide +kernel
set_option maxRecDepth 20000 in
theorem ggX12_mark_X12_in : GoodIn wsX12_mark wsX12_in := goodIn_r _ [16] (by decide +kernel) (by decide +kernel)
set_option maxRecDepth 20000 in
theorem gX12_mark_X12_in : GoodIn wsX12_mark (va_wsS RX12 72 yX12_in wsX12_in) := goodIn_app (goodIn_of _ (by decide +kernel)) ggX12_mark_X12_in
set_option maxRecDepth 20000 in
theorem ggX12_mark_X12_isTerrace : GoodIn wsX12_mark wsX12_isTerrace := goodIn_r _ [20, 21, 13, 14, 15, 16, 22, 23, 24, 25, 26, 27, 28, 29, 30, 31, 32, 33, 34, 35, 36, 37, 38, 39, 40, 41, 42, 43, 44, 45, 46, 47, 48, 49, 50, 51, 52, 53, 54, 55, 56, 57, 58, 59] (by decide +kernel) (by decide +kernel)
set_option maxRecDepth 20000 in
theorem gX12_mark_X12_isTerrace : GoodIn wsX12_mark (wsV RX12 195 RX12 yX12_isTerrace wsX12_isTerrace) := goodIn_app (goodIn_of _ (by decide +kernel)) ggX12_mark_X12_isTerrace
theorem dX12_mark_0 : decode cX12_mark 0 = .ok (.iload_n 1, 1) := by decide +kernel
theorem dX12_mark_1 : decode cX12_mark 1 = .ok (.i2l, 1) := by decide +kernel
theorem dX12_mark_2 : decode cX12_mark 2 = .ok (.lconst 0, 1) := by decide +kernel
theorem dX12_mark_3 : decode cX12_mark 3 = .ok (.ldc2_w 243, 3) := by decide +kernel
theorem dX12_mark_6 : decode cX12_mark 6 = .ok (.invokestatic 72, 3) := by decide +kernel
theorem dX12_mark_9 : decode cX12_mark 9 = .ok (.ifCond .eq 11, 3) := by decide +kernel
theorem dX12_mark_12 : decode cX12_mark 12 = .ok (.aload_n 0, 1) := by decide +kernel
theorem dX12_mark_13 : decode cX12_mark 13 = .ok (.iload_n 2, 1) := by decide +kernel
theorem dX12_mark_14 : decode cX12_mark 14 = .ok (.invokevirtual 195, 3) := by decide +kernel
theorem dX12_mark_17 : decode cX12_mark 17 = .ok (.ifCond .ne 6, 3) := by decide +kernel
theorem dX12_mark_20 : decode cX12_mark 20 = .ok (.ldc 245, 2) := by decide +kernel
theorem dX12_mark_22 : decode cX12_mark 22 = .ok (.ireturn, 1) := by decide +kernel
theorem dX12_mark_23 : decode cX12_mark 23 = .ok (.aload_n 0, 1) := by decide +kernel
theorem dX12_mark_24 : decode cX12_mark 24 = .ok (.dup, 1) := by decide +kernel
theorem dX12_mark_25 : decode cX12_mark 25 = .ok (.getfield 246, 3) := by decide +kernel
theorem dX12_mark_28 : decode cX12_mark 28 = .ok (.iload_n 1, 1) := by decide +kernel
theorem dX12_mark_29 : decode cX12_mark 29 = .ok (.ifCond .ne 7, 3) := by decide +kernel
theorem dX12_mark_32 : decode cX12_mark 32 = .ok (.lconst 1, 1) := by decide +kernel
theorem dX12_mark_33 : decode cX12_mark 33 = .ok (.goto 50, 3) := by decide +kernel
theorem dX12_mark_36 : decode cX12_mark 36 = .ok (.iload_n 1, 1) := by decide +kernel
theorem dX12_mark_37 : decode cX12_mark 37 = .ok (.iconst 1, 1) := by decide +kernel
theorem dX12_mark_38 : decode cX12_mark 38 = .ok (.if_icmp .ne 9, 3) := by decide +kernel
theorem dX12_mark_41 : decode cX12_mark 41 = .ok (.ldc2_w 249, 3) := by decide +kernel
theorem dX12_mark_44 : decode cX12_mark 44 = .ok (.goto 39, 3) := by decide +kernel
theorem dX12_mark_47 : decode cX12_mark 47 = .ok (.iload_n 1, 1) := by decide +kernel
theorem dX12_mark_48 : decode cX12_mark 48 = .ok (.iconst 2, 1) := by decide +kernel
theorem dX12_mark_49 : decode cX12_mark 49 = .ok (.if_icmp .ne 9, 3) := by decide +kernel
theorem dX12_mark_52 : decode cX12_mark 52 = .ok (.ldc2_w 251, 3) := by decide +kernel
theorem dX12_mark_55 : decode cX12_mark 55 = .ok (.goto 28, 3) := by decide +kernel
theorem dX12_mark_58 : decode cX12_mark 58 = .ok (.iload_n 1, 1) := by decide +kernel
theorem dX12_mark_59 : decode cX12_mark 59 = .ok (.iconst 3, 1) := by decide +kernel
theorem dX12_mark_60 : decode cX12_mark 60 = .ok (.if_icmp .ne 9, 3) := by decide +kernel
theorem dX12_mark_63 : decode cX12_mark 63 = .ok (.ldc2_w 253, 3) := by decide +kernel
theorem dX12_mark_66 : decode cX12_mark 66 = .ok (.goto 17, 3) := by decide +kernel
theorem dX12_mark_69 : decode cX12_mark 69 = .ok (.iload_n 1, 1) := by decide +kernel
theorem dX12_mark_70 : decode cX12_mark 70 = .ok (.iconst 4, 1) := by decide +kernel
theorem dX12_mark_71 : decode cX12_mark 71 = .ok (.if_icmp .ne 9, 3) := by decide +kernel
theorem dX12_mark_74 : decode cX12_mark 74 = .ok (.ldc2_w 255, 3) := by decide +kernel
theorem dX12_mark_77 : decode cX12_mark 77 = .ok (.goto 6, 3) := by decide +kernel
theorem dX12_mark_80 : decode cX12_mark 80 = .ok (.ldc2_w 257, 3) := by decide +kernel
theorem dX12_mark_83 : decode cX12_mark 83 = .ok (.ladd, 1) := by decide +kernel
theorem dX12_mark_84 : decode cX12_mark 84 = .ok (.putfield 246, 3) := by decide +kernel
theorem dX12_mark_87 : decode cX12_mark 87 = .ok (.aload_n 0, 1) := by decide +kernel
theorem dX12_mark_88 : decode cX12_mark 88 = .ok (.getfield 29, 3) := by decide +kernel
theorem dX12_mark_91 : decode cX12_mark 91 = .ok (.iload_n 2, 1) := by decide +kernel
theorem dX12_mark_92 : decode cX12_mark 92 = .ok (.iaload, 1) := by decide +kernel
theorem dX12_mark_93 : decode cX12_mark 93 = .ok (.aload_n 0, 1) := by decide +kernel
theorem dX12_mark_94 : decode cX12_mark 94 = .ok (.getfield 13, 3) := by decide +kernel
theorem dX12_mark_97 : decode cX12_mark 97 = .ok (.iload_n 2, 1) := by decide +kernel
theorem dX12_mark_98 : decode cX12_mark 98 = .ok (.iaload, 1) := by decide +kernel
theorem dX12_mark_99 : decode cX12_mark 99 = .ok (.isub, 1) := by decide +kernel
theorem dX12_mark_100 : decode cX12_mark 100 = .ok (.istore_n 3, 1) := by decide +kernel
theorem dX12_mark_101 : decode cX12_mark 101 = .ok (.aload_n 0, 1) := by decide +kernel
theorem dX12_mark_102 : decode cX12_mark 102 = .ok (.getfield 29, 3) := by decide +kernel
theorem dX12_mark_105 : decode cX12_mark 105 = .ok (.iload_n 2, 1) := by decide +kernel
theorem dX12_mark_106 : decode cX12_mark 106 = .ok (.iaload, 1) := by decide +kernel
theorem dX12_mark_107 : decode cX12_mark 107 = .ok (.aload_n 0, 1) := by decide +kernel
theorem dX12_mark_108 : decode cX12_mark 108 = .ok (.getfield 16, 3) := by decide +kernel
theorem dX12_mark_111 : decode cX12_mark 111 = .ok (.iload_n 2, 1) := by decide +kernel
theorem dX12_mark_112 : decode cX12_mark 112 = .ok (.iaload, 1) := by decide +kernel
theorem dX12_mark_113 : decode cX12_mark 113 = .ok (.iadd, 1) := by decide +kernel
theorem dX12_mark_114 : decode cX12_mark 114 = .ok (.istore 4, 2) := by decide +kernel
theorem dX12_mark_116 : decode cX12_mark 116 = .ok (.iload_n 1, 1) := by decide +kernel
theorem dX12_mark_117 : decode cX12_mark 117 = .ok (.ifCond .ne 12, 3) := by decide +kernel
theorem dX12_mark_120 : decode cX12_mark 120 = .ok (.aload_n 0, 1) := by decide +kernel
theorem dX12_mark_121 : decode cX12_mark 121 = .ok (.getfield 29, 3) := by decide +kernel
theorem dX12_mark_124 : decode cX12_mark 124 = .ok (.iload_n 2, 1) := by decide +kernel
theorem dX12_mark_125 : decode cX12_mark 125 = .ok (.iaload, 1) := by decide +kernel
theorem dX12_mark_126 : decode cX12_mark 126 = .ok (.goto 58, 3) := by decide +kernel
theorem dX12_mark_129 : decode cX12_mark 129 = .ok (.iload_n 1, 1) := by decide +kernel
theorem dX12_mark_130 : decode cX12_mark 130 = .ok (.iconst 1, 1) := by decide +kernel
theorem dX12_mark_131 : decode cX12_mark 131 = .ok (.if_icmp .ne 7, 3) := by decide +kernel
theorem dX12_mark_134 : decode cX12_mark 134 = .ok (.iload_n 3, 1) := by decide +kernel
theorem dX12_mark_135 : decode cX12_mark 135 = .ok (.goto 49, 3) := by decide +kernel
theorem dX12_mark_138 : decode cX12_mark 138 = .ok (.iload_n 1, 1) := by decide +kernel
theorem dX12_mark_139 : decode cX12_mark 139 = .ok (.iconst 2, 1) := by decide +kernel
theorem dX12_mark_140 : decode cX12_mark 140 = .ok (.if_icmp .ne 8, 3) := by decide +kernel
theorem dX12_mark_143 : decode cX12_mark 143 = .ok (.iload 4, 2) := by decide +kernel
theorem dX12_mark_145 : decode cX12_mark 145 = .ok (.goto 39, 3) := by decide +kernel
theorem dX12_mark_148 : decode cX12_mark 148 = .ok (.iload_n 1, 1) := by decide +kernel
theorem dX12_mark_149 : decode cX12_mark 149 = .ok (.iconst 3, 1) := by decide +kernel
theorem dX12_mark_150 : decode cX12_mark 150 = .ok (.if_icmp .ne 9, 3) := by decide +kernel
theorem dX12_mark_153 : decode cX12_mark 153 = .ok (.iconst 2, 1) := by decide +kernel
theorem dX12_mark_154 : decode cX12_mark 154 = .ok (.iload_n 3, 1) := by decide +kernel
theorem dX12_mark_155 : decode cX12_mark 155 = .ok (.imul, 1) := by decide +kernel
theorem dX12_mark_156 : decode cX12_mark 156 = .ok (.goto 28, 3) := by decide +kernel
theorem dX12_mark_159 : decode cX12_mark 159 = .ok (.iload_n 1, 1) := by decide +kernel
theorem dX12_mark_160 : decode cX12_mark 160 = .ok (.iconst 4, 1) := by decide +kernel
theorem dX12_mark_161 : decode cX12_mark 161 = .ok (.if_icmp .ne 10, 3) := by decide +kernel
theorem dX12_mark_164 : decode cX12_mark 164 = .ok (.iload 4, 2) := by decide +kernel
theorem dX12_mark_166 : decode cX12_mark 166 = .ok (.iload_n 2, 1) := by decide +kernel
theorem dX12_mark_167 : decode cX12_mark 167 = .ok (.iadd, 1) := by decide +kernel
theorem dX12_mark_168 : decode cX12_mark 168 = .ok (.goto 16, 3) := by decide +kernel
theorem dX12_mark_171 : decode cX12_mark 171 = .ok (.aload_n 0, 1) := by decide +kernel
theorem dX12_mark_172 : decode cX12_mark 172 = .ok (.getfield 29, 3) := by decide +kernel
theorem dX12_mark_175 : decode cX12_mark 175 = .ok (.iload_n 2, 1) := by decide +kernel
theorem dX12_mark_176 : decode cX12_mark 176 = .ok (.iaload, 1) := by decide +kernel
theorem dX12_mark_177 : decode cX12_mark 177 = .ok (.aload_n 0, 1) := by decide +kernel
theorem dX12_mark_178 : decode cX12_mark 178 = .ok (.getfield 32, 3) := by decide +kernel
theorem dX12_mark_181 : decode cX12_mark 181 = .ok (.iload_n 2, 1) := by decide +kernel
theorem dX12_mark_182 : decode cX12_mark 182 = .ok (.iaload, 1) := by decide +kernel
theorem dX12_mark_183 : decode cX12_mark 183 = .ok (.isub, 1) := by decide +kernel
theorem dX12_mark_184 : decode cX12_mark 184 = .ok (.ireturn, 1) := by decide +kernel
set_option maxRecDepth 20000 in
theorem ggX12_keep_X12_in : GoodIn wsX12_keep wsX12_in := goodIn_r _ [14] (by decide +kernel) (by decide +kernel)
set_option maxRecDepth 20000 in
theorem gX12_keep_X12_in : GoodIn wsX12_keep (va_wsS RX12 72 yX12_in wsX12_in) := goodIn_app (goodIn_of _ (by decide +kernel)) ggX12_keep_X12_in
theorem dX12_keep_0 : decode cX12_keep 0 = .ok (.iload_n 1, 1) := by decide +kernel
theorem dX12_keep_1 : decode cX12_keep 1 = .ok (.i2l, 1) := by decide +kernel
theorem dX12_keep_2 : decode cX12_keep 2 = .ok (.lconst 0, 1) := by decide +kernel
theorem dX12_keep_3 : decode cX12_keep 3 = .ok (.lconst 1, 1) := by decide +kernel
theorem dX12_keep_4 : decode cX12_keep 4 = .ok (.invokestatic 72, 3) := by decide +kernel
theorem dX12_keep_7 : decode cX12_keep 7 = .ok (.ifCond .ne 5, 3) := by decide +kernel
theorem dX12_keep_10 : decode cX12_keep 10 = .ok (.iconst (-1), 1) := by decide +kernel
theorem dX12_keep_11 : decode cX12_keep 11 = .ok (.ireturn, 1) := by decide +kernel
theorem dX12_keep_12 : decode cX12_keep 12 = .ok (.bipush 40, 2) := by decide +kernel
theorem dX12_keep_14 : decode cX12_keep 14 = .ok (.iload_n 1, 1) := by decide +kernel
theorem dX12_keep_15 : decode cX12_keep 15 = .ok (.imul, 1) := by decide +kernel
theorem dX12_keep_16 : decode cX12_keep 16 = .ok (.istore_n 2, 1) := by decide +kernel
theorem dX12_keep_17 : decode cX12_keep 17 = .ok (.aload_n 0, 1) := by decide +kernel
theorem dX12_keep_18 : decode cX12_keep 18 = .ok (.getfield 44, 3) := by decide +kernel
theorem dX12_keep_21 : decode cX12_keep 21 = .ok (.iload_n 2, 1) := by decide +kernel
theorem dX12_keep_22 : decode cX12_keep 22 = .ok (.iconst 1, 1) := by decide +kernel
theorem dX12_keep_23 : decode cX12_keep 23 = .ok (.iastore, 1) := by decide +kernel
theorem dX12_keep_24 : decode cX12_keep 24 = .ok (.aload_n 0, 1) := by decide +kernel
theorem dX12_keep_25 : decode cX12_keep 25 = .ok (.getfield 44, 3) := by decide +kernel
theorem dX12_keep_28 : decode cX12_keep 28 = .ok (.iload_n 2, 1) := by decide +kernel
theorem dX12_keep_29 : decode cX12_keep 29 = .ok (.iconst 1, 1) := by decide +kernel
theorem dX12_keep_30 : decode cX12_keep 30 = .ok (.iadd, 1) := by decide +kernel
theorem dX12_keep_31 : decode cX12_keep 31 = .ok (.aload_n 0, 1) := by decide +kernel
theorem dX12_keep_32 : decode cX12_keep 32 = .ok (.getfield 179, 3) := by decide +kernel
theorem dX12_keep_35 : decode cX12_keep 35 = .ok (.iastore, 1) := by decide +kernel
theorem dX12_keep_36 : decode cX12_keep 36 = .ok (.aload_n 0, 1) := by decide +kernel
theorem dX12_keep_37 : decode cX12_keep 37 = .ok (.getfield 44, 3) := by decide +kernel
theorem dX12_keep_40 : decode cX12_keep 40 = .ok (.iload_n 2, 1) := by decide +kernel
theorem dX12_keep_41 : decode cX12_keep 41 = .ok (.iconst 2, 1) := by decide +kernel
theorem dX12_keep_42 : decode cX12_keep 42 = .ok (.iadd, 1) := by decide +kernel
theorem dX12_keep_43 : decode cX12_keep 43 = .ok (.aload_n 0, 1) := by decide +kernel
theorem dX12_keep_44 : decode cX12_keep 44 = .ok (.getfield 186, 3) := by decide +kernel
theorem dX12_keep_47 : decode cX12_keep 47 = .ok (.iastore, 1) := by decide +kernel
theorem dX12_keep_48 : decode cX12_keep 48 = .ok (.aload_n 0, 1) := by decide +kernel
theorem dX12_keep_49 : decode cX12_keep 49 = .ok (.getfield 44, 3) := by decide +kernel
theorem dX12_keep_52 : decode cX12_keep 52 = .ok (.iload_n 2, 1) := by decide +kernel
theorem dX12_keep_53 : decode cX12_keep 53 = .ok (.iconst 3, 1) := by decide +kernel
theorem dX12_keep_54 : decode cX12_keep 54 = .ok (.iadd, 1) := by decide +kernel
theorem dX12_keep_55 : decode cX12_keep 55 = .ok (.aload_n 0, 1) := by decide +kernel
theorem dX12_keep_56 : decode cX12_keep 56 = .ok (.getfield 189, 3) := by decide +kernel
theorem dX12_keep_59 : decode cX12_keep 59 = .ok (.iastore, 1) := by decide +kernel
theorem dX12_keep_60 : decode cX12_keep 60 = .ok (.aload_n 0, 1) := by decide +kernel
theorem dX12_keep_61 : decode cX12_keep 61 = .ok (.getfield 44, 3) := by decide +kernel
theorem dX12_keep_64 : decode cX12_keep 64 = .ok (.iload_n 2, 1) := by decide +kernel
theorem dX12_keep_65 : decode cX12_keep 65 = .ok (.iconst 4, 1) := by decide +kernel
theorem dX12_keep_66 : decode cX12_keep 66 = .ok (.iadd, 1) := by decide +kernel
theorem dX12_keep_67 : decode cX12_keep 67 = .ok (.aload_n 0, 1) := by decide +kernel
theorem dX12_keep_68 : decode cX12_keep 68 = .ok (.getfield 35, 3) := by decide +kernel
theorem dX12_keep_71 : decode cX12_keep 71 = .ok (.iastore, 1) := by decide +kernel
theorem dX12_keep_72 : decode cX12_keep 72 = .ok (.aload_n 0, 1) := by decide +kernel
theorem dX12_keep_73 : decode cX12_keep 73 = .ok (.getfield 44, 3) := by decide +kernel
theorem dX12_keep_76 : decode cX12_keep 76 = .ok (.iload_n 2, 1) := by decide +kernel
theorem dX12_keep_77 : decode cX12_keep 77 = .ok (.iconst 5, 1) := by decide +kernel
theorem dX12_keep_78 : decode cX12_keep 78 = .ok (.iadd, 1) := by decide +kernel
theorem dX12_keep_79 : decode cX12_keep 79 = .ok (.aload_n 0, 1) := by decide +kernel
theorem dX12_keep_80 : decode cX12_keep 80 = .ok (.getfield 192, 3) := by decide +kernel
theorem dX12_keep_83 : decode cX12_keep 83 = .ok (.iastore, 1) := by decide +kernel
theorem dX12_keep_84 : decode cX12_keep 84 = .ok (.iconst 0, 1) := by decide +kernel
theorem dX12_keep_85 : decode cX12_keep 85 = .ok (.istore_n 3, 1) := by decide +kernel
theorem dX12_keep_86 : decode cX12_keep 86 = .ok (.iload_n 3, 1) := by decide +kernel
theorem dX12_keep_87 : decode cX12_keep 87 = .ok (.bipush 6, 2) := by decide +kernel
theorem dX12_keep_89 : decode cX12_keep 89 = .ok (.if_icmp .ge 43, 3) := by decide +kernel
theorem dX12_keep_92 : decode cX12_keep 92 = .ok (.aload_n 0, 1) := by decide +kernel
theorem dX12_keep_93 : decode cX12_keep 93 = .ok (.getfield 44, 3) := by decide +kernel
theorem dX12_keep_96 : decode cX12_keep 96 = .ok (.iload_n 2, 1) := by decide +kernel
theorem dX12_keep_97 : decode cX12_keep 97 = .ok (.bipush 6, 2) := by decide +kernel
theorem dX12_keep_99 : decode cX12_keep 99 = .ok (.iadd, 1) := by decide +kernel
theorem dX12_keep_100 : decode cX12_keep 100 = .ok (.iload_n 3, 1) := by decide +kernel
theorem dX12_keep_101 : decode cX12_keep 101 = .ok (.iadd, 1) := by decide +kernel
theorem dX12_keep_102 : decode cX12_keep 102 = .ok (.aload_n 0, 1) := by decide +kernel
theorem dX12_keep_103 : decode cX12_keep 103 = .ok (.getfield 29, 3) := by decide +kernel
theorem dX12_keep_106 : decode cX12_keep 106 = .ok (.iload_n 3, 1) := by decide +kernel
theorem dX12_keep_107 : decode cX12_keep 107 = .ok (.iaload, 1) := by decide +kernel
theorem dX12_keep_108 : decode cX12_keep 108 = .ok (.iastore, 1) := by decide +kernel
theorem dX12_keep_109 : decode cX12_keep 109 = .ok (.aload_n 0, 1) := by decide +kernel
theorem dX12_keep_110 : decode cX12_keep 110 = .ok (.getfield 44, 3) := by decide +kernel
theorem dX12_keep_113 : decode cX12_keep 113 = .ok (.iload_n 2, 1) := by decide +kernel
theorem dX12_keep_114 : decode cX12_keep 114 = .ok (.bipush 12, 2) := by decide +kernel
theorem dX12_keep_116 : decode cX12_keep 116 = .ok (.iadd, 1) := by decide +kernel
theorem dX12_keep_117 : decode cX12_keep 117 = .ok (.iload_n 3, 1) := by decide +kernel
theorem dX12_keep_118 : decode cX12_keep 118 = .ok (.iadd, 1) := by decide +kernel
theorem dX12_keep_119 : decode cX12_keep 119 = .ok (.aload_n 0, 1) := by decide +kernel
theorem dX12_keep_120 : decode cX12_keep 120 = .ok (.getfield 32, 3) := by decide +kernel
theorem dX12_keep_123 : decode cX12_keep 123 = .ok (.iload_n 3, 1) := by decide +kernel
theorem dX12_keep_124 : decode cX12_keep 124 = .ok (.iaload, 1) := by decide +kernel
theorem dX12_keep_125 : decode cX12_keep 125 = .ok (.iastore, 1) := by decide +kernel
theorem dX12_keep_126 : decode cX12_keep 126 = .ok (.iinc 3 1, 3) := by decide +kernel
theorem dX12_keep_129 : decode cX12_keep 129 = .ok (.goto (-43), 3) := by decide +kernel
theorem dX12_keep_132 : decode cX12_keep 132 = .ok (.iconst 0, 1) := by decide +kernel
theorem dX12_keep_133 : decode cX12_keep 133 = .ok (.istore_n 3, 1) := by decide +kernel
theorem dX12_keep_134 : decode cX12_keep 134 = .ok (.iload_n 3, 1) := by decide +kernel
theorem dX12_keep_135 : decode cX12_keep 135 = .ok (.bipush 8, 2) := by decide +kernel
theorem dX12_keep_137 : decode cX12_keep 137 = .ok (.if_icmp .ge 43, 3) := by decide +kernel
theorem dX12_keep_140 : decode cX12_keep 140 = .ok (.aload_n 0, 1) := by decide +kernel
theorem dX12_keep_141 : decode cX12_keep 141 = .ok (.getfield 44, 3) := by decide +kernel
theorem dX12_keep_144 : decode cX12_keep 144 = .ok (.iload_n 2, 1) := by decide +kernel
theorem dX12_keep_145 : decode cX12_keep 145 = .ok (.bipush 18, 2) := by decide +kernel
theorem dX12_keep_147 : decode cX12_keep 147 = .ok (.iadd, 1) := by decide +kernel
theorem dX12_keep_148 : decode cX12_keep 148 = .ok (.iload_n 3, 1) := by decide +kernel
theorem dX12_keep_149 : decode cX12_keep 149 = .ok (.iadd, 1) := by decide +kernel
theorem dX12_keep_150 : decode cX12_keep 150 = .ok (.aload_n 0, 1) := by decide +kernel
theorem dX12_keep_151 : decode cX12_keep 151 = .ok (.getfield 38, 3) := by decide +kernel
theorem dX12_keep_154 : decode cX12_keep 154 = .ok (.iload_n 3, 1) := by decide +kernel
