theorem dX10_placesHeard_34 : decode cX10_placesHeard 34 = .ok (.iconst 1, 1) := by decide +kernel
theorem dX10_placesHeard_35 : decode cX10_placesHeard 35 = .ok (.aload_n 1, 1) := by decide +kernel
theorem dX10_placesHeard_36 : decode cX10_placesHeard 36 = .ok (.iload 5, 2) := by decide +kernel
theorem dX10_placesHeard_38 : decode cX10_placesHeard 38 = .ok (.invokevirtual 41, 3) := by decide +kernel
theorem dX10_placesHeard_41 : decode cX10_placesHeard 41 = .ok (.ishl, 1) := by decide +kernel
theorem dX10_placesHeard_42 : decode cX10_placesHeard 42 = .ok (.ior, 1) := by decide +kernel
theorem dX10_placesHeard_43 : decode cX10_placesHeard 43 = .ok (.iand, 1) := by decide +kernel
theorem dX10_placesHeard_44 : decode cX10_placesHeard 44 = .ok (.ireturn, 1) := by decide +kernel
set_option maxRecDepth 20000 in
theorem ggX11_init_X9_init : GoodIn wsX11_init wsX9_init := goodIn_r _ [48, 49, 2, 3, 50, 51, 98, 99, 100, 101, 102, 103, 104, 105, 106] (by decide +kernel) (by decide +kernel)
set_option maxRecDepth 20000 in
theorem gX11_init_X9_init_n9 : GoodIn wsX11_init (wsX9_init) := ggX11_init_X9_init
set_option maxRecDepth 20000 in
theorem ggX11_init_X3_init : GoodIn wsX11_init wsX3_init := goodIn_r _ [53, 54, 2, 3, 55, 56, 57, 58, 59, 60, 61, 62, 116, 117, 118, 119, 120, 121, 122, 123, 124, 125] (by decide +kernel) (by decide +kernel)
set_option maxRecDepth 20000 in
theorem gX11_init_X3_init_n18 : GoodIn wsX11_init (wsX3_init) := ggX11_init_X3_init
set_option maxRecDepth 20000 in
theorem ggX11_init_X7_init : GoodIn wsX11_init wsX7_init := goodIn_r _ [64, 65, 2, 3, 55, 66, 67, 68, 69, 70, 126, 127, 128, 129, 130, 131, 132, 133, 134] (by decide +kernel) (by decide +kernel)
set_option maxRecDepth 20000 in
theorem gX11_init_X7_init_n28 : GoodIn wsX11_init (wsX7_init) := ggX11_init_X7_init
set_option maxRecDepth 20000 in
theorem ggX11_init_X1_init : GoodIn wsX11_init wsX1_init := goodIn_r _ [72, 73, 2, 3, 55, 74, 75, 76, 77, 78, 79, 135, 136, 137, 138, 139, 140, 141, 142] (by decide +kernel) (by decide +kernel)
set_option maxRecDepth 20000 in
theorem gX11_init_X1_init_n43 : GoodIn wsX11_init (wsX1_init) := ggX11_init_X1_init
set_option maxRecDepth 20000 in
theorem ggX11_init_X10_init : GoodIn wsX11_init wsX10_init := goodIn_r _ [81, 82, 2, 3, 83, 84, 143] (by decide +kernel) (by decide +kernel)
set_option maxRecDepth 20000 in
theorem gX11_init_X10_init_n50 : GoodIn wsX11_init (wsX10_init) := ggX11_init_X10_init
set_option maxRecDepth 20000 in
theorem ggX11_init_X4_init : GoodIn wsX11_init wsX4_init := goodIn_r _ [86, 87, 2, 3] (by decide +kernel) (by decide +kernel)
set_option maxRecDepth 20000 in
theorem gX11_init_X4_init_n57 : GoodIn wsX11_init (wsX4_init) := ggX11_init_X4_init
set_option maxRecDepth 20000 in
theorem ggX11_init_X0_init : GoodIn wsX11_init wsX0_init := goodIn_r _ [89, 85, 30, 86, 87, 2, 3] (by decide +kernel) (by decide +kernel)
set_option maxRecDepth 20000 in
theorem gX11_init_X0_init_n60 : GoodIn wsX11_init (wsX0_init) := ggX11_init_X0_init
set_option maxRecDepth 20000 in
theorem ggX11_init_X5_init : GoodIn wsX11_init wsX5_init := goodIn_r _ [91, 85, 30, 86, 87, 2, 3] (by decide +kernel) (by decide +kernel)
set_option maxRecDepth 20000 in
theorem gX11_init_X5_init_n63 : GoodIn wsX11_init (wsX5_init) := ggX11_init_X5_init
set_option maxRecDepth 20000 in
theorem ggX11_init_X8_init : GoodIn wsX11_init wsX8_init := goodIn_r _ [93, 88, 33, 89, 85, 30, 86, 87, 2, 3] (by decide +kernel) (by decide +kernel)
set_option maxRecDepth 20000 in
theorem gX11_init_X8_init_n66 : GoodIn wsX11_init (wsX8_init) := ggX11_init_X8_init
set_option maxRecDepth 20000 in
theorem ggX11_init_X2_init : GoodIn wsX11_init wsX2_init := goodIn_r _ [95, 90, 36, 91, 85, 30, 86, 87, 2, 3] (by decide +kernel) (by decide +kernel)
set_option maxRecDepth 20000 in
theorem gX11_init_X2_init_n69 : GoodIn wsX11_init (wsX2_init) := ggX11_init_X2_init
set_option maxRecDepth 20000 in
theorem ggX11_init_X6_init : GoodIn wsX11_init wsX6_init := goodIn_r _ [97, 85, 30, 86, 87, 2, 3] (by decide +kernel) (by decide +kernel)
set_option maxRecDepth 20000 in
theorem gX11_init_X6_init_n72 : GoodIn wsX11_init (wsX6_init) := ggX11_init_X6_init
theorem dX11_init_0 : decode cX11_init 0 = .ok (.aload_n 0, 1) := by decide +kernel
theorem dX11_init_1 : decode cX11_init 1 = .ok (.invokespecial 1, 3) := by decide +kernel
theorem dX11_init_4 : decode cX11_init 4 = .ok (.aload_n 0, 1) := by decide +kernel
theorem dX11_init_5 : decode cX11_init 5 = .ok (.new 7, 3) := by decide +kernel
theorem dX11_init_8 : decode cX11_init 8 = .ok (.dup, 1) := by decide +kernel
theorem dX11_init_9 : decode cX11_init 9 = .ok (.invokespecial 9, 3) := by decide +kernel
theorem dX11_init_12 : decode cX11_init 12 = .ok (.putfield 10, 3) := by decide +kernel
theorem dX11_init_15 : decode cX11_init 15 = .ok (.aload_n 0, 1) := by decide +kernel
theorem dX11_init_16 : decode cX11_init 16 = .ok (.new 16, 3) := by decide +kernel
theorem dX11_init_19 : decode cX11_init 19 = .ok (.dup, 1) := by decide +kernel
theorem dX11_init_20 : decode cX11_init 20 = .ok (.invokespecial 18, 3) := by decide +kernel
theorem dX11_init_23 : decode cX11_init 23 = .ok (.putfield 19, 3) := by decide +kernel
theorem dX11_init_26 : decode cX11_init 26 = .ok (.aload_n 0, 1) := by decide +kernel
theorem dX11_init_27 : decode cX11_init 27 = .ok (.new 16, 3) := by decide +kernel
theorem dX11_init_30 : decode cX11_init 30 = .ok (.dup, 1) := by decide +kernel
theorem dX11_init_31 : decode cX11_init 31 = .ok (.invokespecial 18, 3) := by decide +kernel
theorem dX11_init_34 : decode cX11_init 34 = .ok (.putfield 23, 3) := by decide +kernel
theorem dX11_init_37 : decode cX11_init 37 = .ok (.aload_n 0, 1) := by decide +kernel
theorem dX11_init_38 : decode cX11_init 38 = .ok (.new 26, 3) := by decide +kernel
theorem dX11_init_41 : decode cX11_init 41 = .ok (.dup, 1) := by decide +kernel
theorem dX11_init_42 : decode cX11_init 42 = .ok (.invokespecial 28, 3) := by decide +kernel
theorem dX11_init_45 : decode cX11_init 45 = .ok (.putfield 29, 3) := by decide +kernel
theorem dX11_init_48 : decode cX11_init 48 = .ok (.aload_n 0, 1) := by decide +kernel
theorem dX11_init_49 : decode cX11_init 49 = .ok (.iconst 2, 1) := by decide +kernel
theorem dX11_init_50 : decode cX11_init 50 = .ok (.anewarray 26, 3) := by decide +kernel
theorem dX11_init_53 : decode cX11_init 53 = .ok (.dup, 1) := by decide +kernel
theorem dX11_init_54 : decode cX11_init 54 = .ok (.iconst 0, 1) := by decide +kernel
theorem dX11_init_55 : decode cX11_init 55 = .ok (.new 26, 3) := by decide +kernel
theorem dX11_init_58 : decode cX11_init 58 = .ok (.dup, 1) := by decide +kernel
theorem dX11_init_59 : decode cX11_init 59 = .ok (.invokespecial 28, 3) := by decide +kernel
theorem dX11_init_62 : decode cX11_init 62 = .ok (.aastore, 1) := by decide +kernel
theorem dX11_init_63 : decode cX11_init 63 = .ok (.dup, 1) := by decide +kernel
theorem dX11_init_64 : decode cX11_init 64 = .ok (.iconst 1, 1) := by decide +kernel
theorem dX11_init_65 : decode cX11_init 65 = .ok (.new 26, 3) := by decide +kernel
theorem dX11_init_68 : decode cX11_init 68 = .ok (.dup, 1) := by decide +kernel
theorem dX11_init_69 : decode cX11_init 69 = .ok (.invokespecial 28, 3) := by decide +kernel
theorem dX11_init_72 : decode cX11_init 72 = .ok (.aastore, 1) := by decide +kernel
theorem dX11_init_73 : decode cX11_init 73 = .ok (.putfield 33, 3) := by decide +kernel
theorem dX11_init_76 : decode cX11_init 76 = .ok (.aload_n 0, 1) := by decide +kernel
theorem dX11_init_77 : decode cX11_init 77 = .ok (.iconst 2, 1) := by decide +kernel
theorem dX11_init_78 : decode cX11_init 78 = .ok (.newarray .boolean, 2) := by decide +kernel
theorem dX11_init_80 : decode cX11_init 80 = .ok (.putfield 37, 3) := by decide +kernel
theorem dX11_init_83 : decode cX11_init 83 = .ok (.aload_n 0, 1) := by decide +kernel
theorem dX11_init_84 : decode cX11_init 84 = .ok (.new 41, 3) := by decide +kernel
theorem dX11_init_87 : decode cX11_init 87 = .ok (.dup, 1) := by decide +kernel
theorem dX11_init_88 : decode cX11_init 88 = .ok (.invokespecial 43, 3) := by decide +kernel
theorem dX11_init_91 : decode cX11_init 91 = .ok (.putfield 44, 3) := by decide +kernel
theorem dX11_init_94 : decode cX11_init 94 = .ok (.aload_n 0, 1) := by decide +kernel
theorem dX11_init_95 : decode cX11_init 95 = .ok (.new 48, 3) := by decide +kernel
theorem dX11_init_98 : decode cX11_init 98 = .ok (.dup, 1) := by decide +kernel
theorem dX11_init_99 : decode cX11_init 99 = .ok (.invokespecial 50, 3) := by decide +kernel
theorem dX11_init_102 : decode cX11_init 102 = .ok (.putfield 51, 3) := by decide +kernel
theorem dX11_init_105 : decode cX11_init 105 = .ok (.aload_n 0, 1) := by decide +kernel
theorem dX11_init_106 : decode cX11_init 106 = .ok (.bipush 6, 2) := by decide +kernel
theorem dX11_init_108 : decode cX11_init 108 = .ok (.anewarray 55, 3) := by decide +kernel
theorem dX11_init_111 : decode cX11_init 111 = .ok (.dup, 1) := by decide +kernel
theorem dX11_init_112 : decode cX11_init 112 = .ok (.iconst 0, 1) := by decide +kernel
theorem dX11_init_113 : decode cX11_init 113 = .ok (.new 55, 3) := by decide +kernel
theorem dX11_init_116 : decode cX11_init 116 = .ok (.dup, 1) := by decide +kernel
theorem dX11_init_117 : decode cX11_init 117 = .ok (.invokespecial 57, 3) := by decide +kernel
theorem dX11_init_120 : decode cX11_init 120 = .ok (.aastore, 1) := by decide +kernel
theorem dX11_init_121 : decode cX11_init 121 = .ok (.dup, 1) := by decide +kernel
theorem dX11_init_122 : decode cX11_init 122 = .ok (.iconst 1, 1) := by decide +kernel
theorem dX11_init_123 : decode cX11_init 123 = .ok (.new 58, 3) := by decide +kernel
theorem dX11_init_126 : decode cX11_init 126 = .ok (.dup, 1) := by decide +kernel
theorem dX11_init_127 : decode cX11_init 127 = .ok (.invokespecial 60, 3) := by decide +kernel
theorem dX11_init_130 : decode cX11_init 130 = .ok (.aastore, 1) := by decide +kernel
theorem dX11_init_131 : decode cX11_init 131 = .ok (.dup, 1) := by decide +kernel
theorem dX11_init_132 : decode cX11_init 132 = .ok (.iconst 2, 1) := by decide +kernel
theorem dX11_init_133 : decode cX11_init 133 = .ok (.new 61, 3) := by decide +kernel
theorem dX11_init_136 : decode cX11_init 136 = .ok (.dup, 1) := by decide +kernel
theorem dX11_init_137 : decode cX11_init 137 = .ok (.invokespecial 63, 3) := by decide +kernel
theorem dX11_init_140 : decode cX11_init 140 = .ok (.aastore, 1) := by decide +kernel
theorem dX11_init_141 : decode cX11_init 141 = .ok (.dup, 1) := by decide +kernel
theorem dX11_init_142 : decode cX11_init 142 = .ok (.iconst 3, 1) := by decide +kernel
theorem dX11_init_143 : decode cX11_init 143 = .ok (.new 64, 3) := by decide +kernel
theorem dX11_init_146 : decode cX11_init 146 = .ok (.dup, 1) := by decide +kernel
theorem dX11_init_147 : decode cX11_init 147 = .ok (.invokespecial 66, 3) := by decide +kernel
theorem dX11_init_150 : decode cX11_init 150 = .ok (.aastore, 1) := by decide +kernel
theorem dX11_init_151 : decode cX11_init 151 = .ok (.dup, 1) := by decide +kernel
theorem dX11_init_152 : decode cX11_init 152 = .ok (.iconst 4, 1) := by decide +kernel
theorem dX11_init_153 : decode cX11_init 153 = .ok (.new 67, 3) := by decide +kernel
theorem dX11_init_156 : decode cX11_init 156 = .ok (.dup, 1) := by decide +kernel
theorem dX11_init_157 : decode cX11_init 157 = .ok (.invokespecial 69, 3) := by decide +kernel
theorem dX11_init_160 : decode cX11_init 160 = .ok (.aastore, 1) := by decide +kernel
theorem dX11_init_161 : decode cX11_init 161 = .ok (.dup, 1) := by decide +kernel
theorem dX11_init_162 : decode cX11_init 162 = .ok (.iconst 5, 1) := by decide +kernel
theorem dX11_init_163 : decode cX11_init 163 = .ok (.new 70, 3) := by decide +kernel
theorem dX11_init_166 : decode cX11_init 166 = .ok (.dup, 1) := by decide +kernel
theorem dX11_init_167 : decode cX11_init 167 = .ok (.invokespecial 72, 3) := by decide +kernel
theorem dX11_init_170 : decode cX11_init 170 = .ok (.aastore, 1) := by decide +kernel
theorem dX11_init_171 : decode cX11_init 171 = .ok (.putfield 73, 3) := by decide +kernel
theorem dX11_init_174 : decode cX11_init 174 = .ok (.return_, 1) := by decide +kernel
set_option maxRecDepth 20000 in
theorem ggX11_type_X9_append : GoodIn wsX11_type wsX9_append := goodIn_r _ [6, 7, 8, 22, 23, 24, 25, 26, 27, 28, 29, 30] (by decide +kernel) (by decide +kernel)
set_option maxRecDepth 20000 in
theorem gX11_type_X9_append : GoodIn wsX11_type (wsV RX11 77 RX9 yX9_append wsX9_append) := goodIn_app (goodIn_of _ (by decide +kernel)) ggX11_type_X9_append
set_option maxRecDepth 20000 in
theorem ggX11_type_X9_size : GoodIn wsX11_type wsX9_size := goodIn_r _ [12, 7, 22, 23, 24, 25, 26, 27, 28, 29, 30] (by decide +kernel) (by decide +kernel)
set_option maxRecDepth 20000 in
theorem gX11_type_X9_size : GoodIn wsX11_type (wsV RX11 81 RX9 yX9_size wsX9_size) := goodIn_app (goodIn_of _ (by decide +kernel)) ggX11_type_X9_size
theorem dX11_type_0 : decode cX11_type 0 = .ok (.iload_n 3, 1) := by decide +kernel
theorem dX11_type_1 : decode cX11_type 1 = .ok (.iconst 1, 1) := by decide +kernel
theorem dX11_type_2 : decode cX11_type 2 = .ok (.if_icmp .lt 9, 3) := by decide +kernel
theorem dX11_type_5 : decode cX11_type 5 = .ok (.iload_n 3, 1) := by decide +kernel
theorem dX11_type_6 : decode cX11_type 6 = .ok (.bipush 8, 2) := by decide +kernel
theorem dX11_type_8 : decode cX11_type 8 = .ok (.if_icmp .le 5, 3) := by decide +kernel
theorem dX11_type_11 : decode cX11_type 11 = .ok (.iconst (-1), 1) := by decide +kernel
theorem dX11_type_12 : decode cX11_type 12 = .ok (.ireturn, 1) := by decide +kernel
theorem dX11_type_13 : decode cX11_type 13 = .ok (.aload_n 0, 1) := by decide +kernel
theorem dX11_type_14 : decode cX11_type 14 = .ok (.getfield 10, 3) := by decide +kernel
theorem dX11_type_17 : decode cX11_type 17 = .ok (.lload_n 1, 1) := by decide +kernel
theorem dX11_type_18 : decode cX11_type 18 = .ok (.iload_n 3, 1) := by decide +kernel
theorem dX11_type_19 : decode cX11_type 19 = .ok (.invokevirtual 77, 3) := by decide +kernel
theorem dX11_type_22 : decode cX11_type 22 = .ok (.ifCond .eq 13, 3) := by decide +kernel
theorem dX11_type_25 : decode cX11_type 25 = .ok (.aload_n 0, 1) := by decide +kernel
theorem dX11_type_26 : decode cX11_type 26 = .ok (.getfield 10, 3) := by decide +kernel
theorem dX11_type_29 : decode cX11_type 29 = .ok (.invokevirtual 81, 3) := by decide +kernel
theorem dX11_type_32 : decode cX11_type 32 = .ok (.goto 5, 3) := by decide +kernel
theorem dX11_type_35 : decode cX11_type 35 = .ok (.bipush (-3), 2) := by decide +kernel
theorem dX11_type_37 : decode cX11_type 37 = .ok (.ireturn, 1) := by decide +kernel
set_option maxRecDepth 20000 in
theorem ggX11_clear_X9_size : GoodIn wsX11_clear wsX9_size := goodIn_r _ [6, 7, 21, 22, 23, 24, 25, 26, 27, 28, 29] (by decide +kernel) (by decide +kernel)
set_option maxRecDepth 20000 in
theorem gX11_clear_X9_size : GoodIn wsX11_clear (wsV RX11 81 RX9 yX9_size wsX9_size) := goodIn_app (goodIn_of _ (by decide +kernel)) ggX11_clear_X9_size
set_option maxRecDepth 20000 in
theorem ggX11_clear_X9_empty : GoodIn wsX11_clear wsX9_empty := goodIn_r _ [11, 7, 21, 22, 23, 24, 25, 26, 27, 28, 29] (by decide +kernel) (by decide +kernel)
set_option maxRecDepth 20000 in
theorem gX11_clear_X9_empty : GoodIn wsX11_clear (wsV RX11 85 RX9 yX9_empty wsX9_empty) := goodIn_app (goodIn_of _ (by decide +kernel)) ggX11_clear_X9_empty
theorem dX11_clear_0 : decode cX11_clear 0 = .ok (.aload_n 0, 1) := by decide +kernel
theorem dX11_clear_1 : decode cX11_clear 1 = .ok (.getfield 10, 3) := by decide +kernel
theorem dX11_clear_4 : decode cX11_clear 4 = .ok (.invokevirtual 81, 3) := by decide +kernel
theorem dX11_clear_7 : decode cX11_clear 7 = .ok (.istore_n 1, 1) := by decide +kernel
theorem dX11_clear_8 : decode cX11_clear 8 = .ok (.aload_n 0, 1) := by decide +kernel
theorem dX11_clear_9 : decode cX11_clear 9 = .ok (.getfield 10, 3) := by decide +kernel
theorem dX11_clear_12 : decode cX11_clear 12 = .ok (.invokevirtual 85, 3) := by decide +kernel
theorem dX11_clear_15 : decode cX11_clear 15 = .ok (.iload_n 1, 1) := by decide +kernel
theorem dX11_clear_16 : decode cX11_clear 16 = .ok (.ireturn, 1) := by decide +kernel
set_option maxRecDepth 20000 in
theorem ggX11_hill_X9_read : GoodIn wsX11_hill wsX9_read := goodIn_r _ [9, 10, 11, 12, 13, 14, 15, 16, 17, 18, 19, 20, 21, 22, 23, 24, 25, 26, 27, 28, 29, 8, 30, 31, 32, 33, 34, 35, 36, 37, 38, 39, 40, 41, 42, 43, 44, 45, 46, 47, 48, 49, 50, 51, 52, 53, 54, 55, 56, 57, 58, 59, 60, 61, 62, 63, 64, 65, 66, 67, 68, 69, 70, 71, 72, 73, 74, 75, 76, 77, 78, 79, 80, 81, 82, 83, 84, 85, 86, 87, 88, 89, 90, 91, 92, 93, 94, 95, 96, 97, 98, 99, 100, 101, 102, 103, 104, 105, 106, 107, 108, 109, 110, 111, 112, 113, 114, 115, 116, 117, 118, 119, 120, 121, 122, 123, 124, 125, 126, 127, 128, 129, 130, 131, 132, 133, 134, 135, 136, 137, 138, 139, 140, 141, 142, 143, 144, 145, 146, 147, 148, 149, 150, 151, 152, 153, 154, 202, 203, 204, 205, 206, 207, 208, 209, 210, 211, 212, 213, 214, 215, 216, 217, 218, 219, 220] (by decide +kernel) (by decide +kernel)
set_option maxRecDepth 20000 in
theorem gX11_hill_X9_read : GoodIn wsX11_hill (wsV RX11 88 RX9 yX9_read wsX9_read) := goodIn_app (goodIn_of _ (by decide +kernel)) ggX11_hill_X9_read
set_option maxRecDepth 20000 in
theorem ggX11_hill_X3_become : GoodIn wsX11_hill wsX3_become := goodIn_r _ [158, 123, 159, 160, 161, 162, 124, 125, 138, 25, 21, 22, 23, 24, 26, 211, 212, 213, 214, 215, 216, 217, 218, 219, 220] (by decide +kernel) (by decide +kernel)
set_option maxRecDepth 20000 in
theorem gX11_hill_X3_become : GoodIn wsX11_hill (wsV RX11 92 RX3 yX3_become wsX3_become) := goodIn_app (goodIn_of _ (by decide +kernel)) ggX11_hill_X3_become
set_option maxRecDepth 20000 in
theorem ggX11_hill_X7_begin : GoodIn wsX11_hill wsX7_begin := goodIn_r _ [167, 168, 169, 160, 161, 162, 170, 171, 172, 173, 174, 175, 176, 177, 178, 179, 180, 181, 19, 182, 22, 138, 211, 212, 213, 214, 215, 216, 217, 218, 219, 220, 221, 222, 223, 224, 225, 226, 227, 228, 229] (by decide +kernel) (by decide +kernel)
set_option maxRecDepth 20000 in
theorem gX11_hill_X7_begin : GoodIn wsX11_hill (wsV RX11 96 RX7 yX7_begin wsX7_begin) := goodIn_app (goodIn_of _ (by decide +kernel)) ggX11_hill_X7_begin
set_option maxRecDepth 20000 in
theorem ggX11_hill_X11_forgetImages : GoodIn wsX11_hill wsX11_forgetImages := goodIn_r _ [187, 188, 193, 194, 195, 196, 197, 198, 199, 200, 201] (by decide +kernel) (by decide +kernel)
set_option maxRecDepth 20000 in
theorem gX11_hill_X11_forgetImages : GoodIn wsX11_hill (wsV RX11 99 RX11 yX11_forgetImages wsX11_forgetImages) := goodIn_app (goodIn_of _ (by decide +kernel)) ggX11_hill_X11_forgetImages
set_option maxRecDepth 20000 in
theorem ggX11_hill_X9_empty : GoodIn wsX11_hill wsX9_empty := goodIn_r _ [192, 31, 202, 203, 204, 205, 206, 207, 208, 209, 210] (by decide +kernel) (by decide +kernel)
set_option maxRecDepth 20000 in
theorem gX11_hill_X9_empty : GoodIn wsX11_hill (wsV RX11 85 RX9 yX9_empty wsX9_empty) := goodIn_app (goodIn_of _ (by decide +kernel)) ggX11_hill_X9_empty
theorem dX11_hill_0 : decode cX11_hill 0 = .ok (.aload_n 0, 1) := by decide +kernel
theorem dX11_hill_1 : decode cX11_hill 1 = .ok (.getfield 10, 3) := by decide +kernel
theorem dX11_hill_4 : decode cX11_hill 4 = .ok (.aload_n 0, 1) := by decide +kernel
theorem dX11_hill_5 : decode cX11_hill 5 = .ok (.getfield 23, 3) := by decide +kernel
theorem dX11_hill_8 : decode cX11_hill 8 = .ok (.invokevirtual 88, 3) := by decide +kernel
theorem dX11_hill_11 : decode cX11_hill 11 = .ok (.istore_n 1, 1) := by decide +kernel
theorem dX11_hill_12 : decode cX11_hill 12 = .ok (.iload_n 1, 1) := by decide +kernel
theorem dX11_hill_13 : decode cX11_hill 13 = .ok (.ifCond .lt 36, 3) := by decide +kernel
theorem dX11_hill_16 : decode cX11_hill 16 = .ok (.aload_n 0, 1) := by decide +kernel
theorem dX11_hill_17 : decode cX11_hill 17 = .ok (.getfield 19, 3) := by decide +kernel
theorem dX11_hill_20 : decode cX11_hill 20 = .ok (.aload_n 0, 1) := by decide +kernel
theorem dX11_hill_21 : decode cX11_hill 21 = .ok (.getfield 23, 3) := by decide +kernel
theorem dX11_hill_24 : decode cX11_hill 24 = .ok (.invokevirtual 92, 3) := by decide +kernel
theorem dX11_hill_27 : decode cX11_hill 27 = .ok (.aload_n 0, 1) := by decide +kernel
theorem dX11_hill_28 : decode cX11_hill 28 = .ok (.getfield 29, 3) := by decide +kernel
theorem dX11_hill_31 : decode cX11_hill 31 = .ok (.aload_n 0, 1) := by decide +kernel
theorem dX11_hill_32 : decode cX11_hill 32 = .ok (.getfield 19, 3) := by decide +kernel
theorem dX11_hill_35 : decode cX11_hill 35 = .ok (.invokevirtual 96, 3) := by decide +kernel
theorem dX11_hill_38 : decode cX11_hill 38 = .ok (.aload_n 0, 1) := by decide +kernel
theorem dX11_hill_39 : decode cX11_hill 39 = .ok (.invokevirtual 99, 3) := by decide +kernel
theorem dX11_hill_42 : decode cX11_hill 42 = .ok (.aload_n 0, 1) := by decide +kernel
theorem dX11_hill_43 : decode cX11_hill 43 = .ok (.getfield 10, 3) := by decide +kernel
theorem dX11_hill_46 : decode cX11_hill 46 = .ok (.invokevirtual 85, 3) := by decide +kernel
theorem dX11_hill_49 : decode cX11_hill 49 = .ok (.iload_n 1, 1) := by decide +kernel
theorem dX11_hill_50 : decode cX11_hill 50 = .ok (.ireturn, 1) := by decide +kernel
theorem dX11_forgetImages_0 : decode cX11_forgetImages 0 = .ok (.iconst 0, 1) := by decide +kernel
theorem dX11_forgetImages_1 : decode cX11_forgetImages 1 = .ok (.istore_n 1, 1) := by decide +kernel
theorem dX11_forgetImages_2 : decode cX11_forgetImages 2 = .ok (.iload_n 1, 1) := by decide +kernel
theorem dX11_forgetImages_3 : decode cX11_forgetImages 3 = .ok (.aload_n 0, 1) := by decide +kernel
theorem dX11_forgetImages_4 : decode cX11_forgetImages 4 = .ok (.getfield 37, 3) := by decide +kernel
theorem dX11_forgetImages_7 : decode cX11_forgetImages 7 = .ok (.arraylength, 1) := by decide +kernel
theorem dX11_forgetImages_8 : decode cX11_forgetImages 8 = .ok (.if_icmp .ge 16, 3) := by decide +kernel
theorem dX11_forgetImages_11 : decode cX11_forgetImages 11 = .ok (.aload_n 0, 1) := by decide +kernel
theorem dX11_forgetImages_12 : decode cX11_forgetImages 12 = .ok (.getfield 37, 3) := by decide +kernel
theorem dX11_forgetImages_15 : decode cX11_forgetImages 15 = .ok (.iload_n 1, 1) := by decide +kernel
theorem dX11_forgetImages_16 : decode cX11_forgetImages 16 = .ok (.iconst 0, 1) := by decide +kernel
theorem dX11_forgetImages_17 : decode cX11_forgetImages 17 = .ok (.bastore, 1) := by decide +kernel
theorem dX11_forgetImages_18 : decode cX11_forgetImages 18 = .ok (.iinc 1 1, 3) := by decide +kernel
theorem dX11_forgetImages_21 : decode cX11_forgetImages 21 = .ok (.goto (-19), 3) := by decide +kernel
theorem dX11_forgetImages_24 : decode cX11_forgetImages 24 = .ok (.return_, 1) := by decide +kernel
set_option maxRecDepth 20000 in
theorem ggX11_terrace_X3_has : GoodIn wsX11_terrace wsX3_has := goodIn_r _ [7, 8, 27, 28, 29, 30, 31, 32, 33, 34, 35, 36] (by decide +kernel) (by decide +kernel)
set_option maxRecDepth 20000 in
theorem gX11_terrace_X3_has : GoodIn wsX11_terrace (wsV RX11 102 RX3 yX3_has wsX3_has) := goodIn_app (goodIn_of _ (by decide +kernel)) ggX11_terrace_X3_has
theorem dX11_terrace_0 : decode cX11_terrace 0 = .ok (.aload_n 0, 1) := by decide +kernel
theorem dX11_terrace_1 : decode cX11_terrace 1 = .ok (.getfield 19, 3) := by decide +kernel
theorem dX11_terrace_4 : decode cX11_terrace 4 = .ok (.iload_n 1, 1) := by decide +kernel
theorem dX11_terrace_5 : decode cX11_terrace 5 = .ok (.invokevirtual 102, 3) := by decide +kernel
theorem dX11_terrace_8 : decode cX11_terrace 8 = .ok (.ifCond .ne 5, 3) := by decide +kernel
theorem dX11_terrace_11 : decode cX11_terrace 11 = .ok (.iconst (-1), 1) := by decide +kernel
theorem dX11_terrace_12 : decode cX11_terrace 12 = .ok (.ireturn, 1) := by decide +kernel
theorem dX11_terrace_13 : decode cX11_terrace 13 = .ok (.iload_n 2, 1) := by decide +kernel
theorem dX11_terrace_14 : decode cX11_terrace 14 = .ok (.tableswitch 70 0 3 #[30, 40, 50, 60], 30) := by decide +kernel
theorem dX11_terrace_44 : decode cX11_terrace 44 = .ok (.aload_n 0, 1) := by decide +kernel
theorem dX11_terrace_45 : decode cX11_terrace 45 = .ok (.getfield 29, 3) := by decide +kernel
theorem dX11_terrace_48 : decode cX11_terrace 48 = .ok (.getfield 106, 3) := by decide +kernel
theorem dX11_terrace_51 : decode cX11_terrace 51 = .ok (.iload_n 1, 1) := by decide +kernel
theorem dX11_terrace_52 : decode cX11_terrace 52 = .ok (.iaload, 1) := by decide +kernel
theorem dX11_terrace_53 : decode cX11_terrace 53 = .ok (.ireturn, 1) := by decide +kernel
theorem dX11_terrace_54 : decode cX11_terrace 54 = .ok (.aload_n 0, 1) := by decide +kernel
theorem dX11_terrace_55 : decode cX11_terrace 55 = .ok (.getfield 19, 3) := by decide +kernel
theorem dX11_terrace_58 : decode cX11_terrace 58 = .ok (.getfield 110, 3) := by decide +kernel
theorem dX11_terrace_61 : decode cX11_terrace 61 = .ok (.iload_n 1, 1) := by decide +kernel
theorem dX11_terrace_62 : decode cX11_terrace 62 = .ok (.iaload, 1) := by decide +kernel
theorem dX11_terrace_63 : decode cX11_terrace 63 = .ok (.ireturn, 1) := by decide +kernel
theorem dX11_terrace_64 : decode cX11_terrace 64 = .ok (.aload_n 0, 1) := by decide +kernel
theorem dX11_terrace_65 : decode cX11_terrace 65 = .ok (.getfield 19, 3) := by decide +kernel
theorem dX11_terrace_68 : decode cX11_terrace 68 = .ok (.getfield 113, 3) := by decide +kernel
theorem dX11_terrace_71 : decode cX11_terrace 71 = .ok (.iload_n 1, 1) := by decide +kernel
theorem dX11_terrace_72 : decode cX11_terrace 72 = .ok (.iaload, 1) := by decide +kernel
theorem dX11_terrace_73 : decode cX11_terrace 73 = .ok (.ireturn, 1) := by decide +kernel
theorem dX11_terrace_74 : decode cX11_terrace 74 = .ok (.aload_n 0, 1) := by decide +kernel
theorem dX11_terrace_75 : decode cX11_terrace 75 = .ok (.getfield 29, 3) := by decide +kernel
theorem dX11_terrace_78 : decode cX11_terrace 78 = .ok (.getfield 116, 3) := by decide +kernel
theorem dX11_terrace_81 : decode cX11_terrace 81 = .ok (.iload_n 1, 1) := by decide +kernel
theorem dX11_terrace_82 : decode cX11_terrace 82 = .ok (.iaload, 1) := by decide +kernel
theorem dX11_terrace_83 : decode cX11_terrace 83 = .ok (.ireturn, 1) := by decide +kernel
theorem dX11_terrace_84 : decode cX11_terrace 84 = .ok (.iconst (-1), 1) := by decide +kernel
theorem dX11_terrace_85 : decode cX11_terrace 85 = .ok (.ireturn, 1) := by decide +kernel
set_option maxRecDepth 20000 in
theorem ggX11_drip_X3_dropsOn : GoodIn wsX11_drip wsX3_dropsOn := goodIn_r _ [6, 7, 8, 18, 19, 20, 21, 22, 23, 24, 25, 26, 27] (by decide +kernel) (by decide +kernel)
set_option maxRecDepth 20000 in
theorem gX11_drip_X3_dropsOn : GoodIn wsX11_drip (wsV RX11 119 RX3 yX3_dropsOn wsX3_dropsOn) := goodIn_app (goodIn_of _ (by decide +kernel)) ggX11_drip_X3_dropsOn
theorem dX11_drip_0 : decode cX11_drip 0 = .ok (.iload_n 1, 1) := by decide +kernel
theorem dX11_drip_1 : decode cX11_drip 1 = .ok (.ifCond .lt 9, 3) := by decide +kernel
theorem dX11_drip_4 : decode cX11_drip 4 = .ok (.iload_n 1, 1) := by decide +kernel
theorem dX11_drip_5 : decode cX11_drip 5 = .ok (.bipush 99, 2) := by decide +kernel
theorem dX11_drip_7 : decode cX11_drip 7 = .ok (.if_icmp .le 7, 3) := by decide +kernel
theorem dX11_drip_10 : decode cX11_drip 10 = .ok (.iconst (-1), 1) := by decide +kernel
theorem dX11_drip_11 : decode cX11_drip 11 = .ok (.goto 11, 3) := by decide +kernel
theorem dX11_drip_14 : decode cX11_drip 14 = .ok (.aload_n 0, 1) := by decide +kernel
theorem dX11_drip_15 : decode cX11_drip 15 = .ok (.getfield 19, 3) := by decide +kernel
theorem dX11_drip_18 : decode cX11_drip 18 = .ok (.iload_n 1, 1) := by decide +kernel
theorem dX11_drip_19 : decode cX11_drip 19 = .ok (.invokevirtual 119, 3) := by decide +kernel
theorem dX11_drip_22 : decode cX11_drip 22 = .ok (.ireturn, 1) := by decide +kernel
set_option maxRecDepth 20000 in
theorem ggX11_song_X3_sung : GoodIn wsX11_song wsX3_sung := goodIn_r _ [6, 7, 8, 18, 19, 20, 21, 22, 23, 24, 25, 26, 27] (by decide +kernel) (by decide +kernel)
set_option maxRecDepth 20000 in
theorem gX11_song_X3_sung : GoodIn wsX11_song (wsV RX11 127 RX3 yX3_sung wsX3_sung) := goodIn_app (goodIn_of _ (by decide +kernel)) ggX11_song_X3_sung
theorem dX11_song_0 : decode cX11_song 0 = .ok (.iload_n 1, 1) := by decide +kernel
theorem dX11_song_1 : decode cX11_song 1 = .ok (.ifCond .ge 5, 3) := by decide +kernel
theorem dX11_song_4 : decode cX11_song 4 = .ok (.iconst (-1), 1) := by decide +kernel
theorem dX11_song_5 : decode cX11_song 5 = .ok (.ireturn, 1) := by decide +kernel
theorem dX11_song_6 : decode cX11_song 6 = .ok (.iload_n 1, 1) := by decide +kernel
theorem dX11_song_7 : decode cX11_song 7 = .ok (.aload_n 0, 1) := by decide +kernel
theorem dX11_song_8 : decode cX11_song 8 = .ok (.getfield 19, 3) := by decide +kernel
theorem dX11_song_11 : decode cX11_song 11 = .ok (.getfield 123, 3) := by decide +kernel
theorem dX11_song_14 : decode cX11_song 14 = .ok (.if_icmp .ge 14, 3) := by decide +kernel
theorem dX11_song_17 : decode cX11_song 17 = .ok (.aload_n 0, 1) := by decide +kernel
theorem dX11_song_18 : decode cX11_song 18 = .ok (.getfield 19, 3) := by decide +kernel
theorem dX11_song_21 : decode cX11_song 21 = .ok (.iload_n 1, 1) := by decide +kernel
theorem dX11_song_22 : decode cX11_song 22 = .ok (.invokevirtual 127, 3) := by decide +kernel
theorem dX11_song_25 : decode cX11_song 25 = .ok (.goto 5, 3) := by decide +kernel
theorem dX11_song_28 : decode cX11_song 28 = .ok (.bipush (-9), 2) := by decide +kernel
theorem dX11_song_30 : decode cX11_song 30 = .ok (.ireturn, 1) := by decide +kernel
set_option maxRecDepth 20000 in
theorem ggX11_deal_X7_dealOne : GoodIn wsX11_deal wsX7_dealOne := goodIn_r _ [7, 8, 9, 10, 11, 12, 13, 6, 14, 15, 16, 17, 18, 19, 20, 21, 22, 23, 24, 25, 26, 27, 28, 29, 30, 31, 32, 33, 34, 35, 36, 37, 38, 39, 40, 59, 60, 61, 62, 63, 64, 65, 66, 67, 68, 50, 51, 52, 53, 54, 55, 56, 57, 58] (by decide +kernel) (by decide +kernel)
set_option maxRecDepth 20000 in
theorem gX11_deal_X7_dealOne : GoodIn wsX11_deal (wsV RX11 136 RX7 yX7_dealOne wsX7_dealOne) := goodIn_app (goodIn_of _ (by decide +kernel)) ggX11_deal_X7_dealOne
theorem dX11_deal_0 : decode cX11_deal 0 = .ok (.aload_n 0, 1) := by decide +kernel
theorem dX11_deal_1 : decode cX11_deal 1 = .ok (.getfield 29, 3) := by decide +kernel
theorem dX11_deal_4 : decode cX11_deal 4 = .ok (.getfield 130, 3) := by decide +kernel
theorem dX11_deal_7 : decode cX11_deal 7 = .ok (.iconst 1, 1) := by decide +kernel
theorem dX11_deal_8 : decode cX11_deal 8 = .ok (.if_icmp .lt 14, 3) := by decide +kernel
theorem dX11_deal_11 : decode cX11_deal 11 = .ok (.aload_n 0, 1) := by decide +kernel
theorem dX11_deal_12 : decode cX11_deal 12 = .ok (.getfield 19, 3) := by decide +kernel
theorem dX11_deal_15 : decode cX11_deal 15 = .ok (.getfield 133, 3) := by decide +kernel
theorem dX11_deal_18 : decode cX11_deal 18 = .ok (.iconst 1, 1) := by decide +kernel
theorem dX11_deal_19 : decode cX11_deal 19 = .ok (.if_icmp .ge 8, 3) := by decide +kernel
theorem dX11_deal_22 : decode cX11_deal 22 = .ok (.bipush (-2), 2) := by decide +kernel
theorem dX11_deal_24 : decode cX11_deal 24 = .ok (.goto 14, 3) := by decide +kernel
theorem dX11_deal_27 : decode cX11_deal 27 = .ok (.aload_n 0, 1) := by decide +kernel
theorem dX11_deal_28 : decode cX11_deal 28 = .ok (.getfield 29, 3) := by decide +kernel
theorem dX11_deal_31 : decode cX11_deal 31 = .ok (.aload_n 0, 1) := by decide +kernel
theorem dX11_deal_32 : decode cX11_deal 32 = .ok (.getfield 19, 3) := by decide +kernel
theorem dX11_deal_35 : decode cX11_deal 35 = .ok (.invokevirtual 136, 3) := by decide +kernel
theorem dX11_deal_38 : decode cX11_deal 38 = .ok (.ireturn, 1) := by decide +kernel
set_option maxRecDepth 20000 in
theorem ggX11_give_X3_has : GoodIn wsX11_give wsX3_has := goodIn_r _ [7, 8, 27, 28, 29, 30, 31, 32, 33, 34, 35, 36] (by decide +kernel) (by decide +kernel)
set_option maxRecDepth 20000 in
theorem gX11_give_X3_has : GoodIn wsX11_give (wsV RX11 102 RX3 yX3_has wsX3_has) := goodIn_app (goodIn_of _ (by decide +kernel)) ggX11_give_X3_has
theorem dX11_give_0 : decode cX11_give 0 = .ok (.aload_n 0, 1) := by decide +kernel
theorem dX11_give_1 : decode cX11_give 1 = .ok (.getfield 19, 3) := by decide +kernel
theorem dX11_give_4 : decode cX11_give 4 = .ok (.iload_n 1, 1) := by decide +kernel
theorem dX11_give_5 : decode cX11_give 5 = .ok (.invokevirtual 102, 3) := by decide +kernel
theorem dX11_give_8 : decode cX11_give 8 = .ok (.ifCond .eq 14, 3) := by decide +kernel
theorem dX11_give_11 : decode cX11_give 11 = .ok (.iload_n 2, 1) := by decide +kernel
theorem dX11_give_12 : decode cX11_give 12 = .ok (.iconst 1, 1) := by decide +kernel
theorem dX11_give_13 : decode cX11_give 13 = .ok (.if_icmp .lt 9, 3) := by decide +kernel
theorem dX11_give_16 : decode cX11_give 16 = .ok (.iload_n 2, 1) := by decide +kernel
theorem dX11_give_17 : decode cX11_give 17 = .ok (.bipush 30, 2) := by decide +kernel
theorem dX11_give_19 : decode cX11_give 19 = .ok (.if_icmp .le 5, 3) := by decide +kernel
theorem dX11_give_22 : decode cX11_give 22 = .ok (.iconst (-1), 1) := by decide +kernel
theorem dX11_give_23 : decode cX11_give 23 = .ok (.ireturn, 1) := by decide +kernel
theorem dX11_give_24 : decode cX11_give 24 = .ok (.iload_n 2, 1) := by decide +kernel
theorem dX11_give_25 : decode cX11_give 25 = .ok (.aload_n 0, 1) := by decide +kernel
theorem dX11_give_26 : decode cX11_give 26 = .ok (.getfield 29, 3) := by decide +kernel
theorem dX11_give_29 : decode cX11_give 29 = .ok (.getfield 130, 3) := by decide +kernel
theorem dX11_give_32 : decode cX11_give 32 = .ok (.if_icmp .le 6, 3) := by decide +kernel
theorem dX11_give_35 : decode cX11_give 35 = .ok (.bipush (-2), 2) := by decide +kernel
theorem dX11_give_37 : decode cX11_give 37 = .ok (.ireturn, 1) := by decide +kernel
theorem dX11_give_38 : decode cX11_give 38 = .ok (.aload_n 0, 1) := by decide +kernel
theorem dX11_give_39 : decode cX11_give 39 = .ok (.getfield 29, 3) := by decide +kernel
theorem dX11_give_42 : decode cX11_give 42 = .ok (.dup, 1) := by decide +kernel
theorem dX11_give_43 : decode cX11_give 43 = .ok (.getfield 130, 3) := by decide +kernel
theorem dX11_give_46 : decode cX11_give 46 = .ok (.iload_n 2, 1) := by decide +kernel
theorem dX11_give_47 : decode cX11_give 47 = .ok (.isub, 1) := by decide +kernel
theorem dX11_give_48 : decode cX11_give 48 = .ok (.putfield 130, 3) := by decide +kernel
theorem dX11_give_51 : decode cX11_give 51 = .ok (.aload_n 0, 1) := by decide +kernel
theorem dX11_give_52 : decode cX11_give 52 = .ok (.getfield 29, 3) := by decide +kernel
theorem dX11_give_55 : decode cX11_give 55 = .ok (.getfield 106, 3) := by decide +kernel
theorem dX11_give_58 : decode cX11_give 58 = .ok (.iload_n 1, 1) := by decide +kernel
theorem dX11_give_59 : decode cX11_give 59 = .ok (.dup2, 1) := by decide +kernel
theorem dX11_give_60 : decode cX11_give 60 = .ok (.iaload, 1) := by decide +kernel
theorem dX11_give_61 : decode cX11_give 61 = .ok (.iload_n 2, 1) := by decide +kernel
theorem dX11_give_62 : decode cX11_give 62 = .ok (.iadd, 1) := by decide +kernel
theorem dX11_give_63 : decode cX11_give 63 = .ok (.iastore, 1) := by decide +kernel
theorem dX11_give_64 : decode cX11_give 64 = .ok (.aload_n 0, 1) := by decide +kernel
theorem dX11_give_65 : decode cX11_give 65 = .ok (.getfield 29, 3) := by decide +kernel
theorem dX11_give_68 : decode cX11_give 68 = .ok (.getfield 106, 3) := by decide +kernel
theorem dX11_give_71 : decode cX11_give 71 = .ok (.iload_n 1, 1) := by decide +kernel
theorem dX11_give_72 : decode cX11_give 72 = .ok (.iaload, 1) := by decide +kernel
theorem dX11_give_73 : decode cX11_give 73 = .ok (.ireturn, 1) := by decide +kernel
set_option maxRecDepth 20000 in
theorem ggX11_bird_X3_has : GoodIn wsX11_bird wsX3_has := goodIn_r _ [7, 8, 27, 28, 29, 30, 31, 32, 33, 34, 35, 36] (by decide +kernel) (by decide +kernel)
set_option maxRecDepth 20000 in
theorem gX11_bird_X3_has : GoodIn wsX11_bird (wsV RX11 102 RX3 yX3_has wsX3_has) := goodIn_app (goodIn_of _ (by decide +kernel)) ggX11_bird_X3_has
theorem dX11_bird_0 : decode cX11_bird 0 = .ok (.aload_n 0, 1) := by decide +kernel
theorem dX11_bird_1 : decode cX11_bird 1 = .ok (.getfield 19, 3) := by decide +kernel
theorem dX11_bird_4 : decode cX11_bird 4 = .ok (.iload_n 1, 1) := by decide +kernel
theorem dX11_bird_5 : decode cX11_bird 5 = .ok (.invokevirtual 102, 3) := by decide +kernel
theorem dX11_bird_8 : decode cX11_bird 8 = .ok (.ifCond .ne 5, 3) := by decide +kernel
theorem dX11_bird_11 : decode cX11_bird 11 = .ok (.iconst (-1), 1) := by decide +kernel
theorem dX11_bird_12 : decode cX11_bird 12 = .ok (.ireturn, 1) := by decide +kernel
theorem dX11_bird_13 : decode cX11_bird 13 = .ok (.aload_n 0, 1) := by decide +kernel
theorem dX11_bird_14 : decode cX11_bird 14 = .ok (.getfield 29, 3) := by decide +kernel
theorem dX11_bird_17 : decode cX11_bird 17 = .ok (.getfield 106, 3) := by decide +kernel
theorem dX11_bird_20 : decode cX11_bird 20 = .ok (.iload_n 1, 1) := by decide +kernel
theorem dX11_bird_21 : decode cX11_bird 21 = .ok (.iaload, 1) := by decide +kernel
theorem dX11_bird_22 : decode cX11_bird 22 = .ok (.iconst 1, 1) := by decide +kernel
theorem dX11_bird_23 : decode cX11_bird 23 = .ok (.if_icmp .ge 6, 3) := by decide +kernel
theorem dX11_bird_26 : decode cX11_bird 26 = .ok (.bipush (-2), 2) := by decide +kernel
theorem dX11_bird_28 : decode cX11_bird 28 = .ok (.ireturn, 1) := by decide +kernel
theorem dX11_bird_29 : decode cX11_bird 29 = .ok (.aload_n 0, 1) := by decide +kernel
theorem dX11_bird_30 : decode cX11_bird 30 = .ok (.getfield 29, 3) := by decide +kernel
theorem dX11_bird_33 : decode cX11_bird 33 = .ok (.getfield 106, 3) := by decide +kernel
theorem dX11_bird_36 : decode cX11_bird 36 = .ok (.iload_n 1, 1) := by decide +kernel
theorem dX11_bird_37 : decode cX11_bird 37 = .ok (.dup2, 1) := by decide +kernel
theorem dX11_bird_38 : decode cX11_bird 38 = .ok (.iaload, 1) := by decide +kernel
theorem dX11_bird_39 : decode cX11_bird 39 = .ok (.iconst 1, 1) := by decide +kernel
theorem dX11_bird_40 : decode cX11_bird 40 = .ok (.isub, 1) := by decide +kernel
theorem dX11_bird_41 : decode cX11_bird 41 = .ok (.iastore, 1) := by decide +kernel
theorem dX11_bird_42 : decode cX11_bird 42 = .ok (.aload_n 0, 1) := by decide +kernel
theorem dX11_bird_43 : decode cX11_bird 43 = .ok (.getfield 29, 3) := by decide +kernel
theorem dX11_bird_46 : decode cX11_bird 46 = .ok (.getfield 106, 3) := by decide +kernel
theorem dX11_bird_49 : decode cX11_bird 49 = .ok (.iload_n 1, 1) := by decide +kernel
theorem dX11_bird_50 : decode cX11_bird 50 = .ok (.iaload, 1) := by decide +kernel
theorem dX11_bird_51 : decode cX11_bird 51 = .ok (.ireturn, 1) := by decide +kernel
set_option maxRecDepth 20000 in
theorem ggX11_end_X7_endDay : GoodIn wsX11_end wsX7_endDay := goodIn_r _ [7, 8, 9, 10, 11, 12, 13, 14, 15, 16, 17, 18, 19, 20, 21, 22, 41, 42, 43, 44, 45, 46, 47, 48, 49, 50, 32, 33, 34, 35, 36, 37, 38, 39, 40] (by decide +kernel) (by decide +kernel)
set_option maxRecDepth 20000 in
theorem gX11_end_X7_endDay : GoodIn wsX11_end (wsV RX11 142 RX7 yX7_endDay wsX7_endDay) := goodIn_app (goodIn_of _ (by decide +kernel)) ggX11_end_X7_endDay
theorem dX11_end_0 : decode cX11_end 0 = .ok (.aload_n 0, 1) := by decide +kernel
theorem dX11_end_1 : decode cX11_end 1 = .ok (.getfield 29, 3) := by decide +kernel
theorem dX11_end_4 : decode cX11_end 4 = .ok (.getfield 139, 3) := by decide +kernel
theorem dX11_end_7 : decode cX11_end 7 = .ok (.bipush 99, 2) := by decide +kernel
theorem dX11_end_9 : decode cX11_end 9 = .ok (.if_icmp .lt 8, 3) := by decide +kernel
theorem dX11_end_12 : decode cX11_end 12 = .ok (.bipush (-2), 2) := by decide +kernel
theorem dX11_end_14 : decode cX11_end 14 = .ok (.goto 14, 3) := by decide +kernel
theorem dX11_end_17 : decode cX11_end 17 = .ok (.aload_n 0, 1) := by decide +kernel
theorem dX11_end_18 : decode cX11_end 18 = .ok (.getfield 29, 3) := by decide +kernel
theorem dX11_end_21 : decode cX11_end 21 = .ok (.aload_n 0, 1) := by decide +kernel
theorem dX11_end_22 : decode cX11_end 22 = .ok (.getfield 19, 3) := by decide +kernel
theorem dX11_end_25 : decode cX11_end 25 = .ok (.invokevirtual 142, 3) := by decide +kernel
theorem dX11_end_28 : decode cX11_end 28 = .ok (.ireturn, 1) := by decide +kernel
set_option maxRecDepth 20000 in
theorem ggX11_now_X11_sumOf : GoodIn wsX11_now wsX11_sumOf := goodIn_r _ [6, 7, 8, 9, 10, 11, 12, 13, 14, 15, 16, 26, 27, 28, 29, 30, 31, 32, 33, 34, 35] (by decide +kernel) (by decide +kernel)
set_option maxRecDepth 20000 in
theorem gX11_now_X11_sumOf : GoodIn wsX11_now (wsV RX11 145 RX11 yX11_sumOf wsX11_sumOf) := goodIn_app (goodIn_of _ (by decide +kernel)) ggX11_now_X11_sumOf
theorem dX11_now_0 : decode cX11_now 0 = .ok (.iload_n 1, 1) := by decide +kernel
theorem dX11_now_1 : decode cX11_now 1 = .ok (.tableswitch 83 0 4 #[35, 43, 51, 63, 75], 35) := by decide +kernel
theorem dX11_now_36 : decode cX11_now 36 = .ok (.aload_n 0, 1) := by decide +kernel
theorem dX11_now_37 : decode cX11_now 37 = .ok (.getfield 29, 3) := by decide +kernel
theorem dX11_now_40 : decode cX11_now 40 = .ok (.getfield 139, 3) := by decide +kernel
theorem dX11_now_43 : decode cX11_now 43 = .ok (.ireturn, 1) := by decide +kernel
theorem dX11_now_44 : decode cX11_now 44 = .ok (.aload_n 0, 1) := by decide +kernel
theorem dX11_now_45 : decode cX11_now 45 = .ok (.getfield 29, 3) := by decide +kernel
theorem dX11_now_48 : decode cX11_now 48 = .ok (.getfield 130, 3) := by decide +kernel
theorem dX11_now_51 : decode cX11_now 51 = .ok (.ireturn, 1) := by decide +kernel
theorem dX11_now_52 : decode cX11_now 52 = .ok (.aload_n 0, 1) := by decide +kernel
theorem dX11_now_53 : decode cX11_now 53 = .ok (.aload_n 0, 1) := by decide +kernel
theorem dX11_now_54 : decode cX11_now 54 = .ok (.getfield 29, 3) := by decide +kernel
theorem dX11_now_57 : decode cX11_now 57 = .ok (.getfield 106, 3) := by decide +kernel
theorem dX11_now_60 : decode cX11_now 60 = .ok (.invokevirtual 145, 3) := by decide +kernel
theorem dX11_now_63 : decode cX11_now 63 = .ok (.ireturn, 1) := by decide +kernel
theorem dX11_now_64 : decode cX11_now 64 = .ok (.aload_n 0, 1) := by decide +kernel
theorem dX11_now_65 : decode cX11_now 65 = .ok (.aload_n 0, 1) := by decide +kernel
theorem dX11_now_66 : decode cX11_now 66 = .ok (.getfield 29, 3) := by decide +kernel
theorem dX11_now_69 : decode cX11_now 69 = .ok (.getfield 116, 3) := by decide +kernel
theorem dX11_now_72 : decode cX11_now 72 = .ok (.invokevirtual 145, 3) := by decide +kernel
theorem dX11_now_75 : decode cX11_now 75 = .ok (.ireturn, 1) := by decide +kernel
theorem dX11_now_76 : decode cX11_now 76 = .ok (.aload_n 0, 1) := by decide +kernel
theorem dX11_now_77 : decode cX11_now 77 = .ok (.getfield 29, 3) := by decide +kernel
theorem dX11_now_80 : decode cX11_now 80 = .ok (.getfield 149, 3) := by decide +kernel
theorem dX11_now_83 : decode cX11_now 83 = .ok (.ireturn, 1) := by decide +kernel
theorem dX11_now_84 : decode cX11_now 84 = .ok (.iconst (-1), 1) := by decide +kernel
theorem dX11_now_85 : decode cX11_now 85 = .ok (.ireturn, 1) := by decide +kernel
theorem dX11_sumOf_0 : decode cX11_sumOf 0 = .ok (.iconst 0, 1) := by decide +kernel
theorem dX11_sumOf_1 : decode cX11_sumOf 1 = .ok (.istore_n 2, 1) := by decide +kernel
theorem dX11_sumOf_2 : decode cX11_sumOf 2 = .ok (.iconst 0, 1) := by decide +kernel
theorem dX11_sumOf_3 : decode cX11_sumOf 3 = .ok (.istore_n 3, 1) := by decide +kernel
theorem dX11_sumOf_4 : decode cX11_sumOf 4 = .ok (.iload_n 3, 1) := by decide +kernel
theorem dX11_sumOf_5 : decode cX11_sumOf 5 = .ok (.aload_n 0, 1) := by decide +kernel
theorem dX11_sumOf_6 : decode cX11_sumOf 6 = .ok (.getfield 19, 3) := by decide +kernel
theorem dX11_sumOf_9 : decode cX11_sumOf 9 = .ok (.getfield 133, 3) := by decide +kernel
theorem dX11_sumOf_12 : decode cX11_sumOf 12 = .ok (.if_icmp .ge 21, 3) := by decide +kernel
theorem dX11_sumOf_15 : decode cX11_sumOf 15 = .ok (.iload_n 3, 1) := by decide +kernel
theorem dX11_sumOf_16 : decode cX11_sumOf 16 = .ok (.aload_n 1, 1) := by decide +kernel
theorem dX11_sumOf_17 : decode cX11_sumOf 17 = .ok (.arraylength, 1) := by decide +kernel
theorem dX11_sumOf_18 : decode cX11_sumOf 18 = .ok (.if_icmp .ge 15, 3) := by decide +kernel
theorem dX11_sumOf_21 : decode cX11_sumOf 21 = .ok (.iload_n 2, 1) := by decide +kernel
theorem dX11_sumOf_22 : decode cX11_sumOf 22 = .ok (.aload_n 1, 1) := by decide +kernel
theorem dX11_sumOf_23 : decode cX11_sumOf 23 = .ok (.iload_n 3, 1) := by decide +kernel
theorem dX11_sumOf_24 : decode cX11_sumOf 24 = .ok (.iaload, 1) := by decide +kernel
theorem dX11_sumOf_25 : decode cX11_sumOf 25 = .ok (.iadd, 1) := by decide +kernel
theorem dX11_sumOf_26 : decode cX11_sumOf 26 = .ok (.istore_n 2, 1) := by decide +kernel
theorem dX11_sumOf_27 : decode cX11_sumOf 27 = .ok (.iinc 3 1, 3) := by decide +kernel
theorem dX11_sumOf_30 : decode cX11_sumOf 30 = .ok (.goto (-26), 3) := by decide +kernel
theorem dX11_sumOf_33 : decode cX11_sumOf 33 = .ok (.iload_n 2, 1) := by decide +kernel
theorem dX11_sumOf_34 : decode cX11_sumOf 34 = .ok (.ireturn, 1) := by decide +kernel
theorem dX11_lot_0 : decode cX11_lot 0 = .ok (.aload_n 0, 1) := by decide +kernel
theorem dX11_lot_1 : decode cX11_lot 1 = .ok (.getfield 29, 3) := by decide +kernel
theorem dX11_lot_4 : decode cX11_lot 4 = .ok (.getfield 152, 3) := by decide +kernel
theorem dX11_lot_7 : decode cX11_lot 7 = .ok (.istore_n 2, 1) := by decide +kernel
theorem dX11_lot_8 : decode cX11_lot 8 = .ok (.aload_n 0, 1) := by decide +kernel
theorem dX11_lot_9 : decode cX11_lot 9 = .ok (.getfield 29, 3) := by decide +kernel
theorem dX11_lot_12 : decode cX11_lot 12 = .ok (.iload_n 1, 1) := by decide +kernel
theorem dX11_lot_13 : decode cX11_lot 13 = .ok (.putfield 152, 3) := by decide +kernel
theorem dX11_lot_16 : decode cX11_lot 16 = .ok (.iload_n 2, 1) := by decide +kernel
theorem dX11_lot_17 : decode cX11_lot 17 = .ok (.ireturn, 1) := by decide +kernel
set_option maxRecDepth 20000 in
theorem ggX11_safe_X1_from : GoodIn wsX11_safe wsX1_from := goodIn_r _ [8, 9, 10, 11, 12, 13, 14, 15, 16, 17, 18, 19, 58, 59, 60, 61, 62, 63, 64, 65, 66, 67, 68, 69, 70, 71, 72, 73, 74, 75, 76, 77, 78, 79, 80, 81, 82, 83, 84] (by decide +kernel) (by decide +kernel)
set_option maxRecDepth 20000 in
theorem gX11_safe_X1_from : GoodIn wsX11_safe (wsV RX11 155 RX1 yX1_from wsX1_from) := goodIn_app (goodIn_of _ (by decide +kernel)) ggX11_safe_X1_from
set_option maxRecDepth 20000 in
theorem ggX11_safe_X1_safeDays : GoodIn wsX11_safe wsX1_safeDays := goodIn_r _ [23, 24, 25, 26, 7, 27, 10, 28, 29, 30, 31, 32, 33, 34, 35, 36, 37, 12, 38, 39, 40, 41, 42, 43, 44, 45, 9, 11, 46, 47, 48, 68, 69, 70, 71, 72, 73, 74, 75] (by decide +kernel) (by decide +kernel)
set_option maxRecDepth 20000 in
theorem gX11_safe_X1_safeDays : GoodIn wsX11_safe (wsV RX11 159 RX1 yX1_safeDays wsX1_safeDays) := goodIn_app (goodIn_of _ (by decide +kernel)) ggX11_safe_X1_safeDays
theorem dX11_safe_0 : decode cX11_safe 0 = .ok (.aload_n 0, 1) := by decide +kernel
theorem dX11_safe_1 : decode cX11_safe 1 = .ok (.getfield 44, 3) := by decide +kernel
theorem dX11_safe_4 : decode cX11_safe 4 = .ok (.aload_n 0, 1) := by decide +kernel
theorem dX11_safe_5 : decode cX11_safe 5 = .ok (.getfield 19, 3) := by decide +kernel
theorem dX11_safe_8 : decode cX11_safe 8 = .ok (.aload_n 0, 1) := by decide +kernel
theorem dX11_safe_9 : decode cX11_safe 9 = .ok (.getfield 29, 3) := by decide +kernel
theorem dX11_safe_12 : decode cX11_safe 12 = .ok (.invokevirtual 155, 3) := by decide +kernel
theorem dX11_safe_15 : decode cX11_safe 15 = .ok (.invokevirtual 159, 3) := by decide +kernel
theorem dX11_safe_18 : decode cX11_safe 18 = .ok (.ireturn, 1) := by decide +kernel
set_option maxRecDepth 20000 in
theorem ggX11_least_X1_from : GoodIn wsX11_least wsX1_from := goodIn_r _ [8, 9, 10, 11, 12, 13, 14, 15, 16, 17, 18, 19, 58, 59, 60, 61, 62, 63, 64, 65, 66, 67, 68, 69, 70, 71, 72, 73, 74, 75, 76, 77, 78, 79, 80, 81, 82, 83, 84] (by decide +kernel) (by decide +kernel)
set_option maxRecDepth 20000 in
theorem gX11_least_X1_from : GoodIn wsX11_least (wsV RX11 155 RX1 yX1_from wsX1_from) := goodIn_app (goodIn_of _ (by decide +kernel)) ggX11_least_X1_from
set_option maxRecDepth 20000 in
theorem ggX11_least_X1_leastLack : GoodIn wsX11_least wsX1_leastLack := goodIn_r _ [23, 24, 25, 26, 7, 27, 10, 28, 29, 30, 31, 32, 33, 34, 35, 36, 37, 12, 38, 39, 40, 41, 42, 43, 44, 45, 9, 11, 46, 47, 48, 68, 69, 70, 71, 72, 73, 74, 75] (by decide +kernel) (by decide +kernel)
set_option maxRecDepth 20000 in
theorem gX11_least_X1_leastLack : GoodIn wsX11_least (wsV RX11 162 RX1 yX1_leastLack wsX1_leastLack) := goodIn_app (goodIn_of _ (by decide +kernel)) ggX11_least_X1_leastLack
theorem dX11_least_0 : decode cX11_least 0 = .ok (.iload_n 1, 1) := by decide +kernel
theorem dX11_least_1 : decode cX11_least 1 = .ok (.iconst 1, 1) := by decide +kernel
theorem dX11_least_2 : decode cX11_least 2 = .ok (.if_icmp .lt 9, 3) := by decide +kernel
theorem dX11_least_5 : decode cX11_least 5 = .ok (.iload_n 1, 1) := by decide +kernel
theorem dX11_least_6 : decode cX11_least 6 = .ok (.bipush 20, 2) := by decide +kernel
theorem dX11_least_8 : decode cX11_least 8 = .ok (.if_icmp .le 7, 3) := by decide +kernel
theorem dX11_least_11 : decode cX11_least 11 = .ok (.iconst (-1), 1) := by decide +kernel
theorem dX11_least_12 : decode cX11_least 12 = .ok (.goto 22, 3) := by decide +kernel
theorem dX11_least_15 : decode cX11_least 15 = .ok (.aload_n 0, 1) := by decide +kernel
theorem dX11_least_16 : decode cX11_least 16 = .ok (.getfield 44, 3) := by decide +kernel
theorem dX11_least_19 : decode cX11_least 19 = .ok (.aload_n 0, 1) := by decide +kernel
theorem dX11_least_20 : decode cX11_least 20 = .ok (.getfield 19, 3) := by decide +kernel
theorem dX11_least_23 : decode cX11_least 23 = .ok (.aload_n 0, 1) := by decide +kernel
theorem dX11_least_24 : decode cX11_least 24 = .ok (.getfield 29, 3) := by decide +kernel
theorem dX11_least_27 : decode cX11_least 27 = .ok (.invokevirtual 155, 3) := by decide +kernel
theorem dX11_least_30 : decode cX11_least 30 = .ok (.iload_n 1, 1) := by decide +kernel
theorem dX11_least_31 : decode cX11_least 31 = .ok (.invokevirtual 162, 3) := by decide +kernel
theorem dX11_least_34 : decode cX11_least 34 = .ok (.ireturn, 1) := by decide +kernel
set_option maxRecDepth 20000 in
theorem ggX11_today_X3_has : GoodIn wsX11_today wsX3_has := goodIn_r _ [8, 9, 80, 81, 82, 83, 84, 85, 86, 87, 88, 89] (by decide +kernel) (by decide +kernel)
set_option maxRecDepth 20000 in
theorem gX11_today_X3_has : GoodIn wsX11_today (wsV RX11 102 RX3 yX3_has wsX3_has) := goodIn_app (goodIn_of _ (by decide +kernel)) ggX11_today_X3_has
set_option maxRecDepth 20000 in
theorem ggX11_today_X1_from : GoodIn wsX11_today wsX1_from := goodIn_r _ [14, 15, 16, 17, 18, 19, 20, 21, 7, 22, 23, 24, 80, 81, 82, 83, 84, 85, 86, 87, 88, 89, 90, 91, 92, 93, 94, 95, 96, 97, 71, 72, 73, 74, 75, 76, 77, 78, 79] (by decide +kernel) (by decide +kernel)
set_option maxRecDepth 20000 in
theorem gX11_today_X1_from : GoodIn wsX11_today (wsV RX11 155 RX1 yX1_from wsX1_from) := goodIn_app (goodIn_of _ (by decide +kernel)) ggX11_today_X1_from
set_option maxRecDepth 20000 in
theorem ggX11_today_X1_shareOut : GoodIn wsX11_today wsX1_shareOut := goodIn_r _ [28, 18, 29, 30, 31, 13, 32, 15, 33, 34, 35, 36, 16, 17, 37, 38, 39, 40, 41, 42, 43, 44, 45, 46, 47, 48, 49, 50, 51, 52, 53, 54, 55, 56, 57, 58, 59, 60, 61, 90, 91, 92, 93, 94, 95, 96, 97] (by decide +kernel) (by decide +kernel)
set_option maxRecDepth 20000 in
theorem gX11_today_X1_shareOut : GoodIn wsX11_today (wsV RX11 165 RX1 yX1_shareOut wsX1_shareOut) := goodIn_app (goodIn_of _ (by decide +kernel)) ggX11_today_X1_shareOut
theorem dX11_today_0 : decode cX11_today 0 = .ok (.iload_n 1, 1) := by decide +kernel
theorem dX11_today_1 : decode cX11_today 1 = .ok (.iconst (-1), 1) := by decide +kernel
theorem dX11_today_2 : decode cX11_today 2 = .ok (.if_icmp .eq 16, 3) := by decide +kernel
theorem dX11_today_5 : decode cX11_today 5 = .ok (.aload_n 0, 1) := by decide +kernel
theorem dX11_today_6 : decode cX11_today 6 = .ok (.getfield 19, 3) := by decide +kernel
theorem dX11_today_9 : decode cX11_today 9 = .ok (.iload_n 1, 1) := by decide +kernel
theorem dX11_today_10 : decode cX11_today 10 = .ok (.invokevirtual 102, 3) := by decide +kernel
theorem dX11_today_13 : decode cX11_today 13 = .ok (.ifCond .ne 5, 3) := by decide +kernel
theorem dX11_today_16 : decode cX11_today 16 = .ok (.iconst (-1), 1) := by decide +kernel
theorem dX11_today_17 : decode cX11_today 17 = .ok (.ireturn, 1) := by decide +kernel
theorem dX11_today_18 : decode cX11_today 18 = .ok (.aload_n 0, 1) := by decide +kernel
theorem dX11_today_19 : decode cX11_today 19 = .ok (.getfield 29, 3) := by decide +kernel
theorem dX11_today_22 : decode cX11_today 22 = .ok (.getfield 130, 3) := by decide +kernel
theorem dX11_today_25 : decode cX11_today 25 = .ok (.bipush 12, 2) := by decide +kernel
theorem dX11_today_27 : decode cX11_today 27 = .ok (.if_icmp .le 6, 3) := by decide +kernel
theorem dX11_today_30 : decode cX11_today 30 = .ok (.bipush (-2), 2) := by decide +kernel
theorem dX11_today_32 : decode cX11_today 32 = .ok (.ireturn, 1) := by decide +kernel
theorem dX11_today_33 : decode cX11_today 33 = .ok (.aload_n 0, 1) := by decide +kernel
theorem dX11_today_34 : decode cX11_today 34 = .ok (.getfield 19, 3) := by decide +kernel
theorem dX11_today_37 : decode cX11_today 37 = .ok (.getfield 133, 3) := by decide +kernel
theorem dX11_today_40 : decode cX11_today 40 = .ok (.iconst 1, 1) := by decide +kernel
theorem dX11_today_41 : decode cX11_today 41 = .ok (.if_icmp .ge 6, 3) := by decide +kernel
theorem dX11_today_44 : decode cX11_today 44 = .ok (.bipush (-9), 2) := by decide +kernel
theorem dX11_today_46 : decode cX11_today 46 = .ok (.ireturn, 1) := by decide +kernel
theorem dX11_today_47 : decode cX11_today 47 = .ok (.aload_n 0, 1) := by decide +kernel
theorem dX11_today_48 : decode cX11_today 48 = .ok (.getfield 44, 3) := by decide +kernel
theorem dX11_today_51 : decode cX11_today 51 = .ok (.aload_n 0, 1) := by decide +kernel
theorem dX11_today_52 : decode cX11_today 52 = .ok (.getfield 19, 3) := by decide +kernel
theorem dX11_today_55 : decode cX11_today 55 = .ok (.aload_n 0, 1) := by decide +kernel
theorem dX11_today_56 : decode cX11_today 56 = .ok (.getfield 29, 3) := by decide +kernel
theorem dX11_today_59 : decode cX11_today 59 = .ok (.invokevirtual 155, 3) := by decide +kernel
theorem dX11_today_62 : decode cX11_today 62 = .ok (.invokevirtual 165, 3) := by decide +kernel
theorem dX11_today_65 : decode cX11_today 65 = .ok (.istore_n 2, 1) := by decide +kernel
theorem dX11_today_66 : decode cX11_today 66 = .ok (.iload_n 1, 1) := by decide +kernel
theorem dX11_today_67 : decode cX11_today 67 = .ok (.iconst (-1), 1) := by decide +kernel
theorem dX11_today_68 : decode cX11_today 68 = .ok (.if_icmp .ne 7, 3) := by decide +kernel
theorem dX11_today_71 : decode cX11_today 71 = .ok (.iload_n 2, 1) := by decide +kernel
theorem dX11_today_72 : decode cX11_today 72 = .ok (.goto 12, 3) := by decide +kernel
theorem dX11_today_75 : decode cX11_today 75 = .ok (.aload_n 0, 1) := by decide +kernel
theorem dX11_today_76 : decode cX11_today 76 = .ok (.getfield 44, 3) := by decide +kernel
theorem dX11_today_79 : decode cX11_today 79 = .ok (.getfield 168, 3) := by decide +kernel
theorem dX11_today_82 : decode cX11_today 82 = .ok (.iload_n 1, 1) := by decide +kernel
theorem dX11_today_83 : decode cX11_today 83 = .ok (.iaload, 1) := by decide +kernel
theorem dX11_today_84 : decode cX11_today 84 = .ok (.ireturn, 1) := by decide +kernel
set_option maxRecDepth 20000 in
theorem ggX11_got_X3_has : GoodIn wsX11_got wsX3_has := goodIn_r _ [9, 10, 69, 70, 71, 72, 73, 74, 75, 76, 77, 78] (by decide +kernel) (by decide +kernel)
set_option maxRecDepth 20000 in
theorem gX11_got_X3_has : GoodIn wsX11_got (wsV RX11 102 RX3 yX3_has wsX3_has) := goodIn_app (goodIn_of _ (by decide +kernel)) ggX11_got_X3_has
set_option maxRecDepth 20000 in
theorem ggX11_got_X10_waysToGet : GoodIn wsX11_got wsX10_waysToGet := goodIn_r _ [15, 16, 17, 18, 19, 20, 21, 22, 14, 23, 24, 25, 26, 8, 27, 28, 29, 30, 31, 32, 33, 10, 34, 35, 36, 37, 38, 79, 69, 70, 71, 72, 73, 74, 75, 76, 77, 78] (by decide +kernel) (by decide +kernel)
set_option maxRecDepth 20000 in
theorem gX11_got_X10_waysToGet : GoodIn wsX11_got (wsV RX11 173 RX10 yX10_waysToGet wsX10_waysToGet) := goodIn_app (goodIn_of _ (by decide +kernel)) ggX11_got_X10_waysToGet
set_option maxRecDepth 20000 in
theorem ggX11_got_X10_waysInAll : GoodIn wsX11_got wsX10_waysInAll := goodIn_r _ [42, 38] (by decide +kernel) (by decide +kernel)
set_option maxRecDepth 20000 in
theorem gX11_got_X10_waysInAll : GoodIn wsX11_got (wsV RX11 177 RX10 yX10_waysInAll wsX10_waysInAll) := goodIn_app (goodIn_of _ (by decide +kernel)) ggX11_got_X10_waysInAll
set_option maxRecDepth 20000 in
theorem ggX11_got_X10_greatestDivisor : GoodIn wsX11_got wsX10_greatestDivisor := goodIn_r _ [46, 47, 48, 49, 50] (by decide +kernel) (by decide +kernel)
set_option maxRecDepth 20000 in
theorem gX11_got_X10_greatestDivisor : GoodIn wsX11_got (wsV RX11 181 RX10 yX10_greatestDivisor wsX10_greatestDivisor) := goodIn_app (goodIn_of _ (by decide +kernel)) ggX11_got_X10_greatestDivisor
theorem dX11_got_0 : decode cX11_got 0 = .ok (.iload_n 1, 1) := by decide +kernel
theorem dX11_got_1 : decode cX11_got 1 = .ok (.iconst 1, 1) := by decide +kernel
theorem dX11_got_2 : decode cX11_got 2 = .ok (.if_icmp .lt 41, 3) := by decide +kernel
theorem dX11_got_5 : decode cX11_got 5 = .ok (.iload_n 1, 1) := by decide +kernel
theorem dX11_got_6 : decode cX11_got 6 = .ok (.bipush 12, 2) := by decide +kernel
theorem dX11_got_8 : decode cX11_got 8 = .ok (.if_icmp .gt 35, 3) := by decide +kernel
theorem dX11_got_11 : decode cX11_got 11 = .ok (.aload_n 0, 1) := by decide +kernel
theorem dX11_got_12 : decode cX11_got 12 = .ok (.getfield 19, 3) := by decide +kernel
theorem dX11_got_15 : decode cX11_got 15 = .ok (.iload_n 2, 1) := by decide +kernel
theorem dX11_got_16 : decode cX11_got 16 = .ok (.invokevirtual 102, 3) := by decide +kernel
theorem dX11_got_19 : decode cX11_got 19 = .ok (.ifCond .eq 24, 3) := by decide +kernel
theorem dX11_got_22 : decode cX11_got 22 = .ok (.iload_n 3, 1) := by decide +kernel
theorem dX11_got_23 : decode cX11_got 23 = .ok (.ifCond .lt 20, 3) := by decide +kernel
theorem dX11_got_26 : decode cX11_got 26 = .ok (.iload_n 3, 1) := by decide +kernel
theorem dX11_got_27 : decode cX11_got 27 = .ok (.bipush 12, 2) := by decide +kernel
theorem dX11_got_29 : decode cX11_got 29 = .ok (.if_icmp .gt 14, 3) := by decide +kernel
theorem dX11_got_32 : decode cX11_got 32 = .ok (.iload 4, 2) := by decide +kernel
theorem dX11_got_34 : decode cX11_got 34 = .ok (.ifCond .lt 9, 3) := by decide +kernel
theorem dX11_got_37 : decode cX11_got 37 = .ok (.iload 4, 2) := by decide +kernel
theorem dX11_got_39 : decode cX11_got 39 = .ok (.iconst 1, 1) := by decide +kernel
theorem dX11_got_40 : decode cX11_got 40 = .ok (.if_icmp .le 7, 3) := by decide +kernel
theorem dX11_got_43 : decode cX11_got 43 = .ok (.ldc2_w 171, 3) := by decide +kernel
theorem dX11_got_46 : decode cX11_got 46 = .ok (.lreturn, 1) := by decide +kernel
theorem dX11_got_47 : decode cX11_got 47 = .ok (.aload_n 0, 1) := by decide +kernel
theorem dX11_got_48 : decode cX11_got 48 = .ok (.getfield 51, 3) := by decide +kernel
theorem dX11_got_51 : decode cX11_got 51 = .ok (.aload_n 0, 1) := by decide +kernel
theorem dX11_got_52 : decode cX11_got 52 = .ok (.getfield 19, 3) := by decide +kernel
theorem dX11_got_55 : decode cX11_got 55 = .ok (.aload_n 0, 1) := by decide +kernel
theorem dX11_got_56 : decode cX11_got 56 = .ok (.getfield 29, 3) := by decide +kernel
theorem dX11_got_59 : decode cX11_got 59 = .ok (.getfield 149, 3) := by decide +kernel
theorem dX11_got_62 : decode cX11_got 62 = .ok (.iload_n 1, 1) := by decide +kernel
theorem dX11_got_63 : decode cX11_got 63 = .ok (.iload_n 2, 1) := by decide +kernel
theorem dX11_got_64 : decode cX11_got 64 = .ok (.iload_n 3, 1) := by decide +kernel
theorem dX11_got_65 : decode cX11_got 65 = .ok (.invokevirtual 173, 3) := by decide +kernel
theorem dX11_got_68 : decode cX11_got 68 = .ok (.lstore 5, 2) := by decide +kernel
theorem dX11_got_70 : decode cX11_got 70 = .ok (.aload_n 0, 1) := by decide +kernel
theorem dX11_got_71 : decode cX11_got 71 = .ok (.getfield 51, 3) := by decide +kernel
theorem dX11_got_74 : decode cX11_got 74 = .ok (.iload_n 1, 1) := by decide +kernel
theorem dX11_got_75 : decode cX11_got 75 = .ok (.invokevirtual 177, 3) := by decide +kernel
theorem dX11_got_78 : decode cX11_got 78 = .ok (.lstore 7, 2) := by decide +kernel
theorem dX11_got_80 : decode cX11_got 80 = .ok (.iload 4, 2) := by decide +kernel
theorem dX11_got_82 : decode cX11_got 82 = .ok (.ifCond .ne 8, 3) := by decide +kernel
theorem dX11_got_85 : decode cX11_got 85 = .ok (.lload 5, 2) := by decide +kernel
theorem dX11_got_87 : decode cX11_got 87 = .ok (.goto 5, 3) := by decide +kernel
theorem dX11_got_90 : decode cX11_got 90 = .ok (.lload 7, 2) := by decide +kernel
theorem dX11_got_92 : decode cX11_got 92 = .ok (.aload_n 0, 1) := by decide +kernel
theorem dX11_got_93 : decode cX11_got 93 = .ok (.getfield 51, 3) := by decide +kernel
theorem dX11_got_96 : decode cX11_got 96 = .ok (.lload 5, 2) := by decide +kernel
theorem dX11_got_98 : decode cX11_got 98 = .ok (.lload 7, 2) := by decide +kernel
theorem dX11_got_100 : decode cX11_got 100 = .ok (.invokevirtual 181, 3) := by decide +kernel
theorem dX11_got_103 : decode cX11_got 103 = .ok (.ldiv, 1) := by decide +kernel
theorem dX11_got_104 : decode cX11_got 104 = .ok (.lreturn, 1) := by decide +kernel
set_option maxRecDepth 20000 in
theorem ggX11_tried_X1_from : GoodIn wsX11_tried wsX1_from := goodIn_r _ [8, 9, 10, 11, 12, 13, 14, 15, 16, 17, 18, 19, 72, 73, 74, 75, 76, 77, 78, 79, 80, 81, 82, 83, 84, 85, 86, 87, 88, 89, 90, 91, 92, 93, 94, 95, 96, 97, 98] (by decide +kernel) (by decide +kernel)
set_option maxRecDepth 20000 in
theorem gX11_tried_X1_from : GoodIn wsX11_tried (wsV RX11 155 RX1 yX1_from wsX1_from) := goodIn_app (goodIn_of _ (by decide +kernel)) ggX11_tried_X1_from
set_option maxRecDepth 20000 in
theorem ggX11_tried_X1_trySongs : GoodIn wsX11_tried wsX1_trySongs := goodIn_r _ [23, 24, 25, 26, 27, 7, 28, 9, 29, 30, 31, 32, 33, 34, 35, 36, 37, 38, 39, 40, 41, 12, 42, 43, 44, 45, 10, 46, 47, 48, 49, 50, 51, 52, 53, 54, 55, 56, 57, 58, 59, 11, 60, 61, 62, 82, 83, 84, 85, 86, 87, 88, 89] (by decide +kernel) (by decide +kernel)
set_option maxRecDepth 20000 in
theorem gX11_tried_X1_trySongs : GoodIn wsX11_tried (wsV RX11 185 RX1 yX1_trySongs wsX1_trySongs) := goodIn_app (goodIn_of _ (by decide +kernel)) ggX11_tried_X1_trySongs
theorem dX11_tried_0 : decode cX11_tried 0 = .ok (.iload_n 1, 1) := by decide +kernel
theorem dX11_tried_1 : decode cX11_tried 1 = .ok (.iconst 1, 1) := by decide +kernel
theorem dX11_tried_2 : decode cX11_tried 2 = .ok (.if_icmp .lt 29, 3) := by decide +kernel
theorem dX11_tried_5 : decode cX11_tried 5 = .ok (.iload_n 1, 1) := by decide +kernel
theorem dX11_tried_6 : decode cX11_tried 6 = .ok (.iconst 3, 1) := by decide +kernel
theorem dX11_tried_7 : decode cX11_tried 7 = .ok (.if_icmp .gt 24, 3) := by decide +kernel
theorem dX11_tried_10 : decode cX11_tried 10 = .ok (.iload_n 2, 1) := by decide +kernel
theorem dX11_tried_11 : decode cX11_tried 11 = .ok (.iconst 1, 1) := by decide +kernel
theorem dX11_tried_12 : decode cX11_tried 12 = .ok (.if_icmp .lt 19, 3) := by decide +kernel
theorem dX11_tried_15 : decode cX11_tried 15 = .ok (.iload_n 2, 1) := by decide +kernel
theorem dX11_tried_16 : decode cX11_tried 16 = .ok (.bipush 9, 2) := by decide +kernel
theorem dX11_tried_18 : decode cX11_tried 18 = .ok (.if_icmp .gt 13, 3) := by decide +kernel
theorem dX11_tried_21 : decode cX11_tried 21 = .ok (.iload_n 3, 1) := by decide +kernel
theorem dX11_tried_22 : decode cX11_tried 22 = .ok (.iconst (-1), 1) := by decide +kernel
theorem dX11_tried_23 : decode cX11_tried 23 = .ok (.if_icmp .lt 8, 3) := by decide +kernel
theorem dX11_tried_26 : decode cX11_tried 26 = .ok (.iload_n 3, 1) := by decide +kernel
theorem dX11_tried_27 : decode cX11_tried 27 = .ok (.iconst 3, 1) := by decide +kernel
theorem dX11_tried_28 : decode cX11_tried 28 = .ok (.if_icmp .lt 5, 3) := by decide +kernel
theorem dX11_tried_31 : decode cX11_tried 31 = .ok (.iconst (-1), 1) := by decide +kernel
theorem dX11_tried_32 : decode cX11_tried 32 = .ok (.ireturn, 1) := by decide +kernel
theorem dX11_tried_33 : decode cX11_tried 33 = .ok (.aload_n 0, 1) := by decide +kernel
theorem dX11_tried_34 : decode cX11_tried 34 = .ok (.getfield 19, 3) := by decide +kernel
theorem dX11_tried_37 : decode cX11_tried 37 = .ok (.getfield 133, 3) := by decide +kernel
theorem dX11_tried_40 : decode cX11_tried 40 = .ok (.iconst 1, 1) := by decide +kernel
theorem dX11_tried_41 : decode cX11_tried 41 = .ok (.if_icmp .ge 6, 3) := by decide +kernel
theorem dX11_tried_44 : decode cX11_tried 44 = .ok (.bipush (-9), 2) := by decide +kernel
theorem dX11_tried_46 : decode cX11_tried 46 = .ok (.ireturn, 1) := by decide +kernel
theorem dX11_tried_47 : decode cX11_tried 47 = .ok (.iload_n 3, 1) := by decide +kernel
theorem dX11_tried_48 : decode cX11_tried 48 = .ok (.iload_n 1, 1) := by decide +kernel
theorem dX11_tried_49 : decode cX11_tried 49 = .ok (.if_icmp .lt 6, 3) := by decide +kernel
theorem dX11_tried_52 : decode cX11_tried 52 = .ok (.bipush (-5), 2) := by decide +kernel
theorem dX11_tried_54 : decode cX11_tried 54 = .ok (.ireturn, 1) := by decide +kernel
theorem dX11_tried_55 : decode cX11_tried 55 = .ok (.aload_n 0, 1) := by decide +kernel
theorem dX11_tried_56 : decode cX11_tried 56 = .ok (.getfield 44, 3) := by decide +kernel
theorem dX11_tried_59 : decode cX11_tried 59 = .ok (.aload_n 0, 1) := by decide +kernel
theorem dX11_tried_60 : decode cX11_tried 60 = .ok (.getfield 19, 3) := by decide +kernel
theorem dX11_tried_63 : decode cX11_tried 63 = .ok (.aload_n 0, 1) := by decide +kernel
theorem dX11_tried_64 : decode cX11_tried 64 = .ok (.getfield 29, 3) := by decide +kernel
theorem dX11_tried_67 : decode cX11_tried 67 = .ok (.invokevirtual 155, 3) := by decide +kernel
theorem dX11_tried_70 : decode cX11_tried 70 = .ok (.iload_n 1, 1) := by decide +kernel
theorem dX11_tried_71 : decode cX11_tried 71 = .ok (.iload_n 2, 1) := by decide +kernel
theorem dX11_tried_72 : decode cX11_tried 72 = .ok (.invokevirtual 185, 3) := by decide +kernel
theorem dX11_tried_75 : decode cX11_tried 75 = .ok (.istore 4, 2) := by decide +kernel
theorem dX11_tried_77 : decode cX11_tried 77 = .ok (.iload_n 3, 1) := by decide +kernel
theorem dX11_tried_78 : decode cX11_tried 78 = .ok (.iconst (-1), 1) := by decide +kernel
theorem dX11_tried_79 : decode cX11_tried 79 = .ok (.if_icmp .ne 8, 3) := by decide +kernel
theorem dX11_tried_82 : decode cX11_tried 82 = .ok (.iload 4, 2) := by decide +kernel
theorem dX11_tried_84 : decode cX11_tried 84 = .ok (.goto 12, 3) := by decide +kernel
theorem dX11_tried_87 : decode cX11_tried 87 = .ok (.aload_n 0, 1) := by decide +kernel
theorem dX11_tried_88 : decode cX11_tried 88 = .ok (.getfield 44, 3) := by decide +kernel
theorem dX11_tried_91 : decode cX11_tried 91 = .ok (.getfield 189, 3) := by decide +kernel
theorem dX11_tried_94 : decode cX11_tried 94 = .ok (.iload_n 3, 1) := by decide +kernel
theorem dX11_tried_95 : decode cX11_tried 95 = .ok (.iaload, 1) := by decide +kernel
theorem dX11_tried_96 : decode cX11_tried 96 = .ok (.ireturn, 1) := by decide +kernel
set_option maxRecDepth 20000 in
theorem ggX11_saw_X3_allBits : GoodIn wsX11_saw wsX3_allBits := goodIn_r _ [7, 8, 35, 36, 37, 38, 39, 40, 41, 42, 43, 44] (by decide +kernel) (by decide +kernel)
set_option maxRecDepth 20000 in
theorem gX11_saw_X3_allBits : GoodIn wsX11_saw (wsV RX11 192 RX3 yX3_allBits wsX3_allBits) := goodIn_app (goodIn_of _ (by decide +kernel)) ggX11_saw_X3_allBits
set_option maxRecDepth 20000 in
theorem ggX11_saw_X7_hear : GoodIn wsX11_saw wsX7_hear := goodIn_r _ [13, 14, 15, 16, 26, 27, 28, 29, 30, 31, 32, 33, 34] (by decide +kernel) (by decide +kernel)
set_option maxRecDepth 20000 in
theorem gX11_saw_X7_hear : GoodIn wsX11_saw (wsV RX11 195 RX7 yX7_hear wsX7_hear) := goodIn_app (goodIn_of _ (by decide +kernel)) ggX11_saw_X7_hear
theorem dX11_saw_0 : decode cX11_saw 0 = .ok (.iload_n 1, 1) := by decide +kernel
theorem dX11_saw_1 : decode cX11_saw 1 = .ok (.ifCond .lt 25, 3) := by decide +kernel
theorem dX11_saw_4 : decode cX11_saw 4 = .ok (.iload_n 1, 1) := by decide +kernel
theorem dX11_saw_5 : decode cX11_saw 5 = .ok (.bipush 20, 2) := by decide +kernel
theorem dX11_saw_7 : decode cX11_saw 7 = .ok (.if_icmp .ge 19, 3) := by decide +kernel
theorem dX11_saw_10 : decode cX11_saw 10 = .ok (.iload_n 2, 1) := by decide +kernel
theorem dX11_saw_11 : decode cX11_saw 11 = .ok (.iconst 1, 1) := by decide +kernel
theorem dX11_saw_12 : decode cX11_saw 12 = .ok (.if_icmp .lt 14, 3) := by decide +kernel
theorem dX11_saw_15 : decode cX11_saw 15 = .ok (.iload_n 2, 1) := by decide +kernel
theorem dX11_saw_16 : decode cX11_saw 16 = .ok (.aload_n 0, 1) := by decide +kernel
theorem dX11_saw_17 : decode cX11_saw 17 = .ok (.getfield 19, 3) := by decide +kernel
theorem dX11_saw_20 : decode cX11_saw 20 = .ok (.invokevirtual 192, 3) := by decide +kernel
theorem dX11_saw_23 : decode cX11_saw 23 = .ok (.if_icmp .le 5, 3) := by decide +kernel
theorem dX11_saw_26 : decode cX11_saw 26 = .ok (.iconst (-1), 1) := by decide +kernel
theorem dX11_saw_27 : decode cX11_saw 27 = .ok (.ireturn, 1) := by decide +kernel
theorem dX11_saw_28 : decode cX11_saw 28 = .ok (.aload_n 0, 1) := by decide +kernel
theorem dX11_saw_29 : decode cX11_saw 29 = .ok (.getfield 29, 3) := by decide +kernel
theorem dX11_saw_32 : decode cX11_saw 32 = .ok (.iload_n 1, 1) := by decide +kernel
theorem dX11_saw_33 : decode cX11_saw 33 = .ok (.iload_n 2, 1) := by decide +kernel
theorem dX11_saw_34 : decode cX11_saw 34 = .ok (.invokevirtual 195, 3) := by decide +kernel
theorem dX11_saw_37 : decode cX11_saw 37 = .ok (.ifCond .eq 13, 3) := by decide +kernel
theorem dX11_saw_40 : decode cX11_saw 40 = .ok (.aload_n 0, 1) := by decide +kernel
theorem dX11_saw_41 : decode cX11_saw 41 = .ok (.getfield 29, 3) := by decide +kernel
theorem dX11_saw_44 : decode cX11_saw 44 = .ok (.getfield 199, 3) := by decide +kernel
theorem dX11_saw_47 : decode cX11_saw 47 = .ok (.goto 5, 3) := by decide +kernel
theorem dX11_saw_50 : decode cX11_saw 50 = .ok (.bipush (-3), 2) := by decide +kernel
theorem dX11_saw_52 : decode cX11_saw 52 = .ok (.ireturn, 1) := by decide +kernel
theorem dX11_forget_0 : decode cX11_forget 0 = .ok (.aload_n 0, 1) := by decide +kernel
theorem dX11_forget_1 : decode cX11_forget 1 = .ok (.getfield 29, 3) := by decide +kernel
theorem dX11_forget_4 : decode cX11_forget 4 = .ok (.getfield 199, 3) := by decide +kernel
theorem dX11_forget_7 : decode cX11_forget 7 = .ok (.istore_n 1, 1) := by decide +kernel
theorem dX11_forget_8 : decode cX11_forget 8 = .ok (.aload_n 0, 1) := by decide +kernel
theorem dX11_forget_9 : decode cX11_forget 9 = .ok (.getfield 29, 3) := by decide +kernel
theorem dX11_forget_12 : decode cX11_forget 12 = .ok (.iconst 0, 1) := by decide +kernel
theorem dX11_forget_13 : decode cX11_forget 13 = .ok (.putfield 199, 3) := by decide +kernel
theorem dX11_forget_16 : decode cX11_forget 16 = .ok (.iload_n 1, 1) := by decide +kernel
theorem dX11_forget_17 : decode cX11_forget 17 = .ok (.ireturn, 1) := by decide +kernel
set_option maxRecDepth 20000 in
theorem ggX11_could_X10_waysHeard : GoodIn wsX11_could wsX10_waysHeard := goodIn_r _ [8, 9, 10, 7, 11, 12, 13, 14, 15, 16, 17, 18, 19, 20, 21, 22, 23, 24, 25, 26, 27, 28, 29, 30, 31, 32, 33, 34, 35, 45, 46, 47, 48, 49, 50, 51, 52, 53, 54, 55, 56, 57, 58, 59, 60, 61, 62, 63] (by decide +kernel) (by decide +kernel)
set_option maxRecDepth 20000 in
theorem gX11_could_X10_waysHeard : GoodIn wsX11_could (wsV RX11 202 RX10 yX10_waysHeard wsX10_waysHeard) := goodIn_app (goodIn_of _ (by decide +kernel)) ggX11_could_X10_waysHeard
theorem dX11_could_0 : decode cX11_could 0 = .ok (.iload_n 1, 1) := by decide +kernel
theorem dX11_could_1 : decode cX11_could 1 = .ok (.iconst 1, 1) := by decide +kernel
theorem dX11_could_2 : decode cX11_could 2 = .ok (.if_icmp .lt 9, 3) := by decide +kernel
theorem dX11_could_5 : decode cX11_could 5 = .ok (.iload_n 1, 1) := by decide +kernel
theorem dX11_could_6 : decode cX11_could 6 = .ok (.bipush 12, 2) := by decide +kernel
theorem dX11_could_8 : decode cX11_could 8 = .ok (.if_icmp .le 7, 3) := by decide +kernel
theorem dX11_could_11 : decode cX11_could 11 = .ok (.iconst (-1), 1) := by decide +kernel
theorem dX11_could_12 : decode cX11_could 12 = .ok (.goto 19, 3) := by decide +kernel
theorem dX11_could_15 : decode cX11_could 15 = .ok (.aload_n 0, 1) := by decide +kernel
theorem dX11_could_16 : decode cX11_could 16 = .ok (.getfield 51, 3) := by decide +kernel
theorem dX11_could_19 : decode cX11_could 19 = .ok (.aload_n 0, 1) := by decide +kernel
theorem dX11_could_20 : decode cX11_could 20 = .ok (.getfield 19, 3) := by decide +kernel
theorem dX11_could_23 : decode cX11_could 23 = .ok (.aload_n 0, 1) := by decide +kernel
theorem dX11_could_24 : decode cX11_could 24 = .ok (.getfield 29, 3) := by decide +kernel
theorem dX11_could_27 : decode cX11_could 27 = .ok (.iload_n 1, 1) := by decide +kernel
theorem dX11_could_28 : decode cX11_could 28 = .ok (.invokevirtual 202, 3) := by decide +kernel
theorem dX11_could_31 : decode cX11_could 31 = .ok (.ireturn, 1) := by decide +kernel
set_option maxRecDepth 20000 in
theorem ggX11_who_X10_placesHeard : GoodIn wsX11_who wsX10_placesHeard := goodIn_r _ [8, 9, 10, 11, 7, 12, 13, 14, 15, 16, 17, 18, 19, 20, 21, 22, 23, 24, 25, 26, 27, 28, 29, 30, 31, 32, 33, 34, 35, 36, 37, 38, 39, 49, 50, 51, 52, 53, 54, 55, 56, 57, 58, 59, 60, 61, 62, 63, 64, 65, 66, 67] (by decide +kernel) (by decide +kernel)
set_option maxRecDepth 20000 in
theorem gX11_who_X10_placesHeard : GoodIn wsX11_who (wsV RX11 206 RX10 yX10_placesHeard wsX10_placesHeard) := goodIn_app (goodIn_of _ (by decide +kernel)) ggX11_who_X10_placesHeard
theorem dX11_who_0 : decode cX11_who 0 = .ok (.iload_n 1, 1) := by decide +kernel
theorem dX11_who_1 : decode cX11_who 1 = .ok (.iconst 1, 1) := by decide +kernel
theorem dX11_who_2 : decode cX11_who 2 = .ok (.if_icmp .lt 18, 3) := by decide +kernel
theorem dX11_who_5 : decode cX11_who 5 = .ok (.iload_n 1, 1) := by decide +kernel
theorem dX11_who_6 : decode cX11_who 6 = .ok (.bipush 12, 2) := by decide +kernel
theorem dX11_who_8 : decode cX11_who 8 = .ok (.if_icmp .gt 12, 3) := by decide +kernel
theorem dX11_who_11 : decode cX11_who 11 = .ok (.iload_n 2, 1) := by decide +kernel
theorem dX11_who_12 : decode cX11_who 12 = .ok (.ifCond .lt 8, 3) := by decide +kernel
theorem dX11_who_15 : decode cX11_who 15 = .ok (.iload_n 2, 1) := by decide +kernel
theorem dX11_who_16 : decode cX11_who 16 = .ok (.iload_n 1, 1) := by decide +kernel
theorem dX11_who_17 : decode cX11_who 17 = .ok (.if_icmp .lt 7, 3) := by decide +kernel
theorem dX11_who_20 : decode cX11_who 20 = .ok (.iconst (-1), 1) := by decide +kernel
theorem dX11_who_21 : decode cX11_who 21 = .ok (.goto 20, 3) := by decide +kernel
theorem dX11_who_24 : decode cX11_who 24 = .ok (.aload_n 0, 1) := by decide +kernel
theorem dX11_who_25 : decode cX11_who 25 = .ok (.getfield 51, 3) := by decide +kernel
theorem dX11_who_28 : decode cX11_who 28 = .ok (.aload_n 0, 1) := by decide +kernel
theorem dX11_who_29 : decode cX11_who 29 = .ok (.getfield 19, 3) := by decide +kernel
theorem dX11_who_32 : decode cX11_who 32 = .ok (.aload_n 0, 1) := by decide +kernel
theorem dX11_who_33 : decode cX11_who 33 = .ok (.getfield 29, 3) := by decide +kernel
theorem dX11_who_36 : decode cX11_who 36 = .ok (.iload_n 1, 1) := by decide +kernel
theorem dX11_who_37 : decode cX11_who 37 = .ok (.iload_n 2, 1) := by decide +kernel
theorem dX11_who_38 : decode cX11_who 38 = .ok (.invokevirtual 206, 3) := by decide +kernel
theorem dX11_who_41 : decode cX11_who 41 = .ok (.ireturn, 1) := by decide +kernel
set_option maxRecDepth 20000 in
theorem ggX11_mark_X3_has : GoodIn wsX11_mark wsX3_has := goodIn_r _ [9, 10, 90, 91, 92, 93, 94, 95, 96, 97, 98, 99] (by decide +kernel) (by decide +kernel)
set_option maxRecDepth 20000 in
theorem gX11_mark_X3_has : GoodIn wsX11_mark (wsV RX11 102 RX3 yX3_has wsX3_has) := goodIn_app (goodIn_of _ (by decide +kernel)) ggX11_mark_X3_has
set_option maxRecDepth 20000 in
theorem ggX11_mark_X0_marked : GoodIn wsX11_mark wsX0_marked := goodIn_r _ [17, 18, 19, 20, 21, 22, 23, 24, 25, 26, 12, 27, 28, 29, 30, 31, 32, 33, 34, 35, 36, 37, 38, 90, 91, 92, 93, 94, 95, 96, 97, 98, 99, 100, 101, 102, 103, 104, 105, 106, 107, 108, 109, 110, 111, 112, 113, 114] (by decide +kernel) (by decide +kernel)
set_option maxRecDepth 20000 in
theorem gX11_mark_X0_marked_u211X0 : GoodIn wsX11_mark (va_wsO RX11 211 RX0 "DropDealers$Kind" ⟨"DropDealers$Kind", "marked", "(LDropDealers$Hill;LDropDealers$Now;I)I"⟩ yX0_marked wsX0_marked) := goodIn_app (goodIn_of _ (by decide +kernel)) ggX11_mark_X0_marked
set_option maxRecDepth 20000 in
theorem ggX11_mark_X2_marked : GoodIn wsX11_mark wsX2_marked := goodIn_r _ [42, 43, 44, 45, 21, 22, 23, 24, 46, 47, 48, 49, 50, 51, 52, 53, 54, 55, 56, 12, 57, 28, 29, 30, 31, 32, 33, 34, 35, 36, 37, 38, 100, 101, 102, 103, 104, 105, 90, 91, 92, 93, 94, 95, 96, 97, 98, 99, 106, 107, 108, 109, 110, 111, 112, 113, 114] (by decide +kernel) (by decide +kernel)
set_option maxRecDepth 20000 in
theorem gX11_mark_X2_marked_u211X2 : GoodIn wsX11_mark (va_wsO RX11 211 RX2 "DropDealers$Kind" ⟨"DropDealers$Kind", "marked", "(LDropDealers$Hill;LDropDealers$Now;I)I"⟩ yX2_marked wsX2_marked) := goodIn_app (goodIn_of _ (by decide +kernel)) ggX11_mark_X2_marked
set_option maxRecDepth 20000 in
theorem ggX11_mark_X4_marked : GoodIn wsX11_mark wsX4_marked := goodIn_r _ [29, 30, 31, 32, 21, 22, 23, 24, 33, 34, 35, 36, 37, 38, 106, 107, 108, 109, 110, 111, 112, 113, 114, 100, 101, 102, 103, 104, 105] (by decide +kernel) (by decide +kernel)
set_option maxRecDepth 20000 in
theorem gX11_mark_X4_marked : GoodIn wsX11_mark (wsV RX11 211 RX4 yX4_marked wsX4_marked) := goodIn_app (goodIn_of _ (by decide +kernel)) ggX11_mark_X4_marked
set_option maxRecDepth 20000 in
theorem ggX11_mark_X5_marked : GoodIn wsX11_mark wsX5_marked := goodIn_r _ [51, 52, 53, 54, 21, 22, 23, 24, 55, 56, 12, 57, 28, 29, 30, 31, 32, 33, 34, 35, 36, 37, 38, 90, 91, 92, 93, 94, 95, 96, 97, 98, 99, 100, 101, 102, 103, 104, 105, 106, 107, 108, 109, 110, 111, 112, 113, 114] (by decide +kernel) (by decide +kernel)
set_option maxRecDepth 20000 in
theorem gX11_mark_X5_marked_u211X5 : GoodIn wsX11_mark (va_wsO RX11 211 RX5 "DropDealers$Kind" ⟨"DropDealers$Kind", "marked", "(LDropDealers$Hill;LDropDealers$Now;I)I"⟩ yX5_marked wsX5_marked) := goodIn_app (goodIn_of _ (by decide +kernel)) ggX11_mark_X5_marked
set_option maxRecDepth 20000 in
theorem ggX11_mark_X6_marked : GoodIn wsX11_mark wsX6_marked := goodIn_r _ [64, 65, 66, 67, 68, 21, 22, 23, 24, 69, 12, 70, 28, 29, 30, 31, 32, 33, 34, 35, 36, 37, 38, 106, 107, 108, 109, 110, 111, 112, 113, 114, 100, 101, 102, 103, 104, 105] (by decide +kernel) (by decide +kernel)
set_option maxRecDepth 20000 in
theorem gX11_mark_X6_marked_u211X6 : GoodIn wsX11_mark (va_wsO RX11 211 RX6 "DropDealers$Kind" ⟨"DropDealers$Kind", "marked", "(LDropDealers$Hill;LDropDealers$Now;I)I"⟩ yX6_marked wsX6_marked) := goodIn_app (goodIn_of _ (by decide +kernel)) ggX11_mark_X6_marked
set_option maxRecDepth 20000 in
theorem ggX11_mark_X8_marked : GoodIn wsX11_mark wsX8_marked := goodIn_r _ [74, 75, 76, 77, 21, 22, 23, 24, 78, 79, 80, 15, 16, 17, 18, 19, 20, 25, 26, 12, 27, 28, 29, 30, 31, 32, 33, 34, 35, 36, 37, 38, 100, 101, 102, 103, 104, 105, 90, 91, 92, 93, 94, 95, 96, 97, 98, 99, 106, 107, 108, 109, 110, 111, 112, 113, 114] (by decide +kernel) (by decide +kernel)
set_option maxRecDepth 20000 in
theorem gX11_mark_X8_marked_u211X8 : GoodIn wsX11_mark (va_wsO RX11 211 RX8 "DropDealers$Kind" ⟨"DropDealers$Kind", "marked", "(LDropDealers$Hill;LDropDealers$Now;I)I"⟩ yX8_marked wsX8_marked) := goodIn_app (goodIn_of _ (by decide +kernel)) ggX11_mark_X8_marked
theorem dX11_mark_0 : decode cX11_mark 0 = .ok (.iload_n 1, 1) := by decide +kernel
theorem dX11_mark_1 : decode cX11_mark 1 = .ok (.ifCond .lt 23, 3) := by decide +kernel
theorem dX11_mark_4 : decode cX11_mark 4 = .ok (.iload_n 1, 1) := by decide +kernel
theorem dX11_mark_5 : decode cX11_mark 5 = .ok (.aload_n 0, 1) := by decide +kernel
theorem dX11_mark_6 : decode cX11_mark 6 = .ok (.getfield 73, 3) := by decide +kernel
theorem dX11_mark_9 : decode cX11_mark 9 = .ok (.arraylength, 1) := by decide +kernel
theorem dX11_mark_10 : decode cX11_mark 10 = .ok (.if_icmp .ge 14, 3) := by decide +kernel
theorem dX11_mark_13 : decode cX11_mark 13 = .ok (.aload_n 0, 1) := by decide +kernel
theorem dX11_mark_14 : decode cX11_mark 14 = .ok (.getfield 19, 3) := by decide +kernel
theorem dX11_mark_17 : decode cX11_mark 17 = .ok (.iload_n 2, 1) := by decide +kernel
theorem dX11_mark_18 : decode cX11_mark 18 = .ok (.invokevirtual 102, 3) := by decide +kernel
theorem dX11_mark_21 : decode cX11_mark 21 = .ok (.ifCond .ne 6, 3) := by decide +kernel
theorem dX11_mark_24 : decode cX11_mark 24 = .ok (.ldc 210, 2) := by decide +kernel
theorem dX11_mark_26 : decode cX11_mark 26 = .ok (.ireturn, 1) := by decide +kernel
theorem dX11_mark_27 : decode cX11_mark 27 = .ok (.aload_n 0, 1) := by decide +kernel
theorem dX11_mark_28 : decode cX11_mark 28 = .ok (.getfield 73, 3) := by decide +kernel
theorem dX11_mark_31 : decode cX11_mark 31 = .ok (.iload_n 1, 1) := by decide +kernel
theorem dX11_mark_32 : decode cX11_mark 32 = .ok (.aaload, 1) := by decide +kernel
theorem dX11_mark_33 : decode cX11_mark 33 = .ok (.aload_n 0, 1) := by decide +kernel
theorem dX11_mark_34 : decode cX11_mark 34 = .ok (.getfield 19, 3) := by decide +kernel
theorem dX11_mark_37 : decode cX11_mark 37 = .ok (.aload_n 0, 1) := by decide +kernel
theorem dX11_mark_38 : decode cX11_mark 38 = .ok (.getfield 29, 3) := by decide +kernel
theorem dX11_mark_41 : decode cX11_mark 41 = .ok (.iload_n 2, 1) := by decide +kernel
theorem dX11_mark_42 : decode cX11_mark 42 = .ok (.invokevirtual 211, 3) := by decide +kernel
theorem dX11_mark_45 : decode cX11_mark 45 = .ok (.ireturn, 1) := by decide +kernel
set_option maxRecDepth 20000 in
theorem ggX11_keep_X7_become : GoodIn wsX11_keep wsX7_become := goodIn_r _ [8, 9, 10, 11, 12, 13, 14, 15, 16, 17, 18, 19, 20, 21, 31, 32, 33, 34, 35, 36, 37, 38, 39] (by decide +kernel) (by decide +kernel)
set_option maxRecDepth 20000 in
theorem gX11_keep_X7_become : GoodIn wsX11_keep (wsV RX11 214 RX7 yX7_become wsX7_become) := goodIn_app (goodIn_of _ (by decide +kernel)) ggX11_keep_X7_become
theorem dX11_keep_0 : decode cX11_keep 0 = .ok (.iload_n 1, 1) := by decide +kernel
theorem dX11_keep_1 : decode cX11_keep 1 = .ok (.ifCond .lt 8, 3) := by decide +kernel
theorem dX11_keep_4 : decode cX11_keep 4 = .ok (.iload_n 1, 1) := by decide +kernel
theorem dX11_keep_5 : decode cX11_keep 5 = .ok (.iconst 2, 1) := by decide +kernel
theorem dX11_keep_6 : decode cX11_keep 6 = .ok (.if_icmp .lt 5, 3) := by decide +kernel
theorem dX11_keep_9 : decode cX11_keep 9 = .ok (.iconst (-1), 1) := by decide +kernel
theorem dX11_keep_10 : decode cX11_keep 10 = .ok (.ireturn, 1) := by decide +kernel
theorem dX11_keep_11 : decode cX11_keep 11 = .ok (.aload_n 0, 1) := by decide +kernel
theorem dX11_keep_12 : decode cX11_keep 12 = .ok (.getfield 33, 3) := by decide +kernel
theorem dX11_keep_15 : decode cX11_keep 15 = .ok (.iload_n 1, 1) := by decide +kernel
theorem dX11_keep_16 : decode cX11_keep 16 = .ok (.aaload, 1) := by decide +kernel
theorem dX11_keep_17 : decode cX11_keep 17 = .ok (.aload_n 0, 1) := by decide +kernel
theorem dX11_keep_18 : decode cX11_keep 18 = .ok (.getfield 29, 3) := by decide +kernel
theorem dX11_keep_21 : decode cX11_keep 21 = .ok (.invokevirtual 214, 3) := by decide +kernel
theorem dX11_keep_24 : decode cX11_keep 24 = .ok (.aload_n 0, 1) := by decide +kernel
theorem dX11_keep_25 : decode cX11_keep 25 = .ok (.getfield 37, 3) := by decide +kernel
theorem dX11_keep_28 : decode cX11_keep 28 = .ok (.iload_n 1, 1) := by decide +kernel
theorem dX11_keep_29 : decode cX11_keep 29 = .ok (.iconst 1, 1) := by decide +kernel
theorem dX11_keep_30 : decode cX11_keep 30 = .ok (.bastore, 1) := by decide +kernel
theorem dX11_keep_31 : decode cX11_keep 31 = .ok (.aload_n 0, 1) := by decide +kernel
theorem dX11_keep_32 : decode cX11_keep 32 = .ok (.getfield 29, 3) := by decide +kernel
theorem dX11_keep_35 : decode cX11_keep 35 = .ok (.getfield 139, 3) := by decide +kernel
theorem dX11_keep_38 : decode cX11_keep 38 = .ok (.ireturn, 1) := by decide +kernel
set_option maxRecDepth 20000 in
theorem ggX11_back_X7_become : GoodIn wsX11_back wsX7_become := goodIn_r _ [8, 9, 10, 11, 12, 13, 14, 15, 16, 17, 18, 19, 20, 21, 31, 32, 33, 34, 35, 36, 37, 38, 39] (by decide +kernel) (by decide +kernel)
set_option maxRecDepth 20000 in
theorem gX11_back_X7_become : GoodIn wsX11_back (wsV RX11 214 RX7 yX7_become wsX7_become) := goodIn_app (goodIn_of _ (by decide +kernel)) ggX11_back_X7_become
theorem dX11_back_0 : decode cX11_back 0 = .ok (.iload_n 1, 1) := by decide +kernel
theorem dX11_back_1 : decode cX11_back 1 = .ok (.ifCond .lt 8, 3) := by decide +kernel
theorem dX11_back_4 : decode cX11_back 4 = .ok (.iload_n 1, 1) := by decide +kernel
theorem dX11_back_5 : decode cX11_back 5 = .ok (.iconst 2, 1) := by decide +kernel
theorem dX11_back_6 : decode cX11_back 6 = .ok (.if_icmp .lt 5, 3) := by decide +kernel
theorem dX11_back_9 : decode cX11_back 9 = .ok (.iconst (-1), 1) := by decide +kernel
theorem dX11_back_10 : decode cX11_back 10 = .ok (.ireturn, 1) := by decide +kernel
theorem dX11_back_11 : decode cX11_back 11 = .ok (.aload_n 0, 1) := by decide +kernel
theorem dX11_back_12 : decode cX11_back 12 = .ok (.getfield 37, 3) := by decide +kernel
theorem dX11_back_15 : decode cX11_back 15 = .ok (.iload_n 1, 1) := by decide +kernel
theorem dX11_back_16 : decode cX11_back 16 = .ok (.baload, 1) := by decide +kernel
theorem dX11_back_17 : decode cX11_back 17 = .ok (.ifCond .ne 6, 3) := by decide +kernel
theorem dX11_back_20 : decode cX11_back 20 = .ok (.bipush (-2), 2) := by decide +kernel
theorem dX11_back_22 : decode cX11_back 22 = .ok (.ireturn, 1) := by decide +kernel
theorem dX11_back_23 : decode cX11_back 23 = .ok (.aload_n 0, 1) := by decide +kernel
theorem dX11_back_24 : decode cX11_back 24 = .ok (.getfield 29, 3) := by decide +kernel
theorem dX11_back_27 : decode cX11_back 27 = .ok (.aload_n 0, 1) := by decide +kernel
theorem dX11_back_28 : decode cX11_back 28 = .ok (.getfield 33, 3) := by decide +kernel
theorem dX11_back_31 : decode cX11_back 31 = .ok (.iload_n 1, 1) := by decide +kernel
theorem dX11_back_32 : decode cX11_back 32 = .ok (.aaload, 1) := by decide +kernel
theorem dX11_back_33 : decode cX11_back 33 = .ok (.invokevirtual 214, 3) := by decide +kernel
theorem dX11_back_36 : decode cX11_back 36 = .ok (.aload_n 0, 1) := by decide +kernel
theorem dX11_back_37 : decode cX11_back 37 = .ok (.getfield 29, 3) := by decide +kernel
theorem dX11_back_40 : decode cX11_back 40 = .ok (.getfield 139, 3) := by decide +kernel
theorem dX11_back_43 : decode cX11_back 43 = .ok (.ireturn, 1) := by decide +kernel
set_option maxRecDepth 20000 in
theorem ggX11_count_X9_size : GoodIn wsX11_count wsX9_size := goodIn_r _ [8, 9, 38, 39, 40, 41, 42, 43, 44, 45, 46] (by decide +kernel) (by decide +kernel)
set_option maxRecDepth 20000 in
theorem gX11_count_X9_size : GoodIn wsX11_count (wsV RX11 81 RX9 yX9_size wsX9_size) := goodIn_app (goodIn_of _ (by decide +kernel)) ggX11_count_X9_size
theorem dX11_count_0 : decode cX11_count 0 = .ok (.iload_n 1, 1) := by decide +kernel
theorem dX11_count_1 : decode cX11_count 1 = .ok (.tableswitch 87 0 5 #[39, 47, 55, 63, 71, 79], 39) := by decide +kernel
theorem dX11_count_40 : decode cX11_count 40 = .ok (.aload_n 0, 1) := by decide +kernel
theorem dX11_count_41 : decode cX11_count 41 = .ok (.getfield 19, 3) := by decide +kernel
theorem dX11_count_44 : decode cX11_count 44 = .ok (.getfield 133, 3) := by decide +kernel
theorem dX11_count_47 : decode cX11_count 47 = .ok (.ireturn, 1) := by decide +kernel
theorem dX11_count_48 : decode cX11_count 48 = .ok (.aload_n 0, 1) := by decide +kernel
theorem dX11_count_49 : decode cX11_count 49 = .ok (.getfield 19, 3) := by decide +kernel
theorem dX11_count_52 : decode cX11_count 52 = .ok (.getfield 217, 3) := by decide +kernel
theorem dX11_count_55 : decode cX11_count 55 = .ok (.ireturn, 1) := by decide +kernel
theorem dX11_count_56 : decode cX11_count 56 = .ok (.aload_n 0, 1) := by decide +kernel
theorem dX11_count_57 : decode cX11_count 57 = .ok (.getfield 19, 3) := by decide +kernel
theorem dX11_count_60 : decode cX11_count 60 = .ok (.getfield 220, 3) := by decide +kernel
theorem dX11_count_63 : decode cX11_count 63 = .ok (.ireturn, 1) := by decide +kernel
theorem dX11_count_64 : decode cX11_count 64 = .ok (.aload_n 0, 1) := by decide +kernel
theorem dX11_count_65 : decode cX11_count 65 = .ok (.getfield 19, 3) := by decide +kernel
theorem dX11_count_68 : decode cX11_count 68 = .ok (.getfield 223, 3) := by decide +kernel
theorem dX11_count_71 : decode cX11_count 71 = .ok (.ireturn, 1) := by decide +kernel
theorem dX11_count_72 : decode cX11_count 72 = .ok (.aload_n 0, 1) := by decide +kernel
theorem dX11_count_73 : decode cX11_count 73 = .ok (.getfield 29, 3) := by decide +kernel
theorem dX11_count_76 : decode cX11_count 76 = .ok (.getfield 199, 3) := by decide +kernel
theorem dX11_count_79 : decode cX11_count 79 = .ok (.ireturn, 1) := by decide +kernel
theorem dX11_count_80 : decode cX11_count 80 = .ok (.aload_n 0, 1) := by decide +kernel
theorem dX11_count_81 : decode cX11_count 81 = .ok (.getfield 10, 3) := by decide +kernel
theorem dX11_count_84 : decode cX11_count 84 = .ok (.invokevirtual 81, 3) := by decide +kernel
theorem dX11_count_87 : decode cX11_count 87 = .ok (.ireturn, 1) := by decide +kernel
theorem dX11_count_88 : decode cX11_count 88 = .ok (.iconst (-1), 1) := by decide +kernel
theorem dX11_count_89 : decode cX11_count 89 = .ok (.ireturn, 1) := by decide +kernel
set_option maxRecDepth 20000 in
theorem ggX11_trace_X4_traced : GoodIn wsX11_trace wsX4_traced := goodIn_r _ [7, 8, 24, 25, 26, 27, 28, 29] (by decide +kernel) (by decide +kernel)
set_option maxRecDepth 20000 in
theorem gX11_trace_X4_traced_u226X0 : GoodIn wsX11_trace (va_wsU RX11 226 RX0 "DropDealers$Kind" ⟨"DropDealers$Kind", "traced", "()J"⟩ yX4_traced wsX4_traced) := goodIn_app (goodIn_of _ (by decide +kernel)) ggX11_trace_X4_traced
set_option maxRecDepth 20000 in
theorem gX11_trace_X4_traced_u226X2 : GoodIn wsX11_trace (va_wsU RX11 226 RX2 "DropDealers$Kind" ⟨"DropDealers$Kind", "traced", "()J"⟩ yX4_traced wsX4_traced) := goodIn_app (goodIn_of _ (by decide +kernel)) ggX11_trace_X4_traced
set_option maxRecDepth 20000 in
theorem gX11_trace_X4_traced : GoodIn wsX11_trace (wsV RX11 226 RX4 yX4_traced wsX4_traced) := goodIn_app (goodIn_of _ (by decide +kernel)) ggX11_trace_X4_traced
set_option maxRecDepth 20000 in
theorem gX11_trace_X4_traced_u226X5 : GoodIn wsX11_trace (va_wsU RX11 226 RX5 "DropDealers$Kind" ⟨"DropDealers$Kind", "traced", "()J"⟩ yX4_traced wsX4_traced) := goodIn_app (goodIn_of _ (by decide +kernel)) ggX11_trace_X4_traced
set_option maxRecDepth 20000 in
theorem gX11_trace_X4_traced_u226X6 : GoodIn wsX11_trace (va_wsU RX11 226 RX6 "DropDealers$Kind" ⟨"DropDealers$Kind", "traced", "()J"⟩ yX4_traced wsX4_traced) := goodIn_app (goodIn_of _ (by decide +kernel)) ggX11_trace_X4_traced
set_option maxRecDepth 20000 in
theorem gX11_trace_X4_traced_u226X8 : GoodIn wsX11_trace (va_wsU RX11 226 RX8 "DropDealers$Kind" ⟨"DropDealers$Kind", "traced", "()J"⟩ yX4_traced wsX4_traced) := goodIn_app (goodIn_of _ (by decide +kernel)) ggX11_trace_X4_traced
theorem dX11_trace_0 : decode cX11_trace 0 = .ok (.lconst 0, 1) := by decide +kernel
theorem dX11_trace_1 : decode cX11_trace 1 = .ok (.lstore_n 1, 1) := by decide +kernel
theorem dX11_trace_2 : decode cX11_trace 2 = .ok (.iconst 0, 1) := by decide +kernel
theorem dX11_trace_3 : decode cX11_trace 3 = .ok (.istore_n 3, 1) := by decide +kernel
theorem dX11_trace_4 : decode cX11_trace 4 = .ok (.iload_n 3, 1) := by decide +kernel
theorem dX11_trace_5 : decode cX11_trace 5 = .ok (.aload_n 0, 1) := by decide +kernel
theorem dX11_trace_6 : decode cX11_trace 6 = .ok (.getfield 73, 3) := by decide +kernel
theorem dX11_trace_9 : decode cX11_trace 9 = .ok (.arraylength, 1) := by decide +kernel
theorem dX11_trace_10 : decode cX11_trace 10 = .ok (.if_icmp .ge 21, 3) := by decide +kernel
theorem dX11_trace_13 : decode cX11_trace 13 = .ok (.lload_n 1, 1) := by decide +kernel
theorem dX11_trace_14 : decode cX11_trace 14 = .ok (.aload_n 0, 1) := by decide +kernel
theorem dX11_trace_15 : decode cX11_trace 15 = .ok (.getfield 73, 3) := by decide +kernel
theorem dX11_trace_18 : decode cX11_trace 18 = .ok (.iload_n 3, 1) := by decide +kernel
theorem dX11_trace_19 : decode cX11_trace 19 = .ok (.aaload, 1) := by decide +kernel
theorem dX11_trace_20 : decode cX11_trace 20 = .ok (.invokevirtual 226, 3) := by decide +kernel
theorem dX11_trace_23 : decode cX11_trace 23 = .ok (.ladd, 1) := by decide +kernel
theorem dX11_trace_24 : decode cX11_trace 24 = .ok (.lstore_n 1, 1) := by decide +kernel
theorem dX11_trace_25 : decode cX11_trace 25 = .ok (.iinc 3 1, 3) := by decide +kernel
theorem dX11_trace_28 : decode cX11_trace 28 = .ok (.goto (-24), 3) := by decide +kernel
theorem dX11_trace_31 : decode cX11_trace 31 = .ok (.lload_n 1, 1) := by decide +kernel
theorem dX11_trace_32 : decode cX11_trace 32 = .ok (.lreturn, 1) := by decide +kernel
theorem dX12_init_0 : decode cX12_init 0 = .ok (.aload_n 0, 1) := by decide +kernel
theorem dX12_init_1 : decode cX12_init 1 = .ok (.invokespecial 1, 3) := by decide +kernel
theorem dX12_init_4 : decode cX12_init 4 = .ok (.aload_n 0, 1) := by decide +kernel
theorem dX12_init_5 : decode cX12_init 5 = .ok (.sipush 300, 3) := by decide +kernel
theorem dX12_init_8 : decode cX12_init 8 = .ok (.newarray .int, 2) := by decide +kernel
theorem dX12_init_10 : decode cX12_init 10 = .ok (.putfield 7, 3) := by decide +kernel
theorem dX12_init_13 : decode cX12_init 13 = .ok (.aload_n 0, 1) := by decide +kernel
theorem dX12_init_14 : decode cX12_init 14 = .ok (.bipush 6, 2) := by decide +kernel
theorem dX12_init_16 : decode cX12_init 16 = .ok (.newarray .int, 2) := by decide +kernel
theorem dX12_init_18 : decode cX12_init 18 = .ok (.putfield 13, 3) := by decide +kernel
theorem dX12_init_21 : decode cX12_init 21 = .ok (.aload_n 0, 1) := by decide +kernel
theorem dX12_init_22 : decode cX12_init 22 = .ok (.bipush 6, 2) := by decide +kernel
theorem dX12_init_24 : decode cX12_init 24 = .ok (.newarray .int, 2) := by decide +kernel
theorem dX12_init_26 : decode cX12_init 26 = .ok (.putfield 16, 3) := by decide +kernel
theorem dX12_init_29 : decode cX12_init 29 = .ok (.aload_n 0, 1) := by decide +kernel
theorem dX12_init_30 : decode cX12_init 30 = .ok (.bipush 20, 2) := by decide +kernel
theorem dX12_init_32 : decode cX12_init 32 = .ok (.newarray .int, 2) := by decide +kernel
theorem dX12_init_34 : decode cX12_init 34 = .ok (.putfield 19, 3) := by decide +kernel
theorem dX12_init_37 : decode cX12_init 37 = .ok (.aload_n 0, 1) := by decide +kernel
theorem dX12_init_38 : decode cX12_init 38 = .ok (.iconst 1, 1) := by decide +kernel
theorem dX12_init_39 : decode cX12_init 39 = .ok (.putfield 22, 3) := by decide +kernel
theorem dX12_init_42 : decode cX12_init 42 = .ok (.aload_n 0, 1) := by decide +kernel
theorem dX12_init_43 : decode cX12_init 43 = .ok (.bipush 8, 2) := by decide +kernel
theorem dX12_init_45 : decode cX12_init 45 = .ok (.newarray .int, 2) := by decide +kernel
theorem dX12_init_47 : decode cX12_init 47 = .ok (.putfield 26, 3) := by decide +kernel
theorem dX12_init_50 : decode cX12_init 50 = .ok (.aload_n 0, 1) := by decide +kernel
theorem dX12_init_51 : decode cX12_init 51 = .ok (.bipush 6, 2) := by decide +kernel
theorem dX12_init_53 : decode cX12_init 53 = .ok (.newarray .int, 2) := by decide +kernel
theorem dX12_init_55 : decode cX12_init 55 = .ok (.putfield 29, 3) := by decide +kernel
theorem dX12_init_58 : decode cX12_init 58 = .ok (.aload_n 0, 1) := by decide +kernel
theorem dX12_init_59 : decode cX12_init 59 = .ok (.bipush 6, 2) := by decide +kernel
theorem dX12_init_61 : decode cX12_init 61 = .ok (.newarray .int, 2) := by decide +kernel
theorem dX12_init_63 : decode cX12_init 63 = .ok (.putfield 32, 3) := by decide +kernel
theorem dX12_init_66 : decode cX12_init 66 = .ok (.aload_n 0, 1) := by decide +kernel
theorem dX12_init_67 : decode cX12_init 67 = .ok (.iconst 1, 1) := by decide +kernel
theorem dX12_init_68 : decode cX12_init 68 = .ok (.putfield 35, 3) := by decide +kernel
theorem dX12_init_71 : decode cX12_init 71 = .ok (.aload_n 0, 1) := by decide +kernel
theorem dX12_init_72 : decode cX12_init 72 = .ok (.bipush 8, 2) := by decide +kernel
theorem dX12_init_74 : decode cX12_init 74 = .ok (.newarray .int, 2) := by decide +kernel
theorem dX12_init_76 : decode cX12_init 76 = .ok (.putfield 38, 3) := by decide +kernel
theorem dX12_init_79 : decode cX12_init 79 = .ok (.aload_n 0, 1) := by decide +kernel
theorem dX12_init_80 : decode cX12_init 80 = .ok (.bipush 8, 2) := by decide +kernel
theorem dX12_init_82 : decode cX12_init 82 = .ok (.newarray .int, 2) := by decide +kernel
theorem dX12_init_84 : decode cX12_init 84 = .ok (.putfield 41, 3) := by decide +kernel
theorem dX12_init_87 : decode cX12_init 87 = .ok (.aload_n 0, 1) := by decide +kernel
theorem dX12_init_88 : decode cX12_init 88 = .ok (.bipush 80, 2) := by decide +kernel
theorem dX12_init_90 : decode cX12_init 90 = .ok (.newarray .int, 2) := by decide +kernel
theorem dX12_init_92 : decode cX12_init 92 = .ok (.putfield 44, 3) := by decide +kernel
theorem dX12_init_95 : decode cX12_init 95 = .ok (.aload_n 0, 1) := by decide +kernel
theorem dX12_init_96 : decode cX12_init 96 = .ok (.bipush 18, 2) := by decide +kernel
theorem dX12_init_98 : decode cX12_init 98 = .ok (.newarray .int, 2) := by decide +kernel
theorem dX12_init_100 : decode cX12_init 100 = .ok (.putfield 47, 3) := by decide +kernel
theorem dX12_init_103 : decode cX12_init 103 = .ok (.aload_n 0, 1) := by decide +kernel
theorem dX12_init_104 : decode cX12_init 104 = .ok (.bipush 20, 2) := by decide +kernel
theorem dX12_init_106 : decode cX12_init 106 = .ok (.newarray .int, 2) := by decide +kernel
theorem dX12_init_108 : decode cX12_init 108 = .ok (.putfield 50, 3) := by decide +kernel
theorem dX12_init_111 : decode cX12_init 111 = .ok (.aload_n 0, 1) := by decide +kernel
theorem dX12_init_112 : decode cX12_init 112 = .ok (.bipush 8, 2) := by decide +kernel
theorem dX12_init_114 : decode cX12_init 114 = .ok (.newarray .int, 2) := by decide +kernel
theorem dX12_init_116 : decode cX12_init 116 = .ok (.putfield 53, 3) := by decide +kernel
theorem dX12_init_119 : decode cX12_init 119 = .ok (.aload_n 0, 1) := by decide +kernel
theorem dX12_init_120 : decode cX12_init 120 = .ok (.bipush 6, 2) := by decide +kernel
theorem dX12_init_122 : decode cX12_init 122 = .ok (.newarray .int, 2) := by decide +kernel
theorem dX12_init_124 : decode cX12_init 124 = .ok (.putfield 56, 3) := by decide +kernel
theorem dX12_init_127 : decode cX12_init 127 = .ok (.aload_n 0, 1) := by decide +kernel
theorem dX12_init_128 : decode cX12_init 128 = .ok (.bipush 6, 2) := by decide +kernel
theorem dX12_init_130 : decode cX12_init 130 = .ok (.newarray .int, 2) := by decide +kernel
theorem dX12_init_132 : decode cX12_init 132 = .ok (.putfield 59, 3) := by decide +kernel
theorem dX12_init_135 : decode cX12_init 135 = .ok (.aload_n 0, 1) := by decide +kernel
theorem dX12_init_136 : decode cX12_init 136 = .ok (.bipush 13, 2) := by decide +kernel
theorem dX12_init_138 : decode cX12_init 138 = .ok (.newarray .long, 2) := by decide +kernel
theorem dX12_init_140 : decode cX12_init 140 = .ok (.putfield 62, 3) := by decide +kernel
theorem dX12_init_143 : decode cX12_init 143 = .ok (.aload_n 0, 1) := by decide +kernel
theorem dX12_init_144 : decode cX12_init 144 = .ok (.bipush 6, 2) := by decide +kernel
theorem dX12_init_146 : decode cX12_init 146 = .ok (.newarray .int, 2) := by decide +kernel
theorem dX12_init_148 : decode cX12_init 148 = .ok (.putfield 66, 3) := by decide +kernel
theorem dX12_init_151 : decode cX12_init 151 = .ok (.return_, 1) := by decide +kernel
theorem dX12_in_0 : decode cX12_in 0 = .ok (.lload_n 0, 1) := by decide +kernel
theorem dX12_in_1 : decode cX12_in 1 = .ok (.lload_n 2, 1) := by decide +kernel
theorem dX12_in_2 : decode cX12_in 2 = .ok (.lcmp, 1) := by decide +kernel
theorem dX12_in_3 : decode cX12_in 3 = .ok (.ifCond .lt 14, 3) := by decide +kernel
theorem dX12_in_6 : decode cX12_in 6 = .ok (.lload_n 0, 1) := by decide +kernel
theorem dX12_in_7 : decode cX12_in 7 = .ok (.lload 4, 2) := by decide +kernel
theorem dX12_in_9 : decode cX12_in 9 = .ok (.lcmp, 1) := by decide +kernel
theorem dX12_in_10 : decode cX12_in 10 = .ok (.ifCond .gt 7, 3) := by decide +kernel
theorem dX12_in_13 : decode cX12_in 13 = .ok (.iconst 1, 1) := by decide +kernel
theorem dX12_in_14 : decode cX12_in 14 = .ok (.goto 4, 3) := by decide +kernel
theorem dX12_in_17 : decode cX12_in 17 = .ok (.iconst 0, 1) := by decide +kernel
theorem dX12_in_18 : decode cX12_in 18 = .ok (.ireturn, 1) := by decide +kernel
set_option maxRecDepth 20000 in
theorem ggX12_isTerrace_X12_in : GoodIn wsX12_isTerrace wsX12_in := goodIn_r _ [5] (by decide +kernel) (by decide +kernel)
set_option maxRecDepth 20000 in
theorem gX12_isTerrace_X12_in : GoodIn wsX12_isTerrace (va_wsS RX12 72 yX12_in wsX12_in) := goodIn_app (goodIn_of _ (by decide +kernel)) ggX12_isTerrace_X12_in
theorem dX12_isTerrace_0 : decode cX12_isTerrace 0 = .ok (.iload_n 1, 1) := by decide +kernel
theorem dX12_isTerrace_1 : decode cX12_isTerrace 1 = .ok (.i2l, 1) := by decide +kernel
theorem dX12_isTerrace_2 : decode cX12_isTerrace 2 = .ok (.lconst 0, 1) := by decide +kernel
theorem dX12_isTerrace_3 : decode cX12_isTerrace 3 = .ok (.aload_n 0, 1) := by decide +kernel
theorem dX12_isTerrace_4 : decode cX12_isTerrace 4 = .ok (.getfield 69, 3) := by decide +kernel
theorem dX12_isTerrace_7 : decode cX12_isTerrace 7 = .ok (.iconst 1, 1) := by decide +kernel
theorem dX12_isTerrace_8 : decode cX12_isTerrace 8 = .ok (.isub, 1) := by decide +kernel
theorem dX12_isTerrace_9 : decode cX12_isTerrace 9 = .ok (.i2l, 1) := by decide +kernel
theorem dX12_isTerrace_10 : decode cX12_isTerrace 10 = .ok (.invokestatic 72, 3) := by decide +kernel
theorem dX12_isTerrace_13 : decode cX12_isTerrace 13 = .ok (.ireturn, 1) := by decide +kernel
set_option maxRecDepth 20000 in
theorem ggX12_type_X12_in : GoodIn wsX12_type wsX12_in := goodIn_r _ [8] (by decide +kernel) (by decide +kernel)
set_option maxRecDepth 20000 in
theorem gX12_type_X12_in : GoodIn wsX12_type (va_wsS RX12 72 yX12_in wsX12_in) := goodIn_app (goodIn_of _ (by decide +kernel)) ggX12_type_X12_in
theorem dX12_type_0 : decode cX12_type 0 = .ok (.iload_n 3, 1) := by decide +kernel
theorem dX12_type_1 : decode cX12_type 1 = .ok (.i2l, 1) := by decide +kernel
theorem dX12_type_2 : decode cX12_type 2 = .ok (.lconst 1, 1) := by decide +kernel
theorem dX12_type_3 : decode cX12_type 3 = .ok (.ldc2_w 76, 3) := by decide +kernel
theorem dX12_type_6 : decode cX12_type 6 = .ok (.invokestatic 72, 3) := by decide +kernel
theorem dX12_type_9 : decode cX12_type 9 = .ok (.ifCond .ne 5, 3) := by decide +kernel
theorem dX12_type_12 : decode cX12_type 12 = .ok (.iconst (-1), 1) := by decide +kernel
theorem dX12_type_13 : decode cX12_type 13 = .ok (.ireturn, 1) := by decide +kernel
theorem dX12_type_14 : decode cX12_type 14 = .ok (.aload_n 0, 1) := by decide +kernel
theorem dX12_type_15 : decode cX12_type 15 = .ok (.getfield 78, 3) := by decide +kernel
theorem dX12_type_18 : decode cX12_type 18 = .ok (.iload_n 3, 1) := by decide +kernel
theorem dX12_type_19 : decode cX12_type 19 = .ok (.iadd, 1) := by decide +kernel
theorem dX12_type_20 : decode cX12_type 20 = .ok (.sipush 300, 3) := by decide +kernel
theorem dX12_type_23 : decode cX12_type 23 = .ok (.if_icmp .le 6, 3) := by decide +kernel
theorem dX12_type_26 : decode cX12_type 26 = .ok (.bipush (-3), 2) := by decide +kernel
theorem dX12_type_28 : decode cX12_type 28 = .ok (.ireturn, 1) := by decide +kernel
theorem dX12_type_29 : decode cX12_type 29 = .ok (.iload_n 3, 1) := by decide +kernel
theorem dX12_type_30 : decode cX12_type 30 = .ok (.iconst 1, 1) := by decide +kernel
theorem dX12_type_31 : decode cX12_type 31 = .ok (.isub, 1) := by decide +kernel
theorem dX12_type_32 : decode cX12_type 32 = .ok (.istore 4, 2) := by decide +kernel
theorem dX12_type_34 : decode cX12_type 34 = .ok (.iload 4, 2) := by decide +kernel
theorem dX12_type_36 : decode cX12_type 36 = .ok (.ifCond .lt 40, 3) := by decide +kernel
theorem dX12_type_39 : decode cX12_type 39 = .ok (.aload_n 0, 1) := by decide +kernel
theorem dX12_type_40 : decode cX12_type 40 = .ok (.getfield 7, 3) := by decide +kernel
theorem dX12_type_43 : decode cX12_type 43 = .ok (.aload_n 0, 1) := by decide +kernel
theorem dX12_type_44 : decode cX12_type 44 = .ok (.getfield 78, 3) := by decide +kernel
theorem dX12_type_47 : decode cX12_type 47 = .ok (.lload_n 1, 1) := by decide +kernel
theorem dX12_type_48 : decode cX12_type 48 = .ok (.bipush 8, 2) := by decide +kernel
theorem dX12_type_50 : decode cX12_type 50 = .ok (.iload 4, 2) := by decide +kernel
theorem dX12_type_52 : decode cX12_type 52 = .ok (.imul, 1) := by decide +kernel
theorem dX12_type_53 : decode cX12_type 53 = .ok (.lshr, 1) := by decide +kernel
theorem dX12_type_54 : decode cX12_type 54 = .ok (.ldc2_w 81, 3) := by decide +kernel
theorem dX12_type_57 : decode cX12_type 57 = .ok (.land, 1) := by decide +kernel
theorem dX12_type_58 : decode cX12_type 58 = .ok (.l2i, 1) := by decide +kernel
theorem dX12_type_59 : decode cX12_type 59 = .ok (.iastore, 1) := by decide +kernel
theorem dX12_type_60 : decode cX12_type 60 = .ok (.aload_n 0, 1) := by decide +kernel
theorem dX12_type_61 : decode cX12_type 61 = .ok (.dup, 1) := by decide +kernel
theorem dX12_type_62 : decode cX12_type 62 = .ok (.getfield 78, 3) := by decide +kernel
theorem dX12_type_65 : decode cX12_type 65 = .ok (.iconst 1, 1) := by decide +kernel
theorem dX12_type_66 : decode cX12_type 66 = .ok (.iadd, 1) := by decide +kernel
theorem dX12_type_67 : decode cX12_type 67 = .ok (.putfield 78, 3) := by decide +kernel
theorem dX12_type_70 : decode cX12_type 70 = .ok (.iinc 4 (-1), 3) := by decide +kernel
theorem dX12_type_73 : decode cX12_type 73 = .ok (.goto (-39), 3) := by decide +kernel
theorem dX12_type_76 : decode cX12_type 76 = .ok (.aload_n 0, 1) := by decide +kernel
theorem dX12_type_77 : decode cX12_type 77 = .ok (.getfield 78, 3) := by decide +kernel
theorem dX12_type_80 : decode cX12_type 80 = .ok (.ireturn, 1) := by decide +kernel
theorem dX12_clear_0 : decode cX12_clear 0 = .ok (.aload_n 0, 1) := by decide +kernel
theorem dX12_clear_1 : decode cX12_clear 1 = .ok (.getfield 78, 3) := by decide +kernel
theorem dX12_clear_4 : decode cX12_clear 4 = .ok (.istore_n 1, 1) := by decide +kernel
theorem dX12_clear_5 : decode cX12_clear 5 = .ok (.aload_n 0, 1) := by decide +kernel
theorem dX12_clear_6 : decode cX12_clear 6 = .ok (.iconst 0, 1) := by decide +kernel
theorem dX12_clear_7 : decode cX12_clear 7 = .ok (.putfield 78, 3) := by decide +kernel
theorem dX12_clear_10 : decode cX12_clear 10 = .ok (.iload_n 1, 1) := by decide +kernel
theorem dX12_clear_11 : decode cX12_clear 11 = .ok (.ireturn, 1) := by decide +kernel
theorem dX12_isLetter_0 : decode cX12_isLetter 0 = .ok (.iload_n 0, 1) := by decide +kernel
theorem dX12_isLetter_1 : decode cX12_isLetter 1 = .ok (.bipush 96, 2) := by decide +kernel
theorem dX12_isLetter_3 : decode cX12_isLetter 3 = .ok (.if_icmp .le 13, 3) := by decide +kernel
theorem dX12_isLetter_6 : decode cX12_isLetter 6 = .ok (.iload_n 0, 1) := by decide +kernel
theorem dX12_isLetter_7 : decode cX12_isLetter 7 = .ok (.bipush 123, 2) := by decide +kernel
theorem dX12_isLetter_9 : decode cX12_isLetter 9 = .ok (.if_icmp .ge 7, 3) := by decide +kernel
theorem dX12_isLetter_12 : decode cX12_isLetter 12 = .ok (.iconst 1, 1) := by decide +kernel
theorem dX12_isLetter_13 : decode cX12_isLetter 13 = .ok (.goto 4, 3) := by decide +kernel
theorem dX12_isLetter_16 : decode cX12_isLetter 16 = .ok (.iconst 0, 1) := by decide +kernel
theorem dX12_isLetter_17 : decode cX12_isLetter 17 = .ok (.ireturn, 1) := by decide +kernel
theorem dX12_isFigure_0 : decode cX12_isFigure 0 = .ok (.iload_n 0, 1) := by decide +kernel
theorem dX12_isFigure_1 : decode cX12_isFigure 1 = .ok (.bipush 47, 2) := by decide +kernel
theorem dX12_isFigure_3 : decode cX12_isFigure 3 = .ok (.if_icmp .le 13, 3) := by decide +kernel
theorem dX12_isFigure_6 : decode cX12_isFigure 6 = .ok (.iload_n 0, 1) := by decide +kernel
theorem dX12_isFigure_7 : decode cX12_isFigure 7 = .ok (.bipush 58, 2) := by decide +kernel
theorem dX12_isFigure_9 : decode cX12_isFigure 9 = .ok (.if_icmp .ge 7, 3) := by decide +kernel
theorem dX12_isFigure_12 : decode cX12_isFigure 12 = .ok (.iconst 1, 1) := by decide +kernel
theorem dX12_isFigure_13 : decode cX12_isFigure 13 = .ok (.goto 4, 3) := by decide +kernel
theorem dX12_isFigure_16 : decode cX12_isFigure 16 = .ok (.iconst 0, 1) := by decide +kernel
theorem dX12_isFigure_17 : decode cX12_isFigure 17 = .ok (.ireturn, 1) := by decide +kernel
set_option maxRecDepth 20000 in
theorem ggX12_next_X12_isLetter : GoodIn wsX12_next wsX12_isLetter := goodIn_r _ [16] (by decide +kernel) (by decide +kernel)
set_option maxRecDepth 20000 in
theorem gX12_next_X12_isLetter : GoodIn wsX12_next (va_wsS RX12 93 yX12_isLetter wsX12_isLetter) := goodIn_app (goodIn_of _ (by decide +kernel)) ggX12_next_X12_isLetter
set_option maxRecDepth 20000 in
theorem ggX12_next_X12_isFigure : GoodIn wsX12_next wsX12_isFigure := goodIn_r _ [19] (by decide +kernel) (by decide +kernel)
set_option maxRecDepth 20000 in
theorem gX12_next_X12_isFigure : GoodIn wsX12_next (va_wsS RX12 97 yX12_isFigure wsX12_isFigure) := goodIn_app (goodIn_of _ (by decide +kernel)) ggX12_next_X12_isFigure
theorem dX12_next_0 : decode cX12_next 0 = .ok (.aload_n 0, 1) := by decide +kernel
theorem dX12_next_1 : decode cX12_next 1 = .ok (.getfield 83, 3) := by decide +kernel
theorem dX12_next_4 : decode cX12_next 4 = .ok (.aload_n 0, 1) := by decide +kernel
theorem dX12_next_5 : decode cX12_next 5 = .ok (.getfield 78, 3) := by decide +kernel
theorem dX12_next_8 : decode cX12_next 8 = .ok (.if_icmp .ge 30, 3) := by decide +kernel
