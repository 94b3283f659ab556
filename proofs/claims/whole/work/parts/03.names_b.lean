set_option maxRecDepth 20000 in
theorem ggX7_init_X5_init : GoodIn wsX7_init wsX5_init := goodIn_r _ [39, 40, 2, 3, 41, 42, 43, 112, 113] (by decide +kernel) (by decide +kernel)
set_option maxRecDepth 20000 in
theorem gX7_init_X5_init_n9 : GoodIn wsX7_init (wsX5_init) := ggX7_init_X5_init
set_option maxRecDepth 20000 in
theorem ggX7_init_X1_init : GoodIn wsX7_init wsX1_init := goodIn_r _ [45, 46, 2, 3, 47, 48, 49, 50, 51, 52, 41, 53, 54, 55, 56, 57, 58, 126, 127, 128, 129, 130, 131, 132, 133, 134, 135, 136, 137] (by decide +kernel) (by decide +kernel)
set_option maxRecDepth 20000 in
theorem gX7_init_X1_init_n18 : GoodIn wsX7_init (wsX1_init) := ggX7_init_X1_init
set_option maxRecDepth 20000 in
theorem ggX7_init_X2_init : GoodIn wsX7_init wsX2_init := goodIn_r _ [61, 62, 2, 3, 63, 64, 65, 66, 67, 138, 139, 140, 141, 142] (by decide +kernel) (by decide +kernel)
set_option maxRecDepth 20000 in
theorem gX7_init_X2_init : GoodIn wsX7_init (wsX2_init) := ggX7_init_X2_init
set_option maxRecDepth 20000 in
theorem ggX7_init_X3_init : GoodIn wsX7_init wsX3_init := goodIn_r _ [70, 71, 2, 3, 72, 73, 74, 41, 75, 76, 77, 78, 143, 144, 145, 146, 147, 148, 149] (by decide +kernel) (by decide +kernel)
set_option maxRecDepth 20000 in
theorem gX7_init_X3_init : GoodIn wsX7_init (wsX3_init) := ggX7_init_X3_init
set_option maxRecDepth 20000 in
theorem ggX7_init_X3_begin : GoodIn wsX7_init wsX3_begin := goodIn_r _ [82, 78, 72, 73, 74, 75, 83, 84, 76, 85, 77, 86, 87, 88, 10, 89, 47, 143, 144, 145, 146, 147, 148, 149, 126, 127, 128, 129, 130, 131, 132, 133, 134, 135, 136, 137] (by decide +kernel) (by decide +kernel)
set_option maxRecDepth 20000 in
theorem gX7_init_X3_begin : GoodIn wsX7_init (wsV RX7 42 RX3 yX3_begin wsX3_begin) := goodIn_app (goodIn_of _ (by decide +kernel)) ggX7_init_X3_begin
set_option maxRecDepth 20000 in
theorem ggX7_init_X0_init : GoodIn wsX7_init wsX0_init := goodIn_r _ [92, 93, 2, 3, 94, 95, 96, 97, 18, 19, 98, 69, 70, 71, 72, 73, 74, 41, 75, 76, 77, 78, 150, 151, 152, 143, 144, 145, 146, 147, 148, 149] (by decide +kernel) (by decide +kernel)
set_option maxRecDepth 20000 in
theorem gX7_init_X0_init : GoodIn wsX7_init (wsX0_init) := ggX7_init_X0_init
set_option maxRecDepth 20000 in
theorem ggX7_init_X6_init : GoodIn wsX7_init wsX6_init := goodIn_r _ [101, 102, 2, 3, 41, 103, 104, 153, 154] (by decide +kernel) (by decide +kernel)
set_option maxRecDepth 20000 in
theorem gX7_init_X6_init : GoodIn wsX7_init (wsX6_init) := ggX7_init_X6_init
set_option maxRecDepth 20000 in
theorem ggX7_init_X4_init : GoodIn wsX7_init wsX4_init := goodIn_r _ [107, 108, 2, 3, 109, 110, 111, 155, 156, 157] (by decide +kernel) (by decide +kernel)
set_option maxRecDepth 20000 in
theorem gX7_init_X4_init : GoodIn wsX7_init (wsX4_init) := ggX7_init_X4_init
theorem dX7_init_0 : decode cX7_init 0 = .ok (.aload_n 0, 1) := by decide +kernel
theorem dX7_init_1 : decode cX7_init 1 = .ok (.invokespecial 1, 3) := by decide +kernel
theorem dX7_init_4 : decode cX7_init 4 = .ok (.aload_n 0, 1) := by decide +kernel
theorem dX7_init_5 : decode cX7_init 5 = .ok (.new 7, 3) := by decide +kernel
theorem dX7_init_8 : decode cX7_init 8 = .ok (.dup, 1) := by decide +kernel
theorem dX7_init_9 : decode cX7_init 9 = .ok (.invokespecial 9, 3) := by decide +kernel
theorem dX7_init_12 : decode cX7_init 12 = .ok (.putfield 10, 3) := by decide +kernel
theorem dX7_init_15 : decode cX7_init 15 = .ok (.aload_n 0, 1) := by decide +kernel
theorem dX7_init_16 : decode cX7_init 16 = .ok (.new 16, 3) := by decide +kernel
theorem dX7_init_19 : decode cX7_init 19 = .ok (.dup, 1) := by decide +kernel
theorem dX7_init_20 : decode cX7_init 20 = .ok (.invokespecial 18, 3) := by decide +kernel
theorem dX7_init_23 : decode cX7_init 23 = .ok (.putfield 19, 3) := by decide +kernel
theorem dX7_init_26 : decode cX7_init 26 = .ok (.aload_n 0, 1) := by decide +kernel
theorem dX7_init_27 : decode cX7_init 27 = .ok (.new 23, 3) := by decide +kernel
theorem dX7_init_30 : decode cX7_init 30 = .ok (.dup, 1) := by decide +kernel
theorem dX7_init_31 : decode cX7_init 31 = .ok (.aload_n 0, 1) := by decide +kernel
theorem dX7_init_32 : decode cX7_init 32 = .ok (.getfield 19, 3) := by decide +kernel
theorem dX7_init_35 : decode cX7_init 35 = .ok (.invokespecial 25, 3) := by decide +kernel
theorem dX7_init_38 : decode cX7_init 38 = .ok (.putfield 28, 3) := by decide +kernel
theorem dX7_init_41 : decode cX7_init 41 = .ok (.aload_n 0, 1) := by decide +kernel
theorem dX7_init_42 : decode cX7_init 42 = .ok (.new 16, 3) := by decide +kernel
theorem dX7_init_45 : decode cX7_init 45 = .ok (.dup, 1) := by decide +kernel
theorem dX7_init_46 : decode cX7_init 46 = .ok (.invokespecial 18, 3) := by decide +kernel
theorem dX7_init_49 : decode cX7_init 49 = .ok (.putfield 32, 3) := by decide +kernel
theorem dX7_init_52 : decode cX7_init 52 = .ok (.aload_n 0, 1) := by decide +kernel
theorem dX7_init_53 : decode cX7_init 53 = .ok (.new 35, 3) := by decide +kernel
theorem dX7_init_56 : decode cX7_init 56 = .ok (.dup, 1) := by decide +kernel
theorem dX7_init_57 : decode cX7_init 57 = .ok (.aload_n 0, 1) := by decide +kernel
theorem dX7_init_58 : decode cX7_init 58 = .ok (.getfield 32, 3) := by decide +kernel
theorem dX7_init_61 : decode cX7_init 61 = .ok (.invokespecial 37, 3) := by decide +kernel
theorem dX7_init_64 : decode cX7_init 64 = .ok (.putfield 38, 3) := by decide +kernel
theorem dX7_init_67 : decode cX7_init 67 = .ok (.aload_n 0, 1) := by decide +kernel
theorem dX7_init_68 : decode cX7_init 68 = .ok (.getfield 38, 3) := by decide +kernel
theorem dX7_init_71 : decode cX7_init 71 = .ok (.invokevirtual 42, 3) := by decide +kernel
theorem dX7_init_74 : decode cX7_init 74 = .ok (.aload_n 0, 1) := by decide +kernel
theorem dX7_init_75 : decode cX7_init 75 = .ok (.new 35, 3) := by decide +kernel
theorem dX7_init_78 : decode cX7_init 78 = .ok (.dup, 1) := by decide +kernel
theorem dX7_init_79 : decode cX7_init 79 = .ok (.aload_n 0, 1) := by decide +kernel
theorem dX7_init_80 : decode cX7_init 80 = .ok (.getfield 32, 3) := by decide +kernel
theorem dX7_init_83 : decode cX7_init 83 = .ok (.invokespecial 37, 3) := by decide +kernel
theorem dX7_init_86 : decode cX7_init 86 = .ok (.putfield 45, 3) := by decide +kernel
theorem dX7_init_89 : decode cX7_init 89 = .ok (.aload_n 0, 1) := by decide +kernel
theorem dX7_init_90 : decode cX7_init 90 = .ok (.new 48, 3) := by decide +kernel
theorem dX7_init_93 : decode cX7_init 93 = .ok (.dup, 1) := by decide +kernel
theorem dX7_init_94 : decode cX7_init 94 = .ok (.aload_n 0, 1) := by decide +kernel
theorem dX7_init_95 : decode cX7_init 95 = .ok (.getfield 32, 3) := by decide +kernel
theorem dX7_init_98 : decode cX7_init 98 = .ok (.invokespecial 50, 3) := by decide +kernel
theorem dX7_init_101 : decode cX7_init 101 = .ok (.putfield 51, 3) := by decide +kernel
theorem dX7_init_104 : decode cX7_init 104 = .ok (.aload_n 0, 1) := by decide +kernel
theorem dX7_init_105 : decode cX7_init 105 = .ok (.new 55, 3) := by decide +kernel
theorem dX7_init_108 : decode cX7_init 108 = .ok (.dup, 1) := by decide +kernel
theorem dX7_init_109 : decode cX7_init 109 = .ok (.aload_n 0, 1) := by decide +kernel
theorem dX7_init_110 : decode cX7_init 110 = .ok (.getfield 32, 3) := by decide +kernel
theorem dX7_init_113 : decode cX7_init 113 = .ok (.invokespecial 57, 3) := by decide +kernel
theorem dX7_init_116 : decode cX7_init 116 = .ok (.putfield 58, 3) := by decide +kernel
theorem dX7_init_119 : decode cX7_init 119 = .ok (.aload_n 0, 1) := by decide +kernel
theorem dX7_init_120 : decode cX7_init 120 = .ok (.new 62, 3) := by decide +kernel
theorem dX7_init_123 : decode cX7_init 123 = .ok (.dup, 1) := by decide +kernel
theorem dX7_init_124 : decode cX7_init 124 = .ok (.aload_n 0, 1) := by decide +kernel
theorem dX7_init_125 : decode cX7_init 125 = .ok (.getfield 32, 3) := by decide +kernel
theorem dX7_init_128 : decode cX7_init 128 = .ok (.invokespecial 64, 3) := by decide +kernel
theorem dX7_init_131 : decode cX7_init 131 = .ok (.putfield 65, 3) := by decide +kernel
theorem dX7_init_134 : decode cX7_init 134 = .ok (.aload_n 0, 1) := by decide +kernel
theorem dX7_init_135 : decode cX7_init 135 = .ok (.iconst 2, 1) := by decide +kernel
theorem dX7_init_136 : decode cX7_init 136 = .ok (.anewarray 35, 3) := by decide +kernel
theorem dX7_init_139 : decode cX7_init 139 = .ok (.putfield 69, 3) := by decide +kernel
theorem dX7_init_142 : decode cX7_init 142 = .ok (.iconst 0, 1) := by decide +kernel
theorem dX7_init_143 : decode cX7_init 143 = .ok (.istore_n 1, 1) := by decide +kernel
theorem dX7_init_144 : decode cX7_init 144 = .ok (.iload_n 1, 1) := by decide +kernel
theorem dX7_init_145 : decode cX7_init 145 = .ok (.iconst 2, 1) := by decide +kernel
theorem dX7_init_146 : decode cX7_init 146 = .ok (.if_icmp .ge 26, 3) := by decide +kernel
theorem dX7_init_149 : decode cX7_init 149 = .ok (.aload_n 0, 1) := by decide +kernel
theorem dX7_init_150 : decode cX7_init 150 = .ok (.getfield 69, 3) := by decide +kernel
theorem dX7_init_153 : decode cX7_init 153 = .ok (.iload_n 1, 1) := by decide +kernel
theorem dX7_init_154 : decode cX7_init 154 = .ok (.new 35, 3) := by decide +kernel
theorem dX7_init_157 : decode cX7_init 157 = .ok (.dup, 1) := by decide +kernel
theorem dX7_init_158 : decode cX7_init 158 = .ok (.aload_n 0, 1) := by decide +kernel
theorem dX7_init_159 : decode cX7_init 159 = .ok (.getfield 32, 3) := by decide +kernel
theorem dX7_init_162 : decode cX7_init 162 = .ok (.invokespecial 37, 3) := by decide +kernel
theorem dX7_init_165 : decode cX7_init 165 = .ok (.aastore, 1) := by decide +kernel
theorem dX7_init_166 : decode cX7_init 166 = .ok (.iinc 1 1, 3) := by decide +kernel
theorem dX7_init_169 : decode cX7_init 169 = .ok (.goto (-25), 3) := by decide +kernel
theorem dX7_init_172 : decode cX7_init 172 = .ok (.aload_n 0, 1) := by decide +kernel
theorem dX7_init_173 : decode cX7_init 173 = .ok (.iconst 2, 1) := by decide +kernel
theorem dX7_init_174 : decode cX7_init 174 = .ok (.newarray .boolean, 2) := by decide +kernel
theorem dX7_init_176 : decode cX7_init 176 = .ok (.putfield 73, 3) := by decide +kernel
theorem dX7_init_179 : decode cX7_init 179 = .ok (.aload_n 0, 1) := by decide +kernel
theorem dX7_init_180 : decode cX7_init 180 = .ok (.lconst 0, 1) := by decide +kernel
theorem dX7_init_181 : decode cX7_init 181 = .ok (.putfield 77, 3) := by decide +kernel
theorem dX7_init_184 : decode cX7_init 184 = .ok (.return_, 1) := by decide +kernel
set_option maxRecDepth 20000 in
theorem ggX7_write_X5_append : GoodIn wsX7_write wsX5_append := goodIn_r _ [7, 8, 9, 22, 23] (by decide +kernel) (by decide +kernel)
set_option maxRecDepth 20000 in
theorem gX7_write_X5_append : GoodIn wsX7_write (wsV RX7 85 RX5 yX5_append wsX5_append) := goodIn_app (goodIn_of _ (by decide +kernel)) ggX7_write_X5_append
theorem dX7_write_0 : decode cX7_write 0 = .ok (.iload_n 1, 1) := by decide +kernel
theorem dX7_write_1 : decode cX7_write 1 = .ok (.iconst 1, 1) := by decide +kernel
theorem dX7_write_2 : decode cX7_write 2 = .ok (.if_icmp .lt 9, 3) := by decide +kernel
theorem dX7_write_5 : decode cX7_write 5 = .ok (.iload_n 1, 1) := by decide +kernel
theorem dX7_write_6 : decode cX7_write 6 = .ok (.bipush 8, 2) := by decide +kernel
theorem dX7_write_8 : decode cX7_write 8 = .ok (.if_icmp .le 6, 3) := by decide +kernel
theorem dX7_write_11 : decode cX7_write 11 = .ok (.bipush (-2), 2) := by decide +kernel
theorem dX7_write_13 : decode cX7_write 13 = .ok (.ireturn, 1) := by decide +kernel
theorem dX7_write_14 : decode cX7_write 14 = .ok (.aload_n 0, 1) := by decide +kernel
theorem dX7_write_15 : decode cX7_write 15 = .ok (.getfield 10, 3) := by decide +kernel
theorem dX7_write_18 : decode cX7_write 18 = .ok (.getfield 81, 3) := by decide +kernel
theorem dX7_write_21 : decode cX7_write 21 = .ok (.iload_n 1, 1) := by decide +kernel
theorem dX7_write_22 : decode cX7_write 22 = .ok (.iadd, 1) := by decide +kernel
theorem dX7_write_23 : decode cX7_write 23 = .ok (.bipush 64, 2) := by decide +kernel
theorem dX7_write_25 : decode cX7_write 25 = .ok (.if_icmp .le 6, 3) := by decide +kernel
theorem dX7_write_28 : decode cX7_write 28 = .ok (.bipush (-4), 2) := by decide +kernel
theorem dX7_write_30 : decode cX7_write 30 = .ok (.ireturn, 1) := by decide +kernel
theorem dX7_write_31 : decode cX7_write 31 = .ok (.aload_n 0, 1) := by decide +kernel
theorem dX7_write_32 : decode cX7_write 32 = .ok (.getfield 10, 3) := by decide +kernel
theorem dX7_write_35 : decode cX7_write 35 = .ok (.iload_n 1, 1) := by decide +kernel
theorem dX7_write_36 : decode cX7_write 36 = .ok (.lload_n 2, 1) := by decide +kernel
theorem dX7_write_37 : decode cX7_write 37 = .ok (.invokevirtual 85, 3) := by decide +kernel
theorem dX7_write_40 : decode cX7_write 40 = .ok (.ireturn, 1) := by decide +kernel
theorem dX7_wipe_0 : decode cX7_wipe 0 = .ok (.aload_n 0, 1) := by decide +kernel
theorem dX7_wipe_1 : decode cX7_wipe 1 = .ok (.getfield 10, 3) := by decide +kernel
theorem dX7_wipe_4 : decode cX7_wipe 4 = .ok (.getfield 81, 3) := by decide +kernel
theorem dX7_wipe_7 : decode cX7_wipe 7 = .ok (.istore_n 1, 1) := by decide +kernel
theorem dX7_wipe_8 : decode cX7_wipe 8 = .ok (.aload_n 0, 1) := by decide +kernel
theorem dX7_wipe_9 : decode cX7_wipe 9 = .ok (.getfield 10, 3) := by decide +kernel
theorem dX7_wipe_12 : decode cX7_wipe 12 = .ok (.iconst 0, 1) := by decide +kernel
theorem dX7_wipe_13 : decode cX7_wipe 13 = .ok (.putfield 81, 3) := by decide +kernel
theorem dX7_wipe_16 : decode cX7_wipe 16 = .ok (.iload_n 1, 1) := by decide +kernel
theorem dX7_wipe_17 : decode cX7_wipe 17 = .ok (.ireturn, 1) := by decide +kernel
set_option maxRecDepth 20000 in
theorem ggX7_fault_X2_read : GoodIn wsX7_fault wsX2_read := goodIn_r _ [8, 9, 10, 11, 12, 13, 14, 15, 16, 17, 18, 19, 20, 21, 22, 23, 24, 25, 26, 27, 7, 28, 29, 30, 31, 32, 33, 34, 35, 36, 37, 38, 39, 40, 41, 42, 43, 44, 45, 46, 47, 48, 49, 50, 51, 52, 53, 54, 55, 56, 57, 58, 59, 60, 61, 62, 63, 64, 65, 66, 67, 68, 69, 70, 71, 72, 73, 74, 75, 76, 77, 78, 79, 80, 81, 82, 83, 84, 85, 86, 87, 88, 89, 90, 91, 92, 93, 94, 95, 96, 97, 98, 99, 100, 101, 102, 103, 104, 105, 118, 119, 120, 121, 122, 123, 124, 125, 126, 127, 128, 129, 130, 131, 132, 133, 134, 135, 136] (by decide +kernel) (by decide +kernel)
set_option maxRecDepth 20000 in
theorem gX7_fault_X2_read : GoodIn wsX7_fault (wsV RX7 89 RX2 yX2_read wsX2_read) := goodIn_app (goodIn_of _ (by decide +kernel)) ggX7_fault_X2_read
theorem dX7_fault_0 : decode cX7_fault 0 = .ok (.aload_n 0, 1) := by decide +kernel
theorem dX7_fault_1 : decode cX7_fault 1 = .ok (.getfield 28, 3) := by decide +kernel
theorem dX7_fault_4 : decode cX7_fault 4 = .ok (.aload_n 0, 1) := by decide +kernel
theorem dX7_fault_5 : decode cX7_fault 5 = .ok (.getfield 10, 3) := by decide +kernel
theorem dX7_fault_8 : decode cX7_fault 8 = .ok (.aload_n 0, 1) := by decide +kernel
theorem dX7_fault_9 : decode cX7_fault 9 = .ok (.getfield 19, 3) := by decide +kernel
theorem dX7_fault_12 : decode cX7_fault 12 = .ok (.invokevirtual 89, 3) := by decide +kernel
theorem dX7_fault_15 : decode cX7_fault 15 = .ok (.ireturn, 1) := by decide +kernel
set_option maxRecDepth 20000 in
theorem ggX7_wood_X2_read : GoodIn wsX7_wood wsX2_read := goodIn_r _ [14, 15, 16, 17, 18, 19, 20, 21, 22, 23, 24, 25, 26, 27, 28, 29, 30, 31, 32, 33, 13, 34, 35, 36, 37, 38, 39, 40, 41, 42, 43, 44, 45, 46, 47, 48, 49, 50, 51, 52, 53, 54, 55, 56, 57, 58, 59, 60, 61, 62, 63, 64, 65, 66, 67, 68, 69, 70, 71, 72, 73, 74, 75, 76, 77, 78, 79, 80, 81, 82, 83, 84, 85, 86, 87, 88, 89, 90, 91, 92, 93, 94, 95, 96, 97, 98, 99, 100, 101, 102, 103, 104, 105, 106, 107, 108, 109, 110, 111, 158, 159, 160, 161, 162, 163, 164, 146, 147, 148, 149, 150, 151, 152, 153, 154, 155, 156, 157] (by decide +kernel) (by decide +kernel)
set_option maxRecDepth 20000 in
theorem gX7_wood_X2_read : GoodIn wsX7_wood (wsV RX7 89 RX2 yX2_read wsX2_read) := goodIn_app (goodIn_of _ (by decide +kernel)) ggX7_wood_X2_read
set_option maxRecDepth 20000 in
theorem ggX7_wood_X3_begin : GoodIn wsX7_wood wsX3_begin := goodIn_r _ [116, 117, 118, 119, 120, 121, 122, 123, 124, 125, 126, 127, 43, 44, 22, 45, 24, 165, 166, 167, 168, 169, 170, 171, 146, 147, 148, 149, 150, 151, 152, 153, 154, 155, 156, 157] (by decide +kernel) (by decide +kernel)
set_option maxRecDepth 20000 in
theorem gX7_wood_X3_begin : GoodIn wsX7_wood (wsV RX7 42 RX3 yX3_begin wsX3_begin) := goodIn_app (goodIn_of _ (by decide +kernel)) ggX7_wood_X3_begin
set_option maxRecDepth 20000 in
theorem ggX7_wood_X0_forget : GoodIn wsX7_wood wsX0_forget := goodIn_r _ [132, 133, 172, 173, 174] (by decide +kernel) (by decide +kernel)
set_option maxRecDepth 20000 in
theorem gX7_wood_X0_forget : GoodIn wsX7_wood (wsV RX7 93 RX0 yX0_forget wsX0_forget) := goodIn_app (goodIn_of _ (by decide +kernel)) ggX7_wood_X0_forget
theorem dX7_wood_0 : decode cX7_wood 0 = .ok (.aload_n 0, 1) := by decide +kernel
theorem dX7_wood_1 : decode cX7_wood 1 = .ok (.getfield 28, 3) := by decide +kernel
theorem dX7_wood_4 : decode cX7_wood 4 = .ok (.aload_n 0, 1) := by decide +kernel
theorem dX7_wood_5 : decode cX7_wood 5 = .ok (.getfield 10, 3) := by decide +kernel
theorem dX7_wood_8 : decode cX7_wood 8 = .ok (.aload_n 0, 1) := by decide +kernel
theorem dX7_wood_9 : decode cX7_wood 9 = .ok (.getfield 19, 3) := by decide +kernel
theorem dX7_wood_12 : decode cX7_wood 12 = .ok (.invokevirtual 89, 3) := by decide +kernel
theorem dX7_wood_15 : decode cX7_wood 15 = .ok (.bipush (-9), 2) := by decide +kernel
theorem dX7_wood_17 : decode cX7_wood 17 = .ok (.if_icmp .eq 6, 3) := by decide +kernel
theorem dX7_wood_20 : decode cX7_wood 20 = .ok (.bipush (-3), 2) := by decide +kernel
theorem dX7_wood_22 : decode cX7_wood 22 = .ok (.ireturn, 1) := by decide +kernel
theorem dX7_wood_23 : decode cX7_wood 23 = .ok (.aload_n 0, 1) := by decide +kernel
theorem dX7_wood_24 : decode cX7_wood 24 = .ok (.getfield 28, 3) := by decide +kernel
theorem dX7_wood_27 : decode cX7_wood 27 = .ok (.aload_n 0, 1) := by decide +kernel
theorem dX7_wood_28 : decode cX7_wood 28 = .ok (.getfield 10, 3) := by decide +kernel
theorem dX7_wood_31 : decode cX7_wood 31 = .ok (.aload_n 0, 1) := by decide +kernel
theorem dX7_wood_32 : decode cX7_wood 32 = .ok (.getfield 32, 3) := by decide +kernel
theorem dX7_wood_35 : decode cX7_wood 35 = .ok (.invokevirtual 89, 3) := by decide +kernel
theorem dX7_wood_38 : decode cX7_wood 38 = .ok (.pop, 1) := by decide +kernel
theorem dX7_wood_39 : decode cX7_wood 39 = .ok (.aload_n 0, 1) := by decide +kernel
theorem dX7_wood_40 : decode cX7_wood 40 = .ok (.getfield 38, 3) := by decide +kernel
theorem dX7_wood_43 : decode cX7_wood 43 = .ok (.invokevirtual 42, 3) := by decide +kernel
theorem dX7_wood_46 : decode cX7_wood 46 = .ok (.aload_n 0, 1) := by decide +kernel
theorem dX7_wood_47 : decode cX7_wood 47 = .ok (.getfield 51, 3) := by decide +kernel
theorem dX7_wood_50 : decode cX7_wood 50 = .ok (.invokevirtual 93, 3) := by decide +kernel
theorem dX7_wood_53 : decode cX7_wood 53 = .ok (.iconst 0, 1) := by decide +kernel
theorem dX7_wood_54 : decode cX7_wood 54 = .ok (.istore_n 1, 1) := by decide +kernel
theorem dX7_wood_55 : decode cX7_wood 55 = .ok (.iload_n 1, 1) := by decide +kernel
theorem dX7_wood_56 : decode cX7_wood 56 = .ok (.iconst 2, 1) := by decide +kernel
theorem dX7_wood_57 : decode cX7_wood 57 = .ok (.if_icmp .ge 16, 3) := by decide +kernel
theorem dX7_wood_60 : decode cX7_wood 60 = .ok (.aload_n 0, 1) := by decide +kernel
theorem dX7_wood_61 : decode cX7_wood 61 = .ok (.getfield 73, 3) := by decide +kernel
theorem dX7_wood_64 : decode cX7_wood 64 = .ok (.iload_n 1, 1) := by decide +kernel
theorem dX7_wood_65 : decode cX7_wood 65 = .ok (.iconst 0, 1) := by decide +kernel
theorem dX7_wood_66 : decode cX7_wood 66 = .ok (.bastore, 1) := by decide +kernel
theorem dX7_wood_67 : decode cX7_wood 67 = .ok (.iinc 1 1, 3) := by decide +kernel
theorem dX7_wood_70 : decode cX7_wood 70 = .ok (.goto (-15), 3) := by decide +kernel
theorem dX7_wood_73 : decode cX7_wood 73 = .ok (.bipush 10, 2) := by decide +kernel
theorem dX7_wood_75 : decode cX7_wood 75 = .ok (.aload_n 0, 1) := by decide +kernel
theorem dX7_wood_76 : decode cX7_wood 76 = .ok (.getfield 32, 3) := by decide +kernel
theorem dX7_wood_79 : decode cX7_wood 79 = .ok (.getfield 96, 3) := by decide +kernel
theorem dX7_wood_82 : decode cX7_wood 82 = .ok (.imul, 1) := by decide +kernel
theorem dX7_wood_83 : decode cX7_wood 83 = .ok (.aload_n 0, 1) := by decide +kernel
theorem dX7_wood_84 : decode cX7_wood 84 = .ok (.getfield 32, 3) := by decide +kernel
theorem dX7_wood_87 : decode cX7_wood 87 = .ok (.getfield 99, 3) := by decide +kernel
theorem dX7_wood_90 : decode cX7_wood 90 = .ok (.iadd, 1) := by decide +kernel
theorem dX7_wood_91 : decode cX7_wood 91 = .ok (.ireturn, 1) := by decide +kernel
set_option maxRecDepth 20000 in
theorem ggX7_trap_X1_hasTrap : GoodIn wsX7_trap wsX1_hasTrap := goodIn_r _ [14, 15, 28, 29, 30, 31, 32, 33, 34, 35, 36, 37, 38, 39] (by decide +kernel) (by decide +kernel)
set_option maxRecDepth 20000 in
theorem gX7_trap_X1_hasTrap : GoodIn wsX7_trap (wsV RX7 102 RX1 yX1_hasTrap wsX1_hasTrap) := goodIn_app (goodIn_of _ (by decide +kernel)) ggX7_trap_X1_hasTrap
theorem dX7_trap_0 : decode cX7_trap 0 = .ok (.aload_n 0, 1) := by decide +kernel
theorem dX7_trap_1 : decode cX7_trap 1 = .ok (.getfield 32, 3) := by decide +kernel
theorem dX7_trap_4 : decode cX7_trap 4 = .ok (.iload_n 1, 1) := by decide +kernel
theorem dX7_trap_5 : decode cX7_trap 5 = .ok (.invokevirtual 102, 3) := by decide +kernel
theorem dX7_trap_8 : decode cX7_trap 8 = .ok (.ifCond .ne 5, 3) := by decide +kernel
theorem dX7_trap_11 : decode cX7_trap 11 = .ok (.iconst (-1), 1) := by decide +kernel
theorem dX7_trap_12 : decode cX7_trap 12 = .ok (.ireturn, 1) := by decide +kernel
theorem dX7_trap_13 : decode cX7_trap 13 = .ok (.iload_n 2, 1) := by decide +kernel
theorem dX7_trap_14 : decode cX7_trap 14 = .ok (.tableswitch 136 0 6 #[42, 52, 62, 72, 82, 94, 106], 42) := by decide +kernel
theorem dX7_trap_56 : decode cX7_trap 56 = .ok (.aload_n 0, 1) := by decide +kernel
theorem dX7_trap_57 : decode cX7_trap 57 = .ok (.getfield 32, 3) := by decide +kernel
theorem dX7_trap_60 : decode cX7_trap 60 = .ok (.getfield 106, 3) := by decide +kernel
theorem dX7_trap_63 : decode cX7_trap 63 = .ok (.iload_n 1, 1) := by decide +kernel
theorem dX7_trap_64 : decode cX7_trap 64 = .ok (.iaload, 1) := by decide +kernel
theorem dX7_trap_65 : decode cX7_trap 65 = .ok (.ireturn, 1) := by decide +kernel
theorem dX7_trap_66 : decode cX7_trap 66 = .ok (.aload_n 0, 1) := by decide +kernel
theorem dX7_trap_67 : decode cX7_trap 67 = .ok (.getfield 32, 3) := by decide +kernel
theorem dX7_trap_70 : decode cX7_trap 70 = .ok (.getfield 110, 3) := by decide +kernel
theorem dX7_trap_73 : decode cX7_trap 73 = .ok (.iload_n 1, 1) := by decide +kernel
theorem dX7_trap_74 : decode cX7_trap 74 = .ok (.iaload, 1) := by decide +kernel
theorem dX7_trap_75 : decode cX7_trap 75 = .ok (.ireturn, 1) := by decide +kernel
theorem dX7_trap_76 : decode cX7_trap 76 = .ok (.aload_n 0, 1) := by decide +kernel
theorem dX7_trap_77 : decode cX7_trap 77 = .ok (.getfield 32, 3) := by decide +kernel
theorem dX7_trap_80 : decode cX7_trap 80 = .ok (.getfield 113, 3) := by decide +kernel
theorem dX7_trap_83 : decode cX7_trap 83 = .ok (.iload_n 1, 1) := by decide +kernel
theorem dX7_trap_84 : decode cX7_trap 84 = .ok (.iaload, 1) := by decide +kernel
theorem dX7_trap_85 : decode cX7_trap 85 = .ok (.ireturn, 1) := by decide +kernel
theorem dX7_trap_86 : decode cX7_trap 86 = .ok (.aload_n 0, 1) := by decide +kernel
theorem dX7_trap_87 : decode cX7_trap 87 = .ok (.getfield 32, 3) := by decide +kernel
theorem dX7_trap_90 : decode cX7_trap 90 = .ok (.getfield 116, 3) := by decide +kernel
theorem dX7_trap_93 : decode cX7_trap 93 = .ok (.iload_n 1, 1) := by decide +kernel
theorem dX7_trap_94 : decode cX7_trap 94 = .ok (.iaload, 1) := by decide +kernel
theorem dX7_trap_95 : decode cX7_trap 95 = .ok (.ireturn, 1) := by decide +kernel
theorem dX7_trap_96 : decode cX7_trap 96 = .ok (.aload_n 0, 1) := by decide +kernel
theorem dX7_trap_97 : decode cX7_trap 97 = .ok (.getfield 38, 3) := by decide +kernel
theorem dX7_trap_100 : decode cX7_trap 100 = .ok (.getfield 119, 3) := by decide +kernel
theorem dX7_trap_103 : decode cX7_trap 103 = .ok (.iload_n 1, 1) := by decide +kernel
theorem dX7_trap_104 : decode cX7_trap 104 = .ok (.ishr, 1) := by decide +kernel
theorem dX7_trap_105 : decode cX7_trap 105 = .ok (.iconst 1, 1) := by decide +kernel
theorem dX7_trap_106 : decode cX7_trap 106 = .ok (.iand, 1) := by decide +kernel
theorem dX7_trap_107 : decode cX7_trap 107 = .ok (.ireturn, 1) := by decide +kernel
theorem dX7_trap_108 : decode cX7_trap 108 = .ok (.aload_n 0, 1) := by decide +kernel
theorem dX7_trap_109 : decode cX7_trap 109 = .ok (.getfield 38, 3) := by decide +kernel
theorem dX7_trap_112 : decode cX7_trap 112 = .ok (.getfield 122, 3) := by decide +kernel
theorem dX7_trap_115 : decode cX7_trap 115 = .ok (.iload_n 1, 1) := by decide +kernel
theorem dX7_trap_116 : decode cX7_trap 116 = .ok (.ishr, 1) := by decide +kernel
theorem dX7_trap_117 : decode cX7_trap 117 = .ok (.iconst 1, 1) := by decide +kernel
theorem dX7_trap_118 : decode cX7_trap 118 = .ok (.iand, 1) := by decide +kernel
theorem dX7_trap_119 : decode cX7_trap 119 = .ok (.ireturn, 1) := by decide +kernel
theorem dX7_trap_120 : decode cX7_trap 120 = .ok (.aload_n 0, 1) := by decide +kernel
theorem dX7_trap_121 : decode cX7_trap 121 = .ok (.getfield 38, 3) := by decide +kernel
theorem dX7_trap_124 : decode cX7_trap 124 = .ok (.getfield 125, 3) := by decide +kernel
theorem dX7_trap_127 : decode cX7_trap 127 = .ok (.iconst 0, 1) := by decide +kernel
theorem dX7_trap_128 : decode cX7_trap 128 = .ok (.iaload, 1) := by decide +kernel
theorem dX7_trap_129 : decode cX7_trap 129 = .ok (.iload_n 1, 1) := by decide +kernel
theorem dX7_trap_130 : decode cX7_trap 130 = .ok (.ishr, 1) := by decide +kernel
theorem dX7_trap_131 : decode cX7_trap 131 = .ok (.iconst 1, 1) := by decide +kernel
theorem dX7_trap_132 : decode cX7_trap 132 = .ok (.iand, 1) := by decide +kernel
theorem dX7_trap_133 : decode cX7_trap 133 = .ok (.aload_n 0, 1) := by decide +kernel
theorem dX7_trap_134 : decode cX7_trap 134 = .ok (.getfield 38, 3) := by decide +kernel
theorem dX7_trap_137 : decode cX7_trap 137 = .ok (.getfield 125, 3) := by decide +kernel
theorem dX7_trap_140 : decode cX7_trap 140 = .ok (.iconst 1, 1) := by decide +kernel
theorem dX7_trap_141 : decode cX7_trap 141 = .ok (.iaload, 1) := by decide +kernel
theorem dX7_trap_142 : decode cX7_trap 142 = .ok (.iload_n 1, 1) := by decide +kernel
theorem dX7_trap_143 : decode cX7_trap 143 = .ok (.ishr, 1) := by decide +kernel
theorem dX7_trap_144 : decode cX7_trap 144 = .ok (.iconst 1, 1) := by decide +kernel
theorem dX7_trap_145 : decode cX7_trap 145 = .ok (.iand, 1) := by decide +kernel
theorem dX7_trap_146 : decode cX7_trap 146 = .ok (.iconst 1, 1) := by decide +kernel
theorem dX7_trap_147 : decode cX7_trap 147 = .ok (.ishl, 1) := by decide +kernel
theorem dX7_trap_148 : decode cX7_trap 148 = .ok (.ior, 1) := by decide +kernel
theorem dX7_trap_149 : decode cX7_trap 149 = .ok (.ireturn, 1) := by decide +kernel
theorem dX7_trap_150 : decode cX7_trap 150 = .ok (.bipush (-2), 2) := by decide +kernel
theorem dX7_trap_152 : decode cX7_trap 152 = .ok (.ireturn, 1) := by decide +kernel
set_option maxRecDepth 20000 in
theorem ggX7_walker_X1_hasWalker : GoodIn wsX7_walker wsX1_hasWalker := goodIn_r _ [10, 11, 39, 40, 41, 42, 43, 44, 45, 46, 47, 48, 49, 50] (by decide +kernel) (by decide +kernel)
set_option maxRecDepth 20000 in
theorem gX7_walker_X1_hasWalker : GoodIn wsX7_walker (wsV RX7 128 RX1 yX1_hasWalker wsX1_hasWalker) := goodIn_app (goodIn_of _ (by decide +kernel)) ggX7_walker_X1_hasWalker
set_option maxRecDepth 20000 in
theorem ggX7_walker_X3_isFree : GoodIn wsX7_walker wsX3_isFree := goodIn_r _ [16, 17, 18, 19, 7, 8, 9, 10, 11, 32, 33, 34, 35, 36, 37, 38, 39, 40, 41, 42, 43, 44, 45, 46, 47, 48, 49, 50] (by decide +kernel) (by decide +kernel)
set_option maxRecDepth 20000 in
theorem gX7_walker_X3_isFree : GoodIn wsX7_walker (wsV RX7 137 RX3 yX3_isFree wsX3_isFree) := goodIn_app (goodIn_of _ (by decide +kernel)) ggX7_walker_X3_isFree
theorem dX7_walker_0 : decode cX7_walker 0 = .ok (.aload_n 0, 1) := by decide +kernel
theorem dX7_walker_1 : decode cX7_walker 1 = .ok (.getfield 32, 3) := by decide +kernel
theorem dX7_walker_4 : decode cX7_walker 4 = .ok (.iload_n 1, 1) := by decide +kernel
theorem dX7_walker_5 : decode cX7_walker 5 = .ok (.invokevirtual 128, 3) := by decide +kernel
theorem dX7_walker_8 : decode cX7_walker 8 = .ok (.ifCond .ne 5, 3) := by decide +kernel
theorem dX7_walker_11 : decode cX7_walker 11 = .ok (.iconst (-1), 1) := by decide +kernel
theorem dX7_walker_12 : decode cX7_walker 12 = .ok (.ireturn, 1) := by decide +kernel
theorem dX7_walker_13 : decode cX7_walker 13 = .ok (.iload_n 2, 1) := by decide +kernel
theorem dX7_walker_14 : decode cX7_walker 14 = .ok (.tableswitch 77 0 3 #[30, 40, 50, 67], 30) := by decide +kernel
theorem dX7_walker_44 : decode cX7_walker 44 = .ok (.aload_n 0, 1) := by decide +kernel
theorem dX7_walker_45 : decode cX7_walker 45 = .ok (.getfield 38, 3) := by decide +kernel
theorem dX7_walker_48 : decode cX7_walker 48 = .ok (.getfield 131, 3) := by decide +kernel
theorem dX7_walker_51 : decode cX7_walker 51 = .ok (.iload_n 1, 1) := by decide +kernel
theorem dX7_walker_52 : decode cX7_walker 52 = .ok (.iaload, 1) := by decide +kernel
theorem dX7_walker_53 : decode cX7_walker 53 = .ok (.ireturn, 1) := by decide +kernel
theorem dX7_walker_54 : decode cX7_walker 54 = .ok (.aload_n 0, 1) := by decide +kernel
theorem dX7_walker_55 : decode cX7_walker 55 = .ok (.getfield 32, 3) := by decide +kernel
theorem dX7_walker_58 : decode cX7_walker 58 = .ok (.getfield 134, 3) := by decide +kernel
theorem dX7_walker_61 : decode cX7_walker 61 = .ok (.iload_n 1, 1) := by decide +kernel
theorem dX7_walker_62 : decode cX7_walker 62 = .ok (.iaload, 1) := by decide +kernel
theorem dX7_walker_63 : decode cX7_walker 63 = .ok (.ireturn, 1) := by decide +kernel
theorem dX7_walker_64 : decode cX7_walker 64 = .ok (.aload_n 0, 1) := by decide +kernel
theorem dX7_walker_65 : decode cX7_walker 65 = .ok (.getfield 38, 3) := by decide +kernel
theorem dX7_walker_68 : decode cX7_walker 68 = .ok (.iload_n 1, 1) := by decide +kernel
theorem dX7_walker_69 : decode cX7_walker 69 = .ok (.invokevirtual 137, 3) := by decide +kernel
theorem dX7_walker_72 : decode cX7_walker 72 = .ok (.ifCond .eq 7, 3) := by decide +kernel
theorem dX7_walker_75 : decode cX7_walker 75 = .ok (.iconst 0, 1) := by decide +kernel
theorem dX7_walker_76 : decode cX7_walker 76 = .ok (.goto 4, 3) := by decide +kernel
theorem dX7_walker_79 : decode cX7_walker 79 = .ok (.iconst 1, 1) := by decide +kernel
theorem dX7_walker_80 : decode cX7_walker 80 = .ok (.ireturn, 1) := by decide +kernel
theorem dX7_walker_81 : decode cX7_walker 81 = .ok (.aload_n 0, 1) := by decide +kernel
theorem dX7_walker_82 : decode cX7_walker 82 = .ok (.getfield 38, 3) := by decide +kernel
theorem dX7_walker_85 : decode cX7_walker 85 = .ok (.getfield 140, 3) := by decide +kernel
theorem dX7_walker_88 : decode cX7_walker 88 = .ok (.iload_n 1, 1) := by decide +kernel
theorem dX7_walker_89 : decode cX7_walker 89 = .ok (.iaload, 1) := by decide +kernel
theorem dX7_walker_90 : decode cX7_walker 90 = .ok (.ireturn, 1) := by decide +kernel
theorem dX7_walker_91 : decode cX7_walker 91 = .ok (.bipush (-2), 2) := by decide +kernel
theorem dX7_walker_93 : decode cX7_walker 93 = .ok (.ireturn, 1) := by decide +kernel
set_option maxRecDepth 20000 in
theorem ggX7_near_X7_isCell : GoodIn wsX7_near wsX7_isCell := goodIn_r _ [5] (by decide +kernel) (by decide +kernel)
set_option maxRecDepth 20000 in
theorem gX7_near_X7_isCell : GoodIn wsX7_near (va_wsS RX7 143 yX7_isCell wsX7_isCell) := goodIn_app (goodIn_of _ (by decide +kernel)) ggX7_near_X7_isCell
set_option maxRecDepth 20000 in
theorem ggX7_near_X1_waysFrom : GoodIn wsX7_near wsX1_waysFrom := goodIn_r _ [10, 11, 12, 4, 13, 14, 2, 3, 5, 27, 28, 29, 30, 31, 32, 33, 34, 35, 36, 37, 38] (by decide +kernel) (by decide +kernel)
set_option maxRecDepth 20000 in
theorem gX7_near_X1_waysFrom : GoodIn wsX7_near (wsV RX7 146 RX1 yX1_waysFrom wsX1_waysFrom) := goodIn_app (goodIn_of _ (by decide +kernel)) ggX7_near_X1_waysFrom
theorem dX7_near_0 : decode cX7_near 0 = .ok (.iload_n 1, 1) := by decide +kernel
theorem dX7_near_1 : decode cX7_near 1 = .ok (.invokestatic 143, 3) := by decide +kernel
theorem dX7_near_4 : decode cX7_near 4 = .ok (.ifCond .eq 14, 3) := by decide +kernel
theorem dX7_near_7 : decode cX7_near 7 = .ok (.aload_n 0, 1) := by decide +kernel
theorem dX7_near_8 : decode cX7_near 8 = .ok (.getfield 32, 3) := by decide +kernel
theorem dX7_near_11 : decode cX7_near 11 = .ok (.iload_n 1, 1) := by decide +kernel
theorem dX7_near_12 : decode cX7_near 12 = .ok (.invokevirtual 146, 3) := by decide +kernel
theorem dX7_near_15 : decode cX7_near 15 = .ok (.goto 4, 3) := by decide +kernel
theorem dX7_near_18 : decode cX7_near 18 = .ok (.iconst (-1), 1) := by decide +kernel
theorem dX7_near_19 : decode cX7_near 19 = .ok (.ireturn, 1) := by decide +kernel
theorem dX7_frost_0 : decode cX7_frost 0 = .ok (.iload_n 1, 1) := by decide +kernel
theorem dX7_frost_1 : decode cX7_frost 1 = .ok (.aload_n 0, 1) := by decide +kernel
theorem dX7_frost_2 : decode cX7_frost 2 = .ok (.getfield 38, 3) := by decide +kernel
theorem dX7_frost_5 : decode cX7_frost 5 = .ok (.getfield 150, 3) := by decide +kernel
theorem dX7_frost_8 : decode cX7_frost 8 = .ok (.if_icmp .ne 7, 3) := by decide +kernel
theorem dX7_frost_11 : decode cX7_frost 11 = .ok (.iconst 0, 1) := by decide +kernel
theorem dX7_frost_12 : decode cX7_frost 12 = .ok (.goto 4, 3) := by decide +kernel
theorem dX7_frost_15 : decode cX7_frost 15 = .ok (.iconst 1, 1) := by decide +kernel
theorem dX7_frost_16 : decode cX7_frost 16 = .ok (.istore_n 2, 1) := by decide +kernel
theorem dX7_frost_17 : decode cX7_frost 17 = .ok (.aload_n 0, 1) := by decide +kernel
theorem dX7_frost_18 : decode cX7_frost 18 = .ok (.getfield 38, 3) := by decide +kernel
theorem dX7_frost_21 : decode cX7_frost 21 = .ok (.iload_n 1, 1) := by decide +kernel
theorem dX7_frost_22 : decode cX7_frost 22 = .ok (.putfield 150, 3) := by decide +kernel
theorem dX7_frost_25 : decode cX7_frost 25 = .ok (.iload_n 2, 1) := by decide +kernel
theorem dX7_frost_26 : decode cX7_frost 26 = .ok (.ireturn, 1) := by decide +kernel
set_option maxRecDepth 20000 in
theorem ggX7_step_X1_hasWalker : GoodIn wsX7_step wsX1_hasWalker := goodIn_r _ [9, 10, 111, 112, 113, 114, 115, 116, 117, 118, 119, 120, 121, 122] (by decide +kernel) (by decide +kernel)
set_option maxRecDepth 20000 in
theorem gX7_step_X1_hasWalker : GoodIn wsX7_step (wsV RX7 128 RX1 yX1_hasWalker wsX1_hasWalker) := goodIn_app (goodIn_of _ (by decide +kernel)) ggX7_step_X1_hasWalker
set_option maxRecDepth 20000 in
theorem ggX7_step_X7_isCell : GoodIn wsX7_step wsX7_isCell := goodIn_r _ [14] (by decide +kernel) (by decide +kernel)
set_option maxRecDepth 20000 in
theorem gX7_step_X7_isCell : GoodIn wsX7_step (va_wsS RX7 143 yX7_isCell wsX7_isCell) := goodIn_app (goodIn_of _ (by decide +kernel)) ggX7_step_X7_isCell
set_option maxRecDepth 20000 in
theorem ggX7_step_X3_isFree : GoodIn wsX7_step wsX3_isFree := goodIn_r _ [19, 20, 21, 22, 6, 7, 8, 9, 10, 104, 105, 106, 107, 108, 109, 110, 111, 112, 113, 114, 115, 116, 117, 118, 119, 120, 121, 122] (by decide +kernel) (by decide +kernel)
set_option maxRecDepth 20000 in
theorem gX7_step_X3_isFree : GoodIn wsX7_step (wsV RX7 137 RX3 yX3_isFree wsX3_isFree) := goodIn_app (goodIn_of _ (by decide +kernel)) ggX7_step_X3_isFree
set_option maxRecDepth 20000 in
theorem ggX7_step_X1_waysFrom : GoodIn wsX7_step wsX1_waysFrom := goodIn_r _ [26, 27, 28, 13, 29, 30, 11, 12, 14, 111, 112, 113, 114, 115, 116, 117, 118, 119, 120, 121, 122] (by decide +kernel) (by decide +kernel)
set_option maxRecDepth 20000 in
theorem gX7_step_X1_waysFrom : GoodIn wsX7_step (wsV RX7 146 RX1 yX1_waysFrom wsX1_waysFrom) := goodIn_app (goodIn_of _ (by decide +kernel)) ggX7_step_X1_waysFrom
set_option maxRecDepth 20000 in
theorem ggX7_step_X0_remember : GoodIn wsX7_step wsX0_remember := goodIn_r _ [35, 36, 37, 38, 39, 40, 41, 18, 42, 43, 44, 45, 46, 47, 21, 123, 124, 125, 104, 105, 106, 107, 108, 109, 110] (by decide +kernel) (by decide +kernel)
set_option maxRecDepth 20000 in
theorem gX7_step_X0_remember : GoodIn wsX7_step (wsV RX7 154 RX0 yX0_remember wsX0_remember) := goodIn_app (goodIn_of _ (by decide +kernel)) ggX7_step_X0_remember
set_option maxRecDepth 20000 in
theorem ggX7_step_X3_walk : GoodIn wsX7_step wsX3_walk := goodIn_r _ [51, 20, 47, 44, 22, 6, 7, 8, 9, 10, 52, 53, 54, 55, 56, 57, 58, 59, 60, 61, 62, 63, 64, 18, 65, 45, 43, 66, 67, 68, 69, 70, 71, 72, 73, 74, 75, 76, 77, 78, 79, 80, 81, 46, 82, 21, 83, 16, 17, 19, 84, 85, 86, 87, 88, 89, 90, 91, 104, 105, 106, 107, 108, 109, 110, 111, 112, 113, 114, 115, 116, 117, 118, 119, 120, 121, 122] (by decide +kernel) (by decide +kernel)
set_option maxRecDepth 20000 in
theorem gX7_step_X3_walk : GoodIn wsX7_step (wsV RX7 158 RX3 yX3_walk wsX3_walk) := goodIn_app (goodIn_of _ (by decide +kernel)) ggX7_step_X3_walk
theorem dX7_step_0 : decode cX7_step 0 = .ok (.aload_n 0, 1) := by decide +kernel
theorem dX7_step_1 : decode cX7_step 1 = .ok (.getfield 32, 3) := by decide +kernel
theorem dX7_step_4 : decode cX7_step 4 = .ok (.iload_n 1, 1) := by decide +kernel
theorem dX7_step_5 : decode cX7_step 5 = .ok (.invokevirtual 128, 3) := by decide +kernel
theorem dX7_step_8 : decode cX7_step 8 = .ok (.ifCond .eq 10, 3) := by decide +kernel
theorem dX7_step_11 : decode cX7_step 11 = .ok (.iload_n 2, 1) := by decide +kernel
theorem dX7_step_12 : decode cX7_step 12 = .ok (.invokestatic 143, 3) := by decide +kernel
theorem dX7_step_15 : decode cX7_step 15 = .ok (.ifCond .ne 5, 3) := by decide +kernel
theorem dX7_step_18 : decode cX7_step 18 = .ok (.iconst (-1), 1) := by decide +kernel
theorem dX7_step_19 : decode cX7_step 19 = .ok (.ireturn, 1) := by decide +kernel
theorem dX7_step_20 : decode cX7_step 20 = .ok (.aload_n 0, 1) := by decide +kernel
theorem dX7_step_21 : decode cX7_step 21 = .ok (.getfield 38, 3) := by decide +kernel
theorem dX7_step_24 : decode cX7_step 24 = .ok (.iload_n 1, 1) := by decide +kernel
theorem dX7_step_25 : decode cX7_step 25 = .ok (.invokevirtual 137, 3) := by decide +kernel
theorem dX7_step_28 : decode cX7_step 28 = .ok (.ifCond .eq 26, 3) := by decide +kernel
theorem dX7_step_31 : decode cX7_step 31 = .ok (.aload_n 0, 1) := by decide +kernel
theorem dX7_step_32 : decode cX7_step 32 = .ok (.getfield 32, 3) := by decide +kernel
theorem dX7_step_35 : decode cX7_step 35 = .ok (.aload_n 0, 1) := by decide +kernel
theorem dX7_step_36 : decode cX7_step 36 = .ok (.getfield 38, 3) := by decide +kernel
theorem dX7_step_39 : decode cX7_step 39 = .ok (.getfield 131, 3) := by decide +kernel
theorem dX7_step_42 : decode cX7_step 42 = .ok (.iload_n 1, 1) := by decide +kernel
theorem dX7_step_43 : decode cX7_step 43 = .ok (.iaload, 1) := by decide +kernel
theorem dX7_step_44 : decode cX7_step 44 = .ok (.invokevirtual 146, 3) := by decide +kernel
theorem dX7_step_47 : decode cX7_step 47 = .ok (.iload_n 2, 1) := by decide +kernel
theorem dX7_step_48 : decode cX7_step 48 = .ok (.ishr, 1) := by decide +kernel
theorem dX7_step_49 : decode cX7_step 49 = .ok (.iconst 1, 1) := by decide +kernel
theorem dX7_step_50 : decode cX7_step 50 = .ok (.iand, 1) := by decide +kernel
theorem dX7_step_51 : decode cX7_step 51 = .ok (.ifCond .ne 6, 3) := by decide +kernel
theorem dX7_step_54 : decode cX7_step 54 = .ok (.bipush (-3), 2) := by decide +kernel
theorem dX7_step_56 : decode cX7_step 56 = .ok (.ireturn, 1) := by decide +kernel
theorem dX7_step_57 : decode cX7_step 57 = .ok (.aload_n 0, 1) := by decide +kernel
theorem dX7_step_58 : decode cX7_step 58 = .ok (.getfield 51, 3) := by decide +kernel
theorem dX7_step_61 : decode cX7_step 61 = .ok (.aload_n 0, 1) := by decide +kernel
theorem dX7_step_62 : decode cX7_step 62 = .ok (.getfield 38, 3) := by decide +kernel
theorem dX7_step_65 : decode cX7_step 65 = .ok (.invokevirtual 154, 3) := by decide +kernel
theorem dX7_step_68 : decode cX7_step 68 = .ok (.aload_n 0, 1) := by decide +kernel
theorem dX7_step_69 : decode cX7_step 69 = .ok (.getfield 38, 3) := by decide +kernel
theorem dX7_step_72 : decode cX7_step 72 = .ok (.iload_n 1, 1) := by decide +kernel
theorem dX7_step_73 : decode cX7_step 73 = .ok (.iload_n 2, 1) := by decide +kernel
theorem dX7_step_74 : decode cX7_step 74 = .ok (.invokevirtual 158, 3) := by decide +kernel
theorem dX7_step_77 : decode cX7_step 77 = .ok (.ireturn, 1) := by decide +kernel
set_option maxRecDepth 20000 in
theorem ggX7_arm_X1_hasTrap : GoodIn wsX7_arm wsX1_hasTrap := goodIn_r _ [11, 12, 51, 52, 53, 54, 55, 56, 57, 58, 59, 60, 61, 62] (by decide +kernel) (by decide +kernel)
set_option maxRecDepth 20000 in
theorem gX7_arm_X1_hasTrap : GoodIn wsX7_arm (wsV RX7 102 RX1 yX1_hasTrap wsX1_hasTrap) := goodIn_app (goodIn_of _ (by decide +kernel)) ggX7_arm_X1_hasTrap
set_option maxRecDepth 20000 in
theorem ggX7_arm_X0_remember : GoodIn wsX7_arm wsX0_remember := goodIn_r _ [17, 18, 19, 20, 21, 22, 23, 24, 25, 26, 27, 28, 29, 30, 31, 63, 64, 65, 44, 45, 46, 47, 48, 49, 50] (by decide +kernel) (by decide +kernel)
set_option maxRecDepth 20000 in
theorem gX7_arm_X0_remember : GoodIn wsX7_arm (wsV RX7 154 RX0 yX0_remember wsX0_remember) := goodIn_app (goodIn_of _ (by decide +kernel)) ggX7_arm_X0_remember
theorem dX7_arm_0 : decode cX7_arm 0 = .ok (.aload_n 0, 1) := by decide +kernel
theorem dX7_arm_1 : decode cX7_arm 1 = .ok (.getfield 32, 3) := by decide +kernel
theorem dX7_arm_4 : decode cX7_arm 4 = .ok (.iload_n 1, 1) := by decide +kernel
theorem dX7_arm_5 : decode cX7_arm 5 = .ok (.invokevirtual 102, 3) := by decide +kernel
theorem dX7_arm_8 : decode cX7_arm 8 = .ok (.ifCond .ne 5, 3) := by decide +kernel
theorem dX7_arm_11 : decode cX7_arm 11 = .ok (.iconst (-1), 1) := by decide +kernel
theorem dX7_arm_12 : decode cX7_arm 12 = .ok (.ireturn, 1) := by decide +kernel
theorem dX7_arm_13 : decode cX7_arm 13 = .ok (.aload_n 0, 1) := by decide +kernel
theorem dX7_arm_14 : decode cX7_arm 14 = .ok (.getfield 38, 3) := by decide +kernel
theorem dX7_arm_17 : decode cX7_arm 17 = .ok (.getfield 119, 3) := by decide +kernel
theorem dX7_arm_20 : decode cX7_arm 20 = .ok (.iload_n 1, 1) := by decide +kernel
theorem dX7_arm_21 : decode cX7_arm 21 = .ok (.ishr, 1) := by decide +kernel
theorem dX7_arm_22 : decode cX7_arm 22 = .ok (.iconst 1, 1) := by decide +kernel
theorem dX7_arm_23 : decode cX7_arm 23 = .ok (.iand, 1) := by decide +kernel
theorem dX7_arm_24 : decode cX7_arm 24 = .ok (.ifCond .eq 6, 3) := by decide +kernel
theorem dX7_arm_27 : decode cX7_arm 27 = .ok (.bipush (-3), 2) := by decide +kernel
theorem dX7_arm_29 : decode cX7_arm 29 = .ok (.ireturn, 1) := by decide +kernel
theorem dX7_arm_30 : decode cX7_arm 30 = .ok (.aload_n 0, 1) := by decide +kernel
theorem dX7_arm_31 : decode cX7_arm 31 = .ok (.getfield 51, 3) := by decide +kernel
theorem dX7_arm_34 : decode cX7_arm 34 = .ok (.aload_n 0, 1) := by decide +kernel
theorem dX7_arm_35 : decode cX7_arm 35 = .ok (.getfield 38, 3) := by decide +kernel
theorem dX7_arm_38 : decode cX7_arm 38 = .ok (.invokevirtual 154, 3) := by decide +kernel
theorem dX7_arm_41 : decode cX7_arm 41 = .ok (.aload_n 0, 1) := by decide +kernel
theorem dX7_arm_42 : decode cX7_arm 42 = .ok (.getfield 38, 3) := by decide +kernel
theorem dX7_arm_45 : decode cX7_arm 45 = .ok (.dup, 1) := by decide +kernel
theorem dX7_arm_46 : decode cX7_arm 46 = .ok (.getfield 119, 3) := by decide +kernel
theorem dX7_arm_49 : decode cX7_arm 49 = .ok (.iconst 1, 1) := by decide +kernel
theorem dX7_arm_50 : decode cX7_arm 50 = .ok (.iload_n 1, 1) := by decide +kernel
theorem dX7_arm_51 : decode cX7_arm 51 = .ok (.ishl, 1) := by decide +kernel
theorem dX7_arm_52 : decode cX7_arm 52 = .ok (.ior, 1) := by decide +kernel
theorem dX7_arm_53 : decode cX7_arm 53 = .ok (.putfield 119, 3) := by decide +kernel
theorem dX7_arm_56 : decode cX7_arm 56 = .ok (.aload_n 0, 1) := by decide +kernel
theorem dX7_arm_57 : decode cX7_arm 57 = .ok (.getfield 38, 3) := by decide +kernel
theorem dX7_arm_60 : decode cX7_arm 60 = .ok (.dup, 1) := by decide +kernel
theorem dX7_arm_61 : decode cX7_arm 61 = .ok (.getfield 122, 3) := by decide +kernel
theorem dX7_arm_64 : decode cX7_arm 64 = .ok (.iconst 1, 1) := by decide +kernel
theorem dX7_arm_65 : decode cX7_arm 65 = .ok (.iload_n 1, 1) := by decide +kernel
theorem dX7_arm_66 : decode cX7_arm 66 = .ok (.ishl, 1) := by decide +kernel
theorem dX7_arm_67 : decode cX7_arm 67 = .ok (.iconst (-1), 1) := by decide +kernel
theorem dX7_arm_68 : decode cX7_arm 68 = .ok (.ixor, 1) := by decide +kernel
theorem dX7_arm_69 : decode cX7_arm 69 = .ok (.iand, 1) := by decide +kernel
theorem dX7_arm_70 : decode cX7_arm 70 = .ok (.putfield 122, 3) := by decide +kernel
theorem dX7_arm_73 : decode cX7_arm 73 = .ok (.aload_n 0, 1) := by decide +kernel
theorem dX7_arm_74 : decode cX7_arm 74 = .ok (.getfield 32, 3) := by decide +kernel
theorem dX7_arm_77 : decode cX7_arm 77 = .ok (.getfield 110, 3) := by decide +kernel
theorem dX7_arm_80 : decode cX7_arm 80 = .ok (.iload_n 1, 1) := by decide +kernel
theorem dX7_arm_81 : decode cX7_arm 81 = .ok (.iaload, 1) := by decide +kernel
theorem dX7_arm_82 : decode cX7_arm 82 = .ok (.ireturn, 1) := by decide +kernel
set_option maxRecDepth 20000 in
theorem ggX7_look_X7_isCell : GoodIn wsX7_look wsX7_isCell := goodIn_r _ [7] (by decide +kernel) (by decide +kernel)
set_option maxRecDepth 20000 in
theorem gX7_look_X7_isCell : GoodIn wsX7_look (va_wsS RX7 143 yX7_isCell wsX7_isCell) := goodIn_app (goodIn_of _ (by decide +kernel)) ggX7_look_X7_isCell
set_option maxRecDepth 20000 in
theorem ggX7_look_X7_isSide : GoodIn wsX7_look wsX7_isSide := goodIn_r _ [10] (by decide +kernel) (by decide +kernel)
set_option maxRecDepth 20000 in
theorem gX7_look_X7_isSide : GoodIn wsX7_look (va_wsS RX7 162 yX7_isSide wsX7_isSide) := goodIn_app (goodIn_of _ (by decide +kernel)) ggX7_look_X7_isSide
set_option maxRecDepth 20000 in
theorem ggX7_look_X7_unknownFrom : GoodIn wsX7_look wsX7_unknownFrom := goodIn_r _ [14, 15, 2, 3, 8, 9, 6, 10, 4, 5, 7, 16, 17, 18, 19, 20, 21, 22, 23, 24, 25, 26, 46, 47, 48, 49, 50, 51, 52, 53, 54, 55, 56, 57, 58, 59, 60, 61, 62, 63, 64, 65, 66, 67, 68, 69, 70, 71, 72, 73, 74, 75, 76] (by decide +kernel) (by decide +kernel)
set_option maxRecDepth 20000 in
theorem gX7_look_X7_unknownFrom : GoodIn wsX7_look (wsV RX7 165 RX7 yX7_unknownFrom wsX7_unknownFrom) := goodIn_app (goodIn_of _ (by decide +kernel)) ggX7_look_X7_unknownFrom
set_option maxRecDepth 20000 in
theorem ggX7_look_X0_remember : GoodIn wsX7_look wsX0_remember := goodIn_r _ [31, 32, 33, 34, 35, 36, 37, 38, 39, 40, 41, 42, 43, 44, 45, 77, 78, 79, 58, 59, 60, 61, 62, 63, 64] (by decide +kernel) (by decide +kernel)
set_option maxRecDepth 20000 in
theorem gX7_look_X0_remember : GoodIn wsX7_look (wsV RX7 154 RX0 yX0_remember wsX0_remember) := goodIn_app (goodIn_of _ (by decide +kernel)) ggX7_look_X0_remember
theorem dX7_look_0 : decode cX7_look 0 = .ok (.iload_n 2, 1) := by decide +kernel
theorem dX7_look_1 : decode cX7_look 1 = .ok (.invokestatic 143, 3) := by decide +kernel
theorem dX7_look_4 : decode cX7_look 4 = .ok (.ifCond .ne 5, 3) := by decide +kernel
theorem dX7_look_7 : decode cX7_look 7 = .ok (.iconst (-1), 1) := by decide +kernel
theorem dX7_look_8 : decode cX7_look 8 = .ok (.ireturn, 1) := by decide +kernel
theorem dX7_look_9 : decode cX7_look 9 = .ok (.iload_n 1, 1) := by decide +kernel
theorem dX7_look_10 : decode cX7_look 10 = .ok (.invokestatic 162, 3) := by decide +kernel
theorem dX7_look_13 : decode cX7_look 13 = .ok (.ifCond .ne 6, 3) := by decide +kernel
theorem dX7_look_16 : decode cX7_look 16 = .ok (.bipush (-2), 2) := by decide +kernel
theorem dX7_look_18 : decode cX7_look 18 = .ok (.ireturn, 1) := by decide +kernel
theorem dX7_look_19 : decode cX7_look 19 = .ok (.aload_n 0, 1) := by decide +kernel
theorem dX7_look_20 : decode cX7_look 20 = .ok (.iload_n 1, 1) := by decide +kernel
theorem dX7_look_21 : decode cX7_look 21 = .ok (.iload_n 2, 1) := by decide +kernel
theorem dX7_look_22 : decode cX7_look 22 = .ok (.invokevirtual 165, 3) := by decide +kernel
theorem dX7_look_25 : decode cX7_look 25 = .ok (.istore_n 3, 1) := by decide +kernel
theorem dX7_look_26 : decode cX7_look 26 = .ok (.aload_n 0, 1) := by decide +kernel
theorem dX7_look_27 : decode cX7_look 27 = .ok (.getfield 51, 3) := by decide +kernel
theorem dX7_look_30 : decode cX7_look 30 = .ok (.aload_n 0, 1) := by decide +kernel
theorem dX7_look_31 : decode cX7_look 31 = .ok (.getfield 38, 3) := by decide +kernel
theorem dX7_look_34 : decode cX7_look 34 = .ok (.invokevirtual 154, 3) := by decide +kernel
theorem dX7_look_37 : decode cX7_look 37 = .ok (.aload_n 0, 1) := by decide +kernel
theorem dX7_look_38 : decode cX7_look 38 = .ok (.getfield 38, 3) := by decide +kernel
theorem dX7_look_41 : decode cX7_look 41 = .ok (.getfield 125, 3) := by decide +kernel
theorem dX7_look_44 : decode cX7_look 44 = .ok (.iload_n 1, 1) := by decide +kernel
theorem dX7_look_45 : decode cX7_look 45 = .ok (.dup2, 1) := by decide +kernel
theorem dX7_look_46 : decode cX7_look 46 = .ok (.iaload, 1) := by decide +kernel
theorem dX7_look_47 : decode cX7_look 47 = .ok (.iload_n 3, 1) := by decide +kernel
theorem dX7_look_48 : decode cX7_look 48 = .ok (.ior, 1) := by decide +kernel
theorem dX7_look_49 : decode cX7_look 49 = .ok (.iastore, 1) := by decide +kernel
theorem dX7_look_50 : decode cX7_look 50 = .ok (.iload_n 3, 1) := by decide +kernel
theorem dX7_look_51 : decode cX7_look 51 = .ok (.ireturn, 1) := by decide +kernel
set_option maxRecDepth 20000 in
theorem ggX7_free_X1_hasWalker : GoodIn wsX7_free wsX1_hasWalker := goodIn_r _ [9, 10, 55, 56, 57, 58, 59, 60, 61, 62, 63, 64, 65, 66] (by decide +kernel) (by decide +kernel)
set_option maxRecDepth 20000 in
theorem gX7_free_X1_hasWalker : GoodIn wsX7_free (wsV RX7 128 RX1 yX1_hasWalker wsX1_hasWalker) := goodIn_app (goodIn_of _ (by decide +kernel)) ggX7_free_X1_hasWalker
set_option maxRecDepth 20000 in
theorem ggX7_free_X3_isFree : GoodIn wsX7_free wsX3_isFree := goodIn_r _ [15, 16, 17, 18, 6, 7, 8, 9, 10, 48, 49, 50, 51, 52, 53, 54, 55, 56, 57, 58, 59, 60, 61, 62, 63, 64, 65, 66] (by decide +kernel) (by decide +kernel)
set_option maxRecDepth 20000 in
theorem gX7_free_X3_isFree : GoodIn wsX7_free (wsV RX7 137 RX3 yX3_isFree wsX3_isFree) := goodIn_app (goodIn_of _ (by decide +kernel)) ggX7_free_X3_isFree
set_option maxRecDepth 20000 in
theorem ggX7_free_X0_remember : GoodIn wsX7_free wsX0_remember := goodIn_r _ [23, 24, 25, 26, 27, 28, 29, 14, 30, 31, 32, 33, 34, 35, 17, 67, 68, 69, 48, 49, 50, 51, 52, 53, 54] (by decide +kernel) (by decide +kernel)
set_option maxRecDepth 20000 in
theorem gX7_free_X0_remember : GoodIn wsX7_free (wsV RX7 154 RX0 yX0_remember wsX0_remember) := goodIn_app (goodIn_of _ (by decide +kernel)) ggX7_free_X0_remember
theorem dX7_free_0 : decode cX7_free 0 = .ok (.aload_n 0, 1) := by decide +kernel
theorem dX7_free_1 : decode cX7_free 1 = .ok (.getfield 32, 3) := by decide +kernel
theorem dX7_free_4 : decode cX7_free 4 = .ok (.iload_n 1, 1) := by decide +kernel
theorem dX7_free_5 : decode cX7_free 5 = .ok (.invokevirtual 128, 3) := by decide +kernel
theorem dX7_free_8 : decode cX7_free 8 = .ok (.ifCond .ne 5, 3) := by decide +kernel
theorem dX7_free_11 : decode cX7_free 11 = .ok (.iconst (-1), 1) := by decide +kernel
theorem dX7_free_12 : decode cX7_free 12 = .ok (.ireturn, 1) := by decide +kernel
theorem dX7_free_13 : decode cX7_free 13 = .ok (.aload_n 0, 1) := by decide +kernel
theorem dX7_free_14 : decode cX7_free 14 = .ok (.getfield 38, 3) := by decide +kernel
theorem dX7_free_17 : decode cX7_free 17 = .ok (.iload_n 1, 1) := by decide +kernel
theorem dX7_free_18 : decode cX7_free 18 = .ok (.invokevirtual 137, 3) := by decide +kernel
theorem dX7_free_21 : decode cX7_free 21 = .ok (.ifCond .eq 6, 3) := by decide +kernel
theorem dX7_free_24 : decode cX7_free 24 = .ok (.bipush (-3), 2) := by decide +kernel
theorem dX7_free_26 : decode cX7_free 26 = .ok (.ireturn, 1) := by decide +kernel
theorem dX7_free_27 : decode cX7_free 27 = .ok (.aload_n 0, 1) := by decide +kernel
theorem dX7_free_28 : decode cX7_free 28 = .ok (.getfield 51, 3) := by decide +kernel
theorem dX7_free_31 : decode cX7_free 31 = .ok (.aload_n 0, 1) := by decide +kernel
theorem dX7_free_32 : decode cX7_free 32 = .ok (.getfield 38, 3) := by decide +kernel
theorem dX7_free_35 : decode cX7_free 35 = .ok (.invokevirtual 154, 3) := by decide +kernel
theorem dX7_free_38 : decode cX7_free 38 = .ok (.aload_n 0, 1) := by decide +kernel
theorem dX7_free_39 : decode cX7_free 39 = .ok (.getfield 38, 3) := by decide +kernel
theorem dX7_free_42 : decode cX7_free 42 = .ok (.getfield 140, 3) := by decide +kernel
theorem dX7_free_45 : decode cX7_free 45 = .ok (.iload_n 1, 1) := by decide +kernel
theorem dX7_free_46 : decode cX7_free 46 = .ok (.iaload, 1) := by decide +kernel
theorem dX7_free_47 : decode cX7_free 47 = .ok (.istore_n 2, 1) := by decide +kernel
theorem dX7_free_48 : decode cX7_free 48 = .ok (.aload_n 0, 1) := by decide +kernel
theorem dX7_free_49 : decode cX7_free 49 = .ok (.getfield 38, 3) := by decide +kernel
theorem dX7_free_52 : decode cX7_free 52 = .ok (.getfield 140, 3) := by decide +kernel
theorem dX7_free_55 : decode cX7_free 55 = .ok (.iload_n 1, 1) := by decide +kernel
theorem dX7_free_56 : decode cX7_free 56 = .ok (.bipush (-9), 2) := by decide +kernel
theorem dX7_free_58 : decode cX7_free 58 = .ok (.iastore, 1) := by decide +kernel
theorem dX7_free_59 : decode cX7_free 59 = .ok (.iload_n 2, 1) := by decide +kernel
theorem dX7_free_60 : decode cX7_free 60 = .ok (.ireturn, 1) := by decide +kernel
set_option maxRecDepth 20000 in
theorem ggX7_undo_X0_takeBack : GoodIn wsX7_undo wsX0_takeBack := goodIn_r _ [9, 10, 11, 12, 13, 14, 15, 16, 17, 18, 19, 20, 21, 22, 23, 36, 37, 38, 39, 40, 41, 42, 43, 44, 45] (by decide +kernel) (by decide +kernel)
set_option maxRecDepth 20000 in
theorem gX7_undo_X0_takeBack : GoodIn wsX7_undo (wsV RX7 169 RX0 yX0_takeBack wsX0_takeBack) := goodIn_app (goodIn_of _ (by decide +kernel)) ggX7_undo_X0_takeBack
theorem dX7_undo_0 : decode cX7_undo 0 = .ok (.aload_n 0, 1) := by decide +kernel
theorem dX7_undo_1 : decode cX7_undo 1 = .ok (.getfield 51, 3) := by decide +kernel
theorem dX7_undo_4 : decode cX7_undo 4 = .ok (.getfield 168, 3) := by decide +kernel
theorem dX7_undo_7 : decode cX7_undo 7 = .ok (.ifCond .ne 6, 3) := by decide +kernel
theorem dX7_undo_10 : decode cX7_undo 10 = .ok (.bipush (-3), 2) := by decide +kernel
theorem dX7_undo_12 : decode cX7_undo 12 = .ok (.ireturn, 1) := by decide +kernel
theorem dX7_undo_13 : decode cX7_undo 13 = .ok (.aload_n 0, 1) := by decide +kernel
theorem dX7_undo_14 : decode cX7_undo 14 = .ok (.getfield 38, 3) := by decide +kernel
theorem dX7_undo_17 : decode cX7_undo 17 = .ok (.getfield 150, 3) := by decide +kernel
theorem dX7_undo_20 : decode cX7_undo 20 = .ok (.istore_n 1, 1) := by decide +kernel
theorem dX7_undo_21 : decode cX7_undo 21 = .ok (.aload_n 0, 1) := by decide +kernel
theorem dX7_undo_22 : decode cX7_undo 22 = .ok (.getfield 51, 3) := by decide +kernel
theorem dX7_undo_25 : decode cX7_undo 25 = .ok (.aload_n 0, 1) := by decide +kernel
theorem dX7_undo_26 : decode cX7_undo 26 = .ok (.getfield 38, 3) := by decide +kernel
theorem dX7_undo_29 : decode cX7_undo 29 = .ok (.invokevirtual 169, 3) := by decide +kernel
theorem dX7_undo_32 : decode cX7_undo 32 = .ok (.aload_n 0, 1) := by decide +kernel
theorem dX7_undo_33 : decode cX7_undo 33 = .ok (.getfield 38, 3) := by decide +kernel
theorem dX7_undo_36 : decode cX7_undo 36 = .ok (.iload_n 1, 1) := by decide +kernel
theorem dX7_undo_37 : decode cX7_undo 37 = .ok (.putfield 150, 3) := by decide +kernel
theorem dX7_undo_40 : decode cX7_undo 40 = .ok (.aload_n 0, 1) := by decide +kernel
theorem dX7_undo_41 : decode cX7_undo 41 = .ok (.getfield 51, 3) := by decide +kernel
theorem dX7_undo_44 : decode cX7_undo 44 = .ok (.getfield 168, 3) := by decide +kernel
theorem dX7_undo_47 : decode cX7_undo 47 = .ok (.ireturn, 1) := by decide +kernel
set_option maxRecDepth 20000 in
theorem ggX7_sprung_X1_hasTrap : GoodIn wsX7_sprung wsX1_hasTrap := goodIn_r _ [7, 8, 35, 36, 37, 38, 39, 40, 41, 42, 43, 44, 45, 46] (by decide +kernel) (by decide +kernel)
set_option maxRecDepth 20000 in
theorem gX7_sprung_X1_hasTrap : GoodIn wsX7_sprung (wsV RX7 102 RX1 yX1_hasTrap wsX1_hasTrap) := goodIn_app (goodIn_of _ (by decide +kernel)) ggX7_sprung_X1_hasTrap
set_option maxRecDepth 20000 in
theorem ggX7_sprung_X3_ready : GoodIn wsX7_sprung wsX3_ready := goodIn_r _ [13, 14, 15, 16, 17, 47, 48, 49, 50, 51, 52, 53, 35, 36, 37, 38, 39, 40, 41, 42, 43, 44, 45, 46] (by decide +kernel) (by decide +kernel)
set_option maxRecDepth 20000 in
theorem gX7_sprung_X3_ready : GoodIn wsX7_sprung (wsV RX7 172 RX3 yX3_ready wsX3_ready) := goodIn_app (goodIn_of _ (by decide +kernel)) ggX7_sprung_X3_ready
set_option maxRecDepth 20000 in
theorem ggX7_sprung_X1_spread : GoodIn wsX7_sprung wsX1_spread := goodIn_r _ [21, 22, 35, 36, 37, 38, 39, 40, 41, 42, 43, 44, 45, 46] (by decide +kernel) (by decide +kernel)
set_option maxRecDepth 20000 in
theorem gX7_sprung_X1_spread : GoodIn wsX7_sprung (wsV RX7 176 RX1 yX1_spread wsX1_spread) := goodIn_app (goodIn_of _ (by decide +kernel)) ggX7_sprung_X1_spread
theorem dX7_sprung_0 : decode cX7_sprung 0 = .ok (.aload_n 0, 1) := by decide +kernel
theorem dX7_sprung_1 : decode cX7_sprung 1 = .ok (.getfield 32, 3) := by decide +kernel
theorem dX7_sprung_4 : decode cX7_sprung 4 = .ok (.iload_n 1, 1) := by decide +kernel
theorem dX7_sprung_5 : decode cX7_sprung 5 = .ok (.invokevirtual 102, 3) := by decide +kernel
theorem dX7_sprung_8 : decode cX7_sprung 8 = .ok (.ifCond .ne 5, 3) := by decide +kernel
theorem dX7_sprung_11 : decode cX7_sprung 11 = .ok (.iconst (-1), 1) := by decide +kernel
theorem dX7_sprung_12 : decode cX7_sprung 12 = .ok (.ireturn, 1) := by decide +kernel
theorem dX7_sprung_13 : decode cX7_sprung 13 = .ok (.aload_n 0, 1) := by decide +kernel
theorem dX7_sprung_14 : decode cX7_sprung 14 = .ok (.getfield 32, 3) := by decide +kernel
theorem dX7_sprung_17 : decode cX7_sprung 17 = .ok (.iconst 1, 1) := by decide +kernel
theorem dX7_sprung_18 : decode cX7_sprung 18 = .ok (.iload_n 1, 1) := by decide +kernel
theorem dX7_sprung_19 : decode cX7_sprung 19 = .ok (.ishl, 1) := by decide +kernel
theorem dX7_sprung_20 : decode cX7_sprung 20 = .ok (.aload_n 0, 1) := by decide +kernel
theorem dX7_sprung_21 : decode cX7_sprung 21 = .ok (.getfield 38, 3) := by decide +kernel
theorem dX7_sprung_24 : decode cX7_sprung 24 = .ok (.invokevirtual 172, 3) := by decide +kernel
theorem dX7_sprung_27 : decode cX7_sprung 27 = .ok (.invokevirtual 176, 3) := by decide +kernel
theorem dX7_sprung_30 : decode cX7_sprung 30 = .ok (.ireturn, 1) := by decide +kernel
set_option maxRecDepth 20000 in
theorem ggX7_rings_X1_allTraps : GoodIn wsX7_rings wsX1_allTraps := goodIn_r _ [7, 8, 26, 27, 28, 29, 30, 31, 32, 33, 34, 35, 36, 37] (by decide +kernel) (by decide +kernel)
set_option maxRecDepth 20000 in
theorem gX7_rings_X1_allTraps : GoodIn wsX7_rings (wsV RX7 179 RX1 yX1_allTraps wsX1_allTraps) := goodIn_app (goodIn_of _ (by decide +kernel)) ggX7_rings_X1_allTraps
set_option maxRecDepth 20000 in
theorem ggX7_rings_X1_spread : GoodIn wsX7_rings wsX1_spread := goodIn_r _ [12, 13, 26, 27, 28, 29, 30, 31, 32, 33, 34, 35, 36, 37] (by decide +kernel) (by decide +kernel)
set_option maxRecDepth 20000 in
theorem gX7_rings_X1_spread : GoodIn wsX7_rings (wsV RX7 176 RX1 yX1_spread wsX1_spread) := goodIn_app (goodIn_of _ (by decide +kernel)) ggX7_rings_X1_spread
theorem dX7_rings_0 : decode cX7_rings 0 = .ok (.iconst 0, 1) := by decide +kernel
theorem dX7_rings_1 : decode cX7_rings 1 = .ok (.istore_n 1, 1) := by decide +kernel
theorem dX7_rings_2 : decode cX7_rings 2 = .ok (.iconst 0, 1) := by decide +kernel
theorem dX7_rings_3 : decode cX7_rings 3 = .ok (.istore_n 2, 1) := by decide +kernel
theorem dX7_rings_4 : decode cX7_rings 4 = .ok (.iload_n 2, 1) := by decide +kernel
theorem dX7_rings_5 : decode cX7_rings 5 = .ok (.bipush 6, 2) := by decide +kernel
theorem dX7_rings_7 : decode cX7_rings 7 = .ok (.if_icmp .ge 41, 3) := by decide +kernel
theorem dX7_rings_10 : decode cX7_rings 10 = .ok (.aload_n 0, 1) := by decide +kernel
theorem dX7_rings_11 : decode cX7_rings 11 = .ok (.getfield 32, 3) := by decide +kernel
theorem dX7_rings_14 : decode cX7_rings 14 = .ok (.aload_n 0, 1) := by decide +kernel
theorem dX7_rings_15 : decode cX7_rings 15 = .ok (.getfield 32, 3) := by decide +kernel
theorem dX7_rings_18 : decode cX7_rings 18 = .ok (.getfield 116, 3) := by decide +kernel
theorem dX7_rings_21 : decode cX7_rings 21 = .ok (.iload_n 2, 1) := by decide +kernel
theorem dX7_rings_22 : decode cX7_rings 22 = .ok (.iaload, 1) := by decide +kernel
theorem dX7_rings_23 : decode cX7_rings 23 = .ok (.aload_n 0, 1) := by decide +kernel
theorem dX7_rings_24 : decode cX7_rings 24 = .ok (.getfield 32, 3) := by decide +kernel
theorem dX7_rings_27 : decode cX7_rings 27 = .ok (.invokevirtual 179, 3) := by decide +kernel
theorem dX7_rings_30 : decode cX7_rings 30 = .ok (.invokevirtual 176, 3) := by decide +kernel
theorem dX7_rings_33 : decode cX7_rings 33 = .ok (.istore_n 3, 1) := by decide +kernel
theorem dX7_rings_34 : decode cX7_rings 34 = .ok (.iload_n 1, 1) := by decide +kernel
theorem dX7_rings_35 : decode cX7_rings 35 = .ok (.iload_n 3, 1) := by decide +kernel
theorem dX7_rings_36 : decode cX7_rings 36 = .ok (.iconst 1, 1) := by decide +kernel
theorem dX7_rings_37 : decode cX7_rings 37 = .ok (.iload_n 2, 1) := by decide +kernel
theorem dX7_rings_38 : decode cX7_rings 38 = .ok (.ishl, 1) := by decide +kernel
theorem dX7_rings_39 : decode cX7_rings 39 = .ok (.iand, 1) := by decide +kernel
theorem dX7_rings_40 : decode cX7_rings 40 = .ok (.ior, 1) := by decide +kernel
theorem dX7_rings_41 : decode cX7_rings 41 = .ok (.istore_n 1, 1) := by decide +kernel
theorem dX7_rings_42 : decode cX7_rings 42 = .ok (.iinc 2 1, 3) := by decide +kernel
theorem dX7_rings_45 : decode cX7_rings 45 = .ok (.goto (-41), 3) := by decide +kernel
theorem dX7_rings_48 : decode cX7_rings 48 = .ok (.iload_n 1, 1) := by decide +kernel
theorem dX7_rings_49 : decode cX7_rings 49 = .ok (.ireturn, 1) := by decide +kernel
set_option maxRecDepth 20000 in
theorem ggX7_all_X3_ready : GoodIn wsX7_all wsX3_ready := goodIn_r _ [7, 8, 9, 10, 11, 42, 43, 44, 45, 46, 47, 48, 49, 50, 51, 52, 53, 54, 55, 56, 57, 58, 59, 60] (by decide +kernel) (by decide +kernel)
set_option maxRecDepth 20000 in
theorem gX7_all_X3_ready : GoodIn wsX7_all (wsV RX7 172 RX3 yX3_ready wsX3_ready) := goodIn_app (goodIn_of _ (by decide +kernel)) ggX7_all_X3_ready
set_option maxRecDepth 20000 in
theorem ggX7_all_X1_allTraps : GoodIn wsX7_all wsX1_allTraps := goodIn_r _ [16, 17, 49, 50, 51, 52, 53, 54, 55, 56, 57, 58, 59, 60] (by decide +kernel) (by decide +kernel)
set_option maxRecDepth 20000 in
theorem gX7_all_X1_allTraps : GoodIn wsX7_all (wsV RX7 179 RX1 yX1_allTraps wsX1_allTraps) := goodIn_app (goodIn_of _ (by decide +kernel)) ggX7_all_X1_allTraps
set_option maxRecDepth 20000 in
theorem ggX7_all_J6_bitCount_0f7a4 : GoodIn wsX7_all wsJ6_bitCount_0f7a4 := goodIn_r _ [21, 22, 23, 24] (by decide +kernel) (by decide +kernel)
set_option maxRecDepth 20000 in
theorem gX7_all_J6_bitCount_0f7a4 : GoodIn wsX7_all (va_wsS RX7 182 yJ6_bitCount_0f7a4 wsJ6_bitCount_0f7a4) := goodIn_app (goodIn_of _ (by decide +kernel)) ggX7_all_J6_bitCount_0f7a4
set_option maxRecDepth 20000 in
theorem ggX7_all_X1_spread : GoodIn wsX7_all wsX1_spread := goodIn_r _ [28, 29, 49, 50, 51, 52, 53, 54, 55, 56, 57, 58, 59, 60] (by decide +kernel) (by decide +kernel)
set_option maxRecDepth 20000 in
theorem gX7_all_X1_spread : GoodIn wsX7_all (wsV RX7 176 RX1 yX1_spread wsX1_spread) := goodIn_app (goodIn_of _ (by decide +kernel)) ggX7_all_X1_spread
theorem dX7_all_0 : decode cX7_all 0 = .ok (.aload_n 0, 1) := by decide +kernel
theorem dX7_all_1 : decode cX7_all 1 = .ok (.getfield 38, 3) := by decide +kernel
theorem dX7_all_4 : decode cX7_all 4 = .ok (.invokevirtual 172, 3) := by decide +kernel
theorem dX7_all_7 : decode cX7_all 7 = .ok (.istore_n 1, 1) := by decide +kernel
theorem dX7_all_8 : decode cX7_all 8 = .ok (.iload_n 1, 1) := by decide +kernel
theorem dX7_all_9 : decode cX7_all 9 = .ok (.istore_n 2, 1) := by decide +kernel
theorem dX7_all_10 : decode cX7_all 10 = .ok (.aload_n 0, 1) := by decide +kernel
theorem dX7_all_11 : decode cX7_all 11 = .ok (.getfield 32, 3) := by decide +kernel
theorem dX7_all_14 : decode cX7_all 14 = .ok (.invokevirtual 179, 3) := by decide +kernel
theorem dX7_all_17 : decode cX7_all 17 = .ok (.istore_n 3, 1) := by decide +kernel
theorem dX7_all_18 : decode cX7_all 18 = .ok (.iload_n 3, 1) := by decide +kernel
theorem dX7_all_19 : decode cX7_all 19 = .ok (.ifCond .lt 47, 3) := by decide +kernel
theorem dX7_all_22 : decode cX7_all 22 = .ok (.iload_n 3, 1) := by decide +kernel
theorem dX7_all_23 : decode cX7_all 23 = .ok (.invokestatic 182, 3) := by decide +kernel
theorem dX7_all_26 : decode cX7_all 26 = .ok (.iload_n 2, 1) := by decide +kernel
theorem dX7_all_27 : decode cX7_all 27 = .ok (.invokestatic 182, 3) := by decide +kernel
theorem dX7_all_30 : decode cX7_all 30 = .ok (.if_icmp .gt 7, 3) := by decide +kernel
theorem dX7_all_33 : decode cX7_all 33 = .ok (.iconst 1, 1) := by decide +kernel
theorem dX7_all_34 : decode cX7_all 34 = .ok (.goto 4, 3) := by decide +kernel
theorem dX7_all_37 : decode cX7_all 37 = .ok (.iconst 0, 1) := by decide +kernel
theorem dX7_all_38 : decode cX7_all 38 = .ok (.istore 4, 2) := by decide +kernel
theorem dX7_all_40 : decode cX7_all 40 = .ok (.iload 4, 2) := by decide +kernel
theorem dX7_all_42 : decode cX7_all 42 = .ok (.ifCond .eq 18, 3) := by decide +kernel
theorem dX7_all_45 : decode cX7_all 45 = .ok (.aload_n 0, 1) := by decide +kernel
theorem dX7_all_46 : decode cX7_all 46 = .ok (.getfield 32, 3) := by decide +kernel
theorem dX7_all_49 : decode cX7_all 49 = .ok (.iload_n 3, 1) := by decide +kernel
theorem dX7_all_50 : decode cX7_all 50 = .ok (.iload_n 1, 1) := by decide +kernel
theorem dX7_all_51 : decode cX7_all 51 = .ok (.invokevirtual 176, 3) := by decide +kernel
theorem dX7_all_54 : decode cX7_all 54 = .ok (.iload_n 1, 1) := by decide +kernel
theorem dX7_all_55 : decode cX7_all 55 = .ok (.if_icmp .ne 5, 3) := by decide +kernel
theorem dX7_all_58 : decode cX7_all 58 = .ok (.iload_n 3, 1) := by decide +kernel
theorem dX7_all_59 : decode cX7_all 59 = .ok (.istore_n 2, 1) := by decide +kernel
theorem dX7_all_60 : decode cX7_all 60 = .ok (.iinc 3 (-1), 3) := by decide +kernel
theorem dX7_all_63 : decode cX7_all 63 = .ok (.goto (-45), 3) := by decide +kernel
theorem dX7_all_66 : decode cX7_all 66 = .ok (.iload_n 2, 1) := by decide +kernel
theorem dX7_all_67 : decode cX7_all 67 = .ok (.ireturn, 1) := by decide +kernel
set_option maxRecDepth 20000 in
theorem ggX7_first_X1_allTraps : GoodIn wsX7_first wsX1_allTraps := goodIn_r _ [7, 8, 30, 31, 32, 33, 34, 35, 36, 37, 38, 39, 40, 41] (by decide +kernel) (by decide +kernel)
set_option maxRecDepth 20000 in
theorem gX7_first_X1_allTraps : GoodIn wsX7_first (wsV RX7 179 RX1 yX1_allTraps wsX1_allTraps) := goodIn_app (goodIn_of _ (by decide +kernel)) ggX7_first_X1_allTraps
set_option maxRecDepth 20000 in
theorem ggX7_first_X1_hasTrap : GoodIn wsX7_first wsX1_hasTrap := goodIn_r _ [12, 8, 30, 31, 32, 33, 34, 35, 36, 37, 38, 39, 40, 41] (by decide +kernel) (by decide +kernel)
set_option maxRecDepth 20000 in
theorem gX7_first_X1_hasTrap : GoodIn wsX7_first (wsV RX7 102 RX1 yX1_hasTrap wsX1_hasTrap) := goodIn_app (goodIn_of _ (by decide +kernel)) ggX7_first_X1_hasTrap
set_option maxRecDepth 20000 in
theorem ggX7_first_X1_spread : GoodIn wsX7_first wsX1_spread := goodIn_r _ [16, 17, 30, 31, 32, 33, 34, 35, 36, 37, 38, 39, 40, 41] (by decide +kernel) (by decide +kernel)
set_option maxRecDepth 20000 in
theorem gX7_first_X1_spread : GoodIn wsX7_first (wsV RX7 176 RX1 yX1_spread wsX1_spread) := goodIn_app (goodIn_of _ (by decide +kernel)) ggX7_first_X1_spread
theorem dX7_first_0 : decode cX7_first 0 = .ok (.aload_n 0, 1) := by decide +kernel
theorem dX7_first_1 : decode cX7_first 1 = .ok (.getfield 32, 3) := by decide +kernel
theorem dX7_first_4 : decode cX7_first 4 = .ok (.invokevirtual 179, 3) := by decide +kernel
theorem dX7_first_7 : decode cX7_first 7 = .ok (.istore_n 2, 1) := by decide +kernel
theorem dX7_first_8 : decode cX7_first 8 = .ok (.iload_n 1, 1) := by decide +kernel
theorem dX7_first_9 : decode cX7_first 9 = .ok (.iload_n 2, 1) := by decide +kernel
theorem dX7_first_10 : decode cX7_first 10 = .ok (.iconst (-1), 1) := by decide +kernel
theorem dX7_first_11 : decode cX7_first 11 = .ok (.ixor, 1) := by decide +kernel
theorem dX7_first_12 : decode cX7_first 12 = .ok (.iand, 1) := by decide +kernel
theorem dX7_first_13 : decode cX7_first 13 = .ok (.ifCond .eq 6, 3) := by decide +kernel
theorem dX7_first_16 : decode cX7_first 16 = .ok (.bipush (-2), 2) := by decide +kernel
theorem dX7_first_18 : decode cX7_first 18 = .ok (.ireturn, 1) := by decide +kernel
theorem dX7_first_19 : decode cX7_first 19 = .ok (.iconst 0, 1) := by decide +kernel
theorem dX7_first_20 : decode cX7_first 20 = .ok (.istore_n 3, 1) := by decide +kernel
theorem dX7_first_21 : decode cX7_first 21 = .ok (.iconst 0, 1) := by decide +kernel
theorem dX7_first_22 : decode cX7_first 22 = .ok (.istore 4, 2) := by decide +kernel
theorem dX7_first_24 : decode cX7_first 24 = .ok (.iload 4, 2) := by decide +kernel
theorem dX7_first_26 : decode cX7_first 26 = .ok (.bipush 6, 2) := by decide +kernel
theorem dX7_first_28 : decode cX7_first 28 = .ok (.if_icmp .ge 54, 3) := by decide +kernel
theorem dX7_first_31 : decode cX7_first 31 = .ok (.aload_n 0, 1) := by decide +kernel
theorem dX7_first_32 : decode cX7_first 32 = .ok (.getfield 32, 3) := by decide +kernel
theorem dX7_first_35 : decode cX7_first 35 = .ok (.iload 4, 2) := by decide +kernel
theorem dX7_first_37 : decode cX7_first 37 = .ok (.invokevirtual 102, 3) := by decide +kernel
theorem dX7_first_40 : decode cX7_first 40 = .ok (.ifCond .eq 36, 3) := by decide +kernel
theorem dX7_first_43 : decode cX7_first 43 = .ok (.aload_n 0, 1) := by decide +kernel
theorem dX7_first_44 : decode cX7_first 44 = .ok (.getfield 32, 3) := by decide +kernel
theorem dX7_first_47 : decode cX7_first 47 = .ok (.iconst 1, 1) := by decide +kernel
theorem dX7_first_48 : decode cX7_first 48 = .ok (.iload 4, 2) := by decide +kernel
theorem dX7_first_50 : decode cX7_first 50 = .ok (.ishl, 1) := by decide +kernel
theorem dX7_first_51 : decode cX7_first 51 = .ok (.iload_n 2, 1) := by decide +kernel
theorem dX7_first_52 : decode cX7_first 52 = .ok (.aload_n 0, 1) := by decide +kernel
theorem dX7_first_53 : decode cX7_first 53 = .ok (.getfield 32, 3) := by decide +kernel
theorem dX7_first_56 : decode cX7_first 56 = .ok (.getfield 187, 3) := by decide +kernel
theorem dX7_first_59 : decode cX7_first 59 = .ok (.iconst (-1), 1) := by decide +kernel
theorem dX7_first_60 : decode cX7_first 60 = .ok (.ixor, 1) := by decide +kernel
theorem dX7_first_61 : decode cX7_first 61 = .ok (.iand, 1) := by decide +kernel
theorem dX7_first_62 : decode cX7_first 62 = .ok (.invokevirtual 176, 3) := by decide +kernel
theorem dX7_first_65 : decode cX7_first 65 = .ok (.iload_n 1, 1) := by decide +kernel
theorem dX7_first_66 : decode cX7_first 66 = .ok (.if_icmp .ne 10, 3) := by decide +kernel
theorem dX7_first_69 : decode cX7_first 69 = .ok (.iload_n 3, 1) := by decide +kernel
theorem dX7_first_70 : decode cX7_first 70 = .ok (.iconst 1, 1) := by decide +kernel
theorem dX7_first_71 : decode cX7_first 71 = .ok (.iload 4, 2) := by decide +kernel
theorem dX7_first_73 : decode cX7_first 73 = .ok (.ishl, 1) := by decide +kernel
theorem dX7_first_74 : decode cX7_first 74 = .ok (.ior, 1) := by decide +kernel
theorem dX7_first_75 : decode cX7_first 75 = .ok (.istore_n 3, 1) := by decide +kernel
theorem dX7_first_76 : decode cX7_first 76 = .ok (.iinc 4 1, 3) := by decide +kernel
theorem dX7_first_79 : decode cX7_first 79 = .ok (.goto (-55), 3) := by decide +kernel
theorem dX7_first_82 : decode cX7_first 82 = .ok (.iload_n 3, 1) := by decide +kernel
theorem dX7_first_83 : decode cX7_first 83 = .ok (.ireturn, 1) := by decide +kernel
set_option maxRecDepth 20000 in
theorem ggX7_safe_X7_refusalOfWay : GoodIn wsX7_safe wsX7_refusalOfWay := goodIn_r _ [8, 9, 2, 10, 11, 12, 13, 14, 15, 16, 17, 7, 18, 19, 20, 21, 22, 23, 24, 25, 26, 59, 60, 61, 62, 63, 64, 65, 66, 67, 68, 69, 70, 78, 79, 80, 81, 82, 83, 84, 85, 86, 87, 88, 89, 71, 72, 73, 74, 75, 76, 77] (by decide +kernel) (by decide +kernel)
set_option maxRecDepth 20000 in
theorem gX7_safe_X7_refusalOfWay : GoodIn wsX7_safe (wsV RX7 190 RX7 yX7_refusalOfWay wsX7_refusalOfWay) := goodIn_app (goodIn_of _ (by decide +kernel)) ggX7_safe_X7_refusalOfWay
set_option maxRecDepth 20000 in
theorem ggX7_safe_X7_dangerFor : GoodIn wsX7_safe wsX7_dangerFor := goodIn_r _ [30, 9, 31, 2, 32, 33, 34, 10, 11, 12, 13, 14, 15, 35, 36, 7, 37, 38, 39, 40, 41, 42, 43, 59, 60, 61, 62, 63, 64, 65, 66, 67, 68, 69, 70, 78, 79, 80, 81, 82, 83, 84, 85, 86, 87, 88, 89, 71, 72, 73, 74, 75, 76, 77] (by decide +kernel) (by decide +kernel)
set_option maxRecDepth 20000 in
theorem gX7_safe_X7_dangerFor : GoodIn wsX7_safe (wsV RX7 193 RX7 yX7_dangerFor wsX7_dangerFor) := goodIn_app (goodIn_of _ (by decide +kernel)) ggX7_safe_X7_dangerFor
set_option maxRecDepth 20000 in
theorem ggX7_safe_X6_measure : GoodIn wsX7_safe wsX6_measure := goodIn_r _ [48, 49, 50, 51, 52, 7, 53, 54, 16, 17, 18, 90, 91, 78, 79, 80, 81, 82, 83, 84, 85, 86, 87, 88, 89] (by decide +kernel) (by decide +kernel)
set_option maxRecDepth 20000 in
theorem gX7_safe_X6_measure : GoodIn wsX7_safe (wsV RX7 196 RX6 yX6_measure wsX6_measure) := goodIn_app (goodIn_of _ (by decide +kernel)) ggX7_safe_X6_measure
set_option maxRecDepth 20000 in
theorem ggX7_safe_X6_stepsFrom : GoodIn wsX7_safe wsX6_stepsFrom := goodIn_r _ [58, 49, 17, 7, 18, 90, 91] (by decide +kernel) (by decide +kernel)
set_option maxRecDepth 20000 in
theorem gX7_safe_X6_stepsFrom : GoodIn wsX7_safe (wsV RX7 200 RX6 yX6_stepsFrom wsX6_stepsFrom) := goodIn_app (goodIn_of _ (by decide +kernel)) ggX7_safe_X6_stepsFrom
theorem dX7_safe_0 : decode cX7_safe 0 = .ok (.aload_n 0, 1) := by decide +kernel
theorem dX7_safe_1 : decode cX7_safe 1 = .ok (.iload_n 1, 1) := by decide +kernel
theorem dX7_safe_2 : decode cX7_safe 2 = .ok (.iload_n 2, 1) := by decide +kernel
theorem dX7_safe_3 : decode cX7_safe 3 = .ok (.invokevirtual 190, 3) := by decide +kernel
theorem dX7_safe_6 : decode cX7_safe 6 = .ok (.istore_n 3, 1) := by decide +kernel
theorem dX7_safe_7 : decode cX7_safe 7 = .ok (.iload_n 3, 1) := by decide +kernel
theorem dX7_safe_8 : decode cX7_safe 8 = .ok (.ifCond .eq 5, 3) := by decide +kernel
theorem dX7_safe_11 : decode cX7_safe 11 = .ok (.iload_n 3, 1) := by decide +kernel
theorem dX7_safe_12 : decode cX7_safe 12 = .ok (.ireturn, 1) := by decide +kernel
theorem dX7_safe_13 : decode cX7_safe 13 = .ok (.aload_n 0, 1) := by decide +kernel
theorem dX7_safe_14 : decode cX7_safe 14 = .ok (.getfield 58, 3) := by decide +kernel
theorem dX7_safe_17 : decode cX7_safe 17 = .ok (.aload_n 0, 1) := by decide +kernel
theorem dX7_safe_18 : decode cX7_safe 18 = .ok (.getfield 38, 3) := by decide +kernel
theorem dX7_safe_21 : decode cX7_safe 21 = .ok (.getfield 131, 3) := by decide +kernel
theorem dX7_safe_24 : decode cX7_safe 24 = .ok (.iload_n 1, 1) := by decide +kernel
theorem dX7_safe_25 : decode cX7_safe 25 = .ok (.iaload, 1) := by decide +kernel
theorem dX7_safe_26 : decode cX7_safe 26 = .ok (.iload_n 2, 1) := by decide +kernel
theorem dX7_safe_27 : decode cX7_safe 27 = .ok (.aload_n 0, 1) := by decide +kernel
theorem dX7_safe_28 : decode cX7_safe 28 = .ok (.iload_n 1, 1) := by decide +kernel
theorem dX7_safe_29 : decode cX7_safe 29 = .ok (.invokevirtual 193, 3) := by decide +kernel
theorem dX7_safe_32 : decode cX7_safe 32 = .ok (.invokevirtual 196, 3) := by decide +kernel
theorem dX7_safe_35 : decode cX7_safe 35 = .ok (.aload_n 0, 1) := by decide +kernel
theorem dX7_safe_36 : decode cX7_safe 36 = .ok (.getfield 58, 3) := by decide +kernel
theorem dX7_safe_39 : decode cX7_safe 39 = .ok (.aload_n 0, 1) := by decide +kernel
theorem dX7_safe_40 : decode cX7_safe 40 = .ok (.getfield 38, 3) := by decide +kernel
theorem dX7_safe_43 : decode cX7_safe 43 = .ok (.getfield 131, 3) := by decide +kernel
theorem dX7_safe_46 : decode cX7_safe 46 = .ok (.iload_n 1, 1) := by decide +kernel
theorem dX7_safe_47 : decode cX7_safe 47 = .ok (.iaload, 1) := by decide +kernel
theorem dX7_safe_48 : decode cX7_safe 48 = .ok (.invokevirtual 200, 3) := by decide +kernel
theorem dX7_safe_51 : decode cX7_safe 51 = .ok (.ireturn, 1) := by decide +kernel
set_option maxRecDepth 20000 in
theorem ggX7_safeAt_X7_refusalOfWay : GoodIn wsX7_safeAt wsX7_refusalOfWay := goodIn_r _ [8, 9, 2, 10, 11, 12, 13, 14, 15, 16, 17, 7, 18, 19, 20, 21, 22, 23, 24, 25, 26, 67, 68, 69, 70, 71, 72, 73, 74, 75, 76, 77, 78, 86, 87, 88, 89, 90, 91, 92, 93, 94, 95, 96, 97, 79, 80, 81, 82, 83, 84, 85] (by decide +kernel) (by decide +kernel)
set_option maxRecDepth 20000 in
theorem gX7_safeAt_X7_refusalOfWay : GoodIn wsX7_safeAt (wsV RX7 190 RX7 yX7_refusalOfWay wsX7_refusalOfWay) := goodIn_app (goodIn_of _ (by decide +kernel)) ggX7_safeAt_X7_refusalOfWay
set_option maxRecDepth 20000 in
theorem ggX7_safeAt_X7_dangerFor : GoodIn wsX7_safeAt wsX7_dangerFor := goodIn_r _ [30, 9, 31, 2, 32, 33, 34, 10, 11, 12, 13, 14, 15, 35, 36, 7, 37, 38, 39, 40, 41, 42, 43, 67, 68, 69, 70, 71, 72, 73, 74, 75, 76, 77, 78, 86, 87, 88, 89, 90, 91, 92, 93, 94, 95, 96, 97, 79, 80, 81, 82, 83, 84, 85] (by decide +kernel) (by decide +kernel)
set_option maxRecDepth 20000 in
theorem gX7_safeAt_X7_dangerFor : GoodIn wsX7_safeAt (wsV RX7 193 RX7 yX7_dangerFor wsX7_dangerFor) := goodIn_app (goodIn_of _ (by decide +kernel)) ggX7_safeAt_X7_dangerFor
set_option maxRecDepth 20000 in
theorem ggX7_safeAt_X6_measure : GoodIn wsX7_safeAt wsX6_measure := goodIn_r _ [48, 49, 50, 51, 52, 7, 53, 54, 16, 17, 18, 98, 99, 86, 87, 88, 89, 90, 91, 92, 93, 94, 95, 96, 97] (by decide +kernel) (by decide +kernel)
set_option maxRecDepth 20000 in
theorem gX7_safeAt_X6_measure : GoodIn wsX7_safeAt (wsV RX7 196 RX6 yX6_measure wsX6_measure) := goodIn_app (goodIn_of _ (by decide +kernel)) ggX7_safeAt_X6_measure
set_option maxRecDepth 20000 in
theorem ggX7_safeAt_X6_cellBehind : GoodIn wsX7_safeAt wsX6_cellBehind := goodIn_r _ [58, 59, 60, 61, 47, 62, 49, 17, 7, 18, 63, 64, 65, 66, 52, 53, 54, 16, 98, 99] (by decide +kernel) (by decide +kernel)
set_option maxRecDepth 20000 in
theorem gX7_safeAt_X6_cellBehind : GoodIn wsX7_safeAt (wsV RX7 203 RX6 yX6_cellBehind wsX6_cellBehind) := goodIn_app (goodIn_of _ (by decide +kernel)) ggX7_safeAt_X6_cellBehind
theorem dX7_safeAt_0 : decode cX7_safeAt 0 = .ok (.aload_n 0, 1) := by decide +kernel
theorem dX7_safeAt_1 : decode cX7_safeAt 1 = .ok (.iload_n 1, 1) := by decide +kernel
theorem dX7_safeAt_2 : decode cX7_safeAt 2 = .ok (.iload_n 2, 1) := by decide +kernel
theorem dX7_safeAt_3 : decode cX7_safeAt 3 = .ok (.invokevirtual 190, 3) := by decide +kernel
theorem dX7_safeAt_6 : decode cX7_safeAt 6 = .ok (.istore 4, 2) := by decide +kernel
theorem dX7_safeAt_8 : decode cX7_safeAt 8 = .ok (.iload 4, 2) := by decide +kernel
theorem dX7_safeAt_10 : decode cX7_safeAt 10 = .ok (.ifCond .eq 6, 3) := by decide +kernel
theorem dX7_safeAt_13 : decode cX7_safeAt 13 = .ok (.iload 4, 2) := by decide +kernel
theorem dX7_safeAt_15 : decode cX7_safeAt 15 = .ok (.ireturn, 1) := by decide +kernel
theorem dX7_safeAt_16 : decode cX7_safeAt 16 = .ok (.aload_n 0, 1) := by decide +kernel
theorem dX7_safeAt_17 : decode cX7_safeAt 17 = .ok (.getfield 58, 3) := by decide +kernel
theorem dX7_safeAt_20 : decode cX7_safeAt 20 = .ok (.aload_n 0, 1) := by decide +kernel
theorem dX7_safeAt_21 : decode cX7_safeAt 21 = .ok (.getfield 38, 3) := by decide +kernel
theorem dX7_safeAt_24 : decode cX7_safeAt 24 = .ok (.getfield 131, 3) := by decide +kernel
theorem dX7_safeAt_27 : decode cX7_safeAt 27 = .ok (.iload_n 1, 1) := by decide +kernel
theorem dX7_safeAt_28 : decode cX7_safeAt 28 = .ok (.iaload, 1) := by decide +kernel
theorem dX7_safeAt_29 : decode cX7_safeAt 29 = .ok (.iload_n 2, 1) := by decide +kernel
theorem dX7_safeAt_30 : decode cX7_safeAt 30 = .ok (.aload_n 0, 1) := by decide +kernel
theorem dX7_safeAt_31 : decode cX7_safeAt 31 = .ok (.iload_n 1, 1) := by decide +kernel
theorem dX7_safeAt_32 : decode cX7_safeAt 32 = .ok (.invokevirtual 193, 3) := by decide +kernel
theorem dX7_safeAt_35 : decode cX7_safeAt 35 = .ok (.invokevirtual 196, 3) := by decide +kernel
theorem dX7_safeAt_38 : decode cX7_safeAt 38 = .ok (.aload_n 0, 1) := by decide +kernel
theorem dX7_safeAt_39 : decode cX7_safeAt 39 = .ok (.getfield 58, 3) := by decide +kernel
theorem dX7_safeAt_42 : decode cX7_safeAt 42 = .ok (.aload_n 0, 1) := by decide +kernel
theorem dX7_safeAt_43 : decode cX7_safeAt 43 = .ok (.getfield 38, 3) := by decide +kernel
theorem dX7_safeAt_46 : decode cX7_safeAt 46 = .ok (.getfield 131, 3) := by decide +kernel
theorem dX7_safeAt_49 : decode cX7_safeAt 49 = .ok (.iload_n 1, 1) := by decide +kernel
theorem dX7_safeAt_50 : decode cX7_safeAt 50 = .ok (.iaload, 1) := by decide +kernel
theorem dX7_safeAt_51 : decode cX7_safeAt 51 = .ok (.iload_n 3, 1) := by decide +kernel
theorem dX7_safeAt_52 : decode cX7_safeAt 52 = .ok (.invokevirtual 203, 3) := by decide +kernel
theorem dX7_safeAt_55 : decode cX7_safeAt 55 = .ok (.ireturn, 1) := by decide +kernel
set_option maxRecDepth 20000 in
theorem ggX7_toLook_X7_isSide : GoodIn wsX7_toLook wsX7_isSide := goodIn_r _ [4] (by decide +kernel) (by decide +kernel)
set_option maxRecDepth 20000 in
theorem gX7_toLook_X7_isSide : GoodIn wsX7_toLook (va_wsS RX7 162 yX7_isSide wsX7_isSide) := goodIn_app (goodIn_of _ (by decide +kernel)) ggX7_toLook_X7_isSide
set_option maxRecDepth 20000 in
theorem ggX7_toLook_X7_unknownFrom : GoodIn wsX7_toLook wsX7_unknownFrom := goodIn_r _ [8, 9, 10, 11, 1, 2, 3, 4, 12, 13, 14, 15, 16, 17, 18, 19, 20, 21, 22, 23, 24, 25, 33, 34, 35, 36, 37, 38, 39, 40, 41, 42, 43, 44, 45, 46, 47, 48, 49, 50, 51, 52, 53, 54, 55, 56, 57, 58, 59, 60, 61, 62, 63] (by decide +kernel) (by decide +kernel)
set_option maxRecDepth 20000 in
theorem gX7_toLook_X7_unknownFrom : GoodIn wsX7_toLook (wsV RX7 165 RX7 yX7_unknownFrom wsX7_unknownFrom) := goodIn_app (goodIn_of _ (by decide +kernel)) ggX7_toLook_X7_unknownFrom
set_option maxRecDepth 20000 in
theorem ggX7_toLook_J6_bitCount_0f7a4 : GoodIn wsX7_toLook wsJ6_bitCount_0f7a4 := goodIn_r _ [29, 30, 31, 32] (by decide +kernel) (by decide +kernel)
set_option maxRecDepth 20000 in
theorem gX7_toLook_J6_bitCount_0f7a4 : GoodIn wsX7_toLook (va_wsS RX7 182 yJ6_bitCount_0f7a4 wsJ6_bitCount_0f7a4) := goodIn_app (goodIn_of _ (by decide +kernel)) ggX7_toLook_J6_bitCount_0f7a4
theorem dX7_toLook_0 : decode cX7_toLook 0 = .ok (.iload_n 1, 1) := by decide +kernel
theorem dX7_toLook_1 : decode cX7_toLook 1 = .ok (.invokestatic 162, 3) := by decide +kernel
theorem dX7_toLook_4 : decode cX7_toLook 4 = .ok (.ifCond .ne 6, 3) := by decide +kernel
theorem dX7_toLook_7 : decode cX7_toLook 7 = .ok (.bipush (-2), 2) := by decide +kernel
theorem dX7_toLook_9 : decode cX7_toLook 9 = .ok (.ireturn, 1) := by decide +kernel
theorem dX7_toLook_10 : decode cX7_toLook 10 = .ok (.iconst 0, 1) := by decide +kernel
theorem dX7_toLook_11 : decode cX7_toLook 11 = .ok (.istore_n 2, 1) := by decide +kernel
theorem dX7_toLook_12 : decode cX7_toLook 12 = .ok (.iconst 0, 1) := by decide +kernel
theorem dX7_toLook_13 : decode cX7_toLook 13 = .ok (.istore_n 3, 1) := by decide +kernel
theorem dX7_toLook_14 : decode cX7_toLook 14 = .ok (.iconst 0, 1) := by decide +kernel
theorem dX7_toLook_15 : decode cX7_toLook 15 = .ok (.istore 4, 2) := by decide +kernel
theorem dX7_toLook_17 : decode cX7_toLook 17 = .ok (.iload 4, 2) := by decide +kernel
theorem dX7_toLook_19 : decode cX7_toLook 19 = .ok (.bipush 12, 2) := by decide +kernel
theorem dX7_toLook_21 : decode cX7_toLook 21 = .ok (.if_icmp .ge 33, 3) := by decide +kernel
theorem dX7_toLook_24 : decode cX7_toLook 24 = .ok (.aload_n 0, 1) := by decide +kernel
theorem dX7_toLook_25 : decode cX7_toLook 25 = .ok (.iload_n 1, 1) := by decide +kernel
theorem dX7_toLook_26 : decode cX7_toLook 26 = .ok (.iload 4, 2) := by decide +kernel
theorem dX7_toLook_28 : decode cX7_toLook 28 = .ok (.invokevirtual 165, 3) := by decide +kernel
theorem dX7_toLook_31 : decode cX7_toLook 31 = .ok (.invokestatic 182, 3) := by decide +kernel
theorem dX7_toLook_34 : decode cX7_toLook 34 = .ok (.istore 5, 2) := by decide +kernel
theorem dX7_toLook_36 : decode cX7_toLook 36 = .ok (.iload 5, 2) := by decide +kernel
theorem dX7_toLook_38 : decode cX7_toLook 38 = .ok (.iload_n 3, 1) := by decide +kernel
theorem dX7_toLook_39 : decode cX7_toLook 39 = .ok (.if_icmp .le 9, 3) := by decide +kernel
theorem dX7_toLook_42 : decode cX7_toLook 42 = .ok (.iload 5, 2) := by decide +kernel
theorem dX7_toLook_44 : decode cX7_toLook 44 = .ok (.istore_n 3, 1) := by decide +kernel
theorem dX7_toLook_45 : decode cX7_toLook 45 = .ok (.iload 4, 2) := by decide +kernel
theorem dX7_toLook_47 : decode cX7_toLook 47 = .ok (.istore_n 2, 1) := by decide +kernel
theorem dX7_toLook_48 : decode cX7_toLook 48 = .ok (.iinc 4 1, 3) := by decide +kernel
theorem dX7_toLook_51 : decode cX7_toLook 51 = .ok (.goto (-34), 3) := by decide +kernel
theorem dX7_toLook_54 : decode cX7_toLook 54 = .ok (.iload_n 2, 1) := by decide +kernel
theorem dX7_toLook_55 : decode cX7_toLook 55 = .ok (.ireturn, 1) := by decide +kernel
set_option maxRecDepth 20000 in
theorem ggX7_strays_X1_hasWalker : GoodIn wsX7_strays wsX1_hasWalker := goodIn_r _ [8, 9, 107, 108, 109, 110, 111, 112, 113, 114, 115, 116, 117, 118] (by decide +kernel) (by decide +kernel)
set_option maxRecDepth 20000 in
theorem gX7_strays_X1_hasWalker : GoodIn wsX7_strays (wsV RX7 128 RX1 yX1_hasWalker wsX1_hasWalker) := goodIn_app (goodIn_of _ (by decide +kernel)) ggX7_strays_X1_hasWalker
set_option maxRecDepth 20000 in
theorem ggX7_strays_X3_isFree : GoodIn wsX7_strays wsX3_isFree := goodIn_r _ [14, 15, 16, 17, 5, 6, 7, 8, 9, 119, 120, 121, 122, 123, 124, 125, 107, 108, 109, 110, 111, 112, 113, 114, 115, 116, 117, 118] (by decide +kernel) (by decide +kernel)
set_option maxRecDepth 20000 in
theorem gX7_strays_X3_isFree : GoodIn wsX7_strays (wsV RX7 137 RX3 yX3_isFree wsX3_isFree) := goodIn_app (goodIn_of _ (by decide +kernel)) ggX7_strays_X3_isFree
set_option maxRecDepth 20000 in
theorem ggX7_strays_X4_wholeOf : GoodIn wsX7_strays wsX4_wholeOf := goodIn_r _ [21] (by decide +kernel) (by decide +kernel)
set_option maxRecDepth 20000 in
theorem gX7_strays_X4_wholeOf : GoodIn wsX7_strays (va_wsS RX7 206 yX4_wholeOf wsX4_wholeOf) := goodIn_app (goodIn_of _ (by decide +kernel)) ggX7_strays_X4_wholeOf
set_option maxRecDepth 20000 in
theorem ggX7_strays_X4_chance : GoodIn wsX7_strays wsX4_chance := goodIn_r _ [25, 26, 27, 28, 29, 30, 31, 32, 33, 5, 6, 7, 8, 9, 34, 19, 20, 21, 35, 36, 37, 38, 39, 40, 41, 42, 43, 44, 45, 46, 47, 48, 49, 50, 51, 52, 53, 54, 55, 56, 57, 58, 59, 60, 61, 62, 63, 64, 65, 66, 67, 68, 69, 70, 71, 72, 73, 74, 75, 76, 77, 78, 79, 80, 81, 82, 83, 84, 85, 86, 87, 88, 89, 90, 91, 119, 120, 121, 122, 123, 124, 125, 126, 127, 128, 107, 108, 109, 110, 111, 112, 113, 114, 115, 116, 117, 118] (by decide +kernel) (by decide +kernel)
set_option maxRecDepth 20000 in
theorem gX7_strays_X4_chance : GoodIn wsX7_strays (wsV RX7 209 RX4 yX4_chance wsX4_chance) := goodIn_app (goodIn_of _ (by decide +kernel)) ggX7_strays_X4_chance
set_option maxRecDepth 20000 in
theorem ggX7_strays_X7_greatestDivisor : GoodIn wsX7_strays wsX7_greatestDivisor := goodIn_r _ [94] (by decide +kernel) (by decide +kernel)
set_option maxRecDepth 20000 in
theorem gX7_strays_X7_greatestDivisor : GoodIn wsX7_strays (va_wsS RX7 213 yX7_greatestDivisor wsX7_greatestDivisor) := goodIn_app (goodIn_of _ (by decide +kernel)) ggX7_strays_X7_greatestDivisor
theorem dX7_strays_0 : decode cX7_strays 0 = .ok (.aload_n 0, 1) := by decide +kernel
theorem dX7_strays_1 : decode cX7_strays 1 = .ok (.getfield 32, 3) := by decide +kernel
theorem dX7_strays_4 : decode cX7_strays 4 = .ok (.iload_n 1, 1) := by decide +kernel
theorem dX7_strays_5 : decode cX7_strays 5 = .ok (.invokevirtual 128, 3) := by decide +kernel
theorem dX7_strays_8 : decode cX7_strays 8 = .ok (.ifCond .ne 5, 3) := by decide +kernel
theorem dX7_strays_11 : decode cX7_strays 11 = .ok (.iconst (-1), 1) := by decide +kernel
theorem dX7_strays_12 : decode cX7_strays 12 = .ok (.ireturn, 1) := by decide +kernel
theorem dX7_strays_13 : decode cX7_strays 13 = .ok (.iload_n 2, 1) := by decide +kernel
theorem dX7_strays_14 : decode cX7_strays 14 = .ok (.ifCond .lt 8, 3) := by decide +kernel
theorem dX7_strays_17 : decode cX7_strays 17 = .ok (.iload_n 2, 1) := by decide +kernel
theorem dX7_strays_18 : decode cX7_strays 18 = .ok (.iconst 4, 1) := by decide +kernel
theorem dX7_strays_19 : decode cX7_strays 19 = .ok (.if_icmp .le 6, 3) := by decide +kernel
theorem dX7_strays_22 : decode cX7_strays 22 = .ok (.bipush (-2), 2) := by decide +kernel
theorem dX7_strays_24 : decode cX7_strays 24 = .ok (.ireturn, 1) := by decide +kernel
theorem dX7_strays_25 : decode cX7_strays 25 = .ok (.aload_n 0, 1) := by decide +kernel
theorem dX7_strays_26 : decode cX7_strays 26 = .ok (.getfield 38, 3) := by decide +kernel
theorem dX7_strays_29 : decode cX7_strays 29 = .ok (.iload_n 1, 1) := by decide +kernel
theorem dX7_strays_30 : decode cX7_strays 30 = .ok (.invokevirtual 137, 3) := by decide +kernel
theorem dX7_strays_33 : decode cX7_strays 33 = .ok (.ifCond .ne 6, 3) := by decide +kernel
theorem dX7_strays_36 : decode cX7_strays 36 = .ok (.bipush (-3), 2) := by decide +kernel
theorem dX7_strays_38 : decode cX7_strays 38 = .ok (.ireturn, 1) := by decide +kernel
theorem dX7_strays_39 : decode cX7_strays 39 = .ok (.iload_n 2, 1) := by decide +kernel
theorem dX7_strays_40 : decode cX7_strays 40 = .ok (.invokestatic 206, 3) := by decide +kernel
theorem dX7_strays_43 : decode cX7_strays 43 = .ok (.istore 4, 2) := by decide +kernel
theorem dX7_strays_45 : decode cX7_strays 45 = .ok (.aload_n 0, 1) := by decide +kernel
theorem dX7_strays_46 : decode cX7_strays 46 = .ok (.getfield 65, 3) := by decide +kernel
theorem dX7_strays_49 : decode cX7_strays 49 = .ok (.aload_n 0, 1) := by decide +kernel
theorem dX7_strays_50 : decode cX7_strays 50 = .ok (.getfield 38, 3) := by decide +kernel
theorem dX7_strays_53 : decode cX7_strays 53 = .ok (.iload_n 1, 1) := by decide +kernel
theorem dX7_strays_54 : decode cX7_strays 54 = .ok (.iload_n 2, 1) := by decide +kernel
theorem dX7_strays_55 : decode cX7_strays 55 = .ok (.bipush (-9), 2) := by decide +kernel
theorem dX7_strays_57 : decode cX7_strays 57 = .ok (.invokevirtual 209, 3) := by decide +kernel
theorem dX7_strays_60 : decode cX7_strays 60 = .ok (.istore 5, 2) := by decide +kernel
theorem dX7_strays_62 : decode cX7_strays 62 = .ok (.iload 4, 2) := by decide +kernel
theorem dX7_strays_64 : decode cX7_strays 64 = .ok (.iload 5, 2) := by decide +kernel
theorem dX7_strays_66 : decode cX7_strays 66 = .ok (.invokestatic 213, 3) := by decide +kernel
theorem dX7_strays_69 : decode cX7_strays 69 = .ok (.istore 6, 2) := by decide +kernel
theorem dX7_strays_71 : decode cX7_strays 71 = .ok (.iload 6, 2) := by decide +kernel
theorem dX7_strays_73 : decode cX7_strays 73 = .ok (.ifCond .ne 6, 3) := by decide +kernel
theorem dX7_strays_76 : decode cX7_strays 76 = .ok (.bipush (-9), 2) := by decide +kernel
theorem dX7_strays_78 : decode cX7_strays 78 = .ok (.ireturn, 1) := by decide +kernel
theorem dX7_strays_79 : decode cX7_strays 79 = .ok (.iload_n 3, 1) := by decide +kernel
theorem dX7_strays_80 : decode cX7_strays 80 = .ok (.ifCond .eq 11, 3) := by decide +kernel
theorem dX7_strays_83 : decode cX7_strays 83 = .ok (.iload 5, 2) := by decide +kernel
theorem dX7_strays_85 : decode cX7_strays 85 = .ok (.iload 6, 2) := by decide +kernel
theorem dX7_strays_87 : decode cX7_strays 87 = .ok (.idiv, 1) := by decide +kernel
theorem dX7_strays_88 : decode cX7_strays 88 = .ok (.goto 8, 3) := by decide +kernel
theorem dX7_strays_91 : decode cX7_strays 91 = .ok (.iload 4, 2) := by decide +kernel
theorem dX7_strays_93 : decode cX7_strays 93 = .ok (.iload 6, 2) := by decide +kernel
theorem dX7_strays_95 : decode cX7_strays 95 = .ok (.idiv, 1) := by decide +kernel
theorem dX7_strays_96 : decode cX7_strays 96 = .ok (.ireturn, 1) := by decide +kernel
set_option maxRecDepth 20000 in
theorem ggX7_oneMore_X1_hasWalker : GoodIn wsX7_oneMore wsX1_hasWalker := goodIn_r _ [10, 11, 106, 107, 108, 109, 110, 111, 112, 113, 114, 115, 116, 117] (by decide +kernel) (by decide +kernel)
set_option maxRecDepth 20000 in
theorem gX7_oneMore_X1_hasWalker : GoodIn wsX7_oneMore (wsV RX7 128 RX1 yX1_hasWalker wsX1_hasWalker) := goodIn_app (goodIn_of _ (by decide +kernel)) ggX7_oneMore_X1_hasWalker
set_option maxRecDepth 20000 in
theorem ggX7_oneMore_X3_isFree : GoodIn wsX7_oneMore wsX3_isFree := goodIn_r _ [16, 17, 18, 19, 7, 8, 9, 10, 11, 118, 119, 120, 121, 122, 123, 124, 106, 107, 108, 109, 110, 111, 112, 113, 114, 115, 116, 117] (by decide +kernel) (by decide +kernel)
set_option maxRecDepth 20000 in
theorem gX7_oneMore_X3_isFree : GoodIn wsX7_oneMore (wsV RX7 137 RX3 yX3_isFree wsX3_isFree) := goodIn_app (goodIn_of _ (by decide +kernel)) ggX7_oneMore_X3_isFree
set_option maxRecDepth 20000 in
theorem ggX7_oneMore_X1_trapOn : GoodIn wsX7_oneMore wsX1_trapOn := goodIn_r _ [23, 24, 25, 106, 107, 108, 109, 110, 111, 112, 113, 114, 115, 116, 117] (by decide +kernel) (by decide +kernel)
set_option maxRecDepth 20000 in
theorem gX7_oneMore_X1_trapOn : GoodIn wsX7_oneMore (wsV RX7 219 RX1 yX1_trapOn wsX1_trapOn) := goodIn_app (goodIn_of _ (by decide +kernel)) ggX7_oneMore_X1_trapOn
set_option maxRecDepth 20000 in
theorem ggX7_oneMore_X4_chance : GoodIn wsX7_oneMore wsX4_chance := goodIn_r _ [30, 31, 32, 33, 34, 35, 36, 37, 38, 7, 8, 9, 10, 11, 39, 40, 29, 41, 42, 43, 44, 45, 46, 47, 48, 49, 50, 51, 52, 53, 54, 55, 56, 57, 58, 59, 60, 61, 62, 63, 64, 65, 66, 67, 68, 69, 70, 21, 22, 23, 24, 25, 71, 72, 73, 74, 75, 76, 77, 78, 79, 80, 81, 82, 83, 84, 85, 86, 87, 88, 89, 90, 91, 92, 93, 118, 119, 120, 121, 122, 123, 124, 125, 126, 127, 106, 107, 108, 109, 110, 111, 112, 113, 114, 115, 116, 117] (by decide +kernel) (by decide +kernel)
set_option maxRecDepth 20000 in
theorem gX7_oneMore_X4_chance : GoodIn wsX7_oneMore (wsV RX7 209 RX4 yX4_chance wsX4_chance) := goodIn_app (goodIn_of _ (by decide +kernel)) ggX7_oneMore_X4_chance
theorem dX7_oneMore_0 : decode cX7_oneMore 0 = .ok (.aload_n 0, 1) := by decide +kernel
theorem dX7_oneMore_1 : decode cX7_oneMore 1 = .ok (.getfield 32, 3) := by decide +kernel
theorem dX7_oneMore_4 : decode cX7_oneMore 4 = .ok (.iload_n 1, 1) := by decide +kernel
theorem dX7_oneMore_5 : decode cX7_oneMore 5 = .ok (.invokevirtual 128, 3) := by decide +kernel
theorem dX7_oneMore_8 : decode cX7_oneMore 8 = .ok (.ifCond .ne 5, 3) := by decide +kernel
theorem dX7_oneMore_11 : decode cX7_oneMore 11 = .ok (.iconst (-1), 1) := by decide +kernel
theorem dX7_oneMore_12 : decode cX7_oneMore 12 = .ok (.ireturn, 1) := by decide +kernel
theorem dX7_oneMore_13 : decode cX7_oneMore 13 = .ok (.iload_n 2, 1) := by decide +kernel
theorem dX7_oneMore_14 : decode cX7_oneMore 14 = .ok (.iconst 1, 1) := by decide +kernel
theorem dX7_oneMore_15 : decode cX7_oneMore 15 = .ok (.if_icmp .lt 8, 3) := by decide +kernel
theorem dX7_oneMore_18 : decode cX7_oneMore 18 = .ok (.iload_n 2, 1) := by decide +kernel
theorem dX7_oneMore_19 : decode cX7_oneMore 19 = .ok (.iconst 3, 1) := by decide +kernel
theorem dX7_oneMore_20 : decode cX7_oneMore 20 = .ok (.if_icmp .le 6, 3) := by decide +kernel
theorem dX7_oneMore_23 : decode cX7_oneMore 23 = .ok (.bipush (-2), 2) := by decide +kernel
theorem dX7_oneMore_25 : decode cX7_oneMore 25 = .ok (.ireturn, 1) := by decide +kernel
theorem dX7_oneMore_26 : decode cX7_oneMore 26 = .ok (.aload_n 0, 1) := by decide +kernel
theorem dX7_oneMore_27 : decode cX7_oneMore 27 = .ok (.getfield 38, 3) := by decide +kernel
theorem dX7_oneMore_30 : decode cX7_oneMore 30 = .ok (.iload_n 1, 1) := by decide +kernel
theorem dX7_oneMore_31 : decode cX7_oneMore 31 = .ok (.invokevirtual 137, 3) := by decide +kernel
theorem dX7_oneMore_34 : decode cX7_oneMore 34 = .ok (.ifCond .ne 6, 3) := by decide +kernel
theorem dX7_oneMore_37 : decode cX7_oneMore 37 = .ok (.bipush (-3), 2) := by decide +kernel
theorem dX7_oneMore_39 : decode cX7_oneMore 39 = .ok (.ireturn, 1) := by decide +kernel
theorem dX7_oneMore_40 : decode cX7_oneMore 40 = .ok (.aload_n 0, 1) := by decide +kernel
theorem dX7_oneMore_41 : decode cX7_oneMore 41 = .ok (.getfield 32, 3) := by decide +kernel
theorem dX7_oneMore_44 : decode cX7_oneMore 44 = .ok (.getfield 96, 3) := by decide +kernel
theorem dX7_oneMore_47 : decode cX7_oneMore 47 = .ok (.bipush 6, 2) := by decide +kernel
theorem dX7_oneMore_49 : decode cX7_oneMore 49 = .ok (.if_icmp .lt 6, 3) := by decide +kernel
theorem dX7_oneMore_52 : decode cX7_oneMore 52 = .ok (.bipush (-4), 2) := by decide +kernel
theorem dX7_oneMore_54 : decode cX7_oneMore 54 = .ok (.ireturn, 1) := by decide +kernel
theorem dX7_oneMore_55 : decode cX7_oneMore 55 = .ok (.bipush (-9), 2) := by decide +kernel
theorem dX7_oneMore_57 : decode cX7_oneMore 57 = .ok (.istore_n 3, 1) := by decide +kernel
theorem dX7_oneMore_58 : decode cX7_oneMore 58 = .ok (.iconst (-1), 1) := by decide +kernel
theorem dX7_oneMore_59 : decode cX7_oneMore 59 = .ok (.istore 4, 2) := by decide +kernel
theorem dX7_oneMore_61 : decode cX7_oneMore 61 = .ok (.iconst 0, 1) := by decide +kernel
theorem dX7_oneMore_62 : decode cX7_oneMore 62 = .ok (.istore 5, 2) := by decide +kernel
theorem dX7_oneMore_64 : decode cX7_oneMore 64 = .ok (.iload 5, 2) := by decide +kernel
theorem dX7_oneMore_66 : decode cX7_oneMore 66 = .ok (.bipush 12, 2) := by decide +kernel
theorem dX7_oneMore_68 : decode cX7_oneMore 68 = .ok (.if_icmp .ge 85, 3) := by decide +kernel
theorem dX7_oneMore_71 : decode cX7_oneMore 71 = .ok (.aload_n 0, 1) := by decide +kernel
theorem dX7_oneMore_72 : decode cX7_oneMore 72 = .ok (.getfield 32, 3) := by decide +kernel
theorem dX7_oneMore_75 : decode cX7_oneMore 75 = .ok (.getfield 216, 3) := by decide +kernel
theorem dX7_oneMore_78 : decode cX7_oneMore 78 = .ok (.iload 5, 2) := by decide +kernel
theorem dX7_oneMore_80 : decode cX7_oneMore 80 = .ok (.ishr, 1) := by decide +kernel
theorem dX7_oneMore_81 : decode cX7_oneMore 81 = .ok (.iconst 1, 1) := by decide +kernel
theorem dX7_oneMore_82 : decode cX7_oneMore 82 = .ok (.iand, 1) := by decide +kernel
theorem dX7_oneMore_83 : decode cX7_oneMore 83 = .ok (.ifCond .ne 21, 3) := by decide +kernel
theorem dX7_oneMore_86 : decode cX7_oneMore 86 = .ok (.aload_n 0, 1) := by decide +kernel
theorem dX7_oneMore_87 : decode cX7_oneMore 87 = .ok (.getfield 32, 3) := by decide +kernel
theorem dX7_oneMore_90 : decode cX7_oneMore 90 = .ok (.iload 5, 2) := by decide +kernel
theorem dX7_oneMore_92 : decode cX7_oneMore 92 = .ok (.invokevirtual 219, 3) := by decide +kernel
theorem dX7_oneMore_95 : decode cX7_oneMore 95 = .ok (.bipush (-9), 2) := by decide +kernel
theorem dX7_oneMore_97 : decode cX7_oneMore 97 = .ok (.if_icmp .ne 7, 3) := by decide +kernel
theorem dX7_oneMore_100 : decode cX7_oneMore 100 = .ok (.iconst 1, 1) := by decide +kernel
theorem dX7_oneMore_101 : decode cX7_oneMore 101 = .ok (.goto 4, 3) := by decide +kernel
theorem dX7_oneMore_104 : decode cX7_oneMore 104 = .ok (.iconst 0, 1) := by decide +kernel
theorem dX7_oneMore_105 : decode cX7_oneMore 105 = .ok (.istore 6, 2) := by decide +kernel
theorem dX7_oneMore_107 : decode cX7_oneMore 107 = .ok (.iload 6, 2) := by decide +kernel
theorem dX7_oneMore_109 : decode cX7_oneMore 109 = .ok (.ifCond .eq 21, 3) := by decide +kernel
theorem dX7_oneMore_112 : decode cX7_oneMore 112 = .ok (.aload_n 0, 1) := by decide +kernel
theorem dX7_oneMore_113 : decode cX7_oneMore 113 = .ok (.getfield 65, 3) := by decide +kernel
theorem dX7_oneMore_116 : decode cX7_oneMore 116 = .ok (.aload_n 0, 1) := by decide +kernel
theorem dX7_oneMore_117 : decode cX7_oneMore 117 = .ok (.getfield 38, 3) := by decide +kernel
theorem dX7_oneMore_120 : decode cX7_oneMore 120 = .ok (.iload_n 1, 1) := by decide +kernel
theorem dX7_oneMore_121 : decode cX7_oneMore 121 = .ok (.iload_n 2, 1) := by decide +kernel
theorem dX7_oneMore_122 : decode cX7_oneMore 122 = .ok (.iload 5, 2) := by decide +kernel
theorem dX7_oneMore_124 : decode cX7_oneMore 124 = .ok (.invokevirtual 209, 3) := by decide +kernel
theorem dX7_oneMore_127 : decode cX7_oneMore 127 = .ok (.goto 4, 3) := by decide +kernel
theorem dX7_oneMore_130 : decode cX7_oneMore 130 = .ok (.iconst (-1), 1) := by decide +kernel
theorem dX7_oneMore_131 : decode cX7_oneMore 131 = .ok (.istore 7, 2) := by decide +kernel
theorem dX7_oneMore_133 : decode cX7_oneMore 133 = .ok (.iload 7, 2) := by decide +kernel
theorem dX7_oneMore_135 : decode cX7_oneMore 135 = .ok (.iload 4, 2) := by decide +kernel
theorem dX7_oneMore_137 : decode cX7_oneMore 137 = .ok (.if_icmp .le 10, 3) := by decide +kernel
theorem dX7_oneMore_140 : decode cX7_oneMore 140 = .ok (.iload 7, 2) := by decide +kernel
theorem dX7_oneMore_142 : decode cX7_oneMore 142 = .ok (.istore 4, 2) := by decide +kernel
theorem dX7_oneMore_144 : decode cX7_oneMore 144 = .ok (.iload 5, 2) := by decide +kernel
theorem dX7_oneMore_146 : decode cX7_oneMore 146 = .ok (.istore_n 3, 1) := by decide +kernel
theorem dX7_oneMore_147 : decode cX7_oneMore 147 = .ok (.iinc 5 1, 3) := by decide +kernel
theorem dX7_oneMore_150 : decode cX7_oneMore 150 = .ok (.goto (-86), 3) := by decide +kernel
theorem dX7_oneMore_153 : decode cX7_oneMore 153 = .ok (.iload_n 3, 1) := by decide +kernel
theorem dX7_oneMore_154 : decode cX7_oneMore 154 = .ok (.ireturn, 1) := by decide +kernel
theorem dX7_seed_0 : decode cX7_seed 0 = .ok (.aload_n 0, 1) := by decide +kernel
theorem dX7_seed_1 : decode cX7_seed 1 = .ok (.getfield 77, 3) := by decide +kernel
theorem dX7_seed_4 : decode cX7_seed 4 = .ok (.lstore_n 3, 1) := by decide +kernel
theorem dX7_seed_5 : decode cX7_seed 5 = .ok (.aload_n 0, 1) := by decide +kernel
theorem dX7_seed_6 : decode cX7_seed 6 = .ok (.lload_n 1, 1) := by decide +kernel
theorem dX7_seed_7 : decode cX7_seed 7 = .ok (.putfield 77, 3) := by decide +kernel
theorem dX7_seed_10 : decode cX7_seed 10 = .ok (.lload_n 3, 1) := by decide +kernel
theorem dX7_seed_11 : decode cX7_seed 11 = .ok (.lreturn, 1) := by decide +kernel
set_option maxRecDepth 20000 in
theorem ggX7_night_X3_become : GoodIn wsX7_night wsX3_become := goodIn_r _ [8, 9, 10, 11, 12, 13, 14, 117, 118, 119, 120, 121, 122, 123] (by decide +kernel) (by decide +kernel)
set_option maxRecDepth 20000 in
theorem gX7_night_X3_become : GoodIn wsX7_night (wsV RX7 222 RX3 yX3_become wsX3_become) := goodIn_app (goodIn_of _ (by decide +kernel)) ggX7_night_X3_become
set_option maxRecDepth 20000 in
theorem ggX7_night_X1_hasWalker : GoodIn wsX7_night wsX1_hasWalker := goodIn_r _ [19, 20, 124, 125, 126, 127, 128, 129, 130, 131, 132, 133, 134, 135] (by decide +kernel) (by decide +kernel)
set_option maxRecDepth 20000 in
theorem gX7_night_X1_hasWalker : GoodIn wsX7_night (wsV RX7 128 RX1 yX1_hasWalker wsX1_hasWalker) := goodIn_app (goodIn_of _ (by decide +kernel)) ggX7_night_X1_hasWalker
set_option maxRecDepth 20000 in
theorem ggX7_night_X3_isFree : GoodIn wsX7_night wsX3_isFree := goodIn_r _ [24, 25, 14, 26, 16, 17, 18, 19, 20, 117, 118, 119, 120, 121, 122, 123, 124, 125, 126, 127, 128, 129, 130, 131, 132, 133, 134, 135] (by decide +kernel) (by decide +kernel)
set_option maxRecDepth 20000 in
theorem gX7_night_X3_isFree : GoodIn wsX7_night (wsV RX7 137 RX3 yX3_isFree wsX3_isFree) := goodIn_app (goodIn_of _ (by decide +kernel)) ggX7_night_X3_isFree
set_option maxRecDepth 20000 in
theorem ggX7_night_X7_drawStep : GoodIn wsX7_night wsX7_drawStep := goodIn_r _ [31, 3, 1, 32, 33, 34, 35, 15, 16, 17, 18, 19, 20, 36, 37, 38, 39, 40, 41, 30, 42, 43, 44, 45, 46, 47, 48, 49, 50, 51, 52, 53, 54, 55, 56, 57, 58, 59, 7, 60, 25, 13, 10, 26, 61, 62, 63, 64, 65, 66, 67, 68, 69, 70, 71, 72, 73, 74, 11, 9, 75, 76, 77, 78, 79, 80, 81, 82, 83, 84, 85, 86, 87, 88, 89, 90, 12, 91, 14, 92, 22, 23, 24, 93, 94, 95, 96, 97, 98, 99, 100, 105, 106, 107, 108, 109, 110, 111, 112, 113, 114, 115, 116, 117, 118, 119, 120, 121, 122, 123, 124, 125, 126, 127, 128, 129, 130, 131, 132, 133, 134, 135] (by decide +kernel) (by decide +kernel)
set_option maxRecDepth 20000 in
theorem gX7_night_X7_drawStep : GoodIn wsX7_night (wsV RX7 225 RX7 yX7_drawStep wsX7_drawStep) := goodIn_app (goodIn_of _ (by decide +kernel)) ggX7_night_X7_drawStep
set_option maxRecDepth 20000 in
theorem ggX7_night_X3_caught : GoodIn wsX7_night wsX3_caught := goodIn_r _ [104, 25, 91, 14, 117, 118, 119, 120, 121, 122, 123, 124, 125, 126, 127, 128, 129, 130, 131, 132, 133, 134, 135] (by decide +kernel) (by decide +kernel)
set_option maxRecDepth 20000 in
theorem gX7_night_X3_caught : GoodIn wsX7_night (wsV RX7 229 RX3 yX3_caught wsX3_caught) := goodIn_app (goodIn_of _ (by decide +kernel)) ggX7_night_X3_caught
theorem dX7_night_0 : decode cX7_night 0 = .ok (.iload_n 1, 1) := by decide +kernel
theorem dX7_night_1 : decode cX7_night 1 = .ok (.iconst 1, 1) := by decide +kernel
theorem dX7_night_2 : decode cX7_night 2 = .ok (.if_icmp .lt 9, 3) := by decide +kernel
theorem dX7_night_5 : decode cX7_night 5 = .ok (.iload_n 1, 1) := by decide +kernel
theorem dX7_night_6 : decode cX7_night 6 = .ok (.bipush 40, 2) := by decide +kernel
theorem dX7_night_8 : decode cX7_night 8 = .ok (.if_icmp .le 6, 3) := by decide +kernel
theorem dX7_night_11 : decode cX7_night 11 = .ok (.bipush (-2), 2) := by decide +kernel
theorem dX7_night_13 : decode cX7_night 13 = .ok (.ireturn, 1) := by decide +kernel
theorem dX7_night_14 : decode cX7_night 14 = .ok (.aload_n 0, 1) := by decide +kernel
theorem dX7_night_15 : decode cX7_night 15 = .ok (.getfield 45, 3) := by decide +kernel
theorem dX7_night_18 : decode cX7_night 18 = .ok (.aload_n 0, 1) := by decide +kernel
theorem dX7_night_19 : decode cX7_night 19 = .ok (.getfield 38, 3) := by decide +kernel
theorem dX7_night_22 : decode cX7_night 22 = .ok (.invokevirtual 222, 3) := by decide +kernel
theorem dX7_night_25 : decode cX7_night 25 = .ok (.iconst 0, 1) := by decide +kernel
theorem dX7_night_26 : decode cX7_night 26 = .ok (.istore_n 2, 1) := by decide +kernel
theorem dX7_night_27 : decode cX7_night 27 = .ok (.iload_n 2, 1) := by decide +kernel
theorem dX7_night_28 : decode cX7_night 28 = .ok (.iload_n 1, 1) := by decide +kernel
theorem dX7_night_29 : decode cX7_night 29 = .ok (.if_icmp .ge 49, 3) := by decide +kernel
theorem dX7_night_32 : decode cX7_night 32 = .ok (.iconst 0, 1) := by decide +kernel
theorem dX7_night_33 : decode cX7_night 33 = .ok (.istore_n 3, 1) := by decide +kernel
theorem dX7_night_34 : decode cX7_night 34 = .ok (.iload_n 3, 1) := by decide +kernel
theorem dX7_night_35 : decode cX7_night 35 = .ok (.iconst 4, 1) := by decide +kernel
theorem dX7_night_36 : decode cX7_night 36 = .ok (.if_icmp .ge 36, 3) := by decide +kernel
theorem dX7_night_39 : decode cX7_night 39 = .ok (.aload_n 0, 1) := by decide +kernel
theorem dX7_night_40 : decode cX7_night 40 = .ok (.getfield 32, 3) := by decide +kernel
theorem dX7_night_43 : decode cX7_night 43 = .ok (.iload_n 3, 1) := by decide +kernel
theorem dX7_night_44 : decode cX7_night 44 = .ok (.invokevirtual 128, 3) := by decide +kernel
theorem dX7_night_47 : decode cX7_night 47 = .ok (.ifCond .eq 19, 3) := by decide +kernel
theorem dX7_night_50 : decode cX7_night 50 = .ok (.aload_n 0, 1) := by decide +kernel
theorem dX7_night_51 : decode cX7_night 51 = .ok (.getfield 45, 3) := by decide +kernel
theorem dX7_night_54 : decode cX7_night 54 = .ok (.iload_n 3, 1) := by decide +kernel
theorem dX7_night_55 : decode cX7_night 55 = .ok (.invokevirtual 137, 3) := by decide +kernel
theorem dX7_night_58 : decode cX7_night 58 = .ok (.ifCond .eq 8, 3) := by decide +kernel
theorem dX7_night_61 : decode cX7_night 61 = .ok (.aload_n 0, 1) := by decide +kernel
theorem dX7_night_62 : decode cX7_night 62 = .ok (.iload_n 3, 1) := by decide +kernel
theorem dX7_night_63 : decode cX7_night 63 = .ok (.invokevirtual 225, 3) := by decide +kernel
theorem dX7_night_66 : decode cX7_night 66 = .ok (.iinc 3 1, 3) := by decide +kernel
theorem dX7_night_69 : decode cX7_night 69 = .ok (.goto (-35), 3) := by decide +kernel
theorem dX7_night_72 : decode cX7_night 72 = .ok (.iinc 2 1, 3) := by decide +kernel
theorem dX7_night_75 : decode cX7_night 75 = .ok (.goto (-48), 3) := by decide +kernel
theorem dX7_night_78 : decode cX7_night 78 = .ok (.aload_n 0, 1) := by decide +kernel
theorem dX7_night_79 : decode cX7_night 79 = .ok (.getfield 45, 3) := by decide +kernel
theorem dX7_night_82 : decode cX7_night 82 = .ok (.invokevirtual 229, 3) := by decide +kernel
theorem dX7_night_85 : decode cX7_night 85 = .ok (.ireturn, 1) := by decide +kernel
set_option maxRecDepth 20000 in
theorem ggX7_keep_X7_isSlot : GoodIn wsX7_keep wsX7_isSlot := goodIn_r _ [7] (by decide +kernel) (by decide +kernel)
set_option maxRecDepth 20000 in
theorem gX7_keep_X7_isSlot : GoodIn wsX7_keep (va_wsS RX7 232 yX7_isSlot wsX7_isSlot) := goodIn_app (goodIn_of _ (by decide +kernel)) ggX7_keep_X7_isSlot
set_option maxRecDepth 20000 in
theorem ggX7_keep_X3_become : GoodIn wsX7_keep wsX3_become := goodIn_r _ [12, 13, 14, 15, 16, 17, 18, 50, 51, 52, 53, 54, 55, 56] (by decide +kernel) (by decide +kernel)
set_option maxRecDepth 20000 in
theorem gX7_keep_X3_become : GoodIn wsX7_keep (wsV RX7 222 RX3 yX3_become wsX3_become) := goodIn_app (goodIn_of _ (by decide +kernel)) ggX7_keep_X3_become
set_option maxRecDepth 20000 in
theorem ggX7_keep_X7_freeWalkers : GoodIn wsX7_keep wsX7_freeWalkers := goodIn_r _ [22, 23, 24, 2, 25, 26, 27, 11, 28, 29, 30, 18, 31, 32, 33, 34, 35, 36, 37, 38, 39, 40, 41, 42, 43, 44, 45, 46, 47, 48, 49, 57, 58, 59, 60, 61, 62, 63, 64, 65, 66, 67, 68, 50, 51, 52, 53, 54, 55, 56] (by decide +kernel) (by decide +kernel)
set_option maxRecDepth 20000 in
theorem gX7_keep_X7_freeWalkers : GoodIn wsX7_keep (wsV RX7 235 RX7 yX7_freeWalkers wsX7_freeWalkers) := goodIn_app (goodIn_of _ (by decide +kernel)) ggX7_keep_X7_freeWalkers
theorem dX7_keep_0 : decode cX7_keep 0 = .ok (.iload_n 1, 1) := by decide +kernel
theorem dX7_keep_1 : decode cX7_keep 1 = .ok (.invokestatic 232, 3) := by decide +kernel
theorem dX7_keep_4 : decode cX7_keep 4 = .ok (.ifCond .ne 5, 3) := by decide +kernel
theorem dX7_keep_7 : decode cX7_keep 7 = .ok (.iconst (-1), 1) := by decide +kernel
theorem dX7_keep_8 : decode cX7_keep 8 = .ok (.ireturn, 1) := by decide +kernel
theorem dX7_keep_9 : decode cX7_keep 9 = .ok (.aload_n 0, 1) := by decide +kernel
theorem dX7_keep_10 : decode cX7_keep 10 = .ok (.getfield 69, 3) := by decide +kernel
theorem dX7_keep_13 : decode cX7_keep 13 = .ok (.iload_n 1, 1) := by decide +kernel
theorem dX7_keep_14 : decode cX7_keep 14 = .ok (.aaload, 1) := by decide +kernel
theorem dX7_keep_15 : decode cX7_keep 15 = .ok (.astore_n 2, 1) := by decide +kernel
theorem dX7_keep_16 : decode cX7_keep 16 = .ok (.aload_n 2, 1) := by decide +kernel
theorem dX7_keep_17 : decode cX7_keep 17 = .ok (.ifnull 18, 3) := by decide +kernel
theorem dX7_keep_20 : decode cX7_keep 20 = .ok (.aload_n 2, 1) := by decide +kernel
theorem dX7_keep_21 : decode cX7_keep 21 = .ok (.aload_n 0, 1) := by decide +kernel
theorem dX7_keep_22 : decode cX7_keep 22 = .ok (.getfield 38, 3) := by decide +kernel
theorem dX7_keep_25 : decode cX7_keep 25 = .ok (.invokevirtual 222, 3) := by decide +kernel
theorem dX7_keep_28 : decode cX7_keep 28 = .ok (.aload_n 0, 1) := by decide +kernel
theorem dX7_keep_29 : decode cX7_keep 29 = .ok (.getfield 73, 3) := by decide +kernel
theorem dX7_keep_32 : decode cX7_keep 32 = .ok (.iload_n 1, 1) := by decide +kernel
theorem dX7_keep_33 : decode cX7_keep 33 = .ok (.iconst 1, 1) := by decide +kernel
theorem dX7_keep_34 : decode cX7_keep 34 = .ok (.bastore, 1) := by decide +kernel
theorem dX7_keep_35 : decode cX7_keep 35 = .ok (.aload_n 0, 1) := by decide +kernel
theorem dX7_keep_36 : decode cX7_keep 36 = .ok (.invokevirtual 235, 3) := by decide +kernel
theorem dX7_keep_39 : decode cX7_keep 39 = .ok (.ireturn, 1) := by decide +kernel
set_option maxRecDepth 20000 in
theorem ggX7_again_X7_isSlot : GoodIn wsX7_again wsX7_isSlot := goodIn_r _ [8] (by decide +kernel) (by decide +kernel)
set_option maxRecDepth 20000 in
theorem gX7_again_X7_isSlot : GoodIn wsX7_again (va_wsS RX7 232 yX7_isSlot wsX7_isSlot) := goodIn_app (goodIn_of _ (by decide +kernel)) ggX7_again_X7_isSlot
set_option maxRecDepth 20000 in
theorem ggX7_again_X3_become : GoodIn wsX7_again wsX3_become := goodIn_r _ [13, 14, 15, 16, 17, 18, 19, 57, 58, 59, 60, 61, 62, 63] (by decide +kernel) (by decide +kernel)
set_option maxRecDepth 20000 in
theorem gX7_again_X3_become : GoodIn wsX7_again (wsV RX7 222 RX3 yX3_become wsX3_become) := goodIn_app (goodIn_of _ (by decide +kernel)) ggX7_again_X3_become
set_option maxRecDepth 20000 in
theorem ggX7_again_X0_forget : GoodIn wsX7_again wsX0_forget := goodIn_r _ [24, 25, 64, 65, 66] (by decide +kernel) (by decide +kernel)
set_option maxRecDepth 20000 in
theorem gX7_again_X0_forget : GoodIn wsX7_again (wsV RX7 93 RX0 yX0_forget wsX0_forget) := goodIn_app (goodIn_of _ (by decide +kernel)) ggX7_again_X0_forget
set_option maxRecDepth 20000 in
theorem ggX7_again_X7_freeWalkers : GoodIn wsX7_again wsX7_freeWalkers := goodIn_r _ [29, 30, 31, 2, 32, 33, 34, 12, 35, 36, 37, 19, 38, 39, 40, 41, 42, 43, 44, 45, 46, 47, 48, 49, 50, 51, 52, 53, 54, 55, 56, 67, 68, 69, 70, 71, 72, 73, 74, 75, 76, 77, 78, 57, 58, 59, 60, 61, 62, 63] (by decide +kernel) (by decide +kernel)
set_option maxRecDepth 20000 in
theorem gX7_again_X7_freeWalkers : GoodIn wsX7_again (wsV RX7 235 RX7 yX7_freeWalkers wsX7_freeWalkers) := goodIn_app (goodIn_of _ (by decide +kernel)) ggX7_again_X7_freeWalkers
theorem dX7_again_0 : decode cX7_again 0 = .ok (.iload_n 1, 1) := by decide +kernel
theorem dX7_again_1 : decode cX7_again 1 = .ok (.invokestatic 232, 3) := by decide +kernel
theorem dX7_again_4 : decode cX7_again 4 = .ok (.ifCond .ne 5, 3) := by decide +kernel
theorem dX7_again_7 : decode cX7_again 7 = .ok (.iconst (-1), 1) := by decide +kernel
theorem dX7_again_8 : decode cX7_again 8 = .ok (.ireturn, 1) := by decide +kernel
theorem dX7_again_9 : decode cX7_again 9 = .ok (.aload_n 0, 1) := by decide +kernel
theorem dX7_again_10 : decode cX7_again 10 = .ok (.getfield 73, 3) := by decide +kernel
theorem dX7_again_13 : decode cX7_again 13 = .ok (.iload_n 1, 1) := by decide +kernel
theorem dX7_again_14 : decode cX7_again 14 = .ok (.baload, 1) := by decide +kernel
theorem dX7_again_15 : decode cX7_again 15 = .ok (.ifCond .ne 6, 3) := by decide +kernel
theorem dX7_again_18 : decode cX7_again 18 = .ok (.bipush (-3), 2) := by decide +kernel
theorem dX7_again_20 : decode cX7_again 20 = .ok (.ireturn, 1) := by decide +kernel
theorem dX7_again_21 : decode cX7_again 21 = .ok (.aload_n 0, 1) := by decide +kernel
theorem dX7_again_22 : decode cX7_again 22 = .ok (.getfield 38, 3) := by decide +kernel
theorem dX7_again_25 : decode cX7_again 25 = .ok (.aload_n 0, 1) := by decide +kernel
theorem dX7_again_26 : decode cX7_again 26 = .ok (.getfield 69, 3) := by decide +kernel
theorem dX7_again_29 : decode cX7_again 29 = .ok (.iload_n 1, 1) := by decide +kernel
theorem dX7_again_30 : decode cX7_again 30 = .ok (.aaload, 1) := by decide +kernel
theorem dX7_again_31 : decode cX7_again 31 = .ok (.invokevirtual 222, 3) := by decide +kernel
theorem dX7_again_34 : decode cX7_again 34 = .ok (.aload_n 0, 1) := by decide +kernel
theorem dX7_again_35 : decode cX7_again 35 = .ok (.getfield 51, 3) := by decide +kernel
theorem dX7_again_38 : decode cX7_again 38 = .ok (.invokevirtual 93, 3) := by decide +kernel
theorem dX7_again_41 : decode cX7_again 41 = .ok (.aload_n 0, 1) := by decide +kernel
theorem dX7_again_42 : decode cX7_again 42 = .ok (.invokevirtual 235, 3) := by decide +kernel
theorem dX7_again_45 : decode cX7_again 45 = .ok (.ireturn, 1) := by decide +kernel
set_option maxRecDepth 20000 in
theorem ggX7_count_X3_caught : GoodIn wsX7_count wsX3_caught := goodIn_r _ [17, 18, 19, 20, 47, 48, 49, 50, 51, 52, 53, 35, 36, 37, 38, 39, 40, 41, 42, 43, 44, 45, 46] (by decide +kernel) (by decide +kernel)
set_option maxRecDepth 20000 in
theorem gX7_count_X3_caught : GoodIn wsX7_count (wsV RX7 229 RX3 yX3_caught wsX3_caught) := goodIn_app (goodIn_of _ (by decide +kernel)) ggX7_count_X3_caught
theorem dX7_count_0 : decode cX7_count 0 = .ok (.iload_n 1, 1) := by decide +kernel
theorem dX7_count_1 : decode cX7_count 1 = .ok (.tableswitch 147 0 9 #[55, 63, 71, 79, 87, 95, 105, 115, 123, 131], 55) := by decide +kernel
theorem dX7_count_56 : decode cX7_count 56 = .ok (.aload_n 0, 1) := by decide +kernel
theorem dX7_count_57 : decode cX7_count 57 = .ok (.getfield 10, 3) := by decide +kernel
theorem dX7_count_60 : decode cX7_count 60 = .ok (.getfield 81, 3) := by decide +kernel
theorem dX7_count_63 : decode cX7_count 63 = .ok (.ireturn, 1) := by decide +kernel
theorem dX7_count_64 : decode cX7_count 64 = .ok (.aload_n 0, 1) := by decide +kernel
theorem dX7_count_65 : decode cX7_count 65 = .ok (.getfield 32, 3) := by decide +kernel
theorem dX7_count_68 : decode cX7_count 68 = .ok (.getfield 96, 3) := by decide +kernel
theorem dX7_count_71 : decode cX7_count 71 = .ok (.ireturn, 1) := by decide +kernel
theorem dX7_count_72 : decode cX7_count 72 = .ok (.aload_n 0, 1) := by decide +kernel
theorem dX7_count_73 : decode cX7_count 73 = .ok (.getfield 32, 3) := by decide +kernel
theorem dX7_count_76 : decode cX7_count 76 = .ok (.getfield 99, 3) := by decide +kernel
theorem dX7_count_79 : decode cX7_count 79 = .ok (.ireturn, 1) := by decide +kernel
theorem dX7_count_80 : decode cX7_count 80 = .ok (.aload_n 0, 1) := by decide +kernel
theorem dX7_count_81 : decode cX7_count 81 = .ok (.getfield 38, 3) := by decide +kernel
theorem dX7_count_84 : decode cX7_count 84 = .ok (.getfield 119, 3) := by decide +kernel
theorem dX7_count_87 : decode cX7_count 87 = .ok (.ireturn, 1) := by decide +kernel
theorem dX7_count_88 : decode cX7_count 88 = .ok (.aload_n 0, 1) := by decide +kernel
theorem dX7_count_89 : decode cX7_count 89 = .ok (.getfield 38, 3) := by decide +kernel
theorem dX7_count_92 : decode cX7_count 92 = .ok (.invokevirtual 229, 3) := by decide +kernel
theorem dX7_count_95 : decode cX7_count 95 = .ok (.ireturn, 1) := by decide +kernel
theorem dX7_count_96 : decode cX7_count 96 = .ok (.aload_n 0, 1) := by decide +kernel
theorem dX7_count_97 : decode cX7_count 97 = .ok (.getfield 38, 3) := by decide +kernel
theorem dX7_count_100 : decode cX7_count 100 = .ok (.getfield 125, 3) := by decide +kernel
theorem dX7_count_103 : decode cX7_count 103 = .ok (.iconst 0, 1) := by decide +kernel
theorem dX7_count_104 : decode cX7_count 104 = .ok (.iaload, 1) := by decide +kernel
theorem dX7_count_105 : decode cX7_count 105 = .ok (.ireturn, 1) := by decide +kernel
theorem dX7_count_106 : decode cX7_count 106 = .ok (.aload_n 0, 1) := by decide +kernel
theorem dX7_count_107 : decode cX7_count 107 = .ok (.getfield 38, 3) := by decide +kernel
theorem dX7_count_110 : decode cX7_count 110 = .ok (.getfield 125, 3) := by decide +kernel
theorem dX7_count_113 : decode cX7_count 113 = .ok (.iconst 1, 1) := by decide +kernel
theorem dX7_count_114 : decode cX7_count 114 = .ok (.iaload, 1) := by decide +kernel
theorem dX7_count_115 : decode cX7_count 115 = .ok (.ireturn, 1) := by decide +kernel
theorem dX7_count_116 : decode cX7_count 116 = .ok (.aload_n 0, 1) := by decide +kernel
theorem dX7_count_117 : decode cX7_count 117 = .ok (.getfield 32, 3) := by decide +kernel
theorem dX7_count_120 : decode cX7_count 120 = .ok (.getfield 216, 3) := by decide +kernel
theorem dX7_count_123 : decode cX7_count 123 = .ok (.ireturn, 1) := by decide +kernel
theorem dX7_count_124 : decode cX7_count 124 = .ok (.aload_n 0, 1) := by decide +kernel
theorem dX7_count_125 : decode cX7_count 125 = .ok (.getfield 51, 3) := by decide +kernel
theorem dX7_count_128 : decode cX7_count 128 = .ok (.getfield 168, 3) := by decide +kernel
theorem dX7_count_131 : decode cX7_count 131 = .ok (.ireturn, 1) := by decide +kernel
theorem dX7_count_132 : decode cX7_count 132 = .ok (.aload_n 0, 1) := by decide +kernel
theorem dX7_count_133 : decode cX7_count 133 = .ok (.getfield 38, 3) := by decide +kernel
theorem dX7_count_136 : decode cX7_count 136 = .ok (.getfield 150, 3) := by decide +kernel
theorem dX7_count_139 : decode cX7_count 139 = .ok (.ifCond .eq 7, 3) := by decide +kernel
theorem dX7_count_142 : decode cX7_count 142 = .ok (.iconst 1, 1) := by decide +kernel
theorem dX7_count_143 : decode cX7_count 143 = .ok (.goto 4, 3) := by decide +kernel
theorem dX7_count_146 : decode cX7_count 146 = .ok (.iconst 0, 1) := by decide +kernel
theorem dX7_count_147 : decode cX7_count 147 = .ok (.ireturn, 1) := by decide +kernel
theorem dX7_count_148 : decode cX7_count 148 = .ok (.bipush (-2), 2) := by decide +kernel
theorem dX7_count_150 : decode cX7_count 150 = .ok (.ireturn, 1) := by decide +kernel
theorem dX7_isCell_0 : decode cX7_isCell 0 = .ok (.iload_n 0, 1) := by decide +kernel
theorem dX7_isCell_1 : decode cX7_isCell 1 = .ok (.ifCond .lt 13, 3) := by decide +kernel
theorem dX7_isCell_4 : decode cX7_isCell 4 = .ok (.iload_n 0, 1) := by decide +kernel
theorem dX7_isCell_5 : decode cX7_isCell 5 = .ok (.bipush 12, 2) := by decide +kernel
theorem dX7_isCell_7 : decode cX7_isCell 7 = .ok (.if_icmp .ge 7, 3) := by decide +kernel
theorem dX7_isCell_10 : decode cX7_isCell 10 = .ok (.iconst 1, 1) := by decide +kernel
theorem dX7_isCell_11 : decode cX7_isCell 11 = .ok (.goto 4, 3) := by decide +kernel
theorem dX7_isCell_14 : decode cX7_isCell 14 = .ok (.iconst 0, 1) := by decide +kernel
theorem dX7_isCell_15 : decode cX7_isCell 15 = .ok (.ireturn, 1) := by decide +kernel
theorem dX7_isSide_0 : decode cX7_isSide 0 = .ok (.iload_n 0, 1) := by decide +kernel
theorem dX7_isSide_1 : decode cX7_isSide 1 = .ok (.ifCond .lt 12, 3) := by decide +kernel
theorem dX7_isSide_4 : decode cX7_isSide 4 = .ok (.iload_n 0, 1) := by decide +kernel
theorem dX7_isSide_5 : decode cX7_isSide 5 = .ok (.iconst 2, 1) := by decide +kernel
theorem dX7_isSide_6 : decode cX7_isSide 6 = .ok (.if_icmp .ge 7, 3) := by decide +kernel
theorem dX7_isSide_9 : decode cX7_isSide 9 = .ok (.iconst 1, 1) := by decide +kernel
theorem dX7_isSide_10 : decode cX7_isSide 10 = .ok (.goto 4, 3) := by decide +kernel
theorem dX7_isSide_13 : decode cX7_isSide 13 = .ok (.iconst 0, 1) := by decide +kernel
theorem dX7_isSide_14 : decode cX7_isSide 14 = .ok (.ireturn, 1) := by decide +kernel
theorem dX7_isSlot_0 : decode cX7_isSlot 0 = .ok (.iload_n 0, 1) := by decide +kernel
theorem dX7_isSlot_1 : decode cX7_isSlot 1 = .ok (.ifCond .lt 12, 3) := by decide +kernel
theorem dX7_isSlot_4 : decode cX7_isSlot 4 = .ok (.iload_n 0, 1) := by decide +kernel
theorem dX7_isSlot_5 : decode cX7_isSlot 5 = .ok (.iconst 2, 1) := by decide +kernel
theorem dX7_isSlot_6 : decode cX7_isSlot 6 = .ok (.if_icmp .ge 7, 3) := by decide +kernel
theorem dX7_isSlot_9 : decode cX7_isSlot 9 = .ok (.iconst 1, 1) := by decide +kernel
theorem dX7_isSlot_10 : decode cX7_isSlot 10 = .ok (.goto 4, 3) := by decide +kernel
theorem dX7_isSlot_13 : decode cX7_isSlot 13 = .ok (.iconst 0, 1) := by decide +kernel
theorem dX7_isSlot_14 : decode cX7_isSlot 14 = .ok (.ireturn, 1) := by decide +kernel
set_option maxRecDepth 20000 in
theorem ggX7_neighbours_X7_isCell : GoodIn wsX7_neighbours wsX7_isCell := goodIn_r _ [5] (by decide +kernel) (by decide +kernel)
set_option maxRecDepth 20000 in
theorem gX7_neighbours_X7_isCell : GoodIn wsX7_neighbours (va_wsS RX7 143 yX7_isCell wsX7_isCell) := goodIn_app (goodIn_of _ (by decide +kernel)) ggX7_neighbours_X7_isCell
theorem dX7_neighbours_0 : decode cX7_neighbours 0 = .ok (.iload_n 0, 1) := by decide +kernel
theorem dX7_neighbours_1 : decode cX7_neighbours 1 = .ok (.invokestatic 143, 3) := by decide +kernel
theorem dX7_neighbours_4 : decode cX7_neighbours 4 = .ok (.ifCond .eq 11, 3) := by decide +kernel
theorem dX7_neighbours_7 : decode cX7_neighbours 7 = .ok (.getstatic 238, 3) := by decide +kernel
theorem dX7_neighbours_10 : decode cX7_neighbours 10 = .ok (.iload_n 0, 1) := by decide +kernel
theorem dX7_neighbours_11 : decode cX7_neighbours 11 = .ok (.iaload, 1) := by decide +kernel
theorem dX7_neighbours_12 : decode cX7_neighbours 12 = .ok (.goto 4, 3) := by decide +kernel
theorem dX7_neighbours_15 : decode cX7_neighbours 15 = .ok (.iconst 0, 1) := by decide +kernel
theorem dX7_neighbours_16 : decode cX7_neighbours 16 = .ok (.ireturn, 1) := by decide +kernel
theorem dX7_greatestDivisor_0 : decode cX7_greatestDivisor 0 = .ok (.iload_n 0, 1) := by decide +kernel
theorem dX7_greatestDivisor_1 : decode cX7_greatestDivisor 1 = .ok (.istore_n 2, 1) := by decide +kernel
theorem dX7_greatestDivisor_2 : decode cX7_greatestDivisor 2 = .ok (.iload_n 1, 1) := by decide +kernel
theorem dX7_greatestDivisor_3 : decode cX7_greatestDivisor 3 = .ok (.istore_n 3, 1) := by decide +kernel
theorem dX7_greatestDivisor_4 : decode cX7_greatestDivisor 4 = .ok (.iconst 0, 1) := by decide +kernel
theorem dX7_greatestDivisor_5 : decode cX7_greatestDivisor 5 = .ok (.istore 4, 2) := by decide +kernel
theorem dX7_greatestDivisor_7 : decode cX7_greatestDivisor 7 = .ok (.iload 4, 2) := by decide +kernel
theorem dX7_greatestDivisor_9 : decode cX7_greatestDivisor 9 = .ok (.bipush 100, 2) := by decide +kernel
theorem dX7_greatestDivisor_11 : decode cX7_greatestDivisor 11 = .ok (.if_icmp .ge 23, 3) := by decide +kernel
theorem dX7_greatestDivisor_14 : decode cX7_greatestDivisor 14 = .ok (.iload_n 3, 1) := by decide +kernel
theorem dX7_greatestDivisor_15 : decode cX7_greatestDivisor 15 = .ok (.ifCond .eq 19, 3) := by decide +kernel
theorem dX7_greatestDivisor_18 : decode cX7_greatestDivisor 18 = .ok (.iload_n 2, 1) := by decide +kernel
theorem dX7_greatestDivisor_19 : decode cX7_greatestDivisor 19 = .ok (.iload_n 3, 1) := by decide +kernel
theorem dX7_greatestDivisor_20 : decode cX7_greatestDivisor 20 = .ok (.irem, 1) := by decide +kernel
theorem dX7_greatestDivisor_21 : decode cX7_greatestDivisor 21 = .ok (.istore 5, 2) := by decide +kernel
theorem dX7_greatestDivisor_23 : decode cX7_greatestDivisor 23 = .ok (.iload_n 3, 1) := by decide +kernel
theorem dX7_greatestDivisor_24 : decode cX7_greatestDivisor 24 = .ok (.istore_n 2, 1) := by decide +kernel
theorem dX7_greatestDivisor_25 : decode cX7_greatestDivisor 25 = .ok (.iload 5, 2) := by decide +kernel
theorem dX7_greatestDivisor_27 : decode cX7_greatestDivisor 27 = .ok (.istore_n 3, 1) := by decide +kernel
theorem dX7_greatestDivisor_28 : decode cX7_greatestDivisor 28 = .ok (.iinc 4 1, 3) := by decide +kernel
theorem dX7_greatestDivisor_31 : decode cX7_greatestDivisor 31 = .ok (.goto (-24), 3) := by decide +kernel
theorem dX7_greatestDivisor_34 : decode cX7_greatestDivisor 34 = .ok (.iload_n 2, 1) := by decide +kernel
theorem dX7_greatestDivisor_35 : decode cX7_greatestDivisor 35 = .ok (.ireturn, 1) := by decide +kernel
theorem dX7_bitAt_0 : decode cX7_bitAt 0 = .ok (.iload_n 1, 1) := by decide +kernel
theorem dX7_bitAt_1 : decode cX7_bitAt 1 = .ok (.istore_n 2, 1) := by decide +kernel
theorem dX7_bitAt_2 : decode cX7_bitAt 2 = .ok (.iconst 0, 1) := by decide +kernel
theorem dX7_bitAt_3 : decode cX7_bitAt 3 = .ok (.istore_n 3, 1) := by decide +kernel
theorem dX7_bitAt_4 : decode cX7_bitAt 4 = .ok (.iload_n 3, 1) := by decide +kernel
theorem dX7_bitAt_5 : decode cX7_bitAt 5 = .ok (.bipush 12, 2) := by decide +kernel
theorem dX7_bitAt_7 : decode cX7_bitAt 7 = .ok (.if_icmp .ge 26, 3) := by decide +kernel
theorem dX7_bitAt_10 : decode cX7_bitAt 10 = .ok (.iload_n 0, 1) := by decide +kernel
theorem dX7_bitAt_11 : decode cX7_bitAt 11 = .ok (.iload_n 3, 1) := by decide +kernel
theorem dX7_bitAt_12 : decode cX7_bitAt 12 = .ok (.ishr, 1) := by decide +kernel
theorem dX7_bitAt_13 : decode cX7_bitAt 13 = .ok (.iconst 1, 1) := by decide +kernel
theorem dX7_bitAt_14 : decode cX7_bitAt 14 = .ok (.iand, 1) := by decide +kernel
theorem dX7_bitAt_15 : decode cX7_bitAt 15 = .ok (.ifCond .eq 12, 3) := by decide +kernel
theorem dX7_bitAt_18 : decode cX7_bitAt 18 = .ok (.iload_n 2, 1) := by decide +kernel
theorem dX7_bitAt_19 : decode cX7_bitAt 19 = .ok (.ifCond .ne 5, 3) := by decide +kernel
theorem dX7_bitAt_22 : decode cX7_bitAt 22 = .ok (.iload_n 3, 1) := by decide +kernel
theorem dX7_bitAt_23 : decode cX7_bitAt 23 = .ok (.ireturn, 1) := by decide +kernel
theorem dX7_bitAt_24 : decode cX7_bitAt 24 = .ok (.iinc 2 (-1), 3) := by decide +kernel
theorem dX7_bitAt_27 : decode cX7_bitAt 27 = .ok (.iinc 3 1, 3) := by decide +kernel
theorem dX7_bitAt_30 : decode cX7_bitAt 30 = .ok (.goto (-26), 3) := by decide +kernel
theorem dX7_bitAt_33 : decode cX7_bitAt 33 = .ok (.bipush (-9), 2) := by decide +kernel
theorem dX7_bitAt_35 : decode cX7_bitAt 35 = .ok (.ireturn, 1) := by decide +kernel
set_option maxRecDepth 20000 in
theorem ggX7_unknownFrom_X7_isSide : GoodIn wsX7_unknownFrom wsX7_isSide := goodIn_r _ [7] (by decide +kernel) (by decide +kernel)
set_option maxRecDepth 20000 in
theorem gX7_unknownFrom_X7_isSide : GoodIn wsX7_unknownFrom (va_wsS RX7 162 yX7_isSide wsX7_isSide) := goodIn_app (goodIn_of _ (by decide +kernel)) ggX7_unknownFrom_X7_isSide
set_option maxRecDepth 20000 in
theorem ggX7_unknownFrom_X7_isCell : GoodIn wsX7_unknownFrom wsX7_isCell := goodIn_r _ [10] (by decide +kernel) (by decide +kernel)
set_option maxRecDepth 20000 in
theorem gX7_unknownFrom_X7_isCell : GoodIn wsX7_unknownFrom (va_wsS RX7 143 yX7_isCell wsX7_isCell) := goodIn_app (goodIn_of _ (by decide +kernel)) ggX7_unknownFrom_X7_isCell
set_option maxRecDepth 20000 in
theorem ggX7_unknownFrom_X7_neighbours : GoodIn wsX7_unknownFrom wsX7_neighbours := goodIn_r _ [13, 14, 8, 9, 6, 10] (by decide +kernel) (by decide +kernel)
set_option maxRecDepth 20000 in
theorem gX7_unknownFrom_X7_neighbours : GoodIn wsX7_unknownFrom (va_wsS RX7 241 yX7_neighbours wsX7_neighbours) := goodIn_app (goodIn_of _ (by decide +kernel)) ggX7_unknownFrom_X7_neighbours
set_option maxRecDepth 20000 in
theorem ggX7_unknownFrom_X1_trapsOn : GoodIn wsX7_unknownFrom wsX1_trapsOn := goodIn_r _ [19, 20, 21, 41, 42, 43, 44, 45, 46, 47, 48, 49, 50, 51, 52] (by decide +kernel) (by decide +kernel)
set_option maxRecDepth 20000 in
theorem gX7_unknownFrom_X1_trapsOn : GoodIn wsX7_unknownFrom (wsV RX7 244 RX1 yX1_trapsOn wsX1_trapsOn) := goodIn_app (goodIn_of _ (by decide +kernel)) ggX7_unknownFrom_X1_trapsOn
theorem dX7_unknownFrom_0 : decode cX7_unknownFrom 0 = .ok (.iload_n 1, 1) := by decide +kernel
theorem dX7_unknownFrom_1 : decode cX7_unknownFrom 1 = .ok (.invokestatic 162, 3) := by decide +kernel
theorem dX7_unknownFrom_4 : decode cX7_unknownFrom 4 = .ok (.ifCond .eq 10, 3) := by decide +kernel
theorem dX7_unknownFrom_7 : decode cX7_unknownFrom 7 = .ok (.iload_n 2, 1) := by decide +kernel
theorem dX7_unknownFrom_8 : decode cX7_unknownFrom 8 = .ok (.invokestatic 143, 3) := by decide +kernel
theorem dX7_unknownFrom_11 : decode cX7_unknownFrom 11 = .ok (.ifCond .ne 5, 3) := by decide +kernel
theorem dX7_unknownFrom_14 : decode cX7_unknownFrom 14 = .ok (.iconst 0, 1) := by decide +kernel
theorem dX7_unknownFrom_15 : decode cX7_unknownFrom 15 = .ok (.ireturn, 1) := by decide +kernel
theorem dX7_unknownFrom_16 : decode cX7_unknownFrom 16 = .ok (.aload_n 0, 1) := by decide +kernel
theorem dX7_unknownFrom_17 : decode cX7_unknownFrom 17 = .ok (.getfield 32, 3) := by decide +kernel
theorem dX7_unknownFrom_20 : decode cX7_unknownFrom 20 = .ok (.iload_n 2, 1) := by decide +kernel
theorem dX7_unknownFrom_21 : decode cX7_unknownFrom 21 = .ok (.invokestatic 241, 3) := by decide +kernel
theorem dX7_unknownFrom_24 : decode cX7_unknownFrom 24 = .ok (.iconst 1, 1) := by decide +kernel
theorem dX7_unknownFrom_25 : decode cX7_unknownFrom 25 = .ok (.iload_n 2, 1) := by decide +kernel
theorem dX7_unknownFrom_26 : decode cX7_unknownFrom 26 = .ok (.ishl, 1) := by decide +kernel
theorem dX7_unknownFrom_27 : decode cX7_unknownFrom 27 = .ok (.ior, 1) := by decide +kernel
theorem dX7_unknownFrom_28 : decode cX7_unknownFrom 28 = .ok (.invokevirtual 244, 3) := by decide +kernel
theorem dX7_unknownFrom_31 : decode cX7_unknownFrom 31 = .ok (.aload_n 0, 1) := by decide +kernel
theorem dX7_unknownFrom_32 : decode cX7_unknownFrom 32 = .ok (.getfield 38, 3) := by decide +kernel
theorem dX7_unknownFrom_35 : decode cX7_unknownFrom 35 = .ok (.getfield 125, 3) := by decide +kernel
theorem dX7_unknownFrom_38 : decode cX7_unknownFrom 38 = .ok (.iload_n 1, 1) := by decide +kernel
theorem dX7_unknownFrom_39 : decode cX7_unknownFrom 39 = .ok (.iaload, 1) := by decide +kernel
theorem dX7_unknownFrom_40 : decode cX7_unknownFrom 40 = .ok (.iconst (-1), 1) := by decide +kernel
theorem dX7_unknownFrom_41 : decode cX7_unknownFrom 41 = .ok (.ixor, 1) := by decide +kernel
theorem dX7_unknownFrom_42 : decode cX7_unknownFrom 42 = .ok (.iand, 1) := by decide +kernel
theorem dX7_unknownFrom_43 : decode cX7_unknownFrom 43 = .ok (.ireturn, 1) := by decide +kernel
set_option maxRecDepth 20000 in
theorem ggX7_refusalOfWay_X1_hasWalker : GoodIn wsX7_refusalOfWay wsX1_hasWalker := goodIn_r _ [7, 8, 33, 34, 35, 36, 37, 38, 39, 40, 41, 42, 43, 44] (by decide +kernel) (by decide +kernel)
set_option maxRecDepth 20000 in
theorem gX7_refusalOfWay_X1_hasWalker : GoodIn wsX7_refusalOfWay (wsV RX7 128 RX1 yX1_hasWalker wsX1_hasWalker) := goodIn_app (goodIn_of _ (by decide +kernel)) ggX7_refusalOfWay_X1_hasWalker
set_option maxRecDepth 20000 in
theorem ggX7_refusalOfWay_X7_isCell : GoodIn wsX7_refusalOfWay wsX7_isCell := goodIn_r _ [12] (by decide +kernel) (by decide +kernel)
set_option maxRecDepth 20000 in
theorem gX7_refusalOfWay_X7_isCell : GoodIn wsX7_refusalOfWay (va_wsS RX7 143 yX7_isCell wsX7_isCell) := goodIn_app (goodIn_of _ (by decide +kernel)) ggX7_refusalOfWay_X7_isCell
set_option maxRecDepth 20000 in
theorem ggX7_refusalOfWay_X3_isFree : GoodIn wsX7_refusalOfWay wsX3_isFree := goodIn_r _ [17, 18, 19, 20, 4, 5, 6, 7, 8, 45, 46, 47, 48, 49, 50, 51, 33, 34, 35, 36, 37, 38, 39, 40, 41, 42, 43, 44] (by decide +kernel) (by decide +kernel)
set_option maxRecDepth 20000 in
theorem gX7_refusalOfWay_X3_isFree : GoodIn wsX7_refusalOfWay (wsV RX7 137 RX3 yX3_isFree wsX3_isFree) := goodIn_app (goodIn_of _ (by decide +kernel)) ggX7_refusalOfWay_X3_isFree
theorem dX7_refusalOfWay_0 : decode cX7_refusalOfWay 0 = .ok (.aload_n 0, 1) := by decide +kernel
theorem dX7_refusalOfWay_1 : decode cX7_refusalOfWay 1 = .ok (.getfield 32, 3) := by decide +kernel
theorem dX7_refusalOfWay_4 : decode cX7_refusalOfWay 4 = .ok (.iload_n 1, 1) := by decide +kernel
theorem dX7_refusalOfWay_5 : decode cX7_refusalOfWay 5 = .ok (.invokevirtual 128, 3) := by decide +kernel
theorem dX7_refusalOfWay_8 : decode cX7_refusalOfWay 8 = .ok (.ifCond .eq 10, 3) := by decide +kernel
theorem dX7_refusalOfWay_11 : decode cX7_refusalOfWay 11 = .ok (.iload_n 2, 1) := by decide +kernel
theorem dX7_refusalOfWay_12 : decode cX7_refusalOfWay 12 = .ok (.invokestatic 143, 3) := by decide +kernel
theorem dX7_refusalOfWay_15 : decode cX7_refusalOfWay 15 = .ok (.ifCond .ne 5, 3) := by decide +kernel
theorem dX7_refusalOfWay_18 : decode cX7_refusalOfWay 18 = .ok (.iconst (-1), 1) := by decide +kernel
theorem dX7_refusalOfWay_19 : decode cX7_refusalOfWay 19 = .ok (.ireturn, 1) := by decide +kernel
theorem dX7_refusalOfWay_20 : decode cX7_refusalOfWay 20 = .ok (.aload_n 0, 1) := by decide +kernel
theorem dX7_refusalOfWay_21 : decode cX7_refusalOfWay 21 = .ok (.getfield 38, 3) := by decide +kernel
theorem dX7_refusalOfWay_24 : decode cX7_refusalOfWay 24 = .ok (.iload_n 1, 1) := by decide +kernel
theorem dX7_refusalOfWay_25 : decode cX7_refusalOfWay 25 = .ok (.invokevirtual 137, 3) := by decide +kernel
theorem dX7_refusalOfWay_28 : decode cX7_refusalOfWay 28 = .ok (.ifCond .eq 7, 3) := by decide +kernel
theorem dX7_refusalOfWay_31 : decode cX7_refusalOfWay 31 = .ok (.iconst 0, 1) := by decide +kernel
theorem dX7_refusalOfWay_32 : decode cX7_refusalOfWay 32 = .ok (.goto 5, 3) := by decide +kernel
theorem dX7_refusalOfWay_35 : decode cX7_refusalOfWay 35 = .ok (.bipush (-3), 2) := by decide +kernel
theorem dX7_refusalOfWay_37 : decode cX7_refusalOfWay 37 = .ok (.ireturn, 1) := by decide +kernel
set_option maxRecDepth 20000 in
theorem ggX7_dangerFor_X1_hasWalker : GoodIn wsX7_dangerFor wsX1_hasWalker := goodIn_r _ [11, 12, 35, 36, 37, 38, 39, 40, 41, 42, 43, 44, 45, 46] (by decide +kernel) (by decide +kernel)
set_option maxRecDepth 20000 in
theorem gX7_dangerFor_X1_hasWalker : GoodIn wsX7_dangerFor (wsV RX7 128 RX1 yX1_hasWalker wsX1_hasWalker) := goodIn_app (goodIn_of _ (by decide +kernel)) ggX7_dangerFor_X1_hasWalker
set_option maxRecDepth 20000 in
theorem ggX7_dangerFor_X7_isSide : GoodIn wsX7_dangerFor wsX7_isSide := goodIn_r _ [16] (by decide +kernel) (by decide +kernel)
set_option maxRecDepth 20000 in
theorem gX7_dangerFor_X7_isSide : GoodIn wsX7_dangerFor (va_wsS RX7 162 yX7_isSide wsX7_isSide) := goodIn_app (goodIn_of _ (by decide +kernel)) ggX7_dangerFor_X7_isSide
set_option maxRecDepth 20000 in
theorem ggX7_dangerFor_X1_cellsOf : GoodIn wsX7_dangerFor wsX1_cellsOf := goodIn_r _ [20, 21, 22, 35, 36, 37, 38, 39, 40, 41, 42, 43, 44, 45, 46] (by decide +kernel) (by decide +kernel)
set_option maxRecDepth 20000 in
theorem gX7_dangerFor_X1_cellsOf : GoodIn wsX7_dangerFor (wsV RX7 247 RX1 yX1_cellsOf wsX1_cellsOf) := goodIn_app (goodIn_of _ (by decide +kernel)) ggX7_dangerFor_X1_cellsOf
theorem dX7_dangerFor_0 : decode cX7_dangerFor 0 = .ok (.aload_n 0, 1) := by decide +kernel
theorem dX7_dangerFor_1 : decode cX7_dangerFor 1 = .ok (.getfield 32, 3) := by decide +kernel
theorem dX7_dangerFor_4 : decode cX7_dangerFor 4 = .ok (.iload_n 1, 1) := by decide +kernel
theorem dX7_dangerFor_5 : decode cX7_dangerFor 5 = .ok (.invokevirtual 128, 3) := by decide +kernel
theorem dX7_dangerFor_8 : decode cX7_dangerFor 8 = .ok (.ifCond .ne 5, 3) := by decide +kernel
theorem dX7_dangerFor_11 : decode cX7_dangerFor 11 = .ok (.iconst 0, 1) := by decide +kernel
theorem dX7_dangerFor_12 : decode cX7_dangerFor 12 = .ok (.ireturn, 1) := by decide +kernel
theorem dX7_dangerFor_13 : decode cX7_dangerFor 13 = .ok (.aload_n 0, 1) := by decide +kernel
theorem dX7_dangerFor_14 : decode cX7_dangerFor 14 = .ok (.getfield 32, 3) := by decide +kernel
theorem dX7_dangerFor_17 : decode cX7_dangerFor 17 = .ok (.getfield 134, 3) := by decide +kernel
theorem dX7_dangerFor_20 : decode cX7_dangerFor 20 = .ok (.iload_n 1, 1) := by decide +kernel
theorem dX7_dangerFor_21 : decode cX7_dangerFor 21 = .ok (.iaload, 1) := by decide +kernel
theorem dX7_dangerFor_22 : decode cX7_dangerFor 22 = .ok (.istore_n 2, 1) := by decide +kernel
theorem dX7_dangerFor_23 : decode cX7_dangerFor 23 = .ok (.iload_n 2, 1) := by decide +kernel
theorem dX7_dangerFor_24 : decode cX7_dangerFor 24 = .ok (.invokestatic 162, 3) := by decide +kernel
theorem dX7_dangerFor_27 : decode cX7_dangerFor 27 = .ok (.ifCond .eq 40, 3) := by decide +kernel
theorem dX7_dangerFor_30 : decode cX7_dangerFor 30 = .ok (.aload_n 0, 1) := by decide +kernel
theorem dX7_dangerFor_31 : decode cX7_dangerFor 31 = .ok (.getfield 32, 3) := by decide +kernel
theorem dX7_dangerFor_34 : decode cX7_dangerFor 34 = .ok (.aload_n 0, 1) := by decide +kernel
theorem dX7_dangerFor_35 : decode cX7_dangerFor 35 = .ok (.getfield 38, 3) := by decide +kernel
theorem dX7_dangerFor_38 : decode cX7_dangerFor 38 = .ok (.getfield 125, 3) := by decide +kernel
theorem dX7_dangerFor_41 : decode cX7_dangerFor 41 = .ok (.iload_n 2, 1) := by decide +kernel
theorem dX7_dangerFor_42 : decode cX7_dangerFor 42 = .ok (.iaload, 1) := by decide +kernel
theorem dX7_dangerFor_43 : decode cX7_dangerFor 43 = .ok (.aload_n 0, 1) := by decide +kernel
theorem dX7_dangerFor_44 : decode cX7_dangerFor 44 = .ok (.getfield 38, 3) := by decide +kernel
theorem dX7_dangerFor_47 : decode cX7_dangerFor 47 = .ok (.getfield 119, 3) := by decide +kernel
theorem dX7_dangerFor_50 : decode cX7_dangerFor 50 = .ok (.iand, 1) := by decide +kernel
theorem dX7_dangerFor_51 : decode cX7_dangerFor 51 = .ok (.aload_n 0, 1) := by decide +kernel
theorem dX7_dangerFor_52 : decode cX7_dangerFor 52 = .ok (.getfield 32, 3) := by decide +kernel
theorem dX7_dangerFor_55 : decode cX7_dangerFor 55 = .ok (.getfield 187, 3) := by decide +kernel
theorem dX7_dangerFor_58 : decode cX7_dangerFor 58 = .ok (.iconst (-1), 1) := by decide +kernel
theorem dX7_dangerFor_59 : decode cX7_dangerFor 59 = .ok (.ixor, 1) := by decide +kernel
theorem dX7_dangerFor_60 : decode cX7_dangerFor 60 = .ok (.iand, 1) := by decide +kernel
theorem dX7_dangerFor_61 : decode cX7_dangerFor 61 = .ok (.invokevirtual 247, 3) := by decide +kernel
theorem dX7_dangerFor_64 : decode cX7_dangerFor 64 = .ok (.goto 4, 3) := by decide +kernel
theorem dX7_dangerFor_67 : decode cX7_dangerFor 67 = .ok (.iconst 0, 1) := by decide +kernel
theorem dX7_dangerFor_68 : decode cX7_dangerFor 68 = .ok (.ireturn, 1) := by decide +kernel
set_option maxRecDepth 20000 in
theorem ggX7_drawStep_X1_hasWalker : GoodIn wsX7_drawStep wsX1_hasWalker := goodIn_r _ [11, 12, 110, 111, 112, 113, 114, 115, 116, 117, 118, 119, 120, 121] (by decide +kernel) (by decide +kernel)
set_option maxRecDepth 20000 in
theorem gX7_drawStep_X1_hasWalker : GoodIn wsX7_drawStep (wsV RX7 128 RX1 yX1_hasWalker wsX1_hasWalker) := goodIn_app (goodIn_of _ (by decide +kernel)) ggX7_drawStep_X1_hasWalker
set_option maxRecDepth 20000 in
theorem ggX7_drawStep_X1_waysFrom : GoodIn wsX7_drawStep wsX1_waysFrom := goodIn_r _ [16, 17, 18, 19, 20, 21, 22, 23, 24, 110, 111, 112, 113, 114, 115, 116, 117, 118, 119, 120, 121] (by decide +kernel) (by decide +kernel)
set_option maxRecDepth 20000 in
theorem gX7_drawStep_X1_waysFrom : GoodIn wsX7_drawStep (wsV RX7 146 RX1 yX1_waysFrom wsX1_waysFrom) := goodIn_app (goodIn_of _ (by decide +kernel)) ggX7_drawStep_X1_waysFrom
set_option maxRecDepth 20000 in
theorem ggX7_drawStep_J6_bitCount_0f7a4 : GoodIn wsX7_drawStep wsJ6_bitCount_0f7a4 := goodIn_r _ [28, 29, 30, 31] (by decide +kernel) (by decide +kernel)
set_option maxRecDepth 20000 in
theorem gX7_drawStep_J6_bitCount_0f7a4 : GoodIn wsX7_drawStep (va_wsS RX7 182 yJ6_bitCount_0f7a4 wsJ6_bitCount_0f7a4) := goodIn_app (goodIn_of _ (by decide +kernel)) ggX7_drawStep_J6_bitCount_0f7a4
set_option maxRecDepth 20000 in
theorem ggX7_drawStep_X7_bitAt : GoodIn wsX7_drawStep wsX7_bitAt := goodIn_r _ [34] (by decide +kernel) (by decide +kernel)
set_option maxRecDepth 20000 in
theorem gX7_drawStep_X7_bitAt : GoodIn wsX7_drawStep (va_wsS RX7 254 yX7_bitAt wsX7_bitAt) := goodIn_app (goodIn_of _ (by decide +kernel)) ggX7_drawStep_X7_bitAt
set_option maxRecDepth 20000 in
theorem ggX7_drawStep_X3_walk : GoodIn wsX7_drawStep wsX3_walk := goodIn_r _ [39, 40, 41, 42, 43, 8, 9, 10, 11, 12, 44, 45, 46, 47, 48, 49, 50, 51, 52, 53, 54, 55, 56, 38, 57, 58, 59, 60, 61, 62, 63, 64, 65, 66, 67, 68, 69, 70, 71, 72, 73, 74, 75, 76, 77, 78, 79, 80, 81, 82, 83, 84, 85, 86, 87, 88, 89, 90, 103, 104, 105, 106, 107, 108, 109, 110, 111, 112, 113, 114, 115, 116, 117, 118, 119, 120, 121] (by decide +kernel) (by decide +kernel)
set_option maxRecDepth 20000 in
theorem gX7_drawStep_X3_walk : GoodIn wsX7_drawStep (wsV RX7 158 RX3 yX3_walk wsX3_walk) := goodIn_app (goodIn_of _ (by decide +kernel)) ggX7_drawStep_X3_walk
theorem dX7_drawStep_0 : decode cX7_drawStep 0 = .ok (.aload_n 0, 1) := by decide +kernel
theorem dX7_drawStep_1 : decode cX7_drawStep 1 = .ok (.getfield 32, 3) := by decide +kernel
theorem dX7_drawStep_4 : decode cX7_drawStep 4 = .ok (.iload_n 1, 1) := by decide +kernel
theorem dX7_drawStep_5 : decode cX7_drawStep 5 = .ok (.invokevirtual 128, 3) := by decide +kernel
theorem dX7_drawStep_8 : decode cX7_drawStep 8 = .ok (.ifCond .ne 4, 3) := by decide +kernel
theorem dX7_drawStep_11 : decode cX7_drawStep 11 = .ok (.return_, 1) := by decide +kernel
theorem dX7_drawStep_12 : decode cX7_drawStep 12 = .ok (.aload_n 0, 1) := by decide +kernel
theorem dX7_drawStep_13 : decode cX7_drawStep 13 = .ok (.getfield 32, 3) := by decide +kernel
theorem dX7_drawStep_16 : decode cX7_drawStep 16 = .ok (.aload_n 0, 1) := by decide +kernel
theorem dX7_drawStep_17 : decode cX7_drawStep 17 = .ok (.getfield 45, 3) := by decide +kernel
theorem dX7_drawStep_20 : decode cX7_drawStep 20 = .ok (.getfield 131, 3) := by decide +kernel
theorem dX7_drawStep_23 : decode cX7_drawStep 23 = .ok (.iload_n 1, 1) := by decide +kernel
theorem dX7_drawStep_24 : decode cX7_drawStep 24 = .ok (.iaload, 1) := by decide +kernel
theorem dX7_drawStep_25 : decode cX7_drawStep 25 = .ok (.invokevirtual 146, 3) := by decide +kernel
theorem dX7_drawStep_28 : decode cX7_drawStep 28 = .ok (.istore_n 2, 1) := by decide +kernel
theorem dX7_drawStep_29 : decode cX7_drawStep 29 = .ok (.iload_n 2, 1) := by decide +kernel
theorem dX7_drawStep_30 : decode cX7_drawStep 30 = .ok (.invokestatic 182, 3) := by decide +kernel
theorem dX7_drawStep_33 : decode cX7_drawStep 33 = .ok (.istore_n 3, 1) := by decide +kernel
theorem dX7_drawStep_34 : decode cX7_drawStep 34 = .ok (.iload_n 3, 1) := by decide +kernel
theorem dX7_drawStep_35 : decode cX7_drawStep 35 = .ok (.ifCond .ne 4, 3) := by decide +kernel
theorem dX7_drawStep_38 : decode cX7_drawStep 38 = .ok (.return_, 1) := by decide +kernel
theorem dX7_drawStep_39 : decode cX7_drawStep 39 = .ok (.aload_n 0, 1) := by decide +kernel
theorem dX7_drawStep_40 : decode cX7_drawStep 40 = .ok (.aload_n 0, 1) := by decide +kernel
theorem dX7_drawStep_41 : decode cX7_drawStep 41 = .ok (.getfield 77, 3) := by decide +kernel
theorem dX7_drawStep_44 : decode cX7_drawStep 44 = .ok (.ldc2_w 250, 3) := by decide +kernel
theorem dX7_drawStep_47 : decode cX7_drawStep 47 = .ok (.lmul, 1) := by decide +kernel
theorem dX7_drawStep_48 : decode cX7_drawStep 48 = .ok (.ldc2_w 252, 3) := by decide +kernel
theorem dX7_drawStep_51 : decode cX7_drawStep 51 = .ok (.ladd, 1) := by decide +kernel
theorem dX7_drawStep_52 : decode cX7_drawStep 52 = .ok (.putfield 77, 3) := by decide +kernel
theorem dX7_drawStep_55 : decode cX7_drawStep 55 = .ok (.aload_n 0, 1) := by decide +kernel
theorem dX7_drawStep_56 : decode cX7_drawStep 56 = .ok (.getfield 77, 3) := by decide +kernel
theorem dX7_drawStep_59 : decode cX7_drawStep 59 = .ok (.bipush 33, 2) := by decide +kernel
theorem dX7_drawStep_61 : decode cX7_drawStep 61 = .ok (.lushr, 1) := by decide +kernel
theorem dX7_drawStep_62 : decode cX7_drawStep 62 = .ok (.l2i, 1) := by decide +kernel
theorem dX7_drawStep_63 : decode cX7_drawStep 63 = .ok (.iload_n 3, 1) := by decide +kernel
theorem dX7_drawStep_64 : decode cX7_drawStep 64 = .ok (.irem, 1) := by decide +kernel
theorem dX7_drawStep_65 : decode cX7_drawStep 65 = .ok (.istore 4, 2) := by decide +kernel
theorem dX7_drawStep_67 : decode cX7_drawStep 67 = .ok (.aload_n 0, 1) := by decide +kernel
theorem dX7_drawStep_68 : decode cX7_drawStep 68 = .ok (.getfield 45, 3) := by decide +kernel
theorem dX7_drawStep_71 : decode cX7_drawStep 71 = .ok (.iload_n 1, 1) := by decide +kernel
theorem dX7_drawStep_72 : decode cX7_drawStep 72 = .ok (.iload_n 2, 1) := by decide +kernel
theorem dX7_drawStep_73 : decode cX7_drawStep 73 = .ok (.iload 4, 2) := by decide +kernel
theorem dX7_drawStep_75 : decode cX7_drawStep 75 = .ok (.invokestatic 254, 3) := by decide +kernel
theorem dX7_drawStep_78 : decode cX7_drawStep 78 = .ok (.invokevirtual 158, 3) := by decide +kernel
theorem dX7_drawStep_81 : decode cX7_drawStep 81 = .ok (.pop, 1) := by decide +kernel
theorem dX7_drawStep_82 : decode cX7_drawStep 82 = .ok (.return_, 1) := by decide +kernel
set_option maxRecDepth 20000 in
theorem ggX7_freeWalkers_X3_caught : GoodIn wsX7_freeWalkers wsX3_caught := goodIn_r _ [8, 9, 10, 11, 43, 44, 45, 46, 47, 48, 49, 31, 32, 33, 34, 35, 36, 37, 38, 39, 40, 41, 42] (by decide +kernel) (by decide +kernel)
set_option maxRecDepth 20000 in
theorem gX7_freeWalkers_X3_caught : GoodIn wsX7_freeWalkers (wsV RX7 229 RX3 yX3_caught wsX3_caught) := goodIn_app (goodIn_of _ (by decide +kernel)) ggX7_freeWalkers_X3_caught
set_option maxRecDepth 20000 in
theorem ggX7_freeWalkers_J6_bitCount_0f7a4 : GoodIn wsX7_freeWalkers wsJ6_bitCount_0f7a4 := goodIn_r _ [15, 16, 17, 18] (by decide +kernel) (by decide +kernel)
set_option maxRecDepth 20000 in
theorem gX7_freeWalkers_J6_bitCount_0f7a4 : GoodIn wsX7_freeWalkers (va_wsS RX7 182 yJ6_bitCount_0f7a4 wsJ6_bitCount_0f7a4) := goodIn_app (goodIn_of _ (by decide +kernel)) ggX7_freeWalkers_J6_bitCount_0f7a4
theorem dX7_freeWalkers_0 : decode cX7_freeWalkers 0 = .ok (.aload_n 0, 1) := by decide +kernel
theorem dX7_freeWalkers_1 : decode cX7_freeWalkers 1 = .ok (.getfield 32, 3) := by decide +kernel
theorem dX7_freeWalkers_4 : decode cX7_freeWalkers 4 = .ok (.getfield 99, 3) := by decide +kernel
theorem dX7_freeWalkers_7 : decode cX7_freeWalkers 7 = .ok (.aload_n 0, 1) := by decide +kernel
theorem dX7_freeWalkers_8 : decode cX7_freeWalkers 8 = .ok (.getfield 38, 3) := by decide +kernel
theorem dX7_freeWalkers_11 : decode cX7_freeWalkers 11 = .ok (.invokevirtual 229, 3) := by decide +kernel
theorem dX7_freeWalkers_14 : decode cX7_freeWalkers 14 = .ok (.invokestatic 182, 3) := by decide +kernel
theorem dX7_freeWalkers_17 : decode cX7_freeWalkers 17 = .ok (.isub, 1) := by decide +kernel
theorem dX7_freeWalkers_18 : decode cX7_freeWalkers 18 = .ok (.ireturn, 1) := by decide +kernel
