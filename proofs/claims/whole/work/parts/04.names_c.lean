theorem dX8_init_0 : decode cX8_init 0 = .ok (.aload_n 0, 1) := by decide +kernel
theorem dX8_init_1 : decode cX8_init 1 = .ok (.invokespecial 1, 3) := by decide +kernel
theorem dX8_init_4 : decode cX8_init 4 = .ok (.aload_n 0, 1) := by decide +kernel
theorem dX8_init_5 : decode cX8_init 5 = .ok (.bipush 24, 2) := by decide +kernel
theorem dX8_init_7 : decode cX8_init 7 = .ok (.newarray .int, 2) := by decide +kernel
theorem dX8_init_9 : decode cX8_init 9 = .ok (.putfield 7, 3) := by decide +kernel
theorem dX8_init_12 : decode cX8_init 12 = .ok (.aload_n 0, 1) := by decide +kernel
theorem dX8_init_13 : decode cX8_init 13 = .ok (.bipush 8, 2) := by decide +kernel
theorem dX8_init_15 : decode cX8_init 15 = .ok (.newarray .int, 2) := by decide +kernel
theorem dX8_init_17 : decode cX8_init 17 = .ok (.putfield 13, 3) := by decide +kernel
theorem dX8_init_20 : decode cX8_init 20 = .ok (.aload_n 0, 1) := by decide +kernel
theorem dX8_init_21 : decode cX8_init 21 = .ok (.bipush 7, 2) := by decide +kernel
theorem dX8_init_23 : decode cX8_init 23 = .ok (.newarray .int, 2) := by decide +kernel
theorem dX8_init_25 : decode cX8_init 25 = .ok (.putfield 16, 3) := by decide +kernel
theorem dX8_init_28 : decode cX8_init 28 = .ok (.aload_n 0, 1) := by decide +kernel
theorem dX8_init_29 : decode cX8_init 29 = .ok (.bipush 7, 2) := by decide +kernel
theorem dX8_init_31 : decode cX8_init 31 = .ok (.newarray .int, 2) := by decide +kernel
theorem dX8_init_33 : decode cX8_init 33 = .ok (.putfield 19, 3) := by decide +kernel
theorem dX8_init_36 : decode cX8_init 36 = .ok (.aload_n 0, 1) := by decide +kernel
theorem dX8_init_37 : decode cX8_init 37 = .ok (.bipush 7, 2) := by decide +kernel
theorem dX8_init_39 : decode cX8_init 39 = .ok (.newarray .int, 2) := by decide +kernel
theorem dX8_init_41 : decode cX8_init 41 = .ok (.putfield 22, 3) := by decide +kernel
theorem dX8_init_44 : decode cX8_init 44 = .ok (.aload_n 0, 1) := by decide +kernel
theorem dX8_init_45 : decode cX8_init 45 = .ok (.bipush 7, 2) := by decide +kernel
theorem dX8_init_47 : decode cX8_init 47 = .ok (.newarray .int, 2) := by decide +kernel
theorem dX8_init_49 : decode cX8_init 49 = .ok (.putfield 25, 3) := by decide +kernel
theorem dX8_init_52 : decode cX8_init 52 = .ok (.aload_n 0, 1) := by decide +kernel
theorem dX8_init_53 : decode cX8_init 53 = .ok (.iconst 4, 1) := by decide +kernel
theorem dX8_init_54 : decode cX8_init 54 = .ok (.newarray .int, 2) := by decide +kernel
theorem dX8_init_56 : decode cX8_init 56 = .ok (.putfield 28, 3) := by decide +kernel
theorem dX8_init_59 : decode cX8_init 59 = .ok (.aload_n 0, 1) := by decide +kernel
theorem dX8_init_60 : decode cX8_init 60 = .ok (.bipush 72, 2) := by decide +kernel
theorem dX8_init_62 : decode cX8_init 62 = .ok (.newarray .int, 2) := by decide +kernel
theorem dX8_init_64 : decode cX8_init 64 = .ok (.putfield 31, 3) := by decide +kernel
theorem dX8_init_67 : decode cX8_init 67 = .ok (.aload_n 0, 1) := by decide +kernel
theorem dX8_init_68 : decode cX8_init 68 = .ok (.bipush 64, 2) := by decide +kernel
theorem dX8_init_70 : decode cX8_init 70 = .ok (.newarray .int, 2) := by decide +kernel
theorem dX8_init_72 : decode cX8_init 72 = .ok (.putfield 34, 3) := by decide +kernel
theorem dX8_init_75 : decode cX8_init 75 = .ok (.aload_n 0, 1) := by decide +kernel
theorem dX8_init_76 : decode cX8_init 76 = .ok (.sipush 192, 3) := by decide +kernel
theorem dX8_init_79 : decode cX8_init 79 = .ok (.newarray .int, 2) := by decide +kernel
theorem dX8_init_81 : decode cX8_init 81 = .ok (.putfield 37, 3) := by decide +kernel
theorem dX8_init_84 : decode cX8_init 84 = .ok (.aload_n 0, 1) := by decide +kernel
theorem dX8_init_85 : decode cX8_init 85 = .ok (.bipush 12, 2) := by decide +kernel
theorem dX8_init_87 : decode cX8_init 87 = .ok (.newarray .int, 2) := by decide +kernel
theorem dX8_init_89 : decode cX8_init 89 = .ok (.putfield 40, 3) := by decide +kernel
theorem dX8_init_92 : decode cX8_init 92 = .ok (.aload_n 0, 1) := by decide +kernel
theorem dX8_init_93 : decode cX8_init 93 = .ok (.bipush 6, 2) := by decide +kernel
theorem dX8_init_95 : decode cX8_init 95 = .ok (.newarray .int, 2) := by decide +kernel
theorem dX8_init_97 : decode cX8_init 97 = .ok (.putfield 43, 3) := by decide +kernel
theorem dX8_init_100 : decode cX8_init 100 = .ok (.aload_n 0, 1) := by decide +kernel
theorem dX8_init_101 : decode cX8_init 101 = .ok (.bipush 6, 2) := by decide +kernel
theorem dX8_init_103 : decode cX8_init 103 = .ok (.newarray .int, 2) := by decide +kernel
theorem dX8_init_105 : decode cX8_init 105 = .ok (.putfield 46, 3) := by decide +kernel
theorem dX8_init_108 : decode cX8_init 108 = .ok (.aload_n 0, 1) := by decide +kernel
theorem dX8_init_109 : decode cX8_init 109 = .ok (.iconst 2, 1) := by decide +kernel
theorem dX8_init_110 : decode cX8_init 110 = .ok (.newarray .boolean, 2) := by decide +kernel
theorem dX8_init_112 : decode cX8_init 112 = .ok (.putfield 49, 3) := by decide +kernel
theorem dX8_init_115 : decode cX8_init 115 = .ok (.aload_n 0, 1) := by decide +kernel
theorem dX8_init_116 : decode cX8_init 116 = .ok (.bipush 26, 2) := by decide +kernel
theorem dX8_init_118 : decode cX8_init 118 = .ok (.newarray .int, 2) := by decide +kernel
theorem dX8_init_120 : decode cX8_init 120 = .ok (.putfield 53, 3) := by decide +kernel
theorem dX8_init_123 : decode cX8_init 123 = .ok (.aload_n 0, 1) := by decide +kernel
theorem dX8_init_124 : decode cX8_init 124 = .ok (.iconst 0, 1) := by decide +kernel
theorem dX8_init_125 : decode cX8_init 125 = .ok (.putfield 56, 3) := by decide +kernel
theorem dX8_init_128 : decode cX8_init 128 = .ok (.return_, 1) := by decide +kernel
theorem dX8_in_0 : decode cX8_in 0 = .ok (.lload_n 0, 1) := by decide +kernel
theorem dX8_in_1 : decode cX8_in 1 = .ok (.lload_n 2, 1) := by decide +kernel
theorem dX8_in_2 : decode cX8_in 2 = .ok (.lcmp, 1) := by decide +kernel
theorem dX8_in_3 : decode cX8_in 3 = .ok (.ifCond .lt 14, 3) := by decide +kernel
theorem dX8_in_6 : decode cX8_in 6 = .ok (.lload_n 0, 1) := by decide +kernel
theorem dX8_in_7 : decode cX8_in 7 = .ok (.lload 4, 2) := by decide +kernel
theorem dX8_in_9 : decode cX8_in 9 = .ok (.lcmp, 1) := by decide +kernel
theorem dX8_in_10 : decode cX8_in 10 = .ok (.ifCond .gt 7, 3) := by decide +kernel
theorem dX8_in_13 : decode cX8_in 13 = .ok (.iconst 1, 1) := by decide +kernel
theorem dX8_in_14 : decode cX8_in 14 = .ok (.goto 4, 3) := by decide +kernel
theorem dX8_in_17 : decode cX8_in 17 = .ok (.iconst 0, 1) := by decide +kernel
theorem dX8_in_18 : decode cX8_in 18 = .ok (.ireturn, 1) := by decide +kernel
set_option maxRecDepth 20000 in
theorem ggX8_write_X8_in : GoodIn wsX8_write wsX8_in := goodIn_r _ [8] (by decide +kernel) (by decide +kernel)
set_option maxRecDepth 20000 in
theorem gX8_write_X8_in : GoodIn wsX8_write (va_wsS RX8 62 yX8_in wsX8_in) := goodIn_app (goodIn_of _ (by decide +kernel)) ggX8_write_X8_in
theorem dX8_write_0 : decode cX8_write 0 = .ok (.iload_n 1, 1) := by decide +kernel
theorem dX8_write_1 : decode cX8_write 1 = .ok (.i2l, 1) := by decide +kernel
theorem dX8_write_2 : decode cX8_write 2 = .ok (.lconst 1, 1) := by decide +kernel
theorem dX8_write_3 : decode cX8_write 3 = .ok (.ldc2_w 60, 3) := by decide +kernel
theorem dX8_write_6 : decode cX8_write 6 = .ok (.invokestatic 62, 3) := by decide +kernel
theorem dX8_write_9 : decode cX8_write 9 = .ok (.ifCond .ne 6, 3) := by decide +kernel
theorem dX8_write_12 : decode cX8_write 12 = .ok (.bipush (-2), 2) := by decide +kernel
theorem dX8_write_14 : decode cX8_write 14 = .ok (.ireturn, 1) := by decide +kernel
theorem dX8_write_15 : decode cX8_write 15 = .ok (.aload_n 0, 1) := by decide +kernel
theorem dX8_write_16 : decode cX8_write 16 = .ok (.getfield 66, 3) := by decide +kernel
theorem dX8_write_19 : decode cX8_write 19 = .ok (.iload_n 1, 1) := by decide +kernel
theorem dX8_write_20 : decode cX8_write 20 = .ok (.iadd, 1) := by decide +kernel
theorem dX8_write_21 : decode cX8_write 21 = .ok (.bipush 64, 2) := by decide +kernel
theorem dX8_write_23 : decode cX8_write 23 = .ok (.if_icmp .le 6, 3) := by decide +kernel
theorem dX8_write_26 : decode cX8_write 26 = .ok (.bipush (-4), 2) := by decide +kernel
theorem dX8_write_28 : decode cX8_write 28 = .ok (.ireturn, 1) := by decide +kernel
theorem dX8_write_29 : decode cX8_write 29 = .ok (.iload_n 1, 1) := by decide +kernel
theorem dX8_write_30 : decode cX8_write 30 = .ok (.iconst 1, 1) := by decide +kernel
theorem dX8_write_31 : decode cX8_write 31 = .ok (.isub, 1) := by decide +kernel
theorem dX8_write_32 : decode cX8_write 32 = .ok (.istore 4, 2) := by decide +kernel
theorem dX8_write_34 : decode cX8_write 34 = .ok (.iload 4, 2) := by decide +kernel
theorem dX8_write_36 : decode cX8_write 36 = .ok (.ifCond .lt 40, 3) := by decide +kernel
theorem dX8_write_39 : decode cX8_write 39 = .ok (.aload_n 0, 1) := by decide +kernel
theorem dX8_write_40 : decode cX8_write 40 = .ok (.getfield 34, 3) := by decide +kernel
theorem dX8_write_43 : decode cX8_write 43 = .ok (.aload_n 0, 1) := by decide +kernel
theorem dX8_write_44 : decode cX8_write 44 = .ok (.getfield 66, 3) := by decide +kernel
theorem dX8_write_47 : decode cX8_write 47 = .ok (.lload_n 2, 1) := by decide +kernel
theorem dX8_write_48 : decode cX8_write 48 = .ok (.bipush 8, 2) := by decide +kernel
theorem dX8_write_50 : decode cX8_write 50 = .ok (.iload 4, 2) := by decide +kernel
theorem dX8_write_52 : decode cX8_write 52 = .ok (.imul, 1) := by decide +kernel
theorem dX8_write_53 : decode cX8_write 53 = .ok (.lshr, 1) := by decide +kernel
theorem dX8_write_54 : decode cX8_write 54 = .ok (.ldc2_w 69, 3) := by decide +kernel
theorem dX8_write_57 : decode cX8_write 57 = .ok (.land, 1) := by decide +kernel
theorem dX8_write_58 : decode cX8_write 58 = .ok (.l2i, 1) := by decide +kernel
theorem dX8_write_59 : decode cX8_write 59 = .ok (.iastore, 1) := by decide +kernel
theorem dX8_write_60 : decode cX8_write 60 = .ok (.aload_n 0, 1) := by decide +kernel
theorem dX8_write_61 : decode cX8_write 61 = .ok (.dup, 1) := by decide +kernel
theorem dX8_write_62 : decode cX8_write 62 = .ok (.getfield 66, 3) := by decide +kernel
theorem dX8_write_65 : decode cX8_write 65 = .ok (.iconst 1, 1) := by decide +kernel
theorem dX8_write_66 : decode cX8_write 66 = .ok (.iadd, 1) := by decide +kernel
theorem dX8_write_67 : decode cX8_write 67 = .ok (.putfield 66, 3) := by decide +kernel
theorem dX8_write_70 : decode cX8_write 70 = .ok (.iinc 4 (-1), 3) := by decide +kernel
theorem dX8_write_73 : decode cX8_write 73 = .ok (.goto (-39), 3) := by decide +kernel
theorem dX8_write_76 : decode cX8_write 76 = .ok (.aload_n 0, 1) := by decide +kernel
theorem dX8_write_77 : decode cX8_write 77 = .ok (.getfield 66, 3) := by decide +kernel
theorem dX8_write_80 : decode cX8_write 80 = .ok (.ireturn, 1) := by decide +kernel
theorem dX8_wipe_0 : decode cX8_wipe 0 = .ok (.aload_n 0, 1) := by decide +kernel
theorem dX8_wipe_1 : decode cX8_wipe 1 = .ok (.getfield 66, 3) := by decide +kernel
theorem dX8_wipe_4 : decode cX8_wipe 4 = .ok (.istore_n 1, 1) := by decide +kernel
theorem dX8_wipe_5 : decode cX8_wipe 5 = .ok (.aload_n 0, 1) := by decide +kernel
theorem dX8_wipe_6 : decode cX8_wipe 6 = .ok (.iconst 0, 1) := by decide +kernel
theorem dX8_wipe_7 : decode cX8_wipe 7 = .ok (.putfield 66, 3) := by decide +kernel
theorem dX8_wipe_10 : decode cX8_wipe 10 = .ok (.iload_n 1, 1) := by decide +kernel
theorem dX8_wipe_11 : decode cX8_wipe 11 = .ok (.ireturn, 1) := by decide +kernel
theorem dX8_fail_0 : decode cX8_fail 0 = .ok (.aload_n 0, 1) := by decide +kernel
theorem dX8_fail_1 : decode cX8_fail 1 = .ok (.aload_n 0, 1) := by decide +kernel
theorem dX8_fail_2 : decode cX8_fail 2 = .ok (.getfield 71, 3) := by decide +kernel
theorem dX8_fail_5 : decode cX8_fail 5 = .ok (.bipush (-9), 2) := by decide +kernel
theorem dX8_fail_7 : decode cX8_fail 7 = .ok (.if_icmp .ne 10, 3) := by decide +kernel
theorem dX8_fail_10 : decode cX8_fail 10 = .ok (.aload_n 0, 1) := by decide +kernel
theorem dX8_fail_11 : decode cX8_fail 11 = .ok (.getfield 74, 3) := by decide +kernel
theorem dX8_fail_14 : decode cX8_fail 14 = .ok (.goto 7, 3) := by decide +kernel
theorem dX8_fail_17 : decode cX8_fail 17 = .ok (.aload_n 0, 1) := by decide +kernel
theorem dX8_fail_18 : decode cX8_fail 18 = .ok (.getfield 71, 3) := by decide +kernel
theorem dX8_fail_21 : decode cX8_fail 21 = .ok (.putfield 71, 3) := by decide +kernel
theorem dX8_fail_24 : decode cX8_fail 24 = .ok (.return_, 1) := by decide +kernel
set_option maxRecDepth 20000 in
theorem ggX8_figure_X8_in : GoodIn wsX8_figure wsX8_in := goodIn_r _ [9] (by decide +kernel) (by decide +kernel)
set_option maxRecDepth 20000 in
theorem gX8_figure_X8_in : GoodIn wsX8_figure (va_wsS RX8 62 yX8_in wsX8_in) := goodIn_app (goodIn_of _ (by decide +kernel)) ggX8_figure_X8_in
set_option maxRecDepth 20000 in
theorem ggX8_figure_X8_fail : GoodIn wsX8_figure wsX8_fail := goodIn_r _ [13, 1, 2, 14, 15, 16, 17, 18, 19, 20, 21, 22, 23, 24, 25, 26, 27, 28, 29, 30, 31, 32, 33, 34, 35, 36, 37, 38, 39, 40, 41] (by decide +kernel) (by decide +kernel)
set_option maxRecDepth 20000 in
theorem gX8_figure_X8_fail : GoodIn wsX8_figure (wsV RX8 79 RX8 yX8_fail wsX8_fail) := goodIn_app (goodIn_of _ (by decide +kernel)) ggX8_figure_X8_fail
theorem dX8_figure_0 : decode cX8_figure 0 = .ok (.aload_n 0, 1) := by decide +kernel
theorem dX8_figure_1 : decode cX8_figure 1 = .ok (.getfield 71, 3) := by decide +kernel
theorem dX8_figure_4 : decode cX8_figure 4 = .ok (.bipush (-9), 2) := by decide +kernel
theorem dX8_figure_6 : decode cX8_figure 6 = .ok (.if_icmp .ne 29, 3) := by decide +kernel
theorem dX8_figure_9 : decode cX8_figure 9 = .ok (.aload_n 0, 1) := by decide +kernel
theorem dX8_figure_10 : decode cX8_figure 10 = .ok (.getfield 74, 3) := by decide +kernel
theorem dX8_figure_13 : decode cX8_figure 13 = .ok (.aload_n 0, 1) := by decide +kernel
theorem dX8_figure_14 : decode cX8_figure 14 = .ok (.getfield 66, 3) := by decide +kernel
theorem dX8_figure_17 : decode cX8_figure 17 = .ok (.if_icmp .ge 18, 3) := by decide +kernel
theorem dX8_figure_20 : decode cX8_figure 20 = .ok (.aload_n 0, 1) := by decide +kernel
theorem dX8_figure_21 : decode cX8_figure 21 = .ok (.getfield 34, 3) := by decide +kernel
theorem dX8_figure_24 : decode cX8_figure 24 = .ok (.aload_n 0, 1) := by decide +kernel
theorem dX8_figure_25 : decode cX8_figure 25 = .ok (.getfield 74, 3) := by decide +kernel
theorem dX8_figure_28 : decode cX8_figure 28 = .ok (.iaload, 1) := by decide +kernel
theorem dX8_figure_29 : decode cX8_figure 29 = .ok (.bipush 48, 2) := by decide +kernel
theorem dX8_figure_31 : decode cX8_figure 31 = .ok (.isub, 1) := by decide +kernel
theorem dX8_figure_32 : decode cX8_figure 32 = .ok (.goto 4, 3) := by decide +kernel
theorem dX8_figure_35 : decode cX8_figure 35 = .ok (.iconst (-1), 1) := by decide +kernel
theorem dX8_figure_36 : decode cX8_figure 36 = .ok (.istore_n 2, 1) := by decide +kernel
theorem dX8_figure_37 : decode cX8_figure 37 = .ok (.iload_n 2, 1) := by decide +kernel
theorem dX8_figure_38 : decode cX8_figure 38 = .ok (.i2l, 1) := by decide +kernel
theorem dX8_figure_39 : decode cX8_figure 39 = .ok (.lconst 0, 1) := by decide +kernel
theorem dX8_figure_40 : decode cX8_figure 40 = .ok (.ldc2_w 77, 3) := by decide +kernel
theorem dX8_figure_43 : decode cX8_figure 43 = .ok (.invokestatic 62, 3) := by decide +kernel
theorem dX8_figure_46 : decode cX8_figure 46 = .ok (.ifCond .eq 11, 3) := by decide +kernel
theorem dX8_figure_49 : decode cX8_figure 49 = .ok (.iload_n 1, 1) := by decide +kernel
theorem dX8_figure_50 : decode cX8_figure 50 = .ok (.iload_n 2, 1) := by decide +kernel
theorem dX8_figure_51 : decode cX8_figure 51 = .ok (.ishr, 1) := by decide +kernel
theorem dX8_figure_52 : decode cX8_figure 52 = .ok (.iconst 1, 1) := by decide +kernel
theorem dX8_figure_53 : decode cX8_figure 53 = .ok (.iand, 1) := by decide +kernel
theorem dX8_figure_54 : decode cX8_figure 54 = .ok (.ifCond .ne 9, 3) := by decide +kernel
theorem dX8_figure_57 : decode cX8_figure 57 = .ok (.aload_n 0, 1) := by decide +kernel
theorem dX8_figure_58 : decode cX8_figure 58 = .ok (.invokevirtual 79, 3) := by decide +kernel
theorem dX8_figure_61 : decode cX8_figure 61 = .ok (.iconst 0, 1) := by decide +kernel
theorem dX8_figure_62 : decode cX8_figure 62 = .ok (.ireturn, 1) := by decide +kernel
theorem dX8_figure_63 : decode cX8_figure 63 = .ok (.aload_n 0, 1) := by decide +kernel
theorem dX8_figure_64 : decode cX8_figure 64 = .ok (.dup, 1) := by decide +kernel
theorem dX8_figure_65 : decode cX8_figure 65 = .ok (.getfield 74, 3) := by decide +kernel
theorem dX8_figure_68 : decode cX8_figure 68 = .ok (.iconst 1, 1) := by decide +kernel
theorem dX8_figure_69 : decode cX8_figure 69 = .ok (.iadd, 1) := by decide +kernel
theorem dX8_figure_70 : decode cX8_figure 70 = .ok (.putfield 74, 3) := by decide +kernel
theorem dX8_figure_73 : decode cX8_figure 73 = .ok (.iload_n 2, 1) := by decide +kernel
theorem dX8_figure_74 : decode cX8_figure 74 = .ok (.ireturn, 1) := by decide +kernel
set_option maxRecDepth 20000 in
theorem ggX8_cell_X8_figure : GoodIn wsX8_cell wsX8_figure := goodIn_r _ [5, 6, 7, 8, 9, 10, 11, 12, 4, 13, 14, 15, 16, 17, 18, 19, 20, 21, 22, 23, 24, 25, 26, 27, 28, 29, 30, 31, 32, 33, 34, 35, 36, 37, 38, 39, 40, 41, 42, 43, 44, 45] (by decide +kernel) (by decide +kernel)
set_option maxRecDepth 20000 in
theorem gX8_cell_X8_figure : GoodIn wsX8_cell (wsV RX8 82 RX8 yX8_figure wsX8_figure) := goodIn_app (goodIn_of _ (by decide +kernel)) ggX8_cell_X8_figure
theorem dX8_cell_0 : decode cX8_cell 0 = .ok (.aload_n 0, 1) := by decide +kernel
theorem dX8_cell_1 : decode cX8_cell 1 = .ok (.iload_n 1, 1) := by decide +kernel
theorem dX8_cell_2 : decode cX8_cell 2 = .ok (.sipush 1023, 3) := by decide +kernel
theorem dX8_cell_5 : decode cX8_cell 5 = .ok (.iand, 1) := by decide +kernel
theorem dX8_cell_6 : decode cX8_cell 6 = .ok (.ifCond .eq 7, 3) := by decide +kernel
theorem dX8_cell_9 : decode cX8_cell 9 = .ok (.iconst 1, 1) := by decide +kernel
theorem dX8_cell_10 : decode cX8_cell 10 = .ok (.goto 4, 3) := by decide +kernel
theorem dX8_cell_13 : decode cX8_cell 13 = .ok (.iconst 0, 1) := by decide +kernel
theorem dX8_cell_14 : decode cX8_cell 14 = .ok (.iload_n 1, 1) := by decide +kernel
theorem dX8_cell_15 : decode cX8_cell 15 = .ok (.bipush 10, 2) := by decide +kernel
theorem dX8_cell_17 : decode cX8_cell 17 = .ok (.ishr, 1) := by decide +kernel
theorem dX8_cell_18 : decode cX8_cell 18 = .ok (.ifCond .eq 7, 3) := by decide +kernel
theorem dX8_cell_21 : decode cX8_cell 21 = .ok (.iconst 2, 1) := by decide +kernel
theorem dX8_cell_22 : decode cX8_cell 22 = .ok (.goto 4, 3) := by decide +kernel
theorem dX8_cell_25 : decode cX8_cell 25 = .ok (.iconst 0, 1) := by decide +kernel
theorem dX8_cell_26 : decode cX8_cell 26 = .ok (.ior, 1) := by decide +kernel
theorem dX8_cell_27 : decode cX8_cell 27 = .ok (.invokevirtual 82, 3) := by decide +kernel
theorem dX8_cell_30 : decode cX8_cell 30 = .ok (.istore_n 2, 1) := by decide +kernel
theorem dX8_cell_31 : decode cX8_cell 31 = .ok (.bipush 10, 2) := by decide +kernel
theorem dX8_cell_33 : decode cX8_cell 33 = .ok (.iload_n 2, 1) := by decide +kernel
theorem dX8_cell_34 : decode cX8_cell 34 = .ok (.imul, 1) := by decide +kernel
theorem dX8_cell_35 : decode cX8_cell 35 = .ok (.aload_n 0, 1) := by decide +kernel
theorem dX8_cell_36 : decode cX8_cell 36 = .ok (.iload_n 2, 1) := by decide +kernel
theorem dX8_cell_37 : decode cX8_cell 37 = .ok (.ifCond .ne 11, 3) := by decide +kernel
theorem dX8_cell_40 : decode cX8_cell 40 = .ok (.iload_n 1, 1) := by decide +kernel
theorem dX8_cell_41 : decode cX8_cell 41 = .ok (.sipush 1023, 3) := by decide +kernel
theorem dX8_cell_44 : decode cX8_cell 44 = .ok (.iand, 1) := by decide +kernel
theorem dX8_cell_45 : decode cX8_cell 45 = .ok (.goto 7, 3) := by decide +kernel
theorem dX8_cell_48 : decode cX8_cell 48 = .ok (.iload_n 1, 1) := by decide +kernel
theorem dX8_cell_49 : decode cX8_cell 49 = .ok (.bipush 10, 2) := by decide +kernel
theorem dX8_cell_51 : decode cX8_cell 51 = .ok (.ishr, 1) := by decide +kernel
theorem dX8_cell_52 : decode cX8_cell 52 = .ok (.invokevirtual 82, 3) := by decide +kernel
theorem dX8_cell_55 : decode cX8_cell 55 = .ok (.iadd, 1) := by decide +kernel
theorem dX8_cell_56 : decode cX8_cell 56 = .ok (.ireturn, 1) := by decide +kernel
theorem dX8_freeCells_0 : decode cX8_freeCells 0 = .ok (.sipush 4095, 3) := by decide +kernel
theorem dX8_freeCells_3 : decode cX8_freeCells 3 = .ok (.istore_n 1, 1) := by decide +kernel
theorem dX8_freeCells_4 : decode cX8_freeCells 4 = .ok (.iconst 0, 1) := by decide +kernel
theorem dX8_freeCells_5 : decode cX8_freeCells 5 = .ok (.istore_n 2, 1) := by decide +kernel
theorem dX8_freeCells_6 : decode cX8_freeCells 6 = .ok (.iload_n 2, 1) := by decide +kernel
theorem dX8_freeCells_7 : decode cX8_freeCells 7 = .ok (.aload_n 0, 1) := by decide +kernel
theorem dX8_freeCells_8 : decode cX8_freeCells 8 = .ok (.getfield 86, 3) := by decide +kernel
theorem dX8_freeCells_11 : decode cX8_freeCells 11 = .ok (.if_icmp .ge 24, 3) := by decide +kernel
theorem dX8_freeCells_14 : decode cX8_freeCells 14 = .ok (.iload_n 1, 1) := by decide +kernel
theorem dX8_freeCells_15 : decode cX8_freeCells 15 = .ok (.iconst 1, 1) := by decide +kernel
theorem dX8_freeCells_16 : decode cX8_freeCells 16 = .ok (.aload_n 0, 1) := by decide +kernel
theorem dX8_freeCells_17 : decode cX8_freeCells 17 = .ok (.getfield 7, 3) := by decide +kernel
theorem dX8_freeCells_20 : decode cX8_freeCells 20 = .ok (.iconst 4, 1) := by decide +kernel
theorem dX8_freeCells_21 : decode cX8_freeCells 21 = .ok (.iload_n 2, 1) := by decide +kernel
theorem dX8_freeCells_22 : decode cX8_freeCells 22 = .ok (.imul, 1) := by decide +kernel
theorem dX8_freeCells_23 : decode cX8_freeCells 23 = .ok (.iaload, 1) := by decide +kernel
theorem dX8_freeCells_24 : decode cX8_freeCells 24 = .ok (.ishl, 1) := by decide +kernel
theorem dX8_freeCells_25 : decode cX8_freeCells 25 = .ok (.iconst (-1), 1) := by decide +kernel
theorem dX8_freeCells_26 : decode cX8_freeCells 26 = .ok (.ixor, 1) := by decide +kernel
theorem dX8_freeCells_27 : decode cX8_freeCells 27 = .ok (.iand, 1) := by decide +kernel
theorem dX8_freeCells_28 : decode cX8_freeCells 28 = .ok (.istore_n 1, 1) := by decide +kernel
theorem dX8_freeCells_29 : decode cX8_freeCells 29 = .ok (.iinc 2 1, 3) := by decide +kernel
theorem dX8_freeCells_32 : decode cX8_freeCells 32 = .ok (.goto (-26), 3) := by decide +kernel
theorem dX8_freeCells_35 : decode cX8_freeCells 35 = .ok (.iload_n 1, 1) := by decide +kernel
theorem dX8_freeCells_36 : decode cX8_freeCells 36 = .ok (.ireturn, 1) := by decide +kernel
theorem dX8_openWires_0 : decode cX8_openWires 0 = .ok (.iconst 1, 1) := by decide +kernel
theorem dX8_openWires_1 : decode cX8_openWires 1 = .ok (.aload_n 0, 1) := by decide +kernel
theorem dX8_openWires_2 : decode cX8_openWires 2 = .ok (.getfield 86, 3) := by decide +kernel
theorem dX8_openWires_5 : decode cX8_openWires 5 = .ok (.ishl, 1) := by decide +kernel
theorem dX8_openWires_6 : decode cX8_openWires 6 = .ok (.iconst 1, 1) := by decide +kernel
theorem dX8_openWires_7 : decode cX8_openWires 7 = .ok (.isub, 1) := by decide +kernel
theorem dX8_openWires_8 : decode cX8_openWires 8 = .ok (.iconst 1, 1) := by decide +kernel
theorem dX8_openWires_9 : decode cX8_openWires 9 = .ok (.iload_n 1, 1) := by decide +kernel
theorem dX8_openWires_10 : decode cX8_openWires 10 = .ok (.ishl, 1) := by decide +kernel
theorem dX8_openWires_11 : decode cX8_openWires 11 = .ok (.iconst (-1), 1) := by decide +kernel
theorem dX8_openWires_12 : decode cX8_openWires 12 = .ok (.ixor, 1) := by decide +kernel
theorem dX8_openWires_13 : decode cX8_openWires 13 = .ok (.iand, 1) := by decide +kernel
theorem dX8_openWires_14 : decode cX8_openWires 14 = .ok (.aload_n 0, 1) := by decide +kernel
theorem dX8_openWires_15 : decode cX8_openWires 15 = .ok (.getfield 7, 3) := by decide +kernel
theorem dX8_openWires_18 : decode cX8_openWires 18 = .ok (.iconst 4, 1) := by decide +kernel
theorem dX8_openWires_19 : decode cX8_openWires 19 = .ok (.iload_n 1, 1) := by decide +kernel
theorem dX8_openWires_20 : decode cX8_openWires 20 = .ok (.imul, 1) := by decide +kernel
theorem dX8_openWires_21 : decode cX8_openWires 21 = .ok (.iconst 3, 1) := by decide +kernel
theorem dX8_openWires_22 : decode cX8_openWires 22 = .ok (.iadd, 1) := by decide +kernel
theorem dX8_openWires_23 : decode cX8_openWires 23 = .ok (.iaload, 1) := by decide +kernel
theorem dX8_openWires_24 : decode cX8_openWires 24 = .ok (.iconst (-1), 1) := by decide +kernel
theorem dX8_openWires_25 : decode cX8_openWires 25 = .ok (.ixor, 1) := by decide +kernel
theorem dX8_openWires_26 : decode cX8_openWires 26 = .ok (.iand, 1) := by decide +kernel
theorem dX8_openWires_27 : decode cX8_openWires 27 = .ok (.ireturn, 1) := by decide +kernel
set_option maxRecDepth 20000 in
theorem ggX8_begins_X8_openWires : GoodIn wsX8_begins wsX8_openWires := goodIn_r _ [6, 1, 7, 8, 9, 10, 11, 12, 13, 14, 15, 16, 17, 18, 19, 20, 21, 22, 23, 24, 25, 26, 27, 28, 29, 30, 31, 32, 33, 34, 35] (by decide +kernel) (by decide +kernel)
set_option maxRecDepth 20000 in
theorem gX8_begins_X8_openWires : GoodIn wsX8_begins (wsV RX8 89 RX8 yX8_openWires wsX8_openWires) := goodIn_app (goodIn_of _ (by decide +kernel)) ggX8_begins_X8_openWires
theorem dX8_begins_0 : decode cX8_begins 0 = .ok (.iconst 0, 1) := by decide +kernel
theorem dX8_begins_1 : decode cX8_begins 1 = .ok (.istore_n 1, 1) := by decide +kernel
theorem dX8_begins_2 : decode cX8_begins 2 = .ok (.iconst 0, 1) := by decide +kernel
theorem dX8_begins_3 : decode cX8_begins 3 = .ok (.istore_n 2, 1) := by decide +kernel
theorem dX8_begins_4 : decode cX8_begins 4 = .ok (.iload_n 2, 1) := by decide +kernel
theorem dX8_begins_5 : decode cX8_begins 5 = .ok (.aload_n 0, 1) := by decide +kernel
theorem dX8_begins_6 : decode cX8_begins 6 = .ok (.getfield 86, 3) := by decide +kernel
theorem dX8_begins_9 : decode cX8_begins 9 = .ok (.if_icmp .ge 27, 3) := by decide +kernel
theorem dX8_begins_12 : decode cX8_begins 12 = .ok (.iload_n 1, 1) := by decide +kernel
theorem dX8_begins_13 : decode cX8_begins 13 = .ok (.aload_n 0, 1) := by decide +kernel
theorem dX8_begins_14 : decode cX8_begins 14 = .ok (.iload_n 2, 1) := by decide +kernel
theorem dX8_begins_15 : decode cX8_begins 15 = .ok (.invokevirtual 89, 3) := by decide +kernel
theorem dX8_begins_18 : decode cX8_begins 18 = .ok (.ifCond .eq 9, 3) := by decide +kernel
theorem dX8_begins_21 : decode cX8_begins 21 = .ok (.iconst 1, 1) := by decide +kernel
theorem dX8_begins_22 : decode cX8_begins 22 = .ok (.iload_n 2, 1) := by decide +kernel
theorem dX8_begins_23 : decode cX8_begins 23 = .ok (.ishl, 1) := by decide +kernel
theorem dX8_begins_24 : decode cX8_begins 24 = .ok (.goto 4, 3) := by decide +kernel
theorem dX8_begins_27 : decode cX8_begins 27 = .ok (.iconst 0, 1) := by decide +kernel
theorem dX8_begins_28 : decode cX8_begins 28 = .ok (.ior, 1) := by decide +kernel
theorem dX8_begins_29 : decode cX8_begins 29 = .ok (.istore_n 1, 1) := by decide +kernel
theorem dX8_begins_30 : decode cX8_begins 30 = .ok (.iinc 2 1, 3) := by decide +kernel
theorem dX8_begins_33 : decode cX8_begins 33 = .ok (.goto (-29), 3) := by decide +kernel
theorem dX8_begins_36 : decode cX8_begins 36 = .ok (.iload_n 1, 1) := by decide +kernel
theorem dX8_begins_37 : decode cX8_begins 37 = .ok (.ireturn, 1) := by decide +kernel
theorem dX8_shuttable_0 : decode cX8_shuttable 0 = .ok (.sipush 4095, 3) := by decide +kernel
theorem dX8_shuttable_3 : decode cX8_shuttable 3 = .ok (.aload_n 0, 1) := by decide +kernel
theorem dX8_shuttable_4 : decode cX8_shuttable 4 = .ok (.getfield 92, 3) := by decide +kernel
theorem dX8_shuttable_7 : decode cX8_shuttable 7 = .ok (.iconst (-1), 1) := by decide +kernel
theorem dX8_shuttable_8 : decode cX8_shuttable 8 = .ok (.ixor, 1) := by decide +kernel
theorem dX8_shuttable_9 : decode cX8_shuttable 9 = .ok (.iand, 1) := by decide +kernel
theorem dX8_shuttable_10 : decode cX8_shuttable 10 = .ok (.istore_n 1, 1) := by decide +kernel
theorem dX8_shuttable_11 : decode cX8_shuttable 11 = .ok (.iconst 0, 1) := by decide +kernel
theorem dX8_shuttable_12 : decode cX8_shuttable 12 = .ok (.istore_n 2, 1) := by decide +kernel
theorem dX8_shuttable_13 : decode cX8_shuttable 13 = .ok (.iload_n 2, 1) := by decide +kernel
theorem dX8_shuttable_14 : decode cX8_shuttable 14 = .ok (.aload_n 0, 1) := by decide +kernel
theorem dX8_shuttable_15 : decode cX8_shuttable 15 = .ok (.getfield 95, 3) := by decide +kernel
theorem dX8_shuttable_18 : decode cX8_shuttable 18 = .ok (.if_icmp .ge 24, 3) := by decide +kernel
theorem dX8_shuttable_21 : decode cX8_shuttable 21 = .ok (.iload_n 1, 1) := by decide +kernel
theorem dX8_shuttable_22 : decode cX8_shuttable 22 = .ok (.iconst 1, 1) := by decide +kernel
theorem dX8_shuttable_23 : decode cX8_shuttable 23 = .ok (.aload_n 0, 1) := by decide +kernel
theorem dX8_shuttable_24 : decode cX8_shuttable 24 = .ok (.getfield 13, 3) := by decide +kernel
theorem dX8_shuttable_27 : decode cX8_shuttable 27 = .ok (.iconst 2, 1) := by decide +kernel
theorem dX8_shuttable_28 : decode cX8_shuttable 28 = .ok (.iload_n 2, 1) := by decide +kernel
theorem dX8_shuttable_29 : decode cX8_shuttable 29 = .ok (.imul, 1) := by decide +kernel
theorem dX8_shuttable_30 : decode cX8_shuttable 30 = .ok (.iaload, 1) := by decide +kernel
theorem dX8_shuttable_31 : decode cX8_shuttable 31 = .ok (.ishl, 1) := by decide +kernel
theorem dX8_shuttable_32 : decode cX8_shuttable 32 = .ok (.iconst (-1), 1) := by decide +kernel
theorem dX8_shuttable_33 : decode cX8_shuttable 33 = .ok (.ixor, 1) := by decide +kernel
theorem dX8_shuttable_34 : decode cX8_shuttable 34 = .ok (.iand, 1) := by decide +kernel
theorem dX8_shuttable_35 : decode cX8_shuttable 35 = .ok (.istore_n 1, 1) := by decide +kernel
theorem dX8_shuttable_36 : decode cX8_shuttable 36 = .ok (.iinc 2 1, 3) := by decide +kernel
theorem dX8_shuttable_39 : decode cX8_shuttable 39 = .ok (.goto (-26), 3) := by decide +kernel
theorem dX8_shuttable_42 : decode cX8_shuttable 42 = .ok (.iload_n 1, 1) := by decide +kernel
theorem dX8_shuttable_43 : decode cX8_shuttable 43 = .ok (.ireturn, 1) := by decide +kernel
set_option maxRecDepth 20000 in
theorem ggX8_readText_X8_readPart : GoodIn wsX8_readText wsX8_readPart := goodIn_r _ [12, 3, 1, 13, 2, 5, 4, 14, 6, 7, 15, 16, 17, 11, 18, 19, 20, 21, 22, 23, 24, 25, 26, 27, 28, 29, 30, 31, 32, 33, 34, 35, 36, 37, 38, 39, 40, 41, 42, 43, 44, 45, 46, 47, 48, 49, 50, 51, 52, 53, 54, 55, 56, 57, 58, 59, 60, 61, 62, 63, 64, 65, 66, 67, 68, 69, 70, 71, 72, 73, 74] (by decide +kernel) (by decide +kernel)
set_option maxRecDepth 20000 in
theorem gX8_readText_X8_readPart : GoodIn wsX8_readText (wsV RX8 98 RX8 yX8_readPart wsX8_readPart) := goodIn_app (goodIn_of _ (by decide +kernel)) ggX8_readText_X8_readPart
theorem dX8_readText_0 : decode cX8_readText 0 = .ok (.aload_n 0, 1) := by decide +kernel
theorem dX8_readText_1 : decode cX8_readText 1 = .ok (.iconst 0, 1) := by decide +kernel
theorem dX8_readText_2 : decode cX8_readText 2 = .ok (.putfield 74, 3) := by decide +kernel
theorem dX8_readText_5 : decode cX8_readText 5 = .ok (.aload_n 0, 1) := by decide +kernel
theorem dX8_readText_6 : decode cX8_readText 6 = .ok (.bipush (-9), 2) := by decide +kernel
theorem dX8_readText_8 : decode cX8_readText 8 = .ok (.putfield 71, 3) := by decide +kernel
theorem dX8_readText_11 : decode cX8_readText 11 = .ok (.aload_n 0, 1) := by decide +kernel
theorem dX8_readText_12 : decode cX8_readText 12 = .ok (.iconst 0, 1) := by decide +kernel
theorem dX8_readText_13 : decode cX8_readText 13 = .ok (.putfield 86, 3) := by decide +kernel
theorem dX8_readText_16 : decode cX8_readText 16 = .ok (.aload_n 0, 1) := by decide +kernel
theorem dX8_readText_17 : decode cX8_readText 17 = .ok (.iconst 0, 1) := by decide +kernel
theorem dX8_readText_18 : decode cX8_readText 18 = .ok (.putfield 95, 3) := by decide +kernel
theorem dX8_readText_21 : decode cX8_readText 21 = .ok (.aload_n 0, 1) := by decide +kernel
theorem dX8_readText_22 : decode cX8_readText 22 = .ok (.iconst 0, 1) := by decide +kernel
theorem dX8_readText_23 : decode cX8_readText 23 = .ok (.putfield 92, 3) := by decide +kernel
theorem dX8_readText_26 : decode cX8_readText 26 = .ok (.aload_n 0, 1) := by decide +kernel
theorem dX8_readText_27 : decode cX8_readText 27 = .ok (.getfield 66, 3) := by decide +kernel
theorem dX8_readText_30 : decode cX8_readText 30 = .ok (.ifCond .eq 14, 3) := by decide +kernel
theorem dX8_readText_33 : decode cX8_readText 33 = .ok (.aload_n 0, 1) := by decide +kernel
theorem dX8_readText_34 : decode cX8_readText 34 = .ok (.getfield 34, 3) := by decide +kernel
theorem dX8_readText_37 : decode cX8_readText 37 = .ok (.iconst 0, 1) := by decide +kernel
theorem dX8_readText_38 : decode cX8_readText 38 = .ok (.iaload, 1) := by decide +kernel
theorem dX8_readText_39 : decode cX8_readText 39 = .ok (.bipush 70, 2) := by decide +kernel
theorem dX8_readText_41 : decode cX8_readText 41 = .ok (.if_icmp .eq 5, 3) := by decide +kernel
theorem dX8_readText_44 : decode cX8_readText 44 = .ok (.iconst 0, 1) := by decide +kernel
theorem dX8_readText_45 : decode cX8_readText 45 = .ok (.ireturn, 1) := by decide +kernel
theorem dX8_readText_46 : decode cX8_readText 46 = .ok (.aload_n 0, 1) := by decide +kernel
theorem dX8_readText_47 : decode cX8_readText 47 = .ok (.iconst 1, 1) := by decide +kernel
theorem dX8_readText_48 : decode cX8_readText 48 = .ok (.putfield 74, 3) := by decide +kernel
theorem dX8_readText_51 : decode cX8_readText 51 = .ok (.aload_n 0, 1) := by decide +kernel
theorem dX8_readText_52 : decode cX8_readText 52 = .ok (.getfield 71, 3) := by decide +kernel
theorem dX8_readText_55 : decode cX8_readText 55 = .ok (.bipush (-9), 2) := by decide +kernel
theorem dX8_readText_57 : decode cX8_readText 57 = .ok (.if_icmp .ne 30, 3) := by decide +kernel
theorem dX8_readText_60 : decode cX8_readText 60 = .ok (.aload_n 0, 1) := by decide +kernel
theorem dX8_readText_61 : decode cX8_readText 61 = .ok (.getfield 74, 3) := by decide +kernel
theorem dX8_readText_64 : decode cX8_readText 64 = .ok (.aload_n 0, 1) := by decide +kernel
theorem dX8_readText_65 : decode cX8_readText 65 = .ok (.getfield 66, 3) := by decide +kernel
theorem dX8_readText_68 : decode cX8_readText 68 = .ok (.if_icmp .ge 19, 3) := by decide +kernel
theorem dX8_readText_71 : decode cX8_readText 71 = .ok (.aload_n 0, 1) := by decide +kernel
theorem dX8_readText_72 : decode cX8_readText 72 = .ok (.aload_n 0, 1) := by decide +kernel
theorem dX8_readText_73 : decode cX8_readText 73 = .ok (.getfield 34, 3) := by decide +kernel
theorem dX8_readText_76 : decode cX8_readText 76 = .ok (.aload_n 0, 1) := by decide +kernel
theorem dX8_readText_77 : decode cX8_readText 77 = .ok (.getfield 74, 3) := by decide +kernel
theorem dX8_readText_80 : decode cX8_readText 80 = .ok (.iaload, 1) := by decide +kernel
theorem dX8_readText_81 : decode cX8_readText 81 = .ok (.invokevirtual 98, 3) := by decide +kernel
theorem dX8_readText_84 : decode cX8_readText 84 = .ok (.goto (-33), 3) := by decide +kernel
theorem dX8_readText_87 : decode cX8_readText 87 = .ok (.aload_n 0, 1) := by decide +kernel
theorem dX8_readText_88 : decode cX8_readText 88 = .ok (.getfield 71, 3) := by decide +kernel
theorem dX8_readText_91 : decode cX8_readText 91 = .ok (.ireturn, 1) := by decide +kernel
set_option maxRecDepth 20000 in
theorem ggX8_readPart_X8_freeCells : GoodIn wsX8_readPart wsX8_freeCells := goodIn_r _ [14, 1, 3, 43, 44, 45, 46, 47, 48, 49, 50, 51, 52, 53, 54, 55, 56, 57, 58, 59, 60, 61, 62, 63, 64, 65, 66, 67, 68, 69, 70] (by decide +kernel) (by decide +kernel)
set_option maxRecDepth 20000 in
theorem gX8_readPart_X8_freeCells : GoodIn wsX8_readPart (wsV RX8 102 RX8 yX8_freeCells wsX8_freeCells) := goodIn_app (goodIn_of _ (by decide +kernel)) ggX8_readPart_X8_freeCells
set_option maxRecDepth 20000 in
theorem ggX8_readPart_X8_cell : GoodIn wsX8_readPart wsX8_cell := goodIn_r _ [18, 19, 20, 21, 13, 22, 4, 2, 8, 9, 23, 24, 25, 26, 27, 28, 29, 30, 43, 44, 45, 46, 47, 48, 49, 50, 51, 52, 53, 54, 55, 56, 57, 58, 59, 60, 61, 62, 63, 64, 65, 66, 67, 68, 69, 70] (by decide +kernel) (by decide +kernel)
set_option maxRecDepth 20000 in
theorem gX8_readPart_X8_cell : GoodIn wsX8_readPart (wsV RX8 106 RX8 yX8_cell wsX8_cell) := goodIn_app (goodIn_of _ (by decide +kernel)) ggX8_readPart_X8_cell
set_option maxRecDepth 20000 in
theorem ggX8_readPart_X8_figure : GoodIn wsX8_readPart wsX8_figure := goodIn_r _ [22, 4, 2, 8, 9, 23, 24, 25, 13, 26, 27, 28, 29, 30, 43, 44, 45, 46, 47, 48, 49, 50, 51, 52, 53, 54, 55, 56, 57, 58, 59, 60, 61, 62, 63, 64, 65, 66, 67, 68, 69, 70] (by decide +kernel) (by decide +kernel)
set_option maxRecDepth 20000 in
theorem gX8_readPart_X8_figure : GoodIn wsX8_readPart (wsV RX8 82 RX8 yX8_figure wsX8_figure) := goodIn_app (goodIn_of _ (by decide +kernel)) ggX8_readPart_X8_figure
set_option maxRecDepth 20000 in
theorem ggX8_readPart_X8_begins : GoodIn wsX8_readPart wsX8_begins := goodIn_r _ [34, 1, 35, 36, 37, 13, 38, 3, 43, 44, 45, 46, 47, 48, 49, 50, 51, 52, 53, 54, 55, 56, 57, 58, 59, 60, 61, 62, 63, 64, 65, 66, 67, 68, 69, 70] (by decide +kernel) (by decide +kernel)
set_option maxRecDepth 20000 in
theorem gX8_readPart_X8_begins : GoodIn wsX8_readPart (wsV RX8 109 RX8 yX8_begins wsX8_begins) := goodIn_app (goodIn_of _ (by decide +kernel)) ggX8_readPart_X8_begins
set_option maxRecDepth 20000 in
theorem ggX8_readPart_X8_openWires : GoodIn wsX8_readPart wsX8_openWires := goodIn_r _ [38, 1, 3, 43, 44, 45, 46, 47, 48, 49, 50, 51, 52, 53, 54, 55, 56, 57, 58, 59, 60, 61, 62, 63, 64, 65, 66, 67, 68, 69, 70] (by decide +kernel) (by decide +kernel)
set_option maxRecDepth 20000 in
theorem gX8_readPart_X8_openWires : GoodIn wsX8_readPart (wsV RX8 89 RX8 yX8_openWires wsX8_openWires) := goodIn_app (goodIn_of _ (by decide +kernel)) ggX8_readPart_X8_openWires
set_option maxRecDepth 20000 in
theorem ggX8_readPart_X8_shuttable : GoodIn wsX8_readPart wsX8_shuttable := goodIn_r _ [42, 5, 6, 7, 43, 44, 45, 46, 47, 48, 49, 50, 51, 52, 53, 54, 55, 56, 57, 58, 59, 60, 61, 62, 63, 64, 65, 66, 67, 68, 69, 70] (by decide +kernel) (by decide +kernel)
set_option maxRecDepth 20000 in
theorem gX8_readPart_X8_shuttable : GoodIn wsX8_readPart (wsV RX8 112 RX8 yX8_shuttable wsX8_shuttable) := goodIn_app (goodIn_of _ (by decide +kernel)) ggX8_readPart_X8_shuttable
set_option maxRecDepth 20000 in
theorem ggX8_readPart_X8_fail : GoodIn wsX8_readPart wsX8_fail := goodIn_r _ [30, 4, 2, 43, 44, 45, 46, 47, 48, 49, 50, 51, 52, 53, 54, 55, 56, 57, 58, 59, 60, 61, 62, 63, 64, 65, 66, 67, 68, 69, 70] (by decide +kernel) (by decide +kernel)
set_option maxRecDepth 20000 in
theorem gX8_readPart_X8_fail : GoodIn wsX8_readPart (wsV RX8 79 RX8 yX8_fail wsX8_fail) := goodIn_app (goodIn_of _ (by decide +kernel)) ggX8_readPart_X8_fail
theorem dX8_readPart_0 : decode cX8_readPart 0 = .ok (.iload_n 1, 1) := by decide +kernel
theorem dX8_readPart_1 : decode cX8_readPart 1 = .ok (.bipush 84, 2) := by decide +kernel
theorem dX8_readPart_3 : decode cX8_readPart 3 = .ok (.if_icmp .ne 92, 3) := by decide +kernel
theorem dX8_readPart_6 : decode cX8_readPart 6 = .ok (.aload_n 0, 1) := by decide +kernel
theorem dX8_readPart_7 : decode cX8_readPart 7 = .ok (.getfield 86, 3) := by decide +kernel
theorem dX8_readPart_10 : decode cX8_readPart 10 = .ok (.bipush 6, 2) := by decide +kernel
theorem dX8_readPart_12 : decode cX8_readPart 12 = .ok (.if_icmp .ge 83, 3) := by decide +kernel
theorem dX8_readPart_15 : decode cX8_readPart 15 = .ok (.aload_n 0, 1) := by decide +kernel
theorem dX8_readPart_16 : decode cX8_readPart 16 = .ok (.dup, 1) := by decide +kernel
theorem dX8_readPart_17 : decode cX8_readPart 17 = .ok (.getfield 74, 3) := by decide +kernel
theorem dX8_readPart_20 : decode cX8_readPart 20 = .ok (.iconst 1, 1) := by decide +kernel
theorem dX8_readPart_21 : decode cX8_readPart 21 = .ok (.iadd, 1) := by decide +kernel
theorem dX8_readPart_22 : decode cX8_readPart 22 = .ok (.putfield 74, 3) := by decide +kernel
theorem dX8_readPart_25 : decode cX8_readPart 25 = .ok (.iconst 4, 1) := by decide +kernel
theorem dX8_readPart_26 : decode cX8_readPart 26 = .ok (.aload_n 0, 1) := by decide +kernel
theorem dX8_readPart_27 : decode cX8_readPart 27 = .ok (.getfield 86, 3) := by decide +kernel
theorem dX8_readPart_30 : decode cX8_readPart 30 = .ok (.imul, 1) := by decide +kernel
theorem dX8_readPart_31 : decode cX8_readPart 31 = .ok (.istore_n 2, 1) := by decide +kernel
theorem dX8_readPart_32 : decode cX8_readPart 32 = .ok (.aload_n 0, 1) := by decide +kernel
theorem dX8_readPart_33 : decode cX8_readPart 33 = .ok (.getfield 7, 3) := by decide +kernel
theorem dX8_readPart_36 : decode cX8_readPart 36 = .ok (.iload_n 2, 1) := by decide +kernel
theorem dX8_readPart_37 : decode cX8_readPart 37 = .ok (.aload_n 0, 1) := by decide +kernel
theorem dX8_readPart_38 : decode cX8_readPart 38 = .ok (.aload_n 0, 1) := by decide +kernel
theorem dX8_readPart_39 : decode cX8_readPart 39 = .ok (.invokevirtual 102, 3) := by decide +kernel
theorem dX8_readPart_42 : decode cX8_readPart 42 = .ok (.invokevirtual 106, 3) := by decide +kernel
theorem dX8_readPart_45 : decode cX8_readPart 45 = .ok (.iastore, 1) := by decide +kernel
theorem dX8_readPart_46 : decode cX8_readPart 46 = .ok (.aload_n 0, 1) := by decide +kernel
theorem dX8_readPart_47 : decode cX8_readPart 47 = .ok (.getfield 7, 3) := by decide +kernel
theorem dX8_readPart_50 : decode cX8_readPart 50 = .ok (.iload_n 2, 1) := by decide +kernel
theorem dX8_readPart_51 : decode cX8_readPart 51 = .ok (.iconst 1, 1) := by decide +kernel
theorem dX8_readPart_52 : decode cX8_readPart 52 = .ok (.iadd, 1) := by decide +kernel
theorem dX8_readPart_53 : decode cX8_readPart 53 = .ok (.aload_n 0, 1) := by decide +kernel
theorem dX8_readPart_54 : decode cX8_readPart 54 = .ok (.iconst 3, 1) := by decide +kernel
theorem dX8_readPart_55 : decode cX8_readPart 55 = .ok (.invokevirtual 82, 3) := by decide +kernel
theorem dX8_readPart_58 : decode cX8_readPart 58 = .ok (.iastore, 1) := by decide +kernel
theorem dX8_readPart_59 : decode cX8_readPart 59 = .ok (.aload_n 0, 1) := by decide +kernel
theorem dX8_readPart_60 : decode cX8_readPart 60 = .ok (.getfield 7, 3) := by decide +kernel
theorem dX8_readPart_63 : decode cX8_readPart 63 = .ok (.iload_n 2, 1) := by decide +kernel
theorem dX8_readPart_64 : decode cX8_readPart 64 = .ok (.iconst 2, 1) := by decide +kernel
theorem dX8_readPart_65 : decode cX8_readPart 65 = .ok (.iadd, 1) := by decide +kernel
theorem dX8_readPart_66 : decode cX8_readPart 66 = .ok (.aload_n 0, 1) := by decide +kernel
theorem dX8_readPart_67 : decode cX8_readPart 67 = .ok (.bipush 31, 2) := by decide +kernel
theorem dX8_readPart_69 : decode cX8_readPart 69 = .ok (.invokevirtual 82, 3) := by decide +kernel
theorem dX8_readPart_72 : decode cX8_readPart 72 = .ok (.iastore, 1) := by decide +kernel
theorem dX8_readPart_73 : decode cX8_readPart 73 = .ok (.aload_n 0, 1) := by decide +kernel
theorem dX8_readPart_74 : decode cX8_readPart 74 = .ok (.getfield 7, 3) := by decide +kernel
theorem dX8_readPart_77 : decode cX8_readPart 77 = .ok (.iload_n 2, 1) := by decide +kernel
theorem dX8_readPart_78 : decode cX8_readPart 78 = .ok (.iconst 3, 1) := by decide +kernel
theorem dX8_readPart_79 : decode cX8_readPart 79 = .ok (.iadd, 1) := by decide +kernel
theorem dX8_readPart_80 : decode cX8_readPart 80 = .ok (.iconst 0, 1) := by decide +kernel
theorem dX8_readPart_81 : decode cX8_readPart 81 = .ok (.iastore, 1) := by decide +kernel
theorem dX8_readPart_82 : decode cX8_readPart 82 = .ok (.aload_n 0, 1) := by decide +kernel
theorem dX8_readPart_83 : decode cX8_readPart 83 = .ok (.dup, 1) := by decide +kernel
theorem dX8_readPart_84 : decode cX8_readPart 84 = .ok (.getfield 86, 3) := by decide +kernel
theorem dX8_readPart_87 : decode cX8_readPart 87 = .ok (.iconst 1, 1) := by decide +kernel
theorem dX8_readPart_88 : decode cX8_readPart 88 = .ok (.iadd, 1) := by decide +kernel
theorem dX8_readPart_89 : decode cX8_readPart 89 = .ok (.putfield 86, 3) := by decide +kernel
theorem dX8_readPart_92 : decode cX8_readPart 92 = .ok (.goto 311, 3) := by decide +kernel
theorem dX8_readPart_95 : decode cX8_readPart 95 = .ok (.iload_n 1, 1) := by decide +kernel
theorem dX8_readPart_96 : decode cX8_readPart 96 = .ok (.bipush 87, 2) := by decide +kernel
theorem dX8_readPart_98 : decode cX8_readPart 98 = .ok (.if_icmp .ne 71, 3) := by decide +kernel
theorem dX8_readPart_101 : decode cX8_readPart 101 = .ok (.aload_n 0, 1) := by decide +kernel
theorem dX8_readPart_102 : decode cX8_readPart 102 = .ok (.invokevirtual 109, 3) := by decide +kernel
theorem dX8_readPart_105 : decode cX8_readPart 105 = .ok (.ifCond .eq 64, 3) := by decide +kernel
theorem dX8_readPart_108 : decode cX8_readPart 108 = .ok (.aload_n 0, 1) := by decide +kernel
theorem dX8_readPart_109 : decode cX8_readPart 109 = .ok (.dup, 1) := by decide +kernel
theorem dX8_readPart_110 : decode cX8_readPart 110 = .ok (.getfield 74, 3) := by decide +kernel
theorem dX8_readPart_113 : decode cX8_readPart 113 = .ok (.iconst 1, 1) := by decide +kernel
theorem dX8_readPart_114 : decode cX8_readPart 114 = .ok (.iadd, 1) := by decide +kernel
theorem dX8_readPart_115 : decode cX8_readPart 115 = .ok (.putfield 74, 3) := by decide +kernel
theorem dX8_readPart_118 : decode cX8_readPart 118 = .ok (.aload_n 0, 1) := by decide +kernel
theorem dX8_readPart_119 : decode cX8_readPart 119 = .ok (.aload_n 0, 1) := by decide +kernel
theorem dX8_readPart_120 : decode cX8_readPart 120 = .ok (.invokevirtual 109, 3) := by decide +kernel
theorem dX8_readPart_123 : decode cX8_readPart 123 = .ok (.invokevirtual 82, 3) := by decide +kernel
theorem dX8_readPart_126 : decode cX8_readPart 126 = .ok (.istore_n 2, 1) := by decide +kernel
theorem dX8_readPart_127 : decode cX8_readPart 127 = .ok (.aload_n 0, 1) := by decide +kernel
theorem dX8_readPart_128 : decode cX8_readPart 128 = .ok (.aload_n 0, 1) := by decide +kernel
theorem dX8_readPart_129 : decode cX8_readPart 129 = .ok (.iload_n 2, 1) := by decide +kernel
theorem dX8_readPart_130 : decode cX8_readPart 130 = .ok (.invokevirtual 89, 3) := by decide +kernel
theorem dX8_readPart_133 : decode cX8_readPart 133 = .ok (.invokevirtual 82, 3) := by decide +kernel
theorem dX8_readPart_136 : decode cX8_readPart 136 = .ok (.istore_n 3, 1) := by decide +kernel
theorem dX8_readPart_137 : decode cX8_readPart 137 = .ok (.aload_n 0, 1) := by decide +kernel
theorem dX8_readPart_138 : decode cX8_readPart 138 = .ok (.getfield 7, 3) := by decide +kernel
theorem dX8_readPart_141 : decode cX8_readPart 141 = .ok (.iconst 4, 1) := by decide +kernel
theorem dX8_readPart_142 : decode cX8_readPart 142 = .ok (.iload_n 2, 1) := by decide +kernel
theorem dX8_readPart_143 : decode cX8_readPart 143 = .ok (.imul, 1) := by decide +kernel
theorem dX8_readPart_144 : decode cX8_readPart 144 = .ok (.iconst 3, 1) := by decide +kernel
theorem dX8_readPart_145 : decode cX8_readPart 145 = .ok (.iadd, 1) := by decide +kernel
theorem dX8_readPart_146 : decode cX8_readPart 146 = .ok (.dup2, 1) := by decide +kernel
theorem dX8_readPart_147 : decode cX8_readPart 147 = .ok (.iaload, 1) := by decide +kernel
theorem dX8_readPart_148 : decode cX8_readPart 148 = .ok (.aload_n 0, 1) := by decide +kernel
theorem dX8_readPart_149 : decode cX8_readPart 149 = .ok (.getfield 71, 3) := by decide +kernel
theorem dX8_readPart_152 : decode cX8_readPart 152 = .ok (.bipush (-9), 2) := by decide +kernel
theorem dX8_readPart_154 : decode cX8_readPart 154 = .ok (.if_icmp .ne 9, 3) := by decide +kernel
theorem dX8_readPart_157 : decode cX8_readPart 157 = .ok (.iconst 1, 1) := by decide +kernel
theorem dX8_readPart_158 : decode cX8_readPart 158 = .ok (.iload_n 3, 1) := by decide +kernel
theorem dX8_readPart_159 : decode cX8_readPart 159 = .ok (.ishl, 1) := by decide +kernel
theorem dX8_readPart_160 : decode cX8_readPart 160 = .ok (.goto 4, 3) := by decide +kernel
theorem dX8_readPart_163 : decode cX8_readPart 163 = .ok (.iconst 0, 1) := by decide +kernel
theorem dX8_readPart_164 : decode cX8_readPart 164 = .ok (.ior, 1) := by decide +kernel
theorem dX8_readPart_165 : decode cX8_readPart 165 = .ok (.iastore, 1) := by decide +kernel
theorem dX8_readPart_166 : decode cX8_readPart 166 = .ok (.goto 237, 3) := by decide +kernel
theorem dX8_readPart_169 : decode cX8_readPart 169 = .ok (.iload_n 1, 1) := by decide +kernel
theorem dX8_readPart_170 : decode cX8_readPart 170 = .ok (.bipush 88, 2) := by decide +kernel
theorem dX8_readPart_172 : decode cX8_readPart 172 = .ok (.if_icmp .ne 57, 3) := by decide +kernel
theorem dX8_readPart_175 : decode cX8_readPart 175 = .ok (.aload_n 0, 1) := by decide +kernel
theorem dX8_readPart_176 : decode cX8_readPart 176 = .ok (.invokevirtual 112, 3) := by decide +kernel
theorem dX8_readPart_179 : decode cX8_readPart 179 = .ok (.ifCond .eq 50, 3) := by decide +kernel
theorem dX8_readPart_182 : decode cX8_readPart 182 = .ok (.aload_n 0, 1) := by decide +kernel
theorem dX8_readPart_183 : decode cX8_readPart 183 = .ok (.dup, 1) := by decide +kernel
theorem dX8_readPart_184 : decode cX8_readPart 184 = .ok (.getfield 74, 3) := by decide +kernel
theorem dX8_readPart_187 : decode cX8_readPart 187 = .ok (.iconst 1, 1) := by decide +kernel
theorem dX8_readPart_188 : decode cX8_readPart 188 = .ok (.iadd, 1) := by decide +kernel
theorem dX8_readPart_189 : decode cX8_readPart 189 = .ok (.putfield 74, 3) := by decide +kernel
theorem dX8_readPart_192 : decode cX8_readPart 192 = .ok (.aload_n 0, 1) := by decide +kernel
theorem dX8_readPart_193 : decode cX8_readPart 193 = .ok (.aload_n 0, 1) := by decide +kernel
theorem dX8_readPart_194 : decode cX8_readPart 194 = .ok (.invokevirtual 112, 3) := by decide +kernel
theorem dX8_readPart_197 : decode cX8_readPart 197 = .ok (.invokevirtual 106, 3) := by decide +kernel
theorem dX8_readPart_200 : decode cX8_readPart 200 = .ok (.istore_n 2, 1) := by decide +kernel
theorem dX8_readPart_201 : decode cX8_readPart 201 = .ok (.aload_n 0, 1) := by decide +kernel
theorem dX8_readPart_202 : decode cX8_readPart 202 = .ok (.dup, 1) := by decide +kernel
theorem dX8_readPart_203 : decode cX8_readPart 203 = .ok (.getfield 92, 3) := by decide +kernel
theorem dX8_readPart_206 : decode cX8_readPart 206 = .ok (.aload_n 0, 1) := by decide +kernel
theorem dX8_readPart_207 : decode cX8_readPart 207 = .ok (.getfield 71, 3) := by decide +kernel
theorem dX8_readPart_210 : decode cX8_readPart 210 = .ok (.bipush (-9), 2) := by decide +kernel
theorem dX8_readPart_212 : decode cX8_readPart 212 = .ok (.if_icmp .ne 9, 3) := by decide +kernel
theorem dX8_readPart_215 : decode cX8_readPart 215 = .ok (.iconst 1, 1) := by decide +kernel
theorem dX8_readPart_216 : decode cX8_readPart 216 = .ok (.iload_n 2, 1) := by decide +kernel
theorem dX8_readPart_217 : decode cX8_readPart 217 = .ok (.ishl, 1) := by decide +kernel
theorem dX8_readPart_218 : decode cX8_readPart 218 = .ok (.goto 4, 3) := by decide +kernel
theorem dX8_readPart_221 : decode cX8_readPart 221 = .ok (.iconst 0, 1) := by decide +kernel
theorem dX8_readPart_222 : decode cX8_readPart 222 = .ok (.ior, 1) := by decide +kernel
theorem dX8_readPart_223 : decode cX8_readPart 223 = .ok (.putfield 92, 3) := by decide +kernel
theorem dX8_readPart_226 : decode cX8_readPart 226 = .ok (.goto 177, 3) := by decide +kernel
theorem dX8_readPart_229 : decode cX8_readPart 229 = .ok (.iload_n 1, 1) := by decide +kernel
theorem dX8_readPart_230 : decode cX8_readPart 230 = .ok (.bipush 71, 2) := by decide +kernel
theorem dX8_readPart_232 : decode cX8_readPart 232 = .ok (.if_icmp .ne 167, 3) := by decide +kernel
theorem dX8_readPart_235 : decode cX8_readPart 235 = .ok (.aload_n 0, 1) := by decide +kernel
theorem dX8_readPart_236 : decode cX8_readPart 236 = .ok (.getfield 95, 3) := by decide +kernel
theorem dX8_readPart_239 : decode cX8_readPart 239 = .ok (.iconst 4, 1) := by decide +kernel
theorem dX8_readPart_240 : decode cX8_readPart 240 = .ok (.if_icmp .ge 159, 3) := by decide +kernel
theorem dX8_readPart_243 : decode cX8_readPart 243 = .ok (.aload_n 0, 1) := by decide +kernel
theorem dX8_readPart_244 : decode cX8_readPart 244 = .ok (.getfield 92, 3) := by decide +kernel
theorem dX8_readPart_247 : decode cX8_readPart 247 = .ok (.sipush 4095, 3) := by decide +kernel
theorem dX8_readPart_250 : decode cX8_readPart 250 = .ok (.if_icmp .eq 149, 3) := by decide +kernel
theorem dX8_readPart_253 : decode cX8_readPart 253 = .ok (.aload_n 0, 1) := by decide +kernel
theorem dX8_readPart_254 : decode cX8_readPart 254 = .ok (.dup, 1) := by decide +kernel
theorem dX8_readPart_255 : decode cX8_readPart 255 = .ok (.getfield 74, 3) := by decide +kernel
theorem dX8_readPart_258 : decode cX8_readPart 258 = .ok (.iconst 1, 1) := by decide +kernel
theorem dX8_readPart_259 : decode cX8_readPart 259 = .ok (.iadd, 1) := by decide +kernel
theorem dX8_readPart_260 : decode cX8_readPart 260 = .ok (.putfield 74, 3) := by decide +kernel
theorem dX8_readPart_263 : decode cX8_readPart 263 = .ok (.aload_n 0, 1) := by decide +kernel
theorem dX8_readPart_264 : decode cX8_readPart 264 = .ok (.getfield 13, 3) := by decide +kernel
theorem dX8_readPart_267 : decode cX8_readPart 267 = .ok (.iconst 2, 1) := by decide +kernel
theorem dX8_readPart_268 : decode cX8_readPart 268 = .ok (.aload_n 0, 1) := by decide +kernel
theorem dX8_readPart_269 : decode cX8_readPart 269 = .ok (.getfield 95, 3) := by decide +kernel
theorem dX8_readPart_272 : decode cX8_readPart 272 = .ok (.imul, 1) := by decide +kernel
theorem dX8_readPart_273 : decode cX8_readPart 273 = .ok (.aload_n 0, 1) := by decide +kernel
theorem dX8_readPart_274 : decode cX8_readPart 274 = .ok (.sipush 4095, 3) := by decide +kernel
theorem dX8_readPart_277 : decode cX8_readPart 277 = .ok (.aload_n 0, 1) := by decide +kernel
theorem dX8_readPart_278 : decode cX8_readPart 278 = .ok (.getfield 92, 3) := by decide +kernel
theorem dX8_readPart_281 : decode cX8_readPart 281 = .ok (.iconst (-1), 1) := by decide +kernel
theorem dX8_readPart_282 : decode cX8_readPart 282 = .ok (.ixor, 1) := by decide +kernel
theorem dX8_readPart_283 : decode cX8_readPart 283 = .ok (.iand, 1) := by decide +kernel
theorem dX8_readPart_284 : decode cX8_readPart 284 = .ok (.invokevirtual 106, 3) := by decide +kernel
theorem dX8_readPart_287 : decode cX8_readPart 287 = .ok (.iastore, 1) := by decide +kernel
theorem dX8_readPart_288 : decode cX8_readPart 288 = .ok (.aload_n 0, 1) := by decide +kernel
theorem dX8_readPart_289 : decode cX8_readPart 289 = .ok (.getfield 71, 3) := by decide +kernel
theorem dX8_readPart_292 : decode cX8_readPart 292 = .ok (.bipush (-9), 2) := by decide +kernel
theorem dX8_readPart_294 : decode cX8_readPart 294 = .ok (.if_icmp .ne 32, 3) := by decide +kernel
theorem dX8_readPart_297 : decode cX8_readPart 297 = .ok (.aload_n 0, 1) := by decide +kernel
theorem dX8_readPart_298 : decode cX8_readPart 298 = .ok (.getfield 74, 3) := by decide +kernel
theorem dX8_readPart_301 : decode cX8_readPart 301 = .ok (.aload_n 0, 1) := by decide +kernel
theorem dX8_readPart_302 : decode cX8_readPart 302 = .ok (.getfield 66, 3) := by decide +kernel
theorem dX8_readPart_305 : decode cX8_readPart 305 = .ok (.if_icmp .ge 21, 3) := by decide +kernel
theorem dX8_readPart_308 : decode cX8_readPart 308 = .ok (.aload_n 0, 1) := by decide +kernel
theorem dX8_readPart_309 : decode cX8_readPart 309 = .ok (.getfield 34, 3) := by decide +kernel
theorem dX8_readPart_312 : decode cX8_readPart 312 = .ok (.aload_n 0, 1) := by decide +kernel
theorem dX8_readPart_313 : decode cX8_readPart 313 = .ok (.getfield 74, 3) := by decide +kernel
theorem dX8_readPart_316 : decode cX8_readPart 316 = .ok (.iaload, 1) := by decide +kernel
theorem dX8_readPart_317 : decode cX8_readPart 317 = .ok (.bipush 45, 2) := by decide +kernel
theorem dX8_readPart_319 : decode cX8_readPart 319 = .ok (.if_icmp .ne 7, 3) := by decide +kernel
theorem dX8_readPart_322 : decode cX8_readPart 322 = .ok (.iconst 1, 1) := by decide +kernel
theorem dX8_readPart_323 : decode cX8_readPart 323 = .ok (.goto 4, 3) := by decide +kernel
theorem dX8_readPart_326 : decode cX8_readPart 326 = .ok (.iconst 0, 1) := by decide +kernel
theorem dX8_readPart_327 : decode cX8_readPart 327 = .ok (.istore_n 2, 1) := by decide +kernel
theorem dX8_readPart_328 : decode cX8_readPart 328 = .ok (.aload_n 0, 1) := by decide +kernel
theorem dX8_readPart_329 : decode cX8_readPart 329 = .ok (.dup, 1) := by decide +kernel
theorem dX8_readPart_330 : decode cX8_readPart 330 = .ok (.getfield 74, 3) := by decide +kernel
theorem dX8_readPart_333 : decode cX8_readPart 333 = .ok (.iload_n 2, 1) := by decide +kernel
theorem dX8_readPart_334 : decode cX8_readPart 334 = .ok (.ifCond .eq 7, 3) := by decide +kernel
theorem dX8_readPart_337 : decode cX8_readPart 337 = .ok (.iconst 1, 1) := by decide +kernel
theorem dX8_readPart_338 : decode cX8_readPart 338 = .ok (.goto 4, 3) := by decide +kernel
theorem dX8_readPart_341 : decode cX8_readPart 341 = .ok (.iconst 0, 1) := by decide +kernel
theorem dX8_readPart_342 : decode cX8_readPart 342 = .ok (.iadd, 1) := by decide +kernel
theorem dX8_readPart_343 : decode cX8_readPart 343 = .ok (.putfield 74, 3) := by decide +kernel
theorem dX8_readPart_346 : decode cX8_readPart 346 = .ok (.aload_n 0, 1) := by decide +kernel
theorem dX8_readPart_347 : decode cX8_readPart 347 = .ok (.getfield 13, 3) := by decide +kernel
theorem dX8_readPart_350 : decode cX8_readPart 350 = .ok (.iconst 2, 1) := by decide +kernel
theorem dX8_readPart_351 : decode cX8_readPart 351 = .ok (.aload_n 0, 1) := by decide +kernel
theorem dX8_readPart_352 : decode cX8_readPart 352 = .ok (.getfield 95, 3) := by decide +kernel
theorem dX8_readPart_355 : decode cX8_readPart 355 = .ok (.imul, 1) := by decide +kernel
theorem dX8_readPart_356 : decode cX8_readPart 356 = .ok (.iconst 1, 1) := by decide +kernel
theorem dX8_readPart_357 : decode cX8_readPart 357 = .ok (.iadd, 1) := by decide +kernel
theorem dX8_readPart_358 : decode cX8_readPart 358 = .ok (.iload_n 2, 1) := by decide +kernel
theorem dX8_readPart_359 : decode cX8_readPart 359 = .ok (.ifCond .eq 8, 3) := by decide +kernel
theorem dX8_readPart_362 : decode cX8_readPart 362 = .ok (.bipush (-9), 2) := by decide +kernel
theorem dX8_readPart_364 : decode cX8_readPart 364 = .ok (.goto 8, 3) := by decide +kernel
theorem dX8_readPart_367 : decode cX8_readPart 367 = .ok (.aload_n 0, 1) := by decide +kernel
theorem dX8_readPart_368 : decode cX8_readPart 368 = .ok (.iconst 3, 1) := by decide +kernel
theorem dX8_readPart_369 : decode cX8_readPart 369 = .ok (.invokevirtual 82, 3) := by decide +kernel
theorem dX8_readPart_372 : decode cX8_readPart 372 = .ok (.iastore, 1) := by decide +kernel
theorem dX8_readPart_373 : decode cX8_readPart 373 = .ok (.aload_n 0, 1) := by decide +kernel
theorem dX8_readPart_374 : decode cX8_readPart 374 = .ok (.dup, 1) := by decide +kernel
theorem dX8_readPart_375 : decode cX8_readPart 375 = .ok (.getfield 95, 3) := by decide +kernel
theorem dX8_readPart_378 : decode cX8_readPart 378 = .ok (.aload_n 0, 1) := by decide +kernel
theorem dX8_readPart_379 : decode cX8_readPart 379 = .ok (.getfield 71, 3) := by decide +kernel
theorem dX8_readPart_382 : decode cX8_readPart 382 = .ok (.bipush (-9), 2) := by decide +kernel
theorem dX8_readPart_384 : decode cX8_readPart 384 = .ok (.if_icmp .ne 7, 3) := by decide +kernel
theorem dX8_readPart_387 : decode cX8_readPart 387 = .ok (.iconst 1, 1) := by decide +kernel
theorem dX8_readPart_388 : decode cX8_readPart 388 = .ok (.goto 4, 3) := by decide +kernel
theorem dX8_readPart_391 : decode cX8_readPart 391 = .ok (.iconst 0, 1) := by decide +kernel
theorem dX8_readPart_392 : decode cX8_readPart 392 = .ok (.iadd, 1) := by decide +kernel
theorem dX8_readPart_393 : decode cX8_readPart 393 = .ok (.putfield 95, 3) := by decide +kernel
theorem dX8_readPart_396 : decode cX8_readPart 396 = .ok (.goto 7, 3) := by decide +kernel
theorem dX8_readPart_399 : decode cX8_readPart 399 = .ok (.aload_n 0, 1) := by decide +kernel
theorem dX8_readPart_400 : decode cX8_readPart 400 = .ok (.invokevirtual 79, 3) := by decide +kernel
theorem dX8_readPart_403 : decode cX8_readPart 403 = .ok (.return_, 1) := by decide +kernel
set_option maxRecDepth 20000 in
theorem ggX8_fault_X8_readText : GoodIn wsX8_fault wsX8_readText := goodIn_r _ [5, 6, 7, 8, 9, 10, 11, 12, 13, 14, 15, 4, 16, 17, 18, 19, 20, 21, 22, 23, 24, 25, 26, 27, 28, 29, 30, 31, 32, 33, 34, 35, 36, 37, 38, 39, 40, 41, 42, 43, 44, 45, 46, 47, 48, 49, 50, 51, 52, 53, 54, 55, 56, 57, 58, 59, 60, 61, 62, 63, 64, 65, 66, 67, 68, 69, 70, 71, 72, 73, 74, 75, 76, 77, 78] (by decide +kernel) (by decide +kernel)
set_option maxRecDepth 20000 in
theorem gX8_fault_X8_readText : GoodIn wsX8_fault (wsV RX8 115 RX8 yX8_readText wsX8_readText) := goodIn_app (goodIn_of _ (by decide +kernel)) ggX8_fault_X8_readText
theorem dX8_fault_0 : decode cX8_fault 0 = .ok (.aload_n 0, 1) := by decide +kernel
theorem dX8_fault_1 : decode cX8_fault 1 = .ok (.invokevirtual 115, 3) := by decide +kernel
theorem dX8_fault_4 : decode cX8_fault 4 = .ok (.ireturn, 1) := by decide +kernel
set_option maxRecDepth 20000 in
theorem ggX8_wood_X8_readText : GoodIn wsX8_wood wsX8_readText := goodIn_r _ [22, 23, 24, 1, 3, 5, 25, 26, 27, 28, 29, 21, 30, 10, 14, 31, 32, 33, 34, 35, 36, 37, 38, 39, 40, 41, 42, 43, 44, 45, 46, 47, 48, 49, 50, 51, 52, 53, 54, 55, 56, 57, 58, 59, 60, 61, 62, 63, 64, 65, 66, 67, 68, 69, 70, 71, 72, 73, 74, 75, 76, 77, 78, 79, 80, 81, 82, 83, 84, 85, 86, 87, 88, 89, 90] (by decide +kernel) (by decide +kernel)
set_option maxRecDepth 20000 in
theorem gX8_wood_X8_readText : GoodIn wsX8_wood (wsV RX8 115 RX8 yX8_readText wsX8_readText) := goodIn_app (goodIn_of _ (by decide +kernel)) ggX8_wood_X8_readText
theorem dX8_wood_0 : decode cX8_wood 0 = .ok (.aload_n 0, 1) := by decide +kernel
theorem dX8_wood_1 : decode cX8_wood 1 = .ok (.invokevirtual 115, 3) := by decide +kernel
theorem dX8_wood_4 : decode cX8_wood 4 = .ok (.bipush (-9), 2) := by decide +kernel
theorem dX8_wood_6 : decode cX8_wood 6 = .ok (.if_icmp .eq 6, 3) := by decide +kernel
theorem dX8_wood_9 : decode cX8_wood 9 = .ok (.bipush (-3), 2) := by decide +kernel
theorem dX8_wood_11 : decode cX8_wood 11 = .ok (.ireturn, 1) := by decide +kernel
theorem dX8_wood_12 : decode cX8_wood 12 = .ok (.aload_n 0, 1) := by decide +kernel
theorem dX8_wood_13 : decode cX8_wood 13 = .ok (.aload_n 0, 1) := by decide +kernel
theorem dX8_wood_14 : decode cX8_wood 14 = .ok (.getfield 86, 3) := by decide +kernel
theorem dX8_wood_17 : decode cX8_wood 17 = .ok (.putfield 56, 3) := by decide +kernel
theorem dX8_wood_20 : decode cX8_wood 20 = .ok (.aload_n 0, 1) := by decide +kernel
theorem dX8_wood_21 : decode cX8_wood 21 = .ok (.aload_n 0, 1) := by decide +kernel
theorem dX8_wood_22 : decode cX8_wood 22 = .ok (.getfield 95, 3) := by decide +kernel
theorem dX8_wood_25 : decode cX8_wood 25 = .ok (.putfield 118, 3) := by decide +kernel
theorem dX8_wood_28 : decode cX8_wood 28 = .ok (.aload_n 0, 1) := by decide +kernel
theorem dX8_wood_29 : decode cX8_wood 29 = .ok (.aload_n 0, 1) := by decide +kernel
theorem dX8_wood_30 : decode cX8_wood 30 = .ok (.getfield 92, 3) := by decide +kernel
theorem dX8_wood_33 : decode cX8_wood 33 = .ok (.putfield 121, 3) := by decide +kernel
theorem dX8_wood_36 : decode cX8_wood 36 = .ok (.aload_n 0, 1) := by decide +kernel
theorem dX8_wood_37 : decode cX8_wood 37 = .ok (.iconst 0, 1) := by decide +kernel
theorem dX8_wood_38 : decode cX8_wood 38 = .ok (.putfield 124, 3) := by decide +kernel
theorem dX8_wood_41 : decode cX8_wood 41 = .ok (.aload_n 0, 1) := by decide +kernel
theorem dX8_wood_42 : decode cX8_wood 42 = .ok (.getfield 31, 3) := by decide +kernel
theorem dX8_wood_45 : decode cX8_wood 45 = .ok (.iconst 0, 1) := by decide +kernel
theorem dX8_wood_46 : decode cX8_wood 46 = .ok (.iconst 1, 1) := by decide +kernel
theorem dX8_wood_47 : decode cX8_wood 47 = .ok (.aload_n 0, 1) := by decide +kernel
theorem dX8_wood_48 : decode cX8_wood 48 = .ok (.getfield 56, 3) := by decide +kernel
theorem dX8_wood_51 : decode cX8_wood 51 = .ok (.ishl, 1) := by decide +kernel
theorem dX8_wood_52 : decode cX8_wood 52 = .ok (.iconst 1, 1) := by decide +kernel
theorem dX8_wood_53 : decode cX8_wood 53 = .ok (.isub, 1) := by decide +kernel
theorem dX8_wood_54 : decode cX8_wood 54 = .ok (.iastore, 1) := by decide +kernel
theorem dX8_wood_55 : decode cX8_wood 55 = .ok (.aload_n 0, 1) := by decide +kernel
theorem dX8_wood_56 : decode cX8_wood 56 = .ok (.getfield 31, 3) := by decide +kernel
theorem dX8_wood_59 : decode cX8_wood 59 = .ok (.iconst 1, 1) := by decide +kernel
theorem dX8_wood_60 : decode cX8_wood 60 = .ok (.iconst 0, 1) := by decide +kernel
theorem dX8_wood_61 : decode cX8_wood 61 = .ok (.iastore, 1) := by decide +kernel
theorem dX8_wood_62 : decode cX8_wood 62 = .ok (.aload_n 0, 1) := by decide +kernel
theorem dX8_wood_63 : decode cX8_wood 63 = .ok (.getfield 31, 3) := by decide +kernel
theorem dX8_wood_66 : decode cX8_wood 66 = .ok (.iconst 2, 1) := by decide +kernel
theorem dX8_wood_67 : decode cX8_wood 67 = .ok (.iconst 0, 1) := by decide +kernel
theorem dX8_wood_68 : decode cX8_wood 68 = .ok (.iastore, 1) := by decide +kernel
theorem dX8_wood_69 : decode cX8_wood 69 = .ok (.aload_n 0, 1) := by decide +kernel
theorem dX8_wood_70 : decode cX8_wood 70 = .ok (.getfield 31, 3) := by decide +kernel
theorem dX8_wood_73 : decode cX8_wood 73 = .ok (.iconst 3, 1) := by decide +kernel
theorem dX8_wood_74 : decode cX8_wood 74 = .ok (.iconst 0, 1) := by decide +kernel
theorem dX8_wood_75 : decode cX8_wood 75 = .ok (.iastore, 1) := by decide +kernel
theorem dX8_wood_76 : decode cX8_wood 76 = .ok (.iconst 0, 1) := by decide +kernel
theorem dX8_wood_77 : decode cX8_wood 77 = .ok (.istore_n 1, 1) := by decide +kernel
theorem dX8_wood_78 : decode cX8_wood 78 = .ok (.iload_n 1, 1) := by decide +kernel
theorem dX8_wood_79 : decode cX8_wood 79 = .ok (.aload_n 0, 1) := by decide +kernel
theorem dX8_wood_80 : decode cX8_wood 80 = .ok (.getfield 56, 3) := by decide +kernel
theorem dX8_wood_83 : decode cX8_wood 83 = .ok (.if_icmp .ge 90, 3) := by decide +kernel
theorem dX8_wood_86 : decode cX8_wood 86 = .ok (.aload_n 0, 1) := by decide +kernel
theorem dX8_wood_87 : decode cX8_wood 87 = .ok (.getfield 16, 3) := by decide +kernel
theorem dX8_wood_90 : decode cX8_wood 90 = .ok (.iload_n 1, 1) := by decide +kernel
theorem dX8_wood_91 : decode cX8_wood 91 = .ok (.aload_n 0, 1) := by decide +kernel
theorem dX8_wood_92 : decode cX8_wood 92 = .ok (.getfield 7, 3) := by decide +kernel
theorem dX8_wood_95 : decode cX8_wood 95 = .ok (.iconst 4, 1) := by decide +kernel
theorem dX8_wood_96 : decode cX8_wood 96 = .ok (.iload_n 1, 1) := by decide +kernel
theorem dX8_wood_97 : decode cX8_wood 97 = .ok (.imul, 1) := by decide +kernel
theorem dX8_wood_98 : decode cX8_wood 98 = .ok (.iaload, 1) := by decide +kernel
theorem dX8_wood_99 : decode cX8_wood 99 = .ok (.iastore, 1) := by decide +kernel
theorem dX8_wood_100 : decode cX8_wood 100 = .ok (.aload_n 0, 1) := by decide +kernel
theorem dX8_wood_101 : decode cX8_wood 101 = .ok (.getfield 19, 3) := by decide +kernel
theorem dX8_wood_104 : decode cX8_wood 104 = .ok (.iload_n 1, 1) := by decide +kernel
theorem dX8_wood_105 : decode cX8_wood 105 = .ok (.aload_n 0, 1) := by decide +kernel
theorem dX8_wood_106 : decode cX8_wood 106 = .ok (.getfield 7, 3) := by decide +kernel
theorem dX8_wood_109 : decode cX8_wood 109 = .ok (.iconst 4, 1) := by decide +kernel
theorem dX8_wood_110 : decode cX8_wood 110 = .ok (.iload_n 1, 1) := by decide +kernel
theorem dX8_wood_111 : decode cX8_wood 111 = .ok (.imul, 1) := by decide +kernel
theorem dX8_wood_112 : decode cX8_wood 112 = .ok (.iconst 1, 1) := by decide +kernel
theorem dX8_wood_113 : decode cX8_wood 113 = .ok (.iadd, 1) := by decide +kernel
theorem dX8_wood_114 : decode cX8_wood 114 = .ok (.iaload, 1) := by decide +kernel
theorem dX8_wood_115 : decode cX8_wood 115 = .ok (.iastore, 1) := by decide +kernel
theorem dX8_wood_116 : decode cX8_wood 116 = .ok (.aload_n 0, 1) := by decide +kernel
theorem dX8_wood_117 : decode cX8_wood 117 = .ok (.getfield 22, 3) := by decide +kernel
theorem dX8_wood_120 : decode cX8_wood 120 = .ok (.iload_n 1, 1) := by decide +kernel
theorem dX8_wood_121 : decode cX8_wood 121 = .ok (.aload_n 0, 1) := by decide +kernel
theorem dX8_wood_122 : decode cX8_wood 122 = .ok (.getfield 7, 3) := by decide +kernel
theorem dX8_wood_125 : decode cX8_wood 125 = .ok (.iconst 4, 1) := by decide +kernel
theorem dX8_wood_126 : decode cX8_wood 126 = .ok (.iload_n 1, 1) := by decide +kernel
theorem dX8_wood_127 : decode cX8_wood 127 = .ok (.imul, 1) := by decide +kernel
theorem dX8_wood_128 : decode cX8_wood 128 = .ok (.iconst 2, 1) := by decide +kernel
theorem dX8_wood_129 : decode cX8_wood 129 = .ok (.iadd, 1) := by decide +kernel
theorem dX8_wood_130 : decode cX8_wood 130 = .ok (.iaload, 1) := by decide +kernel
theorem dX8_wood_131 : decode cX8_wood 131 = .ok (.iastore, 1) := by decide +kernel
theorem dX8_wood_132 : decode cX8_wood 132 = .ok (.aload_n 0, 1) := by decide +kernel
theorem dX8_wood_133 : decode cX8_wood 133 = .ok (.getfield 25, 3) := by decide +kernel
theorem dX8_wood_136 : decode cX8_wood 136 = .ok (.iload_n 1, 1) := by decide +kernel
theorem dX8_wood_137 : decode cX8_wood 137 = .ok (.aload_n 0, 1) := by decide +kernel
theorem dX8_wood_138 : decode cX8_wood 138 = .ok (.getfield 7, 3) := by decide +kernel
theorem dX8_wood_141 : decode cX8_wood 141 = .ok (.iconst 4, 1) := by decide +kernel
theorem dX8_wood_142 : decode cX8_wood 142 = .ok (.iload_n 1, 1) := by decide +kernel
theorem dX8_wood_143 : decode cX8_wood 143 = .ok (.imul, 1) := by decide +kernel
theorem dX8_wood_144 : decode cX8_wood 144 = .ok (.iconst 3, 1) := by decide +kernel
theorem dX8_wood_145 : decode cX8_wood 145 = .ok (.iadd, 1) := by decide +kernel
theorem dX8_wood_146 : decode cX8_wood 146 = .ok (.iaload, 1) := by decide +kernel
theorem dX8_wood_147 : decode cX8_wood 147 = .ok (.iastore, 1) := by decide +kernel
theorem dX8_wood_148 : decode cX8_wood 148 = .ok (.aload_n 0, 1) := by decide +kernel
theorem dX8_wood_149 : decode cX8_wood 149 = .ok (.getfield 31, 3) := by decide +kernel
theorem dX8_wood_152 : decode cX8_wood 152 = .ok (.iconst 2, 1) := by decide +kernel
theorem dX8_wood_153 : decode cX8_wood 153 = .ok (.aload_n 0, 1) := by decide +kernel
theorem dX8_wood_154 : decode cX8_wood 154 = .ok (.getfield 19, 3) := by decide +kernel
theorem dX8_wood_157 : decode cX8_wood 157 = .ok (.iload_n 1, 1) := by decide +kernel
theorem dX8_wood_158 : decode cX8_wood 158 = .ok (.iaload, 1) := by decide +kernel
theorem dX8_wood_159 : decode cX8_wood 159 = .ok (.iadd, 1) := by decide +kernel
theorem dX8_wood_160 : decode cX8_wood 160 = .ok (.dup2, 1) := by decide +kernel
theorem dX8_wood_161 : decode cX8_wood 161 = .ok (.iaload, 1) := by decide +kernel
theorem dX8_wood_162 : decode cX8_wood 162 = .ok (.iconst 1, 1) := by decide +kernel
theorem dX8_wood_163 : decode cX8_wood 163 = .ok (.iload_n 1, 1) := by decide +kernel
theorem dX8_wood_164 : decode cX8_wood 164 = .ok (.ishl, 1) := by decide +kernel
theorem dX8_wood_165 : decode cX8_wood 165 = .ok (.ior, 1) := by decide +kernel
theorem dX8_wood_166 : decode cX8_wood 166 = .ok (.iastore, 1) := by decide +kernel
theorem dX8_wood_167 : decode cX8_wood 167 = .ok (.iinc 1 1, 3) := by decide +kernel
theorem dX8_wood_170 : decode cX8_wood 170 = .ok (.goto (-92), 3) := by decide +kernel
theorem dX8_wood_173 : decode cX8_wood 173 = .ok (.iconst 0, 1) := by decide +kernel
theorem dX8_wood_174 : decode cX8_wood 174 = .ok (.istore_n 1, 1) := by decide +kernel
theorem dX8_wood_175 : decode cX8_wood 175 = .ok (.iload_n 1, 1) := by decide +kernel
theorem dX8_wood_176 : decode cX8_wood 176 = .ok (.iconst 4, 1) := by decide +kernel
theorem dX8_wood_177 : decode cX8_wood 177 = .ok (.if_icmp .ge 76, 3) := by decide +kernel
theorem dX8_wood_180 : decode cX8_wood 180 = .ok (.aload_n 0, 1) := by decide +kernel
theorem dX8_wood_181 : decode cX8_wood 181 = .ok (.getfield 31, 3) := by decide +kernel
theorem dX8_wood_184 : decode cX8_wood 184 = .ok (.iconst 4, 1) := by decide +kernel
theorem dX8_wood_185 : decode cX8_wood 185 = .ok (.iload_n 1, 1) := by decide +kernel
theorem dX8_wood_186 : decode cX8_wood 186 = .ok (.iadd, 1) := by decide +kernel
theorem dX8_wood_187 : decode cX8_wood 187 = .ok (.iload_n 1, 1) := by decide +kernel
theorem dX8_wood_188 : decode cX8_wood 188 = .ok (.aload_n 0, 1) := by decide +kernel
theorem dX8_wood_189 : decode cX8_wood 189 = .ok (.getfield 118, 3) := by decide +kernel
theorem dX8_wood_192 : decode cX8_wood 192 = .ok (.if_icmp .ge 14, 3) := by decide +kernel
theorem dX8_wood_195 : decode cX8_wood 195 = .ok (.aload_n 0, 1) := by decide +kernel
theorem dX8_wood_196 : decode cX8_wood 196 = .ok (.getfield 13, 3) := by decide +kernel
theorem dX8_wood_199 : decode cX8_wood 199 = .ok (.iconst 2, 1) := by decide +kernel
theorem dX8_wood_200 : decode cX8_wood 200 = .ok (.iload_n 1, 1) := by decide +kernel
theorem dX8_wood_201 : decode cX8_wood 201 = .ok (.imul, 1) := by decide +kernel
theorem dX8_wood_202 : decode cX8_wood 202 = .ok (.iaload, 1) := by decide +kernel
theorem dX8_wood_203 : decode cX8_wood 203 = .ok (.goto 4, 3) := by decide +kernel
theorem dX8_wood_206 : decode cX8_wood 206 = .ok (.iconst 0, 1) := by decide +kernel
theorem dX8_wood_207 : decode cX8_wood 207 = .ok (.iastore, 1) := by decide +kernel
theorem dX8_wood_208 : decode cX8_wood 208 = .ok (.aload_n 0, 1) := by decide +kernel
theorem dX8_wood_209 : decode cX8_wood 209 = .ok (.getfield 31, 3) := by decide +kernel
theorem dX8_wood_212 : decode cX8_wood 212 = .ok (.bipush 8, 2) := by decide +kernel
theorem dX8_wood_214 : decode cX8_wood 214 = .ok (.iload_n 1, 1) := by decide +kernel
theorem dX8_wood_215 : decode cX8_wood 215 = .ok (.iadd, 1) := by decide +kernel
theorem dX8_wood_216 : decode cX8_wood 216 = .ok (.bipush (-9), 2) := by decide +kernel
theorem dX8_wood_218 : decode cX8_wood 218 = .ok (.iastore, 1) := by decide +kernel
theorem dX8_wood_219 : decode cX8_wood 219 = .ok (.aload_n 0, 1) := by decide +kernel
theorem dX8_wood_220 : decode cX8_wood 220 = .ok (.getfield 28, 3) := by decide +kernel
theorem dX8_wood_223 : decode cX8_wood 223 = .ok (.iload_n 1, 1) := by decide +kernel
theorem dX8_wood_224 : decode cX8_wood 224 = .ok (.iload_n 1, 1) := by decide +kernel
theorem dX8_wood_225 : decode cX8_wood 225 = .ok (.aload_n 0, 1) := by decide +kernel
theorem dX8_wood_226 : decode cX8_wood 226 = .ok (.getfield 118, 3) := by decide +kernel
theorem dX8_wood_229 : decode cX8_wood 229 = .ok (.if_icmp .ge 16, 3) := by decide +kernel
theorem dX8_wood_232 : decode cX8_wood 232 = .ok (.aload_n 0, 1) := by decide +kernel
theorem dX8_wood_233 : decode cX8_wood 233 = .ok (.getfield 13, 3) := by decide +kernel
theorem dX8_wood_236 : decode cX8_wood 236 = .ok (.iconst 2, 1) := by decide +kernel
theorem dX8_wood_237 : decode cX8_wood 237 = .ok (.iload_n 1, 1) := by decide +kernel
theorem dX8_wood_238 : decode cX8_wood 238 = .ok (.imul, 1) := by decide +kernel
theorem dX8_wood_239 : decode cX8_wood 239 = .ok (.iconst 1, 1) := by decide +kernel
theorem dX8_wood_240 : decode cX8_wood 240 = .ok (.iadd, 1) := by decide +kernel
theorem dX8_wood_241 : decode cX8_wood 241 = .ok (.iaload, 1) := by decide +kernel
theorem dX8_wood_242 : decode cX8_wood 242 = .ok (.goto 4, 3) := by decide +kernel
theorem dX8_wood_245 : decode cX8_wood 245 = .ok (.iconst 0, 1) := by decide +kernel
theorem dX8_wood_246 : decode cX8_wood 246 = .ok (.iastore, 1) := by decide +kernel
theorem dX8_wood_247 : decode cX8_wood 247 = .ok (.iinc 1 1, 3) := by decide +kernel
theorem dX8_wood_250 : decode cX8_wood 250 = .ok (.goto (-75), 3) := by decide +kernel
theorem dX8_wood_253 : decode cX8_wood 253 = .ok (.aload_n 0, 1) := by decide +kernel
theorem dX8_wood_254 : decode cX8_wood 254 = .ok (.iconst 0, 1) := by decide +kernel
theorem dX8_wood_255 : decode cX8_wood 255 = .ok (.putfield 128, 3) := by decide +kernel
theorem dX8_wood_258 : decode cX8_wood 258 = .ok (.aload_n 0, 1) := by decide +kernel
theorem dX8_wood_259 : decode cX8_wood 259 = .ok (.getfield 49, 3) := by decide +kernel
theorem dX8_wood_262 : decode cX8_wood 262 = .ok (.iconst 0, 1) := by decide +kernel
theorem dX8_wood_263 : decode cX8_wood 263 = .ok (.iconst 0, 1) := by decide +kernel
theorem dX8_wood_264 : decode cX8_wood 264 = .ok (.bastore, 1) := by decide +kernel
theorem dX8_wood_265 : decode cX8_wood 265 = .ok (.aload_n 0, 1) := by decide +kernel
theorem dX8_wood_266 : decode cX8_wood 266 = .ok (.getfield 49, 3) := by decide +kernel
theorem dX8_wood_269 : decode cX8_wood 269 = .ok (.iconst 1, 1) := by decide +kernel
theorem dX8_wood_270 : decode cX8_wood 270 = .ok (.iconst 0, 1) := by decide +kernel
theorem dX8_wood_271 : decode cX8_wood 271 = .ok (.bastore, 1) := by decide +kernel
theorem dX8_wood_272 : decode cX8_wood 272 = .ok (.bipush 10, 2) := by decide +kernel
theorem dX8_wood_274 : decode cX8_wood 274 = .ok (.aload_n 0, 1) := by decide +kernel
theorem dX8_wood_275 : decode cX8_wood 275 = .ok (.getfield 56, 3) := by decide +kernel
theorem dX8_wood_278 : decode cX8_wood 278 = .ok (.imul, 1) := by decide +kernel
theorem dX8_wood_279 : decode cX8_wood 279 = .ok (.aload_n 0, 1) := by decide +kernel
theorem dX8_wood_280 : decode cX8_wood 280 = .ok (.getfield 118, 3) := by decide +kernel
theorem dX8_wood_283 : decode cX8_wood 283 = .ok (.iadd, 1) := by decide +kernel
theorem dX8_wood_284 : decode cX8_wood 284 = .ok (.ireturn, 1) := by decide +kernel
set_option maxRecDepth 20000 in
theorem ggX8_isTrap_X8_in : GoodIn wsX8_isTrap wsX8_in := goodIn_r _ [5] (by decide +kernel) (by decide +kernel)
set_option maxRecDepth 20000 in
theorem gX8_isTrap_X8_in : GoodIn wsX8_isTrap (va_wsS RX8 62 yX8_in wsX8_in) := goodIn_app (goodIn_of _ (by decide +kernel)) ggX8_isTrap_X8_in
theorem dX8_isTrap_0 : decode cX8_isTrap 0 = .ok (.iload_n 1, 1) := by decide +kernel
theorem dX8_isTrap_1 : decode cX8_isTrap 1 = .ok (.i2l, 1) := by decide +kernel
theorem dX8_isTrap_2 : decode cX8_isTrap 2 = .ok (.lconst 0, 1) := by decide +kernel
theorem dX8_isTrap_3 : decode cX8_isTrap 3 = .ok (.aload_n 0, 1) := by decide +kernel
theorem dX8_isTrap_4 : decode cX8_isTrap 4 = .ok (.getfield 56, 3) := by decide +kernel
theorem dX8_isTrap_7 : decode cX8_isTrap 7 = .ok (.iconst 1, 1) := by decide +kernel
theorem dX8_isTrap_8 : decode cX8_isTrap 8 = .ok (.isub, 1) := by decide +kernel
theorem dX8_isTrap_9 : decode cX8_isTrap 9 = .ok (.i2l, 1) := by decide +kernel
theorem dX8_isTrap_10 : decode cX8_isTrap 10 = .ok (.invokestatic 62, 3) := by decide +kernel
theorem dX8_isTrap_13 : decode cX8_isTrap 13 = .ok (.ireturn, 1) := by decide +kernel
set_option maxRecDepth 20000 in
theorem ggX8_isWalker_X8_in : GoodIn wsX8_isWalker wsX8_in := goodIn_r _ [5] (by decide +kernel) (by decide +kernel)
set_option maxRecDepth 20000 in
theorem gX8_isWalker_X8_in : GoodIn wsX8_isWalker (va_wsS RX8 62 yX8_in wsX8_in) := goodIn_app (goodIn_of _ (by decide +kernel)) ggX8_isWalker_X8_in
theorem dX8_isWalker_0 : decode cX8_isWalker 0 = .ok (.iload_n 1, 1) := by decide +kernel
theorem dX8_isWalker_1 : decode cX8_isWalker 1 = .ok (.i2l, 1) := by decide +kernel
theorem dX8_isWalker_2 : decode cX8_isWalker 2 = .ok (.lconst 0, 1) := by decide +kernel
theorem dX8_isWalker_3 : decode cX8_isWalker 3 = .ok (.aload_n 0, 1) := by decide +kernel
theorem dX8_isWalker_4 : decode cX8_isWalker 4 = .ok (.getfield 118, 3) := by decide +kernel
theorem dX8_isWalker_7 : decode cX8_isWalker 7 = .ok (.iconst 1, 1) := by decide +kernel
theorem dX8_isWalker_8 : decode cX8_isWalker 8 = .ok (.isub, 1) := by decide +kernel
theorem dX8_isWalker_9 : decode cX8_isWalker 9 = .ok (.i2l, 1) := by decide +kernel
theorem dX8_isWalker_10 : decode cX8_isWalker 10 = .ok (.invokestatic 62, 3) := by decide +kernel
theorem dX8_isWalker_13 : decode cX8_isWalker 13 = .ok (.ireturn, 1) := by decide +kernel
set_option maxRecDepth 20000 in
theorem ggX8_isCell_X8_in : GoodIn wsX8_isCell wsX8_in := goodIn_r _ [5] (by decide +kernel) (by decide +kernel)
set_option maxRecDepth 20000 in
theorem gX8_isCell_X8_in : GoodIn wsX8_isCell (va_wsS RX8 62 yX8_in wsX8_in) := goodIn_app (goodIn_of _ (by decide +kernel)) ggX8_isCell_X8_in
theorem dX8_isCell_0 : decode cX8_isCell 0 = .ok (.iload_n 0, 1) := by decide +kernel
theorem dX8_isCell_1 : decode cX8_isCell 1 = .ok (.i2l, 1) := by decide +kernel
theorem dX8_isCell_2 : decode cX8_isCell 2 = .ok (.lconst 0, 1) := by decide +kernel
theorem dX8_isCell_3 : decode cX8_isCell 3 = .ok (.ldc2_w 131, 3) := by decide +kernel
theorem dX8_isCell_6 : decode cX8_isCell 6 = .ok (.invokestatic 62, 3) := by decide +kernel
theorem dX8_isCell_9 : decode cX8_isCell 9 = .ok (.ireturn, 1) := by decide +kernel
set_option maxRecDepth 20000 in
theorem ggX8_trap_X8_isTrap : GoodIn wsX8_trap wsX8_isTrap := goodIn_r _ [10, 11, 12, 13, 9, 14, 15, 16, 17, 18, 19, 20, 21, 22, 23, 24, 25, 26, 27, 28, 29, 30, 31, 32, 33, 34, 35, 36, 37, 38, 39, 40, 41, 42] (by decide +kernel) (by decide +kernel)
set_option maxRecDepth 20000 in
theorem gX8_trap_X8_isTrap : GoodIn wsX8_trap (wsV RX8 133 RX8 yX8_isTrap wsX8_isTrap) := goodIn_app (goodIn_of _ (by decide +kernel)) ggX8_trap_X8_isTrap
theorem dX8_trap_0 : decode cX8_trap 0 = .ok (.aload_n 0, 1) := by decide +kernel
theorem dX8_trap_1 : decode cX8_trap 1 = .ok (.iload_n 1, 1) := by decide +kernel
theorem dX8_trap_2 : decode cX8_trap 2 = .ok (.invokevirtual 133, 3) := by decide +kernel
theorem dX8_trap_5 : decode cX8_trap 5 = .ok (.ifCond .ne 5, 3) := by decide +kernel
theorem dX8_trap_8 : decode cX8_trap 8 = .ok (.iconst (-1), 1) := by decide +kernel
theorem dX8_trap_9 : decode cX8_trap 9 = .ok (.ireturn, 1) := by decide +kernel
theorem dX8_trap_10 : decode cX8_trap 10 = .ok (.iload_n 2, 1) := by decide +kernel
theorem dX8_trap_11 : decode cX8_trap 11 = .ok (.tableswitch 115 0 6 #[41, 48, 55, 62, 69, 80, 91], 41) := by decide +kernel
theorem dX8_trap_52 : decode cX8_trap 52 = .ok (.aload_n 0, 1) := by decide +kernel
theorem dX8_trap_53 : decode cX8_trap 53 = .ok (.getfield 16, 3) := by decide +kernel
theorem dX8_trap_56 : decode cX8_trap 56 = .ok (.iload_n 1, 1) := by decide +kernel
theorem dX8_trap_57 : decode cX8_trap 57 = .ok (.iaload, 1) := by decide +kernel
theorem dX8_trap_58 : decode cX8_trap 58 = .ok (.ireturn, 1) := by decide +kernel
theorem dX8_trap_59 : decode cX8_trap 59 = .ok (.aload_n 0, 1) := by decide +kernel
theorem dX8_trap_60 : decode cX8_trap 60 = .ok (.getfield 19, 3) := by decide +kernel
theorem dX8_trap_63 : decode cX8_trap 63 = .ok (.iload_n 1, 1) := by decide +kernel
theorem dX8_trap_64 : decode cX8_trap 64 = .ok (.iaload, 1) := by decide +kernel
theorem dX8_trap_65 : decode cX8_trap 65 = .ok (.ireturn, 1) := by decide +kernel
theorem dX8_trap_66 : decode cX8_trap 66 = .ok (.aload_n 0, 1) := by decide +kernel
theorem dX8_trap_67 : decode cX8_trap 67 = .ok (.getfield 22, 3) := by decide +kernel
theorem dX8_trap_70 : decode cX8_trap 70 = .ok (.iload_n 1, 1) := by decide +kernel
theorem dX8_trap_71 : decode cX8_trap 71 = .ok (.iaload, 1) := by decide +kernel
theorem dX8_trap_72 : decode cX8_trap 72 = .ok (.ireturn, 1) := by decide +kernel
theorem dX8_trap_73 : decode cX8_trap 73 = .ok (.aload_n 0, 1) := by decide +kernel
theorem dX8_trap_74 : decode cX8_trap 74 = .ok (.getfield 25, 3) := by decide +kernel
theorem dX8_trap_77 : decode cX8_trap 77 = .ok (.iload_n 1, 1) := by decide +kernel
theorem dX8_trap_78 : decode cX8_trap 78 = .ok (.iaload, 1) := by decide +kernel
theorem dX8_trap_79 : decode cX8_trap 79 = .ok (.ireturn, 1) := by decide +kernel
theorem dX8_trap_80 : decode cX8_trap 80 = .ok (.aload_n 0, 1) := by decide +kernel
theorem dX8_trap_81 : decode cX8_trap 81 = .ok (.getfield 31, 3) := by decide +kernel
theorem dX8_trap_84 : decode cX8_trap 84 = .ok (.iconst 0, 1) := by decide +kernel
theorem dX8_trap_85 : decode cX8_trap 85 = .ok (.iaload, 1) := by decide +kernel
theorem dX8_trap_86 : decode cX8_trap 86 = .ok (.iload_n 1, 1) := by decide +kernel
theorem dX8_trap_87 : decode cX8_trap 87 = .ok (.ishr, 1) := by decide +kernel
theorem dX8_trap_88 : decode cX8_trap 88 = .ok (.iconst 1, 1) := by decide +kernel
theorem dX8_trap_89 : decode cX8_trap 89 = .ok (.iand, 1) := by decide +kernel
theorem dX8_trap_90 : decode cX8_trap 90 = .ok (.ireturn, 1) := by decide +kernel
theorem dX8_trap_91 : decode cX8_trap 91 = .ok (.aload_n 0, 1) := by decide +kernel
theorem dX8_trap_92 : decode cX8_trap 92 = .ok (.getfield 31, 3) := by decide +kernel
theorem dX8_trap_95 : decode cX8_trap 95 = .ok (.iconst 1, 1) := by decide +kernel
theorem dX8_trap_96 : decode cX8_trap 96 = .ok (.iaload, 1) := by decide +kernel
theorem dX8_trap_97 : decode cX8_trap 97 = .ok (.iload_n 1, 1) := by decide +kernel
theorem dX8_trap_98 : decode cX8_trap 98 = .ok (.ishr, 1) := by decide +kernel
theorem dX8_trap_99 : decode cX8_trap 99 = .ok (.iconst 1, 1) := by decide +kernel
theorem dX8_trap_100 : decode cX8_trap 100 = .ok (.iand, 1) := by decide +kernel
theorem dX8_trap_101 : decode cX8_trap 101 = .ok (.ireturn, 1) := by decide +kernel
theorem dX8_trap_102 : decode cX8_trap 102 = .ok (.aload_n 0, 1) := by decide +kernel
theorem dX8_trap_103 : decode cX8_trap 103 = .ok (.getfield 31, 3) := by decide +kernel
theorem dX8_trap_106 : decode cX8_trap 106 = .ok (.iconst 2, 1) := by decide +kernel
theorem dX8_trap_107 : decode cX8_trap 107 = .ok (.iaload, 1) := by decide +kernel
theorem dX8_trap_108 : decode cX8_trap 108 = .ok (.iload_n 1, 1) := by decide +kernel
theorem dX8_trap_109 : decode cX8_trap 109 = .ok (.ishr, 1) := by decide +kernel
theorem dX8_trap_110 : decode cX8_trap 110 = .ok (.iconst 1, 1) := by decide +kernel
theorem dX8_trap_111 : decode cX8_trap 111 = .ok (.iand, 1) := by decide +kernel
theorem dX8_trap_112 : decode cX8_trap 112 = .ok (.iconst 2, 1) := by decide +kernel
theorem dX8_trap_113 : decode cX8_trap 113 = .ok (.aload_n 0, 1) := by decide +kernel
theorem dX8_trap_114 : decode cX8_trap 114 = .ok (.getfield 31, 3) := by decide +kernel
theorem dX8_trap_117 : decode cX8_trap 117 = .ok (.iconst 3, 1) := by decide +kernel
theorem dX8_trap_118 : decode cX8_trap 118 = .ok (.iaload, 1) := by decide +kernel
theorem dX8_trap_119 : decode cX8_trap 119 = .ok (.iload_n 1, 1) := by decide +kernel
theorem dX8_trap_120 : decode cX8_trap 120 = .ok (.ishr, 1) := by decide +kernel
theorem dX8_trap_121 : decode cX8_trap 121 = .ok (.iconst 1, 1) := by decide +kernel
theorem dX8_trap_122 : decode cX8_trap 122 = .ok (.iand, 1) := by decide +kernel
theorem dX8_trap_123 : decode cX8_trap 123 = .ok (.imul, 1) := by decide +kernel
theorem dX8_trap_124 : decode cX8_trap 124 = .ok (.iadd, 1) := by decide +kernel
theorem dX8_trap_125 : decode cX8_trap 125 = .ok (.ireturn, 1) := by decide +kernel
theorem dX8_trap_126 : decode cX8_trap 126 = .ok (.bipush (-2), 2) := by decide +kernel
theorem dX8_trap_128 : decode cX8_trap 128 = .ok (.ireturn, 1) := by decide +kernel
set_option maxRecDepth 20000 in
theorem ggX8_walker_X8_isWalker : GoodIn wsX8_walker wsX8_isWalker := goodIn_r _ [7, 8, 9, 10, 6, 11, 12, 13, 14, 15, 16, 17, 18, 19, 20, 21, 22, 23, 24, 25, 26, 27, 28, 29, 30, 31, 32, 33, 34, 35, 36, 37, 38, 39] (by decide +kernel) (by decide +kernel)
set_option maxRecDepth 20000 in
theorem gX8_walker_X8_isWalker : GoodIn wsX8_walker (wsV RX8 137 RX8 yX8_isWalker wsX8_isWalker) := goodIn_app (goodIn_of _ (by decide +kernel)) ggX8_walker_X8_isWalker
theorem dX8_walker_0 : decode cX8_walker 0 = .ok (.aload_n 0, 1) := by decide +kernel
theorem dX8_walker_1 : decode cX8_walker 1 = .ok (.iload_n 1, 1) := by decide +kernel
theorem dX8_walker_2 : decode cX8_walker 2 = .ok (.invokevirtual 137, 3) := by decide +kernel
theorem dX8_walker_5 : decode cX8_walker 5 = .ok (.ifCond .ne 5, 3) := by decide +kernel
theorem dX8_walker_8 : decode cX8_walker 8 = .ok (.iconst (-1), 1) := by decide +kernel
theorem dX8_walker_9 : decode cX8_walker 9 = .ok (.ireturn, 1) := by decide +kernel
theorem dX8_walker_10 : decode cX8_walker 10 = .ok (.iload_n 2, 1) := by decide +kernel
theorem dX8_walker_11 : decode cX8_walker 11 = .ok (.tableswitch 75 0 3 #[29, 38, 45, 65], 29) := by decide +kernel
theorem dX8_walker_40 : decode cX8_walker 40 = .ok (.aload_n 0, 1) := by decide +kernel
theorem dX8_walker_41 : decode cX8_walker 41 = .ok (.getfield 31, 3) := by decide +kernel
theorem dX8_walker_44 : decode cX8_walker 44 = .ok (.iconst 4, 1) := by decide +kernel
theorem dX8_walker_45 : decode cX8_walker 45 = .ok (.iload_n 1, 1) := by decide +kernel
theorem dX8_walker_46 : decode cX8_walker 46 = .ok (.iadd, 1) := by decide +kernel
theorem dX8_walker_47 : decode cX8_walker 47 = .ok (.iaload, 1) := by decide +kernel
theorem dX8_walker_48 : decode cX8_walker 48 = .ok (.ireturn, 1) := by decide +kernel
theorem dX8_walker_49 : decode cX8_walker 49 = .ok (.aload_n 0, 1) := by decide +kernel
theorem dX8_walker_50 : decode cX8_walker 50 = .ok (.getfield 28, 3) := by decide +kernel
theorem dX8_walker_53 : decode cX8_walker 53 = .ok (.iload_n 1, 1) := by decide +kernel
theorem dX8_walker_54 : decode cX8_walker 54 = .ok (.iaload, 1) := by decide +kernel
theorem dX8_walker_55 : decode cX8_walker 55 = .ok (.ireturn, 1) := by decide +kernel
theorem dX8_walker_56 : decode cX8_walker 56 = .ok (.aload_n 0, 1) := by decide +kernel
theorem dX8_walker_57 : decode cX8_walker 57 = .ok (.getfield 31, 3) := by decide +kernel
theorem dX8_walker_60 : decode cX8_walker 60 = .ok (.bipush 8, 2) := by decide +kernel
theorem dX8_walker_62 : decode cX8_walker 62 = .ok (.iload_n 1, 1) := by decide +kernel
theorem dX8_walker_63 : decode cX8_walker 63 = .ok (.iadd, 1) := by decide +kernel
theorem dX8_walker_64 : decode cX8_walker 64 = .ok (.iaload, 1) := by decide +kernel
theorem dX8_walker_65 : decode cX8_walker 65 = .ok (.bipush (-9), 2) := by decide +kernel
theorem dX8_walker_67 : decode cX8_walker 67 = .ok (.if_icmp .ne 7, 3) := by decide +kernel
theorem dX8_walker_70 : decode cX8_walker 70 = .ok (.iconst 0, 1) := by decide +kernel
theorem dX8_walker_71 : decode cX8_walker 71 = .ok (.goto 4, 3) := by decide +kernel
theorem dX8_walker_74 : decode cX8_walker 74 = .ok (.iconst 1, 1) := by decide +kernel
theorem dX8_walker_75 : decode cX8_walker 75 = .ok (.ireturn, 1) := by decide +kernel
theorem dX8_walker_76 : decode cX8_walker 76 = .ok (.aload_n 0, 1) := by decide +kernel
theorem dX8_walker_77 : decode cX8_walker 77 = .ok (.getfield 31, 3) := by decide +kernel
theorem dX8_walker_80 : decode cX8_walker 80 = .ok (.bipush 8, 2) := by decide +kernel
theorem dX8_walker_82 : decode cX8_walker 82 = .ok (.iload_n 1, 1) := by decide +kernel
theorem dX8_walker_83 : decode cX8_walker 83 = .ok (.iadd, 1) := by decide +kernel
theorem dX8_walker_84 : decode cX8_walker 84 = .ok (.iaload, 1) := by decide +kernel
theorem dX8_walker_85 : decode cX8_walker 85 = .ok (.ireturn, 1) := by decide +kernel
theorem dX8_walker_86 : decode cX8_walker 86 = .ok (.bipush (-2), 2) := by decide +kernel
theorem dX8_walker_88 : decode cX8_walker 88 = .ok (.ireturn, 1) := by decide +kernel
theorem dX8_neighbours_0 : decode cX8_neighbours 0 = .ok (.iload_n 0, 1) := by decide +kernel
theorem dX8_neighbours_1 : decode cX8_neighbours 1 = .ok (.iconst 4, 1) := by decide +kernel
theorem dX8_neighbours_2 : decode cX8_neighbours 2 = .ok (.if_icmp .lt 11, 3) := by decide +kernel
theorem dX8_neighbours_5 : decode cX8_neighbours 5 = .ok (.iconst 1, 1) := by decide +kernel
theorem dX8_neighbours_6 : decode cX8_neighbours 6 = .ok (.iload_n 0, 1) := by decide +kernel
theorem dX8_neighbours_7 : decode cX8_neighbours 7 = .ok (.iconst 4, 1) := by decide +kernel
theorem dX8_neighbours_8 : decode cX8_neighbours 8 = .ok (.isub, 1) := by decide +kernel
theorem dX8_neighbours_9 : decode cX8_neighbours 9 = .ok (.ishl, 1) := by decide +kernel
theorem dX8_neighbours_10 : decode cX8_neighbours 10 = .ok (.goto 4, 3) := by decide +kernel
theorem dX8_neighbours_13 : decode cX8_neighbours 13 = .ok (.iconst 0, 1) := by decide +kernel
theorem dX8_neighbours_14 : decode cX8_neighbours 14 = .ok (.istore_n 1, 1) := by decide +kernel
theorem dX8_neighbours_15 : decode cX8_neighbours 15 = .ok (.iload_n 1, 1) := by decide +kernel
theorem dX8_neighbours_16 : decode cX8_neighbours 16 = .ok (.iload_n 0, 1) := by decide +kernel
theorem dX8_neighbours_17 : decode cX8_neighbours 17 = .ok (.bipush 8, 2) := by decide +kernel
theorem dX8_neighbours_19 : decode cX8_neighbours 19 = .ok (.if_icmp .ge 11, 3) := by decide +kernel
theorem dX8_neighbours_22 : decode cX8_neighbours 22 = .ok (.iconst 1, 1) := by decide +kernel
theorem dX8_neighbours_23 : decode cX8_neighbours 23 = .ok (.iload_n 0, 1) := by decide +kernel
theorem dX8_neighbours_24 : decode cX8_neighbours 24 = .ok (.iconst 4, 1) := by decide +kernel
theorem dX8_neighbours_25 : decode cX8_neighbours 25 = .ok (.iadd, 1) := by decide +kernel
theorem dX8_neighbours_26 : decode cX8_neighbours 26 = .ok (.ishl, 1) := by decide +kernel
theorem dX8_neighbours_27 : decode cX8_neighbours 27 = .ok (.goto 4, 3) := by decide +kernel
theorem dX8_neighbours_30 : decode cX8_neighbours 30 = .ok (.iconst 0, 1) := by decide +kernel
theorem dX8_neighbours_31 : decode cX8_neighbours 31 = .ok (.ior, 1) := by decide +kernel
theorem dX8_neighbours_32 : decode cX8_neighbours 32 = .ok (.istore_n 1, 1) := by decide +kernel
theorem dX8_neighbours_33 : decode cX8_neighbours 33 = .ok (.iload_n 1, 1) := by decide +kernel
theorem dX8_neighbours_34 : decode cX8_neighbours 34 = .ok (.iload_n 0, 1) := by decide +kernel
theorem dX8_neighbours_35 : decode cX8_neighbours 35 = .ok (.iconst 4, 1) := by decide +kernel
theorem dX8_neighbours_36 : decode cX8_neighbours 36 = .ok (.irem, 1) := by decide +kernel
theorem dX8_neighbours_37 : decode cX8_neighbours 37 = .ok (.ifCond .le 11, 3) := by decide +kernel
theorem dX8_neighbours_40 : decode cX8_neighbours 40 = .ok (.iconst 1, 1) := by decide +kernel
theorem dX8_neighbours_41 : decode cX8_neighbours 41 = .ok (.iload_n 0, 1) := by decide +kernel
theorem dX8_neighbours_42 : decode cX8_neighbours 42 = .ok (.iconst 1, 1) := by decide +kernel
theorem dX8_neighbours_43 : decode cX8_neighbours 43 = .ok (.isub, 1) := by decide +kernel
theorem dX8_neighbours_44 : decode cX8_neighbours 44 = .ok (.ishl, 1) := by decide +kernel
theorem dX8_neighbours_45 : decode cX8_neighbours 45 = .ok (.goto 4, 3) := by decide +kernel
theorem dX8_neighbours_48 : decode cX8_neighbours 48 = .ok (.iconst 0, 1) := by decide +kernel
theorem dX8_neighbours_49 : decode cX8_neighbours 49 = .ok (.ior, 1) := by decide +kernel
theorem dX8_neighbours_50 : decode cX8_neighbours 50 = .ok (.istore_n 1, 1) := by decide +kernel
theorem dX8_neighbours_51 : decode cX8_neighbours 51 = .ok (.iload_n 1, 1) := by decide +kernel
theorem dX8_neighbours_52 : decode cX8_neighbours 52 = .ok (.iload_n 0, 1) := by decide +kernel
theorem dX8_neighbours_53 : decode cX8_neighbours 53 = .ok (.iconst 4, 1) := by decide +kernel
theorem dX8_neighbours_54 : decode cX8_neighbours 54 = .ok (.irem, 1) := by decide +kernel
theorem dX8_neighbours_55 : decode cX8_neighbours 55 = .ok (.iconst 3, 1) := by decide +kernel
theorem dX8_neighbours_56 : decode cX8_neighbours 56 = .ok (.if_icmp .ge 11, 3) := by decide +kernel
theorem dX8_neighbours_59 : decode cX8_neighbours 59 = .ok (.iconst 1, 1) := by decide +kernel
theorem dX8_neighbours_60 : decode cX8_neighbours 60 = .ok (.iload_n 0, 1) := by decide +kernel
theorem dX8_neighbours_61 : decode cX8_neighbours 61 = .ok (.iconst 1, 1) := by decide +kernel
theorem dX8_neighbours_62 : decode cX8_neighbours 62 = .ok (.iadd, 1) := by decide +kernel
theorem dX8_neighbours_63 : decode cX8_neighbours 63 = .ok (.ishl, 1) := by decide +kernel
theorem dX8_neighbours_64 : decode cX8_neighbours 64 = .ok (.goto 4, 3) := by decide +kernel
theorem dX8_neighbours_67 : decode cX8_neighbours 67 = .ok (.iconst 0, 1) := by decide +kernel
theorem dX8_neighbours_68 : decode cX8_neighbours 68 = .ok (.ior, 1) := by decide +kernel
theorem dX8_neighbours_69 : decode cX8_neighbours 69 = .ok (.ireturn, 1) := by decide +kernel
set_option maxRecDepth 20000 in
theorem ggX8_nearTo_X8_neighbours : GoodIn wsX8_nearTo wsX8_neighbours := goodIn_r _ [5] (by decide +kernel) (by decide +kernel)
set_option maxRecDepth 20000 in
theorem gX8_nearTo_X8_neighbours : GoodIn wsX8_nearTo (va_wsS RX8 140 yX8_neighbours wsX8_neighbours) := goodIn_app (goodIn_of _ (by decide +kernel)) ggX8_nearTo_X8_neighbours
theorem dX8_nearTo_0 : decode cX8_nearTo 0 = .ok (.iload_n 1, 1) := by decide +kernel
theorem dX8_nearTo_1 : decode cX8_nearTo 1 = .ok (.invokestatic 140, 3) := by decide +kernel
theorem dX8_nearTo_4 : decode cX8_nearTo 4 = .ok (.aload_n 0, 1) := by decide +kernel
theorem dX8_nearTo_5 : decode cX8_nearTo 5 = .ok (.getfield 121, 3) := by decide +kernel
theorem dX8_nearTo_8 : decode cX8_nearTo 8 = .ok (.iconst (-1), 1) := by decide +kernel
theorem dX8_nearTo_9 : decode cX8_nearTo 9 = .ok (.ixor, 1) := by decide +kernel
theorem dX8_nearTo_10 : decode cX8_nearTo 10 = .ok (.iand, 1) := by decide +kernel
theorem dX8_nearTo_11 : decode cX8_nearTo 11 = .ok (.ireturn, 1) := by decide +kernel
set_option maxRecDepth 20000 in
theorem ggX8_near_X8_isCell : GoodIn wsX8_near wsX8_isCell := goodIn_r _ [4, 5, 6, 7, 3, 8] (by decide +kernel) (by decide +kernel)
set_option maxRecDepth 20000 in
theorem gX8_near_X8_isCell : GoodIn wsX8_near (va_wsS RX8 143 yX8_isCell wsX8_isCell) := goodIn_app (goodIn_of _ (by decide +kernel)) ggX8_near_X8_isCell
set_option maxRecDepth 20000 in
theorem ggX8_near_X8_nearTo : GoodIn wsX8_near wsX8_nearTo := goodIn_r _ [12, 13, 14, 15, 3, 16, 17, 18, 19, 20, 21, 22, 23, 24, 25, 26, 27, 28, 29, 30, 31, 32, 33, 34, 35, 36, 37, 38, 39, 40, 41, 42, 43, 44] (by decide +kernel) (by decide +kernel)
set_option maxRecDepth 20000 in
theorem gX8_near_X8_nearTo : GoodIn wsX8_near (wsV RX8 146 RX8 yX8_nearTo wsX8_nearTo) := goodIn_app (goodIn_of _ (by decide +kernel)) ggX8_near_X8_nearTo
theorem dX8_near_0 : decode cX8_near 0 = .ok (.iload_n 1, 1) := by decide +kernel
theorem dX8_near_1 : decode cX8_near 1 = .ok (.invokestatic 143, 3) := by decide +kernel
theorem dX8_near_4 : decode cX8_near 4 = .ok (.ifCond .eq 11, 3) := by decide +kernel
theorem dX8_near_7 : decode cX8_near 7 = .ok (.aload_n 0, 1) := by decide +kernel
theorem dX8_near_8 : decode cX8_near 8 = .ok (.iload_n 1, 1) := by decide +kernel
theorem dX8_near_9 : decode cX8_near 9 = .ok (.invokevirtual 146, 3) := by decide +kernel
theorem dX8_near_12 : decode cX8_near 12 = .ok (.goto 4, 3) := by decide +kernel
theorem dX8_near_15 : decode cX8_near 15 = .ok (.iconst (-1), 1) := by decide +kernel
theorem dX8_near_16 : decode cX8_near 16 = .ok (.ireturn, 1) := by decide +kernel
theorem dX8_frost_0 : decode cX8_frost 0 = .ok (.aload_n 0, 1) := by decide +kernel
theorem dX8_frost_1 : decode cX8_frost 1 = .ok (.getfield 124, 3) := by decide +kernel
theorem dX8_frost_4 : decode cX8_frost 4 = .ok (.istore_n 2, 1) := by decide +kernel
theorem dX8_frost_5 : decode cX8_frost 5 = .ok (.aload_n 0, 1) := by decide +kernel
theorem dX8_frost_6 : decode cX8_frost 6 = .ok (.iload_n 1, 1) := by decide +kernel
theorem dX8_frost_7 : decode cX8_frost 7 = .ok (.putfield 124, 3) := by decide +kernel
theorem dX8_frost_10 : decode cX8_frost 10 = .ok (.iload_n 2, 1) := by decide +kernel
theorem dX8_frost_11 : decode cX8_frost 11 = .ok (.iload_n 1, 1) := by decide +kernel
theorem dX8_frost_12 : decode cX8_frost 12 = .ok (.if_icmp .ne 7, 3) := by decide +kernel
theorem dX8_frost_15 : decode cX8_frost 15 = .ok (.iconst 0, 1) := by decide +kernel
theorem dX8_frost_16 : decode cX8_frost 16 = .ok (.goto 4, 3) := by decide +kernel
theorem dX8_frost_19 : decode cX8_frost 19 = .ok (.iconst 1, 1) := by decide +kernel
theorem dX8_frost_20 : decode cX8_frost 20 = .ok (.ireturn, 1) := by decide +kernel
theorem dX8_catches_0 : decode cX8_catches 0 = .ok (.aload_n 0, 1) := by decide +kernel
theorem dX8_catches_1 : decode cX8_catches 1 = .ok (.getfield 22, 3) := by decide +kernel
theorem dX8_catches_4 : decode cX8_catches 4 = .ok (.iload_n 1, 1) := by decide +kernel
theorem dX8_catches_5 : decode cX8_catches 5 = .ok (.iaload, 1) := by decide +kernel
theorem dX8_catches_6 : decode cX8_catches 6 = .ok (.istore_n 3, 1) := by decide +kernel
theorem dX8_catches_7 : decode cX8_catches 7 = .ok (.iload_n 3, 1) := by decide +kernel
theorem dX8_catches_8 : decode cX8_catches 8 = .ok (.iconst 4, 1) := by decide +kernel
theorem dX8_catches_9 : decode cX8_catches 9 = .ok (.if_icmp .eq 23, 3) := by decide +kernel
theorem dX8_catches_12 : decode cX8_catches 12 = .ok (.iload_n 3, 1) := by decide +kernel
theorem dX8_catches_13 : decode cX8_catches 13 = .ok (.ifCond .eq 8, 3) := by decide +kernel
theorem dX8_catches_16 : decode cX8_catches 16 = .ok (.iload_n 3, 1) := by decide +kernel
theorem dX8_catches_17 : decode cX8_catches 17 = .ok (.iconst 2, 1) := by decide +kernel
theorem dX8_catches_18 : decode cX8_catches 18 = .ok (.if_icmp .ne 18, 3) := by decide +kernel
theorem dX8_catches_21 : decode cX8_catches 21 = .ok (.aload_n 0, 1) := by decide +kernel
theorem dX8_catches_22 : decode cX8_catches 22 = .ok (.getfield 28, 3) := by decide +kernel
theorem dX8_catches_25 : decode cX8_catches 25 = .ok (.iload_n 2, 1) := by decide +kernel
theorem dX8_catches_26 : decode cX8_catches 26 = .ok (.iaload, 1) := by decide +kernel
theorem dX8_catches_27 : decode cX8_catches 27 = .ok (.bipush (-9), 2) := by decide +kernel
theorem dX8_catches_29 : decode cX8_catches 29 = .ok (.if_icmp .eq 7, 3) := by decide +kernel
theorem dX8_catches_32 : decode cX8_catches 32 = .ok (.iconst 1, 1) := by decide +kernel
theorem dX8_catches_33 : decode cX8_catches 33 = .ok (.goto 4, 3) := by decide +kernel
theorem dX8_catches_36 : decode cX8_catches 36 = .ok (.iconst 0, 1) := by decide +kernel
theorem dX8_catches_37 : decode cX8_catches 37 = .ok (.ireturn, 1) := by decide +kernel
theorem dX8_wave_0 : decode cX8_wave 0 = .ok (.iload_n 1, 1) := by decide +kernel
theorem dX8_wave_1 : decode cX8_wave 1 = .ok (.iload_n 2, 1) := by decide +kernel
theorem dX8_wave_2 : decode cX8_wave 2 = .ok (.ishr, 1) := by decide +kernel
theorem dX8_wave_3 : decode cX8_wave 3 = .ok (.iconst 1, 1) := by decide +kernel
theorem dX8_wave_4 : decode cX8_wave 4 = .ok (.iand, 1) := by decide +kernel
theorem dX8_wave_5 : decode cX8_wave 5 = .ok (.iconst 1, 1) := by decide +kernel
theorem dX8_wave_6 : decode cX8_wave 6 = .ok (.if_icmp .ne 19, 3) := by decide +kernel
theorem dX8_wave_9 : decode cX8_wave 9 = .ok (.aload_n 0, 1) := by decide +kernel
theorem dX8_wave_10 : decode cX8_wave 10 = .ok (.getfield 22, 3) := by decide +kernel
theorem dX8_wave_13 : decode cX8_wave 13 = .ok (.iload_n 2, 1) := by decide +kernel
theorem dX8_wave_14 : decode cX8_wave 14 = .ok (.iaload, 1) := by decide +kernel
theorem dX8_wave_15 : decode cX8_wave 15 = .ok (.iconst 3, 1) := by decide +kernel
theorem dX8_wave_16 : decode cX8_wave 16 = .ok (.if_icmp .eq 9, 3) := by decide +kernel
theorem dX8_wave_19 : decode cX8_wave 19 = .ok (.iconst 1, 1) := by decide +kernel
theorem dX8_wave_20 : decode cX8_wave 20 = .ok (.iload_n 2, 1) := by decide +kernel
theorem dX8_wave_21 : decode cX8_wave 21 = .ok (.ishl, 1) := by decide +kernel
theorem dX8_wave_22 : decode cX8_wave 22 = .ok (.goto 4, 3) := by decide +kernel
theorem dX8_wave_25 : decode cX8_wave 25 = .ok (.iconst 0, 1) := by decide +kernel
theorem dX8_wave_26 : decode cX8_wave 26 = .ok (.istore_n 3, 1) := by decide +kernel
theorem dX8_wave_27 : decode cX8_wave 27 = .ok (.iconst 0, 1) := by decide +kernel
theorem dX8_wave_28 : decode cX8_wave 28 = .ok (.istore 4, 2) := by decide +kernel
theorem dX8_wave_30 : decode cX8_wave 30 = .ok (.iload 4, 2) := by decide +kernel
theorem dX8_wave_32 : decode cX8_wave 32 = .ok (.bipush 7, 2) := by decide +kernel
theorem dX8_wave_34 : decode cX8_wave 34 = .ok (.if_icmp .ge 99, 3) := by decide +kernel
theorem dX8_wave_37 : decode cX8_wave 37 = .ok (.iconst 0, 1) := by decide +kernel
theorem dX8_wave_38 : decode cX8_wave 38 = .ok (.istore 5, 2) := by decide +kernel
theorem dX8_wave_40 : decode cX8_wave 40 = .ok (.iload 5, 2) := by decide +kernel
theorem dX8_wave_42 : decode cX8_wave 42 = .ok (.bipush 7, 2) := by decide +kernel
theorem dX8_wave_44 : decode cX8_wave 44 = .ok (.if_icmp .ge 83, 3) := by decide +kernel
theorem dX8_wave_47 : decode cX8_wave 47 = .ok (.iload_n 3, 1) := by decide +kernel
theorem dX8_wave_48 : decode cX8_wave 48 = .ok (.iload 5, 2) := by decide +kernel
theorem dX8_wave_50 : decode cX8_wave 50 = .ok (.ishr, 1) := by decide +kernel
theorem dX8_wave_51 : decode cX8_wave 51 = .ok (.iconst 1, 1) := by decide +kernel
theorem dX8_wave_52 : decode cX8_wave 52 = .ok (.iand, 1) := by decide +kernel
theorem dX8_wave_53 : decode cX8_wave 53 = .ok (.iconst 1, 1) := by decide +kernel
theorem dX8_wave_54 : decode cX8_wave 54 = .ok (.if_icmp .ne 15, 3) := by decide +kernel
theorem dX8_wave_57 : decode cX8_wave 57 = .ok (.aload_n 0, 1) := by decide +kernel
theorem dX8_wave_58 : decode cX8_wave 58 = .ok (.getfield 25, 3) := by decide +kernel
theorem dX8_wave_61 : decode cX8_wave 61 = .ok (.iload 5, 2) := by decide +kernel
theorem dX8_wave_63 : decode cX8_wave 63 = .ok (.iaload, 1) := by decide +kernel
theorem dX8_wave_64 : decode cX8_wave 64 = .ok (.iload_n 1, 1) := by decide +kernel
theorem dX8_wave_65 : decode cX8_wave 65 = .ok (.iand, 1) := by decide +kernel
theorem dX8_wave_66 : decode cX8_wave 66 = .ok (.goto 4, 3) := by decide +kernel
theorem dX8_wave_69 : decode cX8_wave 69 = .ok (.iconst 0, 1) := by decide +kernel
theorem dX8_wave_70 : decode cX8_wave 70 = .ok (.istore 6, 2) := by decide +kernel
theorem dX8_wave_72 : decode cX8_wave 72 = .ok (.iconst 0, 1) := by decide +kernel
theorem dX8_wave_73 : decode cX8_wave 73 = .ok (.istore 7, 2) := by decide +kernel
theorem dX8_wave_75 : decode cX8_wave 75 = .ok (.iload 7, 2) := by decide +kernel
theorem dX8_wave_77 : decode cX8_wave 77 = .ok (.bipush 7, 2) := by decide +kernel
theorem dX8_wave_79 : decode cX8_wave 79 = .ok (.if_icmp .ge 42, 3) := by decide +kernel
theorem dX8_wave_82 : decode cX8_wave 82 = .ok (.iload_n 3, 1) := by decide +kernel
theorem dX8_wave_83 : decode cX8_wave 83 = .ok (.iload 6, 2) := by decide +kernel
theorem dX8_wave_85 : decode cX8_wave 85 = .ok (.iload 7, 2) := by decide +kernel
theorem dX8_wave_87 : decode cX8_wave 87 = .ok (.ishr, 1) := by decide +kernel
theorem dX8_wave_88 : decode cX8_wave 88 = .ok (.iconst 1, 1) := by decide +kernel
theorem dX8_wave_89 : decode cX8_wave 89 = .ok (.iand, 1) := by decide +kernel
theorem dX8_wave_90 : decode cX8_wave 90 = .ok (.iconst 1, 1) := by decide +kernel
theorem dX8_wave_91 : decode cX8_wave 91 = .ok (.if_icmp .ne 21, 3) := by decide +kernel
theorem dX8_wave_94 : decode cX8_wave 94 = .ok (.aload_n 0, 1) := by decide +kernel
theorem dX8_wave_95 : decode cX8_wave 95 = .ok (.getfield 22, 3) := by decide +kernel
theorem dX8_wave_98 : decode cX8_wave 98 = .ok (.iload 7, 2) := by decide +kernel
theorem dX8_wave_100 : decode cX8_wave 100 = .ok (.iaload, 1) := by decide +kernel
theorem dX8_wave_101 : decode cX8_wave 101 = .ok (.iconst 3, 1) := by decide +kernel
theorem dX8_wave_102 : decode cX8_wave 102 = .ok (.if_icmp .eq 10, 3) := by decide +kernel
theorem dX8_wave_105 : decode cX8_wave 105 = .ok (.iconst 1, 1) := by decide +kernel
theorem dX8_wave_106 : decode cX8_wave 106 = .ok (.iload 7, 2) := by decide +kernel
theorem dX8_wave_108 : decode cX8_wave 108 = .ok (.ishl, 1) := by decide +kernel
theorem dX8_wave_109 : decode cX8_wave 109 = .ok (.goto 4, 3) := by decide +kernel
theorem dX8_wave_112 : decode cX8_wave 112 = .ok (.iconst 0, 1) := by decide +kernel
theorem dX8_wave_113 : decode cX8_wave 113 = .ok (.ior, 1) := by decide +kernel
theorem dX8_wave_114 : decode cX8_wave 114 = .ok (.istore_n 3, 1) := by decide +kernel
theorem dX8_wave_115 : decode cX8_wave 115 = .ok (.iinc 7 1, 3) := by decide +kernel
theorem dX8_wave_118 : decode cX8_wave 118 = .ok (.goto (-43), 3) := by decide +kernel
theorem dX8_wave_121 : decode cX8_wave 121 = .ok (.iinc 5 1, 3) := by decide +kernel
theorem dX8_wave_124 : decode cX8_wave 124 = .ok (.goto (-84), 3) := by decide +kernel
theorem dX8_wave_127 : decode cX8_wave 127 = .ok (.iinc 4 1, 3) := by decide +kernel
theorem dX8_wave_130 : decode cX8_wave 130 = .ok (.goto (-100), 3) := by decide +kernel
theorem dX8_wave_133 : decode cX8_wave 133 = .ok (.iload_n 3, 1) := by decide +kernel
theorem dX8_wave_134 : decode cX8_wave 134 = .ok (.ireturn, 1) := by decide +kernel
set_option maxRecDepth 20000 in
theorem ggX8_spring_X8_wave : GoodIn wsX8_spring wsX8_wave := goodIn_r _ [9, 10, 11, 17, 18, 19, 20, 21, 22, 23, 24, 25, 26, 27, 28, 29, 30, 31, 32, 33, 34, 35, 36, 37, 38, 39, 40, 41, 42, 43, 44] (by decide +kernel) (by decide +kernel)
set_option maxRecDepth 20000 in
theorem gX8_spring_X8_wave : GoodIn wsX8_spring (wsV RX8 149 RX8 yX8_wave wsX8_wave) := goodIn_app (goodIn_of _ (by decide +kernel)) ggX8_spring_X8_wave
set_option maxRecDepth 20000 in
theorem ggX8_spring_X8_catches : GoodIn wsX8_spring wsX8_catches := goodIn_r _ [15, 10, 16, 17, 18, 19, 20, 21, 22, 23, 24, 25, 26, 27, 28, 29, 30, 31, 32, 33, 34, 35, 36, 37, 38, 39, 40, 41, 42, 43, 44] (by decide +kernel) (by decide +kernel)
set_option maxRecDepth 20000 in
theorem gX8_spring_X8_catches : GoodIn wsX8_spring (wsV RX8 153 RX8 yX8_catches wsX8_catches) := goodIn_app (goodIn_of _ (by decide +kernel)) ggX8_spring_X8_catches
theorem dX8_spring_0 : decode cX8_spring 0 = .ok (.bipush 12, 2) := by decide +kernel
theorem dX8_spring_2 : decode cX8_spring 2 = .ok (.iload_n 1, 1) := by decide +kernel
theorem dX8_spring_3 : decode cX8_spring 3 = .ok (.imul, 1) := by decide +kernel
theorem dX8_spring_4 : decode cX8_spring 4 = .ok (.istore_n 3, 1) := by decide +kernel
theorem dX8_spring_5 : decode cX8_spring 5 = .ok (.aload_n 0, 1) := by decide +kernel
theorem dX8_spring_6 : decode cX8_spring 6 = .ok (.getfield 124, 3) := by decide +kernel
theorem dX8_spring_9 : decode cX8_spring 9 = .ok (.ifCond .eq 7, 3) := by decide +kernel
theorem dX8_spring_12 : decode cX8_spring 12 = .ok (.iconst 0, 1) := by decide +kernel
theorem dX8_spring_13 : decode cX8_spring 13 = .ok (.goto 14, 3) := by decide +kernel
theorem dX8_spring_16 : decode cX8_spring 16 = .ok (.aload_n 0, 1) := by decide +kernel
theorem dX8_spring_17 : decode cX8_spring 17 = .ok (.aload_n 0, 1) := by decide +kernel
theorem dX8_spring_18 : decode cX8_spring 18 = .ok (.getfield 31, 3) := by decide +kernel
theorem dX8_spring_21 : decode cX8_spring 21 = .ok (.iload_n 3, 1) := by decide +kernel
theorem dX8_spring_22 : decode cX8_spring 22 = .ok (.iaload, 1) := by decide +kernel
theorem dX8_spring_23 : decode cX8_spring 23 = .ok (.iload_n 2, 1) := by decide +kernel
theorem dX8_spring_24 : decode cX8_spring 24 = .ok (.invokevirtual 149, 3) := by decide +kernel
theorem dX8_spring_27 : decode cX8_spring 27 = .ok (.istore 4, 2) := by decide +kernel
theorem dX8_spring_29 : decode cX8_spring 29 = .ok (.aload_n 0, 1) := by decide +kernel
theorem dX8_spring_30 : decode cX8_spring 30 = .ok (.getfield 31, 3) := by decide +kernel
theorem dX8_spring_33 : decode cX8_spring 33 = .ok (.iload_n 3, 1) := by decide +kernel
theorem dX8_spring_34 : decode cX8_spring 34 = .ok (.dup2, 1) := by decide +kernel
theorem dX8_spring_35 : decode cX8_spring 35 = .ok (.iaload, 1) := by decide +kernel
theorem dX8_spring_36 : decode cX8_spring 36 = .ok (.iload 4, 2) := by decide +kernel
theorem dX8_spring_38 : decode cX8_spring 38 = .ok (.iconst (-1), 1) := by decide +kernel
theorem dX8_spring_39 : decode cX8_spring 39 = .ok (.ixor, 1) := by decide +kernel
theorem dX8_spring_40 : decode cX8_spring 40 = .ok (.iand, 1) := by decide +kernel
theorem dX8_spring_41 : decode cX8_spring 41 = .ok (.iastore, 1) := by decide +kernel
theorem dX8_spring_42 : decode cX8_spring 42 = .ok (.aload_n 0, 1) := by decide +kernel
theorem dX8_spring_43 : decode cX8_spring 43 = .ok (.getfield 31, 3) := by decide +kernel
theorem dX8_spring_46 : decode cX8_spring 46 = .ok (.iload_n 3, 1) := by decide +kernel
theorem dX8_spring_47 : decode cX8_spring 47 = .ok (.iconst 1, 1) := by decide +kernel
theorem dX8_spring_48 : decode cX8_spring 48 = .ok (.iadd, 1) := by decide +kernel
theorem dX8_spring_49 : decode cX8_spring 49 = .ok (.dup2, 1) := by decide +kernel
theorem dX8_spring_50 : decode cX8_spring 50 = .ok (.iaload, 1) := by decide +kernel
theorem dX8_spring_51 : decode cX8_spring 51 = .ok (.iload 4, 2) := by decide +kernel
theorem dX8_spring_53 : decode cX8_spring 53 = .ok (.iconst (-1), 1) := by decide +kernel
theorem dX8_spring_54 : decode cX8_spring 54 = .ok (.ixor, 1) := by decide +kernel
theorem dX8_spring_55 : decode cX8_spring 55 = .ok (.iand, 1) := by decide +kernel
theorem dX8_spring_56 : decode cX8_spring 56 = .ok (.iastore, 1) := by decide +kernel
theorem dX8_spring_57 : decode cX8_spring 57 = .ok (.aload_n 0, 1) := by decide +kernel
theorem dX8_spring_58 : decode cX8_spring 58 = .ok (.getfield 31, 3) := by decide +kernel
theorem dX8_spring_61 : decode cX8_spring 61 = .ok (.iload_n 3, 1) := by decide +kernel
theorem dX8_spring_62 : decode cX8_spring 62 = .ok (.iconst 2, 1) := by decide +kernel
theorem dX8_spring_63 : decode cX8_spring 63 = .ok (.iadd, 1) := by decide +kernel
theorem dX8_spring_64 : decode cX8_spring 64 = .ok (.dup2, 1) := by decide +kernel
theorem dX8_spring_65 : decode cX8_spring 65 = .ok (.iaload, 1) := by decide +kernel
theorem dX8_spring_66 : decode cX8_spring 66 = .ok (.iload 4, 2) := by decide +kernel
theorem dX8_spring_68 : decode cX8_spring 68 = .ok (.ior, 1) := by decide +kernel
theorem dX8_spring_69 : decode cX8_spring 69 = .ok (.iastore, 1) := by decide +kernel
theorem dX8_spring_70 : decode cX8_spring 70 = .ok (.aload_n 0, 1) := by decide +kernel
theorem dX8_spring_71 : decode cX8_spring 71 = .ok (.getfield 31, 3) := by decide +kernel
theorem dX8_spring_74 : decode cX8_spring 74 = .ok (.iload_n 3, 1) := by decide +kernel
theorem dX8_spring_75 : decode cX8_spring 75 = .ok (.iconst 3, 1) := by decide +kernel
theorem dX8_spring_76 : decode cX8_spring 76 = .ok (.iadd, 1) := by decide +kernel
theorem dX8_spring_77 : decode cX8_spring 77 = .ok (.dup2, 1) := by decide +kernel
theorem dX8_spring_78 : decode cX8_spring 78 = .ok (.iaload, 1) := by decide +kernel
theorem dX8_spring_79 : decode cX8_spring 79 = .ok (.iload 4, 2) := by decide +kernel
theorem dX8_spring_81 : decode cX8_spring 81 = .ok (.ior, 1) := by decide +kernel
theorem dX8_spring_82 : decode cX8_spring 82 = .ok (.iastore, 1) := by decide +kernel
theorem dX8_spring_83 : decode cX8_spring 83 = .ok (.iconst 0, 1) := by decide +kernel
theorem dX8_spring_84 : decode cX8_spring 84 = .ok (.istore 5, 2) := by decide +kernel
theorem dX8_spring_86 : decode cX8_spring 86 = .ok (.iload 5, 2) := by decide +kernel
theorem dX8_spring_88 : decode cX8_spring 88 = .ok (.bipush 7, 2) := by decide +kernel
theorem dX8_spring_90 : decode cX8_spring 90 = .ok (.if_icmp .ge 128, 3) := by decide +kernel
theorem dX8_spring_93 : decode cX8_spring 93 = .ok (.iconst 0, 1) := by decide +kernel
theorem dX8_spring_94 : decode cX8_spring 94 = .ok (.istore 6, 2) := by decide +kernel
theorem dX8_spring_96 : decode cX8_spring 96 = .ok (.iload 6, 2) := by decide +kernel
theorem dX8_spring_98 : decode cX8_spring 98 = .ok (.aload_n 0, 1) := by decide +kernel
theorem dX8_spring_99 : decode cX8_spring 99 = .ok (.getfield 118, 3) := by decide +kernel
theorem dX8_spring_102 : decode cX8_spring 102 = .ok (.if_icmp .ge 110, 3) := by decide +kernel
theorem dX8_spring_105 : decode cX8_spring 105 = .ok (.iload 4, 2) := by decide +kernel
theorem dX8_spring_107 : decode cX8_spring 107 = .ok (.iload 5, 2) := by decide +kernel
theorem dX8_spring_109 : decode cX8_spring 109 = .ok (.ishr, 1) := by decide +kernel
theorem dX8_spring_110 : decode cX8_spring 110 = .ok (.iconst 1, 1) := by decide +kernel
theorem dX8_spring_111 : decode cX8_spring 111 = .ok (.iand, 1) := by decide +kernel
theorem dX8_spring_112 : decode cX8_spring 112 = .ok (.iconst 1, 1) := by decide +kernel
theorem dX8_spring_113 : decode cX8_spring 113 = .ok (.if_icmp .ne 99, 3) := by decide +kernel
theorem dX8_spring_116 : decode cX8_spring 116 = .ok (.aload_n 0, 1) := by decide +kernel
theorem dX8_spring_117 : decode cX8_spring 117 = .ok (.getfield 31, 3) := by decide +kernel
theorem dX8_spring_120 : decode cX8_spring 120 = .ok (.iload_n 3, 1) := by decide +kernel
theorem dX8_spring_121 : decode cX8_spring 121 = .ok (.iconst 4, 1) := by decide +kernel
theorem dX8_spring_122 : decode cX8_spring 122 = .ok (.iadd, 1) := by decide +kernel
theorem dX8_spring_123 : decode cX8_spring 123 = .ok (.iload 6, 2) := by decide +kernel
theorem dX8_spring_125 : decode cX8_spring 125 = .ok (.iadd, 1) := by decide +kernel
theorem dX8_spring_126 : decode cX8_spring 126 = .ok (.iaload, 1) := by decide +kernel
theorem dX8_spring_127 : decode cX8_spring 127 = .ok (.aload_n 0, 1) := by decide +kernel
theorem dX8_spring_128 : decode cX8_spring 128 = .ok (.getfield 16, 3) := by decide +kernel
theorem dX8_spring_131 : decode cX8_spring 131 = .ok (.iload 5, 2) := by decide +kernel
theorem dX8_spring_133 : decode cX8_spring 133 = .ok (.iaload, 1) := by decide +kernel
theorem dX8_spring_134 : decode cX8_spring 134 = .ok (.if_icmp .ne 35, 3) := by decide +kernel
theorem dX8_spring_137 : decode cX8_spring 137 = .ok (.aload_n 0, 1) := by decide +kernel
theorem dX8_spring_138 : decode cX8_spring 138 = .ok (.getfield 31, 3) := by decide +kernel
theorem dX8_spring_141 : decode cX8_spring 141 = .ok (.iload_n 3, 1) := by decide +kernel
theorem dX8_spring_142 : decode cX8_spring 142 = .ok (.bipush 8, 2) := by decide +kernel
theorem dX8_spring_144 : decode cX8_spring 144 = .ok (.iadd, 1) := by decide +kernel
theorem dX8_spring_145 : decode cX8_spring 145 = .ok (.iload 6, 2) := by decide +kernel
theorem dX8_spring_147 : decode cX8_spring 147 = .ok (.iadd, 1) := by decide +kernel
theorem dX8_spring_148 : decode cX8_spring 148 = .ok (.iaload, 1) := by decide +kernel
theorem dX8_spring_149 : decode cX8_spring 149 = .ok (.bipush (-9), 2) := by decide +kernel
theorem dX8_spring_151 : decode cX8_spring 151 = .ok (.if_icmp .ne 18, 3) := by decide +kernel
theorem dX8_spring_154 : decode cX8_spring 154 = .ok (.aload_n 0, 1) := by decide +kernel
theorem dX8_spring_155 : decode cX8_spring 155 = .ok (.iload 5, 2) := by decide +kernel
theorem dX8_spring_157 : decode cX8_spring 157 = .ok (.iload 6, 2) := by decide +kernel
theorem dX8_spring_159 : decode cX8_spring 159 = .ok (.invokevirtual 153, 3) := by decide +kernel
theorem dX8_spring_162 : decode cX8_spring 162 = .ok (.ifCond .eq 7, 3) := by decide +kernel
theorem dX8_spring_165 : decode cX8_spring 165 = .ok (.iconst 1, 1) := by decide +kernel
theorem dX8_spring_166 : decode cX8_spring 166 = .ok (.goto 4, 3) := by decide +kernel
theorem dX8_spring_169 : decode cX8_spring 169 = .ok (.iconst 0, 1) := by decide +kernel
theorem dX8_spring_170 : decode cX8_spring 170 = .ok (.istore 7, 2) := by decide +kernel
theorem dX8_spring_172 : decode cX8_spring 172 = .ok (.aload_n 0, 1) := by decide +kernel
theorem dX8_spring_173 : decode cX8_spring 173 = .ok (.getfield 31, 3) := by decide +kernel
theorem dX8_spring_176 : decode cX8_spring 176 = .ok (.iload_n 3, 1) := by decide +kernel
theorem dX8_spring_177 : decode cX8_spring 177 = .ok (.bipush 8, 2) := by decide +kernel
theorem dX8_spring_179 : decode cX8_spring 179 = .ok (.iadd, 1) := by decide +kernel
theorem dX8_spring_180 : decode cX8_spring 180 = .ok (.iload 6, 2) := by decide +kernel
theorem dX8_spring_182 : decode cX8_spring 182 = .ok (.iadd, 1) := by decide +kernel
theorem dX8_spring_183 : decode cX8_spring 183 = .ok (.iload 7, 2) := by decide +kernel
theorem dX8_spring_185 : decode cX8_spring 185 = .ok (.ifCond .eq 8, 3) := by decide +kernel
theorem dX8_spring_188 : decode cX8_spring 188 = .ok (.iload 5, 2) := by decide +kernel
theorem dX8_spring_190 : decode cX8_spring 190 = .ok (.goto 15, 3) := by decide +kernel
theorem dX8_spring_193 : decode cX8_spring 193 = .ok (.aload_n 0, 1) := by decide +kernel
theorem dX8_spring_194 : decode cX8_spring 194 = .ok (.getfield 31, 3) := by decide +kernel
theorem dX8_spring_197 : decode cX8_spring 197 = .ok (.iload_n 3, 1) := by decide +kernel
theorem dX8_spring_198 : decode cX8_spring 198 = .ok (.bipush 8, 2) := by decide +kernel
theorem dX8_spring_200 : decode cX8_spring 200 = .ok (.iadd, 1) := by decide +kernel
theorem dX8_spring_201 : decode cX8_spring 201 = .ok (.iload 6, 2) := by decide +kernel
theorem dX8_spring_203 : decode cX8_spring 203 = .ok (.iadd, 1) := by decide +kernel
theorem dX8_spring_204 : decode cX8_spring 204 = .ok (.iaload, 1) := by decide +kernel
theorem dX8_spring_205 : decode cX8_spring 205 = .ok (.iastore, 1) := by decide +kernel
theorem dX8_spring_206 : decode cX8_spring 206 = .ok (.iinc 6 1, 3) := by decide +kernel
theorem dX8_spring_209 : decode cX8_spring 209 = .ok (.goto (-113), 3) := by decide +kernel
theorem dX8_spring_212 : decode cX8_spring 212 = .ok (.iinc 5 1, 3) := by decide +kernel
theorem dX8_spring_215 : decode cX8_spring 215 = .ok (.goto (-129), 3) := by decide +kernel
theorem dX8_spring_218 : decode cX8_spring 218 = .ok (.iload 4, 2) := by decide +kernel
theorem dX8_spring_220 : decode cX8_spring 220 = .ok (.ireturn, 1) := by decide +kernel
theorem dX8_trapAt_0 : decode cX8_trapAt 0 = .ok (.bipush (-9), 2) := by decide +kernel
theorem dX8_trapAt_2 : decode cX8_trapAt 2 = .ok (.istore_n 3, 1) := by decide +kernel
theorem dX8_trapAt_3 : decode cX8_trapAt 3 = .ok (.iconst 0, 1) := by decide +kernel
theorem dX8_trapAt_4 : decode cX8_trapAt 4 = .ok (.istore 4, 2) := by decide +kernel
theorem dX8_trapAt_6 : decode cX8_trapAt 6 = .ok (.iload 4, 2) := by decide +kernel
theorem dX8_trapAt_8 : decode cX8_trapAt 8 = .ok (.iload_n 2, 1) := by decide +kernel
theorem dX8_trapAt_9 : decode cX8_trapAt 9 = .ok (.if_icmp .ge 27, 3) := by decide +kernel
theorem dX8_trapAt_12 : decode cX8_trapAt 12 = .ok (.aload_n 0, 1) := by decide +kernel
theorem dX8_trapAt_13 : decode cX8_trapAt 13 = .ok (.getfield 16, 3) := by decide +kernel
theorem dX8_trapAt_16 : decode cX8_trapAt 16 = .ok (.iload 4, 2) := by decide +kernel
theorem dX8_trapAt_18 : decode cX8_trapAt 18 = .ok (.iaload, 1) := by decide +kernel
theorem dX8_trapAt_19 : decode cX8_trapAt 19 = .ok (.iload_n 1, 1) := by decide +kernel
theorem dX8_trapAt_20 : decode cX8_trapAt 20 = .ok (.if_icmp .ne 8, 3) := by decide +kernel
theorem dX8_trapAt_23 : decode cX8_trapAt 23 = .ok (.iload 4, 2) := by decide +kernel
theorem dX8_trapAt_25 : decode cX8_trapAt 25 = .ok (.goto 4, 3) := by decide +kernel
theorem dX8_trapAt_28 : decode cX8_trapAt 28 = .ok (.iload_n 3, 1) := by decide +kernel
theorem dX8_trapAt_29 : decode cX8_trapAt 29 = .ok (.istore_n 3, 1) := by decide +kernel
theorem dX8_trapAt_30 : decode cX8_trapAt 30 = .ok (.iinc 4 1, 3) := by decide +kernel
theorem dX8_trapAt_33 : decode cX8_trapAt 33 = .ok (.goto (-27), 3) := by decide +kernel
theorem dX8_trapAt_36 : decode cX8_trapAt 36 = .ok (.iload_n 3, 1) := by decide +kernel
theorem dX8_trapAt_37 : decode cX8_trapAt 37 = .ok (.ireturn, 1) := by decide +kernel
set_option maxRecDepth 20000 in
theorem ggX8_stepOn_X8_trapAt : GoodIn wsX8_stepOn wsX8_trapAt := goodIn_r _ [8, 9, 25, 26, 27, 28, 29, 30, 31, 32, 33, 34, 35, 36, 37, 38, 39, 40, 41, 42, 43, 44, 45, 46, 47, 48, 49, 50, 51, 52] (by decide +kernel) (by decide +kernel)
set_option maxRecDepth 20000 in
theorem gX8_stepOn_X8_trapAt : GoodIn wsX8_stepOn (wsV RX8 157 RX8 yX8_trapAt wsX8_trapAt) := goodIn_app (goodIn_of _ (by decide +kernel)) ggX8_stepOn_X8_trapAt
set_option maxRecDepth 20000 in
theorem ggX8_stepOn_X8_spring : GoodIn wsX8_stepOn wsX8_spring := goodIn_r _ [13, 2, 1, 14, 9, 15, 16, 17, 7, 18, 3, 19, 20, 21, 22, 23, 24, 25, 26, 27, 28, 29, 30, 31, 32, 33, 34, 35, 36, 37, 38, 39, 40, 41, 42, 43, 44, 45, 46, 47, 48, 49, 50, 51, 52] (by decide +kernel) (by decide +kernel)
set_option maxRecDepth 20000 in
theorem gX8_stepOn_X8_spring : GoodIn wsX8_stepOn (wsV RX8 160 RX8 yX8_spring wsX8_spring) := goodIn_app (goodIn_of _ (by decide +kernel)) ggX8_stepOn_X8_spring
theorem dX8_stepOn_0 : decode cX8_stepOn 0 = .ok (.bipush 12, 2) := by decide +kernel
theorem dX8_stepOn_2 : decode cX8_stepOn 2 = .ok (.iload_n 1, 1) := by decide +kernel
theorem dX8_stepOn_3 : decode cX8_stepOn 3 = .ok (.imul, 1) := by decide +kernel
theorem dX8_stepOn_4 : decode cX8_stepOn 4 = .ok (.istore 5, 2) := by decide +kernel
theorem dX8_stepOn_6 : decode cX8_stepOn 6 = .ok (.aload_n 0, 1) := by decide +kernel
theorem dX8_stepOn_7 : decode cX8_stepOn 7 = .ok (.getfield 31, 3) := by decide +kernel
theorem dX8_stepOn_10 : decode cX8_stepOn 10 = .ok (.iload 5, 2) := by decide +kernel
theorem dX8_stepOn_12 : decode cX8_stepOn 12 = .ok (.iconst 4, 1) := by decide +kernel
theorem dX8_stepOn_13 : decode cX8_stepOn 13 = .ok (.iadd, 1) := by decide +kernel
theorem dX8_stepOn_14 : decode cX8_stepOn 14 = .ok (.iload_n 2, 1) := by decide +kernel
theorem dX8_stepOn_15 : decode cX8_stepOn 15 = .ok (.iadd, 1) := by decide +kernel
theorem dX8_stepOn_16 : decode cX8_stepOn 16 = .ok (.iload_n 3, 1) := by decide +kernel
theorem dX8_stepOn_17 : decode cX8_stepOn 17 = .ok (.iastore, 1) := by decide +kernel
theorem dX8_stepOn_18 : decode cX8_stepOn 18 = .ok (.aload_n 0, 1) := by decide +kernel
theorem dX8_stepOn_19 : decode cX8_stepOn 19 = .ok (.iload_n 3, 1) := by decide +kernel
theorem dX8_stepOn_20 : decode cX8_stepOn 20 = .ok (.iload 4, 2) := by decide +kernel
theorem dX8_stepOn_22 : decode cX8_stepOn 22 = .ok (.invokevirtual 157, 3) := by decide +kernel
theorem dX8_stepOn_25 : decode cX8_stepOn 25 = .ok (.istore 6, 2) := by decide +kernel
theorem dX8_stepOn_27 : decode cX8_stepOn 27 = .ok (.iload 6, 2) := by decide +kernel
theorem dX8_stepOn_29 : decode cX8_stepOn 29 = .ok (.bipush (-9), 2) := by decide +kernel
theorem dX8_stepOn_31 : decode cX8_stepOn 31 = .ok (.if_icmp .ne 5, 3) := by decide +kernel
theorem dX8_stepOn_34 : decode cX8_stepOn 34 = .ok (.iconst 0, 1) := by decide +kernel
theorem dX8_stepOn_35 : decode cX8_stepOn 35 = .ok (.ireturn, 1) := by decide +kernel
theorem dX8_stepOn_36 : decode cX8_stepOn 36 = .ok (.aload_n 0, 1) := by decide +kernel
theorem dX8_stepOn_37 : decode cX8_stepOn 37 = .ok (.getfield 31, 3) := by decide +kernel
theorem dX8_stepOn_40 : decode cX8_stepOn 40 = .ok (.iload 5, 2) := by decide +kernel
theorem dX8_stepOn_42 : decode cX8_stepOn 42 = .ok (.iaload, 1) := by decide +kernel
theorem dX8_stepOn_43 : decode cX8_stepOn 43 = .ok (.iload 6, 2) := by decide +kernel
theorem dX8_stepOn_45 : decode cX8_stepOn 45 = .ok (.ishr, 1) := by decide +kernel
theorem dX8_stepOn_46 : decode cX8_stepOn 46 = .ok (.iconst 1, 1) := by decide +kernel
theorem dX8_stepOn_47 : decode cX8_stepOn 47 = .ok (.iand, 1) := by decide +kernel
theorem dX8_stepOn_48 : decode cX8_stepOn 48 = .ok (.iconst 1, 1) := by decide +kernel
theorem dX8_stepOn_49 : decode cX8_stepOn 49 = .ok (.if_icmp .ne 14, 3) := by decide +kernel
theorem dX8_stepOn_52 : decode cX8_stepOn 52 = .ok (.aload_n 0, 1) := by decide +kernel
theorem dX8_stepOn_53 : decode cX8_stepOn 53 = .ok (.getfield 124, 3) := by decide +kernel
theorem dX8_stepOn_56 : decode cX8_stepOn 56 = .ok (.ifCond .ne 7, 3) := by decide +kernel
theorem dX8_stepOn_59 : decode cX8_stepOn 59 = .ok (.iconst 1, 1) := by decide +kernel
theorem dX8_stepOn_60 : decode cX8_stepOn 60 = .ok (.goto 4, 3) := by decide +kernel
theorem dX8_stepOn_63 : decode cX8_stepOn 63 = .ok (.iconst 0, 1) := by decide +kernel
theorem dX8_stepOn_64 : decode cX8_stepOn 64 = .ok (.istore 7, 2) := by decide +kernel
theorem dX8_stepOn_66 : decode cX8_stepOn 66 = .ok (.iload 7, 2) := by decide +kernel
theorem dX8_stepOn_68 : decode cX8_stepOn 68 = .ok (.ifCond .eq 49, 3) := by decide +kernel
theorem dX8_stepOn_71 : decode cX8_stepOn 71 = .ok (.aload_n 0, 1) := by decide +kernel
theorem dX8_stepOn_72 : decode cX8_stepOn 72 = .ok (.getfield 22, 3) := by decide +kernel
theorem dX8_stepOn_75 : decode cX8_stepOn 75 = .ok (.iload 6, 2) := by decide +kernel
theorem dX8_stepOn_77 : decode cX8_stepOn 77 = .ok (.iaload, 1) := by decide +kernel
theorem dX8_stepOn_78 : decode cX8_stepOn 78 = .ok (.iconst 2, 1) := by decide +kernel
theorem dX8_stepOn_79 : decode cX8_stepOn 79 = .ok (.if_icmp .ne 38, 3) := by decide +kernel
theorem dX8_stepOn_82 : decode cX8_stepOn 82 = .ok (.aload_n 0, 1) := by decide +kernel
theorem dX8_stepOn_83 : decode cX8_stepOn 83 = .ok (.getfield 31, 3) := by decide +kernel
theorem dX8_stepOn_86 : decode cX8_stepOn 86 = .ok (.iload 5, 2) := by decide +kernel
theorem dX8_stepOn_88 : decode cX8_stepOn 88 = .ok (.iconst 1, 1) := by decide +kernel
theorem dX8_stepOn_89 : decode cX8_stepOn 89 = .ok (.iadd, 1) := by decide +kernel
theorem dX8_stepOn_90 : decode cX8_stepOn 90 = .ok (.iaload, 1) := by decide +kernel
theorem dX8_stepOn_91 : decode cX8_stepOn 91 = .ok (.iload 6, 2) := by decide +kernel
theorem dX8_stepOn_93 : decode cX8_stepOn 93 = .ok (.ishr, 1) := by decide +kernel
theorem dX8_stepOn_94 : decode cX8_stepOn 94 = .ok (.iconst 1, 1) := by decide +kernel
theorem dX8_stepOn_95 : decode cX8_stepOn 95 = .ok (.iand, 1) := by decide +kernel
theorem dX8_stepOn_96 : decode cX8_stepOn 96 = .ok (.ifCond .ne 21, 3) := by decide +kernel
theorem dX8_stepOn_99 : decode cX8_stepOn 99 = .ok (.aload_n 0, 1) := by decide +kernel
theorem dX8_stepOn_100 : decode cX8_stepOn 100 = .ok (.getfield 31, 3) := by decide +kernel
theorem dX8_stepOn_103 : decode cX8_stepOn 103 = .ok (.iload 5, 2) := by decide +kernel
theorem dX8_stepOn_105 : decode cX8_stepOn 105 = .ok (.iconst 1, 1) := by decide +kernel
theorem dX8_stepOn_106 : decode cX8_stepOn 106 = .ok (.iadd, 1) := by decide +kernel
theorem dX8_stepOn_107 : decode cX8_stepOn 107 = .ok (.dup2, 1) := by decide +kernel
theorem dX8_stepOn_108 : decode cX8_stepOn 108 = .ok (.iaload, 1) := by decide +kernel
theorem dX8_stepOn_109 : decode cX8_stepOn 109 = .ok (.iconst 1, 1) := by decide +kernel
theorem dX8_stepOn_110 : decode cX8_stepOn 110 = .ok (.iload 6, 2) := by decide +kernel
theorem dX8_stepOn_112 : decode cX8_stepOn 112 = .ok (.ishl, 1) := by decide +kernel
theorem dX8_stepOn_113 : decode cX8_stepOn 113 = .ok (.ior, 1) := by decide +kernel
theorem dX8_stepOn_114 : decode cX8_stepOn 114 = .ok (.iastore, 1) := by decide +kernel
theorem dX8_stepOn_115 : decode cX8_stepOn 115 = .ok (.iconst 0, 1) := by decide +kernel
theorem dX8_stepOn_116 : decode cX8_stepOn 116 = .ok (.ireturn, 1) := by decide +kernel
theorem dX8_stepOn_117 : decode cX8_stepOn 117 = .ok (.aload_n 0, 1) := by decide +kernel
theorem dX8_stepOn_118 : decode cX8_stepOn 118 = .ok (.iload_n 1, 1) := by decide +kernel
theorem dX8_stepOn_119 : decode cX8_stepOn 119 = .ok (.iload 6, 2) := by decide +kernel
theorem dX8_stepOn_121 : decode cX8_stepOn 121 = .ok (.invokevirtual 160, 3) := by decide +kernel
theorem dX8_stepOn_124 : decode cX8_stepOn 124 = .ok (.ireturn, 1) := by decide +kernel
theorem dX8_keepAct_0 : decode cX8_keepAct 0 = .ok (.iconst 0, 1) := by decide +kernel
theorem dX8_keepAct_1 : decode cX8_keepAct 1 = .ok (.istore_n 1, 1) := by decide +kernel
theorem dX8_keepAct_2 : decode cX8_keepAct 2 = .ok (.iload_n 1, 1) := by decide +kernel
theorem dX8_keepAct_3 : decode cX8_keepAct 3 = .ok (.bipush 12, 2) := by decide +kernel
theorem dX8_keepAct_5 : decode cX8_keepAct 5 = .ok (.if_icmp .ge 29, 3) := by decide +kernel
theorem dX8_keepAct_8 : decode cX8_keepAct 8 = .ok (.aload_n 0, 1) := by decide +kernel
theorem dX8_keepAct_9 : decode cX8_keepAct 9 = .ok (.getfield 37, 3) := by decide +kernel
theorem dX8_keepAct_12 : decode cX8_keepAct 12 = .ok (.bipush 12, 2) := by decide +kernel
theorem dX8_keepAct_14 : decode cX8_keepAct 14 = .ok (.aload_n 0, 1) := by decide +kernel
theorem dX8_keepAct_15 : decode cX8_keepAct 15 = .ok (.getfield 163, 3) := by decide +kernel
theorem dX8_keepAct_18 : decode cX8_keepAct 18 = .ok (.imul, 1) := by decide +kernel
theorem dX8_keepAct_19 : decode cX8_keepAct 19 = .ok (.iload_n 1, 1) := by decide +kernel
theorem dX8_keepAct_20 : decode cX8_keepAct 20 = .ok (.iadd, 1) := by decide +kernel
theorem dX8_keepAct_21 : decode cX8_keepAct 21 = .ok (.aload_n 0, 1) := by decide +kernel
theorem dX8_keepAct_22 : decode cX8_keepAct 22 = .ok (.getfield 31, 3) := by decide +kernel
theorem dX8_keepAct_25 : decode cX8_keepAct 25 = .ok (.iload_n 1, 1) := by decide +kernel
theorem dX8_keepAct_26 : decode cX8_keepAct 26 = .ok (.iaload, 1) := by decide +kernel
theorem dX8_keepAct_27 : decode cX8_keepAct 27 = .ok (.iastore, 1) := by decide +kernel
theorem dX8_keepAct_28 : decode cX8_keepAct 28 = .ok (.iinc 1 1, 3) := by decide +kernel
theorem dX8_keepAct_31 : decode cX8_keepAct 31 = .ok (.goto (-29), 3) := by decide +kernel
theorem dX8_keepAct_34 : decode cX8_keepAct 34 = .ok (.aload_n 0, 1) := by decide +kernel
theorem dX8_keepAct_35 : decode cX8_keepAct 35 = .ok (.aload_n 0, 1) := by decide +kernel
theorem dX8_keepAct_36 : decode cX8_keepAct 36 = .ok (.getfield 163, 3) := by decide +kernel
theorem dX8_keepAct_39 : decode cX8_keepAct 39 = .ok (.iconst 1, 1) := by decide +kernel
theorem dX8_keepAct_40 : decode cX8_keepAct 40 = .ok (.iadd, 1) := by decide +kernel
theorem dX8_keepAct_41 : decode cX8_keepAct 41 = .ok (.bipush 16, 2) := by decide +kernel
theorem dX8_keepAct_43 : decode cX8_keepAct 43 = .ok (.irem, 1) := by decide +kernel
theorem dX8_keepAct_44 : decode cX8_keepAct 44 = .ok (.putfield 163, 3) := by decide +kernel
theorem dX8_keepAct_47 : decode cX8_keepAct 47 = .ok (.aload_n 0, 1) := by decide +kernel
theorem dX8_keepAct_48 : decode cX8_keepAct 48 = .ok (.aload_n 0, 1) := by decide +kernel
theorem dX8_keepAct_49 : decode cX8_keepAct 49 = .ok (.getfield 128, 3) := by decide +kernel
theorem dX8_keepAct_52 : decode cX8_keepAct 52 = .ok (.bipush 16, 2) := by decide +kernel
theorem dX8_keepAct_54 : decode cX8_keepAct 54 = .ok (.if_icmp .ge 12, 3) := by decide +kernel
theorem dX8_keepAct_57 : decode cX8_keepAct 57 = .ok (.aload_n 0, 1) := by decide +kernel
theorem dX8_keepAct_58 : decode cX8_keepAct 58 = .ok (.getfield 128, 3) := by decide +kernel
theorem dX8_keepAct_61 : decode cX8_keepAct 61 = .ok (.iconst 1, 1) := by decide +kernel
theorem dX8_keepAct_62 : decode cX8_keepAct 62 = .ok (.iadd, 1) := by decide +kernel
theorem dX8_keepAct_63 : decode cX8_keepAct 63 = .ok (.goto 5, 3) := by decide +kernel
theorem dX8_keepAct_66 : decode cX8_keepAct 66 = .ok (.bipush 16, 2) := by decide +kernel
theorem dX8_keepAct_68 : decode cX8_keepAct 68 = .ok (.putfield 128, 3) := by decide +kernel
theorem dX8_keepAct_71 : decode cX8_keepAct 71 = .ok (.return_, 1) := by decide +kernel
set_option maxRecDepth 20000 in
theorem ggX8_step_X8_isWalker : GoodIn wsX8_step wsX8_isWalker := goodIn_r _ [7, 8, 9, 10, 6, 11, 56, 57, 58, 59, 60, 61, 62, 63, 64, 65, 66, 67, 68, 69, 70, 71, 72, 73, 74, 75, 76, 77, 78, 79, 80, 81, 82, 83] (by decide +kernel) (by decide +kernel)
set_option maxRecDepth 20000 in
theorem gX8_step_X8_isWalker : GoodIn wsX8_step (wsV RX8 137 RX8 yX8_isWalker wsX8_isWalker) := goodIn_app (goodIn_of _ (by decide +kernel)) ggX8_step_X8_isWalker
set_option maxRecDepth 20000 in
theorem ggX8_step_X8_isCell : GoodIn wsX8_step wsX8_isCell := goodIn_r _ [14, 15, 9, 10, 6, 11] (by decide +kernel) (by decide +kernel)
set_option maxRecDepth 20000 in
theorem gX8_step_X8_isCell : GoodIn wsX8_step (va_wsS RX8 143 yX8_isCell wsX8_isCell) := goodIn_app (goodIn_of _ (by decide +kernel)) ggX8_step_X8_isCell
set_option maxRecDepth 20000 in
theorem ggX8_step_X8_nearTo : GoodIn wsX8_step wsX8_nearTo := goodIn_r _ [19, 20, 21, 22, 6, 23, 56, 57, 58, 59, 60, 61, 62, 63, 64, 65, 66, 67, 68, 69, 70, 71, 72, 73, 74, 75, 76, 77, 78, 79, 80, 81, 82, 83] (by decide +kernel) (by decide +kernel)
set_option maxRecDepth 20000 in
theorem gX8_step_X8_nearTo : GoodIn wsX8_step (wsV RX8 146 RX8 yX8_nearTo wsX8_nearTo) := goodIn_app (goodIn_of _ (by decide +kernel)) ggX8_step_X8_nearTo
set_option maxRecDepth 20000 in
theorem ggX8_step_X8_keepAct : GoodIn wsX8_step wsX8_keepAct := goodIn_r _ [27, 28, 29, 1, 30, 56, 57, 58, 59, 60, 61, 62, 63, 64, 65, 66, 67, 68, 69, 70, 71, 72, 73, 74, 75, 76, 77, 78, 79, 80, 81, 82, 83] (by decide +kernel) (by decide +kernel)
set_option maxRecDepth 20000 in
theorem gX8_step_X8_keepAct : GoodIn wsX8_step (wsV RX8 166 RX8 yX8_keepAct wsX8_keepAct) := goodIn_app (goodIn_of _ (by decide +kernel)) ggX8_step_X8_keepAct
set_option maxRecDepth 20000 in
theorem ggX8_step_X8_stepOn : GoodIn wsX8_step wsX8_stepOn := goodIn_r _ [34, 1, 35, 36, 37, 38, 39, 6, 40, 41, 42, 43, 44, 45, 8, 46, 47, 48, 49, 50, 51, 52, 53, 54, 55, 56, 57, 58, 59, 60, 61, 62, 63, 64, 65, 66, 67, 68, 69, 70, 71, 72, 73, 74, 75, 76, 77, 78, 79, 80, 81, 82, 83] (by decide +kernel) (by decide +kernel)
set_option maxRecDepth 20000 in
theorem gX8_step_X8_stepOn : GoodIn wsX8_step (wsV RX8 169 RX8 yX8_stepOn wsX8_stepOn) := goodIn_app (goodIn_of _ (by decide +kernel)) ggX8_step_X8_stepOn
theorem dX8_step_0 : decode cX8_step 0 = .ok (.aload_n 0, 1) := by decide +kernel
theorem dX8_step_1 : decode cX8_step 1 = .ok (.iload_n 1, 1) := by decide +kernel
theorem dX8_step_2 : decode cX8_step 2 = .ok (.invokevirtual 137, 3) := by decide +kernel
theorem dX8_step_5 : decode cX8_step 5 = .ok (.ifCond .eq 10, 3) := by decide +kernel
theorem dX8_step_8 : decode cX8_step 8 = .ok (.iload_n 2, 1) := by decide +kernel
theorem dX8_step_9 : decode cX8_step 9 = .ok (.invokestatic 143, 3) := by decide +kernel
theorem dX8_step_12 : decode cX8_step 12 = .ok (.ifCond .ne 5, 3) := by decide +kernel
theorem dX8_step_15 : decode cX8_step 15 = .ok (.iconst (-1), 1) := by decide +kernel
theorem dX8_step_16 : decode cX8_step 16 = .ok (.ireturn, 1) := by decide +kernel
theorem dX8_step_17 : decode cX8_step 17 = .ok (.aload_n 0, 1) := by decide +kernel
theorem dX8_step_18 : decode cX8_step 18 = .ok (.getfield 31, 3) := by decide +kernel
theorem dX8_step_21 : decode cX8_step 21 = .ok (.bipush 8, 2) := by decide +kernel
theorem dX8_step_23 : decode cX8_step 23 = .ok (.iload_n 1, 1) := by decide +kernel
theorem dX8_step_24 : decode cX8_step 24 = .ok (.iadd, 1) := by decide +kernel
theorem dX8_step_25 : decode cX8_step 25 = .ok (.iaload, 1) := by decide +kernel
theorem dX8_step_26 : decode cX8_step 26 = .ok (.bipush (-9), 2) := by decide +kernel
theorem dX8_step_28 : decode cX8_step 28 = .ok (.if_icmp .ne 22, 3) := by decide +kernel
theorem dX8_step_31 : decode cX8_step 31 = .ok (.aload_n 0, 1) := by decide +kernel
theorem dX8_step_32 : decode cX8_step 32 = .ok (.aload_n 0, 1) := by decide +kernel
theorem dX8_step_33 : decode cX8_step 33 = .ok (.getfield 31, 3) := by decide +kernel
theorem dX8_step_36 : decode cX8_step 36 = .ok (.iconst 4, 1) := by decide +kernel
theorem dX8_step_37 : decode cX8_step 37 = .ok (.iload_n 1, 1) := by decide +kernel
theorem dX8_step_38 : decode cX8_step 38 = .ok (.iadd, 1) := by decide +kernel
theorem dX8_step_39 : decode cX8_step 39 = .ok (.iaload, 1) := by decide +kernel
theorem dX8_step_40 : decode cX8_step 40 = .ok (.invokevirtual 146, 3) := by decide +kernel
theorem dX8_step_43 : decode cX8_step 43 = .ok (.iload_n 2, 1) := by decide +kernel
theorem dX8_step_44 : decode cX8_step 44 = .ok (.ishr, 1) := by decide +kernel
theorem dX8_step_45 : decode cX8_step 45 = .ok (.iconst 1, 1) := by decide +kernel
theorem dX8_step_46 : decode cX8_step 46 = .ok (.iand, 1) := by decide +kernel
theorem dX8_step_47 : decode cX8_step 47 = .ok (.ifCond .ne 6, 3) := by decide +kernel
theorem dX8_step_50 : decode cX8_step 50 = .ok (.bipush (-3), 2) := by decide +kernel
theorem dX8_step_52 : decode cX8_step 52 = .ok (.ireturn, 1) := by decide +kernel
theorem dX8_step_53 : decode cX8_step 53 = .ok (.aload_n 0, 1) := by decide +kernel
theorem dX8_step_54 : decode cX8_step 54 = .ok (.invokevirtual 166, 3) := by decide +kernel
theorem dX8_step_57 : decode cX8_step 57 = .ok (.aload_n 0, 1) := by decide +kernel
theorem dX8_step_58 : decode cX8_step 58 = .ok (.iconst 0, 1) := by decide +kernel
theorem dX8_step_59 : decode cX8_step 59 = .ok (.iload_n 1, 1) := by decide +kernel
theorem dX8_step_60 : decode cX8_step 60 = .ok (.iload_n 2, 1) := by decide +kernel
theorem dX8_step_61 : decode cX8_step 61 = .ok (.aload_n 0, 1) := by decide +kernel
theorem dX8_step_62 : decode cX8_step 62 = .ok (.getfield 56, 3) := by decide +kernel
theorem dX8_step_65 : decode cX8_step 65 = .ok (.invokevirtual 169, 3) := by decide +kernel
theorem dX8_step_68 : decode cX8_step 68 = .ok (.ireturn, 1) := by decide +kernel
set_option maxRecDepth 20000 in
theorem ggX8_arm_X8_isTrap : GoodIn wsX8_arm wsX8_isTrap := goodIn_r _ [7, 8, 9, 10, 6, 11, 19, 20, 21, 22, 23, 24, 25, 26, 27, 28, 29, 30, 31, 32, 33, 34, 35, 36, 37, 38, 39, 40, 41, 42, 43, 44, 45, 46] (by decide +kernel) (by decide +kernel)
set_option maxRecDepth 20000 in
theorem gX8_arm_X8_isTrap : GoodIn wsX8_arm (wsV RX8 133 RX8 yX8_isTrap wsX8_isTrap) := goodIn_app (goodIn_of _ (by decide +kernel)) ggX8_arm_X8_isTrap
set_option maxRecDepth 20000 in
theorem ggX8_arm_X8_keepAct : GoodIn wsX8_arm wsX8_keepAct := goodIn_r _ [15, 16, 17, 1, 18, 19, 20, 21, 22, 23, 24, 25, 26, 27, 28, 29, 30, 31, 32, 33, 34, 35, 36, 37, 38, 39, 40, 41, 42, 43, 44, 45, 46] (by decide +kernel) (by decide +kernel)
set_option maxRecDepth 20000 in
theorem gX8_arm_X8_keepAct : GoodIn wsX8_arm (wsV RX8 166 RX8 yX8_keepAct wsX8_keepAct) := goodIn_app (goodIn_of _ (by decide +kernel)) ggX8_arm_X8_keepAct
theorem dX8_arm_0 : decode cX8_arm 0 = .ok (.aload_n 0, 1) := by decide +kernel
theorem dX8_arm_1 : decode cX8_arm 1 = .ok (.iload_n 1, 1) := by decide +kernel
theorem dX8_arm_2 : decode cX8_arm 2 = .ok (.invokevirtual 133, 3) := by decide +kernel
theorem dX8_arm_5 : decode cX8_arm 5 = .ok (.ifCond .ne 5, 3) := by decide +kernel
theorem dX8_arm_8 : decode cX8_arm 8 = .ok (.iconst (-1), 1) := by decide +kernel
theorem dX8_arm_9 : decode cX8_arm 9 = .ok (.ireturn, 1) := by decide +kernel
theorem dX8_arm_10 : decode cX8_arm 10 = .ok (.aload_n 0, 1) := by decide +kernel
theorem dX8_arm_11 : decode cX8_arm 11 = .ok (.getfield 31, 3) := by decide +kernel
theorem dX8_arm_14 : decode cX8_arm 14 = .ok (.iconst 0, 1) := by decide +kernel
theorem dX8_arm_15 : decode cX8_arm 15 = .ok (.iaload, 1) := by decide +kernel
theorem dX8_arm_16 : decode cX8_arm 16 = .ok (.iload_n 1, 1) := by decide +kernel
theorem dX8_arm_17 : decode cX8_arm 17 = .ok (.ishr, 1) := by decide +kernel
theorem dX8_arm_18 : decode cX8_arm 18 = .ok (.iconst 1, 1) := by decide +kernel
theorem dX8_arm_19 : decode cX8_arm 19 = .ok (.iand, 1) := by decide +kernel
theorem dX8_arm_20 : decode cX8_arm 20 = .ok (.iconst 1, 1) := by decide +kernel
theorem dX8_arm_21 : decode cX8_arm 21 = .ok (.if_icmp .ne 6, 3) := by decide +kernel
theorem dX8_arm_24 : decode cX8_arm 24 = .ok (.bipush (-3), 2) := by decide +kernel
theorem dX8_arm_26 : decode cX8_arm 26 = .ok (.ireturn, 1) := by decide +kernel
theorem dX8_arm_27 : decode cX8_arm 27 = .ok (.aload_n 0, 1) := by decide +kernel
theorem dX8_arm_28 : decode cX8_arm 28 = .ok (.invokevirtual 166, 3) := by decide +kernel
theorem dX8_arm_31 : decode cX8_arm 31 = .ok (.aload_n 0, 1) := by decide +kernel
theorem dX8_arm_32 : decode cX8_arm 32 = .ok (.getfield 31, 3) := by decide +kernel
theorem dX8_arm_35 : decode cX8_arm 35 = .ok (.iconst 0, 1) := by decide +kernel
theorem dX8_arm_36 : decode cX8_arm 36 = .ok (.dup2, 1) := by decide +kernel
theorem dX8_arm_37 : decode cX8_arm 37 = .ok (.iaload, 1) := by decide +kernel
theorem dX8_arm_38 : decode cX8_arm 38 = .ok (.iconst 1, 1) := by decide +kernel
theorem dX8_arm_39 : decode cX8_arm 39 = .ok (.iload_n 1, 1) := by decide +kernel
theorem dX8_arm_40 : decode cX8_arm 40 = .ok (.ishl, 1) := by decide +kernel
theorem dX8_arm_41 : decode cX8_arm 41 = .ok (.ior, 1) := by decide +kernel
theorem dX8_arm_42 : decode cX8_arm 42 = .ok (.iastore, 1) := by decide +kernel
theorem dX8_arm_43 : decode cX8_arm 43 = .ok (.aload_n 0, 1) := by decide +kernel
theorem dX8_arm_44 : decode cX8_arm 44 = .ok (.getfield 31, 3) := by decide +kernel
theorem dX8_arm_47 : decode cX8_arm 47 = .ok (.iconst 1, 1) := by decide +kernel
theorem dX8_arm_48 : decode cX8_arm 48 = .ok (.dup2, 1) := by decide +kernel
theorem dX8_arm_49 : decode cX8_arm 49 = .ok (.iaload, 1) := by decide +kernel
theorem dX8_arm_50 : decode cX8_arm 50 = .ok (.iconst 1, 1) := by decide +kernel
theorem dX8_arm_51 : decode cX8_arm 51 = .ok (.iload_n 1, 1) := by decide +kernel
theorem dX8_arm_52 : decode cX8_arm 52 = .ok (.ishl, 1) := by decide +kernel
theorem dX8_arm_53 : decode cX8_arm 53 = .ok (.iconst (-1), 1) := by decide +kernel
theorem dX8_arm_54 : decode cX8_arm 54 = .ok (.ixor, 1) := by decide +kernel
theorem dX8_arm_55 : decode cX8_arm 55 = .ok (.iand, 1) := by decide +kernel
theorem dX8_arm_56 : decode cX8_arm 56 = .ok (.iastore, 1) := by decide +kernel
theorem dX8_arm_57 : decode cX8_arm 57 = .ok (.aload_n 0, 1) := by decide +kernel
theorem dX8_arm_58 : decode cX8_arm 58 = .ok (.getfield 19, 3) := by decide +kernel
theorem dX8_arm_61 : decode cX8_arm 61 = .ok (.iload_n 1, 1) := by decide +kernel
theorem dX8_arm_62 : decode cX8_arm 62 = .ok (.iaload, 1) := by decide +kernel
theorem dX8_arm_63 : decode cX8_arm 63 = .ok (.ireturn, 1) := by decide +kernel
set_option maxRecDepth 20000 in
theorem ggX8_finds_X8_neighbours : GoodIn wsX8_finds wsX8_neighbours := goodIn_r _ [7] (by decide +kernel) (by decide +kernel)
set_option maxRecDepth 20000 in
theorem gX8_finds_X8_neighbours : GoodIn wsX8_finds (va_wsS RX8 140 yX8_neighbours wsX8_neighbours) := goodIn_app (goodIn_of _ (by decide +kernel)) ggX8_finds_X8_neighbours
theorem dX8_finds_0 : decode cX8_finds 0 = .ok (.iconst 0, 1) := by decide +kernel
theorem dX8_finds_1 : decode cX8_finds 1 = .ok (.istore_n 3, 1) := by decide +kernel
theorem dX8_finds_2 : decode cX8_finds 2 = .ok (.iconst 0, 1) := by decide +kernel
theorem dX8_finds_3 : decode cX8_finds 3 = .ok (.istore 4, 2) := by decide +kernel
theorem dX8_finds_5 : decode cX8_finds 5 = .ok (.iload 4, 2) := by decide +kernel
theorem dX8_finds_7 : decode cX8_finds 7 = .ok (.aload_n 0, 1) := by decide +kernel
theorem dX8_finds_8 : decode cX8_finds 8 = .ok (.getfield 56, 3) := by decide +kernel
theorem dX8_finds_11 : decode cX8_finds 11 = .ok (.if_icmp .ge 49, 3) := by decide +kernel
theorem dX8_finds_14 : decode cX8_finds 14 = .ok (.iload_n 3, 1) := by decide +kernel
theorem dX8_finds_15 : decode cX8_finds 15 = .ok (.aload_n 0, 1) := by decide +kernel
theorem dX8_finds_16 : decode cX8_finds 16 = .ok (.getfield 16, 3) := by decide +kernel
theorem dX8_finds_19 : decode cX8_finds 19 = .ok (.iload 4, 2) := by decide +kernel
theorem dX8_finds_21 : decode cX8_finds 21 = .ok (.iaload, 1) := by decide +kernel
theorem dX8_finds_22 : decode cX8_finds 22 = .ok (.iload_n 2, 1) := by decide +kernel
theorem dX8_finds_23 : decode cX8_finds 23 = .ok (.if_icmp .eq 21, 3) := by decide +kernel
theorem dX8_finds_26 : decode cX8_finds 26 = .ok (.iload_n 2, 1) := by decide +kernel
theorem dX8_finds_27 : decode cX8_finds 27 = .ok (.invokestatic 140, 3) := by decide +kernel
theorem dX8_finds_30 : decode cX8_finds 30 = .ok (.aload_n 0, 1) := by decide +kernel
theorem dX8_finds_31 : decode cX8_finds 31 = .ok (.getfield 16, 3) := by decide +kernel
theorem dX8_finds_34 : decode cX8_finds 34 = .ok (.iload 4, 2) := by decide +kernel
theorem dX8_finds_36 : decode cX8_finds 36 = .ok (.iaload, 1) := by decide +kernel
theorem dX8_finds_37 : decode cX8_finds 37 = .ok (.ishr, 1) := by decide +kernel
theorem dX8_finds_38 : decode cX8_finds 38 = .ok (.iconst 1, 1) := by decide +kernel
theorem dX8_finds_39 : decode cX8_finds 39 = .ok (.iand, 1) := by decide +kernel
theorem dX8_finds_40 : decode cX8_finds 40 = .ok (.iconst 1, 1) := by decide +kernel
theorem dX8_finds_41 : decode cX8_finds 41 = .ok (.if_icmp .ne 10, 3) := by decide +kernel
theorem dX8_finds_44 : decode cX8_finds 44 = .ok (.iconst 1, 1) := by decide +kernel
theorem dX8_finds_45 : decode cX8_finds 45 = .ok (.iload 4, 2) := by decide +kernel
theorem dX8_finds_47 : decode cX8_finds 47 = .ok (.ishl, 1) := by decide +kernel
theorem dX8_finds_48 : decode cX8_finds 48 = .ok (.goto 4, 3) := by decide +kernel
theorem dX8_finds_51 : decode cX8_finds 51 = .ok (.iconst 0, 1) := by decide +kernel
theorem dX8_finds_52 : decode cX8_finds 52 = .ok (.ior, 1) := by decide +kernel
theorem dX8_finds_53 : decode cX8_finds 53 = .ok (.istore_n 3, 1) := by decide +kernel
theorem dX8_finds_54 : decode cX8_finds 54 = .ok (.iinc 4 1, 3) := by decide +kernel
theorem dX8_finds_57 : decode cX8_finds 57 = .ok (.goto (-52), 3) := by decide +kernel
theorem dX8_finds_60 : decode cX8_finds 60 = .ok (.iload_n 3, 1) := by decide +kernel
theorem dX8_finds_61 : decode cX8_finds 61 = .ok (.aload_n 0, 1) := by decide +kernel
theorem dX8_finds_62 : decode cX8_finds 62 = .ok (.getfield 31, 3) := by decide +kernel
theorem dX8_finds_65 : decode cX8_finds 65 = .ok (.iconst 2, 1) := by decide +kernel
theorem dX8_finds_66 : decode cX8_finds 66 = .ok (.iload_n 1, 1) := by decide +kernel
theorem dX8_finds_67 : decode cX8_finds 67 = .ok (.iadd, 1) := by decide +kernel
theorem dX8_finds_68 : decode cX8_finds 68 = .ok (.iaload, 1) := by decide +kernel
theorem dX8_finds_69 : decode cX8_finds 69 = .ok (.iconst (-1), 1) := by decide +kernel
theorem dX8_finds_70 : decode cX8_finds 70 = .ok (.ixor, 1) := by decide +kernel
theorem dX8_finds_71 : decode cX8_finds 71 = .ok (.iand, 1) := by decide +kernel
theorem dX8_finds_72 : decode cX8_finds 72 = .ok (.ireturn, 1) := by decide +kernel
set_option maxRecDepth 20000 in
theorem ggX8_look_X8_isCell : GoodIn wsX8_look wsX8_isCell := goodIn_r _ [5, 6, 7, 8, 4, 9] (by decide +kernel) (by decide +kernel)
set_option maxRecDepth 20000 in
theorem gX8_look_X8_isCell : GoodIn wsX8_look (va_wsS RX8 143 yX8_isCell wsX8_isCell) := goodIn_app (goodIn_of _ (by decide +kernel)) ggX8_look_X8_isCell
set_option maxRecDepth 20000 in
theorem ggX8_look_X8_in : GoodIn wsX8_look wsX8_in := goodIn_r _ [9] (by decide +kernel) (by decide +kernel)
set_option maxRecDepth 20000 in
theorem gX8_look_X8_in : GoodIn wsX8_look (va_wsS RX8 62 yX8_in wsX8_in) := goodIn_app (goodIn_of _ (by decide +kernel)) ggX8_look_X8_in
set_option maxRecDepth 20000 in
theorem ggX8_look_X8_keepAct : GoodIn wsX8_look wsX8_keepAct := goodIn_r _ [13, 14, 15, 1, 16, 26, 27, 28, 29, 30, 31, 32, 33, 34, 35, 36, 37, 38, 39, 40, 41, 42, 43, 44, 45, 46, 47, 48, 49, 50, 51, 52, 53] (by decide +kernel) (by decide +kernel)
set_option maxRecDepth 20000 in
theorem gX8_look_X8_keepAct : GoodIn wsX8_look (wsV RX8 166 RX8 yX8_keepAct wsX8_keepAct) := goodIn_app (goodIn_of _ (by decide +kernel)) ggX8_look_X8_keepAct
set_option maxRecDepth 20000 in
theorem ggX8_look_X8_finds : GoodIn wsX8_look wsX8_finds := goodIn_r _ [20, 21, 22, 1, 23, 24, 4, 25, 26, 27, 28, 29, 30, 31, 32, 33, 34, 35, 36, 37, 38, 39, 40, 41, 42, 43, 44, 45, 46, 47, 48, 49, 50, 51, 52, 53] (by decide +kernel) (by decide +kernel)
set_option maxRecDepth 20000 in
theorem gX8_look_X8_finds : GoodIn wsX8_look (wsV RX8 173 RX8 yX8_finds wsX8_finds) := goodIn_app (goodIn_of _ (by decide +kernel)) ggX8_look_X8_finds
theorem dX8_look_0 : decode cX8_look 0 = .ok (.iload_n 2, 1) := by decide +kernel
theorem dX8_look_1 : decode cX8_look 1 = .ok (.invokestatic 143, 3) := by decide +kernel
theorem dX8_look_4 : decode cX8_look 4 = .ok (.ifCond .ne 5, 3) := by decide +kernel
theorem dX8_look_7 : decode cX8_look 7 = .ok (.iconst (-1), 1) := by decide +kernel
theorem dX8_look_8 : decode cX8_look 8 = .ok (.ireturn, 1) := by decide +kernel
theorem dX8_look_9 : decode cX8_look 9 = .ok (.iload_n 1, 1) := by decide +kernel
theorem dX8_look_10 : decode cX8_look 10 = .ok (.i2l, 1) := by decide +kernel
theorem dX8_look_11 : decode cX8_look 11 = .ok (.lconst 0, 1) := by decide +kernel
theorem dX8_look_12 : decode cX8_look 12 = .ok (.lconst 1, 1) := by decide +kernel
theorem dX8_look_13 : decode cX8_look 13 = .ok (.invokestatic 62, 3) := by decide +kernel
theorem dX8_look_16 : decode cX8_look 16 = .ok (.ifCond .ne 6, 3) := by decide +kernel
theorem dX8_look_19 : decode cX8_look 19 = .ok (.bipush (-2), 2) := by decide +kernel
theorem dX8_look_21 : decode cX8_look 21 = .ok (.ireturn, 1) := by decide +kernel
theorem dX8_look_22 : decode cX8_look 22 = .ok (.aload_n 0, 1) := by decide +kernel
theorem dX8_look_23 : decode cX8_look 23 = .ok (.invokevirtual 166, 3) := by decide +kernel
theorem dX8_look_26 : decode cX8_look 26 = .ok (.aload_n 0, 1) := by decide +kernel
theorem dX8_look_27 : decode cX8_look 27 = .ok (.iload_n 1, 1) := by decide +kernel
theorem dX8_look_28 : decode cX8_look 28 = .ok (.iload_n 2, 1) := by decide +kernel
theorem dX8_look_29 : decode cX8_look 29 = .ok (.invokevirtual 173, 3) := by decide +kernel
theorem dX8_look_32 : decode cX8_look 32 = .ok (.istore_n 3, 1) := by decide +kernel
theorem dX8_look_33 : decode cX8_look 33 = .ok (.aload_n 0, 1) := by decide +kernel
theorem dX8_look_34 : decode cX8_look 34 = .ok (.getfield 31, 3) := by decide +kernel
theorem dX8_look_37 : decode cX8_look 37 = .ok (.iconst 2, 1) := by decide +kernel
theorem dX8_look_38 : decode cX8_look 38 = .ok (.iload_n 1, 1) := by decide +kernel
theorem dX8_look_39 : decode cX8_look 39 = .ok (.iadd, 1) := by decide +kernel
theorem dX8_look_40 : decode cX8_look 40 = .ok (.dup2, 1) := by decide +kernel
theorem dX8_look_41 : decode cX8_look 41 = .ok (.iaload, 1) := by decide +kernel
theorem dX8_look_42 : decode cX8_look 42 = .ok (.iload_n 3, 1) := by decide +kernel
theorem dX8_look_43 : decode cX8_look 43 = .ok (.ior, 1) := by decide +kernel
theorem dX8_look_44 : decode cX8_look 44 = .ok (.iastore, 1) := by decide +kernel
theorem dX8_look_45 : decode cX8_look 45 = .ok (.iload_n 3, 1) := by decide +kernel
theorem dX8_look_46 : decode cX8_look 46 = .ok (.ireturn, 1) := by decide +kernel
set_option maxRecDepth 20000 in
theorem ggX8_free_X8_isWalker : GoodIn wsX8_free wsX8_isWalker := goodIn_r _ [6, 7, 8, 9, 5, 10, 18, 19, 20, 21, 22, 23, 24, 25, 26, 27, 28, 29, 30, 31, 32, 33, 34, 35, 36, 37, 38, 39, 40, 41, 42, 43, 44, 45] (by decide +kernel) (by decide +kernel)
set_option maxRecDepth 20000 in
theorem gX8_free_X8_isWalker : GoodIn wsX8_free (wsV RX8 137 RX8 yX8_isWalker wsX8_isWalker) := goodIn_app (goodIn_of _ (by decide +kernel)) ggX8_free_X8_isWalker
set_option maxRecDepth 20000 in
theorem ggX8_free_X8_keepAct : GoodIn wsX8_free wsX8_keepAct := goodIn_r _ [14, 15, 16, 1, 17, 18, 19, 20, 21, 22, 23, 24, 25, 26, 27, 28, 29, 30, 31, 32, 33, 34, 35, 36, 37, 38, 39, 40, 41, 42, 43, 44, 45] (by decide +kernel) (by decide +kernel)
set_option maxRecDepth 20000 in
theorem gX8_free_X8_keepAct : GoodIn wsX8_free (wsV RX8 166 RX8 yX8_keepAct wsX8_keepAct) := goodIn_app (goodIn_of _ (by decide +kernel)) ggX8_free_X8_keepAct
theorem dX8_free_0 : decode cX8_free 0 = .ok (.aload_n 0, 1) := by decide +kernel
theorem dX8_free_1 : decode cX8_free 1 = .ok (.iload_n 1, 1) := by decide +kernel
theorem dX8_free_2 : decode cX8_free 2 = .ok (.invokevirtual 137, 3) := by decide +kernel
theorem dX8_free_5 : decode cX8_free 5 = .ok (.ifCond .ne 5, 3) := by decide +kernel
theorem dX8_free_8 : decode cX8_free 8 = .ok (.iconst (-1), 1) := by decide +kernel
theorem dX8_free_9 : decode cX8_free 9 = .ok (.ireturn, 1) := by decide +kernel
theorem dX8_free_10 : decode cX8_free 10 = .ok (.aload_n 0, 1) := by decide +kernel
theorem dX8_free_11 : decode cX8_free 11 = .ok (.getfield 31, 3) := by decide +kernel
theorem dX8_free_14 : decode cX8_free 14 = .ok (.bipush 8, 2) := by decide +kernel
theorem dX8_free_16 : decode cX8_free 16 = .ok (.iload_n 1, 1) := by decide +kernel
theorem dX8_free_17 : decode cX8_free 17 = .ok (.iadd, 1) := by decide +kernel
theorem dX8_free_18 : decode cX8_free 18 = .ok (.iaload, 1) := by decide +kernel
theorem dX8_free_19 : decode cX8_free 19 = .ok (.bipush (-9), 2) := by decide +kernel
theorem dX8_free_21 : decode cX8_free 21 = .ok (.if_icmp .ne 6, 3) := by decide +kernel
theorem dX8_free_24 : decode cX8_free 24 = .ok (.bipush (-3), 2) := by decide +kernel
theorem dX8_free_26 : decode cX8_free 26 = .ok (.ireturn, 1) := by decide +kernel
theorem dX8_free_27 : decode cX8_free 27 = .ok (.aload_n 0, 1) := by decide +kernel
theorem dX8_free_28 : decode cX8_free 28 = .ok (.invokevirtual 166, 3) := by decide +kernel
theorem dX8_free_31 : decode cX8_free 31 = .ok (.aload_n 0, 1) := by decide +kernel
theorem dX8_free_32 : decode cX8_free 32 = .ok (.getfield 31, 3) := by decide +kernel
theorem dX8_free_35 : decode cX8_free 35 = .ok (.bipush 8, 2) := by decide +kernel
theorem dX8_free_37 : decode cX8_free 37 = .ok (.iload_n 1, 1) := by decide +kernel
theorem dX8_free_38 : decode cX8_free 38 = .ok (.iadd, 1) := by decide +kernel
theorem dX8_free_39 : decode cX8_free 39 = .ok (.iaload, 1) := by decide +kernel
theorem dX8_free_40 : decode cX8_free 40 = .ok (.istore_n 2, 1) := by decide +kernel
theorem dX8_free_41 : decode cX8_free 41 = .ok (.aload_n 0, 1) := by decide +kernel
theorem dX8_free_42 : decode cX8_free 42 = .ok (.getfield 31, 3) := by decide +kernel
theorem dX8_free_45 : decode cX8_free 45 = .ok (.bipush 8, 2) := by decide +kernel
theorem dX8_free_47 : decode cX8_free 47 = .ok (.iload_n 1, 1) := by decide +kernel
theorem dX8_free_48 : decode cX8_free 48 = .ok (.iadd, 1) := by decide +kernel
theorem dX8_free_49 : decode cX8_free 49 = .ok (.bipush (-9), 2) := by decide +kernel
theorem dX8_free_51 : decode cX8_free 51 = .ok (.iastore, 1) := by decide +kernel
theorem dX8_free_52 : decode cX8_free 52 = .ok (.iload_n 2, 1) := by decide +kernel
theorem dX8_free_53 : decode cX8_free 53 = .ok (.ireturn, 1) := by decide +kernel
theorem dX8_undo_0 : decode cX8_undo 0 = .ok (.aload_n 0, 1) := by decide +kernel
theorem dX8_undo_1 : decode cX8_undo 1 = .ok (.getfield 128, 3) := by decide +kernel
theorem dX8_undo_4 : decode cX8_undo 4 = .ok (.ifCond .ne 6, 3) := by decide +kernel
theorem dX8_undo_7 : decode cX8_undo 7 = .ok (.bipush (-3), 2) := by decide +kernel
theorem dX8_undo_9 : decode cX8_undo 9 = .ok (.ireturn, 1) := by decide +kernel
theorem dX8_undo_10 : decode cX8_undo 10 = .ok (.aload_n 0, 1) := by decide +kernel
theorem dX8_undo_11 : decode cX8_undo 11 = .ok (.dup, 1) := by decide +kernel
theorem dX8_undo_12 : decode cX8_undo 12 = .ok (.getfield 128, 3) := by decide +kernel
theorem dX8_undo_15 : decode cX8_undo 15 = .ok (.iconst 1, 1) := by decide +kernel
theorem dX8_undo_16 : decode cX8_undo 16 = .ok (.isub, 1) := by decide +kernel
theorem dX8_undo_17 : decode cX8_undo 17 = .ok (.putfield 128, 3) := by decide +kernel
theorem dX8_undo_20 : decode cX8_undo 20 = .ok (.aload_n 0, 1) := by decide +kernel
theorem dX8_undo_21 : decode cX8_undo 21 = .ok (.aload_n 0, 1) := by decide +kernel
theorem dX8_undo_22 : decode cX8_undo 22 = .ok (.getfield 163, 3) := by decide +kernel
theorem dX8_undo_25 : decode cX8_undo 25 = .ok (.bipush 15, 2) := by decide +kernel
theorem dX8_undo_27 : decode cX8_undo 27 = .ok (.iadd, 1) := by decide +kernel
theorem dX8_undo_28 : decode cX8_undo 28 = .ok (.bipush 16, 2) := by decide +kernel
theorem dX8_undo_30 : decode cX8_undo 30 = .ok (.irem, 1) := by decide +kernel
theorem dX8_undo_31 : decode cX8_undo 31 = .ok (.putfield 163, 3) := by decide +kernel
theorem dX8_undo_34 : decode cX8_undo 34 = .ok (.iconst 0, 1) := by decide +kernel
theorem dX8_undo_35 : decode cX8_undo 35 = .ok (.istore_n 1, 1) := by decide +kernel
theorem dX8_undo_36 : decode cX8_undo 36 = .ok (.iload_n 1, 1) := by decide +kernel
theorem dX8_undo_37 : decode cX8_undo 37 = .ok (.bipush 12, 2) := by decide +kernel
theorem dX8_undo_39 : decode cX8_undo 39 = .ok (.if_icmp .ge 29, 3) := by decide +kernel
theorem dX8_undo_42 : decode cX8_undo 42 = .ok (.aload_n 0, 1) := by decide +kernel
theorem dX8_undo_43 : decode cX8_undo 43 = .ok (.getfield 31, 3) := by decide +kernel
theorem dX8_undo_46 : decode cX8_undo 46 = .ok (.iload_n 1, 1) := by decide +kernel
theorem dX8_undo_47 : decode cX8_undo 47 = .ok (.aload_n 0, 1) := by decide +kernel
theorem dX8_undo_48 : decode cX8_undo 48 = .ok (.getfield 37, 3) := by decide +kernel
theorem dX8_undo_51 : decode cX8_undo 51 = .ok (.bipush 12, 2) := by decide +kernel
theorem dX8_undo_53 : decode cX8_undo 53 = .ok (.aload_n 0, 1) := by decide +kernel
theorem dX8_undo_54 : decode cX8_undo 54 = .ok (.getfield 163, 3) := by decide +kernel
theorem dX8_undo_57 : decode cX8_undo 57 = .ok (.imul, 1) := by decide +kernel
theorem dX8_undo_58 : decode cX8_undo 58 = .ok (.iload_n 1, 1) := by decide +kernel
theorem dX8_undo_59 : decode cX8_undo 59 = .ok (.iadd, 1) := by decide +kernel
theorem dX8_undo_60 : decode cX8_undo 60 = .ok (.iaload, 1) := by decide +kernel
theorem dX8_undo_61 : decode cX8_undo 61 = .ok (.iastore, 1) := by decide +kernel
theorem dX8_undo_62 : decode cX8_undo 62 = .ok (.iinc 1 1, 3) := by decide +kernel
theorem dX8_undo_65 : decode cX8_undo 65 = .ok (.goto (-29), 3) := by decide +kernel
theorem dX8_undo_68 : decode cX8_undo 68 = .ok (.aload_n 0, 1) := by decide +kernel
theorem dX8_undo_69 : decode cX8_undo 69 = .ok (.getfield 128, 3) := by decide +kernel
theorem dX8_undo_72 : decode cX8_undo 72 = .ok (.ireturn, 1) := by decide +kernel
set_option maxRecDepth 20000 in
theorem ggX8_sprung_X8_isTrap : GoodIn wsX8_sprung wsX8_isTrap := goodIn_r _ [7, 8, 9, 10, 6, 11, 18, 19, 20, 21, 22, 23, 24, 25, 26, 27, 28, 29, 30, 31, 32, 33, 34, 35, 36, 37, 38, 39, 40, 41, 42, 43, 44, 45] (by decide +kernel) (by decide +kernel)
set_option maxRecDepth 20000 in
theorem gX8_sprung_X8_isTrap : GoodIn wsX8_sprung (wsV RX8 133 RX8 yX8_isTrap wsX8_isTrap) := goodIn_app (goodIn_of _ (by decide +kernel)) ggX8_sprung_X8_isTrap
set_option maxRecDepth 20000 in
theorem ggX8_sprung_X8_wave : GoodIn wsX8_sprung wsX8_wave := goodIn_r _ [15, 16, 17, 18, 19, 20, 21, 22, 23, 24, 25, 26, 27, 28, 29, 30, 31, 32, 33, 34, 35, 36, 37, 38, 39, 40, 41, 42, 43, 44, 45] (by decide +kernel) (by decide +kernel)
set_option maxRecDepth 20000 in
theorem gX8_sprung_X8_wave : GoodIn wsX8_sprung (wsV RX8 149 RX8 yX8_wave wsX8_wave) := goodIn_app (goodIn_of _ (by decide +kernel)) ggX8_sprung_X8_wave
theorem dX8_sprung_0 : decode cX8_sprung 0 = .ok (.aload_n 0, 1) := by decide +kernel
theorem dX8_sprung_1 : decode cX8_sprung 1 = .ok (.iload_n 1, 1) := by decide +kernel
theorem dX8_sprung_2 : decode cX8_sprung 2 = .ok (.invokevirtual 133, 3) := by decide +kernel
theorem dX8_sprung_5 : decode cX8_sprung 5 = .ok (.ifCond .ne 5, 3) := by decide +kernel
theorem dX8_sprung_8 : decode cX8_sprung 8 = .ok (.iconst (-1), 1) := by decide +kernel
theorem dX8_sprung_9 : decode cX8_sprung 9 = .ok (.ireturn, 1) := by decide +kernel
theorem dX8_sprung_10 : decode cX8_sprung 10 = .ok (.aload_n 0, 1) := by decide +kernel
theorem dX8_sprung_11 : decode cX8_sprung 11 = .ok (.getfield 124, 3) := by decide +kernel
theorem dX8_sprung_14 : decode cX8_sprung 14 = .ok (.ifCond .eq 7, 3) := by decide +kernel
theorem dX8_sprung_17 : decode cX8_sprung 17 = .ok (.iconst 0, 1) := by decide +kernel
theorem dX8_sprung_18 : decode cX8_sprung 18 = .ok (.goto 14, 3) := by decide +kernel
theorem dX8_sprung_21 : decode cX8_sprung 21 = .ok (.aload_n 0, 1) := by decide +kernel
theorem dX8_sprung_22 : decode cX8_sprung 22 = .ok (.aload_n 0, 1) := by decide +kernel
theorem dX8_sprung_23 : decode cX8_sprung 23 = .ok (.getfield 31, 3) := by decide +kernel
theorem dX8_sprung_26 : decode cX8_sprung 26 = .ok (.iconst 0, 1) := by decide +kernel
theorem dX8_sprung_27 : decode cX8_sprung 27 = .ok (.iaload, 1) := by decide +kernel
theorem dX8_sprung_28 : decode cX8_sprung 28 = .ok (.iload_n 1, 1) := by decide +kernel
theorem dX8_sprung_29 : decode cX8_sprung 29 = .ok (.invokevirtual 149, 3) := by decide +kernel
theorem dX8_sprung_32 : decode cX8_sprung 32 = .ok (.ireturn, 1) := by decide +kernel
theorem dX8_rings_0 : decode cX8_rings 0 = .ok (.iconst 0, 1) := by decide +kernel
theorem dX8_rings_1 : decode cX8_rings 1 = .ok (.istore_n 1, 1) := by decide +kernel
theorem dX8_rings_2 : decode cX8_rings 2 = .ok (.iconst 0, 1) := by decide +kernel
theorem dX8_rings_3 : decode cX8_rings 3 = .ok (.istore_n 2, 1) := by decide +kernel
theorem dX8_rings_4 : decode cX8_rings 4 = .ok (.iload_n 2, 1) := by decide +kernel
theorem dX8_rings_5 : decode cX8_rings 5 = .ok (.aload_n 0, 1) := by decide +kernel
theorem dX8_rings_6 : decode cX8_rings 6 = .ok (.getfield 56, 3) := by decide +kernel
theorem dX8_rings_9 : decode cX8_rings 9 = .ok (.if_icmp .ge 82, 3) := by decide +kernel
theorem dX8_rings_12 : decode cX8_rings 12 = .ok (.aload_n 0, 1) := by decide +kernel
theorem dX8_rings_13 : decode cX8_rings 13 = .ok (.getfield 25, 3) := by decide +kernel
theorem dX8_rings_16 : decode cX8_rings 16 = .ok (.iload_n 2, 1) := by decide +kernel
theorem dX8_rings_17 : decode cX8_rings 17 = .ok (.iaload, 1) := by decide +kernel
theorem dX8_rings_18 : decode cX8_rings 18 = .ok (.istore_n 3, 1) := by decide +kernel
theorem dX8_rings_19 : decode cX8_rings 19 = .ok (.iconst 0, 1) := by decide +kernel
theorem dX8_rings_20 : decode cX8_rings 20 = .ok (.istore 4, 2) := by decide +kernel
theorem dX8_rings_22 : decode cX8_rings 22 = .ok (.iload 4, 2) := by decide +kernel
theorem dX8_rings_24 : decode cX8_rings 24 = .ok (.bipush 7, 2) := by decide +kernel
theorem dX8_rings_26 : decode cX8_rings 26 = .ok (.if_icmp .ge 51, 3) := by decide +kernel
theorem dX8_rings_29 : decode cX8_rings 29 = .ok (.iconst 0, 1) := by decide +kernel
theorem dX8_rings_30 : decode cX8_rings 30 = .ok (.istore 5, 2) := by decide +kernel
theorem dX8_rings_32 : decode cX8_rings 32 = .ok (.iload 5, 2) := by decide +kernel
theorem dX8_rings_34 : decode cX8_rings 34 = .ok (.aload_n 0, 1) := by decide +kernel
theorem dX8_rings_35 : decode cX8_rings 35 = .ok (.getfield 56, 3) := by decide +kernel
theorem dX8_rings_38 : decode cX8_rings 38 = .ok (.if_icmp .ge 33, 3) := by decide +kernel
theorem dX8_rings_41 : decode cX8_rings 41 = .ok (.iload_n 3, 1) := by decide +kernel
theorem dX8_rings_42 : decode cX8_rings 42 = .ok (.iload_n 3, 1) := by decide +kernel
theorem dX8_rings_43 : decode cX8_rings 43 = .ok (.iload 5, 2) := by decide +kernel
theorem dX8_rings_45 : decode cX8_rings 45 = .ok (.ishr, 1) := by decide +kernel
theorem dX8_rings_46 : decode cX8_rings 46 = .ok (.iconst 1, 1) := by decide +kernel
theorem dX8_rings_47 : decode cX8_rings 47 = .ok (.iand, 1) := by decide +kernel
theorem dX8_rings_48 : decode cX8_rings 48 = .ok (.iconst 1, 1) := by decide +kernel
theorem dX8_rings_49 : decode cX8_rings 49 = .ok (.if_icmp .ne 13, 3) := by decide +kernel
theorem dX8_rings_52 : decode cX8_rings 52 = .ok (.aload_n 0, 1) := by decide +kernel
theorem dX8_rings_53 : decode cX8_rings 53 = .ok (.getfield 25, 3) := by decide +kernel
theorem dX8_rings_56 : decode cX8_rings 56 = .ok (.iload 5, 2) := by decide +kernel
theorem dX8_rings_58 : decode cX8_rings 58 = .ok (.iaload, 1) := by decide +kernel
theorem dX8_rings_59 : decode cX8_rings 59 = .ok (.goto 4, 3) := by decide +kernel
theorem dX8_rings_62 : decode cX8_rings 62 = .ok (.iconst 0, 1) := by decide +kernel
theorem dX8_rings_63 : decode cX8_rings 63 = .ok (.ior, 1) := by decide +kernel
theorem dX8_rings_64 : decode cX8_rings 64 = .ok (.istore_n 3, 1) := by decide +kernel
theorem dX8_rings_65 : decode cX8_rings 65 = .ok (.iinc 5 1, 3) := by decide +kernel
theorem dX8_rings_68 : decode cX8_rings 68 = .ok (.goto (-36), 3) := by decide +kernel
theorem dX8_rings_71 : decode cX8_rings 71 = .ok (.iinc 4 1, 3) := by decide +kernel
theorem dX8_rings_74 : decode cX8_rings 74 = .ok (.goto (-52), 3) := by decide +kernel
theorem dX8_rings_77 : decode cX8_rings 77 = .ok (.iload_n 1, 1) := by decide +kernel
theorem dX8_rings_78 : decode cX8_rings 78 = .ok (.iload_n 3, 1) := by decide +kernel
theorem dX8_rings_79 : decode cX8_rings 79 = .ok (.iconst 1, 1) := by decide +kernel
theorem dX8_rings_80 : decode cX8_rings 80 = .ok (.iload_n 2, 1) := by decide +kernel
theorem dX8_rings_81 : decode cX8_rings 81 = .ok (.ishl, 1) := by decide +kernel
theorem dX8_rings_82 : decode cX8_rings 82 = .ok (.iand, 1) := by decide +kernel
theorem dX8_rings_83 : decode cX8_rings 83 = .ok (.ior, 1) := by decide +kernel
theorem dX8_rings_84 : decode cX8_rings 84 = .ok (.istore_n 1, 1) := by decide +kernel
theorem dX8_rings_85 : decode cX8_rings 85 = .ok (.iinc 2 1, 3) := by decide +kernel
theorem dX8_rings_88 : decode cX8_rings 88 = .ok (.goto (-84), 3) := by decide +kernel
theorem dX8_rings_91 : decode cX8_rings 91 = .ok (.iload_n 1, 1) := by decide +kernel
theorem dX8_rings_92 : decode cX8_rings 92 = .ok (.ireturn, 1) := by decide +kernel
theorem dX8_ones_0 : decode cX8_ones 0 = .ok (.iconst 0, 1) := by decide +kernel
theorem dX8_ones_1 : decode cX8_ones 1 = .ok (.istore_n 1, 1) := by decide +kernel
theorem dX8_ones_2 : decode cX8_ones 2 = .ok (.iconst 0, 1) := by decide +kernel
theorem dX8_ones_3 : decode cX8_ones 3 = .ok (.istore_n 2, 1) := by decide +kernel
theorem dX8_ones_4 : decode cX8_ones 4 = .ok (.iload_n 2, 1) := by decide +kernel
theorem dX8_ones_5 : decode cX8_ones 5 = .ok (.bipush 12, 2) := by decide +kernel
theorem dX8_ones_7 : decode cX8_ones 7 = .ok (.if_icmp .ge 17, 3) := by decide +kernel
theorem dX8_ones_10 : decode cX8_ones 10 = .ok (.iload_n 1, 1) := by decide +kernel
theorem dX8_ones_11 : decode cX8_ones 11 = .ok (.iload_n 0, 1) := by decide +kernel
theorem dX8_ones_12 : decode cX8_ones 12 = .ok (.iload_n 2, 1) := by decide +kernel
theorem dX8_ones_13 : decode cX8_ones 13 = .ok (.ishr, 1) := by decide +kernel
theorem dX8_ones_14 : decode cX8_ones 14 = .ok (.iconst 1, 1) := by decide +kernel
theorem dX8_ones_15 : decode cX8_ones 15 = .ok (.iand, 1) := by decide +kernel
theorem dX8_ones_16 : decode cX8_ones 16 = .ok (.iadd, 1) := by decide +kernel
theorem dX8_ones_17 : decode cX8_ones 17 = .ok (.istore_n 1, 1) := by decide +kernel
theorem dX8_ones_18 : decode cX8_ones 18 = .ok (.iinc 2 1, 3) := by decide +kernel
theorem dX8_ones_21 : decode cX8_ones 21 = .ok (.goto (-17), 3) := by decide +kernel
theorem dX8_ones_24 : decode cX8_ones 24 = .ok (.iload_n 1, 1) := by decide +kernel
theorem dX8_ones_25 : decode cX8_ones 25 = .ok (.ireturn, 1) := by decide +kernel
set_option maxRecDepth 20000 in
theorem ggX8_allBy_X8_wave : GoodIn wsX8_allBy wsX8_wave := goodIn_r _ [8, 9, 10, 11, 12, 13, 14, 15, 16, 17, 18, 19, 20, 21, 22, 23, 24, 25, 26, 27, 28, 29, 30, 31, 32, 33, 34, 35, 36, 37, 38] (by decide +kernel) (by decide +kernel)
set_option maxRecDepth 20000 in
theorem gX8_allBy_X8_wave : GoodIn wsX8_allBy (wsV RX8 149 RX8 yX8_wave wsX8_wave) := goodIn_app (goodIn_of _ (by decide +kernel)) ggX8_allBy_X8_wave
theorem dX8_allBy_0 : decode cX8_allBy 0 = .ok (.iconst 0, 1) := by decide +kernel
theorem dX8_allBy_1 : decode cX8_allBy 1 = .ok (.istore_n 2, 1) := by decide +kernel
theorem dX8_allBy_2 : decode cX8_allBy 2 = .ok (.iconst 0, 1) := by decide +kernel
theorem dX8_allBy_3 : decode cX8_allBy 3 = .ok (.istore_n 3, 1) := by decide +kernel
theorem dX8_allBy_4 : decode cX8_allBy 4 = .ok (.iload_n 3, 1) := by decide +kernel
theorem dX8_allBy_5 : decode cX8_allBy 5 = .ok (.aload_n 0, 1) := by decide +kernel
theorem dX8_allBy_6 : decode cX8_allBy 6 = .ok (.getfield 56, 3) := by decide +kernel
theorem dX8_allBy_9 : decode cX8_allBy 9 = .ok (.if_icmp .ge 43, 3) := by decide +kernel
theorem dX8_allBy_12 : decode cX8_allBy 12 = .ok (.iload_n 2, 1) := by decide +kernel
theorem dX8_allBy_13 : decode cX8_allBy 13 = .ok (.iload_n 1, 1) := by decide +kernel
theorem dX8_allBy_14 : decode cX8_allBy 14 = .ok (.iload_n 3, 1) := by decide +kernel
theorem dX8_allBy_15 : decode cX8_allBy 15 = .ok (.ishr, 1) := by decide +kernel
theorem dX8_allBy_16 : decode cX8_allBy 16 = .ok (.iconst 1, 1) := by decide +kernel
theorem dX8_allBy_17 : decode cX8_allBy 17 = .ok (.iand, 1) := by decide +kernel
theorem dX8_allBy_18 : decode cX8_allBy 18 = .ok (.iconst 1, 1) := by decide +kernel
theorem dX8_allBy_19 : decode cX8_allBy 19 = .ok (.if_icmp .ne 24, 3) := by decide +kernel
theorem dX8_allBy_22 : decode cX8_allBy 22 = .ok (.aload_n 0, 1) := by decide +kernel
theorem dX8_allBy_23 : decode cX8_allBy 23 = .ok (.getfield 124, 3) := by decide +kernel
theorem dX8_allBy_26 : decode cX8_allBy 26 = .ok (.ifCond .ne 17, 3) := by decide +kernel
theorem dX8_allBy_29 : decode cX8_allBy 29 = .ok (.aload_n 0, 1) := by decide +kernel
theorem dX8_allBy_30 : decode cX8_allBy 30 = .ok (.aload_n 0, 1) := by decide +kernel
theorem dX8_allBy_31 : decode cX8_allBy 31 = .ok (.getfield 31, 3) := by decide +kernel
theorem dX8_allBy_34 : decode cX8_allBy 34 = .ok (.iconst 0, 1) := by decide +kernel
theorem dX8_allBy_35 : decode cX8_allBy 35 = .ok (.iaload, 1) := by decide +kernel
theorem dX8_allBy_36 : decode cX8_allBy 36 = .ok (.iload_n 3, 1) := by decide +kernel
theorem dX8_allBy_37 : decode cX8_allBy 37 = .ok (.invokevirtual 149, 3) := by decide +kernel
theorem dX8_allBy_40 : decode cX8_allBy 40 = .ok (.goto 4, 3) := by decide +kernel
theorem dX8_allBy_43 : decode cX8_allBy 43 = .ok (.iconst 0, 1) := by decide +kernel
theorem dX8_allBy_44 : decode cX8_allBy 44 = .ok (.ior, 1) := by decide +kernel
theorem dX8_allBy_45 : decode cX8_allBy 45 = .ok (.istore_n 2, 1) := by decide +kernel
theorem dX8_allBy_46 : decode cX8_allBy 46 = .ok (.iinc 3 1, 3) := by decide +kernel
theorem dX8_allBy_49 : decode cX8_allBy 49 = .ok (.goto (-45), 3) := by decide +kernel
theorem dX8_allBy_52 : decode cX8_allBy 52 = .ok (.iload_n 2, 1) := by decide +kernel
theorem dX8_allBy_53 : decode cX8_allBy 53 = .ok (.ireturn, 1) := by decide +kernel
set_option maxRecDepth 20000 in
theorem ggX8_all_X8_allBy : GoodIn wsX8_all wsX8_allBy := goodIn_r _ [6, 1, 7, 8, 9, 10, 11, 5, 12, 13, 14, 18, 19, 20, 21, 22, 23, 24, 25, 26, 27, 28, 29, 30, 31, 32, 33, 34, 35, 36, 37, 38, 39, 40, 41, 42, 43, 44, 45] (by decide +kernel) (by decide +kernel)
set_option maxRecDepth 20000 in
theorem gX8_all_X8_allBy : GoodIn wsX8_all (wsV RX8 176 RX8 yX8_allBy wsX8_allBy) := goodIn_app (goodIn_of _ (by decide +kernel)) ggX8_all_X8_allBy
set_option maxRecDepth 20000 in
theorem ggX8_all_X8_ones : GoodIn wsX8_all wsX8_ones := goodIn_r _ [17] (by decide +kernel) (by decide +kernel)
set_option maxRecDepth 20000 in
theorem gX8_all_X8_ones : GoodIn wsX8_all (va_wsS RX8 179 yX8_ones wsX8_ones) := goodIn_app (goodIn_of _ (by decide +kernel)) ggX8_all_X8_ones
theorem dX8_all_0 : decode cX8_all 0 = .ok (.aload_n 0, 1) := by decide +kernel
theorem dX8_all_1 : decode cX8_all 1 = .ok (.iconst 1, 1) := by decide +kernel
theorem dX8_all_2 : decode cX8_all 2 = .ok (.aload_n 0, 1) := by decide +kernel
theorem dX8_all_3 : decode cX8_all 3 = .ok (.getfield 56, 3) := by decide +kernel
theorem dX8_all_6 : decode cX8_all 6 = .ok (.ishl, 1) := by decide +kernel
theorem dX8_all_7 : decode cX8_all 7 = .ok (.iconst 1, 1) := by decide +kernel
theorem dX8_all_8 : decode cX8_all 8 = .ok (.isub, 1) := by decide +kernel
theorem dX8_all_9 : decode cX8_all 9 = .ok (.invokevirtual 176, 3) := by decide +kernel
theorem dX8_all_12 : decode cX8_all 12 = .ok (.istore_n 1, 1) := by decide +kernel
theorem dX8_all_13 : decode cX8_all 13 = .ok (.bipush (-9), 2) := by decide +kernel
theorem dX8_all_15 : decode cX8_all 15 = .ok (.istore_n 2, 1) := by decide +kernel
theorem dX8_all_16 : decode cX8_all 16 = .ok (.iconst 0, 1) := by decide +kernel
theorem dX8_all_17 : decode cX8_all 17 = .ok (.istore_n 3, 1) := by decide +kernel
theorem dX8_all_18 : decode cX8_all 18 = .ok (.iload_n 3, 1) := by decide +kernel
theorem dX8_all_19 : decode cX8_all 19 = .ok (.iconst 1, 1) := by decide +kernel
theorem dX8_all_20 : decode cX8_all 20 = .ok (.aload_n 0, 1) := by decide +kernel
theorem dX8_all_21 : decode cX8_all 21 = .ok (.getfield 56, 3) := by decide +kernel
theorem dX8_all_24 : decode cX8_all 24 = .ok (.ishl, 1) := by decide +kernel
theorem dX8_all_25 : decode cX8_all 25 = .ok (.if_icmp .ge 53, 3) := by decide +kernel
theorem dX8_all_28 : decode cX8_all 28 = .ok (.iload_n 2, 1) := by decide +kernel
theorem dX8_all_29 : decode cX8_all 29 = .ok (.bipush (-9), 2) := by decide +kernel
theorem dX8_all_31 : decode cX8_all 31 = .ok (.if_icmp .eq 14, 3) := by decide +kernel
theorem dX8_all_34 : decode cX8_all 34 = .ok (.iload_n 3, 1) := by decide +kernel
theorem dX8_all_35 : decode cX8_all 35 = .ok (.invokestatic 179, 3) := by decide +kernel
theorem dX8_all_38 : decode cX8_all 38 = .ok (.iload_n 2, 1) := by decide +kernel
theorem dX8_all_39 : decode cX8_all 39 = .ok (.invokestatic 179, 3) := by decide +kernel
theorem dX8_all_42 : decode cX8_all 42 = .ok (.if_icmp .ge 7, 3) := by decide +kernel
theorem dX8_all_45 : decode cX8_all 45 = .ok (.iconst 1, 1) := by decide +kernel
theorem dX8_all_46 : decode cX8_all 46 = .ok (.goto 4, 3) := by decide +kernel
theorem dX8_all_49 : decode cX8_all 49 = .ok (.iconst 0, 1) := by decide +kernel
theorem dX8_all_50 : decode cX8_all 50 = .ok (.istore 4, 2) := by decide +kernel
theorem dX8_all_52 : decode cX8_all 52 = .ok (.iload 4, 2) := by decide +kernel
theorem dX8_all_54 : decode cX8_all 54 = .ok (.ifCond .eq 16, 3) := by decide +kernel
theorem dX8_all_57 : decode cX8_all 57 = .ok (.aload_n 0, 1) := by decide +kernel
theorem dX8_all_58 : decode cX8_all 58 = .ok (.iload_n 3, 1) := by decide +kernel
theorem dX8_all_59 : decode cX8_all 59 = .ok (.invokevirtual 176, 3) := by decide +kernel
theorem dX8_all_62 : decode cX8_all 62 = .ok (.iload_n 1, 1) := by decide +kernel
theorem dX8_all_63 : decode cX8_all 63 = .ok (.if_icmp .ne 7, 3) := by decide +kernel
theorem dX8_all_66 : decode cX8_all 66 = .ok (.iload_n 3, 1) := by decide +kernel
theorem dX8_all_67 : decode cX8_all 67 = .ok (.goto 4, 3) := by decide +kernel
theorem dX8_all_70 : decode cX8_all 70 = .ok (.iload_n 2, 1) := by decide +kernel
theorem dX8_all_71 : decode cX8_all 71 = .ok (.istore_n 2, 1) := by decide +kernel
theorem dX8_all_72 : decode cX8_all 72 = .ok (.iinc 3 1, 3) := by decide +kernel
theorem dX8_all_75 : decode cX8_all 75 = .ok (.goto (-57), 3) := by decide +kernel
theorem dX8_all_78 : decode cX8_all 78 = .ok (.iload_n 2, 1) := by decide +kernel
theorem dX8_all_79 : decode cX8_all 79 = .ok (.ireturn, 1) := by decide +kernel
set_option maxRecDepth 20000 in
theorem ggX8_first_X8_in : GoodIn wsX8_first wsX8_in := goodIn_r _ [5] (by decide +kernel) (by decide +kernel)
set_option maxRecDepth 20000 in
theorem gX8_first_X8_in : GoodIn wsX8_first (va_wsS RX8 62 yX8_in wsX8_in) := goodIn_app (goodIn_of _ (by decide +kernel)) ggX8_first_X8_in
set_option maxRecDepth 20000 in
theorem ggX8_first_X8_wave : GoodIn wsX8_first wsX8_wave := goodIn_r _ [9, 10, 11, 12, 13, 14, 15, 16, 17, 18, 19, 20, 21, 22, 23, 24, 25, 26, 27, 28, 29, 30, 31, 32, 33, 34, 35, 36, 37, 38, 39] (by decide +kernel) (by decide +kernel)
set_option maxRecDepth 20000 in
theorem gX8_first_X8_wave : GoodIn wsX8_first (wsV RX8 149 RX8 yX8_wave wsX8_wave) := goodIn_app (goodIn_of _ (by decide +kernel)) ggX8_first_X8_wave
theorem dX8_first_0 : decode cX8_first 0 = .ok (.iload_n 1, 1) := by decide +kernel
theorem dX8_first_1 : decode cX8_first 1 = .ok (.i2l, 1) := by decide +kernel
theorem dX8_first_2 : decode cX8_first 2 = .ok (.lconst 0, 1) := by decide +kernel
theorem dX8_first_3 : decode cX8_first 3 = .ok (.iconst 1, 1) := by decide +kernel
theorem dX8_first_4 : decode cX8_first 4 = .ok (.aload_n 0, 1) := by decide +kernel
theorem dX8_first_5 : decode cX8_first 5 = .ok (.getfield 56, 3) := by decide +kernel
theorem dX8_first_8 : decode cX8_first 8 = .ok (.ishl, 1) := by decide +kernel
theorem dX8_first_9 : decode cX8_first 9 = .ok (.iconst 1, 1) := by decide +kernel
theorem dX8_first_10 : decode cX8_first 10 = .ok (.isub, 1) := by decide +kernel
theorem dX8_first_11 : decode cX8_first 11 = .ok (.i2l, 1) := by decide +kernel
theorem dX8_first_12 : decode cX8_first 12 = .ok (.invokestatic 62, 3) := by decide +kernel
theorem dX8_first_15 : decode cX8_first 15 = .ok (.ifCond .ne 6, 3) := by decide +kernel
theorem dX8_first_18 : decode cX8_first 18 = .ok (.bipush (-2), 2) := by decide +kernel
theorem dX8_first_20 : decode cX8_first 20 = .ok (.ireturn, 1) := by decide +kernel
theorem dX8_first_21 : decode cX8_first 21 = .ok (.iconst 0, 1) := by decide +kernel
theorem dX8_first_22 : decode cX8_first 22 = .ok (.istore_n 2, 1) := by decide +kernel
theorem dX8_first_23 : decode cX8_first 23 = .ok (.iconst 0, 1) := by decide +kernel
theorem dX8_first_24 : decode cX8_first 24 = .ok (.istore_n 3, 1) := by decide +kernel
theorem dX8_first_25 : decode cX8_first 25 = .ok (.iload_n 3, 1) := by decide +kernel
theorem dX8_first_26 : decode cX8_first 26 = .ok (.aload_n 0, 1) := by decide +kernel
theorem dX8_first_27 : decode cX8_first 27 = .ok (.getfield 56, 3) := by decide +kernel
theorem dX8_first_30 : decode cX8_first 30 = .ok (.if_icmp .ge 36, 3) := by decide +kernel
theorem dX8_first_33 : decode cX8_first 33 = .ok (.iload_n 2, 1) := by decide +kernel
theorem dX8_first_34 : decode cX8_first 34 = .ok (.aload_n 0, 1) := by decide +kernel
theorem dX8_first_35 : decode cX8_first 35 = .ok (.iconst 1, 1) := by decide +kernel
theorem dX8_first_36 : decode cX8_first 36 = .ok (.aload_n 0, 1) := by decide +kernel
theorem dX8_first_37 : decode cX8_first 37 = .ok (.getfield 56, 3) := by decide +kernel
theorem dX8_first_40 : decode cX8_first 40 = .ok (.ishl, 1) := by decide +kernel
theorem dX8_first_41 : decode cX8_first 41 = .ok (.iconst 1, 1) := by decide +kernel
theorem dX8_first_42 : decode cX8_first 42 = .ok (.isub, 1) := by decide +kernel
theorem dX8_first_43 : decode cX8_first 43 = .ok (.iload_n 3, 1) := by decide +kernel
theorem dX8_first_44 : decode cX8_first 44 = .ok (.invokevirtual 149, 3) := by decide +kernel
theorem dX8_first_47 : decode cX8_first 47 = .ok (.iload_n 1, 1) := by decide +kernel
theorem dX8_first_48 : decode cX8_first 48 = .ok (.if_icmp .ne 9, 3) := by decide +kernel
theorem dX8_first_51 : decode cX8_first 51 = .ok (.iconst 1, 1) := by decide +kernel
theorem dX8_first_52 : decode cX8_first 52 = .ok (.iload_n 3, 1) := by decide +kernel
theorem dX8_first_53 : decode cX8_first 53 = .ok (.ishl, 1) := by decide +kernel
theorem dX8_first_54 : decode cX8_first 54 = .ok (.goto 4, 3) := by decide +kernel
theorem dX8_first_57 : decode cX8_first 57 = .ok (.iconst 0, 1) := by decide +kernel
theorem dX8_first_58 : decode cX8_first 58 = .ok (.ior, 1) := by decide +kernel
theorem dX8_first_59 : decode cX8_first 59 = .ok (.istore_n 2, 1) := by decide +kernel
theorem dX8_first_60 : decode cX8_first 60 = .ok (.iinc 3 1, 3) := by decide +kernel
theorem dX8_first_63 : decode cX8_first 63 = .ok (.goto (-38), 3) := by decide +kernel
theorem dX8_first_66 : decode cX8_first 66 = .ok (.iload_n 2, 1) := by decide +kernel
theorem dX8_first_67 : decode cX8_first 67 = .ok (.ireturn, 1) := by decide +kernel
set_option maxRecDepth 20000 in
theorem ggX8_layFar_X8_neighbours : GoodIn wsX8_layFar wsX8_neighbours := goodIn_r _ [11] (by decide +kernel) (by decide +kernel)
set_option maxRecDepth 20000 in
theorem gX8_layFar_X8_neighbours : GoodIn wsX8_layFar (va_wsS RX8 140 yX8_neighbours wsX8_neighbours) := goodIn_app (goodIn_of _ (by decide +kernel)) ggX8_layFar_X8_neighbours
theorem dX8_layFar_0 : decode cX8_layFar 0 = .ok (.aload_n 0, 1) := by decide +kernel
theorem dX8_layFar_1 : decode cX8_layFar 1 = .ok (.getfield 121, 3) := by decide +kernel
theorem dX8_layFar_4 : decode cX8_layFar 4 = .ok (.istore_n 3, 1) := by decide +kernel
theorem dX8_layFar_5 : decode cX8_layFar 5 = .ok (.iconst 0, 1) := by decide +kernel
theorem dX8_layFar_6 : decode cX8_layFar 6 = .ok (.istore 4, 2) := by decide +kernel
theorem dX8_layFar_8 : decode cX8_layFar 8 = .ok (.iload 4, 2) := by decide +kernel
theorem dX8_layFar_10 : decode cX8_layFar 10 = .ok (.aload_n 0, 1) := by decide +kernel
theorem dX8_layFar_11 : decode cX8_layFar 11 = .ok (.getfield 56, 3) := by decide +kernel
theorem dX8_layFar_14 : decode cX8_layFar 14 = .ok (.if_icmp .ge 96, 3) := by decide +kernel
theorem dX8_layFar_17 : decode cX8_layFar 17 = .ok (.aload_n 0, 1) := by decide +kernel
theorem dX8_layFar_18 : decode cX8_layFar 18 = .ok (.getfield 28, 3) := by decide +kernel
theorem dX8_layFar_21 : decode cX8_layFar 21 = .ok (.iload_n 1, 1) := by decide +kernel
theorem dX8_layFar_22 : decode cX8_layFar 22 = .ok (.iaload, 1) := by decide +kernel
theorem dX8_layFar_23 : decode cX8_layFar 23 = .ok (.bipush (-9), 2) := by decide +kernel
theorem dX8_layFar_25 : decode cX8_layFar 25 = .ok (.if_icmp .eq 29, 3) := by decide +kernel
theorem dX8_layFar_28 : decode cX8_layFar 28 = .ok (.aload_n 0, 1) := by decide +kernel
theorem dX8_layFar_29 : decode cX8_layFar 29 = .ok (.getfield 31, 3) := by decide +kernel
theorem dX8_layFar_32 : decode cX8_layFar 32 = .ok (.iconst 2, 1) := by decide +kernel
theorem dX8_layFar_33 : decode cX8_layFar 33 = .ok (.aload_n 0, 1) := by decide +kernel
theorem dX8_layFar_34 : decode cX8_layFar 34 = .ok (.getfield 28, 3) := by decide +kernel
theorem dX8_layFar_37 : decode cX8_layFar 37 = .ok (.iload_n 1, 1) := by decide +kernel
theorem dX8_layFar_38 : decode cX8_layFar 38 = .ok (.iaload, 1) := by decide +kernel
theorem dX8_layFar_39 : decode cX8_layFar 39 = .ok (.iadd, 1) := by decide +kernel
theorem dX8_layFar_40 : decode cX8_layFar 40 = .ok (.iaload, 1) := by decide +kernel
theorem dX8_layFar_41 : decode cX8_layFar 41 = .ok (.iload 4, 2) := by decide +kernel
theorem dX8_layFar_43 : decode cX8_layFar 43 = .ok (.ishr, 1) := by decide +kernel
theorem dX8_layFar_44 : decode cX8_layFar 44 = .ok (.iconst 1, 1) := by decide +kernel
theorem dX8_layFar_45 : decode cX8_layFar 45 = .ok (.iand, 1) := by decide +kernel
theorem dX8_layFar_46 : decode cX8_layFar 46 = .ok (.iconst 1, 1) := by decide +kernel
theorem dX8_layFar_47 : decode cX8_layFar 47 = .ok (.if_icmp .ne 7, 3) := by decide +kernel
theorem dX8_layFar_50 : decode cX8_layFar 50 = .ok (.iconst 1, 1) := by decide +kernel
theorem dX8_layFar_51 : decode cX8_layFar 51 = .ok (.goto 4, 3) := by decide +kernel
theorem dX8_layFar_54 : decode cX8_layFar 54 = .ok (.iconst 0, 1) := by decide +kernel
theorem dX8_layFar_55 : decode cX8_layFar 55 = .ok (.istore 5, 2) := by decide +kernel
theorem dX8_layFar_57 : decode cX8_layFar 57 = .ok (.iload_n 3, 1) := by decide +kernel
theorem dX8_layFar_58 : decode cX8_layFar 58 = .ok (.iload 5, 2) := by decide +kernel
theorem dX8_layFar_60 : decode cX8_layFar 60 = .ok (.ifCond .eq 41, 3) := by decide +kernel
theorem dX8_layFar_63 : decode cX8_layFar 63 = .ok (.aload_n 0, 1) := by decide +kernel
theorem dX8_layFar_64 : decode cX8_layFar 64 = .ok (.getfield 31, 3) := by decide +kernel
theorem dX8_layFar_67 : decode cX8_layFar 67 = .ok (.iconst 0, 1) := by decide +kernel
theorem dX8_layFar_68 : decode cX8_layFar 68 = .ok (.iaload, 1) := by decide +kernel
theorem dX8_layFar_69 : decode cX8_layFar 69 = .ok (.iload 4, 2) := by decide +kernel
theorem dX8_layFar_71 : decode cX8_layFar 71 = .ok (.ishr, 1) := by decide +kernel
theorem dX8_layFar_72 : decode cX8_layFar 72 = .ok (.iconst 1, 1) := by decide +kernel
theorem dX8_layFar_73 : decode cX8_layFar 73 = .ok (.iand, 1) := by decide +kernel
theorem dX8_layFar_74 : decode cX8_layFar 74 = .ok (.iconst 1, 1) := by decide +kernel
theorem dX8_layFar_75 : decode cX8_layFar 75 = .ok (.if_icmp .ne 26, 3) := by decide +kernel
theorem dX8_layFar_78 : decode cX8_layFar 78 = .ok (.aload_n 0, 1) := by decide +kernel
theorem dX8_layFar_79 : decode cX8_layFar 79 = .ok (.getfield 22, 3) := by decide +kernel
theorem dX8_layFar_82 : decode cX8_layFar 82 = .ok (.iload 4, 2) := by decide +kernel
theorem dX8_layFar_84 : decode cX8_layFar 84 = .ok (.iaload, 1) := by decide +kernel
theorem dX8_layFar_85 : decode cX8_layFar 85 = .ok (.iconst 3, 1) := by decide +kernel
theorem dX8_layFar_86 : decode cX8_layFar 86 = .ok (.if_icmp .eq 15, 3) := by decide +kernel
theorem dX8_layFar_89 : decode cX8_layFar 89 = .ok (.iconst 1, 1) := by decide +kernel
theorem dX8_layFar_90 : decode cX8_layFar 90 = .ok (.aload_n 0, 1) := by decide +kernel
theorem dX8_layFar_91 : decode cX8_layFar 91 = .ok (.getfield 16, 3) := by decide +kernel
theorem dX8_layFar_94 : decode cX8_layFar 94 = .ok (.iload 4, 2) := by decide +kernel
theorem dX8_layFar_96 : decode cX8_layFar 96 = .ok (.iaload, 1) := by decide +kernel
theorem dX8_layFar_97 : decode cX8_layFar 97 = .ok (.ishl, 1) := by decide +kernel
theorem dX8_layFar_98 : decode cX8_layFar 98 = .ok (.goto 4, 3) := by decide +kernel
theorem dX8_layFar_101 : decode cX8_layFar 101 = .ok (.iconst 0, 1) := by decide +kernel
theorem dX8_layFar_102 : decode cX8_layFar 102 = .ok (.ior, 1) := by decide +kernel
theorem dX8_layFar_103 : decode cX8_layFar 103 = .ok (.istore_n 3, 1) := by decide +kernel
theorem dX8_layFar_104 : decode cX8_layFar 104 = .ok (.iinc 4 1, 3) := by decide +kernel
theorem dX8_layFar_107 : decode cX8_layFar 107 = .ok (.goto (-99), 3) := by decide +kernel
theorem dX8_layFar_110 : decode cX8_layFar 110 = .ok (.iconst 0, 1) := by decide +kernel
theorem dX8_layFar_111 : decode cX8_layFar 111 = .ok (.istore 4, 2) := by decide +kernel
theorem dX8_layFar_113 : decode cX8_layFar 113 = .ok (.iload 4, 2) := by decide +kernel
theorem dX8_layFar_115 : decode cX8_layFar 115 = .ok (.bipush 12, 2) := by decide +kernel
theorem dX8_layFar_117 : decode cX8_layFar 117 = .ok (.if_icmp .ge 50, 3) := by decide +kernel
theorem dX8_layFar_120 : decode cX8_layFar 120 = .ok (.aload_n 0, 1) := by decide +kernel
theorem dX8_layFar_121 : decode cX8_layFar 121 = .ok (.getfield 40, 3) := by decide +kernel
theorem dX8_layFar_124 : decode cX8_layFar 124 = .ok (.iload 4, 2) := by decide +kernel
theorem dX8_layFar_126 : decode cX8_layFar 126 = .ok (.iload 4, 2) := by decide +kernel
theorem dX8_layFar_128 : decode cX8_layFar 128 = .ok (.iload_n 2, 1) := by decide +kernel
theorem dX8_layFar_129 : decode cX8_layFar 129 = .ok (.if_icmp .ne 29, 3) := by decide +kernel
theorem dX8_layFar_132 : decode cX8_layFar 132 = .ok (.iload_n 3, 1) := by decide +kernel
theorem dX8_layFar_133 : decode cX8_layFar 133 = .ok (.iload 4, 2) := by decide +kernel
theorem dX8_layFar_135 : decode cX8_layFar 135 = .ok (.ishr, 1) := by decide +kernel
theorem dX8_layFar_136 : decode cX8_layFar 136 = .ok (.iconst 1, 1) := by decide +kernel
theorem dX8_layFar_137 : decode cX8_layFar 137 = .ok (.iand, 1) := by decide +kernel
theorem dX8_layFar_138 : decode cX8_layFar 138 = .ok (.ifCond .eq 16, 3) := by decide +kernel
theorem dX8_layFar_141 : decode cX8_layFar 141 = .ok (.iload 4, 2) := by decide +kernel
theorem dX8_layFar_143 : decode cX8_layFar 143 = .ok (.aload_n 0, 1) := by decide +kernel
theorem dX8_layFar_144 : decode cX8_layFar 144 = .ok (.getfield 31, 3) := by decide +kernel
theorem dX8_layFar_147 : decode cX8_layFar 147 = .ok (.iconst 4, 1) := by decide +kernel
theorem dX8_layFar_148 : decode cX8_layFar 148 = .ok (.iload_n 1, 1) := by decide +kernel
theorem dX8_layFar_149 : decode cX8_layFar 149 = .ok (.iadd, 1) := by decide +kernel
theorem dX8_layFar_150 : decode cX8_layFar 150 = .ok (.iaload, 1) := by decide +kernel
theorem dX8_layFar_151 : decode cX8_layFar 151 = .ok (.if_icmp .ne 7, 3) := by decide +kernel
theorem dX8_layFar_154 : decode cX8_layFar 154 = .ok (.iconst 0, 1) := by decide +kernel
theorem dX8_layFar_155 : decode cX8_layFar 155 = .ok (.goto 5, 3) := by decide +kernel
theorem dX8_layFar_158 : decode cX8_layFar 158 = .ok (.bipush 99, 2) := by decide +kernel
theorem dX8_layFar_160 : decode cX8_layFar 160 = .ok (.iastore, 1) := by decide +kernel
theorem dX8_layFar_161 : decode cX8_layFar 161 = .ok (.iinc 4 1, 3) := by decide +kernel
theorem dX8_layFar_164 : decode cX8_layFar 164 = .ok (.goto (-51), 3) := by decide +kernel
theorem dX8_layFar_167 : decode cX8_layFar 167 = .ok (.iconst 0, 1) := by decide +kernel
theorem dX8_layFar_168 : decode cX8_layFar 168 = .ok (.istore 4, 2) := by decide +kernel
theorem dX8_layFar_170 : decode cX8_layFar 170 = .ok (.iload 4, 2) := by decide +kernel
theorem dX8_layFar_172 : decode cX8_layFar 172 = .ok (.bipush 12, 2) := by decide +kernel
theorem dX8_layFar_174 : decode cX8_layFar 174 = .ok (.if_icmp .ge 121, 3) := by decide +kernel
theorem dX8_layFar_177 : decode cX8_layFar 177 = .ok (.iconst 0, 1) := by decide +kernel
theorem dX8_layFar_178 : decode cX8_layFar 178 = .ok (.istore 5, 2) := by decide +kernel
theorem dX8_layFar_180 : decode cX8_layFar 180 = .ok (.iload 5, 2) := by decide +kernel
theorem dX8_layFar_182 : decode cX8_layFar 182 = .ok (.bipush 12, 2) := by decide +kernel
theorem dX8_layFar_184 : decode cX8_layFar 184 = .ok (.if_icmp .ge 105, 3) := by decide +kernel
theorem dX8_layFar_187 : decode cX8_layFar 187 = .ok (.iconst 0, 1) := by decide +kernel
theorem dX8_layFar_188 : decode cX8_layFar 188 = .ok (.istore 6, 2) := by decide +kernel
theorem dX8_layFar_190 : decode cX8_layFar 190 = .ok (.iload 6, 2) := by decide +kernel
theorem dX8_layFar_192 : decode cX8_layFar 192 = .ok (.bipush 12, 2) := by decide +kernel
theorem dX8_layFar_194 : decode cX8_layFar 194 = .ok (.if_icmp .ge 89, 3) := by decide +kernel
theorem dX8_layFar_197 : decode cX8_layFar 197 = .ok (.iload 5, 2) := by decide +kernel
theorem dX8_layFar_199 : decode cX8_layFar 199 = .ok (.invokestatic 140, 3) := by decide +kernel
theorem dX8_layFar_202 : decode cX8_layFar 202 = .ok (.iload 6, 2) := by decide +kernel
theorem dX8_layFar_204 : decode cX8_layFar 204 = .ok (.ishr, 1) := by decide +kernel
theorem dX8_layFar_205 : decode cX8_layFar 205 = .ok (.iconst 1, 1) := by decide +kernel
theorem dX8_layFar_206 : decode cX8_layFar 206 = .ok (.iand, 1) := by decide +kernel
theorem dX8_layFar_207 : decode cX8_layFar 207 = .ok (.iconst 1, 1) := by decide +kernel
theorem dX8_layFar_208 : decode cX8_layFar 208 = .ok (.if_icmp .ne 16, 3) := by decide +kernel
theorem dX8_layFar_211 : decode cX8_layFar 211 = .ok (.iload_n 3, 1) := by decide +kernel
theorem dX8_layFar_212 : decode cX8_layFar 212 = .ok (.iload 6, 2) := by decide +kernel
theorem dX8_layFar_214 : decode cX8_layFar 214 = .ok (.ishr, 1) := by decide +kernel
theorem dX8_layFar_215 : decode cX8_layFar 215 = .ok (.iconst 1, 1) := by decide +kernel
theorem dX8_layFar_216 : decode cX8_layFar 216 = .ok (.iand, 1) := by decide +kernel
theorem dX8_layFar_217 : decode cX8_layFar 217 = .ok (.ifCond .ne 7, 3) := by decide +kernel
theorem dX8_layFar_220 : decode cX8_layFar 220 = .ok (.iconst 1, 1) := by decide +kernel
theorem dX8_layFar_221 : decode cX8_layFar 221 = .ok (.goto 4, 3) := by decide +kernel
theorem dX8_layFar_224 : decode cX8_layFar 224 = .ok (.iconst 0, 1) := by decide +kernel
theorem dX8_layFar_225 : decode cX8_layFar 225 = .ok (.istore 7, 2) := by decide +kernel
theorem dX8_layFar_227 : decode cX8_layFar 227 = .ok (.aload_n 0, 1) := by decide +kernel
theorem dX8_layFar_228 : decode cX8_layFar 228 = .ok (.getfield 40, 3) := by decide +kernel
theorem dX8_layFar_231 : decode cX8_layFar 231 = .ok (.iload 5, 2) := by decide +kernel
theorem dX8_layFar_233 : decode cX8_layFar 233 = .ok (.iload 7, 2) := by decide +kernel
theorem dX8_layFar_235 : decode cX8_layFar 235 = .ok (.ifCond .eq 34, 3) := by decide +kernel
theorem dX8_layFar_238 : decode cX8_layFar 238 = .ok (.aload_n 0, 1) := by decide +kernel
theorem dX8_layFar_239 : decode cX8_layFar 239 = .ok (.getfield 40, 3) := by decide +kernel
theorem dX8_layFar_242 : decode cX8_layFar 242 = .ok (.iload 6, 2) := by decide +kernel
theorem dX8_layFar_244 : decode cX8_layFar 244 = .ok (.iaload, 1) := by decide +kernel
theorem dX8_layFar_245 : decode cX8_layFar 245 = .ok (.iconst 1, 1) := by decide +kernel
theorem dX8_layFar_246 : decode cX8_layFar 246 = .ok (.iadd, 1) := by decide +kernel
theorem dX8_layFar_247 : decode cX8_layFar 247 = .ok (.aload_n 0, 1) := by decide +kernel
theorem dX8_layFar_248 : decode cX8_layFar 248 = .ok (.getfield 40, 3) := by decide +kernel
theorem dX8_layFar_251 : decode cX8_layFar 251 = .ok (.iload 5, 2) := by decide +kernel
theorem dX8_layFar_253 : decode cX8_layFar 253 = .ok (.iaload, 1) := by decide +kernel
theorem dX8_layFar_254 : decode cX8_layFar 254 = .ok (.if_icmp .ge 15, 3) := by decide +kernel
theorem dX8_layFar_257 : decode cX8_layFar 257 = .ok (.aload_n 0, 1) := by decide +kernel
theorem dX8_layFar_258 : decode cX8_layFar 258 = .ok (.getfield 40, 3) := by decide +kernel
theorem dX8_layFar_261 : decode cX8_layFar 261 = .ok (.iload 6, 2) := by decide +kernel
theorem dX8_layFar_263 : decode cX8_layFar 263 = .ok (.iaload, 1) := by decide +kernel
theorem dX8_layFar_264 : decode cX8_layFar 264 = .ok (.iconst 1, 1) := by decide +kernel
theorem dX8_layFar_265 : decode cX8_layFar 265 = .ok (.iadd, 1) := by decide +kernel
theorem dX8_layFar_266 : decode cX8_layFar 266 = .ok (.goto 10, 3) := by decide +kernel
theorem dX8_layFar_269 : decode cX8_layFar 269 = .ok (.aload_n 0, 1) := by decide +kernel
theorem dX8_layFar_270 : decode cX8_layFar 270 = .ok (.getfield 40, 3) := by decide +kernel
theorem dX8_layFar_273 : decode cX8_layFar 273 = .ok (.iload 5, 2) := by decide +kernel
theorem dX8_layFar_275 : decode cX8_layFar 275 = .ok (.iaload, 1) := by decide +kernel
theorem dX8_layFar_276 : decode cX8_layFar 276 = .ok (.iastore, 1) := by decide +kernel
theorem dX8_layFar_277 : decode cX8_layFar 277 = .ok (.iinc 6 1, 3) := by decide +kernel
theorem dX8_layFar_280 : decode cX8_layFar 280 = .ok (.goto (-90), 3) := by decide +kernel
theorem dX8_layFar_283 : decode cX8_layFar 283 = .ok (.iinc 5 1, 3) := by decide +kernel
theorem dX8_layFar_286 : decode cX8_layFar 286 = .ok (.goto (-106), 3) := by decide +kernel
theorem dX8_layFar_289 : decode cX8_layFar 289 = .ok (.iinc 4 1, 3) := by decide +kernel
theorem dX8_layFar_292 : decode cX8_layFar 292 = .ok (.goto (-122), 3) := by decide +kernel
theorem dX8_layFar_295 : decode cX8_layFar 295 = .ok (.return_, 1) := by decide +kernel
set_option maxRecDepth 20000 in
theorem ggX8_safe_X8_isWalker : GoodIn wsX8_safe wsX8_isWalker := goodIn_r _ [7, 8, 9, 10, 6, 11, 28, 29, 30, 31, 32, 33, 34, 35, 36, 37, 38, 39, 40, 41, 42, 43, 44, 45, 46, 47, 48, 49, 50, 51, 52, 53, 54, 55] (by decide +kernel) (by decide +kernel)
set_option maxRecDepth 20000 in
theorem gX8_safe_X8_isWalker : GoodIn wsX8_safe (wsV RX8 137 RX8 yX8_isWalker wsX8_isWalker) := goodIn_app (goodIn_of _ (by decide +kernel)) ggX8_safe_X8_isWalker
set_option maxRecDepth 20000 in
theorem ggX8_safe_X8_isCell : GoodIn wsX8_safe wsX8_isCell := goodIn_r _ [14, 15, 9, 10, 6, 11] (by decide +kernel) (by decide +kernel)
set_option maxRecDepth 20000 in
theorem gX8_safe_X8_isCell : GoodIn wsX8_safe (va_wsS RX8 143 yX8_isCell wsX8_isCell) := goodIn_app (goodIn_of _ (by decide +kernel)) ggX8_safe_X8_isCell
set_option maxRecDepth 20000 in
theorem ggX8_safe_X8_layFar : GoodIn wsX8_safe wsX8_layFar := goodIn_r _ [19, 20, 21, 22, 1, 23, 24, 2, 25, 26, 6, 27, 28, 29, 30, 31, 32, 33, 34, 35, 36, 37, 38, 39, 40, 41, 42, 43, 44, 45, 46, 47, 48, 49, 50, 51, 52, 53, 54, 55] (by decide +kernel) (by decide +kernel)
set_option maxRecDepth 20000 in
theorem gX8_safe_X8_layFar : GoodIn wsX8_safe (wsV RX8 182 RX8 yX8_layFar wsX8_layFar) := goodIn_app (goodIn_of _ (by decide +kernel)) ggX8_safe_X8_layFar
theorem dX8_safe_0 : decode cX8_safe 0 = .ok (.aload_n 0, 1) := by decide +kernel
theorem dX8_safe_1 : decode cX8_safe 1 = .ok (.iload_n 1, 1) := by decide +kernel
theorem dX8_safe_2 : decode cX8_safe 2 = .ok (.invokevirtual 137, 3) := by decide +kernel
theorem dX8_safe_5 : decode cX8_safe 5 = .ok (.ifCond .eq 10, 3) := by decide +kernel
theorem dX8_safe_8 : decode cX8_safe 8 = .ok (.iload_n 2, 1) := by decide +kernel
theorem dX8_safe_9 : decode cX8_safe 9 = .ok (.invokestatic 143, 3) := by decide +kernel
theorem dX8_safe_12 : decode cX8_safe 12 = .ok (.ifCond .ne 5, 3) := by decide +kernel
theorem dX8_safe_15 : decode cX8_safe 15 = .ok (.iconst (-1), 1) := by decide +kernel
theorem dX8_safe_16 : decode cX8_safe 16 = .ok (.ireturn, 1) := by decide +kernel
theorem dX8_safe_17 : decode cX8_safe 17 = .ok (.aload_n 0, 1) := by decide +kernel
theorem dX8_safe_18 : decode cX8_safe 18 = .ok (.getfield 31, 3) := by decide +kernel
theorem dX8_safe_21 : decode cX8_safe 21 = .ok (.bipush 8, 2) := by decide +kernel
theorem dX8_safe_23 : decode cX8_safe 23 = .ok (.iload_n 1, 1) := by decide +kernel
theorem dX8_safe_24 : decode cX8_safe 24 = .ok (.iadd, 1) := by decide +kernel
theorem dX8_safe_25 : decode cX8_safe 25 = .ok (.iaload, 1) := by decide +kernel
theorem dX8_safe_26 : decode cX8_safe 26 = .ok (.bipush (-9), 2) := by decide +kernel
theorem dX8_safe_28 : decode cX8_safe 28 = .ok (.if_icmp .eq 6, 3) := by decide +kernel
theorem dX8_safe_31 : decode cX8_safe 31 = .ok (.bipush (-3), 2) := by decide +kernel
theorem dX8_safe_33 : decode cX8_safe 33 = .ok (.ireturn, 1) := by decide +kernel
theorem dX8_safe_34 : decode cX8_safe 34 = .ok (.aload_n 0, 1) := by decide +kernel
theorem dX8_safe_35 : decode cX8_safe 35 = .ok (.iload_n 1, 1) := by decide +kernel
theorem dX8_safe_36 : decode cX8_safe 36 = .ok (.iload_n 2, 1) := by decide +kernel
theorem dX8_safe_37 : decode cX8_safe 37 = .ok (.invokevirtual 182, 3) := by decide +kernel
theorem dX8_safe_40 : decode cX8_safe 40 = .ok (.aload_n 0, 1) := by decide +kernel
theorem dX8_safe_41 : decode cX8_safe 41 = .ok (.getfield 40, 3) := by decide +kernel
theorem dX8_safe_44 : decode cX8_safe 44 = .ok (.aload_n 0, 1) := by decide +kernel
theorem dX8_safe_45 : decode cX8_safe 45 = .ok (.getfield 31, 3) := by decide +kernel
theorem dX8_safe_48 : decode cX8_safe 48 = .ok (.iconst 4, 1) := by decide +kernel
theorem dX8_safe_49 : decode cX8_safe 49 = .ok (.iload_n 1, 1) := by decide +kernel
theorem dX8_safe_50 : decode cX8_safe 50 = .ok (.iadd, 1) := by decide +kernel
theorem dX8_safe_51 : decode cX8_safe 51 = .ok (.iaload, 1) := by decide +kernel
theorem dX8_safe_52 : decode cX8_safe 52 = .ok (.iaload, 1) := by decide +kernel
theorem dX8_safe_53 : decode cX8_safe 53 = .ok (.bipush 98, 2) := by decide +kernel
theorem dX8_safe_55 : decode cX8_safe 55 = .ok (.if_icmp .le 8, 3) := by decide +kernel
theorem dX8_safe_58 : decode cX8_safe 58 = .ok (.bipush (-9), 2) := by decide +kernel
theorem dX8_safe_60 : decode cX8_safe 60 = .ok (.goto 16, 3) := by decide +kernel
theorem dX8_safe_63 : decode cX8_safe 63 = .ok (.aload_n 0, 1) := by decide +kernel
theorem dX8_safe_64 : decode cX8_safe 64 = .ok (.getfield 40, 3) := by decide +kernel
theorem dX8_safe_67 : decode cX8_safe 67 = .ok (.aload_n 0, 1) := by decide +kernel
theorem dX8_safe_68 : decode cX8_safe 68 = .ok (.getfield 31, 3) := by decide +kernel
theorem dX8_safe_71 : decode cX8_safe 71 = .ok (.iconst 4, 1) := by decide +kernel
theorem dX8_safe_72 : decode cX8_safe 72 = .ok (.iload_n 1, 1) := by decide +kernel
theorem dX8_safe_73 : decode cX8_safe 73 = .ok (.iadd, 1) := by decide +kernel
theorem dX8_safe_74 : decode cX8_safe 74 = .ok (.iaload, 1) := by decide +kernel
theorem dX8_safe_75 : decode cX8_safe 75 = .ok (.iaload, 1) := by decide +kernel
theorem dX8_safe_76 : decode cX8_safe 76 = .ok (.ireturn, 1) := by decide +kernel
set_option maxRecDepth 20000 in
theorem ggX8_safeAt_X8_safe : GoodIn wsX8_safeAt wsX8_safe := goodIn_r _ [7, 1, 2, 8, 9, 10, 6, 11, 12, 13, 14, 15, 16, 17, 18, 19, 20, 21, 22, 23, 24, 25, 26, 27, 28, 29, 30, 31, 44, 45, 46, 47, 48, 49, 50, 51, 52, 53, 54, 55, 56, 57, 58, 59, 60, 61, 62, 63, 64, 65, 66, 67, 68, 69, 70, 71] (by decide +kernel) (by decide +kernel)
set_option maxRecDepth 20000 in
theorem gX8_safeAt_X8_safe : GoodIn wsX8_safeAt (wsV RX8 186 RX8 yX8_safe wsX8_safe) := goodIn_app (goodIn_of _ (by decide +kernel)) ggX8_safeAt_X8_safe
set_option maxRecDepth 20000 in
theorem ggX8_safeAt_X8_in : GoodIn wsX8_safeAt wsX8_in := goodIn_r _ [15] (by decide +kernel) (by decide +kernel)
set_option maxRecDepth 20000 in
theorem gX8_safeAt_X8_in : GoodIn wsX8_safeAt (va_wsS RX8 62 yX8_in wsX8_in) := goodIn_app (goodIn_of _ (by decide +kernel)) ggX8_safeAt_X8_in
set_option maxRecDepth 20000 in
theorem ggX8_safeAt_X8_nearTo : GoodIn wsX8_safeAt wsX8_nearTo := goodIn_r _ [35, 24, 29, 30, 6, 31, 44, 45, 46, 47, 48, 49, 50, 51, 52, 53, 54, 55, 56, 57, 58, 59, 60, 61, 62, 63, 64, 65, 66, 67, 68, 69, 70, 71] (by decide +kernel) (by decide +kernel)
set_option maxRecDepth 20000 in
theorem gX8_safeAt_X8_nearTo : GoodIn wsX8_safeAt (wsV RX8 146 RX8 yX8_nearTo wsX8_nearTo) := goodIn_app (goodIn_of _ (by decide +kernel)) ggX8_safeAt_X8_nearTo
set_option maxRecDepth 20000 in
theorem ggX8_safeAt_X8_isDanger : GoodIn wsX8_safeAt wsX8_isDanger := goodIn_r _ [39, 25, 26, 1, 27, 40, 41, 42, 6, 43, 28, 44, 45, 46, 47, 48, 49, 50, 51, 52, 53, 54, 55, 56, 57, 58, 59, 60, 61, 62, 63, 64, 65, 66, 67, 68, 69, 70, 71] (by decide +kernel) (by decide +kernel)
set_option maxRecDepth 20000 in
theorem gX8_safeAt_X8_isDanger : GoodIn wsX8_safeAt (wsV RX8 189 RX8 yX8_isDanger wsX8_isDanger) := goodIn_app (goodIn_of _ (by decide +kernel)) ggX8_safeAt_X8_isDanger
theorem dX8_safeAt_0 : decode cX8_safeAt 0 = .ok (.aload_n 0, 1) := by decide +kernel
theorem dX8_safeAt_1 : decode cX8_safeAt 1 = .ok (.iload_n 1, 1) := by decide +kernel
theorem dX8_safeAt_2 : decode cX8_safeAt 2 = .ok (.iload_n 2, 1) := by decide +kernel
theorem dX8_safeAt_3 : decode cX8_safeAt 3 = .ok (.invokevirtual 186, 3) := by decide +kernel
theorem dX8_safeAt_6 : decode cX8_safeAt 6 = .ok (.istore 4, 2) := by decide +kernel
theorem dX8_safeAt_8 : decode cX8_safeAt 8 = .ok (.iload 4, 2) := by decide +kernel
theorem dX8_safeAt_10 : decode cX8_safeAt 10 = .ok (.ifCond .lt 17, 3) := by decide +kernel
theorem dX8_safeAt_13 : decode cX8_safeAt 13 = .ok (.iload_n 3, 1) := by decide +kernel
theorem dX8_safeAt_14 : decode cX8_safeAt 14 = .ok (.i2l, 1) := by decide +kernel
theorem dX8_safeAt_15 : decode cX8_safeAt 15 = .ok (.lconst 0, 1) := by decide +kernel
theorem dX8_safeAt_16 : decode cX8_safeAt 16 = .ok (.iload 4, 2) := by decide +kernel
theorem dX8_safeAt_18 : decode cX8_safeAt 18 = .ok (.iconst 1, 1) := by decide +kernel
theorem dX8_safeAt_19 : decode cX8_safeAt 19 = .ok (.isub, 1) := by decide +kernel
theorem dX8_safeAt_20 : decode cX8_safeAt 20 = .ok (.i2l, 1) := by decide +kernel
theorem dX8_safeAt_21 : decode cX8_safeAt 21 = .ok (.invokestatic 62, 3) := by decide +kernel
theorem dX8_safeAt_24 : decode cX8_safeAt 24 = .ok (.ifCond .ne 16, 3) := by decide +kernel
theorem dX8_safeAt_27 : decode cX8_safeAt 27 = .ok (.iload 4, 2) := by decide +kernel
theorem dX8_safeAt_29 : decode cX8_safeAt 29 = .ok (.ifCond .ge 8, 3) := by decide +kernel
theorem dX8_safeAt_32 : decode cX8_safeAt 32 = .ok (.iload 4, 2) := by decide +kernel
theorem dX8_safeAt_34 : decode cX8_safeAt 34 = .ok (.goto 5, 3) := by decide +kernel
theorem dX8_safeAt_37 : decode cX8_safeAt 37 = .ok (.bipush (-9), 2) := by decide +kernel
theorem dX8_safeAt_39 : decode cX8_safeAt 39 = .ok (.ireturn, 1) := by decide +kernel
theorem dX8_safeAt_40 : decode cX8_safeAt 40 = .ok (.aload_n 0, 1) := by decide +kernel
theorem dX8_safeAt_41 : decode cX8_safeAt 41 = .ok (.getfield 31, 3) := by decide +kernel
theorem dX8_safeAt_44 : decode cX8_safeAt 44 = .ok (.iconst 4, 1) := by decide +kernel
theorem dX8_safeAt_45 : decode cX8_safeAt 45 = .ok (.iload_n 1, 1) := by decide +kernel
theorem dX8_safeAt_46 : decode cX8_safeAt 46 = .ok (.iadd, 1) := by decide +kernel
theorem dX8_safeAt_47 : decode cX8_safeAt 47 = .ok (.iaload, 1) := by decide +kernel
theorem dX8_safeAt_48 : decode cX8_safeAt 48 = .ok (.istore 5, 2) := by decide +kernel
theorem dX8_safeAt_50 : decode cX8_safeAt 50 = .ok (.iconst 0, 1) := by decide +kernel
theorem dX8_safeAt_51 : decode cX8_safeAt 51 = .ok (.istore 6, 2) := by decide +kernel
theorem dX8_safeAt_53 : decode cX8_safeAt 53 = .ok (.iload 6, 2) := by decide +kernel
theorem dX8_safeAt_55 : decode cX8_safeAt 55 = .ok (.iload_n 3, 1) := by decide +kernel
theorem dX8_safeAt_56 : decode cX8_safeAt 56 = .ok (.if_icmp .gt 63, 3) := by decide +kernel
theorem dX8_safeAt_59 : decode cX8_safeAt 59 = .ok (.iconst 0, 1) := by decide +kernel
theorem dX8_safeAt_60 : decode cX8_safeAt 60 = .ok (.istore 7, 2) := by decide +kernel
theorem dX8_safeAt_62 : decode cX8_safeAt 62 = .ok (.aload_n 0, 1) := by decide +kernel
theorem dX8_safeAt_63 : decode cX8_safeAt 63 = .ok (.iload 5, 2) := by decide +kernel
theorem dX8_safeAt_65 : decode cX8_safeAt 65 = .ok (.invokevirtual 146, 3) := by decide +kernel
theorem dX8_safeAt_68 : decode cX8_safeAt 68 = .ok (.iload 7, 2) := by decide +kernel
theorem dX8_safeAt_70 : decode cX8_safeAt 70 = .ok (.ishr, 1) := by decide +kernel
theorem dX8_safeAt_71 : decode cX8_safeAt 71 = .ok (.iconst 1, 1) := by decide +kernel
theorem dX8_safeAt_72 : decode cX8_safeAt 72 = .ok (.iand, 1) := by decide +kernel
theorem dX8_safeAt_73 : decode cX8_safeAt 73 = .ok (.ifCond .eq 30, 3) := by decide +kernel
theorem dX8_safeAt_76 : decode cX8_safeAt 76 = .ok (.aload_n 0, 1) := by decide +kernel
theorem dX8_safeAt_77 : decode cX8_safeAt 77 = .ok (.getfield 40, 3) := by decide +kernel
theorem dX8_safeAt_80 : decode cX8_safeAt 80 = .ok (.iload 7, 2) := by decide +kernel
theorem dX8_safeAt_82 : decode cX8_safeAt 82 = .ok (.iaload, 1) := by decide +kernel
theorem dX8_safeAt_83 : decode cX8_safeAt 83 = .ok (.iload 4, 2) := by decide +kernel
theorem dX8_safeAt_85 : decode cX8_safeAt 85 = .ok (.iconst 1, 1) := by decide +kernel
theorem dX8_safeAt_86 : decode cX8_safeAt 86 = .ok (.isub, 1) := by decide +kernel
theorem dX8_safeAt_87 : decode cX8_safeAt 87 = .ok (.iload 6, 2) := by decide +kernel
theorem dX8_safeAt_89 : decode cX8_safeAt 89 = .ok (.isub, 1) := by decide +kernel
theorem dX8_safeAt_90 : decode cX8_safeAt 90 = .ok (.if_icmp .ne 13, 3) := by decide +kernel
theorem dX8_safeAt_93 : decode cX8_safeAt 93 = .ok (.aload_n 0, 1) := by decide +kernel
theorem dX8_safeAt_94 : decode cX8_safeAt 94 = .ok (.iload_n 1, 1) := by decide +kernel
theorem dX8_safeAt_95 : decode cX8_safeAt 95 = .ok (.iload 7, 2) := by decide +kernel
theorem dX8_safeAt_97 : decode cX8_safeAt 97 = .ok (.invokevirtual 189, 3) := by decide +kernel
theorem dX8_safeAt_100 : decode cX8_safeAt 100 = .ok (.ifCond .eq 9, 3) := by decide +kernel
theorem dX8_safeAt_103 : decode cX8_safeAt 103 = .ok (.iinc 7 1, 3) := by decide +kernel
theorem dX8_safeAt_106 : decode cX8_safeAt 106 = .ok (.goto (-44), 3) := by decide +kernel
theorem dX8_safeAt_109 : decode cX8_safeAt 109 = .ok (.iload 7, 2) := by decide +kernel
theorem dX8_safeAt_111 : decode cX8_safeAt 111 = .ok (.istore 5, 2) := by decide +kernel
theorem dX8_safeAt_113 : decode cX8_safeAt 113 = .ok (.iinc 6 1, 3) := by decide +kernel
theorem dX8_safeAt_116 : decode cX8_safeAt 116 = .ok (.goto (-63), 3) := by decide +kernel
theorem dX8_safeAt_119 : decode cX8_safeAt 119 = .ok (.iload 5, 2) := by decide +kernel
theorem dX8_safeAt_121 : decode cX8_safeAt 121 = .ok (.ireturn, 1) := by decide +kernel
set_option maxRecDepth 20000 in
theorem ggX8_isDanger_X8_trapAt : GoodIn wsX8_isDanger wsX8_trapAt := goodIn_r _ [9, 10, 11, 12, 13, 14, 15, 16, 17, 18, 19, 20, 21, 22, 23, 24, 25, 26, 27, 28, 29, 30, 31, 32, 33, 34, 35, 36, 37, 38] (by decide +kernel) (by decide +kernel)
set_option maxRecDepth 20000 in
theorem gX8_isDanger_X8_trapAt : GoodIn wsX8_isDanger (wsV RX8 157 RX8 yX8_trapAt wsX8_trapAt) := goodIn_app (goodIn_of _ (by decide +kernel)) ggX8_isDanger_X8_trapAt
theorem dX8_isDanger_0 : decode cX8_isDanger 0 = .ok (.aload_n 0, 1) := by decide +kernel
theorem dX8_isDanger_1 : decode cX8_isDanger 1 = .ok (.iload_n 2, 1) := by decide +kernel
theorem dX8_isDanger_2 : decode cX8_isDanger 2 = .ok (.aload_n 0, 1) := by decide +kernel
theorem dX8_isDanger_3 : decode cX8_isDanger 3 = .ok (.getfield 56, 3) := by decide +kernel
theorem dX8_isDanger_6 : decode cX8_isDanger 6 = .ok (.invokevirtual 157, 3) := by decide +kernel
theorem dX8_isDanger_9 : decode cX8_isDanger 9 = .ok (.istore_n 3, 1) := by decide +kernel
theorem dX8_isDanger_10 : decode cX8_isDanger 10 = .ok (.iload_n 3, 1) := by decide +kernel
theorem dX8_isDanger_11 : decode cX8_isDanger 11 = .ok (.bipush (-9), 2) := by decide +kernel
theorem dX8_isDanger_13 : decode cX8_isDanger 13 = .ok (.if_icmp .eq 63, 3) := by decide +kernel
theorem dX8_isDanger_16 : decode cX8_isDanger 16 = .ok (.aload_n 0, 1) := by decide +kernel
theorem dX8_isDanger_17 : decode cX8_isDanger 17 = .ok (.getfield 28, 3) := by decide +kernel
theorem dX8_isDanger_20 : decode cX8_isDanger 20 = .ok (.iload_n 1, 1) := by decide +kernel
theorem dX8_isDanger_21 : decode cX8_isDanger 21 = .ok (.iaload, 1) := by decide +kernel
theorem dX8_isDanger_22 : decode cX8_isDanger 22 = .ok (.bipush (-9), 2) := by decide +kernel
theorem dX8_isDanger_24 : decode cX8_isDanger 24 = .ok (.if_icmp .eq 52, 3) := by decide +kernel
theorem dX8_isDanger_27 : decode cX8_isDanger 27 = .ok (.aload_n 0, 1) := by decide +kernel
theorem dX8_isDanger_28 : decode cX8_isDanger 28 = .ok (.getfield 31, 3) := by decide +kernel
theorem dX8_isDanger_31 : decode cX8_isDanger 31 = .ok (.iconst 2, 1) := by decide +kernel
theorem dX8_isDanger_32 : decode cX8_isDanger 32 = .ok (.aload_n 0, 1) := by decide +kernel
theorem dX8_isDanger_33 : decode cX8_isDanger 33 = .ok (.getfield 28, 3) := by decide +kernel
theorem dX8_isDanger_36 : decode cX8_isDanger 36 = .ok (.iload_n 1, 1) := by decide +kernel
theorem dX8_isDanger_37 : decode cX8_isDanger 37 = .ok (.iaload, 1) := by decide +kernel
theorem dX8_isDanger_38 : decode cX8_isDanger 38 = .ok (.iadd, 1) := by decide +kernel
theorem dX8_isDanger_39 : decode cX8_isDanger 39 = .ok (.iaload, 1) := by decide +kernel
theorem dX8_isDanger_40 : decode cX8_isDanger 40 = .ok (.iload_n 3, 1) := by decide +kernel
theorem dX8_isDanger_41 : decode cX8_isDanger 41 = .ok (.ishr, 1) := by decide +kernel
theorem dX8_isDanger_42 : decode cX8_isDanger 42 = .ok (.iconst 1, 1) := by decide +kernel
theorem dX8_isDanger_43 : decode cX8_isDanger 43 = .ok (.iand, 1) := by decide +kernel
theorem dX8_isDanger_44 : decode cX8_isDanger 44 = .ok (.iconst 1, 1) := by decide +kernel
theorem dX8_isDanger_45 : decode cX8_isDanger 45 = .ok (.if_icmp .ne 31, 3) := by decide +kernel
theorem dX8_isDanger_48 : decode cX8_isDanger 48 = .ok (.aload_n 0, 1) := by decide +kernel
theorem dX8_isDanger_49 : decode cX8_isDanger 49 = .ok (.getfield 31, 3) := by decide +kernel
theorem dX8_isDanger_52 : decode cX8_isDanger 52 = .ok (.iconst 0, 1) := by decide +kernel
theorem dX8_isDanger_53 : decode cX8_isDanger 53 = .ok (.iaload, 1) := by decide +kernel
theorem dX8_isDanger_54 : decode cX8_isDanger 54 = .ok (.iload_n 3, 1) := by decide +kernel
theorem dX8_isDanger_55 : decode cX8_isDanger 55 = .ok (.ishr, 1) := by decide +kernel
theorem dX8_isDanger_56 : decode cX8_isDanger 56 = .ok (.iconst 1, 1) := by decide +kernel
theorem dX8_isDanger_57 : decode cX8_isDanger 57 = .ok (.iand, 1) := by decide +kernel
theorem dX8_isDanger_58 : decode cX8_isDanger 58 = .ok (.iconst 1, 1) := by decide +kernel
theorem dX8_isDanger_59 : decode cX8_isDanger 59 = .ok (.if_icmp .ne 17, 3) := by decide +kernel
theorem dX8_isDanger_62 : decode cX8_isDanger 62 = .ok (.aload_n 0, 1) := by decide +kernel
theorem dX8_isDanger_63 : decode cX8_isDanger 63 = .ok (.getfield 22, 3) := by decide +kernel
theorem dX8_isDanger_66 : decode cX8_isDanger 66 = .ok (.iload_n 3, 1) := by decide +kernel
theorem dX8_isDanger_67 : decode cX8_isDanger 67 = .ok (.iaload, 1) := by decide +kernel
theorem dX8_isDanger_68 : decode cX8_isDanger 68 = .ok (.iconst 3, 1) := by decide +kernel
theorem dX8_isDanger_69 : decode cX8_isDanger 69 = .ok (.if_icmp .eq 7, 3) := by decide +kernel
theorem dX8_isDanger_72 : decode cX8_isDanger 72 = .ok (.iconst 1, 1) := by decide +kernel
theorem dX8_isDanger_73 : decode cX8_isDanger 73 = .ok (.goto 4, 3) := by decide +kernel
theorem dX8_isDanger_76 : decode cX8_isDanger 76 = .ok (.iconst 0, 1) := by decide +kernel
theorem dX8_isDanger_77 : decode cX8_isDanger 77 = .ok (.ireturn, 1) := by decide +kernel
set_option maxRecDepth 20000 in
theorem ggX8_toLook_X8_in : GoodIn wsX8_toLook wsX8_in := goodIn_r _ [4] (by decide +kernel) (by decide +kernel)
set_option maxRecDepth 20000 in
theorem gX8_toLook_X8_in : GoodIn wsX8_toLook (va_wsS RX8 62 yX8_in wsX8_in) := goodIn_app (goodIn_of _ (by decide +kernel)) ggX8_toLook_X8_in
set_option maxRecDepth 20000 in
theorem ggX8_toLook_X8_finds : GoodIn wsX8_toLook wsX8_finds := goodIn_r _ [8, 9, 10, 11, 12, 13, 3, 14, 18, 19, 20, 21, 22, 23, 24, 25, 26, 27, 28, 29, 30, 31, 32, 33, 34, 35, 36, 37, 38, 39, 40, 41, 42, 43, 44, 45] (by decide +kernel) (by decide +kernel)
set_option maxRecDepth 20000 in
theorem gX8_toLook_X8_finds : GoodIn wsX8_toLook (wsV RX8 173 RX8 yX8_finds wsX8_finds) := goodIn_app (goodIn_of _ (by decide +kernel)) ggX8_toLook_X8_finds
set_option maxRecDepth 20000 in
theorem ggX8_toLook_X8_ones : GoodIn wsX8_toLook wsX8_ones := goodIn_r _ [17] (by decide +kernel) (by decide +kernel)
set_option maxRecDepth 20000 in
theorem gX8_toLook_X8_ones : GoodIn wsX8_toLook (va_wsS RX8 179 yX8_ones wsX8_ones) := goodIn_app (goodIn_of _ (by decide +kernel)) ggX8_toLook_X8_ones
theorem dX8_toLook_0 : decode cX8_toLook 0 = .ok (.iload_n 1, 1) := by decide +kernel
theorem dX8_toLook_1 : decode cX8_toLook 1 = .ok (.i2l, 1) := by decide +kernel
theorem dX8_toLook_2 : decode cX8_toLook 2 = .ok (.lconst 0, 1) := by decide +kernel
theorem dX8_toLook_3 : decode cX8_toLook 3 = .ok (.lconst 1, 1) := by decide +kernel
theorem dX8_toLook_4 : decode cX8_toLook 4 = .ok (.invokestatic 62, 3) := by decide +kernel
theorem dX8_toLook_7 : decode cX8_toLook 7 = .ok (.ifCond .ne 6, 3) := by decide +kernel
theorem dX8_toLook_10 : decode cX8_toLook 10 = .ok (.bipush (-2), 2) := by decide +kernel
theorem dX8_toLook_12 : decode cX8_toLook 12 = .ok (.ireturn, 1) := by decide +kernel
theorem dX8_toLook_13 : decode cX8_toLook 13 = .ok (.iconst 0, 1) := by decide +kernel
theorem dX8_toLook_14 : decode cX8_toLook 14 = .ok (.istore_n 2, 1) := by decide +kernel
theorem dX8_toLook_15 : decode cX8_toLook 15 = .ok (.iconst 1, 1) := by decide +kernel
theorem dX8_toLook_16 : decode cX8_toLook 16 = .ok (.istore_n 3, 1) := by decide +kernel
theorem dX8_toLook_17 : decode cX8_toLook 17 = .ok (.iload_n 3, 1) := by decide +kernel
theorem dX8_toLook_18 : decode cX8_toLook 18 = .ok (.bipush 12, 2) := by decide +kernel
theorem dX8_toLook_20 : decode cX8_toLook 20 = .ok (.if_icmp .ge 36, 3) := by decide +kernel
theorem dX8_toLook_23 : decode cX8_toLook 23 = .ok (.aload_n 0, 1) := by decide +kernel
theorem dX8_toLook_24 : decode cX8_toLook 24 = .ok (.iload_n 1, 1) := by decide +kernel
theorem dX8_toLook_25 : decode cX8_toLook 25 = .ok (.iload_n 3, 1) := by decide +kernel
theorem dX8_toLook_26 : decode cX8_toLook 26 = .ok (.invokevirtual 173, 3) := by decide +kernel
theorem dX8_toLook_29 : decode cX8_toLook 29 = .ok (.invokestatic 179, 3) := by decide +kernel
theorem dX8_toLook_32 : decode cX8_toLook 32 = .ok (.aload_n 0, 1) := by decide +kernel
theorem dX8_toLook_33 : decode cX8_toLook 33 = .ok (.iload_n 1, 1) := by decide +kernel
theorem dX8_toLook_34 : decode cX8_toLook 34 = .ok (.iload_n 2, 1) := by decide +kernel
theorem dX8_toLook_35 : decode cX8_toLook 35 = .ok (.invokevirtual 173, 3) := by decide +kernel
theorem dX8_toLook_38 : decode cX8_toLook 38 = .ok (.invokestatic 179, 3) := by decide +kernel
theorem dX8_toLook_41 : decode cX8_toLook 41 = .ok (.if_icmp .le 7, 3) := by decide +kernel
theorem dX8_toLook_44 : decode cX8_toLook 44 = .ok (.iload_n 3, 1) := by decide +kernel
theorem dX8_toLook_45 : decode cX8_toLook 45 = .ok (.goto 4, 3) := by decide +kernel
theorem dX8_toLook_48 : decode cX8_toLook 48 = .ok (.iload_n 2, 1) := by decide +kernel
theorem dX8_toLook_49 : decode cX8_toLook 49 = .ok (.istore_n 2, 1) := by decide +kernel
theorem dX8_toLook_50 : decode cX8_toLook 50 = .ok (.iinc 3 1, 3) := by decide +kernel
theorem dX8_toLook_53 : decode cX8_toLook 53 = .ok (.goto (-36), 3) := by decide +kernel
theorem dX8_toLook_56 : decode cX8_toLook 56 = .ok (.iload_n 2, 1) := by decide +kernel
theorem dX8_toLook_57 : decode cX8_toLook 57 = .ok (.ireturn, 1) := by decide +kernel
theorem dX8_ofCells_0 : decode cX8_ofCells 0 = .ok (.iload_n 1, 1) := by decide +kernel
theorem dX8_ofCells_1 : decode cX8_ofCells 1 = .ok (.istore_n 2, 1) := by decide +kernel
theorem dX8_ofCells_2 : decode cX8_ofCells 2 = .ok (.iconst 0, 1) := by decide +kernel
theorem dX8_ofCells_3 : decode cX8_ofCells 3 = .ok (.istore_n 3, 1) := by decide +kernel
theorem dX8_ofCells_4 : decode cX8_ofCells 4 = .ok (.iload_n 3, 1) := by decide +kernel
theorem dX8_ofCells_5 : decode cX8_ofCells 5 = .ok (.bipush 12, 2) := by decide +kernel
theorem dX8_ofCells_7 : decode cX8_ofCells 7 = .ok (.if_icmp .ge 27, 3) := by decide +kernel
theorem dX8_ofCells_10 : decode cX8_ofCells 10 = .ok (.iload_n 0, 1) := by decide +kernel
theorem dX8_ofCells_11 : decode cX8_ofCells 11 = .ok (.iload_n 3, 1) := by decide +kernel
theorem dX8_ofCells_12 : decode cX8_ofCells 12 = .ok (.ishr, 1) := by decide +kernel
theorem dX8_ofCells_13 : decode cX8_ofCells 13 = .ok (.iconst 1, 1) := by decide +kernel
theorem dX8_ofCells_14 : decode cX8_ofCells 14 = .ok (.iand, 1) := by decide +kernel
theorem dX8_ofCells_15 : decode cX8_ofCells 15 = .ok (.iconst 1, 1) := by decide +kernel
theorem dX8_ofCells_16 : decode cX8_ofCells 16 = .ok (.if_icmp .ne 12, 3) := by decide +kernel
theorem dX8_ofCells_19 : decode cX8_ofCells 19 = .ok (.iload_n 2, 1) := by decide +kernel
theorem dX8_ofCells_20 : decode cX8_ofCells 20 = .ok (.ifCond .ne 5, 3) := by decide +kernel
theorem dX8_ofCells_23 : decode cX8_ofCells 23 = .ok (.iload_n 3, 1) := by decide +kernel
theorem dX8_ofCells_24 : decode cX8_ofCells 24 = .ok (.ireturn, 1) := by decide +kernel
theorem dX8_ofCells_25 : decode cX8_ofCells 25 = .ok (.iinc 2 (-1), 3) := by decide +kernel
theorem dX8_ofCells_28 : decode cX8_ofCells 28 = .ok (.iinc 3 1, 3) := by decide +kernel
theorem dX8_ofCells_31 : decode cX8_ofCells 31 = .ok (.goto (-27), 3) := by decide +kernel
theorem dX8_ofCells_34 : decode cX8_ofCells 34 = .ok (.bipush (-9), 2) := by decide +kernel
theorem dX8_ofCells_36 : decode cX8_ofCells 36 = .ok (.ireturn, 1) := by decide +kernel
theorem dX8_twelveTo_0 : decode cX8_twelveTo 0 = .ok (.iconst 1, 1) := by decide +kernel
theorem dX8_twelveTo_1 : decode cX8_twelveTo 1 = .ok (.istore_n 1, 1) := by decide +kernel
theorem dX8_twelveTo_2 : decode cX8_twelveTo 2 = .ok (.iconst 0, 1) := by decide +kernel
theorem dX8_twelveTo_3 : decode cX8_twelveTo 3 = .ok (.istore_n 2, 1) := by decide +kernel
theorem dX8_twelveTo_4 : decode cX8_twelveTo 4 = .ok (.iload_n 2, 1) := by decide +kernel
theorem dX8_twelveTo_5 : decode cX8_twelveTo 5 = .ok (.iload_n 0, 1) := by decide +kernel
theorem dX8_twelveTo_6 : decode cX8_twelveTo 6 = .ok (.if_icmp .ge 14, 3) := by decide +kernel
theorem dX8_twelveTo_9 : decode cX8_twelveTo 9 = .ok (.iload_n 1, 1) := by decide +kernel
theorem dX8_twelveTo_10 : decode cX8_twelveTo 10 = .ok (.bipush 12, 2) := by decide +kernel
theorem dX8_twelveTo_12 : decode cX8_twelveTo 12 = .ok (.imul, 1) := by decide +kernel
theorem dX8_twelveTo_13 : decode cX8_twelveTo 13 = .ok (.istore_n 1, 1) := by decide +kernel
theorem dX8_twelveTo_14 : decode cX8_twelveTo 14 = .ok (.iinc 2 1, 3) := by decide +kernel
theorem dX8_twelveTo_17 : decode cX8_twelveTo 17 = .ok (.goto (-13), 3) := by decide +kernel
theorem dX8_twelveTo_20 : decode cX8_twelveTo 20 = .ok (.iload_n 1, 1) := by decide +kernel
theorem dX8_twelveTo_21 : decode cX8_twelveTo 21 = .ok (.ireturn, 1) := by decide +kernel
set_option maxRecDepth 20000 in
theorem ggX8_caughtParts_X8_nearTo : GoodIn wsX8_caughtParts wsX8_nearTo := goodIn_r _ [8, 9, 10, 11, 7, 12, 48, 49, 50, 51, 52, 53, 54, 55, 56, 57, 58, 59, 60, 61, 62, 63, 64, 65, 66, 67, 68, 69, 70, 71, 72, 73, 74, 75] (by decide +kernel) (by decide +kernel)
set_option maxRecDepth 20000 in
theorem gX8_caughtParts_X8_nearTo : GoodIn wsX8_caughtParts (wsV RX8 146 RX8 yX8_nearTo wsX8_nearTo) := goodIn_app (goodIn_of _ (by decide +kernel)) ggX8_caughtParts_X8_nearTo
set_option maxRecDepth 20000 in
theorem ggX8_caughtParts_X8_twelveTo : GoodIn wsX8_caughtParts wsX8_twelveTo := goodIn_r _ [15] (by decide +kernel) (by decide +kernel)
set_option maxRecDepth 20000 in
theorem gX8_caughtParts_X8_twelveTo : GoodIn wsX8_caughtParts (va_wsS RX8 192 yX8_twelveTo wsX8_twelveTo) := goodIn_app (goodIn_of _ (by decide +kernel)) ggX8_caughtParts_X8_twelveTo
set_option maxRecDepth 20000 in
theorem ggX8_caughtParts_X8_ones : GoodIn wsX8_caughtParts wsX8_ones := goodIn_r _ [18] (by decide +kernel) (by decide +kernel)
set_option maxRecDepth 20000 in
theorem gX8_caughtParts_X8_ones : GoodIn wsX8_caughtParts (va_wsS RX8 179 yX8_ones wsX8_ones) := goodIn_app (goodIn_of _ (by decide +kernel)) ggX8_caughtParts_X8_ones
set_option maxRecDepth 20000 in
theorem ggX8_caughtParts_X8_ofCells : GoodIn wsX8_caughtParts wsX8_ofCells := goodIn_r _ [21] (by decide +kernel) (by decide +kernel)
set_option maxRecDepth 20000 in
theorem gX8_caughtParts_X8_ofCells : GoodIn wsX8_caughtParts (va_wsS RX8 195 yX8_ofCells wsX8_ofCells) := goodIn_app (goodIn_of _ (by decide +kernel)) ggX8_caughtParts_X8_ofCells
set_option maxRecDepth 20000 in
theorem ggX8_caughtParts_X8_stepOn : GoodIn wsX8_caughtParts wsX8_stepOn := goodIn_r _ [25, 3, 26, 27, 28, 29, 30, 7, 31, 32, 33, 34, 35, 36, 37, 38, 39, 40, 41, 42, 43, 44, 45, 46, 47, 48, 49, 50, 51, 52, 53, 54, 55, 56, 57, 58, 59, 60, 61, 62, 63, 64, 65, 66, 67, 68, 69, 70, 71, 72, 73, 74, 75] (by decide +kernel) (by decide +kernel)
set_option maxRecDepth 20000 in
theorem gX8_caughtParts_X8_stepOn : GoodIn wsX8_caughtParts (wsV RX8 169 RX8 yX8_stepOn wsX8_stepOn) := goodIn_app (goodIn_of _ (by decide +kernel)) ggX8_caughtParts_X8_stepOn
theorem dX8_caughtParts_0 : decode cX8_caughtParts 0 = .ok (.iconst 0, 1) := by decide +kernel
theorem dX8_caughtParts_1 : decode cX8_caughtParts 1 = .ok (.istore 4, 2) := by decide +kernel
theorem dX8_caughtParts_3 : decode cX8_caughtParts 3 = .ok (.iconst 0, 1) := by decide +kernel
theorem dX8_caughtParts_4 : decode cX8_caughtParts 4 = .ok (.istore 5, 2) := by decide +kernel
theorem dX8_caughtParts_6 : decode cX8_caughtParts 6 = .ok (.aload_n 0, 1) := by decide +kernel
theorem dX8_caughtParts_7 : decode cX8_caughtParts 7 = .ok (.getfield 43, 3) := by decide +kernel
theorem dX8_caughtParts_10 : decode cX8_caughtParts 10 = .ok (.iconst 0, 1) := by decide +kernel
theorem dX8_caughtParts_11 : decode cX8_caughtParts 11 = .ok (.iconst 0, 1) := by decide +kernel
theorem dX8_caughtParts_12 : decode cX8_caughtParts 12 = .ok (.iastore, 1) := by decide +kernel
theorem dX8_caughtParts_13 : decode cX8_caughtParts 13 = .ok (.aload_n 0, 1) := by decide +kernel
theorem dX8_caughtParts_14 : decode cX8_caughtParts 14 = .ok (.getfield 46, 3) := by decide +kernel
theorem dX8_caughtParts_17 : decode cX8_caughtParts 17 = .ok (.iconst 0, 1) := by decide +kernel
theorem dX8_caughtParts_18 : decode cX8_caughtParts 18 = .ok (.iconst 1, 1) := by decide +kernel
theorem dX8_caughtParts_19 : decode cX8_caughtParts 19 = .ok (.iastore, 1) := by decide +kernel
theorem dX8_caughtParts_20 : decode cX8_caughtParts 20 = .ok (.iload 5, 2) := by decide +kernel
theorem dX8_caughtParts_22 : decode cX8_caughtParts 22 = .ok (.ifCond .lt 256, 3) := by decide +kernel
theorem dX8_caughtParts_25 : decode cX8_caughtParts 25 = .ok (.aload_n 0, 1) := by decide +kernel
theorem dX8_caughtParts_26 : decode cX8_caughtParts 26 = .ok (.aload_n 0, 1) := by decide +kernel
theorem dX8_caughtParts_27 : decode cX8_caughtParts 27 = .ok (.getfield 31, 3) := by decide +kernel
theorem dX8_caughtParts_30 : decode cX8_caughtParts 30 = .ok (.bipush 12, 2) := by decide +kernel
theorem dX8_caughtParts_32 : decode cX8_caughtParts 32 = .ok (.iload 5, 2) := by decide +kernel
theorem dX8_caughtParts_34 : decode cX8_caughtParts 34 = .ok (.imul, 1) := by decide +kernel
theorem dX8_caughtParts_35 : decode cX8_caughtParts 35 = .ok (.iconst 4, 1) := by decide +kernel
theorem dX8_caughtParts_36 : decode cX8_caughtParts 36 = .ok (.iadd, 1) := by decide +kernel
theorem dX8_caughtParts_37 : decode cX8_caughtParts 37 = .ok (.iload_n 1, 1) := by decide +kernel
theorem dX8_caughtParts_38 : decode cX8_caughtParts 38 = .ok (.iadd, 1) := by decide +kernel
theorem dX8_caughtParts_39 : decode cX8_caughtParts 39 = .ok (.iaload, 1) := by decide +kernel
theorem dX8_caughtParts_40 : decode cX8_caughtParts 40 = .ok (.invokevirtual 146, 3) := by decide +kernel
theorem dX8_caughtParts_43 : decode cX8_caughtParts 43 = .ok (.istore 6, 2) := by decide +kernel
theorem dX8_caughtParts_45 : decode cX8_caughtParts 45 = .ok (.iload 5, 2) := by decide +kernel
theorem dX8_caughtParts_47 : decode cX8_caughtParts 47 = .ok (.iload_n 2, 1) := by decide +kernel
theorem dX8_caughtParts_48 : decode cX8_caughtParts 48 = .ok (.if_icmp .eq 28, 3) := by decide +kernel
theorem dX8_caughtParts_51 : decode cX8_caughtParts 51 = .ok (.aload_n 0, 1) := by decide +kernel
theorem dX8_caughtParts_52 : decode cX8_caughtParts 52 = .ok (.getfield 31, 3) := by decide +kernel
theorem dX8_caughtParts_55 : decode cX8_caughtParts 55 = .ok (.bipush 12, 2) := by decide +kernel
theorem dX8_caughtParts_57 : decode cX8_caughtParts 57 = .ok (.iload 5, 2) := by decide +kernel
theorem dX8_caughtParts_59 : decode cX8_caughtParts 59 = .ok (.imul, 1) := by decide +kernel
theorem dX8_caughtParts_60 : decode cX8_caughtParts 60 = .ok (.bipush 8, 2) := by decide +kernel
theorem dX8_caughtParts_62 : decode cX8_caughtParts 62 = .ok (.iadd, 1) := by decide +kernel
theorem dX8_caughtParts_63 : decode cX8_caughtParts 63 = .ok (.iload_n 1, 1) := by decide +kernel
theorem dX8_caughtParts_64 : decode cX8_caughtParts 64 = .ok (.iadd, 1) := by decide +kernel
theorem dX8_caughtParts_65 : decode cX8_caughtParts 65 = .ok (.iaload, 1) := by decide +kernel
theorem dX8_caughtParts_66 : decode cX8_caughtParts 66 = .ok (.bipush (-9), 2) := by decide +kernel
theorem dX8_caughtParts_68 : decode cX8_caughtParts 68 = .ok (.if_icmp .ne 8, 3) := by decide +kernel
theorem dX8_caughtParts_71 : decode cX8_caughtParts 71 = .ok (.iload 6, 2) := by decide +kernel
theorem dX8_caughtParts_73 : decode cX8_caughtParts 73 = .ok (.ifCond .ne 7, 3) := by decide +kernel
theorem dX8_caughtParts_76 : decode cX8_caughtParts 76 = .ok (.iconst 1, 1) := by decide +kernel
theorem dX8_caughtParts_77 : decode cX8_caughtParts 77 = .ok (.goto 4, 3) := by decide +kernel
theorem dX8_caughtParts_80 : decode cX8_caughtParts 80 = .ok (.iconst 0, 1) := by decide +kernel
theorem dX8_caughtParts_81 : decode cX8_caughtParts 81 = .ok (.istore 7, 2) := by decide +kernel
theorem dX8_caughtParts_83 : decode cX8_caughtParts 83 = .ok (.iload 7, 2) := by decide +kernel
theorem dX8_caughtParts_85 : decode cX8_caughtParts 85 = .ok (.ifCond .eq 53, 3) := by decide +kernel
theorem dX8_caughtParts_88 : decode cX8_caughtParts 88 = .ok (.iload 4, 2) := by decide +kernel
theorem dX8_caughtParts_90 : decode cX8_caughtParts 90 = .ok (.aload_n 0, 1) := by decide +kernel
theorem dX8_caughtParts_91 : decode cX8_caughtParts 91 = .ok (.getfield 31, 3) := by decide +kernel
theorem dX8_caughtParts_94 : decode cX8_caughtParts 94 = .ok (.bipush 12, 2) := by decide +kernel
theorem dX8_caughtParts_96 : decode cX8_caughtParts 96 = .ok (.iload 5, 2) := by decide +kernel
theorem dX8_caughtParts_98 : decode cX8_caughtParts 98 = .ok (.imul, 1) := by decide +kernel
theorem dX8_caughtParts_99 : decode cX8_caughtParts 99 = .ok (.bipush 8, 2) := by decide +kernel
theorem dX8_caughtParts_101 : decode cX8_caughtParts 101 = .ok (.iadd, 1) := by decide +kernel
theorem dX8_caughtParts_102 : decode cX8_caughtParts 102 = .ok (.iload_n 1, 1) := by decide +kernel
theorem dX8_caughtParts_103 : decode cX8_caughtParts 103 = .ok (.iadd, 1) := by decide +kernel
theorem dX8_caughtParts_104 : decode cX8_caughtParts 104 = .ok (.iaload, 1) := by decide +kernel
theorem dX8_caughtParts_105 : decode cX8_caughtParts 105 = .ok (.bipush (-9), 2) := by decide +kernel
theorem dX8_caughtParts_107 : decode cX8_caughtParts 107 = .ok (.if_icmp .eq 21, 3) := by decide +kernel
theorem dX8_caughtParts_110 : decode cX8_caughtParts 110 = .ok (.aload_n 0, 1) := by decide +kernel
theorem dX8_caughtParts_111 : decode cX8_caughtParts 111 = .ok (.getfield 46, 3) := by decide +kernel
theorem dX8_caughtParts_114 : decode cX8_caughtParts 114 = .ok (.iload 5, 2) := by decide +kernel
theorem dX8_caughtParts_116 : decode cX8_caughtParts 116 = .ok (.iaload, 1) := by decide +kernel
theorem dX8_caughtParts_117 : decode cX8_caughtParts 117 = .ok (.iload_n 2, 1) := by decide +kernel
theorem dX8_caughtParts_118 : decode cX8_caughtParts 118 = .ok (.iload 5, 2) := by decide +kernel
theorem dX8_caughtParts_120 : decode cX8_caughtParts 120 = .ok (.isub, 1) := by decide +kernel
theorem dX8_caughtParts_121 : decode cX8_caughtParts 121 = .ok (.invokestatic 192, 3) := by decide +kernel
theorem dX8_caughtParts_124 : decode cX8_caughtParts 124 = .ok (.imul, 1) := by decide +kernel
theorem dX8_caughtParts_125 : decode cX8_caughtParts 125 = .ok (.goto 4, 3) := by decide +kernel
theorem dX8_caughtParts_128 : decode cX8_caughtParts 128 = .ok (.iconst 0, 1) := by decide +kernel
theorem dX8_caughtParts_129 : decode cX8_caughtParts 129 = .ok (.iadd, 1) := by decide +kernel
theorem dX8_caughtParts_130 : decode cX8_caughtParts 130 = .ok (.istore 4, 2) := by decide +kernel
theorem dX8_caughtParts_132 : decode cX8_caughtParts 132 = .ok (.iinc 5 (-1), 3) := by decide +kernel
theorem dX8_caughtParts_135 : decode cX8_caughtParts 135 = .ok (.goto 140, 3) := by decide +kernel
theorem dX8_caughtParts_138 : decode cX8_caughtParts 138 = .ok (.aload_n 0, 1) := by decide +kernel
theorem dX8_caughtParts_139 : decode cX8_caughtParts 139 = .ok (.getfield 43, 3) := by decide +kernel
theorem dX8_caughtParts_142 : decode cX8_caughtParts 142 = .ok (.iload 5, 2) := by decide +kernel
theorem dX8_caughtParts_144 : decode cX8_caughtParts 144 = .ok (.iaload, 1) := by decide +kernel
theorem dX8_caughtParts_145 : decode cX8_caughtParts 145 = .ok (.iload 6, 2) := by decide +kernel
theorem dX8_caughtParts_147 : decode cX8_caughtParts 147 = .ok (.invokestatic 179, 3) := by decide +kernel
theorem dX8_caughtParts_150 : decode cX8_caughtParts 150 = .ok (.if_icmp .ne 9, 3) := by decide +kernel
theorem dX8_caughtParts_153 : decode cX8_caughtParts 153 = .ok (.iinc 5 (-1), 3) := by decide +kernel
theorem dX8_caughtParts_156 : decode cX8_caughtParts 156 = .ok (.goto 119, 3) := by decide +kernel
theorem dX8_caughtParts_159 : decode cX8_caughtParts 159 = .ok (.iconst 0, 1) := by decide +kernel
theorem dX8_caughtParts_160 : decode cX8_caughtParts 160 = .ok (.istore 8, 2) := by decide +kernel
theorem dX8_caughtParts_162 : decode cX8_caughtParts 162 = .ok (.iload 8, 2) := by decide +kernel
theorem dX8_caughtParts_164 : decode cX8_caughtParts 164 = .ok (.bipush 12, 2) := by decide +kernel
theorem dX8_caughtParts_166 : decode cX8_caughtParts 166 = .ok (.if_icmp .ge 37, 3) := by decide +kernel
theorem dX8_caughtParts_169 : decode cX8_caughtParts 169 = .ok (.aload_n 0, 1) := by decide +kernel
theorem dX8_caughtParts_170 : decode cX8_caughtParts 170 = .ok (.getfield 31, 3) := by decide +kernel
theorem dX8_caughtParts_173 : decode cX8_caughtParts 173 = .ok (.bipush 12, 2) := by decide +kernel
theorem dX8_caughtParts_175 : decode cX8_caughtParts 175 = .ok (.iload 5, 2) := by decide +kernel
theorem dX8_caughtParts_177 : decode cX8_caughtParts 177 = .ok (.iconst 1, 1) := by decide +kernel
theorem dX8_caughtParts_178 : decode cX8_caughtParts 178 = .ok (.iadd, 1) := by decide +kernel
theorem dX8_caughtParts_179 : decode cX8_caughtParts 179 = .ok (.imul, 1) := by decide +kernel
theorem dX8_caughtParts_180 : decode cX8_caughtParts 180 = .ok (.iload 8, 2) := by decide +kernel
theorem dX8_caughtParts_182 : decode cX8_caughtParts 182 = .ok (.iadd, 1) := by decide +kernel
theorem dX8_caughtParts_183 : decode cX8_caughtParts 183 = .ok (.aload_n 0, 1) := by decide +kernel
theorem dX8_caughtParts_184 : decode cX8_caughtParts 184 = .ok (.getfield 31, 3) := by decide +kernel
theorem dX8_caughtParts_187 : decode cX8_caughtParts 187 = .ok (.bipush 12, 2) := by decide +kernel
theorem dX8_caughtParts_189 : decode cX8_caughtParts 189 = .ok (.iload 5, 2) := by decide +kernel
theorem dX8_caughtParts_191 : decode cX8_caughtParts 191 = .ok (.imul, 1) := by decide +kernel
theorem dX8_caughtParts_192 : decode cX8_caughtParts 192 = .ok (.iload 8, 2) := by decide +kernel
theorem dX8_caughtParts_194 : decode cX8_caughtParts 194 = .ok (.iadd, 1) := by decide +kernel
theorem dX8_caughtParts_195 : decode cX8_caughtParts 195 = .ok (.iaload, 1) := by decide +kernel
theorem dX8_caughtParts_196 : decode cX8_caughtParts 196 = .ok (.iastore, 1) := by decide +kernel
theorem dX8_caughtParts_197 : decode cX8_caughtParts 197 = .ok (.iinc 8 1, 3) := by decide +kernel
theorem dX8_caughtParts_200 : decode cX8_caughtParts 200 = .ok (.goto (-38), 3) := by decide +kernel
theorem dX8_caughtParts_203 : decode cX8_caughtParts 203 = .ok (.aload_n 0, 1) := by decide +kernel
theorem dX8_caughtParts_204 : decode cX8_caughtParts 204 = .ok (.iload 5, 2) := by decide +kernel
theorem dX8_caughtParts_206 : decode cX8_caughtParts 206 = .ok (.iconst 1, 1) := by decide +kernel
theorem dX8_caughtParts_207 : decode cX8_caughtParts 207 = .ok (.iadd, 1) := by decide +kernel
theorem dX8_caughtParts_208 : decode cX8_caughtParts 208 = .ok (.iload_n 1, 1) := by decide +kernel
theorem dX8_caughtParts_209 : decode cX8_caughtParts 209 = .ok (.iload 6, 2) := by decide +kernel
theorem dX8_caughtParts_211 : decode cX8_caughtParts 211 = .ok (.aload_n 0, 1) := by decide +kernel
theorem dX8_caughtParts_212 : decode cX8_caughtParts 212 = .ok (.getfield 43, 3) := by decide +kernel
theorem dX8_caughtParts_215 : decode cX8_caughtParts 215 = .ok (.iload 5, 2) := by decide +kernel
theorem dX8_caughtParts_217 : decode cX8_caughtParts 217 = .ok (.iaload, 1) := by decide +kernel
theorem dX8_caughtParts_218 : decode cX8_caughtParts 218 = .ok (.invokestatic 195, 3) := by decide +kernel
theorem dX8_caughtParts_221 : decode cX8_caughtParts 221 = .ok (.iload_n 3, 1) := by decide +kernel
theorem dX8_caughtParts_222 : decode cX8_caughtParts 222 = .ok (.invokevirtual 169, 3) := by decide +kernel
theorem dX8_caughtParts_225 : decode cX8_caughtParts 225 = .ok (.pop, 1) := by decide +kernel
theorem dX8_caughtParts_226 : decode cX8_caughtParts 226 = .ok (.aload_n 0, 1) := by decide +kernel
theorem dX8_caughtParts_227 : decode cX8_caughtParts 227 = .ok (.getfield 43, 3) := by decide +kernel
theorem dX8_caughtParts_230 : decode cX8_caughtParts 230 = .ok (.iload 5, 2) := by decide +kernel
theorem dX8_caughtParts_232 : decode cX8_caughtParts 232 = .ok (.dup2, 1) := by decide +kernel
theorem dX8_caughtParts_233 : decode cX8_caughtParts 233 = .ok (.iaload, 1) := by decide +kernel
theorem dX8_caughtParts_234 : decode cX8_caughtParts 234 = .ok (.iconst 1, 1) := by decide +kernel
theorem dX8_caughtParts_235 : decode cX8_caughtParts 235 = .ok (.iadd, 1) := by decide +kernel
theorem dX8_caughtParts_236 : decode cX8_caughtParts 236 = .ok (.iastore, 1) := by decide +kernel
theorem dX8_caughtParts_237 : decode cX8_caughtParts 237 = .ok (.aload_n 0, 1) := by decide +kernel
theorem dX8_caughtParts_238 : decode cX8_caughtParts 238 = .ok (.getfield 46, 3) := by decide +kernel
theorem dX8_caughtParts_241 : decode cX8_caughtParts 241 = .ok (.iload 5, 2) := by decide +kernel
theorem dX8_caughtParts_243 : decode cX8_caughtParts 243 = .ok (.iconst 1, 1) := by decide +kernel
theorem dX8_caughtParts_244 : decode cX8_caughtParts 244 = .ok (.iadd, 1) := by decide +kernel
theorem dX8_caughtParts_245 : decode cX8_caughtParts 245 = .ok (.aload_n 0, 1) := by decide +kernel
theorem dX8_caughtParts_246 : decode cX8_caughtParts 246 = .ok (.getfield 46, 3) := by decide +kernel
theorem dX8_caughtParts_249 : decode cX8_caughtParts 249 = .ok (.iload 5, 2) := by decide +kernel
theorem dX8_caughtParts_251 : decode cX8_caughtParts 251 = .ok (.iaload, 1) := by decide +kernel
theorem dX8_caughtParts_252 : decode cX8_caughtParts 252 = .ok (.bipush 12, 2) := by decide +kernel
theorem dX8_caughtParts_254 : decode cX8_caughtParts 254 = .ok (.iload 6, 2) := by decide +kernel
theorem dX8_caughtParts_256 : decode cX8_caughtParts 256 = .ok (.invokestatic 179, 3) := by decide +kernel
theorem dX8_caughtParts_259 : decode cX8_caughtParts 259 = .ok (.idiv, 1) := by decide +kernel
theorem dX8_caughtParts_260 : decode cX8_caughtParts 260 = .ok (.imul, 1) := by decide +kernel
theorem dX8_caughtParts_261 : decode cX8_caughtParts 261 = .ok (.iastore, 1) := by decide +kernel
theorem dX8_caughtParts_262 : decode cX8_caughtParts 262 = .ok (.aload_n 0, 1) := by decide +kernel
theorem dX8_caughtParts_263 : decode cX8_caughtParts 263 = .ok (.getfield 43, 3) := by decide +kernel
theorem dX8_caughtParts_266 : decode cX8_caughtParts 266 = .ok (.iload 5, 2) := by decide +kernel
theorem dX8_caughtParts_268 : decode cX8_caughtParts 268 = .ok (.iconst 1, 1) := by decide +kernel
theorem dX8_caughtParts_269 : decode cX8_caughtParts 269 = .ok (.iadd, 1) := by decide +kernel
theorem dX8_caughtParts_270 : decode cX8_caughtParts 270 = .ok (.iconst 0, 1) := by decide +kernel
theorem dX8_caughtParts_271 : decode cX8_caughtParts 271 = .ok (.iastore, 1) := by decide +kernel
theorem dX8_caughtParts_272 : decode cX8_caughtParts 272 = .ok (.iinc 5 1, 3) := by decide +kernel
theorem dX8_caughtParts_275 : decode cX8_caughtParts 275 = .ok (.goto (-255), 3) := by decide +kernel
theorem dX8_caughtParts_278 : decode cX8_caughtParts 278 = .ok (.iload 4, 2) := by decide +kernel
theorem dX8_caughtParts_280 : decode cX8_caughtParts 280 = .ok (.ireturn, 1) := by decide +kernel
theorem dX8_common_0 : decode cX8_common 0 = .ok (.iload_n 0, 1) := by decide +kernel
theorem dX8_common_1 : decode cX8_common 1 = .ok (.istore_n 2, 1) := by decide +kernel
theorem dX8_common_2 : decode cX8_common 2 = .ok (.iload_n 1, 1) := by decide +kernel
theorem dX8_common_3 : decode cX8_common 3 = .ok (.istore_n 3, 1) := by decide +kernel
theorem dX8_common_4 : decode cX8_common 4 = .ok (.iload_n 3, 1) := by decide +kernel
theorem dX8_common_5 : decode cX8_common 5 = .ok (.ifCond .eq 16, 3) := by decide +kernel
theorem dX8_common_8 : decode cX8_common 8 = .ok (.iload_n 2, 1) := by decide +kernel
theorem dX8_common_9 : decode cX8_common 9 = .ok (.iload_n 3, 1) := by decide +kernel
theorem dX8_common_10 : decode cX8_common 10 = .ok (.irem, 1) := by decide +kernel
theorem dX8_common_11 : decode cX8_common 11 = .ok (.istore 4, 2) := by decide +kernel
theorem dX8_common_13 : decode cX8_common 13 = .ok (.iload_n 3, 1) := by decide +kernel
theorem dX8_common_14 : decode cX8_common 14 = .ok (.istore_n 2, 1) := by decide +kernel
theorem dX8_common_15 : decode cX8_common 15 = .ok (.iload 4, 2) := by decide +kernel
theorem dX8_common_17 : decode cX8_common 17 = .ok (.istore_n 3, 1) := by decide +kernel
theorem dX8_common_18 : decode cX8_common 18 = .ok (.goto (-14), 3) := by decide +kernel
theorem dX8_common_21 : decode cX8_common 21 = .ok (.iload_n 2, 1) := by decide +kernel
theorem dX8_common_22 : decode cX8_common 22 = .ok (.ireturn, 1) := by decide +kernel
set_option maxRecDepth 20000 in
theorem ggX8_strays_X8_isWalker : GoodIn wsX8_strays wsX8_isWalker := goodIn_r _ [8, 9, 10, 11, 7, 12, 64, 65, 66, 67, 68, 69, 70, 71, 72, 73, 74, 75, 76, 77, 78, 79, 80, 81, 82, 83, 84, 85, 86, 87, 88, 89, 90, 91] (by decide +kernel) (by decide +kernel)
set_option maxRecDepth 20000 in
theorem gX8_strays_X8_isWalker : GoodIn wsX8_strays (wsV RX8 137 RX8 yX8_isWalker wsX8_isWalker) := goodIn_app (goodIn_of _ (by decide +kernel)) ggX8_strays_X8_isWalker
set_option maxRecDepth 20000 in
theorem ggX8_strays_X8_in : GoodIn wsX8_strays wsX8_in := goodIn_r _ [12] (by decide +kernel) (by decide +kernel)
set_option maxRecDepth 20000 in
theorem gX8_strays_X8_in : GoodIn wsX8_strays (va_wsS RX8 62 yX8_in wsX8_in) := goodIn_app (goodIn_of _ (by decide +kernel)) ggX8_strays_X8_in
set_option maxRecDepth 20000 in
theorem ggX8_strays_X8_caughtParts : GoodIn wsX8_strays wsX8_caughtParts := goodIn_r _ [16, 17, 18, 2, 19, 20, 21, 7, 22, 23, 24, 25, 26, 27, 28, 29, 30, 31, 32, 33, 34, 35, 36, 37, 38, 39, 40, 41, 42, 43, 44, 45, 46, 47, 48, 49, 50, 9, 51, 52, 53, 54, 55, 56, 57, 58, 59, 60, 64, 65, 66, 67, 68, 69, 70, 71, 72, 73, 74, 75, 76, 77, 78, 79, 80, 81, 82, 83, 84, 85, 86, 87, 88, 89, 90, 91] (by decide +kernel) (by decide +kernel)
set_option maxRecDepth 20000 in
theorem gX8_strays_X8_caughtParts : GoodIn wsX8_strays (wsV RX8 200 RX8 yX8_caughtParts wsX8_caughtParts) := goodIn_app (goodIn_of _ (by decide +kernel)) ggX8_strays_X8_caughtParts
set_option maxRecDepth 20000 in
theorem ggX8_strays_X8_twelveTo : GoodIn wsX8_strays wsX8_twelveTo := goodIn_r _ [29] (by decide +kernel) (by decide +kernel)
set_option maxRecDepth 20000 in
theorem gX8_strays_X8_twelveTo : GoodIn wsX8_strays (va_wsS RX8 192 yX8_twelveTo wsX8_twelveTo) := goodIn_app (goodIn_of _ (by decide +kernel)) ggX8_strays_X8_twelveTo
set_option maxRecDepth 20000 in
theorem ggX8_strays_X8_common : GoodIn wsX8_strays wsX8_common := goodIn_r _ [63] (by decide +kernel) (by decide +kernel)
set_option maxRecDepth 20000 in
theorem gX8_strays_X8_common : GoodIn wsX8_strays (va_wsS RX8 204 yX8_common wsX8_common) := goodIn_app (goodIn_of _ (by decide +kernel)) ggX8_strays_X8_common
theorem dX8_strays_0 : decode cX8_strays 0 = .ok (.aload_n 0, 1) := by decide +kernel
theorem dX8_strays_1 : decode cX8_strays 1 = .ok (.iload_n 1, 1) := by decide +kernel
theorem dX8_strays_2 : decode cX8_strays 2 = .ok (.invokevirtual 137, 3) := by decide +kernel
theorem dX8_strays_5 : decode cX8_strays 5 = .ok (.ifCond .ne 5, 3) := by decide +kernel
theorem dX8_strays_8 : decode cX8_strays 8 = .ok (.iconst (-1), 1) := by decide +kernel
theorem dX8_strays_9 : decode cX8_strays 9 = .ok (.ireturn, 1) := by decide +kernel
theorem dX8_strays_10 : decode cX8_strays 10 = .ok (.iload_n 2, 1) := by decide +kernel
theorem dX8_strays_11 : decode cX8_strays 11 = .ok (.i2l, 1) := by decide +kernel
theorem dX8_strays_12 : decode cX8_strays 12 = .ok (.lconst 0, 1) := by decide +kernel
theorem dX8_strays_13 : decode cX8_strays 13 = .ok (.ldc2_w 198, 3) := by decide +kernel
theorem dX8_strays_16 : decode cX8_strays 16 = .ok (.invokestatic 62, 3) := by decide +kernel
theorem dX8_strays_19 : decode cX8_strays 19 = .ok (.ifCond .ne 6, 3) := by decide +kernel
theorem dX8_strays_22 : decode cX8_strays 22 = .ok (.bipush (-2), 2) := by decide +kernel
theorem dX8_strays_24 : decode cX8_strays 24 = .ok (.ireturn, 1) := by decide +kernel
theorem dX8_strays_25 : decode cX8_strays 25 = .ok (.aload_n 0, 1) := by decide +kernel
theorem dX8_strays_26 : decode cX8_strays 26 = .ok (.getfield 31, 3) := by decide +kernel
theorem dX8_strays_29 : decode cX8_strays 29 = .ok (.bipush 8, 2) := by decide +kernel
theorem dX8_strays_31 : decode cX8_strays 31 = .ok (.iload_n 1, 1) := by decide +kernel
theorem dX8_strays_32 : decode cX8_strays 32 = .ok (.iadd, 1) := by decide +kernel
theorem dX8_strays_33 : decode cX8_strays 33 = .ok (.iaload, 1) := by decide +kernel
theorem dX8_strays_34 : decode cX8_strays 34 = .ok (.bipush (-9), 2) := by decide +kernel
theorem dX8_strays_36 : decode cX8_strays 36 = .ok (.if_icmp .eq 6, 3) := by decide +kernel
theorem dX8_strays_39 : decode cX8_strays 39 = .ok (.bipush (-3), 2) := by decide +kernel
theorem dX8_strays_41 : decode cX8_strays 41 = .ok (.ireturn, 1) := by decide +kernel
theorem dX8_strays_42 : decode cX8_strays 42 = .ok (.aload_n 0, 1) := by decide +kernel
theorem dX8_strays_43 : decode cX8_strays 43 = .ok (.iload_n 1, 1) := by decide +kernel
theorem dX8_strays_44 : decode cX8_strays 44 = .ok (.iload_n 2, 1) := by decide +kernel
theorem dX8_strays_45 : decode cX8_strays 45 = .ok (.aload_n 0, 1) := by decide +kernel
theorem dX8_strays_46 : decode cX8_strays 46 = .ok (.getfield 56, 3) := by decide +kernel
theorem dX8_strays_49 : decode cX8_strays 49 = .ok (.invokevirtual 200, 3) := by decide +kernel
theorem dX8_strays_52 : decode cX8_strays 52 = .ok (.istore 4, 2) := by decide +kernel
theorem dX8_strays_54 : decode cX8_strays 54 = .ok (.iload 4, 2) := by decide +kernel
theorem dX8_strays_56 : decode cX8_strays 56 = .ok (.iload_n 2, 1) := by decide +kernel
theorem dX8_strays_57 : decode cX8_strays 57 = .ok (.invokestatic 192, 3) := by decide +kernel
theorem dX8_strays_60 : decode cX8_strays 60 = .ok (.invokestatic 204, 3) := by decide +kernel
theorem dX8_strays_63 : decode cX8_strays 63 = .ok (.istore 5, 2) := by decide +kernel
theorem dX8_strays_65 : decode cX8_strays 65 = .ok (.iload_n 3, 1) := by decide +kernel
theorem dX8_strays_66 : decode cX8_strays 66 = .ok (.ifCond .eq 11, 3) := by decide +kernel
theorem dX8_strays_69 : decode cX8_strays 69 = .ok (.iload 4, 2) := by decide +kernel
theorem dX8_strays_71 : decode cX8_strays 71 = .ok (.iload 5, 2) := by decide +kernel
theorem dX8_strays_73 : decode cX8_strays 73 = .ok (.idiv, 1) := by decide +kernel
theorem dX8_strays_74 : decode cX8_strays 74 = .ok (.goto 10, 3) := by decide +kernel
theorem dX8_strays_77 : decode cX8_strays 77 = .ok (.iload_n 2, 1) := by decide +kernel
theorem dX8_strays_78 : decode cX8_strays 78 = .ok (.invokestatic 192, 3) := by decide +kernel
theorem dX8_strays_81 : decode cX8_strays 81 = .ok (.iload 5, 2) := by decide +kernel
theorem dX8_strays_83 : decode cX8_strays 83 = .ok (.idiv, 1) := by decide +kernel
theorem dX8_strays_84 : decode cX8_strays 84 = .ok (.ireturn, 1) := by decide +kernel
set_option maxRecDepth 20000 in
theorem ggX8_oneMore_X8_isWalker : GoodIn wsX8_oneMore wsX8_isWalker := goodIn_r _ [12, 13, 14, 15, 11, 16, 61, 62, 63, 64, 65, 66, 67, 68, 69, 70, 71, 72, 73, 74, 75, 76, 77, 78, 79, 80, 81, 82, 83, 84, 85, 86, 87, 88] (by decide +kernel) (by decide +kernel)
set_option maxRecDepth 20000 in
theorem gX8_oneMore_X8_isWalker : GoodIn wsX8_oneMore (wsV RX8 137 RX8 yX8_isWalker wsX8_isWalker) := goodIn_app (goodIn_of _ (by decide +kernel)) ggX8_oneMore_X8_isWalker
set_option maxRecDepth 20000 in
theorem ggX8_oneMore_X8_in : GoodIn wsX8_oneMore wsX8_in := goodIn_r _ [16] (by decide +kernel) (by decide +kernel)
set_option maxRecDepth 20000 in
theorem gX8_oneMore_X8_in : GoodIn wsX8_oneMore (va_wsS RX8 62 yX8_in wsX8_in) := goodIn_app (goodIn_of _ (by decide +kernel)) ggX8_oneMore_X8_in
set_option maxRecDepth 20000 in
theorem ggX8_oneMore_X8_trapAt : GoodIn wsX8_oneMore wsX8_trapAt := goodIn_r _ [20, 7, 61, 62, 63, 64, 65, 66, 67, 68, 69, 70, 71, 72, 73, 74, 75, 76, 77, 78, 79, 80, 81, 82, 83, 84, 85, 86, 87, 88] (by decide +kernel) (by decide +kernel)
set_option maxRecDepth 20000 in
theorem gX8_oneMore_X8_trapAt : GoodIn wsX8_oneMore (wsV RX8 157 RX8 yX8_trapAt wsX8_trapAt) := goodIn_app (goodIn_of _ (by decide +kernel)) ggX8_oneMore_X8_trapAt
set_option maxRecDepth 20000 in
theorem ggX8_oneMore_X8_caughtParts : GoodIn wsX8_oneMore wsX8_caughtParts := goodIn_r _ [24, 25, 26, 2, 27, 28, 29, 11, 30, 6, 31, 32, 33, 34, 35, 36, 37, 38, 39, 40, 41, 42, 43, 44, 45, 46, 47, 4, 17, 18, 19, 20, 7, 48, 49, 50, 51, 13, 52, 53, 54, 55, 5, 56, 57, 58, 59, 60, 61, 62, 63, 64, 65, 66, 67, 68, 69, 70, 71, 72, 73, 74, 75, 76, 77, 78, 79, 80, 81, 82, 83, 84, 85, 86, 87, 88] (by decide +kernel) (by decide +kernel)
set_option maxRecDepth 20000 in
theorem gX8_oneMore_X8_caughtParts : GoodIn wsX8_oneMore (wsV RX8 200 RX8 yX8_caughtParts wsX8_caughtParts) := goodIn_app (goodIn_of _ (by decide +kernel)) ggX8_oneMore_X8_caughtParts
theorem dX8_oneMore_0 : decode cX8_oneMore 0 = .ok (.aload_n 0, 1) := by decide +kernel
theorem dX8_oneMore_1 : decode cX8_oneMore 1 = .ok (.iload_n 1, 1) := by decide +kernel
theorem dX8_oneMore_2 : decode cX8_oneMore 2 = .ok (.invokevirtual 137, 3) := by decide +kernel
theorem dX8_oneMore_5 : decode cX8_oneMore 5 = .ok (.ifCond .ne 5, 3) := by decide +kernel
theorem dX8_oneMore_8 : decode cX8_oneMore 8 = .ok (.iconst (-1), 1) := by decide +kernel
theorem dX8_oneMore_9 : decode cX8_oneMore 9 = .ok (.ireturn, 1) := by decide +kernel
theorem dX8_oneMore_10 : decode cX8_oneMore 10 = .ok (.iload_n 2, 1) := by decide +kernel
theorem dX8_oneMore_11 : decode cX8_oneMore 11 = .ok (.i2l, 1) := by decide +kernel
theorem dX8_oneMore_12 : decode cX8_oneMore 12 = .ok (.lconst 1, 1) := by decide +kernel
theorem dX8_oneMore_13 : decode cX8_oneMore 13 = .ok (.ldc2_w 207, 3) := by decide +kernel
theorem dX8_oneMore_16 : decode cX8_oneMore 16 = .ok (.invokestatic 62, 3) := by decide +kernel
theorem dX8_oneMore_19 : decode cX8_oneMore 19 = .ok (.ifCond .ne 6, 3) := by decide +kernel
theorem dX8_oneMore_22 : decode cX8_oneMore 22 = .ok (.bipush (-2), 2) := by decide +kernel
theorem dX8_oneMore_24 : decode cX8_oneMore 24 = .ok (.ireturn, 1) := by decide +kernel
theorem dX8_oneMore_25 : decode cX8_oneMore 25 = .ok (.aload_n 0, 1) := by decide +kernel
theorem dX8_oneMore_26 : decode cX8_oneMore 26 = .ok (.getfield 31, 3) := by decide +kernel
theorem dX8_oneMore_29 : decode cX8_oneMore 29 = .ok (.bipush 8, 2) := by decide +kernel
theorem dX8_oneMore_31 : decode cX8_oneMore 31 = .ok (.iload_n 1, 1) := by decide +kernel
theorem dX8_oneMore_32 : decode cX8_oneMore 32 = .ok (.iadd, 1) := by decide +kernel
theorem dX8_oneMore_33 : decode cX8_oneMore 33 = .ok (.iaload, 1) := by decide +kernel
theorem dX8_oneMore_34 : decode cX8_oneMore 34 = .ok (.bipush (-9), 2) := by decide +kernel
theorem dX8_oneMore_36 : decode cX8_oneMore 36 = .ok (.if_icmp .eq 6, 3) := by decide +kernel
theorem dX8_oneMore_39 : decode cX8_oneMore 39 = .ok (.bipush (-3), 2) := by decide +kernel
theorem dX8_oneMore_41 : decode cX8_oneMore 41 = .ok (.ireturn, 1) := by decide +kernel
theorem dX8_oneMore_42 : decode cX8_oneMore 42 = .ok (.aload_n 0, 1) := by decide +kernel
theorem dX8_oneMore_43 : decode cX8_oneMore 43 = .ok (.getfield 56, 3) := by decide +kernel
theorem dX8_oneMore_46 : decode cX8_oneMore 46 = .ok (.bipush 6, 2) := by decide +kernel
theorem dX8_oneMore_48 : decode cX8_oneMore 48 = .ok (.if_icmp .ne 6, 3) := by decide +kernel
theorem dX8_oneMore_51 : decode cX8_oneMore 51 = .ok (.bipush (-4), 2) := by decide +kernel
theorem dX8_oneMore_53 : decode cX8_oneMore 53 = .ok (.ireturn, 1) := by decide +kernel
theorem dX8_oneMore_54 : decode cX8_oneMore 54 = .ok (.bipush (-9), 2) := by decide +kernel
theorem dX8_oneMore_56 : decode cX8_oneMore 56 = .ok (.istore_n 3, 1) := by decide +kernel
theorem dX8_oneMore_57 : decode cX8_oneMore 57 = .ok (.bipush (-9), 2) := by decide +kernel
theorem dX8_oneMore_59 : decode cX8_oneMore 59 = .ok (.istore 4, 2) := by decide +kernel
theorem dX8_oneMore_61 : decode cX8_oneMore 61 = .ok (.aload_n 0, 1) := by decide +kernel
theorem dX8_oneMore_62 : decode cX8_oneMore 62 = .ok (.getfield 31, 3) := by decide +kernel
theorem dX8_oneMore_65 : decode cX8_oneMore 65 = .ok (.iconst 0, 1) := by decide +kernel
theorem dX8_oneMore_66 : decode cX8_oneMore 66 = .ok (.iaload, 1) := by decide +kernel
theorem dX8_oneMore_67 : decode cX8_oneMore 67 = .ok (.istore 5, 2) := by decide +kernel
theorem dX8_oneMore_69 : decode cX8_oneMore 69 = .ok (.aload_n 0, 1) := by decide +kernel
theorem dX8_oneMore_70 : decode cX8_oneMore 70 = .ok (.getfield 31, 3) := by decide +kernel
theorem dX8_oneMore_73 : decode cX8_oneMore 73 = .ok (.iconst 1, 1) := by decide +kernel
theorem dX8_oneMore_74 : decode cX8_oneMore 74 = .ok (.iaload, 1) := by decide +kernel
theorem dX8_oneMore_75 : decode cX8_oneMore 75 = .ok (.istore 6, 2) := by decide +kernel
theorem dX8_oneMore_77 : decode cX8_oneMore 77 = .ok (.aload_n 0, 1) := by decide +kernel
theorem dX8_oneMore_78 : decode cX8_oneMore 78 = .ok (.getfield 31, 3) := by decide +kernel
theorem dX8_oneMore_81 : decode cX8_oneMore 81 = .ok (.iconst 0, 1) := by decide +kernel
theorem dX8_oneMore_82 : decode cX8_oneMore 82 = .ok (.dup2, 1) := by decide +kernel
theorem dX8_oneMore_83 : decode cX8_oneMore 83 = .ok (.iaload, 1) := by decide +kernel
theorem dX8_oneMore_84 : decode cX8_oneMore 84 = .ok (.iconst 1, 1) := by decide +kernel
theorem dX8_oneMore_85 : decode cX8_oneMore 85 = .ok (.aload_n 0, 1) := by decide +kernel
theorem dX8_oneMore_86 : decode cX8_oneMore 86 = .ok (.getfield 56, 3) := by decide +kernel
theorem dX8_oneMore_89 : decode cX8_oneMore 89 = .ok (.ishl, 1) := by decide +kernel
theorem dX8_oneMore_90 : decode cX8_oneMore 90 = .ok (.ior, 1) := by decide +kernel
theorem dX8_oneMore_91 : decode cX8_oneMore 91 = .ok (.iastore, 1) := by decide +kernel
theorem dX8_oneMore_92 : decode cX8_oneMore 92 = .ok (.aload_n 0, 1) := by decide +kernel
theorem dX8_oneMore_93 : decode cX8_oneMore 93 = .ok (.getfield 22, 3) := by decide +kernel
theorem dX8_oneMore_96 : decode cX8_oneMore 96 = .ok (.aload_n 0, 1) := by decide +kernel
theorem dX8_oneMore_97 : decode cX8_oneMore 97 = .ok (.getfield 56, 3) := by decide +kernel
theorem dX8_oneMore_100 : decode cX8_oneMore 100 = .ok (.iconst 4, 1) := by decide +kernel
theorem dX8_oneMore_101 : decode cX8_oneMore 101 = .ok (.iastore, 1) := by decide +kernel
theorem dX8_oneMore_102 : decode cX8_oneMore 102 = .ok (.aload_n 0, 1) := by decide +kernel
theorem dX8_oneMore_103 : decode cX8_oneMore 103 = .ok (.getfield 25, 3) := by decide +kernel
theorem dX8_oneMore_106 : decode cX8_oneMore 106 = .ok (.aload_n 0, 1) := by decide +kernel
theorem dX8_oneMore_107 : decode cX8_oneMore 107 = .ok (.getfield 56, 3) := by decide +kernel
theorem dX8_oneMore_110 : decode cX8_oneMore 110 = .ok (.iconst 0, 1) := by decide +kernel
theorem dX8_oneMore_111 : decode cX8_oneMore 111 = .ok (.iastore, 1) := by decide +kernel
theorem dX8_oneMore_112 : decode cX8_oneMore 112 = .ok (.iconst 0, 1) := by decide +kernel
theorem dX8_oneMore_113 : decode cX8_oneMore 113 = .ok (.istore 7, 2) := by decide +kernel
theorem dX8_oneMore_115 : decode cX8_oneMore 115 = .ok (.iload 7, 2) := by decide +kernel
theorem dX8_oneMore_117 : decode cX8_oneMore 117 = .ok (.bipush 12, 2) := by decide +kernel
theorem dX8_oneMore_119 : decode cX8_oneMore 119 = .ok (.if_icmp .ge 91, 3) := by decide +kernel
theorem dX8_oneMore_122 : decode cX8_oneMore 122 = .ok (.aload_n 0, 1) := by decide +kernel
theorem dX8_oneMore_123 : decode cX8_oneMore 123 = .ok (.getfield 121, 3) := by decide +kernel
theorem dX8_oneMore_126 : decode cX8_oneMore 126 = .ok (.iload 7, 2) := by decide +kernel
theorem dX8_oneMore_128 : decode cX8_oneMore 128 = .ok (.ishr, 1) := by decide +kernel
theorem dX8_oneMore_129 : decode cX8_oneMore 129 = .ok (.iconst 1, 1) := by decide +kernel
theorem dX8_oneMore_130 : decode cX8_oneMore 130 = .ok (.iand, 1) := by decide +kernel
theorem dX8_oneMore_131 : decode cX8_oneMore 131 = .ok (.ifCond .ne 73, 3) := by decide +kernel
theorem dX8_oneMore_134 : decode cX8_oneMore 134 = .ok (.aload_n 0, 1) := by decide +kernel
theorem dX8_oneMore_135 : decode cX8_oneMore 135 = .ok (.iload 7, 2) := by decide +kernel
theorem dX8_oneMore_137 : decode cX8_oneMore 137 = .ok (.aload_n 0, 1) := by decide +kernel
theorem dX8_oneMore_138 : decode cX8_oneMore 138 = .ok (.getfield 56, 3) := by decide +kernel
theorem dX8_oneMore_141 : decode cX8_oneMore 141 = .ok (.invokevirtual 157, 3) := by decide +kernel
theorem dX8_oneMore_144 : decode cX8_oneMore 144 = .ok (.bipush (-9), 2) := by decide +kernel
theorem dX8_oneMore_146 : decode cX8_oneMore 146 = .ok (.if_icmp .ne 58, 3) := by decide +kernel
theorem dX8_oneMore_149 : decode cX8_oneMore 149 = .ok (.aload_n 0, 1) := by decide +kernel
theorem dX8_oneMore_150 : decode cX8_oneMore 150 = .ok (.getfield 16, 3) := by decide +kernel
theorem dX8_oneMore_153 : decode cX8_oneMore 153 = .ok (.aload_n 0, 1) := by decide +kernel
theorem dX8_oneMore_154 : decode cX8_oneMore 154 = .ok (.getfield 56, 3) := by decide +kernel
theorem dX8_oneMore_157 : decode cX8_oneMore 157 = .ok (.iload 7, 2) := by decide +kernel
theorem dX8_oneMore_159 : decode cX8_oneMore 159 = .ok (.iastore, 1) := by decide +kernel
theorem dX8_oneMore_160 : decode cX8_oneMore 160 = .ok (.aload_n 0, 1) := by decide +kernel
theorem dX8_oneMore_161 : decode cX8_oneMore 161 = .ok (.iload_n 1, 1) := by decide +kernel
theorem dX8_oneMore_162 : decode cX8_oneMore 162 = .ok (.iload_n 2, 1) := by decide +kernel
theorem dX8_oneMore_163 : decode cX8_oneMore 163 = .ok (.aload_n 0, 1) := by decide +kernel
theorem dX8_oneMore_164 : decode cX8_oneMore 164 = .ok (.getfield 56, 3) := by decide +kernel
theorem dX8_oneMore_167 : decode cX8_oneMore 167 = .ok (.iconst 1, 1) := by decide +kernel
theorem dX8_oneMore_168 : decode cX8_oneMore 168 = .ok (.iadd, 1) := by decide +kernel
theorem dX8_oneMore_169 : decode cX8_oneMore 169 = .ok (.invokevirtual 200, 3) := by decide +kernel
theorem dX8_oneMore_172 : decode cX8_oneMore 172 = .ok (.istore 8, 2) := by decide +kernel
theorem dX8_oneMore_174 : decode cX8_oneMore 174 = .ok (.iload 8, 2) := by decide +kernel
theorem dX8_oneMore_176 : decode cX8_oneMore 176 = .ok (.iload 4, 2) := by decide +kernel
theorem dX8_oneMore_178 : decode cX8_oneMore 178 = .ok (.if_icmp .le 8, 3) := by decide +kernel
theorem dX8_oneMore_181 : decode cX8_oneMore 181 = .ok (.iload 7, 2) := by decide +kernel
theorem dX8_oneMore_183 : decode cX8_oneMore 183 = .ok (.goto 4, 3) := by decide +kernel
theorem dX8_oneMore_186 : decode cX8_oneMore 186 = .ok (.iload_n 3, 1) := by decide +kernel
theorem dX8_oneMore_187 : decode cX8_oneMore 187 = .ok (.istore_n 3, 1) := by decide +kernel
theorem dX8_oneMore_188 : decode cX8_oneMore 188 = .ok (.iload 8, 2) := by decide +kernel
theorem dX8_oneMore_190 : decode cX8_oneMore 190 = .ok (.iload 4, 2) := by decide +kernel
theorem dX8_oneMore_192 : decode cX8_oneMore 192 = .ok (.if_icmp .le 8, 3) := by decide +kernel
theorem dX8_oneMore_195 : decode cX8_oneMore 195 = .ok (.iload 8, 2) := by decide +kernel
theorem dX8_oneMore_197 : decode cX8_oneMore 197 = .ok (.goto 5, 3) := by decide +kernel
theorem dX8_oneMore_200 : decode cX8_oneMore 200 = .ok (.iload 4, 2) := by decide +kernel
theorem dX8_oneMore_202 : decode cX8_oneMore 202 = .ok (.istore 4, 2) := by decide +kernel
theorem dX8_oneMore_204 : decode cX8_oneMore 204 = .ok (.iinc 7 1, 3) := by decide +kernel
theorem dX8_oneMore_207 : decode cX8_oneMore 207 = .ok (.goto (-92), 3) := by decide +kernel
theorem dX8_oneMore_210 : decode cX8_oneMore 210 = .ok (.aload_n 0, 1) := by decide +kernel
theorem dX8_oneMore_211 : decode cX8_oneMore 211 = .ok (.getfield 31, 3) := by decide +kernel
theorem dX8_oneMore_214 : decode cX8_oneMore 214 = .ok (.iconst 0, 1) := by decide +kernel
theorem dX8_oneMore_215 : decode cX8_oneMore 215 = .ok (.iload 5, 2) := by decide +kernel
theorem dX8_oneMore_217 : decode cX8_oneMore 217 = .ok (.iastore, 1) := by decide +kernel
theorem dX8_oneMore_218 : decode cX8_oneMore 218 = .ok (.aload_n 0, 1) := by decide +kernel
theorem dX8_oneMore_219 : decode cX8_oneMore 219 = .ok (.getfield 31, 3) := by decide +kernel
theorem dX8_oneMore_222 : decode cX8_oneMore 222 = .ok (.iconst 1, 1) := by decide +kernel
theorem dX8_oneMore_223 : decode cX8_oneMore 223 = .ok (.iload 6, 2) := by decide +kernel
theorem dX8_oneMore_225 : decode cX8_oneMore 225 = .ok (.iastore, 1) := by decide +kernel
theorem dX8_oneMore_226 : decode cX8_oneMore 226 = .ok (.iload_n 3, 1) := by decide +kernel
theorem dX8_oneMore_227 : decode cX8_oneMore 227 = .ok (.ireturn, 1) := by decide +kernel
theorem dX8_seed_0 : decode cX8_seed 0 = .ok (.aload_n 0, 1) := by decide +kernel
theorem dX8_seed_1 : decode cX8_seed 1 = .ok (.getfield 209, 3) := by decide +kernel
theorem dX8_seed_4 : decode cX8_seed 4 = .ok (.lstore_n 3, 1) := by decide +kernel
theorem dX8_seed_5 : decode cX8_seed 5 = .ok (.aload_n 0, 1) := by decide +kernel
theorem dX8_seed_6 : decode cX8_seed 6 = .ok (.lload_n 1, 1) := by decide +kernel
theorem dX8_seed_7 : decode cX8_seed 7 = .ok (.putfield 209, 3) := by decide +kernel
theorem dX8_seed_10 : decode cX8_seed 10 = .ok (.lload_n 3, 1) := by decide +kernel
theorem dX8_seed_11 : decode cX8_seed 11 = .ok (.lreturn, 1) := by decide +kernel
set_option maxRecDepth 20000 in
theorem ggX8_night_X8_in : GoodIn wsX8_night wsX8_in := goodIn_r _ [11] (by decide +kernel) (by decide +kernel)
set_option maxRecDepth 20000 in
theorem gX8_night_X8_in : GoodIn wsX8_night (va_wsS RX8 62 yX8_in wsX8_in) := goodIn_app (goodIn_of _ (by decide +kernel)) ggX8_night_X8_in
set_option maxRecDepth 20000 in
theorem ggX8_night_X8_nearTo : GoodIn wsX8_night wsX8_nearTo := goodIn_r _ [15, 16, 17, 18, 10, 19, 51, 52, 53, 54, 55, 56, 57, 58, 59, 60, 61, 62, 63, 64, 65, 66, 67, 68, 69, 70, 71, 72, 73, 74, 75, 76, 77, 78] (by decide +kernel) (by decide +kernel)
set_option maxRecDepth 20000 in
theorem gX8_night_X8_nearTo : GoodIn wsX8_night (wsV RX8 146 RX8 yX8_nearTo wsX8_nearTo) := goodIn_app (goodIn_of _ (by decide +kernel)) ggX8_night_X8_nearTo
set_option maxRecDepth 20000 in
theorem ggX8_night_X8_ones : GoodIn wsX8_night wsX8_ones := goodIn_r _ [22] (by decide +kernel) (by decide +kernel)
set_option maxRecDepth 20000 in
theorem gX8_night_X8_ones : GoodIn wsX8_night (va_wsS RX8 179 yX8_ones wsX8_ones) := goodIn_app (goodIn_of _ (by decide +kernel)) ggX8_night_X8_ones
set_option maxRecDepth 20000 in
theorem ggX8_night_X8_ofCells : GoodIn wsX8_night wsX8_ofCells := goodIn_r _ [25] (by decide +kernel) (by decide +kernel)
set_option maxRecDepth 20000 in
theorem gX8_night_X8_ofCells : GoodIn wsX8_night (va_wsS RX8 195 yX8_ofCells wsX8_ofCells) := goodIn_app (goodIn_of _ (by decide +kernel)) ggX8_night_X8_ofCells
set_option maxRecDepth 20000 in
theorem ggX8_night_X8_stepOn : GoodIn wsX8_night wsX8_stepOn := goodIn_r _ [29, 2, 30, 31, 32, 33, 34, 10, 35, 36, 37, 38, 39, 40, 3, 41, 42, 43, 44, 45, 46, 47, 48, 49, 50, 51, 52, 53, 54, 55, 56, 57, 58, 59, 60, 61, 62, 63, 64, 65, 66, 67, 68, 69, 70, 71, 72, 73, 74, 75, 76, 77, 78] (by decide +kernel) (by decide +kernel)
set_option maxRecDepth 20000 in
theorem gX8_night_X8_stepOn : GoodIn wsX8_night (wsV RX8 169 RX8 yX8_stepOn wsX8_stepOn) := goodIn_app (goodIn_of _ (by decide +kernel)) ggX8_night_X8_stepOn
theorem dX8_night_0 : decode cX8_night 0 = .ok (.iload_n 1, 1) := by decide +kernel
theorem dX8_night_1 : decode cX8_night 1 = .ok (.i2l, 1) := by decide +kernel
theorem dX8_night_2 : decode cX8_night 2 = .ok (.lconst 1, 1) := by decide +kernel
theorem dX8_night_3 : decode cX8_night 3 = .ok (.ldc2_w 213, 3) := by decide +kernel
theorem dX8_night_6 : decode cX8_night 6 = .ok (.invokestatic 62, 3) := by decide +kernel
theorem dX8_night_9 : decode cX8_night 9 = .ok (.ifCond .ne 6, 3) := by decide +kernel
theorem dX8_night_12 : decode cX8_night 12 = .ok (.bipush (-2), 2) := by decide +kernel
theorem dX8_night_14 : decode cX8_night 14 = .ok (.ireturn, 1) := by decide +kernel
theorem dX8_night_15 : decode cX8_night 15 = .ok (.iconst 0, 1) := by decide +kernel
theorem dX8_night_16 : decode cX8_night 16 = .ok (.istore_n 2, 1) := by decide +kernel
theorem dX8_night_17 : decode cX8_night 17 = .ok (.iload_n 2, 1) := by decide +kernel
theorem dX8_night_18 : decode cX8_night 18 = .ok (.bipush 12, 2) := by decide +kernel
theorem dX8_night_20 : decode cX8_night 20 = .ok (.if_icmp .ge 24, 3) := by decide +kernel
theorem dX8_night_23 : decode cX8_night 23 = .ok (.aload_n 0, 1) := by decide +kernel
theorem dX8_night_24 : decode cX8_night 24 = .ok (.getfield 31, 3) := by decide +kernel
theorem dX8_night_27 : decode cX8_night 27 = .ok (.bipush 12, 2) := by decide +kernel
theorem dX8_night_29 : decode cX8_night 29 = .ok (.iload_n 2, 1) := by decide +kernel
theorem dX8_night_30 : decode cX8_night 30 = .ok (.iadd, 1) := by decide +kernel
theorem dX8_night_31 : decode cX8_night 31 = .ok (.aload_n 0, 1) := by decide +kernel
theorem dX8_night_32 : decode cX8_night 32 = .ok (.getfield 31, 3) := by decide +kernel
theorem dX8_night_35 : decode cX8_night 35 = .ok (.iload_n 2, 1) := by decide +kernel
theorem dX8_night_36 : decode cX8_night 36 = .ok (.iaload, 1) := by decide +kernel
theorem dX8_night_37 : decode cX8_night 37 = .ok (.iastore, 1) := by decide +kernel
theorem dX8_night_38 : decode cX8_night 38 = .ok (.iinc 2 1, 3) := by decide +kernel
theorem dX8_night_41 : decode cX8_night 41 = .ok (.goto (-24), 3) := by decide +kernel
theorem dX8_night_44 : decode cX8_night 44 = .ok (.iconst 0, 1) := by decide +kernel
theorem dX8_night_45 : decode cX8_night 45 = .ok (.istore_n 2, 1) := by decide +kernel
theorem dX8_night_46 : decode cX8_night 46 = .ok (.iload_n 2, 1) := by decide +kernel
theorem dX8_night_47 : decode cX8_night 47 = .ok (.iload_n 1, 1) := by decide +kernel
theorem dX8_night_48 : decode cX8_night 48 = .ok (.if_icmp .ge 110, 3) := by decide +kernel
theorem dX8_night_51 : decode cX8_night 51 = .ok (.iconst 0, 1) := by decide +kernel
theorem dX8_night_52 : decode cX8_night 52 = .ok (.istore_n 3, 1) := by decide +kernel
theorem dX8_night_53 : decode cX8_night 53 = .ok (.iload_n 3, 1) := by decide +kernel
theorem dX8_night_54 : decode cX8_night 54 = .ok (.aload_n 0, 1) := by decide +kernel
theorem dX8_night_55 : decode cX8_night 55 = .ok (.getfield 118, 3) := by decide +kernel
theorem dX8_night_58 : decode cX8_night 58 = .ok (.if_icmp .ge 94, 3) := by decide +kernel
theorem dX8_night_61 : decode cX8_night 61 = .ok (.aload_n 0, 1) := by decide +kernel
theorem dX8_night_62 : decode cX8_night 62 = .ok (.getfield 31, 3) := by decide +kernel
theorem dX8_night_65 : decode cX8_night 65 = .ok (.bipush 20, 2) := by decide +kernel
theorem dX8_night_67 : decode cX8_night 67 = .ok (.iload_n 3, 1) := by decide +kernel
theorem dX8_night_68 : decode cX8_night 68 = .ok (.iadd, 1) := by decide +kernel
theorem dX8_night_69 : decode cX8_night 69 = .ok (.iaload, 1) := by decide +kernel
theorem dX8_night_70 : decode cX8_night 70 = .ok (.bipush (-9), 2) := by decide +kernel
theorem dX8_night_72 : decode cX8_night 72 = .ok (.if_icmp .ne 19, 3) := by decide +kernel
theorem dX8_night_75 : decode cX8_night 75 = .ok (.aload_n 0, 1) := by decide +kernel
theorem dX8_night_76 : decode cX8_night 76 = .ok (.aload_n 0, 1) := by decide +kernel
theorem dX8_night_77 : decode cX8_night 77 = .ok (.getfield 31, 3) := by decide +kernel
theorem dX8_night_80 : decode cX8_night 80 = .ok (.bipush 16, 2) := by decide +kernel
theorem dX8_night_82 : decode cX8_night 82 = .ok (.iload_n 3, 1) := by decide +kernel
theorem dX8_night_83 : decode cX8_night 83 = .ok (.iadd, 1) := by decide +kernel
theorem dX8_night_84 : decode cX8_night 84 = .ok (.iaload, 1) := by decide +kernel
theorem dX8_night_85 : decode cX8_night 85 = .ok (.invokevirtual 146, 3) := by decide +kernel
theorem dX8_night_88 : decode cX8_night 88 = .ok (.goto 4, 3) := by decide +kernel
theorem dX8_night_91 : decode cX8_night 91 = .ok (.iconst 0, 1) := by decide +kernel
theorem dX8_night_92 : decode cX8_night 92 = .ok (.istore 4, 2) := by decide +kernel
theorem dX8_night_94 : decode cX8_night 94 = .ok (.iload 4, 2) := by decide +kernel
theorem dX8_night_96 : decode cX8_night 96 = .ok (.ifCond .eq 50, 3) := by decide +kernel
theorem dX8_night_99 : decode cX8_night 99 = .ok (.aload_n 0, 1) := by decide +kernel
theorem dX8_night_100 : decode cX8_night 100 = .ok (.aload_n 0, 1) := by decide +kernel
theorem dX8_night_101 : decode cX8_night 101 = .ok (.getfield 209, 3) := by decide +kernel
theorem dX8_night_104 : decode cX8_night 104 = .ok (.ldc2_w 215, 3) := by decide +kernel
theorem dX8_night_107 : decode cX8_night 107 = .ok (.lmul, 1) := by decide +kernel
theorem dX8_night_108 : decode cX8_night 108 = .ok (.ldc2_w 217, 3) := by decide +kernel
theorem dX8_night_111 : decode cX8_night 111 = .ok (.ladd, 1) := by decide +kernel
theorem dX8_night_112 : decode cX8_night 112 = .ok (.putfield 209, 3) := by decide +kernel
theorem dX8_night_115 : decode cX8_night 115 = .ok (.aload_n 0, 1) := by decide +kernel
theorem dX8_night_116 : decode cX8_night 116 = .ok (.iconst 1, 1) := by decide +kernel
theorem dX8_night_117 : decode cX8_night 117 = .ok (.iload_n 3, 1) := by decide +kernel
theorem dX8_night_118 : decode cX8_night 118 = .ok (.iload 4, 2) := by decide +kernel
theorem dX8_night_120 : decode cX8_night 120 = .ok (.aload_n 0, 1) := by decide +kernel
theorem dX8_night_121 : decode cX8_night 121 = .ok (.getfield 209, 3) := by decide +kernel
theorem dX8_night_124 : decode cX8_night 124 = .ok (.bipush 33, 2) := by decide +kernel
theorem dX8_night_126 : decode cX8_night 126 = .ok (.lushr, 1) := by decide +kernel
theorem dX8_night_127 : decode cX8_night 127 = .ok (.iload 4, 2) := by decide +kernel
theorem dX8_night_129 : decode cX8_night 129 = .ok (.invokestatic 179, 3) := by decide +kernel
theorem dX8_night_132 : decode cX8_night 132 = .ok (.i2l, 1) := by decide +kernel
theorem dX8_night_133 : decode cX8_night 133 = .ok (.lrem, 1) := by decide +kernel
theorem dX8_night_134 : decode cX8_night 134 = .ok (.l2i, 1) := by decide +kernel
theorem dX8_night_135 : decode cX8_night 135 = .ok (.invokestatic 195, 3) := by decide +kernel
theorem dX8_night_138 : decode cX8_night 138 = .ok (.aload_n 0, 1) := by decide +kernel
theorem dX8_night_139 : decode cX8_night 139 = .ok (.getfield 56, 3) := by decide +kernel
theorem dX8_night_142 : decode cX8_night 142 = .ok (.invokevirtual 169, 3) := by decide +kernel
theorem dX8_night_145 : decode cX8_night 145 = .ok (.pop, 1) := by decide +kernel
theorem dX8_night_146 : decode cX8_night 146 = .ok (.iinc 3 1, 3) := by decide +kernel
theorem dX8_night_149 : decode cX8_night 149 = .ok (.goto (-96), 3) := by decide +kernel
theorem dX8_night_152 : decode cX8_night 152 = .ok (.iinc 2 1, 3) := by decide +kernel
theorem dX8_night_155 : decode cX8_night 155 = .ok (.goto (-109), 3) := by decide +kernel
theorem dX8_night_158 : decode cX8_night 158 = .ok (.iconst 0, 1) := by decide +kernel
theorem dX8_night_159 : decode cX8_night 159 = .ok (.istore_n 2, 1) := by decide +kernel
theorem dX8_night_160 : decode cX8_night 160 = .ok (.iconst 0, 1) := by decide +kernel
theorem dX8_night_161 : decode cX8_night 161 = .ok (.istore_n 3, 1) := by decide +kernel
theorem dX8_night_162 : decode cX8_night 162 = .ok (.iload_n 3, 1) := by decide +kernel
theorem dX8_night_163 : decode cX8_night 163 = .ok (.aload_n 0, 1) := by decide +kernel
theorem dX8_night_164 : decode cX8_night 164 = .ok (.getfield 118, 3) := by decide +kernel
theorem dX8_night_167 : decode cX8_night 167 = .ok (.if_icmp .ge 33, 3) := by decide +kernel
theorem dX8_night_170 : decode cX8_night 170 = .ok (.iload_n 2, 1) := by decide +kernel
theorem dX8_night_171 : decode cX8_night 171 = .ok (.aload_n 0, 1) := by decide +kernel
theorem dX8_night_172 : decode cX8_night 172 = .ok (.getfield 31, 3) := by decide +kernel
theorem dX8_night_175 : decode cX8_night 175 = .ok (.bipush 20, 2) := by decide +kernel
theorem dX8_night_177 : decode cX8_night 177 = .ok (.iload_n 3, 1) := by decide +kernel
theorem dX8_night_178 : decode cX8_night 178 = .ok (.iadd, 1) := by decide +kernel
theorem dX8_night_179 : decode cX8_night 179 = .ok (.iaload, 1) := by decide +kernel
theorem dX8_night_180 : decode cX8_night 180 = .ok (.bipush (-9), 2) := by decide +kernel
theorem dX8_night_182 : decode cX8_night 182 = .ok (.if_icmp .eq 9, 3) := by decide +kernel
theorem dX8_night_185 : decode cX8_night 185 = .ok (.iconst 1, 1) := by decide +kernel
theorem dX8_night_186 : decode cX8_night 186 = .ok (.iload_n 3, 1) := by decide +kernel
theorem dX8_night_187 : decode cX8_night 187 = .ok (.ishl, 1) := by decide +kernel
theorem dX8_night_188 : decode cX8_night 188 = .ok (.goto 4, 3) := by decide +kernel
theorem dX8_night_191 : decode cX8_night 191 = .ok (.iconst 0, 1) := by decide +kernel
theorem dX8_night_192 : decode cX8_night 192 = .ok (.ior, 1) := by decide +kernel
theorem dX8_night_193 : decode cX8_night 193 = .ok (.istore_n 2, 1) := by decide +kernel
theorem dX8_night_194 : decode cX8_night 194 = .ok (.iinc 3 1, 3) := by decide +kernel
theorem dX8_night_197 : decode cX8_night 197 = .ok (.goto (-35), 3) := by decide +kernel
theorem dX8_night_200 : decode cX8_night 200 = .ok (.iload_n 2, 1) := by decide +kernel
theorem dX8_night_201 : decode cX8_night 201 = .ok (.ireturn, 1) := by decide +kernel
theorem dX8_freeMany_0 : decode cX8_freeMany 0 = .ok (.iconst 0, 1) := by decide +kernel
theorem dX8_freeMany_1 : decode cX8_freeMany 1 = .ok (.istore_n 1, 1) := by decide +kernel
theorem dX8_freeMany_2 : decode cX8_freeMany 2 = .ok (.iconst 0, 1) := by decide +kernel
theorem dX8_freeMany_3 : decode cX8_freeMany 3 = .ok (.istore_n 2, 1) := by decide +kernel
theorem dX8_freeMany_4 : decode cX8_freeMany 4 = .ok (.iload_n 2, 1) := by decide +kernel
theorem dX8_freeMany_5 : decode cX8_freeMany 5 = .ok (.aload_n 0, 1) := by decide +kernel
theorem dX8_freeMany_6 : decode cX8_freeMany 6 = .ok (.getfield 118, 3) := by decide +kernel
theorem dX8_freeMany_9 : decode cX8_freeMany 9 = .ok (.if_icmp .ge 31, 3) := by decide +kernel
theorem dX8_freeMany_12 : decode cX8_freeMany 12 = .ok (.iload_n 1, 1) := by decide +kernel
theorem dX8_freeMany_13 : decode cX8_freeMany 13 = .ok (.aload_n 0, 1) := by decide +kernel
theorem dX8_freeMany_14 : decode cX8_freeMany 14 = .ok (.getfield 31, 3) := by decide +kernel
theorem dX8_freeMany_17 : decode cX8_freeMany 17 = .ok (.bipush 8, 2) := by decide +kernel
theorem dX8_freeMany_19 : decode cX8_freeMany 19 = .ok (.iload_n 2, 1) := by decide +kernel
theorem dX8_freeMany_20 : decode cX8_freeMany 20 = .ok (.iadd, 1) := by decide +kernel
theorem dX8_freeMany_21 : decode cX8_freeMany 21 = .ok (.iaload, 1) := by decide +kernel
theorem dX8_freeMany_22 : decode cX8_freeMany 22 = .ok (.bipush (-9), 2) := by decide +kernel
theorem dX8_freeMany_24 : decode cX8_freeMany 24 = .ok (.if_icmp .ne 7, 3) := by decide +kernel
theorem dX8_freeMany_27 : decode cX8_freeMany 27 = .ok (.iconst 1, 1) := by decide +kernel
theorem dX8_freeMany_28 : decode cX8_freeMany 28 = .ok (.goto 4, 3) := by decide +kernel
theorem dX8_freeMany_31 : decode cX8_freeMany 31 = .ok (.iconst 0, 1) := by decide +kernel
theorem dX8_freeMany_32 : decode cX8_freeMany 32 = .ok (.iadd, 1) := by decide +kernel
theorem dX8_freeMany_33 : decode cX8_freeMany 33 = .ok (.istore_n 1, 1) := by decide +kernel
theorem dX8_freeMany_34 : decode cX8_freeMany 34 = .ok (.iinc 2 1, 3) := by decide +kernel
theorem dX8_freeMany_37 : decode cX8_freeMany 37 = .ok (.goto (-33), 3) := by decide +kernel
theorem dX8_freeMany_40 : decode cX8_freeMany 40 = .ok (.iload_n 1, 1) := by decide +kernel
theorem dX8_freeMany_41 : decode cX8_freeMany 41 = .ok (.ireturn, 1) := by decide +kernel
set_option maxRecDepth 20000 in
theorem ggX8_keep_X8_in : GoodIn wsX8_keep wsX8_in := goodIn_r _ [8] (by decide +kernel) (by decide +kernel)
set_option maxRecDepth 20000 in
theorem gX8_keep_X8_in : GoodIn wsX8_keep (va_wsS RX8 62 yX8_in wsX8_in) := goodIn_app (goodIn_of _ (by decide +kernel)) ggX8_keep_X8_in
set_option maxRecDepth 20000 in
theorem ggX8_keep_X8_freeMany : GoodIn wsX8_keep wsX8_freeMany := goodIn_r _ [12, 13, 3, 14, 15, 16, 17, 18, 19, 20, 21, 22, 23, 24, 25, 26, 27, 28, 29, 30, 31, 32, 33, 34, 35, 36, 37, 38, 39, 40, 41] (by decide +kernel) (by decide +kernel)
set_option maxRecDepth 20000 in
theorem gX8_keep_X8_freeMany : GoodIn wsX8_keep (wsV RX8 219 RX8 yX8_freeMany wsX8_freeMany) := goodIn_app (goodIn_of _ (by decide +kernel)) ggX8_keep_X8_freeMany
theorem dX8_keep_0 : decode cX8_keep 0 = .ok (.iload_n 1, 1) := by decide +kernel
theorem dX8_keep_1 : decode cX8_keep 1 = .ok (.i2l, 1) := by decide +kernel
theorem dX8_keep_2 : decode cX8_keep 2 = .ok (.lconst 0, 1) := by decide +kernel
theorem dX8_keep_3 : decode cX8_keep 3 = .ok (.lconst 1, 1) := by decide +kernel
theorem dX8_keep_4 : decode cX8_keep 4 = .ok (.invokestatic 62, 3) := by decide +kernel
theorem dX8_keep_7 : decode cX8_keep 7 = .ok (.ifCond .ne 5, 3) := by decide +kernel
theorem dX8_keep_10 : decode cX8_keep 10 = .ok (.iconst (-1), 1) := by decide +kernel
theorem dX8_keep_11 : decode cX8_keep 11 = .ok (.ireturn, 1) := by decide +kernel
theorem dX8_keep_12 : decode cX8_keep 12 = .ok (.aload_n 0, 1) := by decide +kernel
theorem dX8_keep_13 : decode cX8_keep 13 = .ok (.getfield 49, 3) := by decide +kernel
theorem dX8_keep_16 : decode cX8_keep 16 = .ok (.iload_n 1, 1) := by decide +kernel
theorem dX8_keep_17 : decode cX8_keep 17 = .ok (.iconst 1, 1) := by decide +kernel
theorem dX8_keep_18 : decode cX8_keep 18 = .ok (.bastore, 1) := by decide +kernel
theorem dX8_keep_19 : decode cX8_keep 19 = .ok (.iconst 0, 1) := by decide +kernel
theorem dX8_keep_20 : decode cX8_keep 20 = .ok (.istore_n 2, 1) := by decide +kernel
theorem dX8_keep_21 : decode cX8_keep 21 = .ok (.iload_n 2, 1) := by decide +kernel
theorem dX8_keep_22 : decode cX8_keep 22 = .ok (.bipush 12, 2) := by decide +kernel
theorem dX8_keep_24 : decode cX8_keep 24 = .ok (.if_icmp .ge 26, 3) := by decide +kernel
theorem dX8_keep_27 : decode cX8_keep 27 = .ok (.aload_n 0, 1) := by decide +kernel
theorem dX8_keep_28 : decode cX8_keep 28 = .ok (.getfield 53, 3) := by decide +kernel
theorem dX8_keep_31 : decode cX8_keep 31 = .ok (.bipush 13, 2) := by decide +kernel
theorem dX8_keep_33 : decode cX8_keep 33 = .ok (.iload_n 1, 1) := by decide +kernel
theorem dX8_keep_34 : decode cX8_keep 34 = .ok (.imul, 1) := by decide +kernel
theorem dX8_keep_35 : decode cX8_keep 35 = .ok (.iload_n 2, 1) := by decide +kernel
theorem dX8_keep_36 : decode cX8_keep 36 = .ok (.iadd, 1) := by decide +kernel
theorem dX8_keep_37 : decode cX8_keep 37 = .ok (.aload_n 0, 1) := by decide +kernel
theorem dX8_keep_38 : decode cX8_keep 38 = .ok (.getfield 31, 3) := by decide +kernel
theorem dX8_keep_41 : decode cX8_keep 41 = .ok (.iload_n 2, 1) := by decide +kernel
theorem dX8_keep_42 : decode cX8_keep 42 = .ok (.iaload, 1) := by decide +kernel
theorem dX8_keep_43 : decode cX8_keep 43 = .ok (.iastore, 1) := by decide +kernel
theorem dX8_keep_44 : decode cX8_keep 44 = .ok (.iinc 2 1, 3) := by decide +kernel
theorem dX8_keep_47 : decode cX8_keep 47 = .ok (.goto (-26), 3) := by decide +kernel
theorem dX8_keep_50 : decode cX8_keep 50 = .ok (.aload_n 0, 1) := by decide +kernel
theorem dX8_keep_51 : decode cX8_keep 51 = .ok (.getfield 53, 3) := by decide +kernel
theorem dX8_keep_54 : decode cX8_keep 54 = .ok (.bipush 13, 2) := by decide +kernel
theorem dX8_keep_56 : decode cX8_keep 56 = .ok (.iload_n 1, 1) := by decide +kernel
theorem dX8_keep_57 : decode cX8_keep 57 = .ok (.imul, 1) := by decide +kernel
theorem dX8_keep_58 : decode cX8_keep 58 = .ok (.bipush 12, 2) := by decide +kernel
theorem dX8_keep_60 : decode cX8_keep 60 = .ok (.iadd, 1) := by decide +kernel
theorem dX8_keep_61 : decode cX8_keep 61 = .ok (.aload_n 0, 1) := by decide +kernel
theorem dX8_keep_62 : decode cX8_keep 62 = .ok (.getfield 124, 3) := by decide +kernel
theorem dX8_keep_65 : decode cX8_keep 65 = .ok (.ifCond .eq 7, 3) := by decide +kernel
theorem dX8_keep_68 : decode cX8_keep 68 = .ok (.iconst 1, 1) := by decide +kernel
theorem dX8_keep_69 : decode cX8_keep 69 = .ok (.goto 4, 3) := by decide +kernel
theorem dX8_keep_72 : decode cX8_keep 72 = .ok (.iconst 0, 1) := by decide +kernel
theorem dX8_keep_73 : decode cX8_keep 73 = .ok (.iastore, 1) := by decide +kernel
theorem dX8_keep_74 : decode cX8_keep 74 = .ok (.aload_n 0, 1) := by decide +kernel
theorem dX8_keep_75 : decode cX8_keep 75 = .ok (.invokevirtual 219, 3) := by decide +kernel
theorem dX8_keep_78 : decode cX8_keep 78 = .ok (.ireturn, 1) := by decide +kernel
set_option maxRecDepth 20000 in
theorem ggX8_again_X8_in : GoodIn wsX8_again wsX8_in := goodIn_r _ [9] (by decide +kernel) (by decide +kernel)
set_option maxRecDepth 20000 in
theorem gX8_again_X8_in : GoodIn wsX8_again (va_wsS RX8 62 yX8_in wsX8_in) := goodIn_app (goodIn_of _ (by decide +kernel)) ggX8_again_X8_in
set_option maxRecDepth 20000 in
theorem ggX8_again_X8_freeMany : GoodIn wsX8_again wsX8_freeMany := goodIn_r _ [13, 14, 2, 15, 16, 17, 18, 19, 20, 21, 22, 23, 24, 25, 26, 27, 28, 29, 30, 31, 32, 33, 34, 35, 36, 37, 38, 39, 40, 41, 42] (by decide +kernel) (by decide +kernel)
set_option maxRecDepth 20000 in
theorem gX8_again_X8_freeMany : GoodIn wsX8_again (wsV RX8 219 RX8 yX8_freeMany wsX8_freeMany) := goodIn_app (goodIn_of _ (by decide +kernel)) ggX8_again_X8_freeMany
theorem dX8_again_0 : decode cX8_again 0 = .ok (.iload_n 1, 1) := by decide +kernel
theorem dX8_again_1 : decode cX8_again 1 = .ok (.i2l, 1) := by decide +kernel
theorem dX8_again_2 : decode cX8_again 2 = .ok (.lconst 0, 1) := by decide +kernel
theorem dX8_again_3 : decode cX8_again 3 = .ok (.lconst 1, 1) := by decide +kernel
theorem dX8_again_4 : decode cX8_again 4 = .ok (.invokestatic 62, 3) := by decide +kernel
theorem dX8_again_7 : decode cX8_again 7 = .ok (.ifCond .ne 5, 3) := by decide +kernel
theorem dX8_again_10 : decode cX8_again 10 = .ok (.iconst (-1), 1) := by decide +kernel
theorem dX8_again_11 : decode cX8_again 11 = .ok (.ireturn, 1) := by decide +kernel
theorem dX8_again_12 : decode cX8_again 12 = .ok (.aload_n 0, 1) := by decide +kernel
theorem dX8_again_13 : decode cX8_again 13 = .ok (.getfield 49, 3) := by decide +kernel
theorem dX8_again_16 : decode cX8_again 16 = .ok (.iload_n 1, 1) := by decide +kernel
theorem dX8_again_17 : decode cX8_again 17 = .ok (.baload, 1) := by decide +kernel
theorem dX8_again_18 : decode cX8_again 18 = .ok (.ifCond .ne 6, 3) := by decide +kernel
theorem dX8_again_21 : decode cX8_again 21 = .ok (.bipush (-3), 2) := by decide +kernel
theorem dX8_again_23 : decode cX8_again 23 = .ok (.ireturn, 1) := by decide +kernel
theorem dX8_again_24 : decode cX8_again 24 = .ok (.iconst 0, 1) := by decide +kernel
theorem dX8_again_25 : decode cX8_again 25 = .ok (.istore_n 2, 1) := by decide +kernel
theorem dX8_again_26 : decode cX8_again 26 = .ok (.iload_n 2, 1) := by decide +kernel
theorem dX8_again_27 : decode cX8_again 27 = .ok (.bipush 12, 2) := by decide +kernel
theorem dX8_again_29 : decode cX8_again 29 = .ok (.if_icmp .ge 26, 3) := by decide +kernel
theorem dX8_again_32 : decode cX8_again 32 = .ok (.aload_n 0, 1) := by decide +kernel
theorem dX8_again_33 : decode cX8_again 33 = .ok (.getfield 31, 3) := by decide +kernel
theorem dX8_again_36 : decode cX8_again 36 = .ok (.iload_n 2, 1) := by decide +kernel
theorem dX8_again_37 : decode cX8_again 37 = .ok (.aload_n 0, 1) := by decide +kernel
theorem dX8_again_38 : decode cX8_again 38 = .ok (.getfield 53, 3) := by decide +kernel
theorem dX8_again_41 : decode cX8_again 41 = .ok (.bipush 13, 2) := by decide +kernel
theorem dX8_again_43 : decode cX8_again 43 = .ok (.iload_n 1, 1) := by decide +kernel
theorem dX8_again_44 : decode cX8_again 44 = .ok (.imul, 1) := by decide +kernel
theorem dX8_again_45 : decode cX8_again 45 = .ok (.iload_n 2, 1) := by decide +kernel
theorem dX8_again_46 : decode cX8_again 46 = .ok (.iadd, 1) := by decide +kernel
theorem dX8_again_47 : decode cX8_again 47 = .ok (.iaload, 1) := by decide +kernel
theorem dX8_again_48 : decode cX8_again 48 = .ok (.iastore, 1) := by decide +kernel
theorem dX8_again_49 : decode cX8_again 49 = .ok (.iinc 2 1, 3) := by decide +kernel
theorem dX8_again_52 : decode cX8_again 52 = .ok (.goto (-26), 3) := by decide +kernel
theorem dX8_again_55 : decode cX8_again 55 = .ok (.aload_n 0, 1) := by decide +kernel
theorem dX8_again_56 : decode cX8_again 56 = .ok (.aload_n 0, 1) := by decide +kernel
theorem dX8_again_57 : decode cX8_again 57 = .ok (.getfield 53, 3) := by decide +kernel
theorem dX8_again_60 : decode cX8_again 60 = .ok (.bipush 13, 2) := by decide +kernel
theorem dX8_again_62 : decode cX8_again 62 = .ok (.iload_n 1, 1) := by decide +kernel
theorem dX8_again_63 : decode cX8_again 63 = .ok (.imul, 1) := by decide +kernel
theorem dX8_again_64 : decode cX8_again 64 = .ok (.bipush 12, 2) := by decide +kernel
theorem dX8_again_66 : decode cX8_again 66 = .ok (.iadd, 1) := by decide +kernel
theorem dX8_again_67 : decode cX8_again 67 = .ok (.iaload, 1) := by decide +kernel
theorem dX8_again_68 : decode cX8_again 68 = .ok (.iconst 1, 1) := by decide +kernel
theorem dX8_again_69 : decode cX8_again 69 = .ok (.if_icmp .ne 7, 3) := by decide +kernel
theorem dX8_again_72 : decode cX8_again 72 = .ok (.iconst 1, 1) := by decide +kernel
theorem dX8_again_73 : decode cX8_again 73 = .ok (.goto 4, 3) := by decide +kernel
theorem dX8_again_76 : decode cX8_again 76 = .ok (.iconst 0, 1) := by decide +kernel
theorem dX8_again_77 : decode cX8_again 77 = .ok (.putfield 124, 3) := by decide +kernel
theorem dX8_again_80 : decode cX8_again 80 = .ok (.aload_n 0, 1) := by decide +kernel
theorem dX8_again_81 : decode cX8_again 81 = .ok (.iconst 0, 1) := by decide +kernel
theorem dX8_again_82 : decode cX8_again 82 = .ok (.putfield 128, 3) := by decide +kernel
theorem dX8_again_85 : decode cX8_again 85 = .ok (.aload_n 0, 1) := by decide +kernel
theorem dX8_again_86 : decode cX8_again 86 = .ok (.invokevirtual 219, 3) := by decide +kernel
theorem dX8_again_89 : decode cX8_again 89 = .ok (.ireturn, 1) := by decide +kernel
theorem dX8_count_0 : decode cX8_count 0 = .ok (.iconst 0, 1) := by decide +kernel
theorem dX8_count_1 : decode cX8_count 1 = .ok (.istore_n 2, 1) := by decide +kernel
theorem dX8_count_2 : decode cX8_count 2 = .ok (.iconst 0, 1) := by decide +kernel
theorem dX8_count_3 : decode cX8_count 3 = .ok (.istore_n 3, 1) := by decide +kernel
theorem dX8_count_4 : decode cX8_count 4 = .ok (.iload_n 3, 1) := by decide +kernel
theorem dX8_count_5 : decode cX8_count 5 = .ok (.aload_n 0, 1) := by decide +kernel
theorem dX8_count_6 : decode cX8_count 6 = .ok (.getfield 118, 3) := by decide +kernel
theorem dX8_count_9 : decode cX8_count 9 = .ok (.if_icmp .ge 33, 3) := by decide +kernel
theorem dX8_count_12 : decode cX8_count 12 = .ok (.iload_n 2, 1) := by decide +kernel
theorem dX8_count_13 : decode cX8_count 13 = .ok (.aload_n 0, 1) := by decide +kernel
theorem dX8_count_14 : decode cX8_count 14 = .ok (.getfield 31, 3) := by decide +kernel
theorem dX8_count_17 : decode cX8_count 17 = .ok (.bipush 8, 2) := by decide +kernel
theorem dX8_count_19 : decode cX8_count 19 = .ok (.iload_n 3, 1) := by decide +kernel
theorem dX8_count_20 : decode cX8_count 20 = .ok (.iadd, 1) := by decide +kernel
theorem dX8_count_21 : decode cX8_count 21 = .ok (.iaload, 1) := by decide +kernel
theorem dX8_count_22 : decode cX8_count 22 = .ok (.bipush (-9), 2) := by decide +kernel
theorem dX8_count_24 : decode cX8_count 24 = .ok (.if_icmp .eq 9, 3) := by decide +kernel
theorem dX8_count_27 : decode cX8_count 27 = .ok (.iconst 1, 1) := by decide +kernel
theorem dX8_count_28 : decode cX8_count 28 = .ok (.iload_n 3, 1) := by decide +kernel
theorem dX8_count_29 : decode cX8_count 29 = .ok (.ishl, 1) := by decide +kernel
theorem dX8_count_30 : decode cX8_count 30 = .ok (.goto 4, 3) := by decide +kernel
theorem dX8_count_33 : decode cX8_count 33 = .ok (.iconst 0, 1) := by decide +kernel
theorem dX8_count_34 : decode cX8_count 34 = .ok (.ior, 1) := by decide +kernel
theorem dX8_count_35 : decode cX8_count 35 = .ok (.istore_n 2, 1) := by decide +kernel
theorem dX8_count_36 : decode cX8_count 36 = .ok (.iinc 3 1, 3) := by decide +kernel
theorem dX8_count_39 : decode cX8_count 39 = .ok (.goto (-35), 3) := by decide +kernel
theorem dX8_count_42 : decode cX8_count 42 = .ok (.iload_n 1, 1) := by decide +kernel
theorem dX8_count_43 : decode cX8_count 43 = .ok (.tableswitch 114 0 9 #[53, 58, 63, 68, 75, 77, 84, 91, 96, 101], 53) := by decide +kernel
theorem dX8_count_96 : decode cX8_count 96 = .ok (.aload_n 0, 1) := by decide +kernel
theorem dX8_count_97 : decode cX8_count 97 = .ok (.getfield 66, 3) := by decide +kernel
theorem dX8_count_100 : decode cX8_count 100 = .ok (.ireturn, 1) := by decide +kernel
theorem dX8_count_101 : decode cX8_count 101 = .ok (.aload_n 0, 1) := by decide +kernel
theorem dX8_count_102 : decode cX8_count 102 = .ok (.getfield 56, 3) := by decide +kernel
theorem dX8_count_105 : decode cX8_count 105 = .ok (.ireturn, 1) := by decide +kernel
theorem dX8_count_106 : decode cX8_count 106 = .ok (.aload_n 0, 1) := by decide +kernel
theorem dX8_count_107 : decode cX8_count 107 = .ok (.getfield 118, 3) := by decide +kernel
theorem dX8_count_110 : decode cX8_count 110 = .ok (.ireturn, 1) := by decide +kernel
theorem dX8_count_111 : decode cX8_count 111 = .ok (.aload_n 0, 1) := by decide +kernel
theorem dX8_count_112 : decode cX8_count 112 = .ok (.getfield 31, 3) := by decide +kernel
theorem dX8_count_115 : decode cX8_count 115 = .ok (.iconst 0, 1) := by decide +kernel
theorem dX8_count_116 : decode cX8_count 116 = .ok (.iaload, 1) := by decide +kernel
theorem dX8_count_117 : decode cX8_count 117 = .ok (.ireturn, 1) := by decide +kernel
theorem dX8_count_118 : decode cX8_count 118 = .ok (.iload_n 2, 1) := by decide +kernel
theorem dX8_count_119 : decode cX8_count 119 = .ok (.ireturn, 1) := by decide +kernel
theorem dX8_count_120 : decode cX8_count 120 = .ok (.aload_n 0, 1) := by decide +kernel
theorem dX8_count_121 : decode cX8_count 121 = .ok (.getfield 31, 3) := by decide +kernel
theorem dX8_count_124 : decode cX8_count 124 = .ok (.iconst 2, 1) := by decide +kernel
theorem dX8_count_125 : decode cX8_count 125 = .ok (.iaload, 1) := by decide +kernel
theorem dX8_count_126 : decode cX8_count 126 = .ok (.ireturn, 1) := by decide +kernel
theorem dX8_count_127 : decode cX8_count 127 = .ok (.aload_n 0, 1) := by decide +kernel
theorem dX8_count_128 : decode cX8_count 128 = .ok (.getfield 31, 3) := by decide +kernel
theorem dX8_count_131 : decode cX8_count 131 = .ok (.iconst 3, 1) := by decide +kernel
theorem dX8_count_132 : decode cX8_count 132 = .ok (.iaload, 1) := by decide +kernel
theorem dX8_count_133 : decode cX8_count 133 = .ok (.ireturn, 1) := by decide +kernel
theorem dX8_count_134 : decode cX8_count 134 = .ok (.aload_n 0, 1) := by decide +kernel
theorem dX8_count_135 : decode cX8_count 135 = .ok (.getfield 121, 3) := by decide +kernel
theorem dX8_count_138 : decode cX8_count 138 = .ok (.ireturn, 1) := by decide +kernel
theorem dX8_count_139 : decode cX8_count 139 = .ok (.aload_n 0, 1) := by decide +kernel
theorem dX8_count_140 : decode cX8_count 140 = .ok (.getfield 128, 3) := by decide +kernel
theorem dX8_count_143 : decode cX8_count 143 = .ok (.ireturn, 1) := by decide +kernel
theorem dX8_count_144 : decode cX8_count 144 = .ok (.aload_n 0, 1) := by decide +kernel
theorem dX8_count_145 : decode cX8_count 145 = .ok (.getfield 124, 3) := by decide +kernel
theorem dX8_count_148 : decode cX8_count 148 = .ok (.ifCond .eq 7, 3) := by decide +kernel
theorem dX8_count_151 : decode cX8_count 151 = .ok (.iconst 1, 1) := by decide +kernel
theorem dX8_count_152 : decode cX8_count 152 = .ok (.goto 4, 3) := by decide +kernel
theorem dX8_count_155 : decode cX8_count 155 = .ok (.iconst 0, 1) := by decide +kernel
theorem dX8_count_156 : decode cX8_count 156 = .ok (.ireturn, 1) := by decide +kernel
theorem dX8_count_157 : decode cX8_count 157 = .ok (.bipush (-2), 2) := by decide +kernel
theorem dX8_count_159 : decode cX8_count 159 = .ok (.ireturn, 1) := by decide +kernel
