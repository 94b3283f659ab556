set_option maxRecDepth 20000 in
theorem ggX0_init_X3_init : GoodIn wsX0_init wsX3_init := goodIn_r _ [12, 13, 2, 3, 14, 15, 16, 17, 18, 19, 20, 21, 25, 26, 27, 28, 29, 30, 31] (by decide +kernel) (by decide +kernel)
set_option maxRecDepth 20000 in
theorem gX0_init_X3_init : GoodIn wsX0_init (wsX3_init) := ggX0_init_X3_init
theorem dX0_init_0 : decode cX0_init 0 = .ok (.aload_n 0, 1) := by decide +kernel
theorem dX0_init_1 : decode cX0_init 1 = .ok (.invokespecial 3, 3) := by decide +kernel
theorem dX0_init_4 : decode cX0_init 4 = .ok (.aload_n 0, 1) := by decide +kernel
theorem dX0_init_5 : decode cX0_init 5 = .ok (.bipush 16, 2) := by decide +kernel
theorem dX0_init_7 : decode cX0_init 7 = .ok (.anewarray 9, 3) := by decide +kernel
theorem dX0_init_10 : decode cX0_init 10 = .ok (.putfield 11, 3) := by decide +kernel
theorem dX0_init_13 : decode cX0_init 13 = .ok (.aload_n 0, 1) := by decide +kernel
theorem dX0_init_14 : decode cX0_init 14 = .ok (.iconst 0, 1) := by decide +kernel
theorem dX0_init_15 : decode cX0_init 15 = .ok (.putfield 17, 3) := by decide +kernel
theorem dX0_init_18 : decode cX0_init 18 = .ok (.aload_n 0, 1) := by decide +kernel
theorem dX0_init_19 : decode cX0_init 19 = .ok (.iconst 0, 1) := by decide +kernel
theorem dX0_init_20 : decode cX0_init 20 = .ok (.putfield 21, 3) := by decide +kernel
theorem dX0_init_23 : decode cX0_init 23 = .ok (.iconst 0, 1) := by decide +kernel
theorem dX0_init_24 : decode cX0_init 24 = .ok (.istore_n 2, 1) := by decide +kernel
theorem dX0_init_25 : decode cX0_init 25 = .ok (.iload_n 2, 1) := by decide +kernel
theorem dX0_init_26 : decode cX0_init 26 = .ok (.bipush 16, 2) := by decide +kernel
theorem dX0_init_28 : decode cX0_init 28 = .ok (.if_icmp .ge 23, 3) := by decide +kernel
theorem dX0_init_31 : decode cX0_init 31 = .ok (.aload_n 0, 1) := by decide +kernel
theorem dX0_init_32 : decode cX0_init 32 = .ok (.getfield 11, 3) := by decide +kernel
theorem dX0_init_35 : decode cX0_init 35 = .ok (.iload_n 2, 1) := by decide +kernel
theorem dX0_init_36 : decode cX0_init 36 = .ok (.new 9, 3) := by decide +kernel
theorem dX0_init_39 : decode cX0_init 39 = .ok (.dup, 1) := by decide +kernel
theorem dX0_init_40 : decode cX0_init 40 = .ok (.aload_n 1, 1) := by decide +kernel
theorem dX0_init_41 : decode cX0_init 41 = .ok (.invokespecial 24, 3) := by decide +kernel
theorem dX0_init_44 : decode cX0_init 44 = .ok (.aastore, 1) := by decide +kernel
theorem dX0_init_45 : decode cX0_init 45 = .ok (.iinc 2 1, 3) := by decide +kernel
theorem dX0_init_48 : decode cX0_init 48 = .ok (.goto (-23), 3) := by decide +kernel
theorem dX0_init_51 : decode cX0_init 51 = .ok (.return_, 1) := by decide +kernel
theorem dX0_forget_0 : decode cX0_forget 0 = .ok (.aload_n 0, 1) := by decide +kernel
theorem dX0_forget_1 : decode cX0_forget 1 = .ok (.iconst 0, 1) := by decide +kernel
theorem dX0_forget_2 : decode cX0_forget 2 = .ok (.putfield 21, 3) := by decide +kernel
theorem dX0_forget_5 : decode cX0_forget 5 = .ok (.return_, 1) := by decide +kernel
set_option maxRecDepth 20000 in
theorem ggX0_remember_X3_become : GoodIn wsX0_remember wsX3_become := goodIn_r _ [8, 9, 10, 11, 12, 13, 14, 18, 19, 20, 21, 22, 23, 24] (by decide +kernel) (by decide +kernel)
set_option maxRecDepth 20000 in
theorem gX0_remember_X3_become : GoodIn wsX0_remember (wsV RX0 27 RX3 yX3_become wsX3_become) := goodIn_app (goodIn_of _ (by decide +kernel)) ggX0_remember_X3_become
theorem dX0_remember_0 : decode cX0_remember 0 = .ok (.aload_n 0, 1) := by decide +kernel
theorem dX0_remember_1 : decode cX0_remember 1 = .ok (.getfield 11, 3) := by decide +kernel
theorem dX0_remember_4 : decode cX0_remember 4 = .ok (.aload_n 0, 1) := by decide +kernel
theorem dX0_remember_5 : decode cX0_remember 5 = .ok (.getfield 17, 3) := by decide +kernel
theorem dX0_remember_8 : decode cX0_remember 8 = .ok (.aload_n 0, 1) := by decide +kernel
theorem dX0_remember_9 : decode cX0_remember 9 = .ok (.getfield 21, 3) := by decide +kernel
theorem dX0_remember_12 : decode cX0_remember 12 = .ok (.iadd, 1) := by decide +kernel
theorem dX0_remember_13 : decode cX0_remember 13 = .ok (.bipush 16, 2) := by decide +kernel
theorem dX0_remember_15 : decode cX0_remember 15 = .ok (.irem, 1) := by decide +kernel
theorem dX0_remember_16 : decode cX0_remember 16 = .ok (.aaload, 1) := by decide +kernel
theorem dX0_remember_17 : decode cX0_remember 17 = .ok (.astore_n 2, 1) := by decide +kernel
theorem dX0_remember_18 : decode cX0_remember 18 = .ok (.aload_n 2, 1) := by decide +kernel
theorem dX0_remember_19 : decode cX0_remember 19 = .ok (.ifnonnull 4, 3) := by decide +kernel
theorem dX0_remember_22 : decode cX0_remember 22 = .ok (.return_, 1) := by decide +kernel
theorem dX0_remember_23 : decode cX0_remember 23 = .ok (.aload_n 2, 1) := by decide +kernel
theorem dX0_remember_24 : decode cX0_remember 24 = .ok (.aload_n 1, 1) := by decide +kernel
theorem dX0_remember_25 : decode cX0_remember 25 = .ok (.invokevirtual 27, 3) := by decide +kernel
theorem dX0_remember_28 : decode cX0_remember 28 = .ok (.aload_n 0, 1) := by decide +kernel
theorem dX0_remember_29 : decode cX0_remember 29 = .ok (.getfield 21, 3) := by decide +kernel
theorem dX0_remember_32 : decode cX0_remember 32 = .ok (.bipush 16, 2) := by decide +kernel
theorem dX0_remember_34 : decode cX0_remember 34 = .ok (.if_icmp .ge 16, 3) := by decide +kernel
theorem dX0_remember_37 : decode cX0_remember 37 = .ok (.aload_n 0, 1) := by decide +kernel
theorem dX0_remember_38 : decode cX0_remember 38 = .ok (.dup, 1) := by decide +kernel
theorem dX0_remember_39 : decode cX0_remember 39 = .ok (.getfield 21, 3) := by decide +kernel
theorem dX0_remember_42 : decode cX0_remember 42 = .ok (.iconst 1, 1) := by decide +kernel
theorem dX0_remember_43 : decode cX0_remember 43 = .ok (.iadd, 1) := by decide +kernel
theorem dX0_remember_44 : decode cX0_remember 44 = .ok (.putfield 21, 3) := by decide +kernel
theorem dX0_remember_47 : decode cX0_remember 47 = .ok (.goto 16, 3) := by decide +kernel
theorem dX0_remember_50 : decode cX0_remember 50 = .ok (.aload_n 0, 1) := by decide +kernel
theorem dX0_remember_51 : decode cX0_remember 51 = .ok (.aload_n 0, 1) := by decide +kernel
theorem dX0_remember_52 : decode cX0_remember 52 = .ok (.getfield 17, 3) := by decide +kernel
theorem dX0_remember_55 : decode cX0_remember 55 = .ok (.iconst 1, 1) := by decide +kernel
theorem dX0_remember_56 : decode cX0_remember 56 = .ok (.iadd, 1) := by decide +kernel
theorem dX0_remember_57 : decode cX0_remember 57 = .ok (.bipush 16, 2) := by decide +kernel
theorem dX0_remember_59 : decode cX0_remember 59 = .ok (.irem, 1) := by decide +kernel
theorem dX0_remember_60 : decode cX0_remember 60 = .ok (.putfield 17, 3) := by decide +kernel
theorem dX0_remember_63 : decode cX0_remember 63 = .ok (.return_, 1) := by decide +kernel
set_option maxRecDepth 20000 in
theorem ggX0_takeBack_X3_become : GoodIn wsX0_takeBack wsX3_become := goodIn_r _ [8, 9, 10, 11, 12, 13, 14, 18, 19, 20, 21, 22, 23, 24] (by decide +kernel) (by decide +kernel)
set_option maxRecDepth 20000 in
theorem gX0_takeBack_X3_become : GoodIn wsX0_takeBack (wsV RX0 27 RX3 yX3_become wsX3_become) := goodIn_app (goodIn_of _ (by decide +kernel)) ggX0_takeBack_X3_become
theorem dX0_takeBack_0 : decode cX0_takeBack 0 = .ok (.aload_n 0, 1) := by decide +kernel
theorem dX0_takeBack_1 : decode cX0_takeBack 1 = .ok (.getfield 21, 3) := by decide +kernel
theorem dX0_takeBack_4 : decode cX0_takeBack 4 = .ok (.ifCond .le 34, 3) := by decide +kernel
theorem dX0_takeBack_7 : decode cX0_takeBack 7 = .ok (.aload_n 0, 1) := by decide +kernel
theorem dX0_takeBack_8 : decode cX0_takeBack 8 = .ok (.dup, 1) := by decide +kernel
theorem dX0_takeBack_9 : decode cX0_takeBack 9 = .ok (.getfield 21, 3) := by decide +kernel
theorem dX0_takeBack_12 : decode cX0_takeBack 12 = .ok (.iconst 1, 1) := by decide +kernel
theorem dX0_takeBack_13 : decode cX0_takeBack 13 = .ok (.isub, 1) := by decide +kernel
theorem dX0_takeBack_14 : decode cX0_takeBack 14 = .ok (.putfield 21, 3) := by decide +kernel
theorem dX0_takeBack_17 : decode cX0_takeBack 17 = .ok (.aload_n 1, 1) := by decide +kernel
theorem dX0_takeBack_18 : decode cX0_takeBack 18 = .ok (.aload_n 0, 1) := by decide +kernel
theorem dX0_takeBack_19 : decode cX0_takeBack 19 = .ok (.getfield 11, 3) := by decide +kernel
theorem dX0_takeBack_22 : decode cX0_takeBack 22 = .ok (.aload_n 0, 1) := by decide +kernel
theorem dX0_takeBack_23 : decode cX0_takeBack 23 = .ok (.getfield 17, 3) := by decide +kernel
theorem dX0_takeBack_26 : decode cX0_takeBack 26 = .ok (.aload_n 0, 1) := by decide +kernel
theorem dX0_takeBack_27 : decode cX0_takeBack 27 = .ok (.getfield 21, 3) := by decide +kernel
theorem dX0_takeBack_30 : decode cX0_takeBack 30 = .ok (.iadd, 1) := by decide +kernel
theorem dX0_takeBack_31 : decode cX0_takeBack 31 = .ok (.bipush 16, 2) := by decide +kernel
theorem dX0_takeBack_33 : decode cX0_takeBack 33 = .ok (.irem, 1) := by decide +kernel
theorem dX0_takeBack_34 : decode cX0_takeBack 34 = .ok (.aaload, 1) := by decide +kernel
theorem dX0_takeBack_35 : decode cX0_takeBack 35 = .ok (.invokevirtual 27, 3) := by decide +kernel
theorem dX0_takeBack_38 : decode cX0_takeBack 38 = .ok (.return_, 1) := by decide +kernel
theorem dX1_init_0 : decode cX1_init 0 = .ok (.aload_n 0, 1) := by decide +kernel
theorem dX1_init_1 : decode cX1_init 1 = .ok (.invokespecial 3, 3) := by decide +kernel
theorem dX1_init_4 : decode cX1_init 4 = .ok (.aload_n 0, 1) := by decide +kernel
theorem dX1_init_5 : decode cX1_init 5 = .ok (.iconst 0, 1) := by decide +kernel
theorem dX1_init_6 : decode cX1_init 6 = .ok (.putfield 9, 3) := by decide +kernel
theorem dX1_init_9 : decode cX1_init 9 = .ok (.aload_n 0, 1) := by decide +kernel
theorem dX1_init_10 : decode cX1_init 10 = .ok (.iconst 0, 1) := by decide +kernel
theorem dX1_init_11 : decode cX1_init 11 = .ok (.putfield 15, 3) := by decide +kernel
theorem dX1_init_14 : decode cX1_init 14 = .ok (.aload_n 0, 1) := by decide +kernel
theorem dX1_init_15 : decode cX1_init 15 = .ok (.iconst 0, 1) := by decide +kernel
theorem dX1_init_16 : decode cX1_init 16 = .ok (.putfield 18, 3) := by decide +kernel
theorem dX1_init_19 : decode cX1_init 19 = .ok (.aload_n 0, 1) := by decide +kernel
theorem dX1_init_20 : decode cX1_init 20 = .ok (.iconst 0, 1) := by decide +kernel
theorem dX1_init_21 : decode cX1_init 21 = .ok (.putfield 21, 3) := by decide +kernel
theorem dX1_init_24 : decode cX1_init 24 = .ok (.aload_n 0, 1) := by decide +kernel
theorem dX1_init_25 : decode cX1_init 25 = .ok (.iconst 0, 1) := by decide +kernel
theorem dX1_init_26 : decode cX1_init 26 = .ok (.putfield 24, 3) := by decide +kernel
theorem dX1_init_29 : decode cX1_init 29 = .ok (.aload_n 0, 1) := by decide +kernel
theorem dX1_init_30 : decode cX1_init 30 = .ok (.iconst 0, 1) := by decide +kernel
theorem dX1_init_31 : decode cX1_init 31 = .ok (.putfield 27, 3) := by decide +kernel
theorem dX1_init_34 : decode cX1_init 34 = .ok (.aload_n 0, 1) := by decide +kernel
theorem dX1_init_35 : decode cX1_init 35 = .ok (.bipush 6, 2) := by decide +kernel
theorem dX1_init_37 : decode cX1_init 37 = .ok (.newarray .int, 2) := by decide +kernel
theorem dX1_init_39 : decode cX1_init 39 = .ok (.putfield 30, 3) := by decide +kernel
theorem dX1_init_42 : decode cX1_init 42 = .ok (.aload_n 0, 1) := by decide +kernel
theorem dX1_init_43 : decode cX1_init 43 = .ok (.bipush 6, 2) := by decide +kernel
theorem dX1_init_45 : decode cX1_init 45 = .ok (.newarray .int, 2) := by decide +kernel
theorem dX1_init_47 : decode cX1_init 47 = .ok (.putfield 34, 3) := by decide +kernel
theorem dX1_init_50 : decode cX1_init 50 = .ok (.aload_n 0, 1) := by decide +kernel
theorem dX1_init_51 : decode cX1_init 51 = .ok (.bipush 6, 2) := by decide +kernel
theorem dX1_init_53 : decode cX1_init 53 = .ok (.newarray .int, 2) := by decide +kernel
theorem dX1_init_55 : decode cX1_init 55 = .ok (.putfield 37, 3) := by decide +kernel
theorem dX1_init_58 : decode cX1_init 58 = .ok (.aload_n 0, 1) := by decide +kernel
theorem dX1_init_59 : decode cX1_init 59 = .ok (.bipush 6, 2) := by decide +kernel
theorem dX1_init_61 : decode cX1_init 61 = .ok (.newarray .int, 2) := by decide +kernel
theorem dX1_init_63 : decode cX1_init 63 = .ok (.putfield 40, 3) := by decide +kernel
theorem dX1_init_66 : decode cX1_init 66 = .ok (.aload_n 0, 1) := by decide +kernel
theorem dX1_init_67 : decode cX1_init 67 = .ok (.iconst 4, 1) := by decide +kernel
theorem dX1_init_68 : decode cX1_init 68 = .ok (.newarray .int, 2) := by decide +kernel
theorem dX1_init_70 : decode cX1_init 70 = .ok (.putfield 43, 3) := by decide +kernel
theorem dX1_init_73 : decode cX1_init 73 = .ok (.aload_n 0, 1) := by decide +kernel
theorem dX1_init_74 : decode cX1_init 74 = .ok (.iconst 4, 1) := by decide +kernel
theorem dX1_init_75 : decode cX1_init 75 = .ok (.newarray .int, 2) := by decide +kernel
theorem dX1_init_77 : decode cX1_init 77 = .ok (.putfield 46, 3) := by decide +kernel
theorem dX1_init_80 : decode cX1_init 80 = .ok (.return_, 1) := by decide +kernel
theorem dX1_clear_0 : decode cX1_clear 0 = .ok (.aload_n 0, 1) := by decide +kernel
theorem dX1_clear_1 : decode cX1_clear 1 = .ok (.iconst 0, 1) := by decide +kernel
theorem dX1_clear_2 : decode cX1_clear 2 = .ok (.putfield 9, 3) := by decide +kernel
theorem dX1_clear_5 : decode cX1_clear 5 = .ok (.aload_n 0, 1) := by decide +kernel
theorem dX1_clear_6 : decode cX1_clear 6 = .ok (.iconst 0, 1) := by decide +kernel
theorem dX1_clear_7 : decode cX1_clear 7 = .ok (.putfield 15, 3) := by decide +kernel
theorem dX1_clear_10 : decode cX1_clear 10 = .ok (.aload_n 0, 1) := by decide +kernel
theorem dX1_clear_11 : decode cX1_clear 11 = .ok (.iconst 0, 1) := by decide +kernel
theorem dX1_clear_12 : decode cX1_clear 12 = .ok (.putfield 18, 3) := by decide +kernel
theorem dX1_clear_15 : decode cX1_clear 15 = .ok (.aload_n 0, 1) := by decide +kernel
theorem dX1_clear_16 : decode cX1_clear 16 = .ok (.iconst 0, 1) := by decide +kernel
theorem dX1_clear_17 : decode cX1_clear 17 = .ok (.putfield 21, 3) := by decide +kernel
theorem dX1_clear_20 : decode cX1_clear 20 = .ok (.aload_n 0, 1) := by decide +kernel
theorem dX1_clear_21 : decode cX1_clear 21 = .ok (.iconst 0, 1) := by decide +kernel
theorem dX1_clear_22 : decode cX1_clear 22 = .ok (.putfield 24, 3) := by decide +kernel
theorem dX1_clear_25 : decode cX1_clear 25 = .ok (.aload_n 0, 1) := by decide +kernel
theorem dX1_clear_26 : decode cX1_clear 26 = .ok (.iconst 0, 1) := by decide +kernel
theorem dX1_clear_27 : decode cX1_clear 27 = .ok (.putfield 27, 3) := by decide +kernel
theorem dX1_clear_30 : decode cX1_clear 30 = .ok (.iconst 0, 1) := by decide +kernel
theorem dX1_clear_31 : decode cX1_clear 31 = .ok (.istore_n 1, 1) := by decide +kernel
theorem dX1_clear_32 : decode cX1_clear 32 = .ok (.iload_n 1, 1) := by decide +kernel
theorem dX1_clear_33 : decode cX1_clear 33 = .ok (.bipush 6, 2) := by decide +kernel
theorem dX1_clear_35 : decode cX1_clear 35 = .ok (.if_icmp .ge 16, 3) := by decide +kernel
theorem dX1_clear_38 : decode cX1_clear 38 = .ok (.aload_n 0, 1) := by decide +kernel
theorem dX1_clear_39 : decode cX1_clear 39 = .ok (.getfield 40, 3) := by decide +kernel
theorem dX1_clear_42 : decode cX1_clear 42 = .ok (.iload_n 1, 1) := by decide +kernel
theorem dX1_clear_43 : decode cX1_clear 43 = .ok (.iconst 0, 1) := by decide +kernel
theorem dX1_clear_44 : decode cX1_clear 44 = .ok (.iastore, 1) := by decide +kernel
theorem dX1_clear_45 : decode cX1_clear 45 = .ok (.iinc 1 1, 3) := by decide +kernel
theorem dX1_clear_48 : decode cX1_clear 48 = .ok (.goto (-16), 3) := by decide +kernel
theorem dX1_clear_51 : decode cX1_clear 51 = .ok (.return_, 1) := by decide +kernel
theorem dX1_addTrap_0 : decode cX1_addTrap 0 = .ok (.aload_n 0, 1) := by decide +kernel
theorem dX1_addTrap_1 : decode cX1_addTrap 1 = .ok (.getfield 9, 3) := by decide +kernel
theorem dX1_addTrap_4 : decode cX1_addTrap 4 = .ok (.ifCond .lt 12, 3) := by decide +kernel
theorem dX1_addTrap_7 : decode cX1_addTrap 7 = .ok (.aload_n 0, 1) := by decide +kernel
theorem dX1_addTrap_8 : decode cX1_addTrap 8 = .ok (.getfield 9, 3) := by decide +kernel
theorem dX1_addTrap_11 : decode cX1_addTrap 11 = .ok (.bipush 6, 2) := by decide +kernel
theorem dX1_addTrap_13 : decode cX1_addTrap 13 = .ok (.if_icmp .lt 4, 3) := by decide +kernel
theorem dX1_addTrap_16 : decode cX1_addTrap 16 = .ok (.return_, 1) := by decide +kernel
theorem dX1_addTrap_17 : decode cX1_addTrap 17 = .ok (.iconst 1, 1) := by decide +kernel
theorem dX1_addTrap_18 : decode cX1_addTrap 18 = .ok (.aload_n 0, 1) := by decide +kernel
theorem dX1_addTrap_19 : decode cX1_addTrap 19 = .ok (.getfield 9, 3) := by decide +kernel
theorem dX1_addTrap_22 : decode cX1_addTrap 22 = .ok (.ishl, 1) := by decide +kernel
theorem dX1_addTrap_23 : decode cX1_addTrap 23 = .ok (.istore 4, 2) := by decide +kernel
theorem dX1_addTrap_25 : decode cX1_addTrap 25 = .ok (.aload_n 0, 1) := by decide +kernel
theorem dX1_addTrap_26 : decode cX1_addTrap 26 = .ok (.getfield 30, 3) := by decide +kernel
theorem dX1_addTrap_29 : decode cX1_addTrap 29 = .ok (.aload_n 0, 1) := by decide +kernel
theorem dX1_addTrap_30 : decode cX1_addTrap 30 = .ok (.getfield 9, 3) := by decide +kernel
theorem dX1_addTrap_33 : decode cX1_addTrap 33 = .ok (.iload_n 1, 1) := by decide +kernel
theorem dX1_addTrap_34 : decode cX1_addTrap 34 = .ok (.iastore, 1) := by decide +kernel
theorem dX1_addTrap_35 : decode cX1_addTrap 35 = .ok (.aload_n 0, 1) := by decide +kernel
theorem dX1_addTrap_36 : decode cX1_addTrap 36 = .ok (.getfield 34, 3) := by decide +kernel
theorem dX1_addTrap_39 : decode cX1_addTrap 39 = .ok (.aload_n 0, 1) := by decide +kernel
theorem dX1_addTrap_40 : decode cX1_addTrap 40 = .ok (.getfield 9, 3) := by decide +kernel
theorem dX1_addTrap_43 : decode cX1_addTrap 43 = .ok (.iload_n 2, 1) := by decide +kernel
theorem dX1_addTrap_44 : decode cX1_addTrap 44 = .ok (.iastore, 1) := by decide +kernel
theorem dX1_addTrap_45 : decode cX1_addTrap 45 = .ok (.aload_n 0, 1) := by decide +kernel
theorem dX1_addTrap_46 : decode cX1_addTrap 46 = .ok (.getfield 37, 3) := by decide +kernel
theorem dX1_addTrap_49 : decode cX1_addTrap 49 = .ok (.aload_n 0, 1) := by decide +kernel
theorem dX1_addTrap_50 : decode cX1_addTrap 50 = .ok (.getfield 9, 3) := by decide +kernel
theorem dX1_addTrap_53 : decode cX1_addTrap 53 = .ok (.iload_n 3, 1) := by decide +kernel
theorem dX1_addTrap_54 : decode cX1_addTrap 54 = .ok (.iastore, 1) := by decide +kernel
theorem dX1_addTrap_55 : decode cX1_addTrap 55 = .ok (.aload_n 0, 1) := by decide +kernel
theorem dX1_addTrap_56 : decode cX1_addTrap 56 = .ok (.dup, 1) := by decide +kernel
theorem dX1_addTrap_57 : decode cX1_addTrap 57 = .ok (.getfield 21, 3) := by decide +kernel
theorem dX1_addTrap_60 : decode cX1_addTrap 60 = .ok (.iload_n 3, 1) := by decide +kernel
theorem dX1_addTrap_61 : decode cX1_addTrap 61 = .ok (.iconst 3, 1) := by decide +kernel
theorem dX1_addTrap_62 : decode cX1_addTrap 62 = .ok (.if_icmp .ne 8, 3) := by decide +kernel
theorem dX1_addTrap_65 : decode cX1_addTrap 65 = .ok (.iload 4, 2) := by decide +kernel
theorem dX1_addTrap_67 : decode cX1_addTrap 67 = .ok (.goto 4, 3) := by decide +kernel
theorem dX1_addTrap_70 : decode cX1_addTrap 70 = .ok (.iconst 0, 1) := by decide +kernel
theorem dX1_addTrap_71 : decode cX1_addTrap 71 = .ok (.ior, 1) := by decide +kernel
theorem dX1_addTrap_72 : decode cX1_addTrap 72 = .ok (.putfield 21, 3) := by decide +kernel
theorem dX1_addTrap_75 : decode cX1_addTrap 75 = .ok (.aload_n 0, 1) := by decide +kernel
theorem dX1_addTrap_76 : decode cX1_addTrap 76 = .ok (.dup, 1) := by decide +kernel
theorem dX1_addTrap_77 : decode cX1_addTrap 77 = .ok (.getfield 24, 3) := by decide +kernel
theorem dX1_addTrap_80 : decode cX1_addTrap 80 = .ok (.iload_n 3, 1) := by decide +kernel
theorem dX1_addTrap_81 : decode cX1_addTrap 81 = .ok (.ifCond .eq 8, 3) := by decide +kernel
theorem dX1_addTrap_84 : decode cX1_addTrap 84 = .ok (.iload_n 3, 1) := by decide +kernel
theorem dX1_addTrap_85 : decode cX1_addTrap 85 = .ok (.iconst 2, 1) := by decide +kernel
theorem dX1_addTrap_86 : decode cX1_addTrap 86 = .ok (.if_icmp .ne 8, 3) := by decide +kernel
theorem dX1_addTrap_89 : decode cX1_addTrap 89 = .ok (.iload 4, 2) := by decide +kernel
theorem dX1_addTrap_91 : decode cX1_addTrap 91 = .ok (.goto 4, 3) := by decide +kernel
theorem dX1_addTrap_94 : decode cX1_addTrap 94 = .ok (.iconst 0, 1) := by decide +kernel
theorem dX1_addTrap_95 : decode cX1_addTrap 95 = .ok (.ior, 1) := by decide +kernel
theorem dX1_addTrap_96 : decode cX1_addTrap 96 = .ok (.putfield 24, 3) := by decide +kernel
theorem dX1_addTrap_99 : decode cX1_addTrap 99 = .ok (.aload_n 0, 1) := by decide +kernel
theorem dX1_addTrap_100 : decode cX1_addTrap 100 = .ok (.dup, 1) := by decide +kernel
theorem dX1_addTrap_101 : decode cX1_addTrap 101 = .ok (.getfield 27, 3) := by decide +kernel
theorem dX1_addTrap_104 : decode cX1_addTrap 104 = .ok (.iload_n 3, 1) := by decide +kernel
theorem dX1_addTrap_105 : decode cX1_addTrap 105 = .ok (.iconst 4, 1) := by decide +kernel
theorem dX1_addTrap_106 : decode cX1_addTrap 106 = .ok (.if_icmp .ne 8, 3) := by decide +kernel
theorem dX1_addTrap_109 : decode cX1_addTrap 109 = .ok (.iload 4, 2) := by decide +kernel
theorem dX1_addTrap_111 : decode cX1_addTrap 111 = .ok (.goto 4, 3) := by decide +kernel
theorem dX1_addTrap_114 : decode cX1_addTrap 114 = .ok (.iconst 0, 1) := by decide +kernel
theorem dX1_addTrap_115 : decode cX1_addTrap 115 = .ok (.ior, 1) := by decide +kernel
theorem dX1_addTrap_116 : decode cX1_addTrap 116 = .ok (.putfield 27, 3) := by decide +kernel
theorem dX1_addTrap_119 : decode cX1_addTrap 119 = .ok (.aload_n 0, 1) := by decide +kernel
theorem dX1_addTrap_120 : decode cX1_addTrap 120 = .ok (.dup, 1) := by decide +kernel
theorem dX1_addTrap_121 : decode cX1_addTrap 121 = .ok (.getfield 9, 3) := by decide +kernel
theorem dX1_addTrap_124 : decode cX1_addTrap 124 = .ok (.iconst 1, 1) := by decide +kernel
theorem dX1_addTrap_125 : decode cX1_addTrap 125 = .ok (.iadd, 1) := by decide +kernel
theorem dX1_addTrap_126 : decode cX1_addTrap 126 = .ok (.putfield 9, 3) := by decide +kernel
theorem dX1_addTrap_129 : decode cX1_addTrap 129 = .ok (.return_, 1) := by decide +kernel
theorem dX1_addWalker_0 : decode cX1_addWalker 0 = .ok (.aload_n 0, 1) := by decide +kernel
theorem dX1_addWalker_1 : decode cX1_addWalker 1 = .ok (.getfield 15, 3) := by decide +kernel
theorem dX1_addWalker_4 : decode cX1_addWalker 4 = .ok (.ifCond .lt 11, 3) := by decide +kernel
theorem dX1_addWalker_7 : decode cX1_addWalker 7 = .ok (.aload_n 0, 1) := by decide +kernel
theorem dX1_addWalker_8 : decode cX1_addWalker 8 = .ok (.getfield 15, 3) := by decide +kernel
theorem dX1_addWalker_11 : decode cX1_addWalker 11 = .ok (.iconst 4, 1) := by decide +kernel
theorem dX1_addWalker_12 : decode cX1_addWalker 12 = .ok (.if_icmp .lt 4, 3) := by decide +kernel
theorem dX1_addWalker_15 : decode cX1_addWalker 15 = .ok (.return_, 1) := by decide +kernel
theorem dX1_addWalker_16 : decode cX1_addWalker 16 = .ok (.aload_n 0, 1) := by decide +kernel
theorem dX1_addWalker_17 : decode cX1_addWalker 17 = .ok (.getfield 43, 3) := by decide +kernel
theorem dX1_addWalker_20 : decode cX1_addWalker 20 = .ok (.aload_n 0, 1) := by decide +kernel
theorem dX1_addWalker_21 : decode cX1_addWalker 21 = .ok (.getfield 15, 3) := by decide +kernel
theorem dX1_addWalker_24 : decode cX1_addWalker 24 = .ok (.iload_n 1, 1) := by decide +kernel
theorem dX1_addWalker_25 : decode cX1_addWalker 25 = .ok (.iastore, 1) := by decide +kernel
theorem dX1_addWalker_26 : decode cX1_addWalker 26 = .ok (.aload_n 0, 1) := by decide +kernel
theorem dX1_addWalker_27 : decode cX1_addWalker 27 = .ok (.getfield 46, 3) := by decide +kernel
theorem dX1_addWalker_30 : decode cX1_addWalker 30 = .ok (.aload_n 0, 1) := by decide +kernel
theorem dX1_addWalker_31 : decode cX1_addWalker 31 = .ok (.getfield 15, 3) := by decide +kernel
theorem dX1_addWalker_34 : decode cX1_addWalker 34 = .ok (.iload_n 2, 1) := by decide +kernel
theorem dX1_addWalker_35 : decode cX1_addWalker 35 = .ok (.iastore, 1) := by decide +kernel
theorem dX1_addWalker_36 : decode cX1_addWalker 36 = .ok (.aload_n 0, 1) := by decide +kernel
theorem dX1_addWalker_37 : decode cX1_addWalker 37 = .ok (.dup, 1) := by decide +kernel
theorem dX1_addWalker_38 : decode cX1_addWalker 38 = .ok (.getfield 15, 3) := by decide +kernel
theorem dX1_addWalker_41 : decode cX1_addWalker 41 = .ok (.iconst 1, 1) := by decide +kernel
theorem dX1_addWalker_42 : decode cX1_addWalker 42 = .ok (.iadd, 1) := by decide +kernel
theorem dX1_addWalker_43 : decode cX1_addWalker 43 = .ok (.putfield 15, 3) := by decide +kernel
theorem dX1_addWalker_46 : decode cX1_addWalker 46 = .ok (.return_, 1) := by decide +kernel
theorem dX1_hasTrap_0 : decode cX1_hasTrap 0 = .ok (.iload_n 1, 1) := by decide +kernel
theorem dX1_hasTrap_1 : decode cX1_hasTrap 1 = .ok (.ifCond .lt 21, 3) := by decide +kernel
theorem dX1_hasTrap_4 : decode cX1_hasTrap 4 = .ok (.iload_n 1, 1) := by decide +kernel
theorem dX1_hasTrap_5 : decode cX1_hasTrap 5 = .ok (.aload_n 0, 1) := by decide +kernel
theorem dX1_hasTrap_6 : decode cX1_hasTrap 6 = .ok (.getfield 9, 3) := by decide +kernel
theorem dX1_hasTrap_9 : decode cX1_hasTrap 9 = .ok (.if_icmp .ge 13, 3) := by decide +kernel
theorem dX1_hasTrap_12 : decode cX1_hasTrap 12 = .ok (.iload_n 1, 1) := by decide +kernel
theorem dX1_hasTrap_13 : decode cX1_hasTrap 13 = .ok (.bipush 6, 2) := by decide +kernel
theorem dX1_hasTrap_15 : decode cX1_hasTrap 15 = .ok (.if_icmp .ge 7, 3) := by decide +kernel
theorem dX1_hasTrap_18 : decode cX1_hasTrap 18 = .ok (.iconst 1, 1) := by decide +kernel
theorem dX1_hasTrap_19 : decode cX1_hasTrap 19 = .ok (.goto 4, 3) := by decide +kernel
theorem dX1_hasTrap_22 : decode cX1_hasTrap 22 = .ok (.iconst 0, 1) := by decide +kernel
theorem dX1_hasTrap_23 : decode cX1_hasTrap 23 = .ok (.ireturn, 1) := by decide +kernel
theorem dX1_hasWalker_0 : decode cX1_hasWalker 0 = .ok (.iload_n 1, 1) := by decide +kernel
theorem dX1_hasWalker_1 : decode cX1_hasWalker 1 = .ok (.ifCond .lt 20, 3) := by decide +kernel
theorem dX1_hasWalker_4 : decode cX1_hasWalker 4 = .ok (.iload_n 1, 1) := by decide +kernel
theorem dX1_hasWalker_5 : decode cX1_hasWalker 5 = .ok (.aload_n 0, 1) := by decide +kernel
theorem dX1_hasWalker_6 : decode cX1_hasWalker 6 = .ok (.getfield 15, 3) := by decide +kernel
theorem dX1_hasWalker_9 : decode cX1_hasWalker 9 = .ok (.if_icmp .ge 12, 3) := by decide +kernel
theorem dX1_hasWalker_12 : decode cX1_hasWalker 12 = .ok (.iload_n 1, 1) := by decide +kernel
theorem dX1_hasWalker_13 : decode cX1_hasWalker 13 = .ok (.iconst 4, 1) := by decide +kernel
theorem dX1_hasWalker_14 : decode cX1_hasWalker 14 = .ok (.if_icmp .ge 7, 3) := by decide +kernel
theorem dX1_hasWalker_17 : decode cX1_hasWalker 17 = .ok (.iconst 1, 1) := by decide +kernel
theorem dX1_hasWalker_18 : decode cX1_hasWalker 18 = .ok (.goto 4, 3) := by decide +kernel
theorem dX1_hasWalker_21 : decode cX1_hasWalker 21 = .ok (.iconst 0, 1) := by decide +kernel
theorem dX1_hasWalker_22 : decode cX1_hasWalker 22 = .ok (.ireturn, 1) := by decide +kernel
theorem dX1_allTraps_0 : decode cX1_allTraps 0 = .ok (.iconst 1, 1) := by decide +kernel
theorem dX1_allTraps_1 : decode cX1_allTraps 1 = .ok (.aload_n 0, 1) := by decide +kernel
theorem dX1_allTraps_2 : decode cX1_allTraps 2 = .ok (.getfield 9, 3) := by decide +kernel
theorem dX1_allTraps_5 : decode cX1_allTraps 5 = .ok (.ishl, 1) := by decide +kernel
theorem dX1_allTraps_6 : decode cX1_allTraps 6 = .ok (.iconst 1, 1) := by decide +kernel
theorem dX1_allTraps_7 : decode cX1_allTraps 7 = .ok (.isub, 1) := by decide +kernel
theorem dX1_allTraps_8 : decode cX1_allTraps 8 = .ok (.ireturn, 1) := by decide +kernel
set_option maxRecDepth 20000 in
theorem ggX1_waysFrom_X7_neighbours : GoodIn wsX1_waysFrom wsX7_neighbours := goodIn_r _ [4, 5, 6, 7, 3, 8] (by decide +kernel) (by decide +kernel)
set_option maxRecDepth 20000 in
theorem gX1_waysFrom_X7_neighbours_n49 : GoodIn wsX1_waysFrom (wsX7_neighbours) := ggX1_waysFrom_X7_neighbours
theorem dX1_waysFrom_0 : decode cX1_waysFrom 0 = .ok (.iload_n 1, 1) := by decide +kernel
theorem dX1_waysFrom_1 : decode cX1_waysFrom 1 = .ok (.invokestatic 49, 3) := by decide +kernel
theorem dX1_waysFrom_4 : decode cX1_waysFrom 4 = .ok (.aload_n 0, 1) := by decide +kernel
theorem dX1_waysFrom_5 : decode cX1_waysFrom 5 = .ok (.getfield 18, 3) := by decide +kernel
theorem dX1_waysFrom_8 : decode cX1_waysFrom 8 = .ok (.iconst (-1), 1) := by decide +kernel
theorem dX1_waysFrom_9 : decode cX1_waysFrom 9 = .ok (.ixor, 1) := by decide +kernel
theorem dX1_waysFrom_10 : decode cX1_waysFrom 10 = .ok (.iand, 1) := by decide +kernel
theorem dX1_waysFrom_11 : decode cX1_waysFrom 11 = .ok (.ireturn, 1) := by decide +kernel
theorem dX1_trapOn_0 : decode cX1_trapOn 0 = .ok (.iconst 0, 1) := by decide +kernel
theorem dX1_trapOn_1 : decode cX1_trapOn 1 = .ok (.istore_n 2, 1) := by decide +kernel
theorem dX1_trapOn_2 : decode cX1_trapOn 2 = .ok (.iload_n 2, 1) := by decide +kernel
theorem dX1_trapOn_3 : decode cX1_trapOn 3 = .ok (.bipush 6, 2) := by decide +kernel
theorem dX1_trapOn_5 : decode cX1_trapOn 5 = .ok (.if_icmp .ge 29, 3) := by decide +kernel
theorem dX1_trapOn_8 : decode cX1_trapOn 8 = .ok (.iload_n 2, 1) := by decide +kernel
theorem dX1_trapOn_9 : decode cX1_trapOn 9 = .ok (.aload_n 0, 1) := by decide +kernel
theorem dX1_trapOn_10 : decode cX1_trapOn 10 = .ok (.getfield 9, 3) := by decide +kernel
theorem dX1_trapOn_13 : decode cX1_trapOn 13 = .ok (.if_icmp .ge 21, 3) := by decide +kernel
theorem dX1_trapOn_16 : decode cX1_trapOn 16 = .ok (.aload_n 0, 1) := by decide +kernel
theorem dX1_trapOn_17 : decode cX1_trapOn 17 = .ok (.getfield 30, 3) := by decide +kernel
theorem dX1_trapOn_20 : decode cX1_trapOn 20 = .ok (.iload_n 2, 1) := by decide +kernel
theorem dX1_trapOn_21 : decode cX1_trapOn 21 = .ok (.iaload, 1) := by decide +kernel
theorem dX1_trapOn_22 : decode cX1_trapOn 22 = .ok (.iload_n 1, 1) := by decide +kernel
theorem dX1_trapOn_23 : decode cX1_trapOn 23 = .ok (.if_icmp .ne 5, 3) := by decide +kernel
theorem dX1_trapOn_26 : decode cX1_trapOn 26 = .ok (.iload_n 2, 1) := by decide +kernel
theorem dX1_trapOn_27 : decode cX1_trapOn 27 = .ok (.ireturn, 1) := by decide +kernel
theorem dX1_trapOn_28 : decode cX1_trapOn 28 = .ok (.iinc 2 1, 3) := by decide +kernel
theorem dX1_trapOn_31 : decode cX1_trapOn 31 = .ok (.goto (-29), 3) := by decide +kernel
theorem dX1_trapOn_34 : decode cX1_trapOn 34 = .ok (.bipush (-9), 2) := by decide +kernel
theorem dX1_trapOn_36 : decode cX1_trapOn 36 = .ok (.ireturn, 1) := by decide +kernel
theorem dX1_trapsOn_0 : decode cX1_trapsOn 0 = .ok (.iconst 0, 1) := by decide +kernel
theorem dX1_trapsOn_1 : decode cX1_trapsOn 1 = .ok (.istore_n 2, 1) := by decide +kernel
theorem dX1_trapsOn_2 : decode cX1_trapsOn 2 = .ok (.iconst 0, 1) := by decide +kernel
theorem dX1_trapsOn_3 : decode cX1_trapsOn 3 = .ok (.istore_n 3, 1) := by decide +kernel
theorem dX1_trapsOn_4 : decode cX1_trapsOn 4 = .ok (.iload_n 3, 1) := by decide +kernel
theorem dX1_trapsOn_5 : decode cX1_trapsOn 5 = .ok (.bipush 6, 2) := by decide +kernel
theorem dX1_trapsOn_7 : decode cX1_trapsOn 7 = .ok (.if_icmp .ge 32, 3) := by decide +kernel
theorem dX1_trapsOn_10 : decode cX1_trapsOn 10 = .ok (.iload_n 3, 1) := by decide +kernel
theorem dX1_trapsOn_11 : decode cX1_trapsOn 11 = .ok (.aload_n 0, 1) := by decide +kernel
theorem dX1_trapsOn_12 : decode cX1_trapsOn 12 = .ok (.getfield 9, 3) := by decide +kernel
theorem dX1_trapsOn_15 : decode cX1_trapsOn 15 = .ok (.if_icmp .ge 24, 3) := by decide +kernel
theorem dX1_trapsOn_18 : decode cX1_trapsOn 18 = .ok (.iload_n 2, 1) := by decide +kernel
theorem dX1_trapsOn_19 : decode cX1_trapsOn 19 = .ok (.iload_n 1, 1) := by decide +kernel
theorem dX1_trapsOn_20 : decode cX1_trapsOn 20 = .ok (.aload_n 0, 1) := by decide +kernel
theorem dX1_trapsOn_21 : decode cX1_trapsOn 21 = .ok (.getfield 30, 3) := by decide +kernel
theorem dX1_trapsOn_24 : decode cX1_trapsOn 24 = .ok (.iload_n 3, 1) := by decide +kernel
theorem dX1_trapsOn_25 : decode cX1_trapsOn 25 = .ok (.iaload, 1) := by decide +kernel
theorem dX1_trapsOn_26 : decode cX1_trapsOn 26 = .ok (.ishr, 1) := by decide +kernel
theorem dX1_trapsOn_27 : decode cX1_trapsOn 27 = .ok (.iconst 1, 1) := by decide +kernel
theorem dX1_trapsOn_28 : decode cX1_trapsOn 28 = .ok (.iand, 1) := by decide +kernel
theorem dX1_trapsOn_29 : decode cX1_trapsOn 29 = .ok (.iload_n 3, 1) := by decide +kernel
theorem dX1_trapsOn_30 : decode cX1_trapsOn 30 = .ok (.ishl, 1) := by decide +kernel
theorem dX1_trapsOn_31 : decode cX1_trapsOn 31 = .ok (.ior, 1) := by decide +kernel
theorem dX1_trapsOn_32 : decode cX1_trapsOn 32 = .ok (.istore_n 2, 1) := by decide +kernel
theorem dX1_trapsOn_33 : decode cX1_trapsOn 33 = .ok (.iinc 3 1, 3) := by decide +kernel
theorem dX1_trapsOn_36 : decode cX1_trapsOn 36 = .ok (.goto (-32), 3) := by decide +kernel
theorem dX1_trapsOn_39 : decode cX1_trapsOn 39 = .ok (.iload_n 2, 1) := by decide +kernel
theorem dX1_trapsOn_40 : decode cX1_trapsOn 40 = .ok (.ireturn, 1) := by decide +kernel
theorem dX1_cellsOf_0 : decode cX1_cellsOf 0 = .ok (.iconst 0, 1) := by decide +kernel
theorem dX1_cellsOf_1 : decode cX1_cellsOf 1 = .ok (.istore_n 2, 1) := by decide +kernel
theorem dX1_cellsOf_2 : decode cX1_cellsOf 2 = .ok (.iconst 0, 1) := by decide +kernel
theorem dX1_cellsOf_3 : decode cX1_cellsOf 3 = .ok (.istore_n 3, 1) := by decide +kernel
theorem dX1_cellsOf_4 : decode cX1_cellsOf 4 = .ok (.iload_n 3, 1) := by decide +kernel
theorem dX1_cellsOf_5 : decode cX1_cellsOf 5 = .ok (.bipush 6, 2) := by decide +kernel
theorem dX1_cellsOf_7 : decode cX1_cellsOf 7 = .ok (.if_icmp .ge 32, 3) := by decide +kernel
theorem dX1_cellsOf_10 : decode cX1_cellsOf 10 = .ok (.iload_n 3, 1) := by decide +kernel
theorem dX1_cellsOf_11 : decode cX1_cellsOf 11 = .ok (.aload_n 0, 1) := by decide +kernel
theorem dX1_cellsOf_12 : decode cX1_cellsOf 12 = .ok (.getfield 9, 3) := by decide +kernel
theorem dX1_cellsOf_15 : decode cX1_cellsOf 15 = .ok (.if_icmp .ge 24, 3) := by decide +kernel
theorem dX1_cellsOf_18 : decode cX1_cellsOf 18 = .ok (.iload_n 2, 1) := by decide +kernel
theorem dX1_cellsOf_19 : decode cX1_cellsOf 19 = .ok (.iload_n 1, 1) := by decide +kernel
theorem dX1_cellsOf_20 : decode cX1_cellsOf 20 = .ok (.iload_n 3, 1) := by decide +kernel
theorem dX1_cellsOf_21 : decode cX1_cellsOf 21 = .ok (.ishr, 1) := by decide +kernel
theorem dX1_cellsOf_22 : decode cX1_cellsOf 22 = .ok (.iconst 1, 1) := by decide +kernel
theorem dX1_cellsOf_23 : decode cX1_cellsOf 23 = .ok (.iand, 1) := by decide +kernel
theorem dX1_cellsOf_24 : decode cX1_cellsOf 24 = .ok (.aload_n 0, 1) := by decide +kernel
theorem dX1_cellsOf_25 : decode cX1_cellsOf 25 = .ok (.getfield 30, 3) := by decide +kernel
theorem dX1_cellsOf_28 : decode cX1_cellsOf 28 = .ok (.iload_n 3, 1) := by decide +kernel
theorem dX1_cellsOf_29 : decode cX1_cellsOf 29 = .ok (.iaload, 1) := by decide +kernel
theorem dX1_cellsOf_30 : decode cX1_cellsOf 30 = .ok (.ishl, 1) := by decide +kernel
theorem dX1_cellsOf_31 : decode cX1_cellsOf 31 = .ok (.ior, 1) := by decide +kernel
theorem dX1_cellsOf_32 : decode cX1_cellsOf 32 = .ok (.istore_n 2, 1) := by decide +kernel
theorem dX1_cellsOf_33 : decode cX1_cellsOf 33 = .ok (.iinc 3 1, 3) := by decide +kernel
theorem dX1_cellsOf_36 : decode cX1_cellsOf 36 = .ok (.goto (-32), 3) := by decide +kernel
theorem dX1_cellsOf_39 : decode cX1_cellsOf 39 = .ok (.iload_n 2, 1) := by decide +kernel
theorem dX1_cellsOf_40 : decode cX1_cellsOf 40 = .ok (.ireturn, 1) := by decide +kernel
theorem dX1_startCells_0 : decode cX1_startCells 0 = .ok (.iconst 0, 1) := by decide +kernel
theorem dX1_startCells_1 : decode cX1_startCells 1 = .ok (.istore_n 1, 1) := by decide +kernel
theorem dX1_startCells_2 : decode cX1_startCells 2 = .ok (.iconst 0, 1) := by decide +kernel
theorem dX1_startCells_3 : decode cX1_startCells 3 = .ok (.istore_n 2, 1) := by decide +kernel
theorem dX1_startCells_4 : decode cX1_startCells 4 = .ok (.iload_n 2, 1) := by decide +kernel
theorem dX1_startCells_5 : decode cX1_startCells 5 = .ok (.iconst 4, 1) := by decide +kernel
theorem dX1_startCells_6 : decode cX1_startCells 6 = .ok (.if_icmp .ge 28, 3) := by decide +kernel
theorem dX1_startCells_9 : decode cX1_startCells 9 = .ok (.iload_n 2, 1) := by decide +kernel
theorem dX1_startCells_10 : decode cX1_startCells 10 = .ok (.aload_n 0, 1) := by decide +kernel
theorem dX1_startCells_11 : decode cX1_startCells 11 = .ok (.getfield 15, 3) := by decide +kernel
theorem dX1_startCells_14 : decode cX1_startCells 14 = .ok (.if_icmp .ge 20, 3) := by decide +kernel
theorem dX1_startCells_17 : decode cX1_startCells 17 = .ok (.iload_n 1, 1) := by decide +kernel
theorem dX1_startCells_18 : decode cX1_startCells 18 = .ok (.iconst 1, 1) := by decide +kernel
theorem dX1_startCells_19 : decode cX1_startCells 19 = .ok (.aload_n 0, 1) := by decide +kernel
theorem dX1_startCells_20 : decode cX1_startCells 20 = .ok (.getfield 43, 3) := by decide +kernel
theorem dX1_startCells_23 : decode cX1_startCells 23 = .ok (.iload_n 2, 1) := by decide +kernel
theorem dX1_startCells_24 : decode cX1_startCells 24 = .ok (.iaload, 1) := by decide +kernel
theorem dX1_startCells_25 : decode cX1_startCells 25 = .ok (.ishl, 1) := by decide +kernel
theorem dX1_startCells_26 : decode cX1_startCells 26 = .ok (.ior, 1) := by decide +kernel
theorem dX1_startCells_27 : decode cX1_startCells 27 = .ok (.istore_n 1, 1) := by decide +kernel
theorem dX1_startCells_28 : decode cX1_startCells 28 = .ok (.iinc 2 1, 3) := by decide +kernel
theorem dX1_startCells_31 : decode cX1_startCells 31 = .ok (.goto (-27), 3) := by decide +kernel
theorem dX1_startCells_34 : decode cX1_startCells 34 = .ok (.iload_n 1, 1) := by decide +kernel
theorem dX1_startCells_35 : decode cX1_startCells 35 = .ok (.ireturn, 1) := by decide +kernel
theorem dX1_spread_0 : decode cX1_spread 0 = .ok (.iconst 0, 1) := by decide +kernel
theorem dX1_spread_1 : decode cX1_spread 1 = .ok (.istore_n 3, 1) := by decide +kernel
theorem dX1_spread_2 : decode cX1_spread 2 = .ok (.iload_n 1, 1) := by decide +kernel
theorem dX1_spread_3 : decode cX1_spread 3 = .ok (.iload_n 2, 1) := by decide +kernel
theorem dX1_spread_4 : decode cX1_spread 4 = .ok (.iand, 1) := by decide +kernel
theorem dX1_spread_5 : decode cX1_spread 5 = .ok (.istore 4, 2) := by decide +kernel
theorem dX1_spread_7 : decode cX1_spread 7 = .ok (.iconst 0, 1) := by decide +kernel
theorem dX1_spread_8 : decode cX1_spread 8 = .ok (.istore 5, 2) := by decide +kernel
theorem dX1_spread_10 : decode cX1_spread 10 = .ok (.iload 5, 2) := by decide +kernel
theorem dX1_spread_12 : decode cX1_spread 12 = .ok (.bipush 6, 2) := by decide +kernel
theorem dX1_spread_14 : decode cX1_spread 14 = .ok (.if_icmp .ge 74, 3) := by decide +kernel
theorem dX1_spread_17 : decode cX1_spread 17 = .ok (.iload 4, 2) := by decide +kernel
theorem dX1_spread_19 : decode cX1_spread 19 = .ok (.ifCond .eq 69, 3) := by decide +kernel
theorem dX1_spread_22 : decode cX1_spread 22 = .ok (.iload_n 3, 1) := by decide +kernel
theorem dX1_spread_23 : decode cX1_spread 23 = .ok (.iload 4, 2) := by decide +kernel
theorem dX1_spread_25 : decode cX1_spread 25 = .ok (.ior, 1) := by decide +kernel
theorem dX1_spread_26 : decode cX1_spread 26 = .ok (.istore_n 3, 1) := by decide +kernel
theorem dX1_spread_27 : decode cX1_spread 27 = .ok (.iconst 0, 1) := by decide +kernel
theorem dX1_spread_28 : decode cX1_spread 28 = .ok (.istore 6, 2) := by decide +kernel
theorem dX1_spread_30 : decode cX1_spread 30 = .ok (.iconst 0, 1) := by decide +kernel
theorem dX1_spread_31 : decode cX1_spread 31 = .ok (.istore 7, 2) := by decide +kernel
theorem dX1_spread_33 : decode cX1_spread 33 = .ok (.iload 7, 2) := by decide +kernel
theorem dX1_spread_35 : decode cX1_spread 35 = .ok (.bipush 6, 2) := by decide +kernel
theorem dX1_spread_37 : decode cX1_spread 37 = .ok (.if_icmp .ge 35, 3) := by decide +kernel
theorem dX1_spread_40 : decode cX1_spread 40 = .ok (.iload 6, 2) := by decide +kernel
theorem dX1_spread_42 : decode cX1_spread 42 = .ok (.iload 4, 2) := by decide +kernel
theorem dX1_spread_44 : decode cX1_spread 44 = .ok (.iload 7, 2) := by decide +kernel
theorem dX1_spread_46 : decode cX1_spread 46 = .ok (.ishr, 1) := by decide +kernel
theorem dX1_spread_47 : decode cX1_spread 47 = .ok (.iconst 1, 1) := by decide +kernel
theorem dX1_spread_48 : decode cX1_spread 48 = .ok (.iand, 1) := by decide +kernel
theorem dX1_spread_49 : decode cX1_spread 49 = .ok (.ifCond .eq 13, 3) := by decide +kernel
theorem dX1_spread_52 : decode cX1_spread 52 = .ok (.aload_n 0, 1) := by decide +kernel
theorem dX1_spread_53 : decode cX1_spread 53 = .ok (.getfield 40, 3) := by decide +kernel
theorem dX1_spread_56 : decode cX1_spread 56 = .ok (.iload 7, 2) := by decide +kernel
theorem dX1_spread_58 : decode cX1_spread 58 = .ok (.iaload, 1) := by decide +kernel
theorem dX1_spread_59 : decode cX1_spread 59 = .ok (.goto 4, 3) := by decide +kernel
theorem dX1_spread_62 : decode cX1_spread 62 = .ok (.iconst 0, 1) := by decide +kernel
theorem dX1_spread_63 : decode cX1_spread 63 = .ok (.ior, 1) := by decide +kernel
theorem dX1_spread_64 : decode cX1_spread 64 = .ok (.istore 6, 2) := by decide +kernel
theorem dX1_spread_66 : decode cX1_spread 66 = .ok (.iinc 7 1, 3) := by decide +kernel
theorem dX1_spread_69 : decode cX1_spread 69 = .ok (.goto (-36), 3) := by decide +kernel
theorem dX1_spread_72 : decode cX1_spread 72 = .ok (.iload 6, 2) := by decide +kernel
theorem dX1_spread_74 : decode cX1_spread 74 = .ok (.iload_n 2, 1) := by decide +kernel
theorem dX1_spread_75 : decode cX1_spread 75 = .ok (.iand, 1) := by decide +kernel
theorem dX1_spread_76 : decode cX1_spread 76 = .ok (.iload_n 3, 1) := by decide +kernel
theorem dX1_spread_77 : decode cX1_spread 77 = .ok (.iconst (-1), 1) := by decide +kernel
theorem dX1_spread_78 : decode cX1_spread 78 = .ok (.ixor, 1) := by decide +kernel
theorem dX1_spread_79 : decode cX1_spread 79 = .ok (.iand, 1) := by decide +kernel
theorem dX1_spread_80 : decode cX1_spread 80 = .ok (.istore 4, 2) := by decide +kernel
theorem dX1_spread_82 : decode cX1_spread 82 = .ok (.iinc 5 1, 3) := by decide +kernel
theorem dX1_spread_85 : decode cX1_spread 85 = .ok (.goto (-75), 3) := by decide +kernel
theorem dX1_spread_88 : decode cX1_spread 88 = .ok (.iload_n 3, 1) := by decide +kernel
theorem dX1_spread_89 : decode cX1_spread 89 = .ok (.ireturn, 1) := by decide +kernel
set_option maxRecDepth 20000 in
theorem ggX1_catches_X1_hasTrap : GoodIn wsX1_catches wsX1_hasTrap := goodIn_r _ [8, 9, 15, 16, 17, 18, 19, 20, 21, 22, 23, 24, 25, 26] (by decide +kernel) (by decide +kernel)
set_option maxRecDepth 20000 in
theorem gX1_catches_X1_hasTrap : GoodIn wsX1_catches (wsV RX1 53 RX1 yX1_hasTrap wsX1_hasTrap) := goodIn_app (goodIn_of _ (by decide +kernel)) ggX1_catches_X1_hasTrap
set_option maxRecDepth 20000 in
theorem ggX1_catches_X1_hasWalker : GoodIn wsX1_catches wsX1_hasWalker := goodIn_r _ [13, 14, 15, 16, 17, 18, 19, 20, 21, 22, 23, 24, 25, 26] (by decide +kernel) (by decide +kernel)
set_option maxRecDepth 20000 in
theorem gX1_catches_X1_hasWalker : GoodIn wsX1_catches (wsV RX1 57 RX1 yX1_hasWalker wsX1_hasWalker) := goodIn_app (goodIn_of _ (by decide +kernel)) ggX1_catches_X1_hasWalker
theorem dX1_catches_0 : decode cX1_catches 0 = .ok (.aload_n 0, 1) := by decide +kernel
theorem dX1_catches_1 : decode cX1_catches 1 = .ok (.iload_n 1, 1) := by decide +kernel
theorem dX1_catches_2 : decode cX1_catches 2 = .ok (.invokevirtual 53, 3) := by decide +kernel
theorem dX1_catches_5 : decode cX1_catches 5 = .ok (.ifCond .eq 11, 3) := by decide +kernel
theorem dX1_catches_8 : decode cX1_catches 8 = .ok (.aload_n 0, 1) := by decide +kernel
theorem dX1_catches_9 : decode cX1_catches 9 = .ok (.iload_n 2, 1) := by decide +kernel
theorem dX1_catches_10 : decode cX1_catches 10 = .ok (.invokevirtual 57, 3) := by decide +kernel
theorem dX1_catches_13 : decode cX1_catches 13 = .ok (.ifCond .ne 5, 3) := by decide +kernel
theorem dX1_catches_16 : decode cX1_catches 16 = .ok (.iconst 0, 1) := by decide +kernel
theorem dX1_catches_17 : decode cX1_catches 17 = .ok (.ireturn, 1) := by decide +kernel
theorem dX1_catches_18 : decode cX1_catches 18 = .ok (.aload_n 0, 1) := by decide +kernel
theorem dX1_catches_19 : decode cX1_catches 19 = .ok (.getfield 46, 3) := by decide +kernel
theorem dX1_catches_22 : decode cX1_catches 22 = .ok (.iload_n 2, 1) := by decide +kernel
theorem dX1_catches_23 : decode cX1_catches 23 = .ok (.iaload, 1) := by decide +kernel
theorem dX1_catches_24 : decode cX1_catches 24 = .ok (.bipush (-9), 2) := by decide +kernel
theorem dX1_catches_26 : decode cX1_catches 26 = .ok (.if_icmp .ne 10, 3) := by decide +kernel
theorem dX1_catches_29 : decode cX1_catches 29 = .ok (.aload_n 0, 1) := by decide +kernel
theorem dX1_catches_30 : decode cX1_catches 30 = .ok (.getfield 27, 3) := by decide +kernel
theorem dX1_catches_33 : decode cX1_catches 33 = .ok (.goto 12, 3) := by decide +kernel
theorem dX1_catches_36 : decode cX1_catches 36 = .ok (.aload_n 0, 1) := by decide +kernel
theorem dX1_catches_37 : decode cX1_catches 37 = .ok (.getfield 27, 3) := by decide +kernel
theorem dX1_catches_40 : decode cX1_catches 40 = .ok (.aload_n 0, 1) := by decide +kernel
theorem dX1_catches_41 : decode cX1_catches 41 = .ok (.getfield 24, 3) := by decide +kernel
theorem dX1_catches_44 : decode cX1_catches 44 = .ok (.ior, 1) := by decide +kernel
theorem dX1_catches_45 : decode cX1_catches 45 = .ok (.istore_n 3, 1) := by decide +kernel
theorem dX1_catches_46 : decode cX1_catches 46 = .ok (.iload_n 3, 1) := by decide +kernel
theorem dX1_catches_47 : decode cX1_catches 47 = .ok (.iload_n 1, 1) := by decide +kernel
theorem dX1_catches_48 : decode cX1_catches 48 = .ok (.ishr, 1) := by decide +kernel
theorem dX1_catches_49 : decode cX1_catches 49 = .ok (.iconst 1, 1) := by decide +kernel
theorem dX1_catches_50 : decode cX1_catches 50 = .ok (.iand, 1) := by decide +kernel
theorem dX1_catches_51 : decode cX1_catches 51 = .ok (.ifCond .eq 7, 3) := by decide +kernel
theorem dX1_catches_54 : decode cX1_catches 54 = .ok (.iconst 1, 1) := by decide +kernel
theorem dX1_catches_55 : decode cX1_catches 55 = .ok (.goto 4, 3) := by decide +kernel
theorem dX1_catches_58 : decode cX1_catches 58 = .ok (.iconst 0, 1) := by decide +kernel
theorem dX1_catches_59 : decode cX1_catches 59 = .ok (.ireturn, 1) := by decide +kernel
set_option maxRecDepth 20000 in
theorem ggX1_onlyWakes_X1_hasTrap : GoodIn wsX1_onlyWakes wsX1_hasTrap := goodIn_r _ [6, 7, 8, 9, 10, 11, 12, 13, 14, 15, 16, 17, 18, 19] (by decide +kernel) (by decide +kernel)
set_option maxRecDepth 20000 in
theorem gX1_onlyWakes_X1_hasTrap : GoodIn wsX1_onlyWakes (wsV RX1 53 RX1 yX1_hasTrap wsX1_hasTrap) := goodIn_app (goodIn_of _ (by decide +kernel)) ggX1_onlyWakes_X1_hasTrap
theorem dX1_onlyWakes_0 : decode cX1_onlyWakes 0 = .ok (.aload_n 0, 1) := by decide +kernel
theorem dX1_onlyWakes_1 : decode cX1_onlyWakes 1 = .ok (.iload_n 1, 1) := by decide +kernel
theorem dX1_onlyWakes_2 : decode cX1_onlyWakes 2 = .ok (.invokevirtual 53, 3) := by decide +kernel
theorem dX1_onlyWakes_5 : decode cX1_onlyWakes 5 = .ok (.ifCond .eq 25, 3) := by decide +kernel
theorem dX1_onlyWakes_8 : decode cX1_onlyWakes 8 = .ok (.aload_n 0, 1) := by decide +kernel
theorem dX1_onlyWakes_9 : decode cX1_onlyWakes 9 = .ok (.getfield 37, 3) := by decide +kernel
theorem dX1_onlyWakes_12 : decode cX1_onlyWakes 12 = .ok (.iload_n 1, 1) := by decide +kernel
theorem dX1_onlyWakes_13 : decode cX1_onlyWakes 13 = .ok (.iaload, 1) := by decide +kernel
theorem dX1_onlyWakes_14 : decode cX1_onlyWakes 14 = .ok (.iconst 2, 1) := by decide +kernel
theorem dX1_onlyWakes_15 : decode cX1_onlyWakes 15 = .ok (.if_icmp .ne 15, 3) := by decide +kernel
theorem dX1_onlyWakes_18 : decode cX1_onlyWakes 18 = .ok (.iload_n 2, 1) := by decide +kernel
theorem dX1_onlyWakes_19 : decode cX1_onlyWakes 19 = .ok (.iload_n 1, 1) := by decide +kernel
theorem dX1_onlyWakes_20 : decode cX1_onlyWakes 20 = .ok (.ishr, 1) := by decide +kernel
theorem dX1_onlyWakes_21 : decode cX1_onlyWakes 21 = .ok (.iconst 1, 1) := by decide +kernel
theorem dX1_onlyWakes_22 : decode cX1_onlyWakes 22 = .ok (.iand, 1) := by decide +kernel
theorem dX1_onlyWakes_23 : decode cX1_onlyWakes 23 = .ok (.ifCond .ne 7, 3) := by decide +kernel
theorem dX1_onlyWakes_26 : decode cX1_onlyWakes 26 = .ok (.iconst 1, 1) := by decide +kernel
theorem dX1_onlyWakes_27 : decode cX1_onlyWakes 27 = .ok (.goto 4, 3) := by decide +kernel
theorem dX1_onlyWakes_30 : decode cX1_onlyWakes 30 = .ok (.iconst 0, 1) := by decide +kernel
theorem dX1_onlyWakes_31 : decode cX1_onlyWakes 31 = .ok (.ireturn, 1) := by decide +kernel
theorem dX2_init_0 : decode cX2_init 0 = .ok (.aload_n 0, 1) := by decide +kernel
theorem dX2_init_1 : decode cX2_init 1 = .ok (.invokespecial 3, 3) := by decide +kernel
theorem dX2_init_4 : decode cX2_init 4 = .ok (.aload_n 0, 1) := by decide +kernel
theorem dX2_init_5 : decode cX2_init 5 = .ok (.iconst 0, 1) := by decide +kernel
theorem dX2_init_6 : decode cX2_init 6 = .ok (.putfield 11, 3) := by decide +kernel
theorem dX2_init_9 : decode cX2_init 9 = .ok (.aload_n 0, 1) := by decide +kernel
theorem dX2_init_10 : decode cX2_init 10 = .ok (.iconst 0, 1) := by decide +kernel
theorem dX2_init_11 : decode cX2_init 11 = .ok (.putfield 15, 3) := by decide +kernel
theorem dX2_init_14 : decode cX2_init 14 = .ok (.aload_n 0, 1) := by decide +kernel
theorem dX2_init_15 : decode cX2_init 15 = .ok (.iconst 0, 1) := by decide +kernel
theorem dX2_init_16 : decode cX2_init 16 = .ok (.putfield 18, 3) := by decide +kernel
theorem dX2_init_19 : decode cX2_init 19 = .ok (.aload_n 0, 1) := by decide +kernel
theorem dX2_init_20 : decode cX2_init 20 = .ok (.iconst 0, 1) := by decide +kernel
theorem dX2_init_21 : decode cX2_init 21 = .ok (.putfield 21, 3) := by decide +kernel
theorem dX2_init_24 : decode cX2_init 24 = .ok (.aload_n 0, 1) := by decide +kernel
theorem dX2_init_25 : decode cX2_init 25 = .ok (.aload_n 1, 1) := by decide +kernel
theorem dX2_init_26 : decode cX2_init 26 = .ok (.putfield 24, 3) := by decide +kernel
theorem dX2_init_29 : decode cX2_init 29 = .ok (.return_, 1) := by decide +kernel
set_option maxRecDepth 20000 in
theorem ggX2_read_X1_clear : GoodIn wsX2_read wsX1_clear := goodIn_r _ [9, 10, 11, 12, 13, 14, 15, 16, 106, 107, 108, 109, 110, 111, 112, 113, 114, 115, 116, 117] (by decide +kernel) (by decide +kernel)
set_option maxRecDepth 20000 in
theorem gX2_read_X1_clear : GoodIn wsX2_read (wsV RX2 28 RX1 yX1_clear wsX1_clear) := goodIn_app (goodIn_of _ (by decide +kernel)) ggX2_read_X1_clear
set_option maxRecDepth 20000 in
theorem ggX2_read_X2_take : GoodIn wsX2_read wsX2_take := goodIn_r _ [21, 2, 22, 23, 24, 20, 25, 26, 1, 27, 28, 29, 30, 31, 8, 32, 10, 33, 34, 35, 36, 37, 38, 39, 40, 41, 42, 43, 44, 45, 46, 47, 48, 49, 50, 51, 52, 13, 14, 15, 53, 54, 55, 56, 57, 58, 59, 60, 61, 62, 63, 64, 65, 66, 67, 68, 69, 70, 71, 72, 73, 74, 75, 76, 77, 78, 11, 79, 80, 81, 82, 83, 84, 85, 86, 87, 88, 89, 90, 91, 92, 93, 94, 95, 96, 97, 98, 99, 100, 101, 102, 103, 106, 107, 108, 109, 110, 111, 112, 113, 114, 115, 116, 117] (by decide +kernel) (by decide +kernel)
set_option maxRecDepth 20000 in
theorem gX2_read_X2_take : GoodIn wsX2_read (wsV RX2 42 RX2 yX2_take wsX2_take) := goodIn_app (goodIn_of _ (by decide +kernel)) ggX2_read_X2_take
theorem dX2_read_0 : decode cX2_read 0 = .ok (.aload_n 0, 1) := by decide +kernel
theorem dX2_read_1 : decode cX2_read 1 = .ok (.aload_n 2, 1) := by decide +kernel
theorem dX2_read_2 : decode cX2_read 2 = .ok (.putfield 24, 3) := by decide +kernel
theorem dX2_read_5 : decode cX2_read 5 = .ok (.aload_n 0, 1) := by decide +kernel
theorem dX2_read_6 : decode cX2_read 6 = .ok (.getfield 24, 3) := by decide +kernel
theorem dX2_read_9 : decode cX2_read 9 = .ok (.invokevirtual 28, 3) := by decide +kernel
theorem dX2_read_12 : decode cX2_read 12 = .ok (.aload_n 0, 1) := by decide +kernel
theorem dX2_read_13 : decode cX2_read 13 = .ok (.iconst 0, 1) := by decide +kernel
theorem dX2_read_14 : decode cX2_read 14 = .ok (.putfield 11, 3) := by decide +kernel
theorem dX2_read_17 : decode cX2_read 17 = .ok (.iconst 0, 1) := by decide +kernel
theorem dX2_read_18 : decode cX2_read 18 = .ok (.istore_n 3, 1) := by decide +kernel
theorem dX2_read_19 : decode cX2_read 19 = .ok (.iload_n 3, 1) := by decide +kernel
theorem dX2_read_20 : decode cX2_read 20 = .ok (.bipush 64, 2) := by decide +kernel
theorem dX2_read_22 : decode cX2_read 22 = .ok (.if_icmp .ge 32, 3) := by decide +kernel
theorem dX2_read_25 : decode cX2_read 25 = .ok (.iload_n 3, 1) := by decide +kernel
theorem dX2_read_26 : decode cX2_read 26 = .ok (.aload_n 1, 1) := by decide +kernel
theorem dX2_read_27 : decode cX2_read 27 = .ok (.getfield 33, 3) := by decide +kernel
theorem dX2_read_30 : decode cX2_read 30 = .ok (.if_icmp .ge 24, 3) := by decide +kernel
theorem dX2_read_33 : decode cX2_read 33 = .ok (.aload_n 0, 1) := by decide +kernel
theorem dX2_read_34 : decode cX2_read 34 = .ok (.aload_n 1, 1) := by decide +kernel
theorem dX2_read_35 : decode cX2_read 35 = .ok (.getfield 38, 3) := by decide +kernel
theorem dX2_read_38 : decode cX2_read 38 = .ok (.iload_n 3, 1) := by decide +kernel
theorem dX2_read_39 : decode cX2_read 39 = .ok (.iaload, 1) := by decide +kernel
theorem dX2_read_40 : decode cX2_read 40 = .ok (.invokevirtual 42, 3) := by decide +kernel
theorem dX2_read_43 : decode cX2_read 43 = .ok (.ifCond .ne 5, 3) := by decide +kernel
theorem dX2_read_46 : decode cX2_read 46 = .ok (.iload_n 3, 1) := by decide +kernel
theorem dX2_read_47 : decode cX2_read 47 = .ok (.ireturn, 1) := by decide +kernel
theorem dX2_read_48 : decode cX2_read 48 = .ok (.iinc 3 1, 3) := by decide +kernel
theorem dX2_read_51 : decode cX2_read 51 = .ok (.goto (-32), 3) := by decide +kernel
theorem dX2_read_54 : decode cX2_read 54 = .ok (.aload_n 0, 1) := by decide +kernel
theorem dX2_read_55 : decode cX2_read 55 = .ok (.getfield 11, 3) := by decide +kernel
theorem dX2_read_58 : decode cX2_read 58 = .ok (.iconst 1, 1) := by decide +kernel
theorem dX2_read_59 : decode cX2_read 59 = .ok (.if_icmp .ne 8, 3) := by decide +kernel
theorem dX2_read_62 : decode cX2_read 62 = .ok (.bipush (-9), 2) := by decide +kernel
theorem dX2_read_64 : decode cX2_read 64 = .ok (.goto 7, 3) := by decide +kernel
theorem dX2_read_67 : decode cX2_read 67 = .ok (.aload_n 1, 1) := by decide +kernel
theorem dX2_read_68 : decode cX2_read 68 = .ok (.getfield 33, 3) := by decide +kernel
theorem dX2_read_71 : decode cX2_read 71 = .ok (.ireturn, 1) := by decide +kernel
set_option maxRecDepth 20000 in
theorem ggX2_take_X2_takeOfTrap : GoodIn wsX2_take wsX2_takeOfTrap := goodIn_r _ [6, 7, 8, 9, 10, 1, 11, 12, 13, 14, 15, 16, 17, 18, 19, 20, 21, 22, 23, 24, 5, 25, 26, 27, 28, 29, 30, 31, 32, 33, 34, 35, 36, 37, 38, 39, 87, 88, 89, 90, 91, 92, 93, 94, 95, 96, 97, 98, 99, 100, 101, 102, 103] (by decide +kernel) (by decide +kernel)
set_option maxRecDepth 20000 in
theorem gX2_take_X2_takeOfTrap : GoodIn wsX2_take (wsV RX2 46 RX2 yX2_takeOfTrap wsX2_takeOfTrap) := goodIn_app (goodIn_of _ (by decide +kernel)) ggX2_take_X2_takeOfTrap
set_option maxRecDepth 20000 in
theorem ggX2_take_X2_takeOfWire : GoodIn wsX2_take wsX2_takeOfWire := goodIn_r _ [43, 7, 10, 8, 44, 1, 45, 46, 47, 5, 48, 49, 50, 51, 14, 52, 16, 11, 12, 13, 15, 87, 88, 89, 90, 91, 92, 93, 94, 95, 96, 97, 98, 99, 100, 101, 102, 103] (by decide +kernel) (by decide +kernel)
set_option maxRecDepth 20000 in
theorem gX2_take_X2_takeOfWire : GoodIn wsX2_take (wsV RX2 49 RX2 yX2_takeOfWire wsX2_takeOfWire) := goodIn_app (goodIn_of _ (by decide +kernel)) ggX2_take_X2_takeOfWire
set_option maxRecDepth 20000 in
theorem ggX2_take_X2_takeOfClosed : GoodIn wsX2_take wsX2_takeOfClosed := goodIn_r _ [56, 7, 8, 57, 10, 1, 58, 59, 60, 5, 61, 62, 63, 64, 14, 65, 66, 67, 22, 23, 24, 25, 26, 27, 28, 87, 88, 89, 90, 91, 92, 93, 94, 95, 96, 97, 98, 99, 100, 101, 102, 103] (by decide +kernel) (by decide +kernel)
set_option maxRecDepth 20000 in
theorem gX2_take_X2_takeOfClosed : GoodIn wsX2_take (wsV RX2 52 RX2 yX2_takeOfClosed wsX2_takeOfClosed) := goodIn_app (goodIn_of _ (by decide +kernel)) ggX2_take_X2_takeOfClosed
set_option maxRecDepth 20000 in
theorem ggX2_take_X2_takeOfWalker : GoodIn wsX2_take wsX2_takeOfWalker := goodIn_r _ [71, 7, 8, 57, 10, 1, 22, 23, 24, 5, 25, 26, 27, 28, 29, 30, 72, 73, 74, 14, 75, 66, 67, 76, 87, 88, 89, 90, 91, 92, 93, 94, 95, 96, 97, 98, 99, 100, 101, 102, 103] (by decide +kernel) (by decide +kernel)
set_option maxRecDepth 20000 in
theorem gX2_take_X2_takeOfWalker : GoodIn wsX2_take (wsV RX2 55 RX2 yX2_takeOfWalker wsX2_takeOfWalker) := goodIn_app (goodIn_of _ (by decide +kernel)) ggX2_take_X2_takeOfWalker
set_option maxRecDepth 20000 in
theorem ggX2_take_X2_takeFirst : GoodIn wsX2_take wsX2_takeFirst := goodIn_r _ [80, 1, 7, 8, 81, 82, 57, 83, 84, 85, 5, 86, 45, 46, 47, 48, 44, 49, 50, 51, 14, 52, 16, 11, 12, 13, 15, 58, 59, 60, 61, 62, 63, 64, 65, 66, 67, 87, 88, 89, 90, 91, 92, 93, 94, 95, 96, 97, 98, 99, 100, 101, 102, 103] (by decide +kernel) (by decide +kernel)
set_option maxRecDepth 20000 in
theorem gX2_take_X2_takeFirst : GoodIn wsX2_take (wsV RX2 58 RX2 yX2_takeFirst wsX2_takeFirst) := goodIn_app (goodIn_of _ (by decide +kernel)) ggX2_take_X2_takeFirst
theorem dX2_take_0 : decode cX2_take 0 = .ok (.aload_n 0, 1) := by decide +kernel
theorem dX2_take_1 : decode cX2_take 1 = .ok (.getfield 11, 3) := by decide +kernel
theorem dX2_take_4 : decode cX2_take 4 = .ok (.lookupswitch 93 #[(0, 52), (71, 87), (84, 69), (87, 75), (88, 81)], 52) := by decide +kernel
theorem dX2_take_56 : decode cX2_take 56 = .ok (.aload_n 0, 1) := by decide +kernel
theorem dX2_take_57 : decode cX2_take 57 = .ok (.iconst 1, 1) := by decide +kernel
theorem dX2_take_58 : decode cX2_take 58 = .ok (.putfield 11, 3) := by decide +kernel
theorem dX2_take_61 : decode cX2_take 61 = .ok (.iload_n 1, 1) := by decide +kernel
theorem dX2_take_62 : decode cX2_take 62 = .ok (.bipush 70, 2) := by decide +kernel
theorem dX2_take_64 : decode cX2_take 64 = .ok (.if_icmp .ne 7, 3) := by decide +kernel
theorem dX2_take_67 : decode cX2_take 67 = .ok (.iconst 1, 1) := by decide +kernel
theorem dX2_take_68 : decode cX2_take 68 = .ok (.goto 4, 3) := by decide +kernel
theorem dX2_take_71 : decode cX2_take 71 = .ok (.iconst 0, 1) := by decide +kernel
theorem dX2_take_72 : decode cX2_take 72 = .ok (.ireturn, 1) := by decide +kernel
theorem dX2_take_73 : decode cX2_take 73 = .ok (.aload_n 0, 1) := by decide +kernel
theorem dX2_take_74 : decode cX2_take 74 = .ok (.iload_n 1, 1) := by decide +kernel
theorem dX2_take_75 : decode cX2_take 75 = .ok (.invokevirtual 46, 3) := by decide +kernel
theorem dX2_take_78 : decode cX2_take 78 = .ok (.ireturn, 1) := by decide +kernel
theorem dX2_take_79 : decode cX2_take 79 = .ok (.aload_n 0, 1) := by decide +kernel
theorem dX2_take_80 : decode cX2_take 80 = .ok (.iload_n 1, 1) := by decide +kernel
theorem dX2_take_81 : decode cX2_take 81 = .ok (.invokevirtual 49, 3) := by decide +kernel
theorem dX2_take_84 : decode cX2_take 84 = .ok (.ireturn, 1) := by decide +kernel
theorem dX2_take_85 : decode cX2_take 85 = .ok (.aload_n 0, 1) := by decide +kernel
theorem dX2_take_86 : decode cX2_take 86 = .ok (.iload_n 1, 1) := by decide +kernel
theorem dX2_take_87 : decode cX2_take 87 = .ok (.invokevirtual 52, 3) := by decide +kernel
theorem dX2_take_90 : decode cX2_take 90 = .ok (.ireturn, 1) := by decide +kernel
theorem dX2_take_91 : decode cX2_take 91 = .ok (.aload_n 0, 1) := by decide +kernel
theorem dX2_take_92 : decode cX2_take 92 = .ok (.iload_n 1, 1) := by decide +kernel
theorem dX2_take_93 : decode cX2_take 93 = .ok (.invokevirtual 55, 3) := by decide +kernel
theorem dX2_take_96 : decode cX2_take 96 = .ok (.ireturn, 1) := by decide +kernel
theorem dX2_take_97 : decode cX2_take 97 = .ok (.aload_n 0, 1) := by decide +kernel
theorem dX2_take_98 : decode cX2_take 98 = .ok (.iload_n 1, 1) := by decide +kernel
theorem dX2_take_99 : decode cX2_take 99 = .ok (.invokevirtual 58, 3) := by decide +kernel
theorem dX2_take_102 : decode cX2_take 102 = .ok (.ireturn, 1) := by decide +kernel
set_option maxRecDepth 20000 in
theorem ggX2_takeFirst_X2_canBeWired : GoodIn wsX2_takeFirst wsX2_canBeWired := goodIn_r _ [11, 12, 13, 14, 10, 15, 3, 16, 17, 18, 19, 20, 21, 22, 23, 24, 25, 26, 37, 38, 39, 40, 41, 42, 43, 44, 45, 46, 47, 48, 49, 50, 51, 52, 53] (by decide +kernel) (by decide +kernel)
set_option maxRecDepth 20000 in
theorem gX2_takeFirst_X2_canBeWired : GoodIn wsX2_takeFirst (wsV RX2 64 RX2 yX2_canBeWired wsX2_canBeWired) := goodIn_app (goodIn_of _ (by decide +kernel)) ggX2_takeFirst_X2_canBeWired
set_option maxRecDepth 20000 in
theorem ggX2_takeFirst_X2_cellsToClose : GoodIn wsX2_takeFirst wsX2_cellsToClose := goodIn_r _ [30, 3, 6, 31, 32, 33, 20, 34, 35, 36, 37, 38, 39, 40, 41, 42, 43, 44, 45, 46, 47, 48, 49, 50, 51, 52, 53] (by decide +kernel) (by decide +kernel)
set_option maxRecDepth 20000 in
theorem gX2_takeFirst_X2_cellsToClose : GoodIn wsX2_takeFirst (wsV RX2 68 RX2 yX2_cellsToClose wsX2_cellsToClose) := goodIn_app (goodIn_of _ (by decide +kernel)) ggX2_takeFirst_X2_cellsToClose
theorem dX2_takeFirst_0 : decode cX2_takeFirst 0 = .ok (.aload_n 0, 1) := by decide +kernel
theorem dX2_takeFirst_1 : decode cX2_takeFirst 1 = .ok (.iload_n 1, 1) := by decide +kernel
theorem dX2_takeFirst_2 : decode cX2_takeFirst 2 = .ok (.putfield 11, 3) := by decide +kernel
theorem dX2_takeFirst_5 : decode cX2_takeFirst 5 = .ok (.aload_n 0, 1) := by decide +kernel
theorem dX2_takeFirst_6 : decode cX2_takeFirst 6 = .ok (.iconst 0, 1) := by decide +kernel
theorem dX2_takeFirst_7 : decode cX2_takeFirst 7 = .ok (.putfield 15, 3) := by decide +kernel
theorem dX2_takeFirst_10 : decode cX2_takeFirst 10 = .ok (.iload_n 1, 1) := by decide +kernel
theorem dX2_takeFirst_11 : decode cX2_takeFirst 11 = .ok (.lookupswitch 107 #[(71, 77), (84, 41), (87, 59), (88, 64)], 41) := by decide +kernel
theorem dX2_takeFirst_52 : decode cX2_takeFirst 52 = .ok (.aload_n 0, 1) := by decide +kernel
theorem dX2_takeFirst_53 : decode cX2_takeFirst 53 = .ok (.getfield 24, 3) := by decide +kernel
theorem dX2_takeFirst_56 : decode cX2_takeFirst 56 = .ok (.getfield 61, 3) := by decide +kernel
theorem dX2_takeFirst_59 : decode cX2_takeFirst 59 = .ok (.bipush 6, 2) := by decide +kernel
theorem dX2_takeFirst_61 : decode cX2_takeFirst 61 = .ok (.if_icmp .ge 7, 3) := by decide +kernel
theorem dX2_takeFirst_64 : decode cX2_takeFirst 64 = .ok (.iconst 1, 1) := by decide +kernel
theorem dX2_takeFirst_65 : decode cX2_takeFirst 65 = .ok (.goto 4, 3) := by decide +kernel
theorem dX2_takeFirst_68 : decode cX2_takeFirst 68 = .ok (.iconst 0, 1) := by decide +kernel
theorem dX2_takeFirst_69 : decode cX2_takeFirst 69 = .ok (.ireturn, 1) := by decide +kernel
theorem dX2_takeFirst_70 : decode cX2_takeFirst 70 = .ok (.aload_n 0, 1) := by decide +kernel
theorem dX2_takeFirst_71 : decode cX2_takeFirst 71 = .ok (.invokevirtual 64, 3) := by decide +kernel
theorem dX2_takeFirst_74 : decode cX2_takeFirst 74 = .ok (.ireturn, 1) := by decide +kernel
theorem dX2_takeFirst_75 : decode cX2_takeFirst 75 = .ok (.aload_n 0, 1) := by decide +kernel
theorem dX2_takeFirst_76 : decode cX2_takeFirst 76 = .ok (.invokevirtual 68, 3) := by decide +kernel
theorem dX2_takeFirst_79 : decode cX2_takeFirst 79 = .ok (.ifCond .eq 7, 3) := by decide +kernel
theorem dX2_takeFirst_82 : decode cX2_takeFirst 82 = .ok (.iconst 1, 1) := by decide +kernel
theorem dX2_takeFirst_83 : decode cX2_takeFirst 83 = .ok (.goto 4, 3) := by decide +kernel
theorem dX2_takeFirst_86 : decode cX2_takeFirst 86 = .ok (.iconst 0, 1) := by decide +kernel
theorem dX2_takeFirst_87 : decode cX2_takeFirst 87 = .ok (.ireturn, 1) := by decide +kernel
theorem dX2_takeFirst_88 : decode cX2_takeFirst 88 = .ok (.aload_n 0, 1) := by decide +kernel
theorem dX2_takeFirst_89 : decode cX2_takeFirst 89 = .ok (.getfield 24, 3) := by decide +kernel
theorem dX2_takeFirst_92 : decode cX2_takeFirst 92 = .ok (.getfield 72, 3) := by decide +kernel
theorem dX2_takeFirst_95 : decode cX2_takeFirst 95 = .ok (.iconst 4, 1) := by decide +kernel
theorem dX2_takeFirst_96 : decode cX2_takeFirst 96 = .ok (.if_icmp .ge 20, 3) := by decide +kernel
theorem dX2_takeFirst_99 : decode cX2_takeFirst 99 = .ok (.aload_n 0, 1) := by decide +kernel
theorem dX2_takeFirst_100 : decode cX2_takeFirst 100 = .ok (.getfield 24, 3) := by decide +kernel
theorem dX2_takeFirst_103 : decode cX2_takeFirst 103 = .ok (.getfield 75, 3) := by decide +kernel
theorem dX2_takeFirst_106 : decode cX2_takeFirst 106 = .ok (.sipush 4095, 3) := by decide +kernel
theorem dX2_takeFirst_109 : decode cX2_takeFirst 109 = .ok (.if_icmp .eq 7, 3) := by decide +kernel
theorem dX2_takeFirst_112 : decode cX2_takeFirst 112 = .ok (.iconst 1, 1) := by decide +kernel
theorem dX2_takeFirst_113 : decode cX2_takeFirst 113 = .ok (.goto 4, 3) := by decide +kernel
theorem dX2_takeFirst_116 : decode cX2_takeFirst 116 = .ok (.iconst 0, 1) := by decide +kernel
theorem dX2_takeFirst_117 : decode cX2_takeFirst 117 = .ok (.ireturn, 1) := by decide +kernel
theorem dX2_takeFirst_118 : decode cX2_takeFirst 118 = .ok (.iconst 0, 1) := by decide +kernel
theorem dX2_takeFirst_119 : decode cX2_takeFirst 119 = .ok (.ireturn, 1) := by decide +kernel
set_option maxRecDepth 20000 in
theorem ggX2_takeOfTrap_X1_allTraps : GoodIn wsX2_takeOfTrap wsX1_allTraps := goodIn_r _ [10, 11, 41, 42, 43, 44, 45, 46, 47, 48, 49, 50, 51, 52] (by decide +kernel) (by decide +kernel)
set_option maxRecDepth 20000 in
theorem gX2_takeOfTrap_X1_allTraps : GoodIn wsX2_takeOfTrap (wsV RX2 78 RX1 yX1_allTraps wsX1_allTraps) := goodIn_app (goodIn_of _ (by decide +kernel)) ggX2_takeOfTrap_X1_allTraps
set_option maxRecDepth 20000 in
theorem ggX2_takeOfTrap_X1_cellsOf : GoodIn wsX2_takeOfTrap wsX1_cellsOf := goodIn_r _ [15, 11, 16, 41, 42, 43, 44, 45, 46, 47, 48, 49, 50, 51, 52] (by decide +kernel) (by decide +kernel)
set_option maxRecDepth 20000 in
theorem gX2_takeOfTrap_X1_cellsOf : GoodIn wsX2_takeOfTrap (wsV RX2 81 RX1 yX1_cellsOf wsX1_cellsOf) := goodIn_app (goodIn_of _ (by decide +kernel)) ggX2_takeOfTrap_X1_cellsOf
set_option maxRecDepth 20000 in
theorem ggX2_takeOfTrap_X2_takeOfCell : GoodIn wsX2_takeOfTrap wsX2_takeOfCell := goodIn_r _ [21, 1, 4, 22, 23, 24, 36, 37, 38, 39, 40] (by decide +kernel) (by decide +kernel)
set_option maxRecDepth 20000 in
theorem gX2_takeOfTrap_X2_takeOfCell : GoodIn wsX2_takeOfTrap (wsV RX2 85 RX2 yX2_takeOfCell wsX2_takeOfCell) := goodIn_app (goodIn_of _ (by decide +kernel)) ggX2_takeOfTrap_X2_takeOfCell
set_option maxRecDepth 20000 in
theorem ggX2_takeOfTrap_X7_isSide : GoodIn wsX2_takeOfTrap wsX7_isSide := goodIn_r _ [26] (by decide +kernel) (by decide +kernel)
set_option maxRecDepth 20000 in
theorem gX2_takeOfTrap_X7_isSide_n89 : GoodIn wsX2_takeOfTrap (wsX7_isSide) := ggX2_takeOfTrap_X7_isSide
set_option maxRecDepth 20000 in
theorem ggX2_takeOfTrap_X1_addTrap : GoodIn wsX2_takeOfTrap wsX1_addTrap := goodIn_r _ [30, 11, 16, 31, 32, 33, 34, 35, 41, 42, 43, 44, 45, 46, 47, 48, 49, 50, 51, 52] (by decide +kernel) (by decide +kernel)
set_option maxRecDepth 20000 in
theorem gX2_takeOfTrap_X1_addTrap : GoodIn wsX2_takeOfTrap (wsV RX2 92 RX1 yX1_addTrap wsX1_addTrap) := goodIn_app (goodIn_of _ (by decide +kernel)) ggX2_takeOfTrap_X1_addTrap
theorem dX2_takeOfTrap_0 : decode cX2_takeOfTrap 0 = .ok (.aload_n 0, 1) := by decide +kernel
theorem dX2_takeOfTrap_1 : decode cX2_takeOfTrap 1 = .ok (.getfield 15, 3) := by decide +kernel
theorem dX2_takeOfTrap_4 : decode cX2_takeOfTrap 4 = .ok (.iconst 2, 1) := by decide +kernel
theorem dX2_takeOfTrap_5 : decode cX2_takeOfTrap 5 = .ok (.if_icmp .ge 29, 3) := by decide +kernel
theorem dX2_takeOfTrap_8 : decode cX2_takeOfTrap 8 = .ok (.aload_n 0, 1) := by decide +kernel
theorem dX2_takeOfTrap_9 : decode cX2_takeOfTrap 9 = .ok (.iload_n 1, 1) := by decide +kernel
theorem dX2_takeOfTrap_10 : decode cX2_takeOfTrap 10 = .ok (.sipush 4095, 3) := by decide +kernel
theorem dX2_takeOfTrap_13 : decode cX2_takeOfTrap 13 = .ok (.aload_n 0, 1) := by decide +kernel
theorem dX2_takeOfTrap_14 : decode cX2_takeOfTrap 14 = .ok (.getfield 24, 3) := by decide +kernel
theorem dX2_takeOfTrap_17 : decode cX2_takeOfTrap 17 = .ok (.aload_n 0, 1) := by decide +kernel
theorem dX2_takeOfTrap_18 : decode cX2_takeOfTrap 18 = .ok (.getfield 24, 3) := by decide +kernel
theorem dX2_takeOfTrap_21 : decode cX2_takeOfTrap 21 = .ok (.invokevirtual 78, 3) := by decide +kernel
theorem dX2_takeOfTrap_24 : decode cX2_takeOfTrap 24 = .ok (.invokevirtual 81, 3) := by decide +kernel
theorem dX2_takeOfTrap_27 : decode cX2_takeOfTrap 27 = .ok (.iconst (-1), 1) := by decide +kernel
theorem dX2_takeOfTrap_28 : decode cX2_takeOfTrap 28 = .ok (.ixor, 1) := by decide +kernel
theorem dX2_takeOfTrap_29 : decode cX2_takeOfTrap 29 = .ok (.iand, 1) := by decide +kernel
theorem dX2_takeOfTrap_30 : decode cX2_takeOfTrap 30 = .ok (.invokevirtual 85, 3) := by decide +kernel
theorem dX2_takeOfTrap_33 : decode cX2_takeOfTrap 33 = .ok (.ireturn, 1) := by decide +kernel
theorem dX2_takeOfTrap_34 : decode cX2_takeOfTrap 34 = .ok (.iload_n 1, 1) := by decide +kernel
theorem dX2_takeOfTrap_35 : decode cX2_takeOfTrap 35 = .ok (.bipush 48, 2) := by decide +kernel
theorem dX2_takeOfTrap_37 : decode cX2_takeOfTrap 37 = .ok (.isub, 1) := by decide +kernel
theorem dX2_takeOfTrap_38 : decode cX2_takeOfTrap 38 = .ok (.istore_n 2, 1) := by decide +kernel
theorem dX2_takeOfTrap_39 : decode cX2_takeOfTrap 39 = .ok (.aload_n 0, 1) := by decide +kernel
theorem dX2_takeOfTrap_40 : decode cX2_takeOfTrap 40 = .ok (.getfield 15, 3) := by decide +kernel
theorem dX2_takeOfTrap_43 : decode cX2_takeOfTrap 43 = .ok (.iconst 2, 1) := by decide +kernel
theorem dX2_takeOfTrap_44 : decode cX2_takeOfTrap 44 = .ok (.if_icmp .ne 23, 3) := by decide +kernel
theorem dX2_takeOfTrap_47 : decode cX2_takeOfTrap 47 = .ok (.aload_n 0, 1) := by decide +kernel
theorem dX2_takeOfTrap_48 : decode cX2_takeOfTrap 48 = .ok (.iload_n 2, 1) := by decide +kernel
theorem dX2_takeOfTrap_49 : decode cX2_takeOfTrap 49 = .ok (.putfield 21, 3) := by decide +kernel
theorem dX2_takeOfTrap_52 : decode cX2_takeOfTrap 52 = .ok (.aload_n 0, 1) := by decide +kernel
theorem dX2_takeOfTrap_53 : decode cX2_takeOfTrap 53 = .ok (.dup, 1) := by decide +kernel
theorem dX2_takeOfTrap_54 : decode cX2_takeOfTrap 54 = .ok (.getfield 15, 3) := by decide +kernel
theorem dX2_takeOfTrap_57 : decode cX2_takeOfTrap 57 = .ok (.iconst 1, 1) := by decide +kernel
theorem dX2_takeOfTrap_58 : decode cX2_takeOfTrap 58 = .ok (.iadd, 1) := by decide +kernel
theorem dX2_takeOfTrap_59 : decode cX2_takeOfTrap 59 = .ok (.putfield 15, 3) := by decide +kernel
theorem dX2_takeOfTrap_62 : decode cX2_takeOfTrap 62 = .ok (.iload_n 2, 1) := by decide +kernel
theorem dX2_takeOfTrap_63 : decode cX2_takeOfTrap 63 = .ok (.invokestatic 89, 3) := by decide +kernel
theorem dX2_takeOfTrap_66 : decode cX2_takeOfTrap 66 = .ok (.ireturn, 1) := by decide +kernel
theorem dX2_takeOfTrap_67 : decode cX2_takeOfTrap 67 = .ok (.iload_n 2, 1) := by decide +kernel
theorem dX2_takeOfTrap_68 : decode cX2_takeOfTrap 68 = .ok (.ifCond .lt 8, 3) := by decide +kernel
theorem dX2_takeOfTrap_71 : decode cX2_takeOfTrap 71 = .ok (.iload_n 2, 1) := by decide +kernel
theorem dX2_takeOfTrap_72 : decode cX2_takeOfTrap 72 = .ok (.iconst 5, 1) := by decide +kernel
theorem dX2_takeOfTrap_73 : decode cX2_takeOfTrap 73 = .ok (.if_icmp .lt 5, 3) := by decide +kernel
theorem dX2_takeOfTrap_76 : decode cX2_takeOfTrap 76 = .ok (.iconst 0, 1) := by decide +kernel
theorem dX2_takeOfTrap_77 : decode cX2_takeOfTrap 77 = .ok (.ireturn, 1) := by decide +kernel
theorem dX2_takeOfTrap_78 : decode cX2_takeOfTrap 78 = .ok (.aload_n 0, 1) := by decide +kernel
theorem dX2_takeOfTrap_79 : decode cX2_takeOfTrap 79 = .ok (.getfield 24, 3) := by decide +kernel
theorem dX2_takeOfTrap_82 : decode cX2_takeOfTrap 82 = .ok (.aload_n 0, 1) := by decide +kernel
theorem dX2_takeOfTrap_83 : decode cX2_takeOfTrap 83 = .ok (.getfield 18, 3) := by decide +kernel
theorem dX2_takeOfTrap_86 : decode cX2_takeOfTrap 86 = .ok (.aload_n 0, 1) := by decide +kernel
theorem dX2_takeOfTrap_87 : decode cX2_takeOfTrap 87 = .ok (.getfield 21, 3) := by decide +kernel
theorem dX2_takeOfTrap_90 : decode cX2_takeOfTrap 90 = .ok (.iload_n 2, 1) := by decide +kernel
theorem dX2_takeOfTrap_91 : decode cX2_takeOfTrap 91 = .ok (.invokevirtual 92, 3) := by decide +kernel
theorem dX2_takeOfTrap_94 : decode cX2_takeOfTrap 94 = .ok (.aload_n 0, 1) := by decide +kernel
theorem dX2_takeOfTrap_95 : decode cX2_takeOfTrap 95 = .ok (.iconst 1, 1) := by decide +kernel
theorem dX2_takeOfTrap_96 : decode cX2_takeOfTrap 96 = .ok (.putfield 11, 3) := by decide +kernel
theorem dX2_takeOfTrap_99 : decode cX2_takeOfTrap 99 = .ok (.iconst 1, 1) := by decide +kernel
theorem dX2_takeOfTrap_100 : decode cX2_takeOfTrap 100 = .ok (.ireturn, 1) := by decide +kernel
set_option maxRecDepth 20000 in
theorem ggX2_takeOfWire_X2_wiresLeft : GoodIn wsX2_takeOfWire wsX2_wiresLeft := goodIn_r _ [10, 3, 4, 11, 12, 13, 14, 15, 16, 17, 18, 19, 20, 21, 22, 23, 24, 25, 26, 27, 28, 29, 30, 31, 32, 33, 34, 35, 36, 37] (by decide +kernel) (by decide +kernel)
set_option maxRecDepth 20000 in
theorem gX2_takeOfWire_X2_wiresLeft : GoodIn wsX2_takeOfWire (wsV RX2 96 RX2 yX2_wiresLeft wsX2_wiresLeft) := goodIn_app (goodIn_of _ (by decide +kernel)) ggX2_takeOfWire_X2_wiresLeft
set_option maxRecDepth 20000 in
theorem ggX2_takeOfWire_X1_hasTrap : GoodIn wsX2_takeOfWire wsX1_hasTrap := goodIn_r _ [15, 16, 26, 27, 28, 29, 30, 31, 32, 33, 34, 35, 36, 37] (by decide +kernel) (by decide +kernel)
set_option maxRecDepth 20000 in
theorem gX2_takeOfWire_X1_hasTrap : GoodIn wsX2_takeOfWire (wsV RX2 99 RX1 yX1_hasTrap wsX1_hasTrap) := goodIn_app (goodIn_of _ (by decide +kernel)) ggX2_takeOfWire_X1_hasTrap
theorem dX2_takeOfWire_0 : decode cX2_takeOfWire 0 = .ok (.iload_n 1, 1) := by decide +kernel
theorem dX2_takeOfWire_1 : decode cX2_takeOfWire 1 = .ok (.bipush 48, 2) := by decide +kernel
theorem dX2_takeOfWire_3 : decode cX2_takeOfWire 3 = .ok (.isub, 1) := by decide +kernel
theorem dX2_takeOfWire_4 : decode cX2_takeOfWire 4 = .ok (.istore_n 2, 1) := by decide +kernel
theorem dX2_takeOfWire_5 : decode cX2_takeOfWire 5 = .ok (.aload_n 0, 1) := by decide +kernel
theorem dX2_takeOfWire_6 : decode cX2_takeOfWire 6 = .ok (.getfield 15, 3) := by decide +kernel
theorem dX2_takeOfWire_9 : decode cX2_takeOfWire 9 = .ok (.ifCond .ne 32, 3) := by decide +kernel
theorem dX2_takeOfWire_12 : decode cX2_takeOfWire 12 = .ok (.aload_n 0, 1) := by decide +kernel
theorem dX2_takeOfWire_13 : decode cX2_takeOfWire 13 = .ok (.iload_n 2, 1) := by decide +kernel
theorem dX2_takeOfWire_14 : decode cX2_takeOfWire 14 = .ok (.putfield 18, 3) := by decide +kernel
theorem dX2_takeOfWire_17 : decode cX2_takeOfWire 17 = .ok (.aload_n 0, 1) := by decide +kernel
theorem dX2_takeOfWire_18 : decode cX2_takeOfWire 18 = .ok (.dup, 1) := by decide +kernel
theorem dX2_takeOfWire_19 : decode cX2_takeOfWire 19 = .ok (.getfield 15, 3) := by decide +kernel
theorem dX2_takeOfWire_22 : decode cX2_takeOfWire 22 = .ok (.iconst 1, 1) := by decide +kernel
theorem dX2_takeOfWire_23 : decode cX2_takeOfWire 23 = .ok (.iadd, 1) := by decide +kernel
theorem dX2_takeOfWire_24 : decode cX2_takeOfWire 24 = .ok (.putfield 15, 3) := by decide +kernel
theorem dX2_takeOfWire_27 : decode cX2_takeOfWire 27 = .ok (.aload_n 0, 1) := by decide +kernel
theorem dX2_takeOfWire_28 : decode cX2_takeOfWire 28 = .ok (.iload_n 2, 1) := by decide +kernel
theorem dX2_takeOfWire_29 : decode cX2_takeOfWire 29 = .ok (.invokevirtual 96, 3) := by decide +kernel
theorem dX2_takeOfWire_32 : decode cX2_takeOfWire 32 = .ok (.ifCond .eq 7, 3) := by decide +kernel
theorem dX2_takeOfWire_35 : decode cX2_takeOfWire 35 = .ok (.iconst 1, 1) := by decide +kernel
theorem dX2_takeOfWire_36 : decode cX2_takeOfWire 36 = .ok (.goto 4, 3) := by decide +kernel
theorem dX2_takeOfWire_39 : decode cX2_takeOfWire 39 = .ok (.iconst 0, 1) := by decide +kernel
theorem dX2_takeOfWire_40 : decode cX2_takeOfWire 40 = .ok (.ireturn, 1) := by decide +kernel
theorem dX2_takeOfWire_41 : decode cX2_takeOfWire 41 = .ok (.aload_n 0, 1) := by decide +kernel
theorem dX2_takeOfWire_42 : decode cX2_takeOfWire 42 = .ok (.getfield 24, 3) := by decide +kernel
theorem dX2_takeOfWire_45 : decode cX2_takeOfWire 45 = .ok (.aload_n 0, 1) := by decide +kernel
theorem dX2_takeOfWire_46 : decode cX2_takeOfWire 46 = .ok (.getfield 18, 3) := by decide +kernel
theorem dX2_takeOfWire_49 : decode cX2_takeOfWire 49 = .ok (.invokevirtual 99, 3) := by decide +kernel
theorem dX2_takeOfWire_52 : decode cX2_takeOfWire 52 = .ok (.ifCond .eq 29, 3) := by decide +kernel
theorem dX2_takeOfWire_55 : decode cX2_takeOfWire 55 = .ok (.aload_n 0, 1) := by decide +kernel
theorem dX2_takeOfWire_56 : decode cX2_takeOfWire 56 = .ok (.getfield 24, 3) := by decide +kernel
theorem dX2_takeOfWire_59 : decode cX2_takeOfWire 59 = .ok (.iload_n 2, 1) := by decide +kernel
theorem dX2_takeOfWire_60 : decode cX2_takeOfWire 60 = .ok (.invokevirtual 99, 3) := by decide +kernel
theorem dX2_takeOfWire_63 : decode cX2_takeOfWire 63 = .ok (.ifCond .eq 18, 3) := by decide +kernel
theorem dX2_takeOfWire_66 : decode cX2_takeOfWire 66 = .ok (.aload_n 0, 1) := by decide +kernel
theorem dX2_takeOfWire_67 : decode cX2_takeOfWire 67 = .ok (.aload_n 0, 1) := by decide +kernel
theorem dX2_takeOfWire_68 : decode cX2_takeOfWire 68 = .ok (.getfield 18, 3) := by decide +kernel
theorem dX2_takeOfWire_71 : decode cX2_takeOfWire 71 = .ok (.invokevirtual 96, 3) := by decide +kernel
theorem dX2_takeOfWire_74 : decode cX2_takeOfWire 74 = .ok (.iload_n 2, 1) := by decide +kernel
theorem dX2_takeOfWire_75 : decode cX2_takeOfWire 75 = .ok (.ishr, 1) := by decide +kernel
theorem dX2_takeOfWire_76 : decode cX2_takeOfWire 76 = .ok (.iconst 1, 1) := by decide +kernel
theorem dX2_takeOfWire_77 : decode cX2_takeOfWire 77 = .ok (.iand, 1) := by decide +kernel
theorem dX2_takeOfWire_78 : decode cX2_takeOfWire 78 = .ok (.ifCond .ne 5, 3) := by decide +kernel
theorem dX2_takeOfWire_81 : decode cX2_takeOfWire 81 = .ok (.iconst 0, 1) := by decide +kernel
theorem dX2_takeOfWire_82 : decode cX2_takeOfWire 82 = .ok (.ireturn, 1) := by decide +kernel
theorem dX2_takeOfWire_83 : decode cX2_takeOfWire 83 = .ok (.aload_n 0, 1) := by decide +kernel
theorem dX2_takeOfWire_84 : decode cX2_takeOfWire 84 = .ok (.getfield 24, 3) := by decide +kernel
theorem dX2_takeOfWire_87 : decode cX2_takeOfWire 87 = .ok (.getfield 102, 3) := by decide +kernel
theorem dX2_takeOfWire_90 : decode cX2_takeOfWire 90 = .ok (.aload_n 0, 1) := by decide +kernel
theorem dX2_takeOfWire_91 : decode cX2_takeOfWire 91 = .ok (.getfield 18, 3) := by decide +kernel
theorem dX2_takeOfWire_94 : decode cX2_takeOfWire 94 = .ok (.dup2, 1) := by decide +kernel
theorem dX2_takeOfWire_95 : decode cX2_takeOfWire 95 = .ok (.iaload, 1) := by decide +kernel
theorem dX2_takeOfWire_96 : decode cX2_takeOfWire 96 = .ok (.iconst 1, 1) := by decide +kernel
theorem dX2_takeOfWire_97 : decode cX2_takeOfWire 97 = .ok (.iload_n 2, 1) := by decide +kernel
theorem dX2_takeOfWire_98 : decode cX2_takeOfWire 98 = .ok (.ishl, 1) := by decide +kernel
theorem dX2_takeOfWire_99 : decode cX2_takeOfWire 99 = .ok (.ior, 1) := by decide +kernel
theorem dX2_takeOfWire_100 : decode cX2_takeOfWire 100 = .ok (.iastore, 1) := by decide +kernel
theorem dX2_takeOfWire_101 : decode cX2_takeOfWire 101 = .ok (.aload_n 0, 1) := by decide +kernel
theorem dX2_takeOfWire_102 : decode cX2_takeOfWire 102 = .ok (.iconst 1, 1) := by decide +kernel
theorem dX2_takeOfWire_103 : decode cX2_takeOfWire 103 = .ok (.putfield 11, 3) := by decide +kernel
theorem dX2_takeOfWire_106 : decode cX2_takeOfWire 106 = .ok (.iconst 1, 1) := by decide +kernel
theorem dX2_takeOfWire_107 : decode cX2_takeOfWire 107 = .ok (.ireturn, 1) := by decide +kernel
set_option maxRecDepth 20000 in
theorem ggX2_takeOfClosed_X2_cellsToClose : GoodIn wsX2_takeOfClosed wsX2_cellsToClose := goodIn_r _ [10, 2, 3, 11, 12, 13, 14, 15, 16, 17, 25, 26, 27, 28, 29, 30, 31, 32, 33, 34, 35, 36, 37, 38, 39, 40, 41] (by decide +kernel) (by decide +kernel)
set_option maxRecDepth 20000 in
theorem gX2_takeOfClosed_X2_cellsToClose : GoodIn wsX2_takeOfClosed (wsV RX2 68 RX2 yX2_cellsToClose wsX2_cellsToClose) := goodIn_app (goodIn_of _ (by decide +kernel)) ggX2_takeOfClosed_X2_cellsToClose
set_option maxRecDepth 20000 in
theorem ggX2_takeOfClosed_X2_takeOfCell : GoodIn wsX2_takeOfClosed wsX2_takeOfCell := goodIn_r _ [21, 1, 4, 22, 23, 24, 25, 26, 27, 28, 29] (by decide +kernel) (by decide +kernel)
set_option maxRecDepth 20000 in
theorem gX2_takeOfClosed_X2_takeOfCell : GoodIn wsX2_takeOfClosed (wsV RX2 85 RX2 yX2_takeOfCell wsX2_takeOfCell) := goodIn_app (goodIn_of _ (by decide +kernel)) ggX2_takeOfClosed_X2_takeOfCell
theorem dX2_takeOfClosed_0 : decode cX2_takeOfClosed 0 = .ok (.aload_n 0, 1) := by decide +kernel
theorem dX2_takeOfClosed_1 : decode cX2_takeOfClosed 1 = .ok (.iload_n 1, 1) := by decide +kernel
theorem dX2_takeOfClosed_2 : decode cX2_takeOfClosed 2 = .ok (.aload_n 0, 1) := by decide +kernel
theorem dX2_takeOfClosed_3 : decode cX2_takeOfClosed 3 = .ok (.invokevirtual 68, 3) := by decide +kernel
theorem dX2_takeOfClosed_6 : decode cX2_takeOfClosed 6 = .ok (.invokevirtual 85, 3) := by decide +kernel
theorem dX2_takeOfClosed_9 : decode cX2_takeOfClosed 9 = .ok (.ifCond .ne 5, 3) := by decide +kernel
theorem dX2_takeOfClosed_12 : decode cX2_takeOfClosed 12 = .ok (.iconst 0, 1) := by decide +kernel
theorem dX2_takeOfClosed_13 : decode cX2_takeOfClosed 13 = .ok (.ireturn, 1) := by decide +kernel
theorem dX2_takeOfClosed_14 : decode cX2_takeOfClosed 14 = .ok (.aload_n 0, 1) := by decide +kernel
theorem dX2_takeOfClosed_15 : decode cX2_takeOfClosed 15 = .ok (.getfield 15, 3) := by decide +kernel
theorem dX2_takeOfClosed_18 : decode cX2_takeOfClosed 18 = .ok (.iconst 2, 1) := by decide +kernel
theorem dX2_takeOfClosed_19 : decode cX2_takeOfClosed 19 = .ok (.if_icmp .ne 26, 3) := by decide +kernel
theorem dX2_takeOfClosed_22 : decode cX2_takeOfClosed 22 = .ok (.aload_n 0, 1) := by decide +kernel
theorem dX2_takeOfClosed_23 : decode cX2_takeOfClosed 23 = .ok (.getfield 24, 3) := by decide +kernel
theorem dX2_takeOfClosed_26 : decode cX2_takeOfClosed 26 = .ok (.dup, 1) := by decide +kernel
theorem dX2_takeOfClosed_27 : decode cX2_takeOfClosed 27 = .ok (.getfield 75, 3) := by decide +kernel
theorem dX2_takeOfClosed_30 : decode cX2_takeOfClosed 30 = .ok (.iconst 1, 1) := by decide +kernel
theorem dX2_takeOfClosed_31 : decode cX2_takeOfClosed 31 = .ok (.aload_n 0, 1) := by decide +kernel
theorem dX2_takeOfClosed_32 : decode cX2_takeOfClosed 32 = .ok (.getfield 18, 3) := by decide +kernel
theorem dX2_takeOfClosed_35 : decode cX2_takeOfClosed 35 = .ok (.ishl, 1) := by decide +kernel
theorem dX2_takeOfClosed_36 : decode cX2_takeOfClosed 36 = .ok (.ior, 1) := by decide +kernel
theorem dX2_takeOfClosed_37 : decode cX2_takeOfClosed 37 = .ok (.putfield 75, 3) := by decide +kernel
theorem dX2_takeOfClosed_40 : decode cX2_takeOfClosed 40 = .ok (.aload_n 0, 1) := by decide +kernel
theorem dX2_takeOfClosed_41 : decode cX2_takeOfClosed 41 = .ok (.iconst 1, 1) := by decide +kernel
theorem dX2_takeOfClosed_42 : decode cX2_takeOfClosed 42 = .ok (.putfield 11, 3) := by decide +kernel
theorem dX2_takeOfClosed_45 : decode cX2_takeOfClosed 45 = .ok (.iconst 1, 1) := by decide +kernel
theorem dX2_takeOfClosed_46 : decode cX2_takeOfClosed 46 = .ok (.ireturn, 1) := by decide +kernel
set_option maxRecDepth 20000 in
theorem ggX2_takeOfWalker_X2_takeOfCell : GoodIn wsX2_takeOfWalker wsX2_takeOfCell := goodIn_r _ [10, 1, 4, 11, 12, 13, 24, 25, 26, 27, 28] (by decide +kernel) (by decide +kernel)
set_option maxRecDepth 20000 in
theorem gX2_takeOfWalker_X2_takeOfCell : GoodIn wsX2_takeOfWalker (wsV RX2 85 RX2 yX2_takeOfCell wsX2_takeOfCell) := goodIn_app (goodIn_of _ (by decide +kernel)) ggX2_takeOfWalker_X2_takeOfCell
set_option maxRecDepth 20000 in
theorem ggX2_takeOfWalker_X7_isSide : GoodIn wsX2_takeOfWalker wsX7_isSide := goodIn_r _ [15] (by decide +kernel) (by decide +kernel)
set_option maxRecDepth 20000 in
theorem gX2_takeOfWalker_X7_isSide_n89 : GoodIn wsX2_takeOfWalker (wsX7_isSide) := ggX2_takeOfWalker_X7_isSide
set_option maxRecDepth 20000 in
theorem ggX2_takeOfWalker_X1_addWalker : GoodIn wsX2_takeOfWalker wsX1_addWalker := goodIn_r _ [20, 21, 22, 23, 29, 30, 31, 32, 33, 34, 35, 36, 37, 38, 39, 40] (by decide +kernel) (by decide +kernel)
set_option maxRecDepth 20000 in
theorem gX2_takeOfWalker_X1_addWalker : GoodIn wsX2_takeOfWalker (wsV RX2 105 RX1 yX1_addWalker wsX1_addWalker) := goodIn_app (goodIn_of _ (by decide +kernel)) ggX2_takeOfWalker_X1_addWalker
theorem dX2_takeOfWalker_0 : decode cX2_takeOfWalker 0 = .ok (.aload_n 0, 1) := by decide +kernel
theorem dX2_takeOfWalker_1 : decode cX2_takeOfWalker 1 = .ok (.getfield 15, 3) := by decide +kernel
theorem dX2_takeOfWalker_4 : decode cX2_takeOfWalker 4 = .ok (.iconst 2, 1) := by decide +kernel
theorem dX2_takeOfWalker_5 : decode cX2_takeOfWalker 5 = .ok (.if_icmp .ge 22, 3) := by decide +kernel
theorem dX2_takeOfWalker_8 : decode cX2_takeOfWalker 8 = .ok (.aload_n 0, 1) := by decide +kernel
theorem dX2_takeOfWalker_9 : decode cX2_takeOfWalker 9 = .ok (.iload_n 1, 1) := by decide +kernel
theorem dX2_takeOfWalker_10 : decode cX2_takeOfWalker 10 = .ok (.sipush 4095, 3) := by decide +kernel
theorem dX2_takeOfWalker_13 : decode cX2_takeOfWalker 13 = .ok (.aload_n 0, 1) := by decide +kernel
theorem dX2_takeOfWalker_14 : decode cX2_takeOfWalker 14 = .ok (.getfield 24, 3) := by decide +kernel
theorem dX2_takeOfWalker_17 : decode cX2_takeOfWalker 17 = .ok (.getfield 75, 3) := by decide +kernel
theorem dX2_takeOfWalker_20 : decode cX2_takeOfWalker 20 = .ok (.iconst (-1), 1) := by decide +kernel
theorem dX2_takeOfWalker_21 : decode cX2_takeOfWalker 21 = .ok (.ixor, 1) := by decide +kernel
theorem dX2_takeOfWalker_22 : decode cX2_takeOfWalker 22 = .ok (.iand, 1) := by decide +kernel
theorem dX2_takeOfWalker_23 : decode cX2_takeOfWalker 23 = .ok (.invokevirtual 85, 3) := by decide +kernel
theorem dX2_takeOfWalker_26 : decode cX2_takeOfWalker 26 = .ok (.ireturn, 1) := by decide +kernel
theorem dX2_takeOfWalker_27 : decode cX2_takeOfWalker 27 = .ok (.iload_n 1, 1) := by decide +kernel
theorem dX2_takeOfWalker_28 : decode cX2_takeOfWalker 28 = .ok (.bipush 45, 2) := by decide +kernel
theorem dX2_takeOfWalker_30 : decode cX2_takeOfWalker 30 = .ok (.if_icmp .ne 7, 3) := by decide +kernel
theorem dX2_takeOfWalker_33 : decode cX2_takeOfWalker 33 = .ok (.iconst 1, 1) := by decide +kernel
theorem dX2_takeOfWalker_34 : decode cX2_takeOfWalker 34 = .ok (.goto 4, 3) := by decide +kernel
theorem dX2_takeOfWalker_37 : decode cX2_takeOfWalker 37 = .ok (.iconst 0, 1) := by decide +kernel
theorem dX2_takeOfWalker_38 : decode cX2_takeOfWalker 38 = .ok (.istore_n 2, 1) := by decide +kernel
theorem dX2_takeOfWalker_39 : decode cX2_takeOfWalker 39 = .ok (.iload_n 1, 1) := by decide +kernel
theorem dX2_takeOfWalker_40 : decode cX2_takeOfWalker 40 = .ok (.bipush 48, 2) := by decide +kernel
theorem dX2_takeOfWalker_42 : decode cX2_takeOfWalker 42 = .ok (.isub, 1) := by decide +kernel
theorem dX2_takeOfWalker_43 : decode cX2_takeOfWalker 43 = .ok (.istore_n 3, 1) := by decide +kernel
theorem dX2_takeOfWalker_44 : decode cX2_takeOfWalker 44 = .ok (.iload_n 2, 1) := by decide +kernel
theorem dX2_takeOfWalker_45 : decode cX2_takeOfWalker 45 = .ok (.ifCond .ne 12, 3) := by decide +kernel
theorem dX2_takeOfWalker_48 : decode cX2_takeOfWalker 48 = .ok (.iload_n 3, 1) := by decide +kernel
theorem dX2_takeOfWalker_49 : decode cX2_takeOfWalker 49 = .ok (.invokestatic 89, 3) := by decide +kernel
theorem dX2_takeOfWalker_52 : decode cX2_takeOfWalker 52 = .ok (.ifCond .ne 5, 3) := by decide +kernel
theorem dX2_takeOfWalker_55 : decode cX2_takeOfWalker 55 = .ok (.iconst 0, 1) := by decide +kernel
theorem dX2_takeOfWalker_56 : decode cX2_takeOfWalker 56 = .ok (.ireturn, 1) := by decide +kernel
theorem dX2_takeOfWalker_57 : decode cX2_takeOfWalker 57 = .ok (.aload_n 0, 1) := by decide +kernel
theorem dX2_takeOfWalker_58 : decode cX2_takeOfWalker 58 = .ok (.getfield 24, 3) := by decide +kernel
theorem dX2_takeOfWalker_61 : decode cX2_takeOfWalker 61 = .ok (.aload_n 0, 1) := by decide +kernel
theorem dX2_takeOfWalker_62 : decode cX2_takeOfWalker 62 = .ok (.getfield 18, 3) := by decide +kernel
theorem dX2_takeOfWalker_65 : decode cX2_takeOfWalker 65 = .ok (.iload_n 2, 1) := by decide +kernel
theorem dX2_takeOfWalker_66 : decode cX2_takeOfWalker 66 = .ok (.ifCond .eq 8, 3) := by decide +kernel
theorem dX2_takeOfWalker_69 : decode cX2_takeOfWalker 69 = .ok (.bipush (-9), 2) := by decide +kernel
theorem dX2_takeOfWalker_71 : decode cX2_takeOfWalker 71 = .ok (.goto 4, 3) := by decide +kernel
theorem dX2_takeOfWalker_74 : decode cX2_takeOfWalker 74 = .ok (.iload_n 3, 1) := by decide +kernel
theorem dX2_takeOfWalker_75 : decode cX2_takeOfWalker 75 = .ok (.invokevirtual 105, 3) := by decide +kernel
theorem dX2_takeOfWalker_78 : decode cX2_takeOfWalker 78 = .ok (.aload_n 0, 1) := by decide +kernel
theorem dX2_takeOfWalker_79 : decode cX2_takeOfWalker 79 = .ok (.iconst 1, 1) := by decide +kernel
theorem dX2_takeOfWalker_80 : decode cX2_takeOfWalker 80 = .ok (.putfield 11, 3) := by decide +kernel
theorem dX2_takeOfWalker_83 : decode cX2_takeOfWalker 83 = .ok (.iconst 1, 1) := by decide +kernel
theorem dX2_takeOfWalker_84 : decode cX2_takeOfWalker 84 = .ok (.ireturn, 1) := by decide +kernel
set_option maxRecDepth 20000 in
theorem ggX2_takeOfCell_X7_isCell : GoodIn wsX2_takeOfCell wsX7_isCell := goodIn_r _ [5] (by decide +kernel) (by decide +kernel)
set_option maxRecDepth 20000 in
theorem gX2_takeOfCell_X7_isCell_n109 : GoodIn wsX2_takeOfCell (wsX7_isCell) := ggX2_takeOfCell_X7_isCell
theorem dX2_takeOfCell_0 : decode cX2_takeOfCell 0 = .ok (.iload_n 1, 1) := by decide +kernel
theorem dX2_takeOfCell_1 : decode cX2_takeOfCell 1 = .ok (.bipush 48, 2) := by decide +kernel
theorem dX2_takeOfCell_3 : decode cX2_takeOfCell 3 = .ok (.isub, 1) := by decide +kernel
theorem dX2_takeOfCell_4 : decode cX2_takeOfCell 4 = .ok (.istore_n 3, 1) := by decide +kernel
theorem dX2_takeOfCell_5 : decode cX2_takeOfCell 5 = .ok (.iload_n 3, 1) := by decide +kernel
theorem dX2_takeOfCell_6 : decode cX2_takeOfCell 6 = .ok (.ifCond .lt 9, 3) := by decide +kernel
theorem dX2_takeOfCell_9 : decode cX2_takeOfCell 9 = .ok (.iload_n 3, 1) := by decide +kernel
theorem dX2_takeOfCell_10 : decode cX2_takeOfCell 10 = .ok (.bipush 9, 2) := by decide +kernel
theorem dX2_takeOfCell_12 : decode cX2_takeOfCell 12 = .ok (.if_icmp .le 5, 3) := by decide +kernel
theorem dX2_takeOfCell_15 : decode cX2_takeOfCell 15 = .ok (.iconst 0, 1) := by decide +kernel
theorem dX2_takeOfCell_16 : decode cX2_takeOfCell 16 = .ok (.ireturn, 1) := by decide +kernel
theorem dX2_takeOfCell_17 : decode cX2_takeOfCell 17 = .ok (.aload_n 0, 1) := by decide +kernel
theorem dX2_takeOfCell_18 : decode cX2_takeOfCell 18 = .ok (.dup, 1) := by decide +kernel
theorem dX2_takeOfCell_19 : decode cX2_takeOfCell 19 = .ok (.getfield 15, 3) := by decide +kernel
theorem dX2_takeOfCell_22 : decode cX2_takeOfCell 22 = .ok (.iconst 1, 1) := by decide +kernel
theorem dX2_takeOfCell_23 : decode cX2_takeOfCell 23 = .ok (.iadd, 1) := by decide +kernel
theorem dX2_takeOfCell_24 : decode cX2_takeOfCell 24 = .ok (.putfield 15, 3) := by decide +kernel
theorem dX2_takeOfCell_27 : decode cX2_takeOfCell 27 = .ok (.aload_n 0, 1) := by decide +kernel
theorem dX2_takeOfCell_28 : decode cX2_takeOfCell 28 = .ok (.getfield 15, 3) := by decide +kernel
theorem dX2_takeOfCell_31 : decode cX2_takeOfCell 31 = .ok (.iconst 1, 1) := by decide +kernel
theorem dX2_takeOfCell_32 : decode cX2_takeOfCell 32 = .ok (.if_icmp .ne 47, 3) := by decide +kernel
theorem dX2_takeOfCell_35 : decode cX2_takeOfCell 35 = .ok (.aload_n 0, 1) := by decide +kernel
theorem dX2_takeOfCell_36 : decode cX2_takeOfCell 36 = .ok (.iload_n 3, 1) := by decide +kernel
theorem dX2_takeOfCell_37 : decode cX2_takeOfCell 37 = .ok (.putfield 18, 3) := by decide +kernel
theorem dX2_takeOfCell_40 : decode cX2_takeOfCell 40 = .ok (.iload_n 3, 1) := by decide +kernel
theorem dX2_takeOfCell_41 : decode cX2_takeOfCell 41 = .ok (.ifCond .ne 19, 3) := by decide +kernel
theorem dX2_takeOfCell_44 : decode cX2_takeOfCell 44 = .ok (.iload_n 2, 1) := by decide +kernel
theorem dX2_takeOfCell_45 : decode cX2_takeOfCell 45 = .ok (.sipush 1023, 3) := by decide +kernel
theorem dX2_takeOfCell_48 : decode cX2_takeOfCell 48 = .ok (.iand, 1) := by decide +kernel
theorem dX2_takeOfCell_49 : decode cX2_takeOfCell 49 = .ok (.ifCond .eq 7, 3) := by decide +kernel
theorem dX2_takeOfCell_52 : decode cX2_takeOfCell 52 = .ok (.iconst 1, 1) := by decide +kernel
theorem dX2_takeOfCell_53 : decode cX2_takeOfCell 53 = .ok (.goto 25, 3) := by decide +kernel
theorem dX2_takeOfCell_56 : decode cX2_takeOfCell 56 = .ok (.iconst 0, 1) := by decide +kernel
theorem dX2_takeOfCell_57 : decode cX2_takeOfCell 57 = .ok (.goto 21, 3) := by decide +kernel
theorem dX2_takeOfCell_60 : decode cX2_takeOfCell 60 = .ok (.iload_n 3, 1) := by decide +kernel
theorem dX2_takeOfCell_61 : decode cX2_takeOfCell 61 = .ok (.iconst 1, 1) := by decide +kernel
theorem dX2_takeOfCell_62 : decode cX2_takeOfCell 62 = .ok (.if_icmp .ne 15, 3) := by decide +kernel
theorem dX2_takeOfCell_65 : decode cX2_takeOfCell 65 = .ok (.iload_n 2, 1) := by decide +kernel
theorem dX2_takeOfCell_66 : decode cX2_takeOfCell 66 = .ok (.sipush 3072, 3) := by decide +kernel
theorem dX2_takeOfCell_69 : decode cX2_takeOfCell 69 = .ok (.iand, 1) := by decide +kernel
theorem dX2_takeOfCell_70 : decode cX2_takeOfCell 70 = .ok (.ifCond .eq 7, 3) := by decide +kernel
theorem dX2_takeOfCell_73 : decode cX2_takeOfCell 73 = .ok (.iconst 1, 1) := by decide +kernel
theorem dX2_takeOfCell_74 : decode cX2_takeOfCell 74 = .ok (.goto 4, 3) := by decide +kernel
theorem dX2_takeOfCell_77 : decode cX2_takeOfCell 77 = .ok (.iconst 0, 1) := by decide +kernel
theorem dX2_takeOfCell_78 : decode cX2_takeOfCell 78 = .ok (.ireturn, 1) := by decide +kernel
theorem dX2_takeOfCell_79 : decode cX2_takeOfCell 79 = .ok (.aload_n 0, 1) := by decide +kernel
theorem dX2_takeOfCell_80 : decode cX2_takeOfCell 80 = .ok (.aload_n 0, 1) := by decide +kernel
theorem dX2_takeOfCell_81 : decode cX2_takeOfCell 81 = .ok (.getfield 18, 3) := by decide +kernel
theorem dX2_takeOfCell_84 : decode cX2_takeOfCell 84 = .ok (.bipush 10, 2) := by decide +kernel
theorem dX2_takeOfCell_86 : decode cX2_takeOfCell 86 = .ok (.imul, 1) := by decide +kernel
theorem dX2_takeOfCell_87 : decode cX2_takeOfCell 87 = .ok (.iload_n 3, 1) := by decide +kernel
theorem dX2_takeOfCell_88 : decode cX2_takeOfCell 88 = .ok (.iadd, 1) := by decide +kernel
theorem dX2_takeOfCell_89 : decode cX2_takeOfCell 89 = .ok (.putfield 18, 3) := by decide +kernel
theorem dX2_takeOfCell_92 : decode cX2_takeOfCell 92 = .ok (.aload_n 0, 1) := by decide +kernel
theorem dX2_takeOfCell_93 : decode cX2_takeOfCell 93 = .ok (.getfield 18, 3) := by decide +kernel
theorem dX2_takeOfCell_96 : decode cX2_takeOfCell 96 = .ok (.invokestatic 109, 3) := by decide +kernel
theorem dX2_takeOfCell_99 : decode cX2_takeOfCell 99 = .ok (.ifCond .eq 18, 3) := by decide +kernel
theorem dX2_takeOfCell_102 : decode cX2_takeOfCell 102 = .ok (.iload_n 2, 1) := by decide +kernel
theorem dX2_takeOfCell_103 : decode cX2_takeOfCell 103 = .ok (.aload_n 0, 1) := by decide +kernel
theorem dX2_takeOfCell_104 : decode cX2_takeOfCell 104 = .ok (.getfield 18, 3) := by decide +kernel
theorem dX2_takeOfCell_107 : decode cX2_takeOfCell 107 = .ok (.ishr, 1) := by decide +kernel
theorem dX2_takeOfCell_108 : decode cX2_takeOfCell 108 = .ok (.iconst 1, 1) := by decide +kernel
theorem dX2_takeOfCell_109 : decode cX2_takeOfCell 109 = .ok (.iand, 1) := by decide +kernel
theorem dX2_takeOfCell_110 : decode cX2_takeOfCell 110 = .ok (.ifCond .eq 7, 3) := by decide +kernel
theorem dX2_takeOfCell_113 : decode cX2_takeOfCell 113 = .ok (.iconst 1, 1) := by decide +kernel
theorem dX2_takeOfCell_114 : decode cX2_takeOfCell 114 = .ok (.goto 4, 3) := by decide +kernel
theorem dX2_takeOfCell_117 : decode cX2_takeOfCell 117 = .ok (.iconst 0, 1) := by decide +kernel
theorem dX2_takeOfCell_118 : decode cX2_takeOfCell 118 = .ok (.ireturn, 1) := by decide +kernel
set_option maxRecDepth 20000 in
theorem ggX2_cellsToClose_X1_startCells : GoodIn wsX2_cellsToClose wsX1_startCells := goodIn_r _ [7, 8, 9, 15, 16, 17, 18, 19, 20, 21, 22, 23, 24, 25, 26] (by decide +kernel) (by decide +kernel)
set_option maxRecDepth 20000 in
theorem gX2_cellsToClose_X1_startCells : GoodIn wsX2_cellsToClose (wsV RX2 112 RX1 yX1_startCells wsX1_startCells) := goodIn_app (goodIn_of _ (by decide +kernel)) ggX2_cellsToClose_X1_startCells
theorem dX2_cellsToClose_0 : decode cX2_cellsToClose 0 = .ok (.sipush 4095, 3) := by decide +kernel
theorem dX2_cellsToClose_3 : decode cX2_cellsToClose 3 = .ok (.aload_n 0, 1) := by decide +kernel
theorem dX2_cellsToClose_4 : decode cX2_cellsToClose 4 = .ok (.getfield 24, 3) := by decide +kernel
theorem dX2_cellsToClose_7 : decode cX2_cellsToClose 7 = .ok (.getfield 75, 3) := by decide +kernel
theorem dX2_cellsToClose_10 : decode cX2_cellsToClose 10 = .ok (.iconst (-1), 1) := by decide +kernel
theorem dX2_cellsToClose_11 : decode cX2_cellsToClose 11 = .ok (.ixor, 1) := by decide +kernel
theorem dX2_cellsToClose_12 : decode cX2_cellsToClose 12 = .ok (.iand, 1) := by decide +kernel
theorem dX2_cellsToClose_13 : decode cX2_cellsToClose 13 = .ok (.aload_n 0, 1) := by decide +kernel
theorem dX2_cellsToClose_14 : decode cX2_cellsToClose 14 = .ok (.getfield 24, 3) := by decide +kernel
theorem dX2_cellsToClose_17 : decode cX2_cellsToClose 17 = .ok (.invokevirtual 112, 3) := by decide +kernel
theorem dX2_cellsToClose_20 : decode cX2_cellsToClose 20 = .ok (.iconst (-1), 1) := by decide +kernel
theorem dX2_cellsToClose_21 : decode cX2_cellsToClose 21 = .ok (.ixor, 1) := by decide +kernel
theorem dX2_cellsToClose_22 : decode cX2_cellsToClose 22 = .ok (.iand, 1) := by decide +kernel
theorem dX2_cellsToClose_23 : decode cX2_cellsToClose 23 = .ok (.ireturn, 1) := by decide +kernel
set_option maxRecDepth 20000 in
theorem ggX2_wiresLeft_X1_hasTrap : GoodIn wsX2_wiresLeft wsX1_hasTrap := goodIn_r _ [7, 8, 18, 19, 20, 21, 22, 23, 24, 25, 26, 27, 28, 29] (by decide +kernel) (by decide +kernel)
set_option maxRecDepth 20000 in
theorem gX2_wiresLeft_X1_hasTrap : GoodIn wsX2_wiresLeft (wsV RX2 99 RX1 yX1_hasTrap wsX1_hasTrap) := goodIn_app (goodIn_of _ (by decide +kernel)) ggX2_wiresLeft_X1_hasTrap
set_option maxRecDepth 20000 in
theorem ggX2_wiresLeft_X1_allTraps : GoodIn wsX2_wiresLeft wsX1_allTraps := goodIn_r _ [12, 8, 18, 19, 20, 21, 22, 23, 24, 25, 26, 27, 28, 29] (by decide +kernel) (by decide +kernel)
set_option maxRecDepth 20000 in
theorem gX2_wiresLeft_X1_allTraps : GoodIn wsX2_wiresLeft (wsV RX2 78 RX1 yX1_allTraps wsX1_allTraps) := goodIn_app (goodIn_of _ (by decide +kernel)) ggX2_wiresLeft_X1_allTraps
theorem dX2_wiresLeft_0 : decode cX2_wiresLeft 0 = .ok (.aload_n 0, 1) := by decide +kernel
theorem dX2_wiresLeft_1 : decode cX2_wiresLeft 1 = .ok (.getfield 24, 3) := by decide +kernel
theorem dX2_wiresLeft_4 : decode cX2_wiresLeft 4 = .ok (.iload_n 1, 1) := by decide +kernel
theorem dX2_wiresLeft_5 : decode cX2_wiresLeft 5 = .ok (.invokevirtual 99, 3) := by decide +kernel
theorem dX2_wiresLeft_8 : decode cX2_wiresLeft 8 = .ok (.ifCond .eq 31, 3) := by decide +kernel
theorem dX2_wiresLeft_11 : decode cX2_wiresLeft 11 = .ok (.aload_n 0, 1) := by decide +kernel
theorem dX2_wiresLeft_12 : decode cX2_wiresLeft 12 = .ok (.getfield 24, 3) := by decide +kernel
theorem dX2_wiresLeft_15 : decode cX2_wiresLeft 15 = .ok (.invokevirtual 78, 3) := by decide +kernel
theorem dX2_wiresLeft_18 : decode cX2_wiresLeft 18 = .ok (.aload_n 0, 1) := by decide +kernel
theorem dX2_wiresLeft_19 : decode cX2_wiresLeft 19 = .ok (.getfield 24, 3) := by decide +kernel
theorem dX2_wiresLeft_22 : decode cX2_wiresLeft 22 = .ok (.getfield 102, 3) := by decide +kernel
theorem dX2_wiresLeft_25 : decode cX2_wiresLeft 25 = .ok (.iload_n 1, 1) := by decide +kernel
theorem dX2_wiresLeft_26 : decode cX2_wiresLeft 26 = .ok (.iaload, 1) := by decide +kernel
theorem dX2_wiresLeft_27 : decode cX2_wiresLeft 27 = .ok (.iconst (-1), 1) := by decide +kernel
theorem dX2_wiresLeft_28 : decode cX2_wiresLeft 28 = .ok (.ixor, 1) := by decide +kernel
theorem dX2_wiresLeft_29 : decode cX2_wiresLeft 29 = .ok (.iand, 1) := by decide +kernel
theorem dX2_wiresLeft_30 : decode cX2_wiresLeft 30 = .ok (.iconst 1, 1) := by decide +kernel
theorem dX2_wiresLeft_31 : decode cX2_wiresLeft 31 = .ok (.iload_n 1, 1) := by decide +kernel
theorem dX2_wiresLeft_32 : decode cX2_wiresLeft 32 = .ok (.ishl, 1) := by decide +kernel
theorem dX2_wiresLeft_33 : decode cX2_wiresLeft 33 = .ok (.iconst (-1), 1) := by decide +kernel
theorem dX2_wiresLeft_34 : decode cX2_wiresLeft 34 = .ok (.ixor, 1) := by decide +kernel
theorem dX2_wiresLeft_35 : decode cX2_wiresLeft 35 = .ok (.iand, 1) := by decide +kernel
theorem dX2_wiresLeft_36 : decode cX2_wiresLeft 36 = .ok (.goto 4, 3) := by decide +kernel
theorem dX2_wiresLeft_39 : decode cX2_wiresLeft 39 = .ok (.iconst 0, 1) := by decide +kernel
theorem dX2_wiresLeft_40 : decode cX2_wiresLeft 40 = .ok (.ireturn, 1) := by decide +kernel
set_option maxRecDepth 20000 in
theorem ggX2_canBeWired_X2_wiresLeft : GoodIn wsX2_canBeWired wsX2_wiresLeft := goodIn_r _ [5, 6, 7, 8, 9, 10, 11, 12, 13, 14, 15, 16, 17, 18, 19, 20, 21, 22, 23, 24, 25, 26, 27, 28, 29, 30, 31, 32, 33, 34] (by decide +kernel) (by decide +kernel)
set_option maxRecDepth 20000 in
theorem gX2_canBeWired_X2_wiresLeft : GoodIn wsX2_canBeWired (wsV RX2 96 RX2 yX2_wiresLeft wsX2_wiresLeft) := goodIn_app (goodIn_of _ (by decide +kernel)) ggX2_canBeWired_X2_wiresLeft
theorem dX2_canBeWired_0 : decode cX2_canBeWired 0 = .ok (.iconst 0, 1) := by decide +kernel
theorem dX2_canBeWired_1 : decode cX2_canBeWired 1 = .ok (.istore_n 1, 1) := by decide +kernel
theorem dX2_canBeWired_2 : decode cX2_canBeWired 2 = .ok (.iconst 0, 1) := by decide +kernel
theorem dX2_canBeWired_3 : decode cX2_canBeWired 3 = .ok (.istore_n 2, 1) := by decide +kernel
theorem dX2_canBeWired_4 : decode cX2_canBeWired 4 = .ok (.iload_n 2, 1) := by decide +kernel
theorem dX2_canBeWired_5 : decode cX2_canBeWired 5 = .ok (.bipush 6, 2) := by decide +kernel
theorem dX2_canBeWired_7 : decode cX2_canBeWired 7 = .ok (.if_icmp .ge 17, 3) := by decide +kernel
theorem dX2_canBeWired_10 : decode cX2_canBeWired 10 = .ok (.iload_n 1, 1) := by decide +kernel
theorem dX2_canBeWired_11 : decode cX2_canBeWired 11 = .ok (.aload_n 0, 1) := by decide +kernel
theorem dX2_canBeWired_12 : decode cX2_canBeWired 12 = .ok (.iload_n 2, 1) := by decide +kernel
theorem dX2_canBeWired_13 : decode cX2_canBeWired 13 = .ok (.invokevirtual 96, 3) := by decide +kernel
theorem dX2_canBeWired_16 : decode cX2_canBeWired 16 = .ok (.ior, 1) := by decide +kernel
theorem dX2_canBeWired_17 : decode cX2_canBeWired 17 = .ok (.istore_n 1, 1) := by decide +kernel
theorem dX2_canBeWired_18 : decode cX2_canBeWired 18 = .ok (.iinc 2 1, 3) := by decide +kernel
theorem dX2_canBeWired_21 : decode cX2_canBeWired 21 = .ok (.goto (-17), 3) := by decide +kernel
theorem dX2_canBeWired_24 : decode cX2_canBeWired 24 = .ok (.iload_n 1, 1) := by decide +kernel
theorem dX2_canBeWired_25 : decode cX2_canBeWired 25 = .ok (.ifCond .eq 7, 3) := by decide +kernel
theorem dX2_canBeWired_28 : decode cX2_canBeWired 28 = .ok (.iconst 1, 1) := by decide +kernel
theorem dX2_canBeWired_29 : decode cX2_canBeWired 29 = .ok (.goto 4, 3) := by decide +kernel
theorem dX2_canBeWired_32 : decode cX2_canBeWired 32 = .ok (.iconst 0, 1) := by decide +kernel
theorem dX2_canBeWired_33 : decode cX2_canBeWired 33 = .ok (.ireturn, 1) := by decide +kernel
theorem dX3_init_0 : decode cX3_init 0 = .ok (.aload_n 0, 1) := by decide +kernel
theorem dX3_init_1 : decode cX3_init 1 = .ok (.invokespecial 3, 3) := by decide +kernel
theorem dX3_init_4 : decode cX3_init 4 = .ok (.aload_n 0, 1) := by decide +kernel
theorem dX3_init_5 : decode cX3_init 5 = .ok (.iconst 0, 1) := by decide +kernel
theorem dX3_init_6 : decode cX3_init 6 = .ok (.putfield 9, 3) := by decide +kernel
theorem dX3_init_9 : decode cX3_init 9 = .ok (.aload_n 0, 1) := by decide +kernel
theorem dX3_init_10 : decode cX3_init 10 = .ok (.iconst 0, 1) := by decide +kernel
theorem dX3_init_11 : decode cX3_init 11 = .ok (.putfield 15, 3) := by decide +kernel
theorem dX3_init_14 : decode cX3_init 14 = .ok (.aload_n 0, 1) := by decide +kernel
theorem dX3_init_15 : decode cX3_init 15 = .ok (.iconst 0, 1) := by decide +kernel
theorem dX3_init_16 : decode cX3_init 16 = .ok (.putfield 18, 3) := by decide +kernel
theorem dX3_init_19 : decode cX3_init 19 = .ok (.aload_n 0, 1) := by decide +kernel
theorem dX3_init_20 : decode cX3_init 20 = .ok (.iconst 2, 1) := by decide +kernel
theorem dX3_init_21 : decode cX3_init 21 = .ok (.newarray .int, 2) := by decide +kernel
theorem dX3_init_23 : decode cX3_init 23 = .ok (.putfield 22, 3) := by decide +kernel
theorem dX3_init_26 : decode cX3_init 26 = .ok (.aload_n 0, 1) := by decide +kernel
theorem dX3_init_27 : decode cX3_init 27 = .ok (.iconst 4, 1) := by decide +kernel
theorem dX3_init_28 : decode cX3_init 28 = .ok (.newarray .int, 2) := by decide +kernel
theorem dX3_init_30 : decode cX3_init 30 = .ok (.putfield 26, 3) := by decide +kernel
theorem dX3_init_33 : decode cX3_init 33 = .ok (.aload_n 0, 1) := by decide +kernel
theorem dX3_init_34 : decode cX3_init 34 = .ok (.iconst 4, 1) := by decide +kernel
theorem dX3_init_35 : decode cX3_init 35 = .ok (.newarray .int, 2) := by decide +kernel
theorem dX3_init_37 : decode cX3_init 37 = .ok (.putfield 29, 3) := by decide +kernel
theorem dX3_init_40 : decode cX3_init 40 = .ok (.aload_n 0, 1) := by decide +kernel
theorem dX3_init_41 : decode cX3_init 41 = .ok (.aload_n 1, 1) := by decide +kernel
theorem dX3_init_42 : decode cX3_init 42 = .ok (.putfield 32, 3) := by decide +kernel
theorem dX3_init_45 : decode cX3_init 45 = .ok (.return_, 1) := by decide +kernel
set_option maxRecDepth 20000 in
theorem ggX3_begin_X1_allTraps : GoodIn wsX3_begin wsX1_allTraps := goodIn_r _ [15, 16, 24, 25, 26, 27, 28, 29, 30, 31, 32, 33, 34, 35] (by decide +kernel) (by decide +kernel)
set_option maxRecDepth 20000 in
theorem gX3_begin_X1_allTraps : GoodIn wsX3_begin (wsV RX3 36 RX1 yX1_allTraps wsX1_allTraps) := goodIn_app (goodIn_of _ (by decide +kernel)) ggX3_begin_X1_allTraps
theorem dX3_begin_0 : decode cX3_begin 0 = .ok (.aload_n 0, 1) := by decide +kernel
theorem dX3_begin_1 : decode cX3_begin 1 = .ok (.aload_n 0, 1) := by decide +kernel
theorem dX3_begin_2 : decode cX3_begin 2 = .ok (.getfield 32, 3) := by decide +kernel
theorem dX3_begin_5 : decode cX3_begin 5 = .ok (.invokevirtual 36, 3) := by decide +kernel
theorem dX3_begin_8 : decode cX3_begin 8 = .ok (.putfield 9, 3) := by decide +kernel
theorem dX3_begin_11 : decode cX3_begin 11 = .ok (.aload_n 0, 1) := by decide +kernel
theorem dX3_begin_12 : decode cX3_begin 12 = .ok (.iconst 0, 1) := by decide +kernel
theorem dX3_begin_13 : decode cX3_begin 13 = .ok (.putfield 15, 3) := by decide +kernel
theorem dX3_begin_16 : decode cX3_begin 16 = .ok (.aload_n 0, 1) := by decide +kernel
theorem dX3_begin_17 : decode cX3_begin 17 = .ok (.iconst 0, 1) := by decide +kernel
theorem dX3_begin_18 : decode cX3_begin 18 = .ok (.putfield 18, 3) := by decide +kernel
theorem dX3_begin_21 : decode cX3_begin 21 = .ok (.iconst 0, 1) := by decide +kernel
theorem dX3_begin_22 : decode cX3_begin 22 = .ok (.istore_n 1, 1) := by decide +kernel
theorem dX3_begin_23 : decode cX3_begin 23 = .ok (.iload_n 1, 1) := by decide +kernel
theorem dX3_begin_24 : decode cX3_begin 24 = .ok (.iconst 2, 1) := by decide +kernel
theorem dX3_begin_25 : decode cX3_begin 25 = .ok (.if_icmp .ge 70, 3) := by decide +kernel
theorem dX3_begin_28 : decode cX3_begin 28 = .ok (.aload_n 0, 1) := by decide +kernel
theorem dX3_begin_29 : decode cX3_begin 29 = .ok (.getfield 22, 3) := by decide +kernel
theorem dX3_begin_32 : decode cX3_begin 32 = .ok (.iload_n 1, 1) := by decide +kernel
theorem dX3_begin_33 : decode cX3_begin 33 = .ok (.iconst 0, 1) := by decide +kernel
theorem dX3_begin_34 : decode cX3_begin 34 = .ok (.iastore, 1) := by decide +kernel
theorem dX3_begin_35 : decode cX3_begin 35 = .ok (.iconst 0, 1) := by decide +kernel
theorem dX3_begin_36 : decode cX3_begin 36 = .ok (.istore_n 2, 1) := by decide +kernel
theorem dX3_begin_37 : decode cX3_begin 37 = .ok (.iload_n 2, 1) := by decide +kernel
theorem dX3_begin_38 : decode cX3_begin 38 = .ok (.bipush 6, 2) := by decide +kernel
theorem dX3_begin_40 : decode cX3_begin 40 = .ok (.if_icmp .ge 49, 3) := by decide +kernel
theorem dX3_begin_43 : decode cX3_begin 43 = .ok (.iload_n 2, 1) := by decide +kernel
theorem dX3_begin_44 : decode cX3_begin 44 = .ok (.aload_n 0, 1) := by decide +kernel
theorem dX3_begin_45 : decode cX3_begin 45 = .ok (.getfield 32, 3) := by decide +kernel
theorem dX3_begin_48 : decode cX3_begin 48 = .ok (.getfield 42, 3) := by decide +kernel
theorem dX3_begin_51 : decode cX3_begin 51 = .ok (.if_icmp .ge 38, 3) := by decide +kernel
theorem dX3_begin_54 : decode cX3_begin 54 = .ok (.aload_n 0, 1) := by decide +kernel
theorem dX3_begin_55 : decode cX3_begin 55 = .ok (.getfield 22, 3) := by decide +kernel
theorem dX3_begin_58 : decode cX3_begin 58 = .ok (.iload_n 1, 1) := by decide +kernel
theorem dX3_begin_59 : decode cX3_begin 59 = .ok (.dup2, 1) := by decide +kernel
theorem dX3_begin_60 : decode cX3_begin 60 = .ok (.iaload, 1) := by decide +kernel
theorem dX3_begin_61 : decode cX3_begin 61 = .ok (.aload_n 0, 1) := by decide +kernel
theorem dX3_begin_62 : decode cX3_begin 62 = .ok (.getfield 32, 3) := by decide +kernel
theorem dX3_begin_65 : decode cX3_begin 65 = .ok (.getfield 45, 3) := by decide +kernel
theorem dX3_begin_68 : decode cX3_begin 68 = .ok (.iload_n 2, 1) := by decide +kernel
theorem dX3_begin_69 : decode cX3_begin 69 = .ok (.iaload, 1) := by decide +kernel
theorem dX3_begin_70 : decode cX3_begin 70 = .ok (.iload_n 1, 1) := by decide +kernel
theorem dX3_begin_71 : decode cX3_begin 71 = .ok (.if_icmp .ne 9, 3) := by decide +kernel
theorem dX3_begin_74 : decode cX3_begin 74 = .ok (.iconst 1, 1) := by decide +kernel
theorem dX3_begin_75 : decode cX3_begin 75 = .ok (.iload_n 2, 1) := by decide +kernel
theorem dX3_begin_76 : decode cX3_begin 76 = .ok (.ishl, 1) := by decide +kernel
theorem dX3_begin_77 : decode cX3_begin 77 = .ok (.goto 4, 3) := by decide +kernel
theorem dX3_begin_80 : decode cX3_begin 80 = .ok (.iconst 0, 1) := by decide +kernel
theorem dX3_begin_81 : decode cX3_begin 81 = .ok (.ior, 1) := by decide +kernel
theorem dX3_begin_82 : decode cX3_begin 82 = .ok (.iastore, 1) := by decide +kernel
theorem dX3_begin_83 : decode cX3_begin 83 = .ok (.iinc 2 1, 3) := by decide +kernel
theorem dX3_begin_86 : decode cX3_begin 86 = .ok (.goto (-49), 3) := by decide +kernel
theorem dX3_begin_89 : decode cX3_begin 89 = .ok (.iinc 1 1, 3) := by decide +kernel
theorem dX3_begin_92 : decode cX3_begin 92 = .ok (.goto (-69), 3) := by decide +kernel
theorem dX3_begin_95 : decode cX3_begin 95 = .ok (.iconst 0, 1) := by decide +kernel
theorem dX3_begin_96 : decode cX3_begin 96 = .ok (.istore_n 1, 1) := by decide +kernel
theorem dX3_begin_97 : decode cX3_begin 97 = .ok (.iload_n 1, 1) := by decide +kernel
theorem dX3_begin_98 : decode cX3_begin 98 = .ok (.iconst 4, 1) := by decide +kernel
theorem dX3_begin_99 : decode cX3_begin 99 = .ok (.if_icmp .ge 32, 3) := by decide +kernel
theorem dX3_begin_102 : decode cX3_begin 102 = .ok (.aload_n 0, 1) := by decide +kernel
theorem dX3_begin_103 : decode cX3_begin 103 = .ok (.getfield 26, 3) := by decide +kernel
theorem dX3_begin_106 : decode cX3_begin 106 = .ok (.iload_n 1, 1) := by decide +kernel
theorem dX3_begin_107 : decode cX3_begin 107 = .ok (.aload_n 0, 1) := by decide +kernel
theorem dX3_begin_108 : decode cX3_begin 108 = .ok (.getfield 32, 3) := by decide +kernel
theorem dX3_begin_111 : decode cX3_begin 111 = .ok (.getfield 48, 3) := by decide +kernel
theorem dX3_begin_114 : decode cX3_begin 114 = .ok (.iload_n 1, 1) := by decide +kernel
theorem dX3_begin_115 : decode cX3_begin 115 = .ok (.iaload, 1) := by decide +kernel
theorem dX3_begin_116 : decode cX3_begin 116 = .ok (.iastore, 1) := by decide +kernel
theorem dX3_begin_117 : decode cX3_begin 117 = .ok (.aload_n 0, 1) := by decide +kernel
theorem dX3_begin_118 : decode cX3_begin 118 = .ok (.getfield 29, 3) := by decide +kernel
theorem dX3_begin_121 : decode cX3_begin 121 = .ok (.iload_n 1, 1) := by decide +kernel
theorem dX3_begin_122 : decode cX3_begin 122 = .ok (.bipush (-9), 2) := by decide +kernel
theorem dX3_begin_124 : decode cX3_begin 124 = .ok (.iastore, 1) := by decide +kernel
theorem dX3_begin_125 : decode cX3_begin 125 = .ok (.iinc 1 1, 3) := by decide +kernel
theorem dX3_begin_128 : decode cX3_begin 128 = .ok (.goto (-31), 3) := by decide +kernel
theorem dX3_begin_131 : decode cX3_begin 131 = .ok (.return_, 1) := by decide +kernel
theorem dX3_become_0 : decode cX3_become 0 = .ok (.aload_n 1, 1) := by decide +kernel
theorem dX3_become_1 : decode cX3_become 1 = .ok (.ifnonnull 4, 3) := by decide +kernel
theorem dX3_become_4 : decode cX3_become 4 = .ok (.return_, 1) := by decide +kernel
theorem dX3_become_5 : decode cX3_become 5 = .ok (.aload_n 0, 1) := by decide +kernel
theorem dX3_become_6 : decode cX3_become 6 = .ok (.aload_n 1, 1) := by decide +kernel
theorem dX3_become_7 : decode cX3_become 7 = .ok (.getfield 9, 3) := by decide +kernel
theorem dX3_become_10 : decode cX3_become 10 = .ok (.putfield 9, 3) := by decide +kernel
theorem dX3_become_13 : decode cX3_become 13 = .ok (.aload_n 0, 1) := by decide +kernel
theorem dX3_become_14 : decode cX3_become 14 = .ok (.aload_n 1, 1) := by decide +kernel
theorem dX3_become_15 : decode cX3_become 15 = .ok (.getfield 15, 3) := by decide +kernel
theorem dX3_become_18 : decode cX3_become 18 = .ok (.putfield 15, 3) := by decide +kernel
theorem dX3_become_21 : decode cX3_become 21 = .ok (.aload_n 0, 1) := by decide +kernel
theorem dX3_become_22 : decode cX3_become 22 = .ok (.aload_n 1, 1) := by decide +kernel
theorem dX3_become_23 : decode cX3_become 23 = .ok (.getfield 18, 3) := by decide +kernel
theorem dX3_become_26 : decode cX3_become 26 = .ok (.putfield 18, 3) := by decide +kernel
theorem dX3_become_29 : decode cX3_become 29 = .ok (.iconst 0, 1) := by decide +kernel
theorem dX3_become_30 : decode cX3_become 30 = .ok (.istore_n 2, 1) := by decide +kernel
theorem dX3_become_31 : decode cX3_become 31 = .ok (.iload_n 2, 1) := by decide +kernel
theorem dX3_become_32 : decode cX3_become 32 = .ok (.iconst 2, 1) := by decide +kernel
theorem dX3_become_33 : decode cX3_become 33 = .ok (.if_icmp .ge 21, 3) := by decide +kernel
theorem dX3_become_36 : decode cX3_become 36 = .ok (.aload_n 0, 1) := by decide +kernel
theorem dX3_become_37 : decode cX3_become 37 = .ok (.getfield 22, 3) := by decide +kernel
theorem dX3_become_40 : decode cX3_become 40 = .ok (.iload_n 2, 1) := by decide +kernel
theorem dX3_become_41 : decode cX3_become 41 = .ok (.aload_n 1, 1) := by decide +kernel
theorem dX3_become_42 : decode cX3_become 42 = .ok (.getfield 22, 3) := by decide +kernel
theorem dX3_become_45 : decode cX3_become 45 = .ok (.iload_n 2, 1) := by decide +kernel
theorem dX3_become_46 : decode cX3_become 46 = .ok (.iaload, 1) := by decide +kernel
theorem dX3_become_47 : decode cX3_become 47 = .ok (.iastore, 1) := by decide +kernel
theorem dX3_become_48 : decode cX3_become 48 = .ok (.iinc 2 1, 3) := by decide +kernel
theorem dX3_become_51 : decode cX3_become 51 = .ok (.goto (-20), 3) := by decide +kernel
theorem dX3_become_54 : decode cX3_become 54 = .ok (.iconst 0, 1) := by decide +kernel
theorem dX3_become_55 : decode cX3_become 55 = .ok (.istore_n 2, 1) := by decide +kernel
theorem dX3_become_56 : decode cX3_become 56 = .ok (.iload_n 2, 1) := by decide +kernel
theorem dX3_become_57 : decode cX3_become 57 = .ok (.iconst 4, 1) := by decide +kernel
theorem dX3_become_58 : decode cX3_become 58 = .ok (.if_icmp .ge 33, 3) := by decide +kernel
theorem dX3_become_61 : decode cX3_become 61 = .ok (.aload_n 0, 1) := by decide +kernel
theorem dX3_become_62 : decode cX3_become 62 = .ok (.getfield 26, 3) := by decide +kernel
theorem dX3_become_65 : decode cX3_become 65 = .ok (.iload_n 2, 1) := by decide +kernel
theorem dX3_become_66 : decode cX3_become 66 = .ok (.aload_n 1, 1) := by decide +kernel
theorem dX3_become_67 : decode cX3_become 67 = .ok (.getfield 26, 3) := by decide +kernel
theorem dX3_become_70 : decode cX3_become 70 = .ok (.iload_n 2, 1) := by decide +kernel
theorem dX3_become_71 : decode cX3_become 71 = .ok (.iaload, 1) := by decide +kernel
theorem dX3_become_72 : decode cX3_become 72 = .ok (.iastore, 1) := by decide +kernel
theorem dX3_become_73 : decode cX3_become 73 = .ok (.aload_n 0, 1) := by decide +kernel
theorem dX3_become_74 : decode cX3_become 74 = .ok (.getfield 29, 3) := by decide +kernel
theorem dX3_become_77 : decode cX3_become 77 = .ok (.iload_n 2, 1) := by decide +kernel
theorem dX3_become_78 : decode cX3_become 78 = .ok (.aload_n 1, 1) := by decide +kernel
theorem dX3_become_79 : decode cX3_become 79 = .ok (.getfield 29, 3) := by decide +kernel
theorem dX3_become_82 : decode cX3_become 82 = .ok (.iload_n 2, 1) := by decide +kernel
theorem dX3_become_83 : decode cX3_become 83 = .ok (.iaload, 1) := by decide +kernel
theorem dX3_become_84 : decode cX3_become 84 = .ok (.iastore, 1) := by decide +kernel
theorem dX3_become_85 : decode cX3_become 85 = .ok (.iinc 2 1, 3) := by decide +kernel
theorem dX3_become_88 : decode cX3_become 88 = .ok (.goto (-32), 3) := by decide +kernel
theorem dX3_become_91 : decode cX3_become 91 = .ok (.return_, 1) := by decide +kernel
theorem dX3_ready_0 : decode cX3_ready 0 = .ok (.aload_n 0, 1) := by decide +kernel
theorem dX3_ready_1 : decode cX3_ready 1 = .ok (.getfield 18, 3) := by decide +kernel
theorem dX3_ready_4 : decode cX3_ready 4 = .ok (.ifCond .eq 7, 3) := by decide +kernel
theorem dX3_ready_7 : decode cX3_ready 7 = .ok (.iconst 0, 1) := by decide +kernel
theorem dX3_ready_8 : decode cX3_ready 8 = .ok (.goto 17, 3) := by decide +kernel
theorem dX3_ready_11 : decode cX3_ready 11 = .ok (.aload_n 0, 1) := by decide +kernel
theorem dX3_ready_12 : decode cX3_ready 12 = .ok (.getfield 9, 3) := by decide +kernel
theorem dX3_ready_15 : decode cX3_ready 15 = .ok (.aload_n 0, 1) := by decide +kernel
theorem dX3_ready_16 : decode cX3_ready 16 = .ok (.getfield 32, 3) := by decide +kernel
theorem dX3_ready_19 : decode cX3_ready 19 = .ok (.getfield 51, 3) := by decide +kernel
theorem dX3_ready_22 : decode cX3_ready 22 = .ok (.iconst (-1), 1) := by decide +kernel
theorem dX3_ready_23 : decode cX3_ready 23 = .ok (.ixor, 1) := by decide +kernel
theorem dX3_ready_24 : decode cX3_ready 24 = .ok (.iand, 1) := by decide +kernel
theorem dX3_ready_25 : decode cX3_ready 25 = .ok (.ireturn, 1) := by decide +kernel
set_option maxRecDepth 20000 in
theorem ggX3_isFree_X1_hasWalker : GoodIn wsX3_isFree wsX1_hasWalker := goodIn_r _ [7, 8, 16, 17, 18, 19, 20, 21, 22, 23, 24, 25, 26, 27] (by decide +kernel) (by decide +kernel)
set_option maxRecDepth 20000 in
theorem gX3_isFree_X1_hasWalker : GoodIn wsX3_isFree (wsV RX3 54 RX1 yX1_hasWalker wsX1_hasWalker) := goodIn_app (goodIn_of _ (by decide +kernel)) ggX3_isFree_X1_hasWalker
theorem dX3_isFree_0 : decode cX3_isFree 0 = .ok (.aload_n 0, 1) := by decide +kernel
theorem dX3_isFree_1 : decode cX3_isFree 1 = .ok (.getfield 32, 3) := by decide +kernel
theorem dX3_isFree_4 : decode cX3_isFree 4 = .ok (.iload_n 1, 1) := by decide +kernel
theorem dX3_isFree_5 : decode cX3_isFree 5 = .ok (.invokevirtual 54, 3) := by decide +kernel
theorem dX3_isFree_8 : decode cX3_isFree 8 = .ok (.ifCond .eq 18, 3) := by decide +kernel
theorem dX3_isFree_11 : decode cX3_isFree 11 = .ok (.aload_n 0, 1) := by decide +kernel
theorem dX3_isFree_12 : decode cX3_isFree 12 = .ok (.getfield 29, 3) := by decide +kernel
theorem dX3_isFree_15 : decode cX3_isFree 15 = .ok (.iload_n 1, 1) := by decide +kernel
theorem dX3_isFree_16 : decode cX3_isFree 16 = .ok (.iaload, 1) := by decide +kernel
theorem dX3_isFree_17 : decode cX3_isFree 17 = .ok (.bipush (-9), 2) := by decide +kernel
theorem dX3_isFree_19 : decode cX3_isFree 19 = .ok (.if_icmp .ne 7, 3) := by decide +kernel
theorem dX3_isFree_22 : decode cX3_isFree 22 = .ok (.iconst 1, 1) := by decide +kernel
theorem dX3_isFree_23 : decode cX3_isFree 23 = .ok (.goto 4, 3) := by decide +kernel
theorem dX3_isFree_26 : decode cX3_isFree 26 = .ok (.iconst 0, 1) := by decide +kernel
theorem dX3_isFree_27 : decode cX3_isFree 27 = .ok (.ireturn, 1) := by decide +kernel
theorem dX3_caught_0 : decode cX3_caught 0 = .ok (.iconst 0, 1) := by decide +kernel
theorem dX3_caught_1 : decode cX3_caught 1 = .ok (.istore_n 1, 1) := by decide +kernel
theorem dX3_caught_2 : decode cX3_caught 2 = .ok (.iconst 0, 1) := by decide +kernel
theorem dX3_caught_3 : decode cX3_caught 3 = .ok (.istore_n 2, 1) := by decide +kernel
theorem dX3_caught_4 : decode cX3_caught 4 = .ok (.iload_n 2, 1) := by decide +kernel
theorem dX3_caught_5 : decode cX3_caught 5 = .ok (.iconst 4, 1) := by decide +kernel
theorem dX3_caught_6 : decode cX3_caught 6 = .ok (.if_icmp .ge 41, 3) := by decide +kernel
theorem dX3_caught_9 : decode cX3_caught 9 = .ok (.iload_n 2, 1) := by decide +kernel
theorem dX3_caught_10 : decode cX3_caught 10 = .ok (.aload_n 0, 1) := by decide +kernel
theorem dX3_caught_11 : decode cX3_caught 11 = .ok (.getfield 32, 3) := by decide +kernel
theorem dX3_caught_14 : decode cX3_caught 14 = .ok (.getfield 58, 3) := by decide +kernel
theorem dX3_caught_17 : decode cX3_caught 17 = .ok (.if_icmp .ge 30, 3) := by decide +kernel
theorem dX3_caught_20 : decode cX3_caught 20 = .ok (.iload_n 1, 1) := by decide +kernel
theorem dX3_caught_21 : decode cX3_caught 21 = .ok (.aload_n 0, 1) := by decide +kernel
theorem dX3_caught_22 : decode cX3_caught 22 = .ok (.getfield 29, 3) := by decide +kernel
theorem dX3_caught_25 : decode cX3_caught 25 = .ok (.iload_n 2, 1) := by decide +kernel
theorem dX3_caught_26 : decode cX3_caught 26 = .ok (.iaload, 1) := by decide +kernel
theorem dX3_caught_27 : decode cX3_caught 27 = .ok (.bipush (-9), 2) := by decide +kernel
theorem dX3_caught_29 : decode cX3_caught 29 = .ok (.if_icmp .ne 7, 3) := by decide +kernel
theorem dX3_caught_32 : decode cX3_caught 32 = .ok (.iconst 0, 1) := by decide +kernel
theorem dX3_caught_33 : decode cX3_caught 33 = .ok (.goto 6, 3) := by decide +kernel
theorem dX3_caught_36 : decode cX3_caught 36 = .ok (.iconst 1, 1) := by decide +kernel
theorem dX3_caught_37 : decode cX3_caught 37 = .ok (.iload_n 2, 1) := by decide +kernel
theorem dX3_caught_38 : decode cX3_caught 38 = .ok (.ishl, 1) := by decide +kernel
theorem dX3_caught_39 : decode cX3_caught 39 = .ok (.ior, 1) := by decide +kernel
theorem dX3_caught_40 : decode cX3_caught 40 = .ok (.istore_n 1, 1) := by decide +kernel
theorem dX3_caught_41 : decode cX3_caught 41 = .ok (.iinc 2 1, 3) := by decide +kernel
theorem dX3_caught_44 : decode cX3_caught 44 = .ok (.goto (-40), 3) := by decide +kernel
theorem dX3_caught_47 : decode cX3_caught 47 = .ok (.iload_n 1, 1) := by decide +kernel
theorem dX3_caught_48 : decode cX3_caught 48 = .ok (.ireturn, 1) := by decide +kernel
set_option maxRecDepth 20000 in
theorem ggX3_walk_X1_hasWalker : GoodIn wsX3_walk wsX1_hasWalker := goodIn_r _ [8, 9, 65, 66, 67, 68, 69, 70, 71, 72, 73, 74, 75, 76] (by decide +kernel) (by decide +kernel)
set_option maxRecDepth 20000 in
theorem gX3_walk_X1_hasWalker : GoodIn wsX3_walk (wsV RX3 54 RX1 yX1_hasWalker wsX1_hasWalker) := goodIn_app (goodIn_of _ (by decide +kernel)) ggX3_walk_X1_hasWalker
set_option maxRecDepth 20000 in
theorem ggX3_walk_X1_trapOn : GoodIn wsX3_walk wsX1_trapOn := goodIn_r _ [13, 14, 15, 65, 66, 67, 68, 69, 70, 71, 72, 73, 74, 75, 76] (by decide +kernel) (by decide +kernel)
set_option maxRecDepth 20000 in
theorem gX3_walk_X1_trapOn : GoodIn wsX3_walk (wsV RX3 61 RX1 yX1_trapOn wsX1_trapOn) := goodIn_app (goodIn_of _ (by decide +kernel)) ggX3_walk_X1_trapOn
set_option maxRecDepth 20000 in
theorem ggX3_walk_X1_hasTrap : GoodIn wsX3_walk wsX1_hasTrap := goodIn_r _ [19, 14, 65, 66, 67, 68, 69, 70, 71, 72, 73, 74, 75, 76] (by decide +kernel) (by decide +kernel)
set_option maxRecDepth 20000 in
theorem gX3_walk_X1_hasTrap : GoodIn wsX3_walk (wsV RX3 65 RX1 yX1_hasTrap wsX1_hasTrap) := goodIn_app (goodIn_of _ (by decide +kernel)) ggX3_walk_X1_hasTrap
set_option maxRecDepth 20000 in
theorem ggX3_walk_X3_ready : GoodIn wsX3_walk wsX3_ready := goodIn_r _ [24, 25, 26, 1, 27, 58, 59, 60, 61, 62, 63, 64, 65, 66, 67, 68, 69, 70, 71, 72, 73, 74, 75, 76] (by decide +kernel) (by decide +kernel)
set_option maxRecDepth 20000 in
theorem gX3_walk_X3_ready : GoodIn wsX3_walk (wsV RX3 68 RX3 yX3_ready wsX3_ready) := goodIn_app (goodIn_of _ (by decide +kernel)) ggX3_walk_X3_ready
set_option maxRecDepth 20000 in
theorem ggX3_walk_X1_onlyWakes : GoodIn wsX3_walk wsX1_onlyWakes := goodIn_r _ [31, 32, 33, 17, 18, 7, 19, 14, 65, 66, 67, 68, 69, 70, 71, 72, 73, 74, 75, 76] (by decide +kernel) (by decide +kernel)
set_option maxRecDepth 20000 in
theorem gX3_walk_X1_onlyWakes : GoodIn wsX3_walk (wsV RX3 71 RX1 yX1_onlyWakes wsX1_onlyWakes) := goodIn_app (goodIn_of _ (by decide +kernel)) ggX3_walk_X1_onlyWakes
set_option maxRecDepth 20000 in
theorem ggX3_walk_X1_spread : GoodIn wsX3_walk wsX1_spread := goodIn_r _ [37, 38, 65, 66, 67, 68, 69, 70, 71, 72, 73, 74, 75, 76] (by decide +kernel) (by decide +kernel)
set_option maxRecDepth 20000 in
theorem gX3_walk_X1_spread : GoodIn wsX3_walk (wsV RX3 75 RX1 yX1_spread wsX1_spread) := goodIn_app (goodIn_of _ (by decide +kernel)) ggX3_walk_X1_spread
set_option maxRecDepth 20000 in
theorem ggX3_walk_X3_spring : GoodIn wsX3_walk wsX3_spring := goodIn_r _ [42, 26, 3, 43, 1, 44, 2, 45, 10, 11, 12, 7, 13, 14, 15, 46, 47, 48, 23, 49, 4, 5, 6, 8, 9, 50, 51, 52, 53, 54, 55, 56, 33, 17, 18, 19, 57, 58, 59, 60, 61, 62, 63, 64, 65, 66, 67, 68, 69, 70, 71, 72, 73, 74, 75, 76] (by decide +kernel) (by decide +kernel)
set_option maxRecDepth 20000 in
theorem gX3_walk_X3_spring : GoodIn wsX3_walk (wsV RX3 79 RX3 yX3_spring wsX3_spring) := goodIn_app (goodIn_of _ (by decide +kernel)) ggX3_walk_X3_spring
theorem dX3_walk_0 : decode cX3_walk 0 = .ok (.aload_n 0, 1) := by decide +kernel
theorem dX3_walk_1 : decode cX3_walk 1 = .ok (.getfield 32, 3) := by decide +kernel
theorem dX3_walk_4 : decode cX3_walk 4 = .ok (.iload_n 1, 1) := by decide +kernel
theorem dX3_walk_5 : decode cX3_walk 5 = .ok (.invokevirtual 54, 3) := by decide +kernel
theorem dX3_walk_8 : decode cX3_walk 8 = .ok (.ifCond .ne 5, 3) := by decide +kernel
theorem dX3_walk_11 : decode cX3_walk 11 = .ok (.iconst 0, 1) := by decide +kernel
theorem dX3_walk_12 : decode cX3_walk 12 = .ok (.ireturn, 1) := by decide +kernel
theorem dX3_walk_13 : decode cX3_walk 13 = .ok (.aload_n 0, 1) := by decide +kernel
theorem dX3_walk_14 : decode cX3_walk 14 = .ok (.getfield 26, 3) := by decide +kernel
theorem dX3_walk_17 : decode cX3_walk 17 = .ok (.iload_n 1, 1) := by decide +kernel
theorem dX3_walk_18 : decode cX3_walk 18 = .ok (.iload_n 2, 1) := by decide +kernel
theorem dX3_walk_19 : decode cX3_walk 19 = .ok (.iastore, 1) := by decide +kernel
theorem dX3_walk_20 : decode cX3_walk 20 = .ok (.aload_n 0, 1) := by decide +kernel
theorem dX3_walk_21 : decode cX3_walk 21 = .ok (.getfield 32, 3) := by decide +kernel
theorem dX3_walk_24 : decode cX3_walk 24 = .ok (.iload_n 2, 1) := by decide +kernel
theorem dX3_walk_25 : decode cX3_walk 25 = .ok (.invokevirtual 61, 3) := by decide +kernel
theorem dX3_walk_28 : decode cX3_walk 28 = .ok (.istore_n 3, 1) := by decide +kernel
theorem dX3_walk_29 : decode cX3_walk 29 = .ok (.aload_n 0, 1) := by decide +kernel
theorem dX3_walk_30 : decode cX3_walk 30 = .ok (.getfield 32, 3) := by decide +kernel
theorem dX3_walk_33 : decode cX3_walk 33 = .ok (.iload_n 3, 1) := by decide +kernel
theorem dX3_walk_34 : decode cX3_walk 34 = .ok (.invokevirtual 65, 3) := by decide +kernel
theorem dX3_walk_37 : decode cX3_walk 37 = .ok (.ifCond .eq 14, 3) := by decide +kernel
theorem dX3_walk_40 : decode cX3_walk 40 = .ok (.aload_n 0, 1) := by decide +kernel
theorem dX3_walk_41 : decode cX3_walk 41 = .ok (.invokevirtual 68, 3) := by decide +kernel
theorem dX3_walk_44 : decode cX3_walk 44 = .ok (.iload_n 3, 1) := by decide +kernel
theorem dX3_walk_45 : decode cX3_walk 45 = .ok (.ishr, 1) := by decide +kernel
theorem dX3_walk_46 : decode cX3_walk 46 = .ok (.iconst 1, 1) := by decide +kernel
theorem dX3_walk_47 : decode cX3_walk 47 = .ok (.iand, 1) := by decide +kernel
theorem dX3_walk_48 : decode cX3_walk 48 = .ok (.ifCond .ne 5, 3) := by decide +kernel
theorem dX3_walk_51 : decode cX3_walk 51 = .ok (.iconst 0, 1) := by decide +kernel
theorem dX3_walk_52 : decode cX3_walk 52 = .ok (.ireturn, 1) := by decide +kernel
theorem dX3_walk_53 : decode cX3_walk 53 = .ok (.aload_n 0, 1) := by decide +kernel
theorem dX3_walk_54 : decode cX3_walk 54 = .ok (.getfield 32, 3) := by decide +kernel
theorem dX3_walk_57 : decode cX3_walk 57 = .ok (.iload_n 3, 1) := by decide +kernel
theorem dX3_walk_58 : decode cX3_walk 58 = .ok (.aload_n 0, 1) := by decide +kernel
theorem dX3_walk_59 : decode cX3_walk 59 = .ok (.getfield 15, 3) := by decide +kernel
theorem dX3_walk_62 : decode cX3_walk 62 = .ok (.invokevirtual 71, 3) := by decide +kernel
theorem dX3_walk_65 : decode cX3_walk 65 = .ok (.ifCond .eq 17, 3) := by decide +kernel
theorem dX3_walk_68 : decode cX3_walk 68 = .ok (.aload_n 0, 1) := by decide +kernel
theorem dX3_walk_69 : decode cX3_walk 69 = .ok (.dup, 1) := by decide +kernel
theorem dX3_walk_70 : decode cX3_walk 70 = .ok (.getfield 15, 3) := by decide +kernel
theorem dX3_walk_73 : decode cX3_walk 73 = .ok (.iconst 1, 1) := by decide +kernel
theorem dX3_walk_74 : decode cX3_walk 74 = .ok (.iload_n 3, 1) := by decide +kernel
theorem dX3_walk_75 : decode cX3_walk 75 = .ok (.ishl, 1) := by decide +kernel
theorem dX3_walk_76 : decode cX3_walk 76 = .ok (.ior, 1) := by decide +kernel
theorem dX3_walk_77 : decode cX3_walk 77 = .ok (.putfield 15, 3) := by decide +kernel
theorem dX3_walk_80 : decode cX3_walk 80 = .ok (.iconst 0, 1) := by decide +kernel
theorem dX3_walk_81 : decode cX3_walk 81 = .ok (.ireturn, 1) := by decide +kernel
theorem dX3_walk_82 : decode cX3_walk 82 = .ok (.aload_n 0, 1) := by decide +kernel
theorem dX3_walk_83 : decode cX3_walk 83 = .ok (.getfield 32, 3) := by decide +kernel
theorem dX3_walk_86 : decode cX3_walk 86 = .ok (.iconst 1, 1) := by decide +kernel
theorem dX3_walk_87 : decode cX3_walk 87 = .ok (.iload_n 3, 1) := by decide +kernel
theorem dX3_walk_88 : decode cX3_walk 88 = .ok (.ishl, 1) := by decide +kernel
theorem dX3_walk_89 : decode cX3_walk 89 = .ok (.aload_n 0, 1) := by decide +kernel
theorem dX3_walk_90 : decode cX3_walk 90 = .ok (.invokevirtual 68, 3) := by decide +kernel
theorem dX3_walk_93 : decode cX3_walk 93 = .ok (.invokevirtual 75, 3) := by decide +kernel
theorem dX3_walk_96 : decode cX3_walk 96 = .ok (.istore 4, 2) := by decide +kernel
theorem dX3_walk_98 : decode cX3_walk 98 = .ok (.aload_n 0, 1) := by decide +kernel
theorem dX3_walk_99 : decode cX3_walk 99 = .ok (.iload 4, 2) := by decide +kernel
theorem dX3_walk_101 : decode cX3_walk 101 = .ok (.invokevirtual 79, 3) := by decide +kernel
theorem dX3_walk_104 : decode cX3_walk 104 = .ok (.iload 4, 2) := by decide +kernel
theorem dX3_walk_106 : decode cX3_walk 106 = .ok (.ireturn, 1) := by decide +kernel
set_option maxRecDepth 20000 in
theorem ggX3_spring_X1_trapOn : GoodIn wsX3_spring wsX1_trapOn := goodIn_r _ [12, 13, 14, 44, 45, 46, 47, 48, 49, 50, 51, 52, 53, 54, 55] (by decide +kernel) (by decide +kernel)
set_option maxRecDepth 20000 in
theorem gX3_spring_X1_trapOn : GoodIn wsX3_spring (wsV RX3 61 RX1 yX1_trapOn wsX1_trapOn) := goodIn_app (goodIn_of _ (by decide +kernel)) ggX3_spring_X1_trapOn
set_option maxRecDepth 20000 in
theorem ggX3_spring_X3_isFree : GoodIn wsX3_spring wsX3_isFree := goodIn_r _ [19, 4, 7, 20, 21, 22, 11, 23, 24, 37, 38, 39, 40, 41, 42, 43, 44, 45, 46, 47, 48, 49, 50, 51, 52, 53, 54, 55] (by decide +kernel) (by decide +kernel)
set_option maxRecDepth 20000 in
theorem gX3_spring_X3_isFree : GoodIn wsX3_spring (wsV RX3 83 RX3 yX3_isFree wsX3_isFree) := goodIn_app (goodIn_of _ (by decide +kernel)) ggX3_spring_X3_isFree
set_option maxRecDepth 20000 in
theorem ggX3_spring_X1_catches : GoodIn wsX3_spring wsX1_catches := goodIn_r _ [28, 29, 30, 31, 32, 33, 34, 11, 35, 13, 36, 21, 22, 23, 24, 44, 45, 46, 47, 48, 49, 50, 51, 52, 53, 54, 55] (by decide +kernel) (by decide +kernel)
set_option maxRecDepth 20000 in
theorem gX3_spring_X1_catches : GoodIn wsX3_spring (wsV RX3 86 RX1 yX1_catches wsX1_catches) := goodIn_app (goodIn_of _ (by decide +kernel)) ggX3_spring_X1_catches
theorem dX3_spring_0 : decode cX3_spring 0 = .ok (.aload_n 0, 1) := by decide +kernel
theorem dX3_spring_1 : decode cX3_spring 1 = .ok (.dup, 1) := by decide +kernel
theorem dX3_spring_2 : decode cX3_spring 2 = .ok (.getfield 9, 3) := by decide +kernel
theorem dX3_spring_5 : decode cX3_spring 5 = .ok (.iload_n 1, 1) := by decide +kernel
theorem dX3_spring_6 : decode cX3_spring 6 = .ok (.iconst (-1), 1) := by decide +kernel
theorem dX3_spring_7 : decode cX3_spring 7 = .ok (.ixor, 1) := by decide +kernel
theorem dX3_spring_8 : decode cX3_spring 8 = .ok (.iand, 1) := by decide +kernel
theorem dX3_spring_9 : decode cX3_spring 9 = .ok (.putfield 9, 3) := by decide +kernel
theorem dX3_spring_12 : decode cX3_spring 12 = .ok (.aload_n 0, 1) := by decide +kernel
theorem dX3_spring_13 : decode cX3_spring 13 = .ok (.dup, 1) := by decide +kernel
theorem dX3_spring_14 : decode cX3_spring 14 = .ok (.getfield 15, 3) := by decide +kernel
theorem dX3_spring_17 : decode cX3_spring 17 = .ok (.iload_n 1, 1) := by decide +kernel
theorem dX3_spring_18 : decode cX3_spring 18 = .ok (.iconst (-1), 1) := by decide +kernel
theorem dX3_spring_19 : decode cX3_spring 19 = .ok (.ixor, 1) := by decide +kernel
theorem dX3_spring_20 : decode cX3_spring 20 = .ok (.iand, 1) := by decide +kernel
theorem dX3_spring_21 : decode cX3_spring 21 = .ok (.putfield 15, 3) := by decide +kernel
theorem dX3_spring_24 : decode cX3_spring 24 = .ok (.iconst 0, 1) := by decide +kernel
theorem dX3_spring_25 : decode cX3_spring 25 = .ok (.istore_n 2, 1) := by decide +kernel
theorem dX3_spring_26 : decode cX3_spring 26 = .ok (.iload_n 2, 1) := by decide +kernel
theorem dX3_spring_27 : decode cX3_spring 27 = .ok (.iconst 2, 1) := by decide +kernel
theorem dX3_spring_28 : decode cX3_spring 28 = .ok (.if_icmp .ge 19, 3) := by decide +kernel
theorem dX3_spring_31 : decode cX3_spring 31 = .ok (.aload_n 0, 1) := by decide +kernel
theorem dX3_spring_32 : decode cX3_spring 32 = .ok (.getfield 22, 3) := by decide +kernel
theorem dX3_spring_35 : decode cX3_spring 35 = .ok (.iload_n 2, 1) := by decide +kernel
theorem dX3_spring_36 : decode cX3_spring 36 = .ok (.dup2, 1) := by decide +kernel
theorem dX3_spring_37 : decode cX3_spring 37 = .ok (.iaload, 1) := by decide +kernel
theorem dX3_spring_38 : decode cX3_spring 38 = .ok (.iload_n 1, 1) := by decide +kernel
theorem dX3_spring_39 : decode cX3_spring 39 = .ok (.ior, 1) := by decide +kernel
theorem dX3_spring_40 : decode cX3_spring 40 = .ok (.iastore, 1) := by decide +kernel
theorem dX3_spring_41 : decode cX3_spring 41 = .ok (.iinc 2 1, 3) := by decide +kernel
theorem dX3_spring_44 : decode cX3_spring 44 = .ok (.goto (-18), 3) := by decide +kernel
theorem dX3_spring_47 : decode cX3_spring 47 = .ok (.iconst 0, 1) := by decide +kernel
theorem dX3_spring_48 : decode cX3_spring 48 = .ok (.istore_n 2, 1) := by decide +kernel
theorem dX3_spring_49 : decode cX3_spring 49 = .ok (.iload_n 2, 1) := by decide +kernel
theorem dX3_spring_50 : decode cX3_spring 50 = .ok (.iconst 4, 1) := by decide +kernel
theorem dX3_spring_51 : decode cX3_spring 51 = .ok (.if_icmp .ge 87, 3) := by decide +kernel
theorem dX3_spring_54 : decode cX3_spring 54 = .ok (.iload_n 2, 1) := by decide +kernel
theorem dX3_spring_55 : decode cX3_spring 55 = .ok (.aload_n 0, 1) := by decide +kernel
theorem dX3_spring_56 : decode cX3_spring 56 = .ok (.getfield 32, 3) := by decide +kernel
theorem dX3_spring_59 : decode cX3_spring 59 = .ok (.getfield 58, 3) := by decide +kernel
theorem dX3_spring_62 : decode cX3_spring 62 = .ok (.if_icmp .ge 76, 3) := by decide +kernel
theorem dX3_spring_65 : decode cX3_spring 65 = .ok (.aload_n 0, 1) := by decide +kernel
theorem dX3_spring_66 : decode cX3_spring 66 = .ok (.getfield 32, 3) := by decide +kernel
theorem dX3_spring_69 : decode cX3_spring 69 = .ok (.aload_n 0, 1) := by decide +kernel
theorem dX3_spring_70 : decode cX3_spring 70 = .ok (.getfield 26, 3) := by decide +kernel
theorem dX3_spring_73 : decode cX3_spring 73 = .ok (.iload_n 2, 1) := by decide +kernel
theorem dX3_spring_74 : decode cX3_spring 74 = .ok (.iaload, 1) := by decide +kernel
theorem dX3_spring_75 : decode cX3_spring 75 = .ok (.invokevirtual 61, 3) := by decide +kernel
theorem dX3_spring_78 : decode cX3_spring 78 = .ok (.istore_n 3, 1) := by decide +kernel
theorem dX3_spring_79 : decode cX3_spring 79 = .ok (.iload_n 3, 1) := by decide +kernel
theorem dX3_spring_80 : decode cX3_spring 80 = .ok (.bipush (-9), 2) := by decide +kernel
theorem dX3_spring_82 : decode cX3_spring 82 = .ok (.if_icmp .eq 15, 3) := by decide +kernel
theorem dX3_spring_85 : decode cX3_spring 85 = .ok (.iload_n 1, 1) := by decide +kernel
theorem dX3_spring_86 : decode cX3_spring 86 = .ok (.iload_n 3, 1) := by decide +kernel
theorem dX3_spring_87 : decode cX3_spring 87 = .ok (.ishr, 1) := by decide +kernel
theorem dX3_spring_88 : decode cX3_spring 88 = .ok (.iconst 1, 1) := by decide +kernel
theorem dX3_spring_89 : decode cX3_spring 89 = .ok (.iand, 1) := by decide +kernel
theorem dX3_spring_90 : decode cX3_spring 90 = .ok (.ifCond .eq 7, 3) := by decide +kernel
theorem dX3_spring_93 : decode cX3_spring 93 = .ok (.iconst 1, 1) := by decide +kernel
theorem dX3_spring_94 : decode cX3_spring 94 = .ok (.goto 4, 3) := by decide +kernel
theorem dX3_spring_97 : decode cX3_spring 97 = .ok (.iconst 0, 1) := by decide +kernel
theorem dX3_spring_98 : decode cX3_spring 98 = .ok (.istore 4, 2) := by decide +kernel
theorem dX3_spring_100 : decode cX3_spring 100 = .ok (.iload 4, 2) := by decide +kernel
theorem dX3_spring_102 : decode cX3_spring 102 = .ok (.ifCond .eq 30, 3) := by decide +kernel
theorem dX3_spring_105 : decode cX3_spring 105 = .ok (.aload_n 0, 1) := by decide +kernel
theorem dX3_spring_106 : decode cX3_spring 106 = .ok (.iload_n 2, 1) := by decide +kernel
theorem dX3_spring_107 : decode cX3_spring 107 = .ok (.invokevirtual 83, 3) := by decide +kernel
theorem dX3_spring_110 : decode cX3_spring 110 = .ok (.ifCond .eq 22, 3) := by decide +kernel
theorem dX3_spring_113 : decode cX3_spring 113 = .ok (.aload_n 0, 1) := by decide +kernel
theorem dX3_spring_114 : decode cX3_spring 114 = .ok (.getfield 32, 3) := by decide +kernel
theorem dX3_spring_117 : decode cX3_spring 117 = .ok (.iload_n 3, 1) := by decide +kernel
theorem dX3_spring_118 : decode cX3_spring 118 = .ok (.iload_n 2, 1) := by decide +kernel
theorem dX3_spring_119 : decode cX3_spring 119 = .ok (.invokevirtual 86, 3) := by decide +kernel
theorem dX3_spring_122 : decode cX3_spring 122 = .ok (.ifCond .eq 10, 3) := by decide +kernel
theorem dX3_spring_125 : decode cX3_spring 125 = .ok (.aload_n 0, 1) := by decide +kernel
theorem dX3_spring_126 : decode cX3_spring 126 = .ok (.getfield 29, 3) := by decide +kernel
theorem dX3_spring_129 : decode cX3_spring 129 = .ok (.iload_n 2, 1) := by decide +kernel
theorem dX3_spring_130 : decode cX3_spring 130 = .ok (.iload_n 3, 1) := by decide +kernel
theorem dX3_spring_131 : decode cX3_spring 131 = .ok (.iastore, 1) := by decide +kernel
theorem dX3_spring_132 : decode cX3_spring 132 = .ok (.iinc 2 1, 3) := by decide +kernel
theorem dX3_spring_135 : decode cX3_spring 135 = .ok (.goto (-86), 3) := by decide +kernel
theorem dX3_spring_138 : decode cX3_spring 138 = .ok (.return_, 1) := by decide +kernel
theorem dX4_init_0 : decode cX4_init 0 = .ok (.aload_n 0, 1) := by decide +kernel
theorem dX4_init_1 : decode cX4_init 1 = .ok (.invokespecial 3, 3) := by decide +kernel
theorem dX4_init_4 : decode cX4_init 4 = .ok (.aload_n 0, 1) := by decide +kernel
theorem dX4_init_5 : decode cX4_init 5 = .ok (.iconst 0, 1) := by decide +kernel
theorem dX4_init_6 : decode cX4_init 6 = .ok (.putfield 9, 3) := by decide +kernel
theorem dX4_init_9 : decode cX4_init 9 = .ok (.aload_n 0, 1) := by decide +kernel
theorem dX4_init_10 : decode cX4_init 10 = .ok (.bipush (-9), 2) := by decide +kernel
theorem dX4_init_12 : decode cX4_init 12 = .ok (.putfield 15, 3) := by decide +kernel
theorem dX4_init_15 : decode cX4_init 15 = .ok (.aload_n 0, 1) := by decide +kernel
theorem dX4_init_16 : decode cX4_init 16 = .ok (.aload_n 1, 1) := by decide +kernel
theorem dX4_init_17 : decode cX4_init 17 = .ok (.putfield 18, 3) := by decide +kernel
theorem dX4_init_20 : decode cX4_init 20 = .ok (.return_, 1) := by decide +kernel
theorem dX4_wholeOf_0 : decode cX4_wholeOf 0 = .ok (.iconst 1, 1) := by decide +kernel
theorem dX4_wholeOf_1 : decode cX4_wholeOf 1 = .ok (.istore_n 1, 1) := by decide +kernel
theorem dX4_wholeOf_2 : decode cX4_wholeOf 2 = .ok (.iconst 0, 1) := by decide +kernel
theorem dX4_wholeOf_3 : decode cX4_wholeOf 3 = .ok (.istore_n 2, 1) := by decide +kernel
theorem dX4_wholeOf_4 : decode cX4_wholeOf 4 = .ok (.iload_n 2, 1) := by decide +kernel
theorem dX4_wholeOf_5 : decode cX4_wholeOf 5 = .ok (.iconst 4, 1) := by decide +kernel
theorem dX4_wholeOf_6 : decode cX4_wholeOf 6 = .ok (.if_icmp .ge 19, 3) := by decide +kernel
theorem dX4_wholeOf_9 : decode cX4_wholeOf 9 = .ok (.iload_n 2, 1) := by decide +kernel
theorem dX4_wholeOf_10 : decode cX4_wholeOf 10 = .ok (.iload_n 0, 1) := by decide +kernel
theorem dX4_wholeOf_11 : decode cX4_wholeOf 11 = .ok (.if_icmp .ge 14, 3) := by decide +kernel
theorem dX4_wholeOf_14 : decode cX4_wholeOf 14 = .ok (.iload_n 1, 1) := by decide +kernel
theorem dX4_wholeOf_15 : decode cX4_wholeOf 15 = .ok (.bipush 12, 2) := by decide +kernel
theorem dX4_wholeOf_17 : decode cX4_wholeOf 17 = .ok (.imul, 1) := by decide +kernel
theorem dX4_wholeOf_18 : decode cX4_wholeOf 18 = .ok (.istore_n 1, 1) := by decide +kernel
theorem dX4_wholeOf_19 : decode cX4_wholeOf 19 = .ok (.iinc 2 1, 3) := by decide +kernel
theorem dX4_wholeOf_22 : decode cX4_wholeOf 22 = .ok (.goto (-18), 3) := by decide +kernel
theorem dX4_wholeOf_25 : decode cX4_wholeOf 25 = .ok (.iload_n 1, 1) := by decide +kernel
theorem dX4_wholeOf_26 : decode cX4_wholeOf 26 = .ok (.ireturn, 1) := by decide +kernel
set_option maxRecDepth 20000 in
theorem ggX4_chance_X1_hasWalker : GoodIn wsX4_chance wsX1_hasWalker := goodIn_r _ [12, 13, 85, 86, 87, 88, 89, 90, 91, 92, 93, 94, 95, 96] (by decide +kernel) (by decide +kernel)
set_option maxRecDepth 20000 in
theorem gX4_chance_X1_hasWalker : GoodIn wsX4_chance (wsV RX4 28 RX1 yX1_hasWalker wsX1_hasWalker) := goodIn_app (goodIn_of _ (by decide +kernel)) ggX4_chance_X1_hasWalker
set_option maxRecDepth 20000 in
theorem ggX4_chance_X4_wholeOf : GoodIn wsX4_chance wsX4_wholeOf := goodIn_r _ [17] (by decide +kernel) (by decide +kernel)
set_option maxRecDepth 20000 in
theorem gX4_chance_X4_wholeOf : GoodIn wsX4_chance (va_wsS RX4 44 yX4_wholeOf wsX4_wholeOf) := goodIn_app (goodIn_of _ (by decide +kernel)) ggX4_chance_X4_wholeOf
set_option maxRecDepth 20000 in
theorem ggX4_chance_X4_caughtFrom : GoodIn wsX4_chance wsX4_caughtFrom := goodIn_r _ [21, 2, 22, 23, 24, 11, 25, 26, 27, 28, 29, 30, 31, 32, 33, 34, 35, 36, 37, 38, 39, 40, 41, 42, 43, 16, 44, 4, 45, 3, 46, 47, 48, 49, 50, 51, 52, 53, 54, 55, 18, 19, 20, 56, 57, 58, 59, 60, 61, 62, 63, 64, 65, 66, 67, 68, 69, 9, 10, 12, 13, 70, 71, 72, 73, 74, 82, 83, 84, 85, 86, 87, 88, 89, 90, 91, 92, 93, 94, 95, 96] (by decide +kernel) (by decide +kernel)
set_option maxRecDepth 20000 in
theorem gX4_chance_X4_caughtFrom : GoodIn wsX4_chance (wsV RX4 48 RX4 yX4_caughtFrom wsX4_caughtFrom) := goodIn_app (goodIn_of _ (by decide +kernel)) ggX4_chance_X4_caughtFrom
theorem dX4_chance_0 : decode cX4_chance 0 = .ok (.aload_n 1, 1) := by decide +kernel
theorem dX4_chance_1 : decode cX4_chance 1 = .ok (.getfield 22, 3) := by decide +kernel
theorem dX4_chance_4 : decode cX4_chance 4 = .ok (.ifCond .ne 14, 3) := by decide +kernel
theorem dX4_chance_7 : decode cX4_chance 7 = .ok (.aload_n 0, 1) := by decide +kernel
theorem dX4_chance_8 : decode cX4_chance 8 = .ok (.getfield 18, 3) := by decide +kernel
theorem dX4_chance_11 : decode cX4_chance 11 = .ok (.iload_n 2, 1) := by decide +kernel
theorem dX4_chance_12 : decode cX4_chance 12 = .ok (.invokevirtual 28, 3) := by decide +kernel
theorem dX4_chance_15 : decode cX4_chance 15 = .ok (.ifCond .ne 5, 3) := by decide +kernel
theorem dX4_chance_18 : decode cX4_chance 18 = .ok (.iconst 0, 1) := by decide +kernel
theorem dX4_chance_19 : decode cX4_chance 19 = .ok (.ireturn, 1) := by decide +kernel
theorem dX4_chance_20 : decode cX4_chance 20 = .ok (.aload_n 0, 1) := by decide +kernel
theorem dX4_chance_21 : decode cX4_chance 21 = .ok (.iload_n 2, 1) := by decide +kernel
theorem dX4_chance_22 : decode cX4_chance 22 = .ok (.putfield 9, 3) := by decide +kernel
theorem dX4_chance_25 : decode cX4_chance 25 = .ok (.aload_n 0, 1) := by decide +kernel
theorem dX4_chance_26 : decode cX4_chance 26 = .ok (.iload 4, 2) := by decide +kernel
theorem dX4_chance_28 : decode cX4_chance 28 = .ok (.putfield 15, 3) := by decide +kernel
theorem dX4_chance_31 : decode cX4_chance 31 = .ok (.aload_n 0, 1) := by decide +kernel
theorem dX4_chance_32 : decode cX4_chance 32 = .ok (.aload_n 1, 1) := by decide +kernel
theorem dX4_chance_33 : decode cX4_chance 33 = .ok (.getfield 34, 3) := by decide +kernel
theorem dX4_chance_36 : decode cX4_chance 36 = .ok (.iload_n 2, 1) := by decide +kernel
theorem dX4_chance_37 : decode cX4_chance 37 = .ok (.iaload, 1) := by decide +kernel
theorem dX4_chance_38 : decode cX4_chance 38 = .ok (.aload_n 1, 1) := by decide +kernel
theorem dX4_chance_39 : decode cX4_chance 39 = .ok (.getfield 38, 3) := by decide +kernel
theorem dX4_chance_42 : decode cX4_chance 42 = .ok (.aload_n 1, 1) := by decide +kernel
theorem dX4_chance_43 : decode cX4_chance 43 = .ok (.getfield 41, 3) := by decide +kernel
theorem dX4_chance_46 : decode cX4_chance 46 = .ok (.iload_n 3, 1) := by decide +kernel
theorem dX4_chance_47 : decode cX4_chance 47 = .ok (.iload_n 3, 1) := by decide +kernel
theorem dX4_chance_48 : decode cX4_chance 48 = .ok (.invokestatic 44, 3) := by decide +kernel
theorem dX4_chance_51 : decode cX4_chance 51 = .ok (.invokevirtual 48, 3) := by decide +kernel
theorem dX4_chance_54 : decode cX4_chance 54 = .ok (.ireturn, 1) := by decide +kernel
set_option maxRecDepth 20000 in
theorem ggX4_caughtFrom_X1_waysFrom : GoodIn wsX4_caughtFrom wsX1_waysFrom := goodIn_r _ [6, 7, 8, 9, 10, 11, 12, 13, 14, 69, 70, 71, 72, 73, 74, 75, 76, 77, 78, 79, 80] (by decide +kernel) (by decide +kernel)
set_option maxRecDepth 20000 in
theorem gX4_caughtFrom_X1_waysFrom : GoodIn wsX4_caughtFrom (wsV RX4 52 RX1 yX1_waysFrom wsX1_waysFrom) := goodIn_app (goodIn_of _ (by decide +kernel)) ggX4_caughtFrom_X1_waysFrom
set_option maxRecDepth 20000 in
theorem ggX4_caughtFrom_J6_bitCount_0f7a4 : GoodIn wsX4_caughtFrom wsJ6_bitCount_0f7a4 := goodIn_r _ [18, 19, 20, 21] (by decide +kernel) (by decide +kernel)
set_option maxRecDepth 20000 in
theorem gX4_caughtFrom_J6_bitCount_0f7a4 : GoodIn wsX4_caughtFrom (va_wsS RX4 55 yJ6_bitCount_0f7a4 wsJ6_bitCount_0f7a4) := goodIn_app (goodIn_of _ (by decide +kernel)) ggX4_caughtFrom_J6_bitCount_0f7a4
set_option maxRecDepth 20000 in
theorem ggX4_caughtFrom_X4_caughtOn : GoodIn wsX4_caughtFrom wsX4_caughtOn := goodIn_r _ [26, 27, 1, 28, 29, 30, 31, 32, 5, 33, 34, 35, 36, 37, 38, 39, 40, 41, 42, 25, 43, 44, 45, 46, 47, 48, 49, 50, 51, 52, 53, 54, 55, 56, 57, 58, 59, 60, 61, 62, 63, 64, 65, 0, 2, 3, 4, 6, 7, 8, 9, 10, 11, 12, 13, 14, 15, 16, 17, 18, 19, 20, 21, 22, 23, 24, 66, 67, 68, 69, 70, 71, 72, 73, 74, 75, 76, 77, 78, 79, 80] (by decide +kernel) (by decide +kernel)
set_option maxRecDepth 20000 in
theorem gX4_caughtFrom_X4_caughtOn : GoodIn wsX4_caughtFrom (wsV RX4 60 RX4 yX4_caughtOn wsX4_caughtOn) := goodIn_app (goodIn_of _ (by decide +kernel)) ggX4_caughtFrom_X4_caughtOn
theorem dX4_caughtFrom_0 : decode cX4_caughtFrom 0 = .ok (.aload_n 0, 1) := by decide +kernel
theorem dX4_caughtFrom_1 : decode cX4_caughtFrom 1 = .ok (.getfield 18, 3) := by decide +kernel
theorem dX4_caughtFrom_4 : decode cX4_caughtFrom 4 = .ok (.iload_n 1, 1) := by decide +kernel
theorem dX4_caughtFrom_5 : decode cX4_caughtFrom 5 = .ok (.invokevirtual 52, 3) := by decide +kernel
theorem dX4_caughtFrom_8 : decode cX4_caughtFrom 8 = .ok (.istore 6, 2) := by decide +kernel
theorem dX4_caughtFrom_10 : decode cX4_caughtFrom 10 = .ok (.iload 6, 2) := by decide +kernel
theorem dX4_caughtFrom_12 : decode cX4_caughtFrom 12 = .ok (.invokestatic 55, 3) := by decide +kernel
theorem dX4_caughtFrom_15 : decode cX4_caughtFrom 15 = .ok (.istore 7, 2) := by decide +kernel
theorem dX4_caughtFrom_17 : decode cX4_caughtFrom 17 = .ok (.iload 4, 2) := by decide +kernel
theorem dX4_caughtFrom_19 : decode cX4_caughtFrom 19 = .ok (.ifCond .le 14, 3) := by decide +kernel
theorem dX4_caughtFrom_22 : decode cX4_caughtFrom 22 = .ok (.iload 4, 2) := by decide +kernel
theorem dX4_caughtFrom_24 : decode cX4_caughtFrom 24 = .ok (.iconst 4, 1) := by decide +kernel
theorem dX4_caughtFrom_25 : decode cX4_caughtFrom 25 = .ok (.if_icmp .gt 8, 3) := by decide +kernel
theorem dX4_caughtFrom_28 : decode cX4_caughtFrom 28 = .ok (.iload 7, 2) := by decide +kernel
theorem dX4_caughtFrom_30 : decode cX4_caughtFrom 30 = .ok (.ifCond .ne 5, 3) := by decide +kernel
theorem dX4_caughtFrom_33 : decode cX4_caughtFrom 33 = .ok (.iconst 0, 1) := by decide +kernel
theorem dX4_caughtFrom_34 : decode cX4_caughtFrom 34 = .ok (.ireturn, 1) := by decide +kernel
theorem dX4_caughtFrom_35 : decode cX4_caughtFrom 35 = .ok (.iload 5, 2) := by decide +kernel
theorem dX4_caughtFrom_37 : decode cX4_caughtFrom 37 = .ok (.iload 7, 2) := by decide +kernel
theorem dX4_caughtFrom_39 : decode cX4_caughtFrom 39 = .ok (.idiv, 1) := by decide +kernel
theorem dX4_caughtFrom_40 : decode cX4_caughtFrom 40 = .ok (.istore 8, 2) := by decide +kernel
theorem dX4_caughtFrom_42 : decode cX4_caughtFrom 42 = .ok (.iconst 0, 1) := by decide +kernel
theorem dX4_caughtFrom_43 : decode cX4_caughtFrom 43 = .ok (.istore 9, 2) := by decide +kernel
theorem dX4_caughtFrom_45 : decode cX4_caughtFrom 45 = .ok (.iconst 0, 1) := by decide +kernel
theorem dX4_caughtFrom_46 : decode cX4_caughtFrom 46 = .ok (.istore 10, 2) := by decide +kernel
theorem dX4_caughtFrom_48 : decode cX4_caughtFrom 48 = .ok (.iload 10, 2) := by decide +kernel
theorem dX4_caughtFrom_50 : decode cX4_caughtFrom 50 = .ok (.bipush 12, 2) := by decide +kernel
theorem dX4_caughtFrom_52 : decode cX4_caughtFrom 52 = .ok (.if_icmp .ge 40, 3) := by decide +kernel
theorem dX4_caughtFrom_55 : decode cX4_caughtFrom 55 = .ok (.iload 9, 2) := by decide +kernel
theorem dX4_caughtFrom_57 : decode cX4_caughtFrom 57 = .ok (.iload 6, 2) := by decide +kernel
theorem dX4_caughtFrom_59 : decode cX4_caughtFrom 59 = .ok (.iload 10, 2) := by decide +kernel
theorem dX4_caughtFrom_61 : decode cX4_caughtFrom 61 = .ok (.ishr, 1) := by decide +kernel
theorem dX4_caughtFrom_62 : decode cX4_caughtFrom 62 = .ok (.iconst 1, 1) := by decide +kernel
theorem dX4_caughtFrom_63 : decode cX4_caughtFrom 63 = .ok (.iand, 1) := by decide +kernel
theorem dX4_caughtFrom_64 : decode cX4_caughtFrom 64 = .ok (.ifCond .eq 18, 3) := by decide +kernel
theorem dX4_caughtFrom_67 : decode cX4_caughtFrom 67 = .ok (.aload_n 0, 1) := by decide +kernel
theorem dX4_caughtFrom_68 : decode cX4_caughtFrom 68 = .ok (.iload 10, 2) := by decide +kernel
theorem dX4_caughtFrom_70 : decode cX4_caughtFrom 70 = .ok (.iload_n 2, 1) := by decide +kernel
theorem dX4_caughtFrom_71 : decode cX4_caughtFrom 71 = .ok (.iload_n 3, 1) := by decide +kernel
theorem dX4_caughtFrom_72 : decode cX4_caughtFrom 72 = .ok (.iload 4, 2) := by decide +kernel
theorem dX4_caughtFrom_74 : decode cX4_caughtFrom 74 = .ok (.iload 8, 2) := by decide +kernel
theorem dX4_caughtFrom_76 : decode cX4_caughtFrom 76 = .ok (.invokevirtual 60, 3) := by decide +kernel
theorem dX4_caughtFrom_79 : decode cX4_caughtFrom 79 = .ok (.goto 4, 3) := by decide +kernel
theorem dX4_caughtFrom_82 : decode cX4_caughtFrom 82 = .ok (.iconst 0, 1) := by decide +kernel
theorem dX4_caughtFrom_83 : decode cX4_caughtFrom 83 = .ok (.iadd, 1) := by decide +kernel
theorem dX4_caughtFrom_84 : decode cX4_caughtFrom 84 = .ok (.istore 9, 2) := by decide +kernel
theorem dX4_caughtFrom_86 : decode cX4_caughtFrom 86 = .ok (.iinc 10 1, 3) := by decide +kernel
theorem dX4_caughtFrom_89 : decode cX4_caughtFrom 89 = .ok (.goto (-41), 3) := by decide +kernel
theorem dX4_caughtFrom_92 : decode cX4_caughtFrom 92 = .ok (.iload 9, 2) := by decide +kernel
theorem dX4_caughtFrom_94 : decode cX4_caughtFrom 94 = .ok (.ireturn, 1) := by decide +kernel
set_option maxRecDepth 20000 in
theorem ggX4_caughtOn_X1_trapOn : GoodIn wsX4_caughtOn wsX1_trapOn := goodIn_r _ [9, 10, 11, 69, 70, 71, 72, 73, 74, 75, 76, 77, 78, 79, 80] (by decide +kernel) (by decide +kernel)
set_option maxRecDepth 20000 in
theorem gX4_caughtOn_X1_trapOn : GoodIn wsX4_caughtOn (wsV RX4 66 RX1 yX1_trapOn wsX1_trapOn) := goodIn_app (goodIn_of _ (by decide +kernel)) ggX4_caughtOn_X1_trapOn
set_option maxRecDepth 20000 in
theorem ggX4_caughtOn_X1_hasTrap : GoodIn wsX4_caughtOn wsX1_hasTrap := goodIn_r _ [15, 10, 69, 70, 71, 72, 73, 74, 75, 76, 77, 78, 79, 80] (by decide +kernel) (by decide +kernel)
set_option maxRecDepth 20000 in
theorem gX4_caughtOn_X1_hasTrap : GoodIn wsX4_caughtOn (wsV RX4 69 RX1 yX1_hasTrap wsX1_hasTrap) := goodIn_app (goodIn_of _ (by decide +kernel)) ggX4_caughtOn_X1_hasTrap
set_option maxRecDepth 20000 in
theorem ggX4_caughtOn_X4_caughtFrom : GoodIn wsX4_caughtOn wsX4_caughtFrom := goodIn_r _ [43, 2, 44, 45, 46, 8, 47, 48, 49, 50, 51, 52, 53, 54, 55, 56, 57, 58, 59, 60, 61, 62, 63, 64, 65, 19, 0, 1, 3, 4, 5, 6, 7, 9, 10, 11, 12, 13, 14, 15, 16, 17, 18, 20, 21, 22, 23, 24, 25, 26, 27, 28, 29, 30, 31, 32, 33, 34, 35, 36, 37, 38, 39, 40, 41, 42, 66, 67, 68, 69, 70, 71, 72, 73, 74, 75, 76, 77, 78, 79, 80] (by decide +kernel) (by decide +kernel)
set_option maxRecDepth 20000 in
theorem gX4_caughtOn_X4_caughtFrom : GoodIn wsX4_caughtOn (wsV RX4 48 RX4 yX4_caughtFrom wsX4_caughtFrom) := goodIn_app (goodIn_of _ (by decide +kernel)) ggX4_caughtOn_X4_caughtFrom
set_option maxRecDepth 20000 in
theorem ggX4_caughtOn_X1_onlyWakes : GoodIn wsX4_caughtOn wsX1_onlyWakes := goodIn_r _ [23, 24, 25, 13, 14, 8, 15, 10, 69, 70, 71, 72, 73, 74, 75, 76, 77, 78, 79, 80] (by decide +kernel) (by decide +kernel)
set_option maxRecDepth 20000 in
theorem gX4_caughtOn_X1_onlyWakes : GoodIn wsX4_caughtOn (wsV RX4 72 RX1 yX1_onlyWakes wsX1_onlyWakes) := goodIn_app (goodIn_of _ (by decide +kernel)) ggX4_caughtOn_X1_onlyWakes
set_option maxRecDepth 20000 in
theorem ggX4_caughtOn_X1_catches : GoodIn wsX4_caughtOn wsX1_catches := goodIn_r _ [29, 30, 31, 32, 25, 13, 14, 8, 15, 10, 33, 34, 35, 36, 37, 69, 70, 71, 72, 73, 74, 75, 76, 77, 78, 79, 80] (by decide +kernel) (by decide +kernel)
set_option maxRecDepth 20000 in
theorem gX4_caughtOn_X1_catches : GoodIn wsX4_caughtOn (wsV RX4 76 RX1 yX1_catches wsX1_catches) := goodIn_app (goodIn_of _ (by decide +kernel)) ggX4_caughtOn_X1_catches
set_option maxRecDepth 20000 in
theorem ggX4_caughtOn_X1_spread : GoodIn wsX4_caughtOn wsX1_spread := goodIn_r _ [41, 42, 69, 70, 71, 72, 73, 74, 75, 76, 77, 78, 79, 80] (by decide +kernel) (by decide +kernel)
set_option maxRecDepth 20000 in
theorem gX4_caughtOn_X1_spread : GoodIn wsX4_caughtOn (wsV RX4 79 RX1 yX1_spread wsX1_spread) := goodIn_app (goodIn_of _ (by decide +kernel)) ggX4_caughtOn_X1_spread
theorem dX4_caughtOn_0 : decode cX4_caughtOn 0 = .ok (.iload_n 1, 1) := by decide +kernel
theorem dX4_caughtOn_1 : decode cX4_caughtOn 1 = .ok (.aload_n 0, 1) := by decide +kernel
theorem dX4_caughtOn_2 : decode cX4_caughtOn 2 = .ok (.getfield 15, 3) := by decide +kernel
theorem dX4_caughtOn_5 : decode cX4_caughtOn 5 = .ok (.if_icmp .ne 6, 3) := by decide +kernel
theorem dX4_caughtOn_8 : decode cX4_caughtOn 8 = .ok (.iload 5, 2) := by decide +kernel
theorem dX4_caughtOn_10 : decode cX4_caughtOn 10 = .ok (.ireturn, 1) := by decide +kernel
theorem dX4_caughtOn_11 : decode cX4_caughtOn 11 = .ok (.iload_n 2, 1) := by decide +kernel
theorem dX4_caughtOn_12 : decode cX4_caughtOn 12 = .ok (.aload_n 0, 1) := by decide +kernel
theorem dX4_caughtOn_13 : decode cX4_caughtOn 13 = .ok (.getfield 18, 3) := by decide +kernel
theorem dX4_caughtOn_16 : decode cX4_caughtOn 16 = .ok (.getfield 63, 3) := by decide +kernel
theorem dX4_caughtOn_19 : decode cX4_caughtOn 19 = .ok (.iconst (-1), 1) := by decide +kernel
theorem dX4_caughtOn_20 : decode cX4_caughtOn 20 = .ok (.ixor, 1) := by decide +kernel
theorem dX4_caughtOn_21 : decode cX4_caughtOn 21 = .ok (.iand, 1) := by decide +kernel
theorem dX4_caughtOn_22 : decode cX4_caughtOn 22 = .ok (.istore 6, 2) := by decide +kernel
theorem dX4_caughtOn_24 : decode cX4_caughtOn 24 = .ok (.aload_n 0, 1) := by decide +kernel
theorem dX4_caughtOn_25 : decode cX4_caughtOn 25 = .ok (.getfield 18, 3) := by decide +kernel
theorem dX4_caughtOn_28 : decode cX4_caughtOn 28 = .ok (.iload_n 1, 1) := by decide +kernel
theorem dX4_caughtOn_29 : decode cX4_caughtOn 29 = .ok (.invokevirtual 66, 3) := by decide +kernel
theorem dX4_caughtOn_32 : decode cX4_caughtOn 32 = .ok (.istore 7, 2) := by decide +kernel
theorem dX4_caughtOn_34 : decode cX4_caughtOn 34 = .ok (.aload_n 0, 1) := by decide +kernel
theorem dX4_caughtOn_35 : decode cX4_caughtOn 35 = .ok (.getfield 18, 3) := by decide +kernel
theorem dX4_caughtOn_38 : decode cX4_caughtOn 38 = .ok (.iload 7, 2) := by decide +kernel
theorem dX4_caughtOn_40 : decode cX4_caughtOn 40 = .ok (.invokevirtual 69, 3) := by decide +kernel
theorem dX4_caughtOn_43 : decode cX4_caughtOn 43 = .ok (.ifCond .eq 13, 3) := by decide +kernel
theorem dX4_caughtOn_46 : decode cX4_caughtOn 46 = .ok (.iload 6, 2) := by decide +kernel
theorem dX4_caughtOn_48 : decode cX4_caughtOn 48 = .ok (.iload 7, 2) := by decide +kernel
theorem dX4_caughtOn_50 : decode cX4_caughtOn 50 = .ok (.ishr, 1) := by decide +kernel
theorem dX4_caughtOn_51 : decode cX4_caughtOn 51 = .ok (.iconst 1, 1) := by decide +kernel
theorem dX4_caughtOn_52 : decode cX4_caughtOn 52 = .ok (.iand, 1) := by decide +kernel
theorem dX4_caughtOn_53 : decode cX4_caughtOn 53 = .ok (.ifCond .ne 17, 3) := by decide +kernel
theorem dX4_caughtOn_56 : decode cX4_caughtOn 56 = .ok (.aload_n 0, 1) := by decide +kernel
theorem dX4_caughtOn_57 : decode cX4_caughtOn 57 = .ok (.iload_n 1, 1) := by decide +kernel
theorem dX4_caughtOn_58 : decode cX4_caughtOn 58 = .ok (.iload_n 2, 1) := by decide +kernel
theorem dX4_caughtOn_59 : decode cX4_caughtOn 59 = .ok (.iload_n 3, 1) := by decide +kernel
theorem dX4_caughtOn_60 : decode cX4_caughtOn 60 = .ok (.iload 4, 2) := by decide +kernel
theorem dX4_caughtOn_62 : decode cX4_caughtOn 62 = .ok (.iconst 1, 1) := by decide +kernel
theorem dX4_caughtOn_63 : decode cX4_caughtOn 63 = .ok (.isub, 1) := by decide +kernel
theorem dX4_caughtOn_64 : decode cX4_caughtOn 64 = .ok (.iload 5, 2) := by decide +kernel
theorem dX4_caughtOn_66 : decode cX4_caughtOn 66 = .ok (.invokevirtual 48, 3) := by decide +kernel
theorem dX4_caughtOn_69 : decode cX4_caughtOn 69 = .ok (.ireturn, 1) := by decide +kernel
theorem dX4_caughtOn_70 : decode cX4_caughtOn 70 = .ok (.aload_n 0, 1) := by decide +kernel
theorem dX4_caughtOn_71 : decode cX4_caughtOn 71 = .ok (.getfield 18, 3) := by decide +kernel
theorem dX4_caughtOn_74 : decode cX4_caughtOn 74 = .ok (.iload 7, 2) := by decide +kernel
theorem dX4_caughtOn_76 : decode cX4_caughtOn 76 = .ok (.iload_n 3, 1) := by decide +kernel
theorem dX4_caughtOn_77 : decode cX4_caughtOn 77 = .ok (.invokevirtual 72, 3) := by decide +kernel
theorem dX4_caughtOn_80 : decode cX4_caughtOn 80 = .ok (.ifCond .eq 22, 3) := by decide +kernel
theorem dX4_caughtOn_83 : decode cX4_caughtOn 83 = .ok (.aload_n 0, 1) := by decide +kernel
theorem dX4_caughtOn_84 : decode cX4_caughtOn 84 = .ok (.iload_n 1, 1) := by decide +kernel
theorem dX4_caughtOn_85 : decode cX4_caughtOn 85 = .ok (.iload_n 2, 1) := by decide +kernel
theorem dX4_caughtOn_86 : decode cX4_caughtOn 86 = .ok (.iload_n 3, 1) := by decide +kernel
theorem dX4_caughtOn_87 : decode cX4_caughtOn 87 = .ok (.iconst 1, 1) := by decide +kernel
theorem dX4_caughtOn_88 : decode cX4_caughtOn 88 = .ok (.iload 7, 2) := by decide +kernel
theorem dX4_caughtOn_90 : decode cX4_caughtOn 90 = .ok (.ishl, 1) := by decide +kernel
theorem dX4_caughtOn_91 : decode cX4_caughtOn 91 = .ok (.ior, 1) := by decide +kernel
theorem dX4_caughtOn_92 : decode cX4_caughtOn 92 = .ok (.iload 4, 2) := by decide +kernel
theorem dX4_caughtOn_94 : decode cX4_caughtOn 94 = .ok (.iconst 1, 1) := by decide +kernel
theorem dX4_caughtOn_95 : decode cX4_caughtOn 95 = .ok (.isub, 1) := by decide +kernel
theorem dX4_caughtOn_96 : decode cX4_caughtOn 96 = .ok (.iload 5, 2) := by decide +kernel
theorem dX4_caughtOn_98 : decode cX4_caughtOn 98 = .ok (.invokevirtual 48, 3) := by decide +kernel
theorem dX4_caughtOn_101 : decode cX4_caughtOn 101 = .ok (.ireturn, 1) := by decide +kernel
theorem dX4_caughtOn_102 : decode cX4_caughtOn 102 = .ok (.aload_n 0, 1) := by decide +kernel
theorem dX4_caughtOn_103 : decode cX4_caughtOn 103 = .ok (.getfield 18, 3) := by decide +kernel
theorem dX4_caughtOn_106 : decode cX4_caughtOn 106 = .ok (.iload 7, 2) := by decide +kernel
theorem dX4_caughtOn_108 : decode cX4_caughtOn 108 = .ok (.aload_n 0, 1) := by decide +kernel
theorem dX4_caughtOn_109 : decode cX4_caughtOn 109 = .ok (.getfield 9, 3) := by decide +kernel
theorem dX4_caughtOn_112 : decode cX4_caughtOn 112 = .ok (.invokevirtual 76, 3) := by decide +kernel
theorem dX4_caughtOn_115 : decode cX4_caughtOn 115 = .ok (.ifCond .eq 6, 3) := by decide +kernel
theorem dX4_caughtOn_118 : decode cX4_caughtOn 118 = .ok (.iload 5, 2) := by decide +kernel
theorem dX4_caughtOn_120 : decode cX4_caughtOn 120 = .ok (.ireturn, 1) := by decide +kernel
theorem dX4_caughtOn_121 : decode cX4_caughtOn 121 = .ok (.aload_n 0, 1) := by decide +kernel
theorem dX4_caughtOn_122 : decode cX4_caughtOn 122 = .ok (.getfield 18, 3) := by decide +kernel
theorem dX4_caughtOn_125 : decode cX4_caughtOn 125 = .ok (.iconst 1, 1) := by decide +kernel
theorem dX4_caughtOn_126 : decode cX4_caughtOn 126 = .ok (.iload 7, 2) := by decide +kernel
theorem dX4_caughtOn_128 : decode cX4_caughtOn 128 = .ok (.ishl, 1) := by decide +kernel
theorem dX4_caughtOn_129 : decode cX4_caughtOn 129 = .ok (.iload 6, 2) := by decide +kernel
theorem dX4_caughtOn_131 : decode cX4_caughtOn 131 = .ok (.invokevirtual 79, 3) := by decide +kernel
theorem dX4_caughtOn_134 : decode cX4_caughtOn 134 = .ok (.istore 8, 2) := by decide +kernel
theorem dX4_caughtOn_136 : decode cX4_caughtOn 136 = .ok (.aload_n 0, 1) := by decide +kernel
theorem dX4_caughtOn_137 : decode cX4_caughtOn 137 = .ok (.iload_n 1, 1) := by decide +kernel
theorem dX4_caughtOn_138 : decode cX4_caughtOn 138 = .ok (.iload_n 2, 1) := by decide +kernel
theorem dX4_caughtOn_139 : decode cX4_caughtOn 139 = .ok (.iload 8, 2) := by decide +kernel
theorem dX4_caughtOn_141 : decode cX4_caughtOn 141 = .ok (.iconst (-1), 1) := by decide +kernel
theorem dX4_caughtOn_142 : decode cX4_caughtOn 142 = .ok (.ixor, 1) := by decide +kernel
theorem dX4_caughtOn_143 : decode cX4_caughtOn 143 = .ok (.iand, 1) := by decide +kernel
theorem dX4_caughtOn_144 : decode cX4_caughtOn 144 = .ok (.iload_n 3, 1) := by decide +kernel
theorem dX4_caughtOn_145 : decode cX4_caughtOn 145 = .ok (.iload 8, 2) := by decide +kernel
theorem dX4_caughtOn_147 : decode cX4_caughtOn 147 = .ok (.iconst (-1), 1) := by decide +kernel
theorem dX4_caughtOn_148 : decode cX4_caughtOn 148 = .ok (.ixor, 1) := by decide +kernel
theorem dX4_caughtOn_149 : decode cX4_caughtOn 149 = .ok (.iand, 1) := by decide +kernel
theorem dX4_caughtOn_150 : decode cX4_caughtOn 150 = .ok (.iload 4, 2) := by decide +kernel
theorem dX4_caughtOn_152 : decode cX4_caughtOn 152 = .ok (.iconst 1, 1) := by decide +kernel
theorem dX4_caughtOn_153 : decode cX4_caughtOn 153 = .ok (.isub, 1) := by decide +kernel
theorem dX4_caughtOn_154 : decode cX4_caughtOn 154 = .ok (.iload 5, 2) := by decide +kernel
theorem dX4_caughtOn_156 : decode cX4_caughtOn 156 = .ok (.invokevirtual 48, 3) := by decide +kernel
theorem dX4_caughtOn_159 : decode cX4_caughtOn 159 = .ok (.ireturn, 1) := by decide +kernel
theorem dX5_init_0 : decode cX5_init 0 = .ok (.aload_n 0, 1) := by decide +kernel
theorem dX5_init_1 : decode cX5_init 1 = .ok (.invokespecial 3, 3) := by decide +kernel
theorem dX5_init_4 : decode cX5_init 4 = .ok (.aload_n 0, 1) := by decide +kernel
theorem dX5_init_5 : decode cX5_init 5 = .ok (.bipush 64, 2) := by decide +kernel
theorem dX5_init_7 : decode cX5_init 7 = .ok (.newarray .int, 2) := by decide +kernel
theorem dX5_init_9 : decode cX5_init 9 = .ok (.putfield 9, 3) := by decide +kernel
theorem dX5_init_12 : decode cX5_init 12 = .ok (.aload_n 0, 1) := by decide +kernel
theorem dX5_init_13 : decode cX5_init 13 = .ok (.iconst 0, 1) := by decide +kernel
theorem dX5_init_14 : decode cX5_init 14 = .ok (.putfield 15, 3) := by decide +kernel
theorem dX5_init_17 : decode cX5_init 17 = .ok (.return_, 1) := by decide +kernel
theorem dX5_append_0 : decode cX5_append 0 = .ok (.iload_n 1, 1) := by decide +kernel
theorem dX5_append_1 : decode cX5_append 1 = .ok (.iconst 1, 1) := by decide +kernel
theorem dX5_append_2 : decode cX5_append 2 = .ok (.isub, 1) := by decide +kernel
theorem dX5_append_3 : decode cX5_append 3 = .ok (.istore 4, 2) := by decide +kernel
theorem dX5_append_5 : decode cX5_append 5 = .ok (.iload 4, 2) := by decide +kernel
theorem dX5_append_7 : decode cX5_append 7 = .ok (.ifCond .lt 56, 3) := by decide +kernel
theorem dX5_append_10 : decode cX5_append 10 = .ok (.aload_n 0, 1) := by decide +kernel
theorem dX5_append_11 : decode cX5_append 11 = .ok (.getfield 15, 3) := by decide +kernel
theorem dX5_append_14 : decode cX5_append 14 = .ok (.ifCond .lt 49, 3) := by decide +kernel
theorem dX5_append_17 : decode cX5_append 17 = .ok (.aload_n 0, 1) := by decide +kernel
theorem dX5_append_18 : decode cX5_append 18 = .ok (.getfield 15, 3) := by decide +kernel
theorem dX5_append_21 : decode cX5_append 21 = .ok (.bipush 64, 2) := by decide +kernel
theorem dX5_append_23 : decode cX5_append 23 = .ok (.if_icmp .ge 40, 3) := by decide +kernel
theorem dX5_append_26 : decode cX5_append 26 = .ok (.aload_n 0, 1) := by decide +kernel
theorem dX5_append_27 : decode cX5_append 27 = .ok (.getfield 9, 3) := by decide +kernel
theorem dX5_append_30 : decode cX5_append 30 = .ok (.aload_n 0, 1) := by decide +kernel
theorem dX5_append_31 : decode cX5_append 31 = .ok (.getfield 15, 3) := by decide +kernel
theorem dX5_append_34 : decode cX5_append 34 = .ok (.lload_n 2, 1) := by decide +kernel
theorem dX5_append_35 : decode cX5_append 35 = .ok (.bipush 8, 2) := by decide +kernel
theorem dX5_append_37 : decode cX5_append 37 = .ok (.iload 4, 2) := by decide +kernel
theorem dX5_append_39 : decode cX5_append 39 = .ok (.imul, 1) := by decide +kernel
theorem dX5_append_40 : decode cX5_append 40 = .ok (.lushr, 1) := by decide +kernel
theorem dX5_append_41 : decode cX5_append 41 = .ok (.l2i, 1) := by decide +kernel
theorem dX5_append_42 : decode cX5_append 42 = .ok (.sipush 255, 3) := by decide +kernel
theorem dX5_append_45 : decode cX5_append 45 = .ok (.iand, 1) := by decide +kernel
theorem dX5_append_46 : decode cX5_append 46 = .ok (.iastore, 1) := by decide +kernel
theorem dX5_append_47 : decode cX5_append 47 = .ok (.aload_n 0, 1) := by decide +kernel
theorem dX5_append_48 : decode cX5_append 48 = .ok (.dup, 1) := by decide +kernel
theorem dX5_append_49 : decode cX5_append 49 = .ok (.getfield 15, 3) := by decide +kernel
theorem dX5_append_52 : decode cX5_append 52 = .ok (.iconst 1, 1) := by decide +kernel
theorem dX5_append_53 : decode cX5_append 53 = .ok (.iadd, 1) := by decide +kernel
theorem dX5_append_54 : decode cX5_append 54 = .ok (.putfield 15, 3) := by decide +kernel
theorem dX5_append_57 : decode cX5_append 57 = .ok (.iinc 4 (-1), 3) := by decide +kernel
theorem dX5_append_60 : decode cX5_append 60 = .ok (.goto (-55), 3) := by decide +kernel
theorem dX5_append_63 : decode cX5_append 63 = .ok (.aload_n 0, 1) := by decide +kernel
theorem dX5_append_64 : decode cX5_append 64 = .ok (.getfield 15, 3) := by decide +kernel
theorem dX5_append_67 : decode cX5_append 67 = .ok (.ireturn, 1) := by decide +kernel
theorem dX6_init_0 : decode cX6_init 0 = .ok (.aload_n 0, 1) := by decide +kernel
theorem dX6_init_1 : decode cX6_init 1 = .ok (.invokespecial 3, 3) := by decide +kernel
theorem dX6_init_4 : decode cX6_init 4 = .ok (.aload_n 0, 1) := by decide +kernel
theorem dX6_init_5 : decode cX6_init 5 = .ok (.bipush 12, 2) := by decide +kernel
theorem dX6_init_7 : decode cX6_init 7 = .ok (.newarray .int, 2) := by decide +kernel
theorem dX6_init_9 : decode cX6_init 9 = .ok (.putfield 9, 3) := by decide +kernel
theorem dX6_init_12 : decode cX6_init 12 = .ok (.aload_n 0, 1) := by decide +kernel
theorem dX6_init_13 : decode cX6_init 13 = .ok (.aload_n 1, 1) := by decide +kernel
theorem dX6_init_14 : decode cX6_init 14 = .ok (.putfield 15, 3) := by decide +kernel
theorem dX6_init_17 : decode cX6_init 17 = .ok (.return_, 1) := by decide +kernel
set_option maxRecDepth 20000 in
theorem ggX6_measure_X7_neighbours : GoodIn wsX6_measure wsX7_neighbours := goodIn_r _ [6, 7, 8, 9, 5, 10] (by decide +kernel) (by decide +kernel)
set_option maxRecDepth 20000 in
theorem gX6_measure_X7_neighbours_n25 : GoodIn wsX6_measure (wsX7_neighbours) := ggX6_measure_X7_neighbours
theorem dX6_measure_0 : decode cX6_measure 0 = .ok (.iconst 0, 1) := by decide +kernel
theorem dX6_measure_1 : decode cX6_measure 1 = .ok (.istore 4, 2) := by decide +kernel
theorem dX6_measure_3 : decode cX6_measure 3 = .ok (.iload 4, 2) := by decide +kernel
theorem dX6_measure_5 : decode cX6_measure 5 = .ok (.bipush 12, 2) := by decide +kernel
theorem dX6_measure_7 : decode cX6_measure 7 = .ok (.if_icmp .ge 18, 3) := by decide +kernel
theorem dX6_measure_10 : decode cX6_measure 10 = .ok (.aload_n 0, 1) := by decide +kernel
theorem dX6_measure_11 : decode cX6_measure 11 = .ok (.getfield 9, 3) := by decide +kernel
theorem dX6_measure_14 : decode cX6_measure 14 = .ok (.iload 4, 2) := by decide +kernel
theorem dX6_measure_16 : decode cX6_measure 16 = .ok (.bipush (-9), 2) := by decide +kernel
theorem dX6_measure_18 : decode cX6_measure 18 = .ok (.iastore, 1) := by decide +kernel
theorem dX6_measure_19 : decode cX6_measure 19 = .ok (.iinc 4 1, 3) := by decide +kernel
theorem dX6_measure_22 : decode cX6_measure 22 = .ok (.goto (-19), 3) := by decide +kernel
theorem dX6_measure_25 : decode cX6_measure 25 = .ok (.sipush 4095, 3) := by decide +kernel
theorem dX6_measure_28 : decode cX6_measure 28 = .ok (.aload_n 0, 1) := by decide +kernel
theorem dX6_measure_29 : decode cX6_measure 29 = .ok (.getfield 15, 3) := by decide +kernel
theorem dX6_measure_32 : decode cX6_measure 32 = .ok (.getfield 19, 3) := by decide +kernel
theorem dX6_measure_35 : decode cX6_measure 35 = .ok (.iconst (-1), 1) := by decide +kernel
theorem dX6_measure_36 : decode cX6_measure 36 = .ok (.ixor, 1) := by decide +kernel
theorem dX6_measure_37 : decode cX6_measure 37 = .ok (.iand, 1) := by decide +kernel
theorem dX6_measure_38 : decode cX6_measure 38 = .ok (.iload_n 3, 1) := by decide +kernel
theorem dX6_measure_39 : decode cX6_measure 39 = .ok (.iconst (-1), 1) := by decide +kernel
theorem dX6_measure_40 : decode cX6_measure 40 = .ok (.ixor, 1) := by decide +kernel
theorem dX6_measure_41 : decode cX6_measure 41 = .ok (.iand, 1) := by decide +kernel
theorem dX6_measure_42 : decode cX6_measure 42 = .ok (.iconst 1, 1) := by decide +kernel
theorem dX6_measure_43 : decode cX6_measure 43 = .ok (.iload_n 1, 1) := by decide +kernel
theorem dX6_measure_44 : decode cX6_measure 44 = .ok (.ishl, 1) := by decide +kernel
theorem dX6_measure_45 : decode cX6_measure 45 = .ok (.ior, 1) := by decide +kernel
theorem dX6_measure_46 : decode cX6_measure 46 = .ok (.istore 4, 2) := by decide +kernel
theorem dX6_measure_48 : decode cX6_measure 48 = .ok (.iload 4, 2) := by decide +kernel
theorem dX6_measure_50 : decode cX6_measure 50 = .ok (.iconst 1, 1) := by decide +kernel
theorem dX6_measure_51 : decode cX6_measure 51 = .ok (.iload_n 2, 1) := by decide +kernel
theorem dX6_measure_52 : decode cX6_measure 52 = .ok (.ishl, 1) := by decide +kernel
theorem dX6_measure_53 : decode cX6_measure 53 = .ok (.iand, 1) := by decide +kernel
theorem dX6_measure_54 : decode cX6_measure 54 = .ok (.istore 5, 2) := by decide +kernel
theorem dX6_measure_56 : decode cX6_measure 56 = .ok (.iload 5, 2) := by decide +kernel
theorem dX6_measure_58 : decode cX6_measure 58 = .ok (.istore 6, 2) := by decide +kernel
theorem dX6_measure_60 : decode cX6_measure 60 = .ok (.iconst 0, 1) := by decide +kernel
theorem dX6_measure_61 : decode cX6_measure 61 = .ok (.istore 7, 2) := by decide +kernel
theorem dX6_measure_63 : decode cX6_measure 63 = .ok (.iload 7, 2) := by decide +kernel
theorem dX6_measure_65 : decode cX6_measure 65 = .ok (.bipush 12, 2) := by decide +kernel
theorem dX6_measure_67 : decode cX6_measure 67 = .ok (.if_icmp .ge 81, 3) := by decide +kernel
theorem dX6_measure_70 : decode cX6_measure 70 = .ok (.iload 5, 2) := by decide +kernel
theorem dX6_measure_72 : decode cX6_measure 72 = .ok (.ifCond .eq 76, 3) := by decide +kernel
theorem dX6_measure_75 : decode cX6_measure 75 = .ok (.iconst 0, 1) := by decide +kernel
theorem dX6_measure_76 : decode cX6_measure 76 = .ok (.istore 8, 2) := by decide +kernel
theorem dX6_measure_78 : decode cX6_measure 78 = .ok (.iconst 0, 1) := by decide +kernel
theorem dX6_measure_79 : decode cX6_measure 79 = .ok (.istore 9, 2) := by decide +kernel
theorem dX6_measure_81 : decode cX6_measure 81 = .ok (.iload 9, 2) := by decide +kernel
theorem dX6_measure_83 : decode cX6_measure 83 = .ok (.bipush 12, 2) := by decide +kernel
theorem dX6_measure_85 : decode cX6_measure 85 = .ok (.if_icmp .ge 38, 3) := by decide +kernel
theorem dX6_measure_88 : decode cX6_measure 88 = .ok (.iload 5, 2) := by decide +kernel
theorem dX6_measure_90 : decode cX6_measure 90 = .ok (.iload 9, 2) := by decide +kernel
theorem dX6_measure_92 : decode cX6_measure 92 = .ok (.ishr, 1) := by decide +kernel
theorem dX6_measure_93 : decode cX6_measure 93 = .ok (.iconst 1, 1) := by decide +kernel
theorem dX6_measure_94 : decode cX6_measure 94 = .ok (.iand, 1) := by decide +kernel
theorem dX6_measure_95 : decode cX6_measure 95 = .ok (.ifCond .eq 22, 3) := by decide +kernel
theorem dX6_measure_98 : decode cX6_measure 98 = .ok (.aload_n 0, 1) := by decide +kernel
theorem dX6_measure_99 : decode cX6_measure 99 = .ok (.getfield 9, 3) := by decide +kernel
theorem dX6_measure_102 : decode cX6_measure 102 = .ok (.iload 9, 2) := by decide +kernel
theorem dX6_measure_104 : decode cX6_measure 104 = .ok (.iload 7, 2) := by decide +kernel
theorem dX6_measure_106 : decode cX6_measure 106 = .ok (.iastore, 1) := by decide +kernel
theorem dX6_measure_107 : decode cX6_measure 107 = .ok (.iload 8, 2) := by decide +kernel
theorem dX6_measure_109 : decode cX6_measure 109 = .ok (.iload 9, 2) := by decide +kernel
theorem dX6_measure_111 : decode cX6_measure 111 = .ok (.invokestatic 25, 3) := by decide +kernel
theorem dX6_measure_114 : decode cX6_measure 114 = .ok (.ior, 1) := by decide +kernel
theorem dX6_measure_115 : decode cX6_measure 115 = .ok (.istore 8, 2) := by decide +kernel
theorem dX6_measure_117 : decode cX6_measure 117 = .ok (.iinc 9 1, 3) := by decide +kernel
theorem dX6_measure_120 : decode cX6_measure 120 = .ok (.goto (-39), 3) := by decide +kernel
theorem dX6_measure_123 : decode cX6_measure 123 = .ok (.iload 8, 2) := by decide +kernel
theorem dX6_measure_125 : decode cX6_measure 125 = .ok (.iload 4, 2) := by decide +kernel
theorem dX6_measure_127 : decode cX6_measure 127 = .ok (.iand, 1) := by decide +kernel
theorem dX6_measure_128 : decode cX6_measure 128 = .ok (.iload 6, 2) := by decide +kernel
theorem dX6_measure_130 : decode cX6_measure 130 = .ok (.iconst (-1), 1) := by decide +kernel
theorem dX6_measure_131 : decode cX6_measure 131 = .ok (.ixor, 1) := by decide +kernel
theorem dX6_measure_132 : decode cX6_measure 132 = .ok (.iand, 1) := by decide +kernel
theorem dX6_measure_133 : decode cX6_measure 133 = .ok (.istore 5, 2) := by decide +kernel
theorem dX6_measure_135 : decode cX6_measure 135 = .ok (.iload 6, 2) := by decide +kernel
theorem dX6_measure_137 : decode cX6_measure 137 = .ok (.iload 5, 2) := by decide +kernel
theorem dX6_measure_139 : decode cX6_measure 139 = .ok (.ior, 1) := by decide +kernel
theorem dX6_measure_140 : decode cX6_measure 140 = .ok (.istore 6, 2) := by decide +kernel
theorem dX6_measure_142 : decode cX6_measure 142 = .ok (.iinc 7 1, 3) := by decide +kernel
theorem dX6_measure_145 : decode cX6_measure 145 = .ok (.goto (-82), 3) := by decide +kernel
theorem dX6_measure_148 : decode cX6_measure 148 = .ok (.return_, 1) := by decide +kernel
set_option maxRecDepth 20000 in
theorem ggX6_stepsFrom_X7_isCell : GoodIn wsX6_stepsFrom wsX7_isCell := goodIn_r _ [4] (by decide +kernel) (by decide +kernel)
set_option maxRecDepth 20000 in
theorem gX6_stepsFrom_X7_isCell_n29 : GoodIn wsX6_stepsFrom (wsX7_isCell) := ggX6_stepsFrom_X7_isCell
theorem dX6_stepsFrom_0 : decode cX6_stepsFrom 0 = .ok (.iload_n 1, 1) := by decide +kernel
theorem dX6_stepsFrom_1 : decode cX6_stepsFrom 1 = .ok (.invokestatic 29, 3) := by decide +kernel
theorem dX6_stepsFrom_4 : decode cX6_stepsFrom 4 = .ok (.ifCond .eq 12, 3) := by decide +kernel
theorem dX6_stepsFrom_7 : decode cX6_stepsFrom 7 = .ok (.aload_n 0, 1) := by decide +kernel
theorem dX6_stepsFrom_8 : decode cX6_stepsFrom 8 = .ok (.getfield 9, 3) := by decide +kernel
theorem dX6_stepsFrom_11 : decode cX6_stepsFrom 11 = .ok (.iload_n 1, 1) := by decide +kernel
theorem dX6_stepsFrom_12 : decode cX6_stepsFrom 12 = .ok (.iaload, 1) := by decide +kernel
theorem dX6_stepsFrom_13 : decode cX6_stepsFrom 13 = .ok (.goto 5, 3) := by decide +kernel
theorem dX6_stepsFrom_16 : decode cX6_stepsFrom 16 = .ok (.bipush (-9), 2) := by decide +kernel
theorem dX6_stepsFrom_18 : decode cX6_stepsFrom 18 = .ok (.ireturn, 1) := by decide +kernel
set_option maxRecDepth 20000 in
theorem ggX6_cellBehind_X6_stepsFrom : GoodIn wsX6_cellBehind wsX6_stepsFrom := goodIn_r _ [5, 6, 7, 8, 9, 18, 19] (by decide +kernel) (by decide +kernel)
set_option maxRecDepth 20000 in
theorem gX6_cellBehind_X6_stepsFrom : GoodIn wsX6_cellBehind (wsV RX6 33 RX6 yX6_stepsFrom wsX6_stepsFrom) := goodIn_app (goodIn_of _ (by decide +kernel)) ggX6_cellBehind_X6_stepsFrom
set_option maxRecDepth 20000 in
theorem ggX6_cellBehind_X6_nextFrom : GoodIn wsX6_cellBehind wsX6_nextFrom := goodIn_r _ [13, 6, 14, 8, 15, 16, 17, 7, 9, 1, 2, 3, 4, 5, 18, 19] (by decide +kernel) (by decide +kernel)
set_option maxRecDepth 20000 in
theorem gX6_cellBehind_X6_nextFrom : GoodIn wsX6_cellBehind (wsV RX6 36 RX6 yX6_nextFrom wsX6_nextFrom) := goodIn_app (goodIn_of _ (by decide +kernel)) ggX6_cellBehind_X6_nextFrom
theorem dX6_cellBehind_0 : decode cX6_cellBehind 0 = .ok (.iload_n 2, 1) := by decide +kernel
theorem dX6_cellBehind_1 : decode cX6_cellBehind 1 = .ok (.ifCond .lt 12, 3) := by decide +kernel
theorem dX6_cellBehind_4 : decode cX6_cellBehind 4 = .ok (.iload_n 2, 1) := by decide +kernel
theorem dX6_cellBehind_5 : decode cX6_cellBehind 5 = .ok (.aload_n 0, 1) := by decide +kernel
theorem dX6_cellBehind_6 : decode cX6_cellBehind 6 = .ok (.iload_n 1, 1) := by decide +kernel
theorem dX6_cellBehind_7 : decode cX6_cellBehind 7 = .ok (.invokevirtual 33, 3) := by decide +kernel
theorem dX6_cellBehind_10 : decode cX6_cellBehind 10 = .ok (.if_icmp .lt 6, 3) := by decide +kernel
theorem dX6_cellBehind_13 : decode cX6_cellBehind 13 = .ok (.bipush (-9), 2) := by decide +kernel
theorem dX6_cellBehind_15 : decode cX6_cellBehind 15 = .ok (.ireturn, 1) := by decide +kernel
theorem dX6_cellBehind_16 : decode cX6_cellBehind 16 = .ok (.iload_n 1, 1) := by decide +kernel
theorem dX6_cellBehind_17 : decode cX6_cellBehind 17 = .ok (.istore_n 3, 1) := by decide +kernel
theorem dX6_cellBehind_18 : decode cX6_cellBehind 18 = .ok (.iconst 0, 1) := by decide +kernel
theorem dX6_cellBehind_19 : decode cX6_cellBehind 19 = .ok (.istore 4, 2) := by decide +kernel
theorem dX6_cellBehind_21 : decode cX6_cellBehind 21 = .ok (.iload 4, 2) := by decide +kernel
theorem dX6_cellBehind_23 : decode cX6_cellBehind 23 = .ok (.iload_n 2, 1) := by decide +kernel
theorem dX6_cellBehind_24 : decode cX6_cellBehind 24 = .ok (.if_icmp .gt 22, 3) := by decide +kernel
theorem dX6_cellBehind_27 : decode cX6_cellBehind 27 = .ok (.iload 4, 2) := by decide +kernel
theorem dX6_cellBehind_29 : decode cX6_cellBehind 29 = .ok (.bipush 12, 2) := by decide +kernel
theorem dX6_cellBehind_31 : decode cX6_cellBehind 31 = .ok (.if_icmp .ge 15, 3) := by decide +kernel
theorem dX6_cellBehind_34 : decode cX6_cellBehind 34 = .ok (.aload_n 0, 1) := by decide +kernel
theorem dX6_cellBehind_35 : decode cX6_cellBehind 35 = .ok (.iload_n 3, 1) := by decide +kernel
theorem dX6_cellBehind_36 : decode cX6_cellBehind 36 = .ok (.invokevirtual 36, 3) := by decide +kernel
theorem dX6_cellBehind_39 : decode cX6_cellBehind 39 = .ok (.istore_n 3, 1) := by decide +kernel
theorem dX6_cellBehind_40 : decode cX6_cellBehind 40 = .ok (.iinc 4 1, 3) := by decide +kernel
theorem dX6_cellBehind_43 : decode cX6_cellBehind 43 = .ok (.goto (-22), 3) := by decide +kernel
theorem dX6_cellBehind_46 : decode cX6_cellBehind 46 = .ok (.iload_n 3, 1) := by decide +kernel
theorem dX6_cellBehind_47 : decode cX6_cellBehind 47 = .ok (.ireturn, 1) := by decide +kernel
set_option maxRecDepth 20000 in
theorem ggX6_nextFrom_X7_neighbours : GoodIn wsX6_nextFrom wsX7_neighbours := goodIn_r _ [4, 5, 6, 7, 3, 8] (by decide +kernel) (by decide +kernel)
set_option maxRecDepth 20000 in
theorem gX6_nextFrom_X7_neighbours_n25 : GoodIn wsX6_nextFrom (wsX7_neighbours) := ggX6_nextFrom_X7_neighbours
set_option maxRecDepth 20000 in
theorem ggX6_nextFrom_X6_stepsFrom : GoodIn wsX6_nextFrom wsX6_stepsFrom := goodIn_r _ [13, 1, 7, 3, 8, 14, 15] (by decide +kernel) (by decide +kernel)
set_option maxRecDepth 20000 in
theorem gX6_nextFrom_X6_stepsFrom : GoodIn wsX6_nextFrom (wsV RX6 33 RX6 yX6_stepsFrom wsX6_stepsFrom) := goodIn_app (goodIn_of _ (by decide +kernel)) ggX6_nextFrom_X6_stepsFrom
theorem dX6_nextFrom_0 : decode cX6_nextFrom 0 = .ok (.iload_n 1, 1) := by decide +kernel
theorem dX6_nextFrom_1 : decode cX6_nextFrom 1 = .ok (.invokestatic 25, 3) := by decide +kernel
theorem dX6_nextFrom_4 : decode cX6_nextFrom 4 = .ok (.istore_n 2, 1) := by decide +kernel
theorem dX6_nextFrom_5 : decode cX6_nextFrom 5 = .ok (.aload_n 0, 1) := by decide +kernel
theorem dX6_nextFrom_6 : decode cX6_nextFrom 6 = .ok (.iload_n 1, 1) := by decide +kernel
theorem dX6_nextFrom_7 : decode cX6_nextFrom 7 = .ok (.invokevirtual 33, 3) := by decide +kernel
theorem dX6_nextFrom_10 : decode cX6_nextFrom 10 = .ok (.istore_n 3, 1) := by decide +kernel
theorem dX6_nextFrom_11 : decode cX6_nextFrom 11 = .ok (.iconst 0, 1) := by decide +kernel
theorem dX6_nextFrom_12 : decode cX6_nextFrom 12 = .ok (.istore 4, 2) := by decide +kernel
theorem dX6_nextFrom_14 : decode cX6_nextFrom 14 = .ok (.iload 4, 2) := by decide +kernel
theorem dX6_nextFrom_16 : decode cX6_nextFrom 16 = .ok (.bipush 12, 2) := by decide +kernel
theorem dX6_nextFrom_18 : decode cX6_nextFrom 18 = .ok (.if_icmp .ge 46, 3) := by decide +kernel
theorem dX6_nextFrom_21 : decode cX6_nextFrom 21 = .ok (.iload_n 2, 1) := by decide +kernel
theorem dX6_nextFrom_22 : decode cX6_nextFrom 22 = .ok (.iload 4, 2) := by decide +kernel
theorem dX6_nextFrom_24 : decode cX6_nextFrom 24 = .ok (.ishr, 1) := by decide +kernel
theorem dX6_nextFrom_25 : decode cX6_nextFrom 25 = .ok (.iconst 1, 1) := by decide +kernel
theorem dX6_nextFrom_26 : decode cX6_nextFrom 26 = .ok (.iand, 1) := by decide +kernel
theorem dX6_nextFrom_27 : decode cX6_nextFrom 27 = .ok (.ifCond .eq 31, 3) := by decide +kernel
theorem dX6_nextFrom_30 : decode cX6_nextFrom 30 = .ok (.aload_n 0, 1) := by decide +kernel
theorem dX6_nextFrom_31 : decode cX6_nextFrom 31 = .ok (.getfield 9, 3) := by decide +kernel
theorem dX6_nextFrom_34 : decode cX6_nextFrom 34 = .ok (.iload 4, 2) := by decide +kernel
theorem dX6_nextFrom_36 : decode cX6_nextFrom 36 = .ok (.iaload, 1) := by decide +kernel
theorem dX6_nextFrom_37 : decode cX6_nextFrom 37 = .ok (.bipush (-9), 2) := by decide +kernel
theorem dX6_nextFrom_39 : decode cX6_nextFrom 39 = .ok (.if_icmp .eq 19, 3) := by decide +kernel
theorem dX6_nextFrom_42 : decode cX6_nextFrom 42 = .ok (.aload_n 0, 1) := by decide +kernel
theorem dX6_nextFrom_43 : decode cX6_nextFrom 43 = .ok (.getfield 9, 3) := by decide +kernel
theorem dX6_nextFrom_46 : decode cX6_nextFrom 46 = .ok (.iload 4, 2) := by decide +kernel
theorem dX6_nextFrom_48 : decode cX6_nextFrom 48 = .ok (.iaload, 1) := by decide +kernel
theorem dX6_nextFrom_49 : decode cX6_nextFrom 49 = .ok (.iload_n 3, 1) := by decide +kernel
theorem dX6_nextFrom_50 : decode cX6_nextFrom 50 = .ok (.iconst 1, 1) := by decide +kernel
theorem dX6_nextFrom_51 : decode cX6_nextFrom 51 = .ok (.isub, 1) := by decide +kernel
theorem dX6_nextFrom_52 : decode cX6_nextFrom 52 = .ok (.if_icmp .ne 6, 3) := by decide +kernel
theorem dX6_nextFrom_55 : decode cX6_nextFrom 55 = .ok (.iload 4, 2) := by decide +kernel
theorem dX6_nextFrom_57 : decode cX6_nextFrom 57 = .ok (.ireturn, 1) := by decide +kernel
theorem dX6_nextFrom_58 : decode cX6_nextFrom 58 = .ok (.iinc 4 1, 3) := by decide +kernel
theorem dX6_nextFrom_61 : decode cX6_nextFrom 61 = .ok (.goto (-47), 3) := by decide +kernel
theorem dX6_nextFrom_64 : decode cX6_nextFrom 64 = .ok (.bipush (-9), 2) := by decide +kernel
theorem dX6_nextFrom_66 : decode cX6_nextFrom 66 = .ok (.ireturn, 1) := by decide +kernel
theorem dJ6_bitCount_0f7a4_0 : decode cJ6_bitCount_0f7a4 0 = .ok (.iload_n 0, 1) := by decide +kernel
theorem dJ6_bitCount_0f7a4_1 : decode cJ6_bitCount_0f7a4 1 = .ok (.iload_n 0, 1) := by decide +kernel
theorem dJ6_bitCount_0f7a4_2 : decode cJ6_bitCount_0f7a4 2 = .ok (.iconst 1, 1) := by decide +kernel
theorem dJ6_bitCount_0f7a4_3 : decode cJ6_bitCount_0f7a4 3 = .ok (.iushr, 1) := by decide +kernel
theorem dJ6_bitCount_0f7a4_4 : decode cJ6_bitCount_0f7a4 4 = .ok (.ldc_w 265, 3) := by decide +kernel
theorem dJ6_bitCount_0f7a4_7 : decode cJ6_bitCount_0f7a4 7 = .ok (.iand, 1) := by decide +kernel
theorem dJ6_bitCount_0f7a4_8 : decode cJ6_bitCount_0f7a4 8 = .ok (.isub, 1) := by decide +kernel
theorem dJ6_bitCount_0f7a4_9 : decode cJ6_bitCount_0f7a4 9 = .ok (.istore_n 0, 1) := by decide +kernel
theorem dJ6_bitCount_0f7a4_10 : decode cJ6_bitCount_0f7a4 10 = .ok (.iload_n 0, 1) := by decide +kernel
theorem dJ6_bitCount_0f7a4_11 : decode cJ6_bitCount_0f7a4 11 = .ok (.ldc_w 266, 3) := by decide +kernel
theorem dJ6_bitCount_0f7a4_14 : decode cJ6_bitCount_0f7a4 14 = .ok (.iand, 1) := by decide +kernel
theorem dJ6_bitCount_0f7a4_15 : decode cJ6_bitCount_0f7a4 15 = .ok (.iload_n 0, 1) := by decide +kernel
theorem dJ6_bitCount_0f7a4_16 : decode cJ6_bitCount_0f7a4 16 = .ok (.iconst 2, 1) := by decide +kernel
theorem dJ6_bitCount_0f7a4_17 : decode cJ6_bitCount_0f7a4 17 = .ok (.iushr, 1) := by decide +kernel
theorem dJ6_bitCount_0f7a4_18 : decode cJ6_bitCount_0f7a4 18 = .ok (.ldc_w 266, 3) := by decide +kernel
theorem dJ6_bitCount_0f7a4_21 : decode cJ6_bitCount_0f7a4 21 = .ok (.iand, 1) := by decide +kernel
theorem dJ6_bitCount_0f7a4_22 : decode cJ6_bitCount_0f7a4 22 = .ok (.iadd, 1) := by decide +kernel
theorem dJ6_bitCount_0f7a4_23 : decode cJ6_bitCount_0f7a4 23 = .ok (.istore_n 0, 1) := by decide +kernel
theorem dJ6_bitCount_0f7a4_24 : decode cJ6_bitCount_0f7a4 24 = .ok (.iload_n 0, 1) := by decide +kernel
theorem dJ6_bitCount_0f7a4_25 : decode cJ6_bitCount_0f7a4 25 = .ok (.iload_n 0, 1) := by decide +kernel
theorem dJ6_bitCount_0f7a4_26 : decode cJ6_bitCount_0f7a4 26 = .ok (.iconst 4, 1) := by decide +kernel
theorem dJ6_bitCount_0f7a4_27 : decode cJ6_bitCount_0f7a4 27 = .ok (.iushr, 1) := by decide +kernel
theorem dJ6_bitCount_0f7a4_28 : decode cJ6_bitCount_0f7a4 28 = .ok (.iadd, 1) := by decide +kernel
theorem dJ6_bitCount_0f7a4_29 : decode cJ6_bitCount_0f7a4 29 = .ok (.ldc_w 267, 3) := by decide +kernel
theorem dJ6_bitCount_0f7a4_32 : decode cJ6_bitCount_0f7a4 32 = .ok (.iand, 1) := by decide +kernel
theorem dJ6_bitCount_0f7a4_33 : decode cJ6_bitCount_0f7a4 33 = .ok (.istore_n 0, 1) := by decide +kernel
theorem dJ6_bitCount_0f7a4_34 : decode cJ6_bitCount_0f7a4 34 = .ok (.iload_n 0, 1) := by decide +kernel
theorem dJ6_bitCount_0f7a4_35 : decode cJ6_bitCount_0f7a4 35 = .ok (.iload_n 0, 1) := by decide +kernel
theorem dJ6_bitCount_0f7a4_36 : decode cJ6_bitCount_0f7a4 36 = .ok (.bipush 8, 2) := by decide +kernel
theorem dJ6_bitCount_0f7a4_38 : decode cJ6_bitCount_0f7a4 38 = .ok (.iushr, 1) := by decide +kernel
theorem dJ6_bitCount_0f7a4_39 : decode cJ6_bitCount_0f7a4 39 = .ok (.iadd, 1) := by decide +kernel
theorem dJ6_bitCount_0f7a4_40 : decode cJ6_bitCount_0f7a4 40 = .ok (.istore_n 0, 1) := by decide +kernel
theorem dJ6_bitCount_0f7a4_41 : decode cJ6_bitCount_0f7a4 41 = .ok (.iload_n 0, 1) := by decide +kernel
theorem dJ6_bitCount_0f7a4_42 : decode cJ6_bitCount_0f7a4 42 = .ok (.iload_n 0, 1) := by decide +kernel
theorem dJ6_bitCount_0f7a4_43 : decode cJ6_bitCount_0f7a4 43 = .ok (.bipush 16, 2) := by decide +kernel
theorem dJ6_bitCount_0f7a4_45 : decode cJ6_bitCount_0f7a4 45 = .ok (.iushr, 1) := by decide +kernel
theorem dJ6_bitCount_0f7a4_46 : decode cJ6_bitCount_0f7a4 46 = .ok (.iadd, 1) := by decide +kernel
theorem dJ6_bitCount_0f7a4_47 : decode cJ6_bitCount_0f7a4 47 = .ok (.istore_n 0, 1) := by decide +kernel
theorem dJ6_bitCount_0f7a4_48 : decode cJ6_bitCount_0f7a4 48 = .ok (.iload_n 0, 1) := by decide +kernel
theorem dJ6_bitCount_0f7a4_49 : decode cJ6_bitCount_0f7a4 49 = .ok (.bipush 63, 2) := by decide +kernel
theorem dJ6_bitCount_0f7a4_51 : decode cJ6_bitCount_0f7a4 51 = .ok (.iand, 1) := by decide +kernel
theorem dJ6_bitCount_0f7a4_52 : decode cJ6_bitCount_0f7a4 52 = .ok (.ireturn, 1) := by decide +kernel
