theorem dX0_init_0 : decode cX0_init 0 = .ok (.aload_n 0, 1) := by decide +kernel
theorem dX0_init_1 : decode cX0_init 1 = .ok (.invokespecial 3, 3) := by decide +kernel
theorem dX0_init_4 : decode cX0_init 4 = .ok (.aload_n 0, 1) := by decide +kernel
theorem dX0_init_5 : decode cX0_init 5 = .ok (.bipush 16, 2) := by decide +kernel
theorem dX0_init_7 : decode cX0_init 7 = .ok (.newarray .int, 2) := by decide +kernel
theorem dX0_init_9 : decode cX0_init 9 = .ok (.putfield 9, 3) := by decide +kernel
theorem dX0_init_12 : decode cX0_init 12 = .ok (.aload_n 0, 1) := by decide +kernel
theorem dX0_init_13 : decode cX0_init 13 = .ok (.bipush 16, 2) := by decide +kernel
theorem dX0_init_15 : decode cX0_init 15 = .ok (.newarray .boolean, 2) := by decide +kernel
theorem dX0_init_17 : decode cX0_init 17 = .ok (.putfield 15, 3) := by decide +kernel
theorem dX0_init_20 : decode cX0_init 20 = .ok (.aload_n 0, 1) := by decide +kernel
theorem dX0_init_21 : decode cX0_init 21 = .ok (.bipush 16, 2) := by decide +kernel
theorem dX0_init_23 : decode cX0_init 23 = .ok (.newarray .int, 2) := by decide +kernel
theorem dX0_init_25 : decode cX0_init 25 = .ok (.putfield 19, 3) := by decide +kernel
theorem dX0_init_28 : decode cX0_init 28 = .ok (.aload_n 0, 1) := by decide +kernel
theorem dX0_init_29 : decode cX0_init 29 = .ok (.bipush 16, 2) := by decide +kernel
theorem dX0_init_31 : decode cX0_init 31 = .ok (.newarray .int, 2) := by decide +kernel
theorem dX0_init_33 : decode cX0_init 33 = .ok (.putfield 22, 3) := by decide +kernel
theorem dX0_init_36 : decode cX0_init 36 = .ok (.aload_n 0, 1) := by decide +kernel
theorem dX0_init_37 : decode cX0_init 37 = .ok (.bipush 16, 2) := by decide +kernel
theorem dX0_init_39 : decode cX0_init 39 = .ok (.newarray .int, 2) := by decide +kernel
theorem dX0_init_41 : decode cX0_init 41 = .ok (.putfield 25, 3) := by decide +kernel
theorem dX0_init_44 : decode cX0_init 44 = .ok (.aload_n 0, 1) := by decide +kernel
theorem dX0_init_45 : decode cX0_init 45 = .ok (.bipush 16, 2) := by decide +kernel
theorem dX0_init_47 : decode cX0_init 47 = .ok (.newarray .int, 2) := by decide +kernel
theorem dX0_init_49 : decode cX0_init 49 = .ok (.putfield 28, 3) := by decide +kernel
theorem dX0_init_52 : decode cX0_init 52 = .ok (.aload_n 0, 1) := by decide +kernel
theorem dX0_init_53 : decode cX0_init 53 = .ok (.bipush 64, 2) := by decide +kernel
theorem dX0_init_55 : decode cX0_init 55 = .ok (.newarray .int, 2) := by decide +kernel
theorem dX0_init_57 : decode cX0_init 57 = .ok (.putfield 31, 3) := by decide +kernel
theorem dX0_init_60 : decode cX0_init 60 = .ok (.return_, 1) := by decide +kernel
theorem dX0_hasColumn_0 : decode cX0_hasColumn 0 = .ok (.iload_n 1, 1) := by decide +kernel
theorem dX0_hasColumn_1 : decode cX0_hasColumn 1 = .ok (.ifCond .lt 15, 3) := by decide +kernel
theorem dX0_hasColumn_4 : decode cX0_hasColumn 4 = .ok (.iload_n 1, 1) := by decide +kernel
theorem dX0_hasColumn_5 : decode cX0_hasColumn 5 = .ok (.aload_n 0, 1) := by decide +kernel
theorem dX0_hasColumn_6 : decode cX0_hasColumn 6 = .ok (.getfield 34, 3) := by decide +kernel
theorem dX0_hasColumn_9 : decode cX0_hasColumn 9 = .ok (.if_icmp .ge 7, 3) := by decide +kernel
theorem dX0_hasColumn_12 : decode cX0_hasColumn 12 = .ok (.iconst 1, 1) := by decide +kernel
theorem dX0_hasColumn_13 : decode cX0_hasColumn 13 = .ok (.goto 4, 3) := by decide +kernel
theorem dX0_hasColumn_16 : decode cX0_hasColumn 16 = .ok (.iconst 0, 1) := by decide +kernel
theorem dX0_hasColumn_17 : decode cX0_hasColumn 17 = .ok (.ireturn, 1) := by decide +kernel
theorem dX0_hasCard_0 : decode cX0_hasCard 0 = .ok (.iload_n 1, 1) := by decide +kernel
theorem dX0_hasCard_1 : decode cX0_hasCard 1 = .ok (.ifCond .lt 15, 3) := by decide +kernel
theorem dX0_hasCard_4 : decode cX0_hasCard 4 = .ok (.iload_n 1, 1) := by decide +kernel
theorem dX0_hasCard_5 : decode cX0_hasCard 5 = .ok (.aload_n 0, 1) := by decide +kernel
theorem dX0_hasCard_6 : decode cX0_hasCard 6 = .ok (.getfield 38, 3) := by decide +kernel
theorem dX0_hasCard_9 : decode cX0_hasCard 9 = .ok (.if_icmp .ge 7, 3) := by decide +kernel
theorem dX0_hasCard_12 : decode cX0_hasCard 12 = .ok (.iconst 1, 1) := by decide +kernel
theorem dX0_hasCard_13 : decode cX0_hasCard 13 = .ok (.goto 4, 3) := by decide +kernel
theorem dX0_hasCard_16 : decode cX0_hasCard 16 = .ok (.iconst 0, 1) := by decide +kernel
theorem dX0_hasCard_17 : decode cX0_hasCard 17 = .ok (.ireturn, 1) := by decide +kernel
theorem dX0_clear_0 : decode cX0_clear 0 = .ok (.aload_n 0, 1) := by decide +kernel
theorem dX0_clear_1 : decode cX0_clear 1 = .ok (.iload_n 1, 1) := by decide +kernel
theorem dX0_clear_2 : decode cX0_clear 2 = .ok (.putfield 34, 3) := by decide +kernel
theorem dX0_clear_5 : decode cX0_clear 5 = .ok (.aload_n 0, 1) := by decide +kernel
theorem dX0_clear_6 : decode cX0_clear 6 = .ok (.iconst 0, 1) := by decide +kernel
theorem dX0_clear_7 : decode cX0_clear 7 = .ok (.putfield 38, 3) := by decide +kernel
theorem dX0_clear_10 : decode cX0_clear 10 = .ok (.return_, 1) := by decide +kernel
set_option maxRecDepth 20000 in
theorem ggX0_addCard_X0_setSize : GoodIn wsX0_addCard wsX0_setSize := goodIn_r _ [11, 12, 18, 19, 20, 21, 22, 23, 24, 25, 26] (by decide +kernel) (by decide +kernel)
set_option maxRecDepth 20000 in
theorem gX0_addCard_X0_setSize : GoodIn wsX0_addCard (wsV RX0 41 RX0 yX0_setSize wsX0_setSize) := goodIn_app (goodIn_of _ (by decide +kernel)) ggX0_addCard_X0_setSize
set_option maxRecDepth 20000 in
theorem ggX0_addCard_X0_insertByDay : GoodIn wsX0_addCard wsX0_insertByDay := goodIn_r _ [16, 1, 2, 17, 18, 19, 20, 21, 22, 23, 24, 25, 26] (by decide +kernel) (by decide +kernel)
set_option maxRecDepth 20000 in
theorem gX0_addCard_X0_insertByDay : GoodIn wsX0_addCard (wsV RX0 45 RX0 yX0_insertByDay wsX0_insertByDay) := goodIn_app (goodIn_of _ (by decide +kernel)) ggX0_addCard_X0_insertByDay
theorem dX0_addCard_0 : decode cX0_addCard 0 = .ok (.aload_n 0, 1) := by decide +kernel
theorem dX0_addCard_1 : decode cX0_addCard 1 = .ok (.getfield 38, 3) := by decide +kernel
theorem dX0_addCard_4 : decode cX0_addCard 4 = .ok (.istore_n 3, 1) := by decide +kernel
theorem dX0_addCard_5 : decode cX0_addCard 5 = .ok (.aload_n 0, 1) := by decide +kernel
theorem dX0_addCard_6 : decode cX0_addCard 6 = .ok (.getfield 9, 3) := by decide +kernel
theorem dX0_addCard_9 : decode cX0_addCard 9 = .ok (.iload_n 3, 1) := by decide +kernel
theorem dX0_addCard_10 : decode cX0_addCard 10 = .ok (.iload_n 1, 1) := by decide +kernel
theorem dX0_addCard_11 : decode cX0_addCard 11 = .ok (.iastore, 1) := by decide +kernel
theorem dX0_addCard_12 : decode cX0_addCard 12 = .ok (.aload_n 0, 1) := by decide +kernel
theorem dX0_addCard_13 : decode cX0_addCard 13 = .ok (.getfield 15, 3) := by decide +kernel
theorem dX0_addCard_16 : decode cX0_addCard 16 = .ok (.iload_n 3, 1) := by decide +kernel
theorem dX0_addCard_17 : decode cX0_addCard 17 = .ok (.iload_n 2, 1) := by decide +kernel
theorem dX0_addCard_18 : decode cX0_addCard 18 = .ok (.bastore, 1) := by decide +kernel
theorem dX0_addCard_19 : decode cX0_addCard 19 = .ok (.aload_n 0, 1) := by decide +kernel
theorem dX0_addCard_20 : decode cX0_addCard 20 = .ok (.getfield 19, 3) := by decide +kernel
theorem dX0_addCard_23 : decode cX0_addCard 23 = .ok (.iload_n 3, 1) := by decide +kernel
theorem dX0_addCard_24 : decode cX0_addCard 24 = .ok (.iconst (-1), 1) := by decide +kernel
theorem dX0_addCard_25 : decode cX0_addCard 25 = .ok (.iastore, 1) := by decide +kernel
theorem dX0_addCard_26 : decode cX0_addCard 26 = .ok (.aload_n 0, 1) := by decide +kernel
theorem dX0_addCard_27 : decode cX0_addCard 27 = .ok (.getfield 22, 3) := by decide +kernel
theorem dX0_addCard_30 : decode cX0_addCard 30 = .ok (.iload_n 3, 1) := by decide +kernel
theorem dX0_addCard_31 : decode cX0_addCard 31 = .ok (.iconst (-1), 1) := by decide +kernel
theorem dX0_addCard_32 : decode cX0_addCard 32 = .ok (.iastore, 1) := by decide +kernel
theorem dX0_addCard_33 : decode cX0_addCard 33 = .ok (.aload_n 0, 1) := by decide +kernel
theorem dX0_addCard_34 : decode cX0_addCard 34 = .ok (.getfield 25, 3) := by decide +kernel
theorem dX0_addCard_37 : decode cX0_addCard 37 = .ok (.iload_n 3, 1) := by decide +kernel
theorem dX0_addCard_38 : decode cX0_addCard 38 = .ok (.iconst (-1), 1) := by decide +kernel
theorem dX0_addCard_39 : decode cX0_addCard 39 = .ok (.iastore, 1) := by decide +kernel
theorem dX0_addCard_40 : decode cX0_addCard 40 = .ok (.iconst 0, 1) := by decide +kernel
theorem dX0_addCard_41 : decode cX0_addCard 41 = .ok (.istore 4, 2) := by decide +kernel
theorem dX0_addCard_43 : decode cX0_addCard 43 = .ok (.iload 4, 2) := by decide +kernel
theorem dX0_addCard_45 : decode cX0_addCard 45 = .ok (.iconst 4, 1) := by decide +kernel
theorem dX0_addCard_46 : decode cX0_addCard 46 = .ok (.if_icmp .ge 17, 3) := by decide +kernel
theorem dX0_addCard_49 : decode cX0_addCard 49 = .ok (.aload_n 0, 1) := by decide +kernel
theorem dX0_addCard_50 : decode cX0_addCard 50 = .ok (.iload_n 3, 1) := by decide +kernel
theorem dX0_addCard_51 : decode cX0_addCard 51 = .ok (.iload 4, 2) := by decide +kernel
theorem dX0_addCard_53 : decode cX0_addCard 53 = .ok (.iconst 1, 1) := by decide +kernel
theorem dX0_addCard_54 : decode cX0_addCard 54 = .ok (.invokevirtual 41, 3) := by decide +kernel
theorem dX0_addCard_57 : decode cX0_addCard 57 = .ok (.iinc 4 1, 3) := by decide +kernel
theorem dX0_addCard_60 : decode cX0_addCard 60 = .ok (.goto (-17), 3) := by decide +kernel
theorem dX0_addCard_63 : decode cX0_addCard 63 = .ok (.aload_n 0, 1) := by decide +kernel
theorem dX0_addCard_64 : decode cX0_addCard 64 = .ok (.iload_n 3, 1) := by decide +kernel
theorem dX0_addCard_65 : decode cX0_addCard 65 = .ok (.invokevirtual 45, 3) := by decide +kernel
theorem dX0_addCard_68 : decode cX0_addCard 68 = .ok (.aload_n 0, 1) := by decide +kernel
theorem dX0_addCard_69 : decode cX0_addCard 69 = .ok (.dup, 1) := by decide +kernel
theorem dX0_addCard_70 : decode cX0_addCard 70 = .ok (.getfield 38, 3) := by decide +kernel
theorem dX0_addCard_73 : decode cX0_addCard 73 = .ok (.iconst 1, 1) := by decide +kernel
theorem dX0_addCard_74 : decode cX0_addCard 74 = .ok (.iadd, 1) := by decide +kernel
theorem dX0_addCard_75 : decode cX0_addCard 75 = .ok (.putfield 38, 3) := by decide +kernel
theorem dX0_addCard_78 : decode cX0_addCard 78 = .ok (.iload_n 3, 1) := by decide +kernel
theorem dX0_addCard_79 : decode cX0_addCard 79 = .ok (.ireturn, 1) := by decide +kernel
theorem dX0_setSize_0 : decode cX0_setSize 0 = .ok (.aload_n 0, 1) := by decide +kernel
theorem dX0_setSize_1 : decode cX0_setSize 1 = .ok (.getfield 31, 3) := by decide +kernel
theorem dX0_setSize_4 : decode cX0_setSize 4 = .ok (.iload_n 1, 1) := by decide +kernel
theorem dX0_setSize_5 : decode cX0_setSize 5 = .ok (.iconst 4, 1) := by decide +kernel
theorem dX0_setSize_6 : decode cX0_setSize 6 = .ok (.imul, 1) := by decide +kernel
theorem dX0_setSize_7 : decode cX0_setSize 7 = .ok (.iload_n 2, 1) := by decide +kernel
theorem dX0_setSize_8 : decode cX0_setSize 8 = .ok (.iadd, 1) := by decide +kernel
theorem dX0_setSize_9 : decode cX0_setSize 9 = .ok (.iload_n 3, 1) := by decide +kernel
theorem dX0_setSize_10 : decode cX0_setSize 10 = .ok (.iastore, 1) := by decide +kernel
theorem dX0_setSize_11 : decode cX0_setSize 11 = .ok (.return_, 1) := by decide +kernel
theorem dX0_sizeIn_0 : decode cX0_sizeIn 0 = .ok (.aload_n 0, 1) := by decide +kernel
theorem dX0_sizeIn_1 : decode cX0_sizeIn 1 = .ok (.getfield 31, 3) := by decide +kernel
theorem dX0_sizeIn_4 : decode cX0_sizeIn 4 = .ok (.iload_n 1, 1) := by decide +kernel
theorem dX0_sizeIn_5 : decode cX0_sizeIn 5 = .ok (.iconst 4, 1) := by decide +kernel
theorem dX0_sizeIn_6 : decode cX0_sizeIn 6 = .ok (.imul, 1) := by decide +kernel
theorem dX0_sizeIn_7 : decode cX0_sizeIn 7 = .ok (.iload_n 2, 1) := by decide +kernel
theorem dX0_sizeIn_8 : decode cX0_sizeIn 8 = .ok (.iadd, 1) := by decide +kernel
theorem dX0_sizeIn_9 : decode cX0_sizeIn 9 = .ok (.iaload, 1) := by decide +kernel
theorem dX0_sizeIn_10 : decode cX0_sizeIn 10 = .ok (.ireturn, 1) := by decide +kernel
theorem dX0_lastComing_0 : decode cX0_lastComing 0 = .ok (.aload_n 0, 1) := by decide +kernel
theorem dX0_lastComing_1 : decode cX0_lastComing 1 = .ok (.getfield 38, 3) := by decide +kernel
theorem dX0_lastComing_4 : decode cX0_lastComing 4 = .ok (.ifCond .ne 7, 3) := by decide +kernel
theorem dX0_lastComing_7 : decode cX0_lastComing 7 = .ok (.iconst 0, 1) := by decide +kernel
theorem dX0_lastComing_8 : decode cX0_lastComing 8 = .ok (.goto 19, 3) := by decide +kernel
theorem dX0_lastComing_11 : decode cX0_lastComing 11 = .ok (.aload_n 0, 1) := by decide +kernel
theorem dX0_lastComing_12 : decode cX0_lastComing 12 = .ok (.getfield 9, 3) := by decide +kernel
theorem dX0_lastComing_15 : decode cX0_lastComing 15 = .ok (.aload_n 0, 1) := by decide +kernel
theorem dX0_lastComing_16 : decode cX0_lastComing 16 = .ok (.getfield 28, 3) := by decide +kernel
theorem dX0_lastComing_19 : decode cX0_lastComing 19 = .ok (.aload_n 0, 1) := by decide +kernel
theorem dX0_lastComing_20 : decode cX0_lastComing 20 = .ok (.getfield 38, 3) := by decide +kernel
theorem dX0_lastComing_23 : decode cX0_lastComing 23 = .ok (.iconst 1, 1) := by decide +kernel
theorem dX0_lastComing_24 : decode cX0_lastComing 24 = .ok (.isub, 1) := by decide +kernel
theorem dX0_lastComing_25 : decode cX0_lastComing 25 = .ok (.iaload, 1) := by decide +kernel
theorem dX0_lastComing_26 : decode cX0_lastComing 26 = .ok (.iaload, 1) := by decide +kernel
theorem dX0_lastComing_27 : decode cX0_lastComing 27 = .ok (.ireturn, 1) := by decide +kernel
theorem dX0_insertByDay_0 : decode cX0_insertByDay 0 = .ok (.aload_n 0, 1) := by decide +kernel
theorem dX0_insertByDay_1 : decode cX0_insertByDay 1 = .ok (.getfield 38, 3) := by decide +kernel
theorem dX0_insertByDay_4 : decode cX0_insertByDay 4 = .ok (.istore_n 2, 1) := by decide +kernel
theorem dX0_insertByDay_5 : decode cX0_insertByDay 5 = .ok (.iload_n 2, 1) := by decide +kernel
theorem dX0_insertByDay_6 : decode cX0_insertByDay 6 = .ok (.ifCond .le 45, 3) := by decide +kernel
theorem dX0_insertByDay_9 : decode cX0_insertByDay 9 = .ok (.aload_n 0, 1) := by decide +kernel
theorem dX0_insertByDay_10 : decode cX0_insertByDay 10 = .ok (.getfield 9, 3) := by decide +kernel
theorem dX0_insertByDay_13 : decode cX0_insertByDay 13 = .ok (.aload_n 0, 1) := by decide +kernel
theorem dX0_insertByDay_14 : decode cX0_insertByDay 14 = .ok (.getfield 28, 3) := by decide +kernel
theorem dX0_insertByDay_17 : decode cX0_insertByDay 17 = .ok (.iload_n 2, 1) := by decide +kernel
theorem dX0_insertByDay_18 : decode cX0_insertByDay 18 = .ok (.iconst 1, 1) := by decide +kernel
theorem dX0_insertByDay_19 : decode cX0_insertByDay 19 = .ok (.isub, 1) := by decide +kernel
theorem dX0_insertByDay_20 : decode cX0_insertByDay 20 = .ok (.iaload, 1) := by decide +kernel
theorem dX0_insertByDay_21 : decode cX0_insertByDay 21 = .ok (.iaload, 1) := by decide +kernel
theorem dX0_insertByDay_22 : decode cX0_insertByDay 22 = .ok (.aload_n 0, 1) := by decide +kernel
theorem dX0_insertByDay_23 : decode cX0_insertByDay 23 = .ok (.getfield 9, 3) := by decide +kernel
theorem dX0_insertByDay_26 : decode cX0_insertByDay 26 = .ok (.iload_n 1, 1) := by decide +kernel
theorem dX0_insertByDay_27 : decode cX0_insertByDay 27 = .ok (.iaload, 1) := by decide +kernel
theorem dX0_insertByDay_28 : decode cX0_insertByDay 28 = .ok (.if_icmp .le 23, 3) := by decide +kernel
theorem dX0_insertByDay_31 : decode cX0_insertByDay 31 = .ok (.aload_n 0, 1) := by decide +kernel
theorem dX0_insertByDay_32 : decode cX0_insertByDay 32 = .ok (.getfield 28, 3) := by decide +kernel
theorem dX0_insertByDay_35 : decode cX0_insertByDay 35 = .ok (.iload_n 2, 1) := by decide +kernel
theorem dX0_insertByDay_36 : decode cX0_insertByDay 36 = .ok (.aload_n 0, 1) := by decide +kernel
theorem dX0_insertByDay_37 : decode cX0_insertByDay 37 = .ok (.getfield 28, 3) := by decide +kernel
theorem dX0_insertByDay_40 : decode cX0_insertByDay 40 = .ok (.iload_n 2, 1) := by decide +kernel
theorem dX0_insertByDay_41 : decode cX0_insertByDay 41 = .ok (.iconst 1, 1) := by decide +kernel
theorem dX0_insertByDay_42 : decode cX0_insertByDay 42 = .ok (.isub, 1) := by decide +kernel
theorem dX0_insertByDay_43 : decode cX0_insertByDay 43 = .ok (.iaload, 1) := by decide +kernel
theorem dX0_insertByDay_44 : decode cX0_insertByDay 44 = .ok (.iastore, 1) := by decide +kernel
theorem dX0_insertByDay_45 : decode cX0_insertByDay 45 = .ok (.iinc 2 (-1), 3) := by decide +kernel
theorem dX0_insertByDay_48 : decode cX0_insertByDay 48 = .ok (.goto (-43), 3) := by decide +kernel
theorem dX0_insertByDay_51 : decode cX0_insertByDay 51 = .ok (.aload_n 0, 1) := by decide +kernel
theorem dX0_insertByDay_52 : decode cX0_insertByDay 52 = .ok (.getfield 28, 3) := by decide +kernel
theorem dX0_insertByDay_55 : decode cX0_insertByDay 55 = .ok (.iload_n 2, 1) := by decide +kernel
theorem dX0_insertByDay_56 : decode cX0_insertByDay 56 = .ok (.iload_n 1, 1) := by decide +kernel
theorem dX0_insertByDay_57 : decode cX0_insertByDay 57 = .ok (.iastore, 1) := by decide +kernel
theorem dX0_insertByDay_58 : decode cX0_insertByDay 58 = .ok (.return_, 1) := by decide +kernel
theorem dX1_init_0 : decode cX1_init 0 = .ok (.aload_n 0, 1) := by decide +kernel
theorem dX1_init_1 : decode cX1_init 1 = .ok (.invokespecial 3, 3) := by decide +kernel
theorem dX1_init_4 : decode cX1_init 4 = .ok (.aload_n 0, 1) := by decide +kernel
theorem dX1_init_5 : decode cX1_init 5 = .ok (.iconst 4, 1) := by decide +kernel
theorem dX1_init_6 : decode cX1_init 6 = .ok (.newarray .int, 2) := by decide +kernel
theorem dX1_init_8 : decode cX1_init 8 = .ok (.putfield 9, 3) := by decide +kernel
theorem dX1_init_11 : decode cX1_init 11 = .ok (.aload_n 0, 1) := by decide +kernel
theorem dX1_init_12 : decode cX1_init 12 = .ok (.iconst 4, 1) := by decide +kernel
theorem dX1_init_13 : decode cX1_init 13 = .ok (.newarray .int, 2) := by decide +kernel
theorem dX1_init_15 : decode cX1_init 15 = .ok (.putfield 15, 3) := by decide +kernel
theorem dX1_init_18 : decode cX1_init 18 = .ok (.aload_n 0, 1) := by decide +kernel
theorem dX1_init_19 : decode cX1_init 19 = .ok (.iconst 4, 1) := by decide +kernel
theorem dX1_init_20 : decode cX1_init 20 = .ok (.newarray .int, 2) := by decide +kernel
theorem dX1_init_22 : decode cX1_init 22 = .ok (.putfield 18, 3) := by decide +kernel
theorem dX1_init_25 : decode cX1_init 25 = .ok (.return_, 1) := by decide +kernel
theorem dX1_tellColumn_0 : decode cX1_tellColumn 0 = .ok (.aload_n 0, 1) := by decide +kernel
theorem dX1_tellColumn_1 : decode cX1_tellColumn 1 = .ok (.getfield 9, 3) := by decide +kernel
theorem dX1_tellColumn_4 : decode cX1_tellColumn 4 = .ok (.iload_n 1, 1) := by decide +kernel
theorem dX1_tellColumn_5 : decode cX1_tellColumn 5 = .ok (.iload_n 2, 1) := by decide +kernel
theorem dX1_tellColumn_6 : decode cX1_tellColumn 6 = .ok (.iastore, 1) := by decide +kernel
theorem dX1_tellColumn_7 : decode cX1_tellColumn 7 = .ok (.aload_n 0, 1) := by decide +kernel
theorem dX1_tellColumn_8 : decode cX1_tellColumn 8 = .ok (.getfield 15, 3) := by decide +kernel
theorem dX1_tellColumn_11 : decode cX1_tellColumn 11 = .ok (.iload_n 1, 1) := by decide +kernel
theorem dX1_tellColumn_12 : decode cX1_tellColumn 12 = .ok (.iload_n 3, 1) := by decide +kernel
theorem dX1_tellColumn_13 : decode cX1_tellColumn 13 = .ok (.iastore, 1) := by decide +kernel
theorem dX1_tellColumn_14 : decode cX1_tellColumn 14 = .ok (.aload_n 0, 1) := by decide +kernel
theorem dX1_tellColumn_15 : decode cX1_tellColumn 15 = .ok (.getfield 18, 3) := by decide +kernel
theorem dX1_tellColumn_18 : decode cX1_tellColumn 18 = .ok (.iload_n 1, 1) := by decide +kernel
theorem dX1_tellColumn_19 : decode cX1_tellColumn 19 = .ok (.iload 4, 2) := by decide +kernel
theorem dX1_tellColumn_21 : decode cX1_tellColumn 21 = .ok (.iastore, 1) := by decide +kernel
theorem dX1_tellColumn_22 : decode cX1_tellColumn 22 = .ok (.return_, 1) := by decide +kernel
set_option maxRecDepth 20000 in
theorem ggX1_setAll_X1_tellColumn : GoodIn wsX1_setAll wsX1_tellColumn := goodIn_r _ [6, 7, 8, 9, 10, 11, 12, 13] (by decide +kernel) (by decide +kernel)
set_option maxRecDepth 20000 in
theorem gX1_setAll_X1_tellColumn : GoodIn wsX1_setAll (wsV RX1 21 RX1 yX1_tellColumn wsX1_tellColumn) := goodIn_app (goodIn_of _ (by decide +kernel)) ggX1_setAll_X1_tellColumn
theorem dX1_setAll_0 : decode cX1_setAll 0 = .ok (.iconst 0, 1) := by decide +kernel
theorem dX1_setAll_1 : decode cX1_setAll 1 = .ok (.istore 5, 2) := by decide +kernel
theorem dX1_setAll_3 : decode cX1_setAll 3 = .ok (.iload 5, 2) := by decide +kernel
theorem dX1_setAll_5 : decode cX1_setAll 5 = .ok (.iconst 4, 1) := by decide +kernel
theorem dX1_setAll_6 : decode cX1_setAll 6 = .ok (.if_icmp .ge 18, 3) := by decide +kernel
theorem dX1_setAll_9 : decode cX1_setAll 9 = .ok (.aload_n 0, 1) := by decide +kernel
theorem dX1_setAll_10 : decode cX1_setAll 10 = .ok (.iload 5, 2) := by decide +kernel
theorem dX1_setAll_12 : decode cX1_setAll 12 = .ok (.iload_n 1, 1) := by decide +kernel
theorem dX1_setAll_13 : decode cX1_setAll 13 = .ok (.iload_n 2, 1) := by decide +kernel
theorem dX1_setAll_14 : decode cX1_setAll 14 = .ok (.iload_n 3, 1) := by decide +kernel
theorem dX1_setAll_15 : decode cX1_setAll 15 = .ok (.invokevirtual 21, 3) := by decide +kernel
theorem dX1_setAll_18 : decode cX1_setAll 18 = .ok (.iinc 5 1, 3) := by decide +kernel
theorem dX1_setAll_21 : decode cX1_setAll 21 = .ok (.goto (-18), 3) := by decide +kernel
theorem dX1_setAll_24 : decode cX1_setAll 24 = .ok (.aload_n 0, 1) := by decide +kernel
theorem dX1_setAll_25 : decode cX1_setAll 25 = .ok (.iload 4, 2) := by decide +kernel
theorem dX1_setAll_27 : decode cX1_setAll 27 = .ok (.putfield 25, 3) := by decide +kernel
theorem dX1_setAll_30 : decode cX1_setAll 30 = .ok (.return_, 1) := by decide +kernel
set_option maxRecDepth 20000 in
theorem ggX1_setTo_X1_toldOr : GoodIn wsX1_setTo wsX1_toldOr := goodIn_r _ [8] (by decide +kernel) (by decide +kernel)
set_option maxRecDepth 20000 in
theorem gX1_setTo_X1_toldOr : GoodIn wsX1_setTo (va_wsS RX1 29 yX1_toldOr wsX1_toldOr) := goodIn_app (goodIn_of _ (by decide +kernel)) ggX1_setTo_X1_toldOr
theorem dX1_setTo_0 : decode cX1_setTo 0 = .ok (.iconst 0, 1) := by decide +kernel
theorem dX1_setTo_1 : decode cX1_setTo 1 = .ok (.istore_n 3, 1) := by decide +kernel
theorem dX1_setTo_2 : decode cX1_setTo 2 = .ok (.iload_n 3, 1) := by decide +kernel
theorem dX1_setTo_3 : decode cX1_setTo 3 = .ok (.iconst 4, 1) := by decide +kernel
theorem dX1_setTo_4 : decode cX1_setTo 4 = .ok (.if_icmp .ge 72, 3) := by decide +kernel
theorem dX1_setTo_7 : decode cX1_setTo 7 = .ok (.aload_n 0, 1) := by decide +kernel
theorem dX1_setTo_8 : decode cX1_setTo 8 = .ok (.getfield 9, 3) := by decide +kernel
theorem dX1_setTo_11 : decode cX1_setTo 11 = .ok (.iload_n 3, 1) := by decide +kernel
theorem dX1_setTo_12 : decode cX1_setTo 12 = .ok (.aload_n 2, 1) := by decide +kernel
theorem dX1_setTo_13 : decode cX1_setTo 13 = .ok (.getfield 9, 3) := by decide +kernel
theorem dX1_setTo_16 : decode cX1_setTo 16 = .ok (.iload_n 3, 1) := by decide +kernel
theorem dX1_setTo_17 : decode cX1_setTo 17 = .ok (.iaload, 1) := by decide +kernel
theorem dX1_setTo_18 : decode cX1_setTo 18 = .ok (.aload_n 1, 1) := by decide +kernel
theorem dX1_setTo_19 : decode cX1_setTo 19 = .ok (.getfield 9, 3) := by decide +kernel
theorem dX1_setTo_22 : decode cX1_setTo 22 = .ok (.iload_n 3, 1) := by decide +kernel
theorem dX1_setTo_23 : decode cX1_setTo 23 = .ok (.iaload, 1) := by decide +kernel
theorem dX1_setTo_24 : decode cX1_setTo 24 = .ok (.invokestatic 29, 3) := by decide +kernel
theorem dX1_setTo_27 : decode cX1_setTo 27 = .ok (.iastore, 1) := by decide +kernel
theorem dX1_setTo_28 : decode cX1_setTo 28 = .ok (.aload_n 0, 1) := by decide +kernel
theorem dX1_setTo_29 : decode cX1_setTo 29 = .ok (.getfield 15, 3) := by decide +kernel
theorem dX1_setTo_32 : decode cX1_setTo 32 = .ok (.iload_n 3, 1) := by decide +kernel
theorem dX1_setTo_33 : decode cX1_setTo 33 = .ok (.aload_n 2, 1) := by decide +kernel
theorem dX1_setTo_34 : decode cX1_setTo 34 = .ok (.getfield 15, 3) := by decide +kernel
theorem dX1_setTo_37 : decode cX1_setTo 37 = .ok (.iload_n 3, 1) := by decide +kernel
theorem dX1_setTo_38 : decode cX1_setTo 38 = .ok (.iaload, 1) := by decide +kernel
theorem dX1_setTo_39 : decode cX1_setTo 39 = .ok (.aload_n 1, 1) := by decide +kernel
theorem dX1_setTo_40 : decode cX1_setTo 40 = .ok (.getfield 15, 3) := by decide +kernel
theorem dX1_setTo_43 : decode cX1_setTo 43 = .ok (.iload_n 3, 1) := by decide +kernel
theorem dX1_setTo_44 : decode cX1_setTo 44 = .ok (.iaload, 1) := by decide +kernel
theorem dX1_setTo_45 : decode cX1_setTo 45 = .ok (.invokestatic 29, 3) := by decide +kernel
theorem dX1_setTo_48 : decode cX1_setTo 48 = .ok (.iastore, 1) := by decide +kernel
theorem dX1_setTo_49 : decode cX1_setTo 49 = .ok (.aload_n 0, 1) := by decide +kernel
theorem dX1_setTo_50 : decode cX1_setTo 50 = .ok (.getfield 18, 3) := by decide +kernel
theorem dX1_setTo_53 : decode cX1_setTo 53 = .ok (.iload_n 3, 1) := by decide +kernel
theorem dX1_setTo_54 : decode cX1_setTo 54 = .ok (.aload_n 2, 1) := by decide +kernel
theorem dX1_setTo_55 : decode cX1_setTo 55 = .ok (.getfield 18, 3) := by decide +kernel
theorem dX1_setTo_58 : decode cX1_setTo 58 = .ok (.iload_n 3, 1) := by decide +kernel
theorem dX1_setTo_59 : decode cX1_setTo 59 = .ok (.iaload, 1) := by decide +kernel
theorem dX1_setTo_60 : decode cX1_setTo 60 = .ok (.aload_n 1, 1) := by decide +kernel
theorem dX1_setTo_61 : decode cX1_setTo 61 = .ok (.getfield 18, 3) := by decide +kernel
theorem dX1_setTo_64 : decode cX1_setTo 64 = .ok (.iload_n 3, 1) := by decide +kernel
theorem dX1_setTo_65 : decode cX1_setTo 65 = .ok (.iaload, 1) := by decide +kernel
theorem dX1_setTo_66 : decode cX1_setTo 66 = .ok (.invokestatic 29, 3) := by decide +kernel
theorem dX1_setTo_69 : decode cX1_setTo 69 = .ok (.iastore, 1) := by decide +kernel
theorem dX1_setTo_70 : decode cX1_setTo 70 = .ok (.iinc 3 1, 3) := by decide +kernel
theorem dX1_setTo_73 : decode cX1_setTo 73 = .ok (.goto (-71), 3) := by decide +kernel
theorem dX1_setTo_76 : decode cX1_setTo 76 = .ok (.aload_n 0, 1) := by decide +kernel
theorem dX1_setTo_77 : decode cX1_setTo 77 = .ok (.aload_n 2, 1) := by decide +kernel
theorem dX1_setTo_78 : decode cX1_setTo 78 = .ok (.getfield 25, 3) := by decide +kernel
theorem dX1_setTo_81 : decode cX1_setTo 81 = .ok (.aload_n 1, 1) := by decide +kernel
theorem dX1_setTo_82 : decode cX1_setTo 82 = .ok (.getfield 25, 3) := by decide +kernel
theorem dX1_setTo_85 : decode cX1_setTo 85 = .ok (.invokestatic 29, 3) := by decide +kernel
theorem dX1_setTo_88 : decode cX1_setTo 88 = .ok (.putfield 25, 3) := by decide +kernel
theorem dX1_setTo_91 : decode cX1_setTo 91 = .ok (.return_, 1) := by decide +kernel
theorem dX1_toldOr_0 : decode cX1_toldOr 0 = .ok (.iload_n 0, 1) := by decide +kernel
theorem dX1_toldOr_1 : decode cX1_toldOr 1 = .ok (.iconst (-1), 1) := by decide +kernel
theorem dX1_toldOr_2 : decode cX1_toldOr 2 = .ok (.if_icmp .ne 7, 3) := by decide +kernel
theorem dX1_toldOr_5 : decode cX1_toldOr 5 = .ok (.iload_n 1, 1) := by decide +kernel
theorem dX1_toldOr_6 : decode cX1_toldOr 6 = .ok (.goto 4, 3) := by decide +kernel
theorem dX1_toldOr_9 : decode cX1_toldOr 9 = .ok (.iload_n 0, 1) := by decide +kernel
theorem dX1_toldOr_10 : decode cX1_toldOr 10 = .ok (.ireturn, 1) := by decide +kernel
theorem dX2_init_0 : decode cX2_init 0 = .ok (.aload_n 0, 1) := by decide +kernel
theorem dX2_init_1 : decode cX2_init 1 = .ok (.invokespecial 3, 3) := by decide +kernel
theorem dX2_init_4 : decode cX2_init 4 = .ok (.aload_n 0, 1) := by decide +kernel
theorem dX2_init_5 : decode cX2_init 5 = .ok (.bipush 16, 2) := by decide +kernel
theorem dX2_init_7 : decode cX2_init 7 = .ok (.newarray .int, 2) := by decide +kernel
theorem dX2_init_9 : decode cX2_init 9 = .ok (.putfield 9, 3) := by decide +kernel
theorem dX2_init_12 : decode cX2_init 12 = .ok (.aload_n 0, 1) := by decide +kernel
theorem dX2_init_13 : decode cX2_init 13 = .ok (.bipush 16, 2) := by decide +kernel
theorem dX2_init_15 : decode cX2_init 15 = .ok (.newarray .int, 2) := by decide +kernel
theorem dX2_init_17 : decode cX2_init 17 = .ok (.putfield 15, 3) := by decide +kernel
theorem dX2_init_20 : decode cX2_init 20 = .ok (.aload_n 0, 1) := by decide +kernel
theorem dX2_init_21 : decode cX2_init 21 = .ok (.bipush 16, 2) := by decide +kernel
theorem dX2_init_23 : decode cX2_init 23 = .ok (.newarray .int, 2) := by decide +kernel
theorem dX2_init_25 : decode cX2_init 25 = .ok (.putfield 18, 3) := by decide +kernel
theorem dX2_init_28 : decode cX2_init 28 = .ok (.aload_n 0, 1) := by decide +kernel
theorem dX2_init_29 : decode cX2_init 29 = .ok (.bipush 16, 2) := by decide +kernel
theorem dX2_init_31 : decode cX2_init 31 = .ok (.newarray .int, 2) := by decide +kernel
theorem dX2_init_33 : decode cX2_init 33 = .ok (.putfield 21, 3) := by decide +kernel
theorem dX2_init_36 : decode cX2_init 36 = .ok (.aload_n 0, 1) := by decide +kernel
theorem dX2_init_37 : decode cX2_init 37 = .ok (.bipush 16, 2) := by decide +kernel
theorem dX2_init_39 : decode cX2_init 39 = .ok (.newarray .boolean, 2) := by decide +kernel
theorem dX2_init_41 : decode cX2_init 41 = .ok (.putfield 24, 3) := by decide +kernel
theorem dX2_init_44 : decode cX2_init 44 = .ok (.aload_n 0, 1) := by decide +kernel
theorem dX2_init_45 : decode cX2_init 45 = .ok (.bipush 16, 2) := by decide +kernel
theorem dX2_init_47 : decode cX2_init 47 = .ok (.newarray .boolean, 2) := by decide +kernel
theorem dX2_init_49 : decode cX2_init 49 = .ok (.putfield 28, 3) := by decide +kernel
theorem dX2_init_52 : decode cX2_init 52 = .ok (.aload_n 0, 1) := by decide +kernel
theorem dX2_init_53 : decode cX2_init 53 = .ok (.bipush 16, 2) := by decide +kernel
theorem dX2_init_55 : decode cX2_init 55 = .ok (.newarray .int, 2) := by decide +kernel
theorem dX2_init_57 : decode cX2_init 57 = .ok (.putfield 31, 3) := by decide +kernel
theorem dX2_init_60 : decode cX2_init 60 = .ok (.aload_n 0, 1) := by decide +kernel
theorem dX2_init_61 : decode cX2_init 61 = .ok (.iconst 4, 1) := by decide +kernel
theorem dX2_init_62 : decode cX2_init 62 = .ok (.newarray .int, 2) := by decide +kernel
theorem dX2_init_64 : decode cX2_init 64 = .ok (.putfield 34, 3) := by decide +kernel
theorem dX2_init_67 : decode cX2_init 67 = .ok (.aload_n 0, 1) := by decide +kernel
theorem dX2_init_68 : decode cX2_init 68 = .ok (.bipush 64, 2) := by decide +kernel
theorem dX2_init_70 : decode cX2_init 70 = .ok (.newarray .int, 2) := by decide +kernel
theorem dX2_init_72 : decode cX2_init 72 = .ok (.putfield 37, 3) := by decide +kernel
theorem dX2_init_75 : decode cX2_init 75 = .ok (.aload_n 0, 1) := by decide +kernel
theorem dX2_init_76 : decode cX2_init 76 = .ok (.aload_n 1, 1) := by decide +kernel
theorem dX2_init_77 : decode cX2_init 77 = .ok (.putfield 40, 3) := by decide +kernel
theorem dX2_init_80 : decode cX2_init 80 = .ok (.aload_n 0, 1) := by decide +kernel
theorem dX2_init_81 : decode cX2_init 81 = .ok (.aload_n 2, 1) := by decide +kernel
theorem dX2_init_82 : decode cX2_init 82 = .ok (.putfield 44, 3) := by decide +kernel
theorem dX2_init_85 : decode cX2_init 85 = .ok (.aload_n 0, 1) := by decide +kernel
theorem dX2_init_86 : decode cX2_init 86 = .ok (.iload_n 3, 1) := by decide +kernel
theorem dX2_init_87 : decode cX2_init 87 = .ok (.putfield 48, 3) := by decide +kernel
theorem dX2_init_90 : decode cX2_init 90 = .ok (.return_, 1) := by decide +kernel
set_option maxRecDepth 20000 in
theorem ggX2_restart_J7_fill_53178 : GoodIn wsX2_restart wsJ7_fill_53178 := goodIn_r _ [14] (by decide +kernel) (by decide +kernel)
set_option maxRecDepth 20000 in
theorem gX2_restart_J7_fill_53178 : GoodIn wsX2_restart (va_wsS RX2 52 yJ7_fill_53178 wsJ7_fill_53178) := goodIn_app (goodIn_of _ (by decide +kernel)) ggX2_restart_J7_fill_53178
theorem dX2_restart_0 : decode cX2_restart 0 = .ok (.aload_n 0, 1) := by decide +kernel
theorem dX2_restart_1 : decode cX2_restart 1 = .ok (.getfield 9, 3) := by decide +kernel
theorem dX2_restart_4 : decode cX2_restart 4 = .ok (.iconst (-1), 1) := by decide +kernel
theorem dX2_restart_5 : decode cX2_restart 5 = .ok (.invokestatic 52, 3) := by decide +kernel
theorem dX2_restart_8 : decode cX2_restart 8 = .ok (.aload_n 0, 1) := by decide +kernel
theorem dX2_restart_9 : decode cX2_restart 9 = .ok (.getfield 15, 3) := by decide +kernel
theorem dX2_restart_12 : decode cX2_restart 12 = .ok (.iconst (-1), 1) := by decide +kernel
theorem dX2_restart_13 : decode cX2_restart 13 = .ok (.invokestatic 52, 3) := by decide +kernel
theorem dX2_restart_16 : decode cX2_restart 16 = .ok (.aload_n 0, 1) := by decide +kernel
theorem dX2_restart_17 : decode cX2_restart 17 = .ok (.getfield 18, 3) := by decide +kernel
theorem dX2_restart_20 : decode cX2_restart 20 = .ok (.iconst 0, 1) := by decide +kernel
theorem dX2_restart_21 : decode cX2_restart 21 = .ok (.invokestatic 52, 3) := by decide +kernel
theorem dX2_restart_24 : decode cX2_restart 24 = .ok (.aload_n 0, 1) := by decide +kernel
theorem dX2_restart_25 : decode cX2_restart 25 = .ok (.getfield 21, 3) := by decide +kernel
theorem dX2_restart_28 : decode cX2_restart 28 = .ok (.iconst (-1), 1) := by decide +kernel
theorem dX2_restart_29 : decode cX2_restart 29 = .ok (.invokestatic 52, 3) := by decide +kernel
theorem dX2_restart_32 : decode cX2_restart 32 = .ok (.aload_n 0, 1) := by decide +kernel
theorem dX2_restart_33 : decode cX2_restart 33 = .ok (.getfield 37, 3) := by decide +kernel
theorem dX2_restart_36 : decode cX2_restart 36 = .ok (.iconst 0, 1) := by decide +kernel
theorem dX2_restart_37 : decode cX2_restart 37 = .ok (.invokestatic 52, 3) := by decide +kernel
theorem dX2_restart_40 : decode cX2_restart 40 = .ok (.iconst 0, 1) := by decide +kernel
theorem dX2_restart_41 : decode cX2_restart 41 = .ok (.istore_n 1, 1) := by decide +kernel
theorem dX2_restart_42 : decode cX2_restart 42 = .ok (.iload_n 1, 1) := by decide +kernel
theorem dX2_restart_43 : decode cX2_restart 43 = .ok (.bipush 16, 2) := by decide +kernel
theorem dX2_restart_45 : decode cX2_restart 45 = .ok (.if_icmp .ge 16, 3) := by decide +kernel
theorem dX2_restart_48 : decode cX2_restart 48 = .ok (.aload_n 0, 1) := by decide +kernel
theorem dX2_restart_49 : decode cX2_restart 49 = .ok (.getfield 28, 3) := by decide +kernel
theorem dX2_restart_52 : decode cX2_restart 52 = .ok (.iload_n 1, 1) := by decide +kernel
theorem dX2_restart_53 : decode cX2_restart 53 = .ok (.iconst 0, 1) := by decide +kernel
theorem dX2_restart_54 : decode cX2_restart 54 = .ok (.bastore, 1) := by decide +kernel
theorem dX2_restart_55 : decode cX2_restart 55 = .ok (.iinc 1 1, 3) := by decide +kernel
theorem dX2_restart_58 : decode cX2_restart 58 = .ok (.goto (-16), 3) := by decide +kernel
theorem dX2_restart_61 : decode cX2_restart 61 = .ok (.aload_n 0, 1) := by decide +kernel
theorem dX2_restart_62 : decode cX2_restart 62 = .ok (.iconst 0, 1) := by decide +kernel
theorem dX2_restart_63 : decode cX2_restart 63 = .ok (.putfield 58, 3) := by decide +kernel
theorem dX2_restart_66 : decode cX2_restart 66 = .ok (.aload_n 0, 1) := by decide +kernel
theorem dX2_restart_67 : decode cX2_restart 67 = .ok (.iconst (-1), 1) := by decide +kernel
theorem dX2_restart_68 : decode cX2_restart 68 = .ok (.putfield 62, 3) := by decide +kernel
theorem dX2_restart_71 : decode cX2_restart 71 = .ok (.aload_n 0, 1) := by decide +kernel
theorem dX2_restart_72 : decode cX2_restart 72 = .ok (.iconst (-1), 1) := by decide +kernel
theorem dX2_restart_73 : decode cX2_restart 73 = .ok (.putfield 65, 3) := by decide +kernel
theorem dX2_restart_76 : decode cX2_restart 76 = .ok (.aload_n 0, 1) := by decide +kernel
theorem dX2_restart_77 : decode cX2_restart 77 = .ok (.iconst 0, 1) := by decide +kernel
theorem dX2_restart_78 : decode cX2_restart 78 = .ok (.putfield 68, 3) := by decide +kernel
theorem dX2_restart_81 : decode cX2_restart 81 = .ok (.return_, 1) := by decide +kernel
set_option maxRecDepth 20000 in
theorem ggX2_showDay_X2_restart : GoodIn wsX2_showDay wsX2_restart := goodIn_r _ [7, 8, 9, 10, 11, 12, 13, 14, 1, 15, 2, 16, 17, 18, 19, 129, 130, 131, 132, 133, 134, 135, 136, 137, 138, 139, 140, 141, 142, 143, 144, 145] (by decide +kernel) (by decide +kernel)
set_option maxRecDepth 20000 in
theorem gX2_showDay_X2_restart : GoodIn wsX2_showDay (wsV RX2 71 RX2 yX2_restart wsX2_restart) := goodIn_app (goodIn_of _ (by decide +kernel)) ggX2_showDay_X2_restart
set_option maxRecDepth 20000 in
theorem ggX2_showDay_X2_runNextDay : GoodIn wsX2_showDay wsX2_runNextDay := goodIn_r _ [23, 24, 25, 26, 27, 28, 29, 30, 31, 32, 33, 34, 35, 1, 15, 2, 36, 37, 38, 6, 39, 40, 41, 42, 8, 9, 43, 44, 45, 46, 47, 48, 49, 50, 51, 52, 53, 54, 55, 56, 57, 58, 59, 60, 61, 62, 63, 64, 65, 66, 67, 68, 11, 69, 70, 71, 72, 73, 74, 75, 76, 10, 77, 78, 79, 80, 81, 82, 83, 84, 85, 14, 86, 87, 88, 89, 90, 91, 92, 93, 94, 95, 96, 97, 98, 99, 100, 101, 102, 103, 104, 105, 106, 107, 108, 109, 13, 110, 111, 112, 113, 114, 115, 116, 129, 130, 131, 132, 133, 134, 135, 136, 137, 138, 139, 140, 141, 142, 143, 144, 145, 146, 147, 148, 149, 150, 151, 152, 153, 154, 155, 156, 157, 158] (by decide +kernel) (by decide +kernel)
set_option maxRecDepth 20000 in
theorem gX2_showDay_X2_runNextDay : GoodIn wsX2_showDay (wsV RX2 74 RX2 yX2_runNextDay wsX2_runNextDay) := goodIn_app (goodIn_of _ (by decide +kernel)) ggX2_showDay_X2_runNextDay
set_option maxRecDepth 20000 in
theorem ggX2_showDay_X2_countReasons : GoodIn wsX2_showDay wsX2_countReasons := goodIn_r _ [120, 24, 40, 12, 121, 122, 123, 6, 124, 41, 9, 125, 126, 127, 128, 8, 65, 66, 67, 68, 11, 1, 54, 55, 56, 57, 58, 59, 60, 61, 62, 63, 64, 129, 130, 131, 132, 133, 134, 135, 136, 137, 138, 139, 140, 141, 142, 143, 144, 145, 146, 147, 148, 149, 150, 151, 152, 153, 154] (by decide +kernel) (by decide +kernel)
set_option maxRecDepth 20000 in
theorem gX2_showDay_X2_countReasons : GoodIn wsX2_showDay (wsV RX2 77 RX2 yX2_countReasons wsX2_countReasons) := goodIn_app (goodIn_of _ (by decide +kernel)) ggX2_showDay_X2_countReasons
theorem dX2_showDay_0 : decode cX2_showDay 0 = .ok (.iload_n 1, 1) := by decide +kernel
theorem dX2_showDay_1 : decode cX2_showDay 1 = .ok (.aload_n 0, 1) := by decide +kernel
theorem dX2_showDay_2 : decode cX2_showDay 2 = .ok (.getfield 62, 3) := by decide +kernel
theorem dX2_showDay_5 : decode cX2_showDay 5 = .ok (.if_icmp .ge 7, 3) := by decide +kernel
theorem dX2_showDay_8 : decode cX2_showDay 8 = .ok (.aload_n 0, 1) := by decide +kernel
theorem dX2_showDay_9 : decode cX2_showDay 9 = .ok (.invokevirtual 71, 3) := by decide +kernel
theorem dX2_showDay_12 : decode cX2_showDay 12 = .ok (.aload_n 0, 1) := by decide +kernel
theorem dX2_showDay_13 : decode cX2_showDay 13 = .ok (.getfield 62, 3) := by decide +kernel
theorem dX2_showDay_16 : decode cX2_showDay 16 = .ok (.istore_n 2, 1) := by decide +kernel
theorem dX2_showDay_17 : decode cX2_showDay 17 = .ok (.iload_n 2, 1) := by decide +kernel
theorem dX2_showDay_18 : decode cX2_showDay 18 = .ok (.iload_n 1, 1) := by decide +kernel
theorem dX2_showDay_19 : decode cX2_showDay 19 = .ok (.if_icmp .ge 31, 3) := by decide +kernel
theorem dX2_showDay_22 : decode cX2_showDay 22 = .ok (.aload_n 0, 1) := by decide +kernel
theorem dX2_showDay_23 : decode cX2_showDay 23 = .ok (.getfield 68, 3) := by decide +kernel
theorem dX2_showDay_26 : decode cX2_showDay 26 = .ok (.ifCond .ne 24, 3) := by decide +kernel
theorem dX2_showDay_29 : decode cX2_showDay 29 = .ok (.aload_n 0, 1) := by decide +kernel
theorem dX2_showDay_30 : decode cX2_showDay 30 = .ok (.invokevirtual 74, 3) := by decide +kernel
theorem dX2_showDay_33 : decode cX2_showDay 33 = .ok (.aload_n 0, 1) := by decide +kernel
theorem dX2_showDay_34 : decode cX2_showDay 34 = .ok (.getfield 68, 3) := by decide +kernel
theorem dX2_showDay_37 : decode cX2_showDay 37 = .ok (.ifCond .ne 7, 3) := by decide +kernel
theorem dX2_showDay_40 : decode cX2_showDay 40 = .ok (.aload_n 0, 1) := by decide +kernel
theorem dX2_showDay_41 : decode cX2_showDay 41 = .ok (.invokevirtual 77, 3) := by decide +kernel
theorem dX2_showDay_44 : decode cX2_showDay 44 = .ok (.iinc 2 1, 3) := by decide +kernel
theorem dX2_showDay_47 : decode cX2_showDay 47 = .ok (.goto (-30), 3) := by decide +kernel
theorem dX2_showDay_50 : decode cX2_showDay 50 = .ok (.return_, 1) := by decide +kernel
set_option maxRecDepth 20000 in
theorem ggX2_sumBelow_X2_restart : GoodIn wsX2_sumBelow wsX2_restart := goodIn_r _ [6, 7, 8, 9, 10, 11, 12, 13, 14, 15, 1, 16, 17, 18, 19, 141, 142, 143, 144, 145, 146, 147, 148, 149, 150, 151, 152, 153, 154, 155, 156, 157] (by decide +kernel) (by decide +kernel)
set_option maxRecDepth 20000 in
theorem gX2_sumBelow_X2_restart : GoodIn wsX2_sumBelow (wsV RX2 71 RX2 yX2_restart wsX2_restart) := goodIn_app (goodIn_of _ (by decide +kernel)) ggX2_sumBelow_X2_restart
set_option maxRecDepth 20000 in
theorem ggX2_sumBelow_X2_runNextDay : GoodIn wsX2_sumBelow wsX2_runNextDay := goodIn_r _ [23, 24, 25, 26, 27, 28, 29, 30, 31, 32, 33, 34, 35, 14, 15, 1, 36, 37, 38, 5, 39, 40, 41, 42, 7, 8, 43, 44, 45, 46, 47, 48, 49, 50, 51, 52, 53, 54, 55, 56, 57, 58, 59, 60, 61, 62, 63, 64, 65, 66, 67, 68, 10, 69, 70, 71, 72, 73, 74, 75, 76, 9, 77, 78, 79, 80, 81, 82, 83, 84, 85, 13, 86, 87, 88, 89, 90, 91, 92, 93, 94, 95, 96, 97, 98, 99, 100, 101, 102, 103, 104, 105, 106, 107, 108, 109, 12, 110, 111, 112, 113, 114, 115, 116, 141, 142, 143, 144, 145, 146, 147, 148, 149, 150, 151, 152, 153, 154, 155, 156, 157, 158, 159, 160, 161, 162, 163, 164, 165, 166, 167, 168, 169, 170] (by decide +kernel) (by decide +kernel)
set_option maxRecDepth 20000 in
theorem gX2_sumBelow_X2_runNextDay : GoodIn wsX2_sumBelow (wsV RX2 74 RX2 yX2_runNextDay wsX2_runNextDay) := goodIn_app (goodIn_of _ (by decide +kernel)) ggX2_sumBelow_X2_runNextDay
set_option maxRecDepth 20000 in
theorem ggX2_sumBelow_X2_countThereOnDay : GoodIn wsX2_sumBelow wsX2_countThereOnDay := goodIn_r _ [120, 24, 40, 121, 122, 123, 5, 124, 7, 65, 66, 67, 68, 10, 14, 141, 142, 143, 144, 145, 146, 147, 148, 149, 150, 151, 152, 153, 154, 155, 156, 157, 158, 159, 160, 161, 162, 163, 164, 165, 166] (by decide +kernel) (by decide +kernel)
set_option maxRecDepth 20000 in
theorem gX2_sumBelow_X2_countThereOnDay : GoodIn wsX2_sumBelow (wsV RX2 80 RX2 yX2_countThereOnDay wsX2_countThereOnDay) := goodIn_app (goodIn_of _ (by decide +kernel)) ggX2_sumBelow_X2_countThereOnDay
set_option maxRecDepth 20000 in
theorem ggX2_sumBelow_X2_areAllDone : GoodIn wsX2_sumBelow wsX2_areAllDone := goodIn_r _ [128, 24, 40, 129, 130, 131, 5, 132, 7, 141, 142, 143, 144, 145, 146, 147, 148, 149, 150, 151, 152, 153, 154, 155, 156, 157, 158, 159, 160, 161, 162, 163, 164, 165, 166] (by decide +kernel) (by decide +kernel)
set_option maxRecDepth 20000 in
theorem gX2_sumBelow_X2_areAllDone : GoodIn wsX2_sumBelow (wsV RX2 84 RX2 yX2_areAllDone wsX2_areAllDone) := goodIn_app (goodIn_of _ (by decide +kernel)) ggX2_sumBelow_X2_areAllDone
set_option maxRecDepth 20000 in
theorem ggX2_sumBelow_X2_sumOfAges : GoodIn wsX2_sumBelow wsX2_sumOfAges := goodIn_r _ [136, 24, 40, 137, 138, 139, 5, 140, 10, 42, 141, 142, 143, 144, 145, 146, 147, 148, 149, 150, 151, 152, 153, 154, 155, 156, 157, 158, 159, 160, 161, 162, 163, 164, 165, 166] (by decide +kernel) (by decide +kernel)
set_option maxRecDepth 20000 in
theorem gX2_sumBelow_X2_sumOfAges : GoodIn wsX2_sumBelow (wsV RX2 88 RX2 yX2_sumOfAges wsX2_sumOfAges) := goodIn_app (goodIn_of _ (by decide +kernel)) ggX2_sumBelow_X2_sumOfAges
theorem dX2_sumBelow_0 : decode cX2_sumBelow 0 = .ok (.aload_n 0, 1) := by decide +kernel
theorem dX2_sumBelow_1 : decode cX2_sumBelow 1 = .ok (.invokevirtual 71, 3) := by decide +kernel
theorem dX2_sumBelow_4 : decode cX2_sumBelow 4 = .ok (.iconst 0, 1) := by decide +kernel
theorem dX2_sumBelow_5 : decode cX2_sumBelow 5 = .ok (.istore_n 2, 1) := by decide +kernel
theorem dX2_sumBelow_6 : decode cX2_sumBelow 6 = .ok (.iconst 0, 1) := by decide +kernel
theorem dX2_sumBelow_7 : decode cX2_sumBelow 7 = .ok (.istore_n 3, 1) := by decide +kernel
theorem dX2_sumBelow_8 : decode cX2_sumBelow 8 = .ok (.iload_n 3, 1) := by decide +kernel
theorem dX2_sumBelow_9 : decode cX2_sumBelow 9 = .ok (.sipush 3000, 3) := by decide +kernel
theorem dX2_sumBelow_12 : decode cX2_sumBelow 12 = .ok (.if_icmp .gt 39, 3) := by decide +kernel
theorem dX2_sumBelow_15 : decode cX2_sumBelow 15 = .ok (.aload_n 0, 1) := by decide +kernel
theorem dX2_sumBelow_16 : decode cX2_sumBelow 16 = .ok (.getfield 68, 3) := by decide +kernel
theorem dX2_sumBelow_19 : decode cX2_sumBelow 19 = .ok (.ifCond .ne 32, 3) := by decide +kernel
theorem dX2_sumBelow_22 : decode cX2_sumBelow 22 = .ok (.aload_n 0, 1) := by decide +kernel
theorem dX2_sumBelow_23 : decode cX2_sumBelow 23 = .ok (.invokevirtual 74, 3) := by decide +kernel
theorem dX2_sumBelow_26 : decode cX2_sumBelow 26 = .ok (.iload_n 2, 1) := by decide +kernel
theorem dX2_sumBelow_27 : decode cX2_sumBelow 27 = .ok (.aload_n 0, 1) := by decide +kernel
theorem dX2_sumBelow_28 : decode cX2_sumBelow 28 = .ok (.invokevirtual 80, 3) := by decide +kernel
theorem dX2_sumBelow_31 : decode cX2_sumBelow 31 = .ok (.iadd, 1) := by decide +kernel
theorem dX2_sumBelow_32 : decode cX2_sumBelow 32 = .ok (.istore_n 2, 1) := by decide +kernel
theorem dX2_sumBelow_33 : decode cX2_sumBelow 33 = .ok (.iload_n 1, 1) := by decide +kernel
theorem dX2_sumBelow_34 : decode cX2_sumBelow 34 = .ok (.iconst (-1), 1) := by decide +kernel
theorem dX2_sumBelow_35 : decode cX2_sumBelow 35 = .ok (.if_icmp .eq 10, 3) := by decide +kernel
theorem dX2_sumBelow_38 : decode cX2_sumBelow 38 = .ok (.iload_n 2, 1) := by decide +kernel
theorem dX2_sumBelow_39 : decode cX2_sumBelow 39 = .ok (.iload_n 1, 1) := by decide +kernel
theorem dX2_sumBelow_40 : decode cX2_sumBelow 40 = .ok (.if_icmp .lt 5, 3) := by decide +kernel
theorem dX2_sumBelow_43 : decode cX2_sumBelow 43 = .ok (.iconst (-1), 1) := by decide +kernel
theorem dX2_sumBelow_44 : decode cX2_sumBelow 44 = .ok (.ireturn, 1) := by decide +kernel
theorem dX2_sumBelow_45 : decode cX2_sumBelow 45 = .ok (.iinc 3 1, 3) := by decide +kernel
theorem dX2_sumBelow_48 : decode cX2_sumBelow 48 = .ok (.goto (-40), 3) := by decide +kernel
theorem dX2_sumBelow_51 : decode cX2_sumBelow 51 = .ok (.aload_n 0, 1) := by decide +kernel
theorem dX2_sumBelow_52 : decode cX2_sumBelow 52 = .ok (.invokevirtual 84, 3) := by decide +kernel
theorem dX2_sumBelow_55 : decode cX2_sumBelow 55 = .ok (.ifCond .eq 10, 3) := by decide +kernel
theorem dX2_sumBelow_58 : decode cX2_sumBelow 58 = .ok (.aload_n 0, 1) := by decide +kernel
theorem dX2_sumBelow_59 : decode cX2_sumBelow 59 = .ok (.invokevirtual 88, 3) := by decide +kernel
theorem dX2_sumBelow_62 : decode cX2_sumBelow 62 = .ok (.goto 4, 3) := by decide +kernel
theorem dX2_sumBelow_65 : decode cX2_sumBelow 65 = .ok (.iconst (-1), 1) := by decide +kernel
theorem dX2_sumBelow_66 : decode cX2_sumBelow 66 = .ok (.ireturn, 1) := by decide +kernel
theorem dX2_ageOf_0 : decode cX2_ageOf 0 = .ok (.aload_n 0, 1) := by decide +kernel
theorem dX2_ageOf_1 : decode cX2_ageOf 1 = .ok (.getfield 21, 3) := by decide +kernel
theorem dX2_ageOf_4 : decode cX2_ageOf 4 = .ok (.iload_n 1, 1) := by decide +kernel
theorem dX2_ageOf_5 : decode cX2_ageOf 5 = .ok (.iaload, 1) := by decide +kernel
theorem dX2_ageOf_6 : decode cX2_ageOf 6 = .ok (.iconst (-1), 1) := by decide +kernel
theorem dX2_ageOf_7 : decode cX2_ageOf 7 = .ok (.if_icmp .ne 7, 3) := by decide +kernel
theorem dX2_ageOf_10 : decode cX2_ageOf 10 = .ok (.iconst (-1), 1) := by decide +kernel
theorem dX2_ageOf_11 : decode cX2_ageOf 11 = .ok (.goto 21, 3) := by decide +kernel
theorem dX2_ageOf_14 : decode cX2_ageOf 14 = .ok (.aload_n 0, 1) := by decide +kernel
theorem dX2_ageOf_15 : decode cX2_ageOf 15 = .ok (.getfield 21, 3) := by decide +kernel
theorem dX2_ageOf_18 : decode cX2_ageOf 18 = .ok (.iload_n 1, 1) := by decide +kernel
theorem dX2_ageOf_19 : decode cX2_ageOf 19 = .ok (.iaload, 1) := by decide +kernel
theorem dX2_ageOf_20 : decode cX2_ageOf 20 = .ok (.aload_n 0, 1) := by decide +kernel
theorem dX2_ageOf_21 : decode cX2_ageOf 21 = .ok (.getfield 40, 3) := by decide +kernel
theorem dX2_ageOf_24 : decode cX2_ageOf 24 = .ok (.getfield 91, 3) := by decide +kernel
theorem dX2_ageOf_27 : decode cX2_ageOf 27 = .ok (.iload_n 1, 1) := by decide +kernel
theorem dX2_ageOf_28 : decode cX2_ageOf 28 = .ok (.iaload, 1) := by decide +kernel
theorem dX2_ageOf_29 : decode cX2_ageOf 29 = .ok (.isub, 1) := by decide +kernel
theorem dX2_ageOf_30 : decode cX2_ageOf 30 = .ok (.iconst 1, 1) := by decide +kernel
theorem dX2_ageOf_31 : decode cX2_ageOf 31 = .ok (.iadd, 1) := by decide +kernel
theorem dX2_ageOf_32 : decode cX2_ageOf 32 = .ok (.ireturn, 1) := by decide +kernel
theorem dX2_daysBy_0 : decode cX2_daysBy 0 = .ok (.aload_n 0, 1) := by decide +kernel
theorem dX2_daysBy_1 : decode cX2_daysBy 1 = .ok (.getfield 37, 3) := by decide +kernel
theorem dX2_daysBy_4 : decode cX2_daysBy 4 = .ok (.iload_n 1, 1) := by decide +kernel
theorem dX2_daysBy_5 : decode cX2_daysBy 5 = .ok (.iconst 4, 1) := by decide +kernel
theorem dX2_daysBy_6 : decode cX2_daysBy 6 = .ok (.imul, 1) := by decide +kernel
theorem dX2_daysBy_7 : decode cX2_daysBy 7 = .ok (.iload_n 2, 1) := by decide +kernel
theorem dX2_daysBy_8 : decode cX2_daysBy 8 = .ok (.iadd, 1) := by decide +kernel
theorem dX2_daysBy_9 : decode cX2_daysBy 9 = .ok (.iconst 1, 1) := by decide +kernel
theorem dX2_daysBy_10 : decode cX2_daysBy 10 = .ok (.isub, 1) := by decide +kernel
theorem dX2_daysBy_11 : decode cX2_daysBy 11 = .ok (.iaload, 1) := by decide +kernel
theorem dX2_daysBy_12 : decode cX2_daysBy 12 = .ok (.ireturn, 1) := by decide +kernel
set_option maxRecDepth 20000 in
theorem ggX2_areAllDone_X2_countAt : GoodIn wsX2_areAllDone wsX2_countAt := goodIn_r _ [7, 1, 2, 8, 9, 10, 11, 12, 13, 14, 15, 16, 17, 18, 19, 20, 21, 22, 23, 24, 25, 26, 27, 28, 29, 30, 31, 32, 33, 34] (by decide +kernel) (by decide +kernel)
set_option maxRecDepth 20000 in
theorem gX2_areAllDone_X2_countAt : GoodIn wsX2_areAllDone (wsV RX2 95 RX2 yX2_countAt wsX2_countAt) := goodIn_app (goodIn_of _ (by decide +kernel)) ggX2_areAllDone_X2_countAt
theorem dX2_areAllDone_0 : decode cX2_areAllDone 0 = .ok (.aload_n 0, 1) := by decide +kernel
theorem dX2_areAllDone_1 : decode cX2_areAllDone 1 = .ok (.bipush 10, 2) := by decide +kernel
theorem dX2_areAllDone_3 : decode cX2_areAllDone 3 = .ok (.invokevirtual 95, 3) := by decide +kernel
theorem dX2_areAllDone_6 : decode cX2_areAllDone 6 = .ok (.aload_n 0, 1) := by decide +kernel
theorem dX2_areAllDone_7 : decode cX2_areAllDone 7 = .ok (.getfield 40, 3) := by decide +kernel
theorem dX2_areAllDone_10 : decode cX2_areAllDone 10 = .ok (.getfield 99, 3) := by decide +kernel
theorem dX2_areAllDone_13 : decode cX2_areAllDone 13 = .ok (.if_icmp .ne 7, 3) := by decide +kernel
theorem dX2_areAllDone_16 : decode cX2_areAllDone 16 = .ok (.iconst 1, 1) := by decide +kernel
theorem dX2_areAllDone_17 : decode cX2_areAllDone 17 = .ok (.goto 4, 3) := by decide +kernel
theorem dX2_areAllDone_20 : decode cX2_areAllDone 20 = .ok (.iconst 0, 1) := by decide +kernel
theorem dX2_areAllDone_21 : decode cX2_areAllDone 21 = .ok (.ireturn, 1) := by decide +kernel
set_option maxRecDepth 20000 in
theorem ggX2_sumOfAges_X2_ageOf : GoodIn wsX2_sumOfAges wsX2_ageOf := goodIn_r _ [7, 8, 1, 9, 10, 11, 12, 13, 14, 15, 16, 17, 18, 19, 20, 21, 22, 23, 24, 25, 26, 27, 28, 29, 30, 31, 32, 33, 34, 35] (by decide +kernel) (by decide +kernel)
set_option maxRecDepth 20000 in
theorem gX2_sumOfAges_X2_ageOf : GoodIn wsX2_sumOfAges (wsV RX2 102 RX2 yX2_ageOf wsX2_ageOf) := goodIn_app (goodIn_of _ (by decide +kernel)) ggX2_sumOfAges_X2_ageOf
theorem dX2_sumOfAges_0 : decode cX2_sumOfAges 0 = .ok (.iconst 0, 1) := by decide +kernel
theorem dX2_sumOfAges_1 : decode cX2_sumOfAges 1 = .ok (.istore_n 1, 1) := by decide +kernel
theorem dX2_sumOfAges_2 : decode cX2_sumOfAges 2 = .ok (.iconst 0, 1) := by decide +kernel
theorem dX2_sumOfAges_3 : decode cX2_sumOfAges 3 = .ok (.istore_n 2, 1) := by decide +kernel
theorem dX2_sumOfAges_4 : decode cX2_sumOfAges 4 = .ok (.iload_n 2, 1) := by decide +kernel
theorem dX2_sumOfAges_5 : decode cX2_sumOfAges 5 = .ok (.aload_n 0, 1) := by decide +kernel
theorem dX2_sumOfAges_6 : decode cX2_sumOfAges 6 = .ok (.getfield 40, 3) := by decide +kernel
theorem dX2_sumOfAges_9 : decode cX2_sumOfAges 9 = .ok (.getfield 99, 3) := by decide +kernel
theorem dX2_sumOfAges_12 : decode cX2_sumOfAges 12 = .ok (.if_icmp .ge 17, 3) := by decide +kernel
theorem dX2_sumOfAges_15 : decode cX2_sumOfAges 15 = .ok (.iload_n 1, 1) := by decide +kernel
theorem dX2_sumOfAges_16 : decode cX2_sumOfAges 16 = .ok (.aload_n 0, 1) := by decide +kernel
theorem dX2_sumOfAges_17 : decode cX2_sumOfAges 17 = .ok (.iload_n 2, 1) := by decide +kernel
theorem dX2_sumOfAges_18 : decode cX2_sumOfAges 18 = .ok (.invokevirtual 102, 3) := by decide +kernel
theorem dX2_sumOfAges_21 : decode cX2_sumOfAges 21 = .ok (.iadd, 1) := by decide +kernel
theorem dX2_sumOfAges_22 : decode cX2_sumOfAges 22 = .ok (.istore_n 1, 1) := by decide +kernel
theorem dX2_sumOfAges_23 : decode cX2_sumOfAges 23 = .ok (.iinc 2 1, 3) := by decide +kernel
theorem dX2_sumOfAges_26 : decode cX2_sumOfAges 26 = .ok (.goto (-22), 3) := by decide +kernel
theorem dX2_sumOfAges_29 : decode cX2_sumOfAges 29 = .ok (.iload_n 1, 1) := by decide +kernel
theorem dX2_sumOfAges_30 : decode cX2_sumOfAges 30 = .ok (.ireturn, 1) := by decide +kernel
set_option maxRecDepth 20000 in
theorem ggX2_sumOfPlainAges_X2_ageOf : GoodIn wsX2_sumOfPlainAges wsX2_ageOf := goodIn_r _ [8, 9, 1, 10, 11, 12, 13, 14, 15, 16, 17, 18, 19, 20, 21, 22, 23, 24, 25, 26, 27, 28, 29, 30, 31, 32, 33, 34, 35, 36] (by decide +kernel) (by decide +kernel)
set_option maxRecDepth 20000 in
theorem gX2_sumOfPlainAges_X2_ageOf : GoodIn wsX2_sumOfPlainAges (wsV RX2 102 RX2 yX2_ageOf wsX2_ageOf) := goodIn_app (goodIn_of _ (by decide +kernel)) ggX2_sumOfPlainAges_X2_ageOf
theorem dX2_sumOfPlainAges_0 : decode cX2_sumOfPlainAges 0 = .ok (.iconst 0, 1) := by decide +kernel
theorem dX2_sumOfPlainAges_1 : decode cX2_sumOfPlainAges 1 = .ok (.istore_n 1, 1) := by decide +kernel
theorem dX2_sumOfPlainAges_2 : decode cX2_sumOfPlainAges 2 = .ok (.iconst 0, 1) := by decide +kernel
theorem dX2_sumOfPlainAges_3 : decode cX2_sumOfPlainAges 3 = .ok (.istore_n 2, 1) := by decide +kernel
theorem dX2_sumOfPlainAges_4 : decode cX2_sumOfPlainAges 4 = .ok (.iload_n 2, 1) := by decide +kernel
theorem dX2_sumOfPlainAges_5 : decode cX2_sumOfPlainAges 5 = .ok (.aload_n 0, 1) := by decide +kernel
theorem dX2_sumOfPlainAges_6 : decode cX2_sumOfPlainAges 6 = .ok (.getfield 40, 3) := by decide +kernel
theorem dX2_sumOfPlainAges_9 : decode cX2_sumOfPlainAges 9 = .ok (.getfield 99, 3) := by decide +kernel
theorem dX2_sumOfPlainAges_12 : decode cX2_sumOfPlainAges 12 = .ok (.if_icmp .ge 29, 3) := by decide +kernel
theorem dX2_sumOfPlainAges_15 : decode cX2_sumOfPlainAges 15 = .ok (.aload_n 0, 1) := by decide +kernel
theorem dX2_sumOfPlainAges_16 : decode cX2_sumOfPlainAges 16 = .ok (.getfield 40, 3) := by decide +kernel
theorem dX2_sumOfPlainAges_19 : decode cX2_sumOfPlainAges 19 = .ok (.getfield 105, 3) := by decide +kernel
theorem dX2_sumOfPlainAges_22 : decode cX2_sumOfPlainAges 22 = .ok (.iload_n 2, 1) := by decide +kernel
theorem dX2_sumOfPlainAges_23 : decode cX2_sumOfPlainAges 23 = .ok (.baload, 1) := by decide +kernel
theorem dX2_sumOfPlainAges_24 : decode cX2_sumOfPlainAges 24 = .ok (.ifCond .ne 11, 3) := by decide +kernel
theorem dX2_sumOfPlainAges_27 : decode cX2_sumOfPlainAges 27 = .ok (.iload_n 1, 1) := by decide +kernel
theorem dX2_sumOfPlainAges_28 : decode cX2_sumOfPlainAges 28 = .ok (.aload_n 0, 1) := by decide +kernel
theorem dX2_sumOfPlainAges_29 : decode cX2_sumOfPlainAges 29 = .ok (.iload_n 2, 1) := by decide +kernel
theorem dX2_sumOfPlainAges_30 : decode cX2_sumOfPlainAges 30 = .ok (.invokevirtual 102, 3) := by decide +kernel
theorem dX2_sumOfPlainAges_33 : decode cX2_sumOfPlainAges 33 = .ok (.iadd, 1) := by decide +kernel
theorem dX2_sumOfPlainAges_34 : decode cX2_sumOfPlainAges 34 = .ok (.istore_n 1, 1) := by decide +kernel
theorem dX2_sumOfPlainAges_35 : decode cX2_sumOfPlainAges 35 = .ok (.iinc 2 1, 3) := by decide +kernel
theorem dX2_sumOfPlainAges_38 : decode cX2_sumOfPlainAges 38 = .ok (.goto (-34), 3) := by decide +kernel
theorem dX2_sumOfPlainAges_41 : decode cX2_sumOfPlainAges 41 = .ok (.iload_n 1, 1) := by decide +kernel
theorem dX2_sumOfPlainAges_42 : decode cX2_sumOfPlainAges 42 = .ok (.ireturn, 1) := by decide +kernel
set_option maxRecDepth 20000 in
theorem ggX2_ageForShare_X2_countAt : GoodIn wsX2_ageForShare wsX2_countAt := goodIn_r _ [7, 1, 2, 8, 19, 20, 21, 22, 23, 24, 25, 26, 27, 28, 29, 30, 31, 32, 33, 34, 35, 36, 37, 38, 39, 40, 41, 42, 43, 44] (by decide +kernel) (by decide +kernel)
set_option maxRecDepth 20000 in
theorem gX2_ageForShare_X2_countAt : GoodIn wsX2_ageForShare (wsV RX2 95 RX2 yX2_countAt wsX2_countAt) := goodIn_app (goodIn_of _ (by decide +kernel)) ggX2_ageForShare_X2_countAt
set_option maxRecDepth 20000 in
theorem ggX2_ageForShare_X2_ageOf : GoodIn wsX2_ageForShare wsX2_ageOf := goodIn_r _ [12, 13, 1, 14, 19, 20, 21, 22, 23, 24, 25, 26, 27, 28, 29, 30, 31, 32, 33, 34, 35, 36, 37, 38, 39, 40, 41, 42, 43, 44] (by decide +kernel) (by decide +kernel)
set_option maxRecDepth 20000 in
theorem gX2_ageForShare_X2_ageOf : GoodIn wsX2_ageForShare (wsV RX2 102 RX2 yX2_ageOf wsX2_ageOf) := goodIn_app (goodIn_of _ (by decide +kernel)) ggX2_ageForShare_X2_ageOf
set_option maxRecDepth 20000 in
theorem ggX2_ageForShare_X2_countNoOlder : GoodIn wsX2_ageForShare wsX2_countNoOlder := goodIn_r _ [18, 1, 2, 13, 9, 10, 11, 6, 12, 14, 19, 20, 21, 22, 23, 24, 25, 26, 27, 28, 29, 30, 31, 32, 33, 34, 35, 36, 37, 38, 39, 40, 41, 42, 43, 44] (by decide +kernel) (by decide +kernel)
set_option maxRecDepth 20000 in
theorem gX2_ageForShare_X2_countNoOlder : GoodIn wsX2_ageForShare (wsV RX2 108 RX2 yX2_countNoOlder wsX2_countNoOlder) := goodIn_app (goodIn_of _ (by decide +kernel)) ggX2_ageForShare_X2_countNoOlder
theorem dX2_ageForShare_0 : decode cX2_ageForShare 0 = .ok (.aload_n 0, 1) := by decide +kernel
theorem dX2_ageForShare_1 : decode cX2_ageForShare 1 = .ok (.bipush 10, 2) := by decide +kernel
theorem dX2_ageForShare_3 : decode cX2_ageForShare 3 = .ok (.invokevirtual 95, 3) := by decide +kernel
theorem dX2_ageForShare_6 : decode cX2_ageForShare 6 = .ok (.istore_n 2, 1) := by decide +kernel
theorem dX2_ageForShare_7 : decode cX2_ageForShare 7 = .ok (.iconst (-1), 1) := by decide +kernel
theorem dX2_ageForShare_8 : decode cX2_ageForShare 8 = .ok (.istore_n 3, 1) := by decide +kernel
theorem dX2_ageForShare_9 : decode cX2_ageForShare 9 = .ok (.iconst 0, 1) := by decide +kernel
theorem dX2_ageForShare_10 : decode cX2_ageForShare 10 = .ok (.istore 4, 2) := by decide +kernel
theorem dX2_ageForShare_12 : decode cX2_ageForShare 12 = .ok (.iload 4, 2) := by decide +kernel
theorem dX2_ageForShare_14 : decode cX2_ageForShare 14 = .ok (.aload_n 0, 1) := by decide +kernel
theorem dX2_ageForShare_15 : decode cX2_ageForShare 15 = .ok (.getfield 40, 3) := by decide +kernel
theorem dX2_ageForShare_18 : decode cX2_ageForShare 18 = .ok (.getfield 99, 3) := by decide +kernel
theorem dX2_ageForShare_21 : decode cX2_ageForShare 21 = .ok (.if_icmp .ge 52, 3) := by decide +kernel
theorem dX2_ageForShare_24 : decode cX2_ageForShare 24 = .ok (.aload_n 0, 1) := by decide +kernel
theorem dX2_ageForShare_25 : decode cX2_ageForShare 25 = .ok (.iload 4, 2) := by decide +kernel
theorem dX2_ageForShare_27 : decode cX2_ageForShare 27 = .ok (.invokevirtual 102, 3) := by decide +kernel
theorem dX2_ageForShare_30 : decode cX2_ageForShare 30 = .ok (.istore 5, 2) := by decide +kernel
theorem dX2_ageForShare_32 : decode cX2_ageForShare 32 = .ok (.iload 5, 2) := by decide +kernel
theorem dX2_ageForShare_34 : decode cX2_ageForShare 34 = .ok (.iconst (-1), 1) := by decide +kernel
theorem dX2_ageForShare_35 : decode cX2_ageForShare 35 = .ok (.if_icmp .eq 32, 3) := by decide +kernel
theorem dX2_ageForShare_38 : decode cX2_ageForShare 38 = .ok (.aload_n 0, 1) := by decide +kernel
theorem dX2_ageForShare_39 : decode cX2_ageForShare 39 = .ok (.iload 5, 2) := by decide +kernel
theorem dX2_ageForShare_41 : decode cX2_ageForShare 41 = .ok (.invokevirtual 108, 3) := by decide +kernel
theorem dX2_ageForShare_44 : decode cX2_ageForShare 44 = .ok (.bipush 100, 2) := by decide +kernel
theorem dX2_ageForShare_46 : decode cX2_ageForShare 46 = .ok (.imul, 1) := by decide +kernel
theorem dX2_ageForShare_47 : decode cX2_ageForShare 47 = .ok (.iload_n 1, 1) := by decide +kernel
theorem dX2_ageForShare_48 : decode cX2_ageForShare 48 = .ok (.iload_n 2, 1) := by decide +kernel
theorem dX2_ageForShare_49 : decode cX2_ageForShare 49 = .ok (.imul, 1) := by decide +kernel
theorem dX2_ageForShare_50 : decode cX2_ageForShare 50 = .ok (.if_icmp .lt 17, 3) := by decide +kernel
theorem dX2_ageForShare_53 : decode cX2_ageForShare 53 = .ok (.iload_n 3, 1) := by decide +kernel
theorem dX2_ageForShare_54 : decode cX2_ageForShare 54 = .ok (.iconst (-1), 1) := by decide +kernel
theorem dX2_ageForShare_55 : decode cX2_ageForShare 55 = .ok (.if_icmp .eq 9, 3) := by decide +kernel
theorem dX2_ageForShare_58 : decode cX2_ageForShare 58 = .ok (.iload 5, 2) := by decide +kernel
theorem dX2_ageForShare_60 : decode cX2_ageForShare 60 = .ok (.iload_n 3, 1) := by decide +kernel
theorem dX2_ageForShare_61 : decode cX2_ageForShare 61 = .ok (.if_icmp .ge 6, 3) := by decide +kernel
theorem dX2_ageForShare_64 : decode cX2_ageForShare 64 = .ok (.iload 5, 2) := by decide +kernel
theorem dX2_ageForShare_66 : decode cX2_ageForShare 66 = .ok (.istore_n 3, 1) := by decide +kernel
theorem dX2_ageForShare_67 : decode cX2_ageForShare 67 = .ok (.iinc 4 1, 3) := by decide +kernel
theorem dX2_ageForShare_70 : decode cX2_ageForShare 70 = .ok (.goto (-58), 3) := by decide +kernel
theorem dX2_ageForShare_73 : decode cX2_ageForShare 73 = .ok (.iload_n 3, 1) := by decide +kernel
theorem dX2_ageForShare_74 : decode cX2_ageForShare 74 = .ok (.ireturn, 1) := by decide +kernel
theorem dX2_countAt_0 : decode cX2_countAt 0 = .ok (.iconst 0, 1) := by decide +kernel
theorem dX2_countAt_1 : decode cX2_countAt 1 = .ok (.istore_n 2, 1) := by decide +kernel
theorem dX2_countAt_2 : decode cX2_countAt 2 = .ok (.iconst 0, 1) := by decide +kernel
theorem dX2_countAt_3 : decode cX2_countAt 3 = .ok (.istore_n 3, 1) := by decide +kernel
theorem dX2_countAt_4 : decode cX2_countAt 4 = .ok (.iload_n 3, 1) := by decide +kernel
theorem dX2_countAt_5 : decode cX2_countAt 5 = .ok (.aload_n 0, 1) := by decide +kernel
theorem dX2_countAt_6 : decode cX2_countAt 6 = .ok (.getfield 40, 3) := by decide +kernel
theorem dX2_countAt_9 : decode cX2_countAt 9 = .ok (.getfield 99, 3) := by decide +kernel
theorem dX2_countAt_12 : decode cX2_countAt 12 = .ok (.if_icmp .ge 22, 3) := by decide +kernel
theorem dX2_countAt_15 : decode cX2_countAt 15 = .ok (.aload_n 0, 1) := by decide +kernel
theorem dX2_countAt_16 : decode cX2_countAt 16 = .ok (.getfield 9, 3) := by decide +kernel
theorem dX2_countAt_19 : decode cX2_countAt 19 = .ok (.iload_n 3, 1) := by decide +kernel
theorem dX2_countAt_20 : decode cX2_countAt 20 = .ok (.iaload, 1) := by decide +kernel
theorem dX2_countAt_21 : decode cX2_countAt 21 = .ok (.iload_n 1, 1) := by decide +kernel
theorem dX2_countAt_22 : decode cX2_countAt 22 = .ok (.if_icmp .ne 6, 3) := by decide +kernel
theorem dX2_countAt_25 : decode cX2_countAt 25 = .ok (.iinc 2 1, 3) := by decide +kernel
theorem dX2_countAt_28 : decode cX2_countAt 28 = .ok (.iinc 3 1, 3) := by decide +kernel
theorem dX2_countAt_31 : decode cX2_countAt 31 = .ok (.goto (-27), 3) := by decide +kernel
theorem dX2_countAt_34 : decode cX2_countAt 34 = .ok (.iload_n 2, 1) := by decide +kernel
theorem dX2_countAt_35 : decode cX2_countAt 35 = .ok (.ireturn, 1) := by decide +kernel
set_option maxRecDepth 20000 in
theorem ggX2_countCome_X2_countAt : GoodIn wsX2_countCome wsX2_countAt := goodIn_r _ [7, 1, 2, 8, 9, 10, 11, 12, 13, 14, 15, 16, 17, 18, 19, 20, 21, 22, 23, 24, 25, 26, 27, 28, 29, 30, 31, 32, 33, 34] (by decide +kernel) (by decide +kernel)
set_option maxRecDepth 20000 in
theorem gX2_countCome_X2_countAt : GoodIn wsX2_countCome (wsV RX2 95 RX2 yX2_countAt wsX2_countAt) := goodIn_app (goodIn_of _ (by decide +kernel)) ggX2_countCome_X2_countAt
theorem dX2_countCome_0 : decode cX2_countCome 0 = .ok (.aload_n 0, 1) := by decide +kernel
theorem dX2_countCome_1 : decode cX2_countCome 1 = .ok (.getfield 40, 3) := by decide +kernel
theorem dX2_countCome_4 : decode cX2_countCome 4 = .ok (.getfield 99, 3) := by decide +kernel
theorem dX2_countCome_7 : decode cX2_countCome 7 = .ok (.aload_n 0, 1) := by decide +kernel
theorem dX2_countCome_8 : decode cX2_countCome 8 = .ok (.iconst (-1), 1) := by decide +kernel
theorem dX2_countCome_9 : decode cX2_countCome 9 = .ok (.invokevirtual 95, 3) := by decide +kernel
theorem dX2_countCome_12 : decode cX2_countCome 12 = .ok (.isub, 1) := by decide +kernel
theorem dX2_countCome_13 : decode cX2_countCome 13 = .ok (.ireturn, 1) := by decide +kernel
set_option maxRecDepth 20000 in
theorem ggX2_countThereOnDay_X2_isThereOnDay : GoodIn wsX2_countThereOnDay wsX2_isThereOnDay := goodIn_r _ [7, 8, 9, 10, 11, 6, 12, 13, 14, 15, 16, 17, 18, 19, 20, 21, 22, 23, 24, 25, 26, 27, 28, 29, 30, 31] (by decide +kernel) (by decide +kernel)
set_option maxRecDepth 20000 in
theorem gX2_countThereOnDay_X2_isThereOnDay : GoodIn wsX2_countThereOnDay (wsV RX2 111 RX2 yX2_isThereOnDay wsX2_isThereOnDay) := goodIn_app (goodIn_of _ (by decide +kernel)) ggX2_countThereOnDay_X2_isThereOnDay
theorem dX2_countThereOnDay_0 : decode cX2_countThereOnDay 0 = .ok (.iconst 0, 1) := by decide +kernel
theorem dX2_countThereOnDay_1 : decode cX2_countThereOnDay 1 = .ok (.istore_n 1, 1) := by decide +kernel
theorem dX2_countThereOnDay_2 : decode cX2_countThereOnDay 2 = .ok (.iconst 0, 1) := by decide +kernel
theorem dX2_countThereOnDay_3 : decode cX2_countThereOnDay 3 = .ok (.istore_n 2, 1) := by decide +kernel
theorem dX2_countThereOnDay_4 : decode cX2_countThereOnDay 4 = .ok (.iload_n 2, 1) := by decide +kernel
theorem dX2_countThereOnDay_5 : decode cX2_countThereOnDay 5 = .ok (.aload_n 0, 1) := by decide +kernel
theorem dX2_countThereOnDay_6 : decode cX2_countThereOnDay 6 = .ok (.getfield 40, 3) := by decide +kernel
theorem dX2_countThereOnDay_9 : decode cX2_countThereOnDay 9 = .ok (.getfield 99, 3) := by decide +kernel
theorem dX2_countThereOnDay_12 : decode cX2_countThereOnDay 12 = .ok (.if_icmp .ge 20, 3) := by decide +kernel
theorem dX2_countThereOnDay_15 : decode cX2_countThereOnDay 15 = .ok (.aload_n 0, 1) := by decide +kernel
theorem dX2_countThereOnDay_16 : decode cX2_countThereOnDay 16 = .ok (.iload_n 2, 1) := by decide +kernel
theorem dX2_countThereOnDay_17 : decode cX2_countThereOnDay 17 = .ok (.invokevirtual 111, 3) := by decide +kernel
theorem dX2_countThereOnDay_20 : decode cX2_countThereOnDay 20 = .ok (.ifCond .eq 6, 3) := by decide +kernel
theorem dX2_countThereOnDay_23 : decode cX2_countThereOnDay 23 = .ok (.iinc 1 1, 3) := by decide +kernel
theorem dX2_countThereOnDay_26 : decode cX2_countThereOnDay 26 = .ok (.iinc 2 1, 3) := by decide +kernel
theorem dX2_countThereOnDay_29 : decode cX2_countThereOnDay 29 = .ok (.goto (-25), 3) := by decide +kernel
theorem dX2_countThereOnDay_32 : decode cX2_countThereOnDay 32 = .ok (.iload_n 1, 1) := by decide +kernel
theorem dX2_countThereOnDay_33 : decode cX2_countThereOnDay 33 = .ok (.ireturn, 1) := by decide +kernel
theorem dX2_standsUnlike_0 : decode cX2_standsUnlike 0 = .ok (.iconst 0, 1) := by decide +kernel
theorem dX2_standsUnlike_1 : decode cX2_standsUnlike 1 = .ok (.istore_n 2, 1) := by decide +kernel
theorem dX2_standsUnlike_2 : decode cX2_standsUnlike 2 = .ok (.iload_n 2, 1) := by decide +kernel
theorem dX2_standsUnlike_3 : decode cX2_standsUnlike 3 = .ok (.aload_n 0, 1) := by decide +kernel
theorem dX2_standsUnlike_4 : decode cX2_standsUnlike 4 = .ok (.getfield 40, 3) := by decide +kernel
theorem dX2_standsUnlike_7 : decode cX2_standsUnlike 7 = .ok (.getfield 99, 3) := by decide +kernel
theorem dX2_standsUnlike_10 : decode cX2_standsUnlike 10 = .ok (.if_icmp .ge 41, 3) := by decide +kernel
theorem dX2_standsUnlike_13 : decode cX2_standsUnlike 13 = .ok (.aload_n 0, 1) := by decide +kernel
theorem dX2_standsUnlike_14 : decode cX2_standsUnlike 14 = .ok (.getfield 9, 3) := by decide +kernel
theorem dX2_standsUnlike_17 : decode cX2_standsUnlike 17 = .ok (.iload_n 2, 1) := by decide +kernel
theorem dX2_standsUnlike_18 : decode cX2_standsUnlike 18 = .ok (.iaload, 1) := by decide +kernel
theorem dX2_standsUnlike_19 : decode cX2_standsUnlike 19 = .ok (.aload_n 1, 1) := by decide +kernel
theorem dX2_standsUnlike_20 : decode cX2_standsUnlike 20 = .ok (.getfield 9, 3) := by decide +kernel
theorem dX2_standsUnlike_23 : decode cX2_standsUnlike 23 = .ok (.iload_n 2, 1) := by decide +kernel
theorem dX2_standsUnlike_24 : decode cX2_standsUnlike 24 = .ok (.iaload, 1) := by decide +kernel
theorem dX2_standsUnlike_25 : decode cX2_standsUnlike 25 = .ok (.if_icmp .ne 18, 3) := by decide +kernel
theorem dX2_standsUnlike_28 : decode cX2_standsUnlike 28 = .ok (.aload_n 0, 1) := by decide +kernel
theorem dX2_standsUnlike_29 : decode cX2_standsUnlike 29 = .ok (.getfield 18, 3) := by decide +kernel
theorem dX2_standsUnlike_32 : decode cX2_standsUnlike 32 = .ok (.iload_n 2, 1) := by decide +kernel
theorem dX2_standsUnlike_33 : decode cX2_standsUnlike 33 = .ok (.iaload, 1) := by decide +kernel
theorem dX2_standsUnlike_34 : decode cX2_standsUnlike 34 = .ok (.aload_n 1, 1) := by decide +kernel
theorem dX2_standsUnlike_35 : decode cX2_standsUnlike 35 = .ok (.getfield 18, 3) := by decide +kernel
theorem dX2_standsUnlike_38 : decode cX2_standsUnlike 38 = .ok (.iload_n 2, 1) := by decide +kernel
theorem dX2_standsUnlike_39 : decode cX2_standsUnlike 39 = .ok (.iaload, 1) := by decide +kernel
theorem dX2_standsUnlike_40 : decode cX2_standsUnlike 40 = .ok (.if_icmp .eq 5, 3) := by decide +kernel
theorem dX2_standsUnlike_43 : decode cX2_standsUnlike 43 = .ok (.iconst 1, 1) := by decide +kernel
theorem dX2_standsUnlike_44 : decode cX2_standsUnlike 44 = .ok (.ireturn, 1) := by decide +kernel
theorem dX2_standsUnlike_45 : decode cX2_standsUnlike 45 = .ok (.iinc 2 1, 3) := by decide +kernel
theorem dX2_standsUnlike_48 : decode cX2_standsUnlike 48 = .ok (.goto (-46), 3) := by decide +kernel
theorem dX2_standsUnlike_51 : decode cX2_standsUnlike 51 = .ok (.iconst 0, 1) := by decide +kernel
theorem dX2_standsUnlike_52 : decode cX2_standsUnlike 52 = .ok (.ireturn, 1) := by decide +kernel
set_option maxRecDepth 20000 in
theorem ggX2_reasonOf_X2_isThereOnDay : GoodIn wsX2_reasonOf wsX2_isThereOnDay := goodIn_r _ [7, 8, 9, 10, 11, 6, 12, 13, 14, 27, 28, 29, 30, 31, 32, 33, 34, 35, 36, 37, 38, 39, 40, 41, 42, 43] (by decide +kernel) (by decide +kernel)
set_option maxRecDepth 20000 in
theorem gX2_reasonOf_X2_isThereOnDay : GoodIn wsX2_reasonOf (wsV RX2 111 RX2 yX2_isThereOnDay wsX2_isThereOnDay) := goodIn_app (goodIn_of _ (by decide +kernel)) ggX2_reasonOf_X2_isThereOnDay
set_option maxRecDepth 20000 in
theorem ggX2_reasonOf_X2_isWaiting : GoodIn wsX2_reasonOf wsX2_isWaiting := goodIn_r _ [18, 19, 20, 8, 21, 22, 23, 24, 25, 26, 9, 10, 11, 6, 12, 13, 14, 27, 28, 29, 30, 31, 32, 33, 34, 35, 36, 37, 38, 39, 40, 41, 42, 43, 44, 45, 46, 47, 48, 49, 50, 51, 52] (by decide +kernel) (by decide +kernel)
set_option maxRecDepth 20000 in
theorem gX2_reasonOf_X2_isWaiting : GoodIn wsX2_reasonOf (wsV RX2 115 RX2 yX2_isWaiting wsX2_isWaiting) := goodIn_app (goodIn_of _ (by decide +kernel)) ggX2_reasonOf_X2_isWaiting
theorem dX2_reasonOf_0 : decode cX2_reasonOf 0 = .ok (.aload_n 0, 1) := by decide +kernel
theorem dX2_reasonOf_1 : decode cX2_reasonOf 1 = .ok (.iload_n 1, 1) := by decide +kernel
theorem dX2_reasonOf_2 : decode cX2_reasonOf 2 = .ok (.invokevirtual 111, 3) := by decide +kernel
theorem dX2_reasonOf_5 : decode cX2_reasonOf 5 = .ok (.ifCond .ne 5, 3) := by decide +kernel
theorem dX2_reasonOf_8 : decode cX2_reasonOf 8 = .ok (.iconst (-1), 1) := by decide +kernel
theorem dX2_reasonOf_9 : decode cX2_reasonOf 9 = .ok (.ireturn, 1) := by decide +kernel
theorem dX2_reasonOf_10 : decode cX2_reasonOf 10 = .ok (.aload_n 0, 1) := by decide +kernel
theorem dX2_reasonOf_11 : decode cX2_reasonOf 11 = .ok (.getfield 24, 3) := by decide +kernel
theorem dX2_reasonOf_14 : decode cX2_reasonOf 14 = .ok (.iload_n 1, 1) := by decide +kernel
theorem dX2_reasonOf_15 : decode cX2_reasonOf 15 = .ok (.baload, 1) := by decide +kernel
theorem dX2_reasonOf_16 : decode cX2_reasonOf 16 = .ok (.ifCond .eq 5, 3) := by decide +kernel
theorem dX2_reasonOf_19 : decode cX2_reasonOf 19 = .ok (.iconst 1, 1) := by decide +kernel
theorem dX2_reasonOf_20 : decode cX2_reasonOf 20 = .ok (.ireturn, 1) := by decide +kernel
theorem dX2_reasonOf_21 : decode cX2_reasonOf 21 = .ok (.aload_n 0, 1) := by decide +kernel
theorem dX2_reasonOf_22 : decode cX2_reasonOf 22 = .ok (.iload_n 1, 1) := by decide +kernel
theorem dX2_reasonOf_23 : decode cX2_reasonOf 23 = .ok (.invokevirtual 115, 3) := by decide +kernel
theorem dX2_reasonOf_26 : decode cX2_reasonOf 26 = .ok (.ifCond .eq 5, 3) := by decide +kernel
theorem dX2_reasonOf_29 : decode cX2_reasonOf 29 = .ok (.iconst 2, 1) := by decide +kernel
theorem dX2_reasonOf_30 : decode cX2_reasonOf 30 = .ok (.ireturn, 1) := by decide +kernel
theorem dX2_reasonOf_31 : decode cX2_reasonOf 31 = .ok (.aload_n 0, 1) := by decide +kernel
theorem dX2_reasonOf_32 : decode cX2_reasonOf 32 = .ok (.getfield 15, 3) := by decide +kernel
theorem dX2_reasonOf_35 : decode cX2_reasonOf 35 = .ok (.iload_n 1, 1) := by decide +kernel
theorem dX2_reasonOf_36 : decode cX2_reasonOf 36 = .ok (.iaload, 1) := by decide +kernel
theorem dX2_reasonOf_37 : decode cX2_reasonOf 37 = .ok (.iconst (-1), 1) := by decide +kernel
theorem dX2_reasonOf_38 : decode cX2_reasonOf 38 = .ok (.if_icmp .ne 7, 3) := by decide +kernel
theorem dX2_reasonOf_41 : decode cX2_reasonOf 41 = .ok (.iconst 4, 1) := by decide +kernel
theorem dX2_reasonOf_42 : decode cX2_reasonOf 42 = .ok (.goto 4, 3) := by decide +kernel
theorem dX2_reasonOf_45 : decode cX2_reasonOf 45 = .ok (.iconst 3, 1) := by decide +kernel
theorem dX2_reasonOf_46 : decode cX2_reasonOf 46 = .ok (.ireturn, 1) := by decide +kernel
set_option maxRecDepth 20000 in
theorem ggX2_countNoOlder_X2_ageOf : GoodIn wsX2_countNoOlder wsX2_ageOf := goodIn_r _ [8, 3, 1, 9, 10, 11, 12, 13, 14, 15, 16, 17, 18, 19, 20, 21, 22, 23, 24, 25, 26, 27, 28, 29, 30, 31, 32, 33, 34, 35] (by decide +kernel) (by decide +kernel)
set_option maxRecDepth 20000 in
theorem gX2_countNoOlder_X2_ageOf : GoodIn wsX2_countNoOlder (wsV RX2 102 RX2 yX2_ageOf wsX2_ageOf) := goodIn_app (goodIn_of _ (by decide +kernel)) ggX2_countNoOlder_X2_ageOf
theorem dX2_countNoOlder_0 : decode cX2_countNoOlder 0 = .ok (.iconst 0, 1) := by decide +kernel
theorem dX2_countNoOlder_1 : decode cX2_countNoOlder 1 = .ok (.istore_n 2, 1) := by decide +kernel
theorem dX2_countNoOlder_2 : decode cX2_countNoOlder 2 = .ok (.iconst 0, 1) := by decide +kernel
theorem dX2_countNoOlder_3 : decode cX2_countNoOlder 3 = .ok (.istore_n 3, 1) := by decide +kernel
theorem dX2_countNoOlder_4 : decode cX2_countNoOlder 4 = .ok (.iload_n 3, 1) := by decide +kernel
theorem dX2_countNoOlder_5 : decode cX2_countNoOlder 5 = .ok (.aload_n 0, 1) := by decide +kernel
theorem dX2_countNoOlder_6 : decode cX2_countNoOlder 6 = .ok (.getfield 40, 3) := by decide +kernel
theorem dX2_countNoOlder_9 : decode cX2_countNoOlder 9 = .ok (.getfield 99, 3) := by decide +kernel
theorem dX2_countNoOlder_12 : decode cX2_countNoOlder 12 = .ok (.if_icmp .ge 31, 3) := by decide +kernel
theorem dX2_countNoOlder_15 : decode cX2_countNoOlder 15 = .ok (.aload_n 0, 1) := by decide +kernel
theorem dX2_countNoOlder_16 : decode cX2_countNoOlder 16 = .ok (.getfield 21, 3) := by decide +kernel
theorem dX2_countNoOlder_19 : decode cX2_countNoOlder 19 = .ok (.iload_n 3, 1) := by decide +kernel
theorem dX2_countNoOlder_20 : decode cX2_countNoOlder 20 = .ok (.iaload, 1) := by decide +kernel
theorem dX2_countNoOlder_21 : decode cX2_countNoOlder 21 = .ok (.iconst (-1), 1) := by decide +kernel
theorem dX2_countNoOlder_22 : decode cX2_countNoOlder 22 = .ok (.if_icmp .eq 15, 3) := by decide +kernel
theorem dX2_countNoOlder_25 : decode cX2_countNoOlder 25 = .ok (.aload_n 0, 1) := by decide +kernel
theorem dX2_countNoOlder_26 : decode cX2_countNoOlder 26 = .ok (.iload_n 3, 1) := by decide +kernel
theorem dX2_countNoOlder_27 : decode cX2_countNoOlder 27 = .ok (.invokevirtual 102, 3) := by decide +kernel
theorem dX2_countNoOlder_30 : decode cX2_countNoOlder 30 = .ok (.iload_n 1, 1) := by decide +kernel
theorem dX2_countNoOlder_31 : decode cX2_countNoOlder 31 = .ok (.if_icmp .gt 6, 3) := by decide +kernel
theorem dX2_countNoOlder_34 : decode cX2_countNoOlder 34 = .ok (.iinc 2 1, 3) := by decide +kernel
theorem dX2_countNoOlder_37 : decode cX2_countNoOlder 37 = .ok (.iinc 3 1, 3) := by decide +kernel
theorem dX2_countNoOlder_40 : decode cX2_countNoOlder 40 = .ok (.goto (-36), 3) := by decide +kernel
theorem dX2_countNoOlder_43 : decode cX2_countNoOlder 43 = .ok (.iload_n 2, 1) := by decide +kernel
theorem dX2_countNoOlder_44 : decode cX2_countNoOlder 44 = .ok (.ireturn, 1) := by decide +kernel
set_option maxRecDepth 20000 in
theorem ggX2_isThereOnDay_X2_isDoneAheadOfDay : GoodIn wsX2_isThereOnDay wsX2_isDoneAheadOfDay := goodIn_r _ [6, 7, 8, 9, 10, 11, 12, 13, 14, 15, 16, 17, 18, 19, 20, 21, 22, 23, 24, 25] (by decide +kernel) (by decide +kernel)
set_option maxRecDepth 20000 in
theorem gX2_isThereOnDay_X2_isDoneAheadOfDay : GoodIn wsX2_isThereOnDay (wsV RX2 118 RX2 yX2_isDoneAheadOfDay wsX2_isDoneAheadOfDay) := goodIn_app (goodIn_of _ (by decide +kernel)) ggX2_isThereOnDay_X2_isDoneAheadOfDay
theorem dX2_isThereOnDay_0 : decode cX2_isThereOnDay 0 = .ok (.aload_n 0, 1) := by decide +kernel
theorem dX2_isThereOnDay_1 : decode cX2_isThereOnDay 1 = .ok (.getfield 9, 3) := by decide +kernel
theorem dX2_isThereOnDay_4 : decode cX2_isThereOnDay 4 = .ok (.iload_n 1, 1) := by decide +kernel
theorem dX2_isThereOnDay_5 : decode cX2_isThereOnDay 5 = .ok (.iaload, 1) := by decide +kernel
theorem dX2_isThereOnDay_6 : decode cX2_isThereOnDay 6 = .ok (.iconst (-1), 1) := by decide +kernel
theorem dX2_isThereOnDay_7 : decode cX2_isThereOnDay 7 = .ok (.if_icmp .eq 15, 3) := by decide +kernel
theorem dX2_isThereOnDay_10 : decode cX2_isThereOnDay 10 = .ok (.aload_n 0, 1) := by decide +kernel
theorem dX2_isThereOnDay_11 : decode cX2_isThereOnDay 11 = .ok (.iload_n 1, 1) := by decide +kernel
theorem dX2_isThereOnDay_12 : decode cX2_isThereOnDay 12 = .ok (.invokevirtual 118, 3) := by decide +kernel
theorem dX2_isThereOnDay_15 : decode cX2_isThereOnDay 15 = .ok (.ifCond .ne 7, 3) := by decide +kernel
theorem dX2_isThereOnDay_18 : decode cX2_isThereOnDay 18 = .ok (.iconst 1, 1) := by decide +kernel
theorem dX2_isThereOnDay_19 : decode cX2_isThereOnDay 19 = .ok (.goto 4, 3) := by decide +kernel
theorem dX2_isThereOnDay_22 : decode cX2_isThereOnDay 22 = .ok (.iconst 0, 1) := by decide +kernel
theorem dX2_isThereOnDay_23 : decode cX2_isThereOnDay 23 = .ok (.ireturn, 1) := by decide +kernel
theorem dX2_isDoneAheadOfDay_0 : decode cX2_isDoneAheadOfDay 0 = .ok (.aload_n 0, 1) := by decide +kernel
theorem dX2_isDoneAheadOfDay_1 : decode cX2_isDoneAheadOfDay 1 = .ok (.getfield 21, 3) := by decide +kernel
theorem dX2_isDoneAheadOfDay_4 : decode cX2_isDoneAheadOfDay 4 = .ok (.iload_n 1, 1) := by decide +kernel
theorem dX2_isDoneAheadOfDay_5 : decode cX2_isDoneAheadOfDay 5 = .ok (.iaload, 1) := by decide +kernel
theorem dX2_isDoneAheadOfDay_6 : decode cX2_isDoneAheadOfDay 6 = .ok (.iconst (-1), 1) := by decide +kernel
theorem dX2_isDoneAheadOfDay_7 : decode cX2_isDoneAheadOfDay 7 = .ok (.if_icmp .eq 20, 3) := by decide +kernel
theorem dX2_isDoneAheadOfDay_10 : decode cX2_isDoneAheadOfDay 10 = .ok (.aload_n 0, 1) := by decide +kernel
theorem dX2_isDoneAheadOfDay_11 : decode cX2_isDoneAheadOfDay 11 = .ok (.getfield 21, 3) := by decide +kernel
theorem dX2_isDoneAheadOfDay_14 : decode cX2_isDoneAheadOfDay 14 = .ok (.iload_n 1, 1) := by decide +kernel
theorem dX2_isDoneAheadOfDay_15 : decode cX2_isDoneAheadOfDay 15 = .ok (.iaload, 1) := by decide +kernel
theorem dX2_isDoneAheadOfDay_16 : decode cX2_isDoneAheadOfDay 16 = .ok (.aload_n 0, 1) := by decide +kernel
theorem dX2_isDoneAheadOfDay_17 : decode cX2_isDoneAheadOfDay 17 = .ok (.getfield 62, 3) := by decide +kernel
theorem dX2_isDoneAheadOfDay_20 : decode cX2_isDoneAheadOfDay 20 = .ok (.if_icmp .ge 7, 3) := by decide +kernel
theorem dX2_isDoneAheadOfDay_23 : decode cX2_isDoneAheadOfDay 23 = .ok (.iconst 1, 1) := by decide +kernel
theorem dX2_isDoneAheadOfDay_24 : decode cX2_isDoneAheadOfDay 24 = .ok (.goto 4, 3) := by decide +kernel
theorem dX2_isDoneAheadOfDay_27 : decode cX2_isDoneAheadOfDay 27 = .ok (.iconst 0, 1) := by decide +kernel
theorem dX2_isDoneAheadOfDay_28 : decode cX2_isDoneAheadOfDay 28 = .ok (.ireturn, 1) := by decide +kernel
set_option maxRecDepth 20000 in
theorem ggX2_isWaiting_X0_hasCard : GoodIn wsX2_isWaiting wsX0_hasCard := goodIn_r _ [8, 9, 34, 35, 36, 37, 38, 39, 40, 41, 42] (by decide +kernel) (by decide +kernel)
set_option maxRecDepth 20000 in
theorem gX2_isWaiting_X0_hasCard : GoodIn wsX2_isWaiting (wsV RX2 124 RX0 yX0_hasCard wsX0_hasCard) := goodIn_app (goodIn_of _ (by decide +kernel)) ggX2_isWaiting_X0_hasCard
set_option maxRecDepth 20000 in
theorem ggX2_isWaiting_X2_isDoneAheadOfDay : GoodIn wsX2_isWaiting wsX2_isDoneAheadOfDay := goodIn_r _ [14, 15, 16, 17, 18, 19, 20, 21, 22, 23, 24, 25, 26, 27, 28, 29, 30, 31, 32, 33] (by decide +kernel) (by decide +kernel)
set_option maxRecDepth 20000 in
theorem gX2_isWaiting_X2_isDoneAheadOfDay : GoodIn wsX2_isWaiting (wsV RX2 118 RX2 yX2_isDoneAheadOfDay wsX2_isDoneAheadOfDay) := goodIn_app (goodIn_of _ (by decide +kernel)) ggX2_isWaiting_X2_isDoneAheadOfDay
theorem dX2_isWaiting_0 : decode cX2_isWaiting 0 = .ok (.aload_n 0, 1) := by decide +kernel
theorem dX2_isWaiting_1 : decode cX2_isWaiting 1 = .ok (.getfield 40, 3) := by decide +kernel
theorem dX2_isWaiting_4 : decode cX2_isWaiting 4 = .ok (.getfield 121, 3) := by decide +kernel
theorem dX2_isWaiting_7 : decode cX2_isWaiting 7 = .ok (.iload_n 1, 1) := by decide +kernel
theorem dX2_isWaiting_8 : decode cX2_isWaiting 8 = .ok (.iaload, 1) := by decide +kernel
theorem dX2_isWaiting_9 : decode cX2_isWaiting 9 = .ok (.istore_n 2, 1) := by decide +kernel
theorem dX2_isWaiting_10 : decode cX2_isWaiting 10 = .ok (.aload_n 0, 1) := by decide +kernel
theorem dX2_isWaiting_11 : decode cX2_isWaiting 11 = .ok (.getfield 9, 3) := by decide +kernel
theorem dX2_isWaiting_14 : decode cX2_isWaiting 14 = .ok (.iload_n 1, 1) := by decide +kernel
theorem dX2_isWaiting_15 : decode cX2_isWaiting 15 = .ok (.iaload, 1) := by decide +kernel
theorem dX2_isWaiting_16 : decode cX2_isWaiting 16 = .ok (.bipush 11, 2) := by decide +kernel
theorem dX2_isWaiting_18 : decode cX2_isWaiting 18 = .ok (.if_icmp .ne 26, 3) := by decide +kernel
theorem dX2_isWaiting_21 : decode cX2_isWaiting 21 = .ok (.aload_n 0, 1) := by decide +kernel
theorem dX2_isWaiting_22 : decode cX2_isWaiting 22 = .ok (.getfield 40, 3) := by decide +kernel
theorem dX2_isWaiting_25 : decode cX2_isWaiting 25 = .ok (.iload_n 2, 1) := by decide +kernel
theorem dX2_isWaiting_26 : decode cX2_isWaiting 26 = .ok (.invokevirtual 124, 3) := by decide +kernel
theorem dX2_isWaiting_29 : decode cX2_isWaiting 29 = .ok (.ifCond .eq 15, 3) := by decide +kernel
theorem dX2_isWaiting_32 : decode cX2_isWaiting 32 = .ok (.aload_n 0, 1) := by decide +kernel
theorem dX2_isWaiting_33 : decode cX2_isWaiting 33 = .ok (.iload_n 2, 1) := by decide +kernel
theorem dX2_isWaiting_34 : decode cX2_isWaiting 34 = .ok (.invokevirtual 118, 3) := by decide +kernel
theorem dX2_isWaiting_37 : decode cX2_isWaiting 37 = .ok (.ifCond .ne 7, 3) := by decide +kernel
theorem dX2_isWaiting_40 : decode cX2_isWaiting 40 = .ok (.iconst 1, 1) := by decide +kernel
theorem dX2_isWaiting_41 : decode cX2_isWaiting 41 = .ok (.goto 4, 3) := by decide +kernel
theorem dX2_isWaiting_44 : decode cX2_isWaiting 44 = .ok (.iconst 0, 1) := by decide +kernel
theorem dX2_isWaiting_45 : decode cX2_isWaiting 45 = .ok (.ireturn, 1) := by decide +kernel
theorem dX2_isUrgent_0 : decode cX2_isUrgent 0 = .ok (.aload_n 0, 1) := by decide +kernel
theorem dX2_isUrgent_1 : decode cX2_isUrgent 1 = .ok (.getfield 40, 3) := by decide +kernel
theorem dX2_isUrgent_4 : decode cX2_isUrgent 4 = .ok (.getfield 105, 3) := by decide +kernel
theorem dX2_isUrgent_7 : decode cX2_isUrgent 7 = .ok (.iload_n 1, 1) := by decide +kernel
theorem dX2_isUrgent_8 : decode cX2_isUrgent 8 = .ok (.baload, 1) := by decide +kernel
theorem dX2_isUrgent_9 : decode cX2_isUrgent 9 = .ok (.ifCond .eq 14, 3) := by decide +kernel
theorem dX2_isUrgent_12 : decode cX2_isUrgent 12 = .ok (.aload_n 0, 1) := by decide +kernel
theorem dX2_isUrgent_13 : decode cX2_isUrgent 13 = .ok (.getfield 48, 3) := by decide +kernel
theorem dX2_isUrgent_16 : decode cX2_isUrgent 16 = .ok (.ifCond .ne 7, 3) := by decide +kernel
theorem dX2_isUrgent_19 : decode cX2_isUrgent 19 = .ok (.iconst 1, 1) := by decide +kernel
theorem dX2_isUrgent_20 : decode cX2_isUrgent 20 = .ok (.goto 4, 3) := by decide +kernel
theorem dX2_isUrgent_23 : decode cX2_isUrgent 23 = .ok (.iconst 0, 1) := by decide +kernel
theorem dX2_isUrgent_24 : decode cX2_isUrgent 24 = .ok (.ireturn, 1) := by decide +kernel
set_option maxRecDepth 20000 in
theorem ggX2_runNextDay_X2_beginDay : GoodIn wsX2_runNextDay wsX2_beginDay := goodIn_r _ [20, 13, 12, 1, 21, 22, 23, 24, 25, 104, 105, 106, 107, 108, 109, 110, 111, 112, 113, 114, 115, 116, 117, 118, 119, 120, 121, 122, 123, 124, 125, 126, 127, 128, 129] (by decide +kernel) (by decide +kernel)
set_option maxRecDepth 20000 in
theorem gX2_runNextDay_X2_beginDay : GoodIn wsX2_runNextDay (wsV RX2 127 RX2 yX2_beginDay wsX2_beginDay) := goodIn_app (goodIn_of _ (by decide +kernel)) ggX2_runNextDay_X2_beginDay
set_option maxRecDepth 20000 in
theorem ggX2_runNextDay_X2_pullInto : GoodIn wsX2_runNextDay wsX2_pullInto := goodIn_r _ [29, 1, 21, 30, 25, 31, 32, 33, 19, 34, 35, 36, 37, 38, 39, 40, 41, 24, 42, 43, 44, 45, 46, 47, 48, 49, 50, 51, 52, 13, 53, 54, 55, 56, 57, 58, 59, 60, 61, 12, 62, 63, 64, 65, 66, 67, 68, 69, 70, 71, 72, 104, 105, 106, 107, 108, 109, 110, 111, 112, 113, 114, 115, 116, 117, 118, 119, 120, 121, 122, 123, 124, 125, 126, 127, 128, 129] (by decide +kernel) (by decide +kernel)
set_option maxRecDepth 20000 in
theorem gX2_runNextDay_X2_pullInto : GoodIn wsX2_runNextDay (wsV RX2 138 RX2 yX2_pullInto wsX2_pullInto) := goodIn_app (goodIn_of _ (by decide +kernel)) ggX2_runNextDay_X2_pullInto
set_option maxRecDepth 20000 in
theorem ggX2_runNextDay_X2_workThose : GoodIn wsX2_runNextDay wsX2_workThose := goodIn_r _ [76, 71, 72, 24, 1, 25, 77, 78, 79, 45, 80, 81, 31, 32, 33, 19, 34, 35, 36, 82, 83, 84, 85, 61, 7, 3, 86, 87, 88, 89, 90, 22, 12, 91, 92, 93, 94, 95, 96, 97, 2, 52, 13, 104, 105, 106, 107, 108, 109, 110, 111, 112, 113, 114, 115, 116, 117, 118, 119, 120, 121, 122, 123, 124, 125, 126, 127, 128, 129, 130, 131, 132, 133] (by decide +kernel) (by decide +kernel)
set_option maxRecDepth 20000 in
theorem gX2_runNextDay_X2_workThose : GoodIn wsX2_runNextDay (wsV RX2 154 RX2 yX2_workThose wsX2_workThose) := goodIn_app (goodIn_of _ (by decide +kernel)) ggX2_runNextDay_X2_workThose
set_option maxRecDepth 20000 in
theorem ggX2_runNextDay_X0_lastComing : GoodIn wsX2_runNextDay wsX0_lastComing := goodIn_r _ [101, 47, 102, 103, 121, 122, 123, 124, 125, 126, 127, 128, 129] (by decide +kernel) (by decide +kernel)
set_option maxRecDepth 20000 in
theorem gX2_runNextDay_X0_lastComing : GoodIn wsX2_runNextDay (wsV RX2 161 RX0 yX0_lastComing wsX0_lastComing) := goodIn_app (goodIn_of _ (by decide +kernel)) ggX2_runNextDay_X0_lastComing
theorem dX2_runNextDay_0 : decode cX2_runNextDay 0 = .ok (.aload_n 0, 1) := by decide +kernel
theorem dX2_runNextDay_1 : decode cX2_runNextDay 1 = .ok (.invokevirtual 127, 3) := by decide +kernel
theorem dX2_runNextDay_4 : decode cX2_runNextDay 4 = .ok (.aload_n 0, 1) := by decide +kernel
theorem dX2_runNextDay_5 : decode cX2_runNextDay 5 = .ok (.getfield 40, 3) := by decide +kernel
theorem dX2_runNextDay_8 : decode cX2_runNextDay 8 = .ok (.getfield 130, 3) := by decide +kernel
theorem dX2_runNextDay_11 : decode cX2_runNextDay 11 = .ok (.iconst 1, 1) := by decide +kernel
theorem dX2_runNextDay_12 : decode cX2_runNextDay 12 = .ok (.isub, 1) := by decide +kernel
theorem dX2_runNextDay_13 : decode cX2_runNextDay 13 = .ok (.istore_n 1, 1) := by decide +kernel
theorem dX2_runNextDay_14 : decode cX2_runNextDay 14 = .ok (.iload_n 1, 1) := by decide +kernel
theorem dX2_runNextDay_15 : decode cX2_runNextDay 15 = .ok (.ifCond .lt 39, 3) := by decide +kernel
theorem dX2_runNextDay_18 : decode cX2_runNextDay 18 = .ok (.aload_n 0, 1) := by decide +kernel
theorem dX2_runNextDay_19 : decode cX2_runNextDay 19 = .ok (.iload_n 1, 1) := by decide +kernel
theorem dX2_runNextDay_20 : decode cX2_runNextDay 20 = .ok (.iconst 1, 1) := by decide +kernel
theorem dX2_runNextDay_21 : decode cX2_runNextDay 21 = .ok (.aload_n 0, 1) := by decide +kernel
theorem dX2_runNextDay_22 : decode cX2_runNextDay 22 = .ok (.getfield 44, 3) := by decide +kernel
theorem dX2_runNextDay_25 : decode cX2_runNextDay 25 = .ok (.getfield 133, 3) := by decide +kernel
theorem dX2_runNextDay_28 : decode cX2_runNextDay 28 = .ok (.iload_n 1, 1) := by decide +kernel
theorem dX2_runNextDay_29 : decode cX2_runNextDay 29 = .ok (.iaload, 1) := by decide +kernel
theorem dX2_runNextDay_30 : decode cX2_runNextDay 30 = .ok (.invokevirtual 138, 3) := by decide +kernel
theorem dX2_runNextDay_33 : decode cX2_runNextDay 33 = .ok (.aload_n 0, 1) := by decide +kernel
theorem dX2_runNextDay_34 : decode cX2_runNextDay 34 = .ok (.iload_n 1, 1) := by decide +kernel
theorem dX2_runNextDay_35 : decode cX2_runNextDay 35 = .ok (.iconst 0, 1) := by decide +kernel
theorem dX2_runNextDay_36 : decode cX2_runNextDay 36 = .ok (.aload_n 0, 1) := by decide +kernel
theorem dX2_runNextDay_37 : decode cX2_runNextDay 37 = .ok (.getfield 44, 3) := by decide +kernel
theorem dX2_runNextDay_40 : decode cX2_runNextDay 40 = .ok (.getfield 142, 3) := by decide +kernel
theorem dX2_runNextDay_43 : decode cX2_runNextDay 43 = .ok (.iload_n 1, 1) := by decide +kernel
theorem dX2_runNextDay_44 : decode cX2_runNextDay 44 = .ok (.iaload, 1) := by decide +kernel
theorem dX2_runNextDay_45 : decode cX2_runNextDay 45 = .ok (.invokevirtual 138, 3) := by decide +kernel
theorem dX2_runNextDay_48 : decode cX2_runNextDay 48 = .ok (.iinc 1 (-1), 3) := by decide +kernel
theorem dX2_runNextDay_51 : decode cX2_runNextDay 51 = .ok (.goto (-37), 3) := by decide +kernel
theorem dX2_runNextDay_54 : decode cX2_runNextDay 54 = .ok (.aload_n 0, 1) := by decide +kernel
theorem dX2_runNextDay_55 : decode cX2_runNextDay 55 = .ok (.getfield 44, 3) := by decide +kernel
theorem dX2_runNextDay_58 : decode cX2_runNextDay 58 = .ok (.getfield 145, 3) := by decide +kernel
theorem dX2_runNextDay_61 : decode cX2_runNextDay 61 = .ok (.iconst 0, 1) := by decide +kernel
theorem dX2_runNextDay_62 : decode cX2_runNextDay 62 = .ok (.aload_n 0, 1) := by decide +kernel
theorem dX2_runNextDay_63 : decode cX2_runNextDay 63 = .ok (.getfield 34, 3) := by decide +kernel
theorem dX2_runNextDay_66 : decode cX2_runNextDay 66 = .ok (.iconst 0, 1) := by decide +kernel
theorem dX2_runNextDay_67 : decode cX2_runNextDay 67 = .ok (.iconst 4, 1) := by decide +kernel
theorem dX2_runNextDay_68 : decode cX2_runNextDay 68 = .ok (.invokestatic 148, 3) := by decide +kernel
theorem dX2_runNextDay_71 : decode cX2_runNextDay 71 = .ok (.aload_n 0, 1) := by decide +kernel
theorem dX2_runNextDay_72 : decode cX2_runNextDay 72 = .ok (.iconst 1, 1) := by decide +kernel
theorem dX2_runNextDay_73 : decode cX2_runNextDay 73 = .ok (.invokevirtual 154, 3) := by decide +kernel
theorem dX2_runNextDay_76 : decode cX2_runNextDay 76 = .ok (.aload_n 0, 1) := by decide +kernel
theorem dX2_runNextDay_77 : decode cX2_runNextDay 77 = .ok (.iconst 0, 1) := by decide +kernel
theorem dX2_runNextDay_78 : decode cX2_runNextDay 78 = .ok (.invokevirtual 154, 3) := by decide +kernel
theorem dX2_runNextDay_81 : decode cX2_runNextDay 81 = .ok (.aload_n 0, 1) := by decide +kernel
theorem dX2_runNextDay_82 : decode cX2_runNextDay 82 = .ok (.getfield 158, 3) := by decide +kernel
theorem dX2_runNextDay_85 : decode cX2_runNextDay 85 = .ok (.ifCond .eq 11, 3) := by decide +kernel
theorem dX2_runNextDay_88 : decode cX2_runNextDay 88 = .ok (.aload_n 0, 1) := by decide +kernel
theorem dX2_runNextDay_89 : decode cX2_runNextDay 89 = .ok (.aload_n 0, 1) := by decide +kernel
theorem dX2_runNextDay_90 : decode cX2_runNextDay 90 = .ok (.getfield 62, 3) := by decide +kernel
theorem dX2_runNextDay_93 : decode cX2_runNextDay 93 = .ok (.putfield 65, 3) := by decide +kernel
theorem dX2_runNextDay_96 : decode cX2_runNextDay 96 = .ok (.aload_n 0, 1) := by decide +kernel
theorem dX2_runNextDay_97 : decode cX2_runNextDay 97 = .ok (.aload_n 0, 1) := by decide +kernel
theorem dX2_runNextDay_98 : decode cX2_runNextDay 98 = .ok (.getfield 158, 3) := by decide +kernel
theorem dX2_runNextDay_101 : decode cX2_runNextDay 101 = .ok (.ifCond .ne 21, 3) := by decide +kernel
theorem dX2_runNextDay_104 : decode cX2_runNextDay 104 = .ok (.aload_n 0, 1) := by decide +kernel
theorem dX2_runNextDay_105 : decode cX2_runNextDay 105 = .ok (.getfield 62, 3) := by decide +kernel
theorem dX2_runNextDay_108 : decode cX2_runNextDay 108 = .ok (.aload_n 0, 1) := by decide +kernel
theorem dX2_runNextDay_109 : decode cX2_runNextDay 109 = .ok (.getfield 40, 3) := by decide +kernel
theorem dX2_runNextDay_112 : decode cX2_runNextDay 112 = .ok (.invokevirtual 161, 3) := by decide +kernel
theorem dX2_runNextDay_115 : decode cX2_runNextDay 115 = .ok (.if_icmp .lt 7, 3) := by decide +kernel
theorem dX2_runNextDay_118 : decode cX2_runNextDay 118 = .ok (.iconst 1, 1) := by decide +kernel
theorem dX2_runNextDay_119 : decode cX2_runNextDay 119 = .ok (.goto 4, 3) := by decide +kernel
theorem dX2_runNextDay_122 : decode cX2_runNextDay 122 = .ok (.iconst 0, 1) := by decide +kernel
theorem dX2_runNextDay_123 : decode cX2_runNextDay 123 = .ok (.putfield 68, 3) := by decide +kernel
theorem dX2_runNextDay_126 : decode cX2_runNextDay 126 = .ok (.return_, 1) := by decide +kernel
theorem dX2_beginDay_0 : decode cX2_beginDay 0 = .ok (.aload_n 0, 1) := by decide +kernel
theorem dX2_beginDay_1 : decode cX2_beginDay 1 = .ok (.dup, 1) := by decide +kernel
theorem dX2_beginDay_2 : decode cX2_beginDay 2 = .ok (.getfield 62, 3) := by decide +kernel
theorem dX2_beginDay_5 : decode cX2_beginDay 5 = .ok (.iconst 1, 1) := by decide +kernel
theorem dX2_beginDay_6 : decode cX2_beginDay 6 = .ok (.iadd, 1) := by decide +kernel
theorem dX2_beginDay_7 : decode cX2_beginDay 7 = .ok (.putfield 62, 3) := by decide +kernel
theorem dX2_beginDay_10 : decode cX2_beginDay 10 = .ok (.aload_n 0, 1) := by decide +kernel
theorem dX2_beginDay_11 : decode cX2_beginDay 11 = .ok (.iconst 0, 1) := by decide +kernel
theorem dX2_beginDay_12 : decode cX2_beginDay 12 = .ok (.putfield 158, 3) := by decide +kernel
theorem dX2_beginDay_15 : decode cX2_beginDay 15 = .ok (.iconst 0, 1) := by decide +kernel
theorem dX2_beginDay_16 : decode cX2_beginDay 16 = .ok (.istore_n 1, 1) := by decide +kernel
theorem dX2_beginDay_17 : decode cX2_beginDay 17 = .ok (.iload_n 1, 1) := by decide +kernel
theorem dX2_beginDay_18 : decode cX2_beginDay 18 = .ok (.aload_n 0, 1) := by decide +kernel
theorem dX2_beginDay_19 : decode cX2_beginDay 19 = .ok (.getfield 40, 3) := by decide +kernel
theorem dX2_beginDay_22 : decode cX2_beginDay 22 = .ok (.getfield 99, 3) := by decide +kernel
theorem dX2_beginDay_25 : decode cX2_beginDay 25 = .ok (.if_icmp .ge 47, 3) := by decide +kernel
theorem dX2_beginDay_28 : decode cX2_beginDay 28 = .ok (.aload_n 0, 1) := by decide +kernel
theorem dX2_beginDay_29 : decode cX2_beginDay 29 = .ok (.getfield 24, 3) := by decide +kernel
theorem dX2_beginDay_32 : decode cX2_beginDay 32 = .ok (.iload_n 1, 1) := by decide +kernel
theorem dX2_beginDay_33 : decode cX2_beginDay 33 = .ok (.iconst 0, 1) := by decide +kernel
theorem dX2_beginDay_34 : decode cX2_beginDay 34 = .ok (.bastore, 1) := by decide +kernel
theorem dX2_beginDay_35 : decode cX2_beginDay 35 = .ok (.aload_n 0, 1) := by decide +kernel
theorem dX2_beginDay_36 : decode cX2_beginDay 36 = .ok (.getfield 40, 3) := by decide +kernel
theorem dX2_beginDay_39 : decode cX2_beginDay 39 = .ok (.getfield 91, 3) := by decide +kernel
theorem dX2_beginDay_42 : decode cX2_beginDay 42 = .ok (.iload_n 1, 1) := by decide +kernel
theorem dX2_beginDay_43 : decode cX2_beginDay 43 = .ok (.iaload, 1) := by decide +kernel
theorem dX2_beginDay_44 : decode cX2_beginDay 44 = .ok (.aload_n 0, 1) := by decide +kernel
theorem dX2_beginDay_45 : decode cX2_beginDay 45 = .ok (.getfield 62, 3) := by decide +kernel
theorem dX2_beginDay_48 : decode cX2_beginDay 48 = .ok (.if_icmp .ne 18, 3) := by decide +kernel
theorem dX2_beginDay_51 : decode cX2_beginDay 51 = .ok (.aload_n 0, 1) := by decide +kernel
theorem dX2_beginDay_52 : decode cX2_beginDay 52 = .ok (.getfield 9, 3) := by decide +kernel
theorem dX2_beginDay_55 : decode cX2_beginDay 55 = .ok (.iload_n 1, 1) := by decide +kernel
theorem dX2_beginDay_56 : decode cX2_beginDay 56 = .ok (.bipush 11, 2) := by decide +kernel
theorem dX2_beginDay_58 : decode cX2_beginDay 58 = .ok (.iastore, 1) := by decide +kernel
theorem dX2_beginDay_59 : decode cX2_beginDay 59 = .ok (.aload_n 0, 1) := by decide +kernel
theorem dX2_beginDay_60 : decode cX2_beginDay 60 = .ok (.getfield 15, 3) := by decide +kernel
theorem dX2_beginDay_63 : decode cX2_beginDay 63 = .ok (.iload_n 1, 1) := by decide +kernel
theorem dX2_beginDay_64 : decode cX2_beginDay 64 = .ok (.iconst 0, 1) := by decide +kernel
theorem dX2_beginDay_65 : decode cX2_beginDay 65 = .ok (.iastore, 1) := by decide +kernel
theorem dX2_beginDay_66 : decode cX2_beginDay 66 = .ok (.iinc 1 1, 3) := by decide +kernel
theorem dX2_beginDay_69 : decode cX2_beginDay 69 = .ok (.goto (-52), 3) := by decide +kernel
theorem dX2_beginDay_72 : decode cX2_beginDay 72 = .ok (.return_, 1) := by decide +kernel
set_option maxRecDepth 20000 in
theorem ggX2_pullInto_X2_isUrgent : GoodIn wsX2_pullInto wsX2_isUrgent := goodIn_r _ [9, 1, 10, 11, 51, 52, 53, 54, 55, 56, 57, 58, 59, 60, 61, 62, 63, 64, 65, 66, 67, 68, 69, 70, 71, 72, 73, 74, 75, 76] (by decide +kernel) (by decide +kernel)
set_option maxRecDepth 20000 in
theorem gX2_pullInto_X2_isUrgent : GoodIn wsX2_pullInto (wsV RX2 167 RX2 yX2_isUrgent wsX2_isUrgent) := goodIn_app (goodIn_of _ (by decide +kernel)) ggX2_pullInto_X2_isUrgent
set_option maxRecDepth 20000 in
theorem ggX2_pullInto_X2_isWaiting : GoodIn wsX2_pullInto wsX2_isWaiting := goodIn_r _ [15, 1, 16, 17, 18, 19, 20, 21, 22, 23, 24, 25, 26, 8, 27, 28, 29, 51, 52, 53, 54, 55, 56, 57, 58, 59, 60, 61, 62, 63, 64, 65, 66, 67, 68, 69, 70, 71, 72, 73, 74, 75, 76] (by decide +kernel) (by decide +kernel)
set_option maxRecDepth 20000 in
theorem gX2_pullInto_X2_isWaiting : GoodIn wsX2_pullInto (wsV RX2 115 RX2 yX2_isWaiting wsX2_isWaiting) := goodIn_app (goodIn_of _ (by decide +kernel)) ggX2_pullInto_X2_isWaiting
set_option maxRecDepth 20000 in
theorem ggX2_pullInto_X2_countIn : GoodIn wsX2_pullInto wsX2_countIn := goodIn_r _ [33, 1, 2, 17, 5, 6, 7, 8, 9, 10, 11, 51, 52, 53, 54, 55, 56, 57, 58, 59, 60, 61, 62, 63, 64, 65, 66, 67, 68, 69, 70, 71, 72, 73, 74, 75, 76] (by decide +kernel) (by decide +kernel)
set_option maxRecDepth 20000 in
theorem gX2_pullInto_X2_countIn : GoodIn wsX2_pullInto (wsV RX2 170 RX2 yX2_countIn wsX2_countIn) := goodIn_app (goodIn_of _ (by decide +kernel)) ggX2_pullInto_X2_countIn
set_option maxRecDepth 20000 in
theorem ggX2_pullInto_X2_pullCard : GoodIn wsX2_pullInto wsX2_pullCard := goodIn_r _ [37, 17, 4, 38, 1, 39, 40, 41, 42, 21, 43, 44, 45, 46, 47, 8, 48, 49, 50, 51, 52, 53, 54, 55, 56, 57, 58, 59, 60, 61, 62, 63, 64, 65, 66, 67, 68, 69, 70, 71, 72, 73, 74, 75, 76] (by decide +kernel) (by decide +kernel)
set_option maxRecDepth 20000 in
theorem gX2_pullInto_X2_pullCard : GoodIn wsX2_pullInto (wsV RX2 174 RX2 yX2_pullCard wsX2_pullCard) := goodIn_app (goodIn_of _ (by decide +kernel)) ggX2_pullInto_X2_pullCard
theorem dX2_pullInto_0 : decode cX2_pullInto 0 = .ok (.iconst 0, 1) := by decide +kernel
theorem dX2_pullInto_1 : decode cX2_pullInto 1 = .ok (.istore 4, 2) := by decide +kernel
theorem dX2_pullInto_3 : decode cX2_pullInto 3 = .ok (.iload 4, 2) := by decide +kernel
theorem dX2_pullInto_5 : decode cX2_pullInto 5 = .ok (.aload_n 0, 1) := by decide +kernel
theorem dX2_pullInto_6 : decode cX2_pullInto 6 = .ok (.getfield 40, 3) := by decide +kernel
theorem dX2_pullInto_9 : decode cX2_pullInto 9 = .ok (.getfield 99, 3) := by decide +kernel
theorem dX2_pullInto_12 : decode cX2_pullInto 12 = .ok (.if_icmp .ge 69, 3) := by decide +kernel
theorem dX2_pullInto_15 : decode cX2_pullInto 15 = .ok (.aload_n 0, 1) := by decide +kernel
theorem dX2_pullInto_16 : decode cX2_pullInto 16 = .ok (.getfield 40, 3) := by decide +kernel
theorem dX2_pullInto_19 : decode cX2_pullInto 19 = .ok (.getfield 164, 3) := by decide +kernel
theorem dX2_pullInto_22 : decode cX2_pullInto 22 = .ok (.iload 4, 2) := by decide +kernel
theorem dX2_pullInto_24 : decode cX2_pullInto 24 = .ok (.iaload, 1) := by decide +kernel
theorem dX2_pullInto_25 : decode cX2_pullInto 25 = .ok (.istore 5, 2) := by decide +kernel
theorem dX2_pullInto_27 : decode cX2_pullInto 27 = .ok (.aload_n 0, 1) := by decide +kernel
theorem dX2_pullInto_28 : decode cX2_pullInto 28 = .ok (.getfield 15, 3) := by decide +kernel
theorem dX2_pullInto_31 : decode cX2_pullInto 31 = .ok (.iload 5, 2) := by decide +kernel
theorem dX2_pullInto_33 : decode cX2_pullInto 33 = .ok (.iaload, 1) := by decide +kernel
theorem dX2_pullInto_34 : decode cX2_pullInto 34 = .ok (.iload_n 1, 1) := by decide +kernel
theorem dX2_pullInto_35 : decode cX2_pullInto 35 = .ok (.if_icmp .ne 40, 3) := by decide +kernel
theorem dX2_pullInto_38 : decode cX2_pullInto 38 = .ok (.aload_n 0, 1) := by decide +kernel
theorem dX2_pullInto_39 : decode cX2_pullInto 39 = .ok (.iload 5, 2) := by decide +kernel
theorem dX2_pullInto_41 : decode cX2_pullInto 41 = .ok (.invokevirtual 167, 3) := by decide +kernel
theorem dX2_pullInto_44 : decode cX2_pullInto 44 = .ok (.iload_n 2, 1) := by decide +kernel
theorem dX2_pullInto_45 : decode cX2_pullInto 45 = .ok (.if_icmp .ne 30, 3) := by decide +kernel
theorem dX2_pullInto_48 : decode cX2_pullInto 48 = .ok (.aload_n 0, 1) := by decide +kernel
theorem dX2_pullInto_49 : decode cX2_pullInto 49 = .ok (.iload 5, 2) := by decide +kernel
theorem dX2_pullInto_51 : decode cX2_pullInto 51 = .ok (.invokevirtual 115, 3) := by decide +kernel
theorem dX2_pullInto_54 : decode cX2_pullInto 54 = .ok (.ifCond .ne 21, 3) := by decide +kernel
theorem dX2_pullInto_57 : decode cX2_pullInto 57 = .ok (.aload_n 0, 1) := by decide +kernel
theorem dX2_pullInto_58 : decode cX2_pullInto 58 = .ok (.iload_n 1, 1) := by decide +kernel
theorem dX2_pullInto_59 : decode cX2_pullInto 59 = .ok (.iload_n 2, 1) := by decide +kernel
theorem dX2_pullInto_60 : decode cX2_pullInto 60 = .ok (.invokevirtual 170, 3) := by decide +kernel
theorem dX2_pullInto_63 : decode cX2_pullInto 63 = .ok (.iload_n 3, 1) := by decide +kernel
theorem dX2_pullInto_64 : decode cX2_pullInto 64 = .ok (.if_icmp .lt 4, 3) := by decide +kernel
theorem dX2_pullInto_67 : decode cX2_pullInto 67 = .ok (.return_, 1) := by decide +kernel
theorem dX2_pullInto_68 : decode cX2_pullInto 68 = .ok (.aload_n 0, 1) := by decide +kernel
theorem dX2_pullInto_69 : decode cX2_pullInto 69 = .ok (.iload 5, 2) := by decide +kernel
theorem dX2_pullInto_71 : decode cX2_pullInto 71 = .ok (.iload_n 1, 1) := by decide +kernel
theorem dX2_pullInto_72 : decode cX2_pullInto 72 = .ok (.invokevirtual 174, 3) := by decide +kernel
theorem dX2_pullInto_75 : decode cX2_pullInto 75 = .ok (.iinc 4 1, 3) := by decide +kernel
theorem dX2_pullInto_78 : decode cX2_pullInto 78 = .ok (.goto (-75), 3) := by decide +kernel
theorem dX2_pullInto_81 : decode cX2_pullInto 81 = .ok (.return_, 1) := by decide +kernel
set_option maxRecDepth 20000 in
theorem ggX2_countIn_X2_isUrgent : GoodIn wsX2_countIn wsX2_isUrgent := goodIn_r _ [8, 1, 9, 10, 11, 12, 13, 14, 15, 16, 17, 18, 19, 20, 21, 22, 23, 24, 25, 26, 27, 28, 29, 30, 31, 32, 33, 34, 35, 36] (by decide +kernel) (by decide +kernel)
set_option maxRecDepth 20000 in
theorem gX2_countIn_X2_isUrgent : GoodIn wsX2_countIn (wsV RX2 167 RX2 yX2_isUrgent wsX2_isUrgent) := goodIn_app (goodIn_of _ (by decide +kernel)) ggX2_countIn_X2_isUrgent
theorem dX2_countIn_0 : decode cX2_countIn 0 = .ok (.iconst 0, 1) := by decide +kernel
theorem dX2_countIn_1 : decode cX2_countIn 1 = .ok (.istore_n 3, 1) := by decide +kernel
theorem dX2_countIn_2 : decode cX2_countIn 2 = .ok (.iconst 0, 1) := by decide +kernel
theorem dX2_countIn_3 : decode cX2_countIn 3 = .ok (.istore 4, 2) := by decide +kernel
theorem dX2_countIn_5 : decode cX2_countIn 5 = .ok (.iload 4, 2) := by decide +kernel
theorem dX2_countIn_7 : decode cX2_countIn 7 = .ok (.aload_n 0, 1) := by decide +kernel
theorem dX2_countIn_8 : decode cX2_countIn 8 = .ok (.getfield 40, 3) := by decide +kernel
theorem dX2_countIn_11 : decode cX2_countIn 11 = .ok (.getfield 99, 3) := by decide +kernel
theorem dX2_countIn_14 : decode cX2_countIn 14 = .ok (.if_icmp .ge 33, 3) := by decide +kernel
theorem dX2_countIn_17 : decode cX2_countIn 17 = .ok (.aload_n 0, 1) := by decide +kernel
theorem dX2_countIn_18 : decode cX2_countIn 18 = .ok (.getfield 9, 3) := by decide +kernel
theorem dX2_countIn_21 : decode cX2_countIn 21 = .ok (.iload 4, 2) := by decide +kernel
theorem dX2_countIn_23 : decode cX2_countIn 23 = .ok (.iaload, 1) := by decide +kernel
theorem dX2_countIn_24 : decode cX2_countIn 24 = .ok (.iload_n 1, 1) := by decide +kernel
theorem dX2_countIn_25 : decode cX2_countIn 25 = .ok (.if_icmp .ne 16, 3) := by decide +kernel
theorem dX2_countIn_28 : decode cX2_countIn 28 = .ok (.aload_n 0, 1) := by decide +kernel
theorem dX2_countIn_29 : decode cX2_countIn 29 = .ok (.iload 4, 2) := by decide +kernel
theorem dX2_countIn_31 : decode cX2_countIn 31 = .ok (.invokevirtual 167, 3) := by decide +kernel
theorem dX2_countIn_34 : decode cX2_countIn 34 = .ok (.iload_n 2, 1) := by decide +kernel
theorem dX2_countIn_35 : decode cX2_countIn 35 = .ok (.if_icmp .ne 6, 3) := by decide +kernel
theorem dX2_countIn_38 : decode cX2_countIn 38 = .ok (.iinc 3 1, 3) := by decide +kernel
theorem dX2_countIn_41 : decode cX2_countIn 41 = .ok (.iinc 4 1, 3) := by decide +kernel
theorem dX2_countIn_44 : decode cX2_countIn 44 = .ok (.goto (-39), 3) := by decide +kernel
theorem dX2_countIn_47 : decode cX2_countIn 47 = .ok (.iload_n 3, 1) := by decide +kernel
theorem dX2_countIn_48 : decode cX2_countIn 48 = .ok (.ireturn, 1) := by decide +kernel
set_option maxRecDepth 20000 in
theorem ggX2_pullCard_X0_sizeIn : GoodIn wsX2_pullCard wsX0_sizeIn := goodIn_r _ [10, 11, 36, 37, 38, 39, 40, 41, 42, 43, 44] (by decide +kernel) (by decide +kernel)
set_option maxRecDepth 20000 in
theorem gX2_pullCard_X0_sizeIn : GoodIn wsX2_pullCard (wsV RX2 178 RX0 yX0_sizeIn wsX0_sizeIn) := goodIn_app (goodIn_of _ (by decide +kernel)) ggX2_pullCard_X0_sizeIn
set_option maxRecDepth 20000 in
theorem ggX2_pullCard_X2_noteLastPulled : GoodIn wsX2_pullCard wsX2_noteLastPulled := goodIn_r _ [16, 17, 18, 19, 20, 21, 22, 23, 24, 25, 26, 27, 28, 29, 30, 31, 32, 33, 34, 35] (by decide +kernel) (by decide +kernel)
set_option maxRecDepth 20000 in
theorem gX2_pullCard_X2_noteLastPulled : GoodIn wsX2_pullCard (wsV RX2 182 RX2 yX2_noteLastPulled wsX2_noteLastPulled) := goodIn_app (goodIn_of _ (by decide +kernel)) ggX2_pullCard_X2_noteLastPulled
theorem dX2_pullCard_0 : decode cX2_pullCard 0 = .ok (.aload_n 0, 1) := by decide +kernel
theorem dX2_pullCard_1 : decode cX2_pullCard 1 = .ok (.getfield 9, 3) := by decide +kernel
theorem dX2_pullCard_4 : decode cX2_pullCard 4 = .ok (.iload_n 1, 1) := by decide +kernel
theorem dX2_pullCard_5 : decode cX2_pullCard 5 = .ok (.iload_n 2, 1) := by decide +kernel
theorem dX2_pullCard_6 : decode cX2_pullCard 6 = .ok (.iastore, 1) := by decide +kernel
theorem dX2_pullCard_7 : decode cX2_pullCard 7 = .ok (.aload_n 0, 1) := by decide +kernel
theorem dX2_pullCard_8 : decode cX2_pullCard 8 = .ok (.getfield 15, 3) := by decide +kernel
theorem dX2_pullCard_11 : decode cX2_pullCard 11 = .ok (.iload_n 1, 1) := by decide +kernel
theorem dX2_pullCard_12 : decode cX2_pullCard 12 = .ok (.iconst (-1), 1) := by decide +kernel
theorem dX2_pullCard_13 : decode cX2_pullCard 13 = .ok (.iastore, 1) := by decide +kernel
theorem dX2_pullCard_14 : decode cX2_pullCard 14 = .ok (.aload_n 0, 1) := by decide +kernel
theorem dX2_pullCard_15 : decode cX2_pullCard 15 = .ok (.getfield 18, 3) := by decide +kernel
theorem dX2_pullCard_18 : decode cX2_pullCard 18 = .ok (.iload_n 1, 1) := by decide +kernel
theorem dX2_pullCard_19 : decode cX2_pullCard 19 = .ok (.aload_n 0, 1) := by decide +kernel
theorem dX2_pullCard_20 : decode cX2_pullCard 20 = .ok (.getfield 40, 3) := by decide +kernel
theorem dX2_pullCard_23 : decode cX2_pullCard 23 = .ok (.iload_n 1, 1) := by decide +kernel
theorem dX2_pullCard_24 : decode cX2_pullCard 24 = .ok (.iload_n 2, 1) := by decide +kernel
theorem dX2_pullCard_25 : decode cX2_pullCard 25 = .ok (.invokevirtual 178, 3) := by decide +kernel
theorem dX2_pullCard_28 : decode cX2_pullCard 28 = .ok (.iastore, 1) := by decide +kernel
theorem dX2_pullCard_29 : decode cX2_pullCard 29 = .ok (.aload_n 0, 1) := by decide +kernel
theorem dX2_pullCard_30 : decode cX2_pullCard 30 = .ok (.iload_n 1, 1) := by decide +kernel
theorem dX2_pullCard_31 : decode cX2_pullCard 31 = .ok (.invokevirtual 182, 3) := by decide +kernel
theorem dX2_pullCard_34 : decode cX2_pullCard 34 = .ok (.aload_n 0, 1) := by decide +kernel
theorem dX2_pullCard_35 : decode cX2_pullCard 35 = .ok (.iconst 1, 1) := by decide +kernel
theorem dX2_pullCard_36 : decode cX2_pullCard 36 = .ok (.putfield 158, 3) := by decide +kernel
theorem dX2_pullCard_39 : decode cX2_pullCard 39 = .ok (.return_, 1) := by decide +kernel
theorem dX2_noteLastPulled_0 : decode cX2_noteLastPulled 0 = .ok (.iconst 0, 1) := by decide +kernel
theorem dX2_noteLastPulled_1 : decode cX2_noteLastPulled 1 = .ok (.istore_n 2, 1) := by decide +kernel
theorem dX2_noteLastPulled_2 : decode cX2_noteLastPulled 2 = .ok (.iconst 0, 1) := by decide +kernel
theorem dX2_noteLastPulled_3 : decode cX2_noteLastPulled 3 = .ok (.istore_n 3, 1) := by decide +kernel
theorem dX2_noteLastPulled_4 : decode cX2_noteLastPulled 4 = .ok (.iload_n 3, 1) := by decide +kernel
theorem dX2_noteLastPulled_5 : decode cX2_noteLastPulled 5 = .ok (.aload_n 0, 1) := by decide +kernel
theorem dX2_noteLastPulled_6 : decode cX2_noteLastPulled 6 = .ok (.getfield 58, 3) := by decide +kernel
theorem dX2_noteLastPulled_9 : decode cX2_noteLastPulled 9 = .ok (.if_icmp .ge 34, 3) := by decide +kernel
theorem dX2_noteLastPulled_12 : decode cX2_noteLastPulled 12 = .ok (.aload_n 0, 1) := by decide +kernel
theorem dX2_noteLastPulled_13 : decode cX2_noteLastPulled 13 = .ok (.getfield 31, 3) := by decide +kernel
theorem dX2_noteLastPulled_16 : decode cX2_noteLastPulled 16 = .ok (.iload_n 3, 1) := by decide +kernel
theorem dX2_noteLastPulled_17 : decode cX2_noteLastPulled 17 = .ok (.iaload, 1) := by decide +kernel
theorem dX2_noteLastPulled_18 : decode cX2_noteLastPulled 18 = .ok (.iload_n 1, 1) := by decide +kernel
theorem dX2_noteLastPulled_19 : decode cX2_noteLastPulled 19 = .ok (.if_icmp .eq 18, 3) := by decide +kernel
theorem dX2_noteLastPulled_22 : decode cX2_noteLastPulled 22 = .ok (.aload_n 0, 1) := by decide +kernel
theorem dX2_noteLastPulled_23 : decode cX2_noteLastPulled 23 = .ok (.getfield 31, 3) := by decide +kernel
theorem dX2_noteLastPulled_26 : decode cX2_noteLastPulled 26 = .ok (.iload_n 2, 1) := by decide +kernel
theorem dX2_noteLastPulled_27 : decode cX2_noteLastPulled 27 = .ok (.aload_n 0, 1) := by decide +kernel
theorem dX2_noteLastPulled_28 : decode cX2_noteLastPulled 28 = .ok (.getfield 31, 3) := by decide +kernel
theorem dX2_noteLastPulled_31 : decode cX2_noteLastPulled 31 = .ok (.iload_n 3, 1) := by decide +kernel
theorem dX2_noteLastPulled_32 : decode cX2_noteLastPulled 32 = .ok (.iaload, 1) := by decide +kernel
theorem dX2_noteLastPulled_33 : decode cX2_noteLastPulled 33 = .ok (.iastore, 1) := by decide +kernel
theorem dX2_noteLastPulled_34 : decode cX2_noteLastPulled 34 = .ok (.iinc 2 1, 3) := by decide +kernel
theorem dX2_noteLastPulled_37 : decode cX2_noteLastPulled 37 = .ok (.iinc 3 1, 3) := by decide +kernel
theorem dX2_noteLastPulled_40 : decode cX2_noteLastPulled 40 = .ok (.goto (-36), 3) := by decide +kernel
theorem dX2_noteLastPulled_43 : decode cX2_noteLastPulled 43 = .ok (.iload_n 2, 1) := by decide +kernel
theorem dX2_noteLastPulled_44 : decode cX2_noteLastPulled 44 = .ok (.bipush 16, 2) := by decide +kernel
theorem dX2_noteLastPulled_46 : decode cX2_noteLastPulled 46 = .ok (.if_icmp .ge 17, 3) := by decide +kernel
theorem dX2_noteLastPulled_49 : decode cX2_noteLastPulled 49 = .ok (.aload_n 0, 1) := by decide +kernel
theorem dX2_noteLastPulled_50 : decode cX2_noteLastPulled 50 = .ok (.getfield 31, 3) := by decide +kernel
theorem dX2_noteLastPulled_53 : decode cX2_noteLastPulled 53 = .ok (.iload_n 2, 1) := by decide +kernel
theorem dX2_noteLastPulled_54 : decode cX2_noteLastPulled 54 = .ok (.iload_n 1, 1) := by decide +kernel
theorem dX2_noteLastPulled_55 : decode cX2_noteLastPulled 55 = .ok (.iastore, 1) := by decide +kernel
theorem dX2_noteLastPulled_56 : decode cX2_noteLastPulled 56 = .ok (.aload_n 0, 1) := by decide +kernel
theorem dX2_noteLastPulled_57 : decode cX2_noteLastPulled 57 = .ok (.iload_n 2, 1) := by decide +kernel
theorem dX2_noteLastPulled_58 : decode cX2_noteLastPulled 58 = .ok (.iconst 1, 1) := by decide +kernel
theorem dX2_noteLastPulled_59 : decode cX2_noteLastPulled 59 = .ok (.iadd, 1) := by decide +kernel
theorem dX2_noteLastPulled_60 : decode cX2_noteLastPulled 60 = .ok (.putfield 58, 3) := by decide +kernel
theorem dX2_noteLastPulled_63 : decode cX2_noteLastPulled 63 = .ok (.return_, 1) := by decide +kernel
set_option maxRecDepth 20000 in
theorem ggX2_workThose_X0_hasColumn : GoodIn wsX2_workThose wsX0_hasColumn := goodIn_r _ [10, 11, 60, 61, 62, 63, 64, 65, 66, 67, 68] (by decide +kernel) (by decide +kernel)
set_option maxRecDepth 20000 in
theorem gX2_workThose_X0_hasColumn : GoodIn wsX2_workThose (wsV RX2 186 RX0 yX0_hasColumn wsX0_hasColumn) := goodIn_app (goodIn_of _ (by decide +kernel)) ggX2_workThose_X0_hasColumn
set_option maxRecDepth 20000 in
theorem ggX2_workThose_X2_isUrgent : GoodIn wsX2_workThose wsX2_isUrgent := goodIn_r _ [16, 4, 17, 18, 43, 44, 45, 46, 47, 48, 49, 50, 51, 52, 53, 54, 55, 56, 57, 58, 59, 60, 61, 62, 63, 64, 65, 66, 67, 68] (by decide +kernel) (by decide +kernel)
set_option maxRecDepth 20000 in
theorem gX2_workThose_X2_isUrgent : GoodIn wsX2_workThose (wsV RX2 167 RX2 yX2_isUrgent wsX2_isUrgent) := goodIn_app (goodIn_of _ (by decide +kernel)) ggX2_workThose_X2_isUrgent
set_option maxRecDepth 20000 in
theorem ggX2_workThose_X2_workCard : GoodIn wsX2_workThose wsX2_workCard := goodIn_r _ [22, 23, 24, 25, 26, 27, 28, 29, 30, 31, 32, 33, 34, 35, 15, 36, 4, 37, 38, 5, 39, 40, 3, 41, 42, 43, 44, 45, 46, 47, 48, 49, 50, 51, 52, 53, 54, 55, 56, 57, 58, 59, 69, 70, 71, 72, 60, 61, 62, 63, 64, 65, 66, 67, 68] (by decide +kernel) (by decide +kernel)
set_option maxRecDepth 20000 in
theorem gX2_workThose_X2_workCard : GoodIn wsX2_workThose (wsV RX2 189 RX2 yX2_workCard wsX2_workCard) := goodIn_app (goodIn_of _ (by decide +kernel)) ggX2_workThose_X2_workCard
theorem dX2_workThose_0 : decode cX2_workThose 0 = .ok (.iconst 0, 1) := by decide +kernel
theorem dX2_workThose_1 : decode cX2_workThose 1 = .ok (.istore_n 2, 1) := by decide +kernel
theorem dX2_workThose_2 : decode cX2_workThose 2 = .ok (.iload_n 2, 1) := by decide +kernel
theorem dX2_workThose_3 : decode cX2_workThose 3 = .ok (.aload_n 0, 1) := by decide +kernel
theorem dX2_workThose_4 : decode cX2_workThose 4 = .ok (.getfield 58, 3) := by decide +kernel
theorem dX2_workThose_7 : decode cX2_workThose 7 = .ok (.if_icmp .ge 62, 3) := by decide +kernel
theorem dX2_workThose_10 : decode cX2_workThose 10 = .ok (.aload_n 0, 1) := by decide +kernel
theorem dX2_workThose_11 : decode cX2_workThose 11 = .ok (.getfield 31, 3) := by decide +kernel
theorem dX2_workThose_14 : decode cX2_workThose 14 = .ok (.iload_n 2, 1) := by decide +kernel
theorem dX2_workThose_15 : decode cX2_workThose 15 = .ok (.iaload, 1) := by decide +kernel
theorem dX2_workThose_16 : decode cX2_workThose 16 = .ok (.istore_n 3, 1) := by decide +kernel
theorem dX2_workThose_17 : decode cX2_workThose 17 = .ok (.aload_n 0, 1) := by decide +kernel
theorem dX2_workThose_18 : decode cX2_workThose 18 = .ok (.getfield 9, 3) := by decide +kernel
theorem dX2_workThose_21 : decode cX2_workThose 21 = .ok (.iload_n 3, 1) := by decide +kernel
theorem dX2_workThose_22 : decode cX2_workThose 22 = .ok (.iaload, 1) := by decide +kernel
theorem dX2_workThose_23 : decode cX2_workThose 23 = .ok (.istore 4, 2) := by decide +kernel
theorem dX2_workThose_25 : decode cX2_workThose 25 = .ok (.aload_n 0, 1) := by decide +kernel
theorem dX2_workThose_26 : decode cX2_workThose 26 = .ok (.getfield 40, 3) := by decide +kernel
theorem dX2_workThose_29 : decode cX2_workThose 29 = .ok (.iload 4, 2) := by decide +kernel
theorem dX2_workThose_31 : decode cX2_workThose 31 = .ok (.invokevirtual 186, 3) := by decide +kernel
theorem dX2_workThose_34 : decode cX2_workThose 34 = .ok (.ifCond .eq 29, 3) := by decide +kernel
theorem dX2_workThose_37 : decode cX2_workThose 37 = .ok (.aload_n 0, 1) := by decide +kernel
theorem dX2_workThose_38 : decode cX2_workThose 38 = .ok (.getfield 15, 3) := by decide +kernel
theorem dX2_workThose_41 : decode cX2_workThose 41 = .ok (.iload_n 3, 1) := by decide +kernel
theorem dX2_workThose_42 : decode cX2_workThose 42 = .ok (.iaload, 1) := by decide +kernel
theorem dX2_workThose_43 : decode cX2_workThose 43 = .ok (.iconst (-1), 1) := by decide +kernel
theorem dX2_workThose_44 : decode cX2_workThose 44 = .ok (.if_icmp .ne 19, 3) := by decide +kernel
theorem dX2_workThose_47 : decode cX2_workThose 47 = .ok (.aload_n 0, 1) := by decide +kernel
theorem dX2_workThose_48 : decode cX2_workThose 48 = .ok (.iload_n 3, 1) := by decide +kernel
theorem dX2_workThose_49 : decode cX2_workThose 49 = .ok (.invokevirtual 167, 3) := by decide +kernel
theorem dX2_workThose_52 : decode cX2_workThose 52 = .ok (.iload_n 1, 1) := by decide +kernel
theorem dX2_workThose_53 : decode cX2_workThose 53 = .ok (.if_icmp .ne 10, 3) := by decide +kernel
theorem dX2_workThose_56 : decode cX2_workThose 56 = .ok (.aload_n 0, 1) := by decide +kernel
theorem dX2_workThose_57 : decode cX2_workThose 57 = .ok (.iload_n 3, 1) := by decide +kernel
theorem dX2_workThose_58 : decode cX2_workThose 58 = .ok (.iload 4, 2) := by decide +kernel
theorem dX2_workThose_60 : decode cX2_workThose 60 = .ok (.invokevirtual 189, 3) := by decide +kernel
theorem dX2_workThose_63 : decode cX2_workThose 63 = .ok (.iinc 2 1, 3) := by decide +kernel
theorem dX2_workThose_66 : decode cX2_workThose 66 = .ok (.goto (-64), 3) := by decide +kernel
theorem dX2_workThose_69 : decode cX2_workThose 69 = .ok (.return_, 1) := by decide +kernel
set_option maxRecDepth 20000 in
theorem ggX2_workCard_X2_endColumn : GoodIn wsX2_workCard wsX2_endColumn := goodIn_r _ [15, 16, 17, 18, 19, 20, 21, 22, 23, 24, 25, 26, 27, 28, 29, 30, 31, 32, 33, 34, 35, 36, 37, 38, 39, 40, 41, 46, 47, 48, 49, 50, 51, 52, 53, 54] (by decide +kernel) (by decide +kernel)
set_option maxRecDepth 20000 in
theorem gX2_workCard_X2_endColumn : GoodIn wsX2_workCard (wsV RX2 200 RX2 yX2_endColumn wsX2_endColumn) := goodIn_app (goodIn_of _ (by decide +kernel)) ggX2_workCard_X2_endColumn
theorem dX2_workCard_0 : decode cX2_workCard 0 = .ok (.aload_n 0, 1) := by decide +kernel
theorem dX2_workCard_1 : decode cX2_workCard 1 = .ok (.getfield 18, 3) := by decide +kernel
theorem dX2_workCard_4 : decode cX2_workCard 4 = .ok (.iload_n 1, 1) := by decide +kernel
theorem dX2_workCard_5 : decode cX2_workCard 5 = .ok (.iaload, 1) := by decide +kernel
theorem dX2_workCard_6 : decode cX2_workCard 6 = .ok (.aload_n 0, 1) := by decide +kernel
theorem dX2_workCard_7 : decode cX2_workCard 7 = .ok (.getfield 34, 3) := by decide +kernel
theorem dX2_workCard_10 : decode cX2_workCard 10 = .ok (.iload_n 2, 1) := by decide +kernel
theorem dX2_workCard_11 : decode cX2_workCard 11 = .ok (.iaload, 1) := by decide +kernel
theorem dX2_workCard_12 : decode cX2_workCard 12 = .ok (.aload_n 0, 1) := by decide +kernel
theorem dX2_workCard_13 : decode cX2_workCard 13 = .ok (.getfield 44, 3) := by decide +kernel
theorem dX2_workCard_16 : decode cX2_workCard 16 = .ok (.getfield 192, 3) := by decide +kernel
theorem dX2_workCard_19 : decode cX2_workCard 19 = .ok (.invokestatic 195, 3) := by decide +kernel
theorem dX2_workCard_22 : decode cX2_workCard 22 = .ok (.invokestatic 195, 3) := by decide +kernel
theorem dX2_workCard_25 : decode cX2_workCard 25 = .ok (.istore_n 3, 1) := by decide +kernel
theorem dX2_workCard_26 : decode cX2_workCard 26 = .ok (.aload_n 0, 1) := by decide +kernel
theorem dX2_workCard_27 : decode cX2_workCard 27 = .ok (.getfield 18, 3) := by decide +kernel
theorem dX2_workCard_30 : decode cX2_workCard 30 = .ok (.iload_n 1, 1) := by decide +kernel
theorem dX2_workCard_31 : decode cX2_workCard 31 = .ok (.dup2, 1) := by decide +kernel
theorem dX2_workCard_32 : decode cX2_workCard 32 = .ok (.iaload, 1) := by decide +kernel
theorem dX2_workCard_33 : decode cX2_workCard 33 = .ok (.iload_n 3, 1) := by decide +kernel
theorem dX2_workCard_34 : decode cX2_workCard 34 = .ok (.isub, 1) := by decide +kernel
theorem dX2_workCard_35 : decode cX2_workCard 35 = .ok (.iastore, 1) := by decide +kernel
theorem dX2_workCard_36 : decode cX2_workCard 36 = .ok (.aload_n 0, 1) := by decide +kernel
theorem dX2_workCard_37 : decode cX2_workCard 37 = .ok (.getfield 34, 3) := by decide +kernel
theorem dX2_workCard_40 : decode cX2_workCard 40 = .ok (.iload_n 2, 1) := by decide +kernel
theorem dX2_workCard_41 : decode cX2_workCard 41 = .ok (.dup2, 1) := by decide +kernel
theorem dX2_workCard_42 : decode cX2_workCard 42 = .ok (.iaload, 1) := by decide +kernel
theorem dX2_workCard_43 : decode cX2_workCard 43 = .ok (.iload_n 3, 1) := by decide +kernel
theorem dX2_workCard_44 : decode cX2_workCard 44 = .ok (.isub, 1) := by decide +kernel
theorem dX2_workCard_45 : decode cX2_workCard 45 = .ok (.iastore, 1) := by decide +kernel
theorem dX2_workCard_46 : decode cX2_workCard 46 = .ok (.aload_n 0, 1) := by decide +kernel
theorem dX2_workCard_47 : decode cX2_workCard 47 = .ok (.getfield 18, 3) := by decide +kernel
theorem dX2_workCard_50 : decode cX2_workCard 50 = .ok (.iload_n 1, 1) := by decide +kernel
theorem dX2_workCard_51 : decode cX2_workCard 51 = .ok (.iaload, 1) := by decide +kernel
theorem dX2_workCard_52 : decode cX2_workCard 52 = .ok (.ifCond .ne 9, 3) := by decide +kernel
theorem dX2_workCard_55 : decode cX2_workCard 55 = .ok (.aload_n 0, 1) := by decide +kernel
theorem dX2_workCard_56 : decode cX2_workCard 56 = .ok (.iload_n 1, 1) := by decide +kernel
theorem dX2_workCard_57 : decode cX2_workCard 57 = .ok (.iload_n 2, 1) := by decide +kernel
theorem dX2_workCard_58 : decode cX2_workCard 58 = .ok (.invokevirtual 200, 3) := by decide +kernel
theorem dX2_workCard_61 : decode cX2_workCard 61 = .ok (.iload_n 3, 1) := by decide +kernel
theorem dX2_workCard_62 : decode cX2_workCard 62 = .ok (.ifCond .gt 12, 3) := by decide +kernel
theorem dX2_workCard_65 : decode cX2_workCard 65 = .ok (.aload_n 0, 1) := by decide +kernel
theorem dX2_workCard_66 : decode cX2_workCard 66 = .ok (.getfield 18, 3) := by decide +kernel
theorem dX2_workCard_69 : decode cX2_workCard 69 = .ok (.iload_n 1, 1) := by decide +kernel
theorem dX2_workCard_70 : decode cX2_workCard 70 = .ok (.iaload, 1) := by decide +kernel
theorem dX2_workCard_71 : decode cX2_workCard 71 = .ok (.ifCond .ne 15, 3) := by decide +kernel
theorem dX2_workCard_74 : decode cX2_workCard 74 = .ok (.aload_n 0, 1) := by decide +kernel
theorem dX2_workCard_75 : decode cX2_workCard 75 = .ok (.getfield 24, 3) := by decide +kernel
theorem dX2_workCard_78 : decode cX2_workCard 78 = .ok (.iload_n 1, 1) := by decide +kernel
theorem dX2_workCard_79 : decode cX2_workCard 79 = .ok (.iconst 1, 1) := by decide +kernel
theorem dX2_workCard_80 : decode cX2_workCard 80 = .ok (.bastore, 1) := by decide +kernel
theorem dX2_workCard_81 : decode cX2_workCard 81 = .ok (.aload_n 0, 1) := by decide +kernel
theorem dX2_workCard_82 : decode cX2_workCard 82 = .ok (.iconst 1, 1) := by decide +kernel
theorem dX2_workCard_83 : decode cX2_workCard 83 = .ok (.putfield 158, 3) := by decide +kernel
theorem dX2_workCard_86 : decode cX2_workCard 86 = .ok (.return_, 1) := by decide +kernel
theorem dX2_endColumn_0 : decode cX2_endColumn 0 = .ok (.iload_n 2, 1) := by decide +kernel
theorem dX2_endColumn_1 : decode cX2_endColumn 1 = .ok (.aload_n 0, 1) := by decide +kernel
theorem dX2_endColumn_2 : decode cX2_endColumn 2 = .ok (.getfield 40, 3) := by decide +kernel
theorem dX2_endColumn_5 : decode cX2_endColumn 5 = .ok (.getfield 203, 3) := by decide +kernel
theorem dX2_endColumn_8 : decode cX2_endColumn 8 = .ok (.iload_n 1, 1) := by decide +kernel
theorem dX2_endColumn_9 : decode cX2_endColumn 9 = .ok (.iaload, 1) := by decide +kernel
theorem dX2_endColumn_10 : decode cX2_endColumn 10 = .ok (.if_icmp .ne 37, 3) := by decide +kernel
theorem dX2_endColumn_13 : decode cX2_endColumn 13 = .ok (.aload_n 0, 1) := by decide +kernel
theorem dX2_endColumn_14 : decode cX2_endColumn 14 = .ok (.getfield 28, 3) := by decide +kernel
theorem dX2_endColumn_17 : decode cX2_endColumn 17 = .ok (.iload_n 1, 1) := by decide +kernel
theorem dX2_endColumn_18 : decode cX2_endColumn 18 = .ok (.baload, 1) := by decide +kernel
theorem dX2_endColumn_19 : decode cX2_endColumn 19 = .ok (.ifCond .ne 28, 3) := by decide +kernel
theorem dX2_endColumn_22 : decode cX2_endColumn 22 = .ok (.aload_n 0, 1) := by decide +kernel
theorem dX2_endColumn_23 : decode cX2_endColumn 23 = .ok (.getfield 28, 3) := by decide +kernel
theorem dX2_endColumn_26 : decode cX2_endColumn 26 = .ok (.iload_n 1, 1) := by decide +kernel
theorem dX2_endColumn_27 : decode cX2_endColumn 27 = .ok (.iconst 1, 1) := by decide +kernel
theorem dX2_endColumn_28 : decode cX2_endColumn 28 = .ok (.bastore, 1) := by decide +kernel
theorem dX2_endColumn_29 : decode cX2_endColumn 29 = .ok (.aload_n 0, 1) := by decide +kernel
theorem dX2_endColumn_30 : decode cX2_endColumn 30 = .ok (.getfield 15, 3) := by decide +kernel
theorem dX2_endColumn_33 : decode cX2_endColumn 33 = .ok (.iload_n 1, 1) := by decide +kernel
theorem dX2_endColumn_34 : decode cX2_endColumn 34 = .ok (.aload_n 0, 1) := by decide +kernel
theorem dX2_endColumn_35 : decode cX2_endColumn 35 = .ok (.getfield 40, 3) := by decide +kernel
theorem dX2_endColumn_38 : decode cX2_endColumn 38 = .ok (.getfield 206, 3) := by decide +kernel
theorem dX2_endColumn_41 : decode cX2_endColumn 41 = .ok (.iload_n 1, 1) := by decide +kernel
theorem dX2_endColumn_42 : decode cX2_endColumn 42 = .ok (.iaload, 1) := by decide +kernel
theorem dX2_endColumn_43 : decode cX2_endColumn 43 = .ok (.iastore, 1) := by decide +kernel
theorem dX2_endColumn_44 : decode cX2_endColumn 44 = .ok (.goto 46, 3) := by decide +kernel
theorem dX2_endColumn_47 : decode cX2_endColumn 47 = .ok (.iload_n 2, 1) := by decide +kernel
theorem dX2_endColumn_48 : decode cX2_endColumn 48 = .ok (.aload_n 0, 1) := by decide +kernel
theorem dX2_endColumn_49 : decode cX2_endColumn 49 = .ok (.getfield 40, 3) := by decide +kernel
theorem dX2_endColumn_52 : decode cX2_endColumn 52 = .ok (.getfield 130, 3) := by decide +kernel
theorem dX2_endColumn_55 : decode cX2_endColumn 55 = .ok (.iconst 1, 1) := by decide +kernel
theorem dX2_endColumn_56 : decode cX2_endColumn 56 = .ok (.isub, 1) := by decide +kernel
theorem dX2_endColumn_57 : decode cX2_endColumn 57 = .ok (.if_icmp .ne 24, 3) := by decide +kernel
theorem dX2_endColumn_60 : decode cX2_endColumn 60 = .ok (.aload_n 0, 1) := by decide +kernel
theorem dX2_endColumn_61 : decode cX2_endColumn 61 = .ok (.getfield 9, 3) := by decide +kernel
theorem dX2_endColumn_64 : decode cX2_endColumn 64 = .ok (.iload_n 1, 1) := by decide +kernel
theorem dX2_endColumn_65 : decode cX2_endColumn 65 = .ok (.bipush 10, 2) := by decide +kernel
theorem dX2_endColumn_67 : decode cX2_endColumn 67 = .ok (.iastore, 1) := by decide +kernel
theorem dX2_endColumn_68 : decode cX2_endColumn 68 = .ok (.aload_n 0, 1) := by decide +kernel
theorem dX2_endColumn_69 : decode cX2_endColumn 69 = .ok (.getfield 21, 3) := by decide +kernel
theorem dX2_endColumn_72 : decode cX2_endColumn 72 = .ok (.iload_n 1, 1) := by decide +kernel
theorem dX2_endColumn_73 : decode cX2_endColumn 73 = .ok (.aload_n 0, 1) := by decide +kernel
theorem dX2_endColumn_74 : decode cX2_endColumn 74 = .ok (.getfield 62, 3) := by decide +kernel
theorem dX2_endColumn_77 : decode cX2_endColumn 77 = .ok (.iastore, 1) := by decide +kernel
theorem dX2_endColumn_78 : decode cX2_endColumn 78 = .ok (.goto 12, 3) := by decide +kernel
theorem dX2_endColumn_81 : decode cX2_endColumn 81 = .ok (.aload_n 0, 1) := by decide +kernel
theorem dX2_endColumn_82 : decode cX2_endColumn 82 = .ok (.getfield 15, 3) := by decide +kernel
theorem dX2_endColumn_85 : decode cX2_endColumn 85 = .ok (.iload_n 1, 1) := by decide +kernel
theorem dX2_endColumn_86 : decode cX2_endColumn 86 = .ok (.iload_n 2, 1) := by decide +kernel
theorem dX2_endColumn_87 : decode cX2_endColumn 87 = .ok (.iconst 1, 1) := by decide +kernel
theorem dX2_endColumn_88 : decode cX2_endColumn 88 = .ok (.iadd, 1) := by decide +kernel
theorem dX2_endColumn_89 : decode cX2_endColumn 89 = .ok (.iastore, 1) := by decide +kernel
theorem dX2_endColumn_90 : decode cX2_endColumn 90 = .ok (.return_, 1) := by decide +kernel
set_option maxRecDepth 20000 in
theorem ggX2_countReasons_X2_reasonOf : GoodIn wsX2_countReasons wsX2_reasonOf := goodIn_r _ [8, 9, 10, 11, 12, 13, 7, 14, 15, 16, 17, 18, 19, 20, 21, 22, 23, 24, 25, 1, 26, 27, 28, 29, 30, 31, 32, 33, 34, 35, 36, 37, 38, 39, 40, 41, 42, 43, 44, 45, 46, 47, 48, 49, 50, 51, 52, 53, 54, 55, 56, 57, 58] (by decide +kernel) (by decide +kernel)
set_option maxRecDepth 20000 in
theorem gX2_countReasons_X2_reasonOf : GoodIn wsX2_countReasons (wsV RX2 209 RX2 yX2_reasonOf wsX2_reasonOf) := goodIn_app (goodIn_of _ (by decide +kernel)) ggX2_countReasons_X2_reasonOf
theorem dX2_countReasons_0 : decode cX2_countReasons 0 = .ok (.iconst 0, 1) := by decide +kernel
theorem dX2_countReasons_1 : decode cX2_countReasons 1 = .ok (.istore_n 1, 1) := by decide +kernel
theorem dX2_countReasons_2 : decode cX2_countReasons 2 = .ok (.iload_n 1, 1) := by decide +kernel
theorem dX2_countReasons_3 : decode cX2_countReasons 3 = .ok (.aload_n 0, 1) := by decide +kernel
theorem dX2_countReasons_4 : decode cX2_countReasons 4 = .ok (.getfield 40, 3) := by decide +kernel
theorem dX2_countReasons_7 : decode cX2_countReasons 7 = .ok (.getfield 99, 3) := by decide +kernel
theorem dX2_countReasons_10 : decode cX2_countReasons 10 = .ok (.if_icmp .ge 36, 3) := by decide +kernel
theorem dX2_countReasons_13 : decode cX2_countReasons 13 = .ok (.aload_n 0, 1) := by decide +kernel
theorem dX2_countReasons_14 : decode cX2_countReasons 14 = .ok (.iload_n 1, 1) := by decide +kernel
theorem dX2_countReasons_15 : decode cX2_countReasons 15 = .ok (.invokevirtual 209, 3) := by decide +kernel
theorem dX2_countReasons_18 : decode cX2_countReasons 18 = .ok (.istore_n 2, 1) := by decide +kernel
theorem dX2_countReasons_19 : decode cX2_countReasons 19 = .ok (.iload_n 2, 1) := by decide +kernel
theorem dX2_countReasons_20 : decode cX2_countReasons 20 = .ok (.iconst (-1), 1) := by decide +kernel
theorem dX2_countReasons_21 : decode cX2_countReasons 21 = .ok (.if_icmp .eq 19, 3) := by decide +kernel
theorem dX2_countReasons_24 : decode cX2_countReasons 24 = .ok (.aload_n 0, 1) := by decide +kernel
theorem dX2_countReasons_25 : decode cX2_countReasons 25 = .ok (.getfield 37, 3) := by decide +kernel
theorem dX2_countReasons_28 : decode cX2_countReasons 28 = .ok (.iload_n 1, 1) := by decide +kernel
theorem dX2_countReasons_29 : decode cX2_countReasons 29 = .ok (.iconst 4, 1) := by decide +kernel
theorem dX2_countReasons_30 : decode cX2_countReasons 30 = .ok (.imul, 1) := by decide +kernel
theorem dX2_countReasons_31 : decode cX2_countReasons 31 = .ok (.iload_n 2, 1) := by decide +kernel
theorem dX2_countReasons_32 : decode cX2_countReasons 32 = .ok (.iadd, 1) := by decide +kernel
theorem dX2_countReasons_33 : decode cX2_countReasons 33 = .ok (.iconst 1, 1) := by decide +kernel
theorem dX2_countReasons_34 : decode cX2_countReasons 34 = .ok (.isub, 1) := by decide +kernel
theorem dX2_countReasons_35 : decode cX2_countReasons 35 = .ok (.dup2, 1) := by decide +kernel
theorem dX2_countReasons_36 : decode cX2_countReasons 36 = .ok (.iaload, 1) := by decide +kernel
theorem dX2_countReasons_37 : decode cX2_countReasons 37 = .ok (.iconst 1, 1) := by decide +kernel
theorem dX2_countReasons_38 : decode cX2_countReasons 38 = .ok (.iadd, 1) := by decide +kernel
theorem dX2_countReasons_39 : decode cX2_countReasons 39 = .ok (.iastore, 1) := by decide +kernel
theorem dX2_countReasons_40 : decode cX2_countReasons 40 = .ok (.iinc 1 1, 3) := by decide +kernel
theorem dX2_countReasons_43 : decode cX2_countReasons 43 = .ok (.goto (-41), 3) := by decide +kernel
theorem dX2_countReasons_46 : decode cX2_countReasons 46 = .ok (.return_, 1) := by decide +kernel
set_option maxRecDepth 20000 in
theorem ggX3_init_X1_init : GoodIn wsX3_init wsX1_init := goodIn_r _ [17, 18, 2, 3, 8, 19, 20, 21, 46, 47, 48, 49] (by decide +kernel) (by decide +kernel)
set_option maxRecDepth 20000 in
theorem gX3_init_X1_init_n11 : GoodIn wsX3_init (wsX1_init) := ggX3_init_X1_init
set_option maxRecDepth 20000 in
theorem ggX3_init_X2_init : GoodIn wsX3_init wsX2_init := goodIn_r _ [24, 25, 2, 3, 8, 26, 27, 28, 29, 30, 31, 32, 33, 34, 35, 36, 37, 38, 57, 58, 59, 60, 61, 62, 63, 64, 65, 66, 67, 68, 69, 70, 71, 72, 73] (by decide +kernel) (by decide +kernel)
set_option maxRecDepth 20000 in
theorem gX3_init_X2_init : GoodIn wsX3_init (wsX2_init) := ggX3_init_X2_init
set_option maxRecDepth 20000 in
theorem ggX3_init_X3_forget : GoodIn wsX3_init wsX3_forget := goodIn_r _ [43, 44, 45, 50, 51, 52, 53, 54, 55, 56] (by decide +kernel) (by decide +kernel)
set_option maxRecDepth 20000 in
theorem gX3_init_X3_forget : GoodIn wsX3_init (wsV RX3 38 RX3 yX3_forget wsX3_forget) := goodIn_app (goodIn_of _ (by decide +kernel)) ggX3_init_X3_forget
theorem dX3_init_0 : decode cX3_init 0 = .ok (.aload_n 0, 1) := by decide +kernel
theorem dX3_init_1 : decode cX3_init 1 = .ok (.invokespecial 3, 3) := by decide +kernel
theorem dX3_init_4 : decode cX3_init 4 = .ok (.aload_n 0, 1) := by decide +kernel
theorem dX3_init_5 : decode cX3_init 5 = .ok (.new 9, 3) := by decide +kernel
theorem dX3_init_8 : decode cX3_init 8 = .ok (.dup, 1) := by decide +kernel
theorem dX3_init_9 : decode cX3_init 9 = .ok (.invokespecial 11, 3) := by decide +kernel
theorem dX3_init_12 : decode cX3_init 12 = .ok (.putfield 12, 3) := by decide +kernel
theorem dX3_init_15 : decode cX3_init 15 = .ok (.aload_n 0, 1) := by decide +kernel
theorem dX3_init_16 : decode cX3_init 16 = .ok (.iconst 4, 1) := by decide +kernel
theorem dX3_init_17 : decode cX3_init 17 = .ok (.newarray .int, 2) := by decide +kernel
theorem dX3_init_19 : decode cX3_init 19 = .ok (.putfield 18, 3) := by decide +kernel
theorem dX3_init_22 : decode cX3_init 22 = .ok (.aload_n 0, 1) := by decide +kernel
theorem dX3_init_23 : decode cX3_init 23 = .ok (.aload_n 1, 1) := by decide +kernel
theorem dX3_init_24 : decode cX3_init 24 = .ok (.putfield 22, 3) := by decide +kernel
theorem dX3_init_27 : decode cX3_init 27 = .ok (.aload_n 0, 1) := by decide +kernel
theorem dX3_init_28 : decode cX3_init 28 = .ok (.aload_n 2, 1) := by decide +kernel
theorem dX3_init_29 : decode cX3_init 29 = .ok (.putfield 26, 3) := by decide +kernel
theorem dX3_init_32 : decode cX3_init 32 = .ok (.aload_n 0, 1) := by decide +kernel
theorem dX3_init_33 : decode cX3_init 33 = .ok (.new 29, 3) := by decide +kernel
theorem dX3_init_36 : decode cX3_init 36 = .ok (.dup, 1) := by decide +kernel
theorem dX3_init_37 : decode cX3_init 37 = .ok (.aload_n 1, 1) := by decide +kernel
theorem dX3_init_38 : decode cX3_init 38 = .ok (.aload_n 0, 1) := by decide +kernel
theorem dX3_init_39 : decode cX3_init 39 = .ok (.getfield 12, 3) := by decide +kernel
theorem dX3_init_42 : decode cX3_init 42 = .ok (.iconst 0, 1) := by decide +kernel
theorem dX3_init_43 : decode cX3_init 43 = .ok (.invokespecial 31, 3) := by decide +kernel
theorem dX3_init_46 : decode cX3_init 46 = .ok (.putfield 34, 3) := by decide +kernel
theorem dX3_init_49 : decode cX3_init 49 = .ok (.aload_n 0, 1) := by decide +kernel
theorem dX3_init_50 : decode cX3_init 50 = .ok (.invokevirtual 38, 3) := by decide +kernel
theorem dX3_init_53 : decode cX3_init 53 = .ok (.return_, 1) := by decide +kernel
theorem dX3_forget_0 : decode cX3_forget 0 = .ok (.aload_n 0, 1) := by decide +kernel
theorem dX3_forget_1 : decode cX3_forget 1 = .ok (.iconst (-1), 1) := by decide +kernel
theorem dX3_forget_2 : decode cX3_forget 2 = .ok (.putfield 41, 3) := by decide +kernel
theorem dX3_forget_5 : decode cX3_forget 5 = .ok (.aload_n 0, 1) := by decide +kernel
theorem dX3_forget_6 : decode cX3_forget 6 = .ok (.iconst (-1), 1) := by decide +kernel
theorem dX3_forget_7 : decode cX3_forget 7 = .ok (.putfield 45, 3) := by decide +kernel
theorem dX3_forget_10 : decode cX3_forget 10 = .ok (.return_, 1) := by decide +kernel
set_option maxRecDepth 20000 in
theorem ggX3_findUpTo_X3_forget : GoodIn wsX3_findUpTo wsX3_forget := goodIn_r _ [16, 1, 6, 181, 182, 183, 184, 185, 186, 187] (by decide +kernel) (by decide +kernel)
set_option maxRecDepth 20000 in
theorem gX3_findUpTo_X3_forget : GoodIn wsX3_findUpTo (wsV RX3 38 RX3 yX3_forget wsX3_forget) := goodIn_app (goodIn_of _ (by decide +kernel)) ggX3_findUpTo_X3_forget
set_option maxRecDepth 20000 in
theorem ggX3_findUpTo_X1_setTo : GoodIn wsX3_findUpTo wsX1_setTo := goodIn_r _ [21, 22, 23, 24, 25, 26, 27, 20, 28, 188, 189, 190, 191] (by decide +kernel) (by decide +kernel)
set_option maxRecDepth 20000 in
theorem gX3_findUpTo_X1_setTo : GoodIn wsX3_findUpTo (wsV RX3 48 RX1 yX1_setTo wsX1_setTo) := goodIn_app (goodIn_of _ (by decide +kernel)) ggX3_findUpTo_X1_setTo
set_option maxRecDepth 20000 in
theorem ggX3_findUpTo_J7_fill_53178 : GoodIn wsX3_findUpTo wsJ7_fill_53178 := goodIn_r _ [32] (by decide +kernel) (by decide +kernel)
set_option maxRecDepth 20000 in
theorem gX3_findUpTo_J7_fill_53178 : GoodIn wsX3_findUpTo (va_wsS RX3 55 yJ7_fill_53178 wsJ7_fill_53178) := goodIn_app (goodIn_of _ (by decide +kernel)) ggX3_findUpTo_J7_fill_53178
set_option maxRecDepth 20000 in
theorem ggX3_findUpTo_X3_countOfTrials : GoodIn wsX3_findUpTo wsX3_countOfTrials := goodIn_r _ [36, 37, 38, 181, 182, 183, 184, 185, 186, 187, 192, 193, 194, 195, 196, 197, 198, 199, 200] (by decide +kernel) (by decide +kernel)
set_option maxRecDepth 20000 in
theorem gX3_findUpTo_X3_countOfTrials : GoodIn wsX3_findUpTo (wsV RX3 61 RX3 yX3_countOfTrials wsX3_countOfTrials) := goodIn_app (goodIn_of _ (by decide +kernel)) ggX3_findUpTo_X3_countOfTrials
set_option maxRecDepth 20000 in
theorem ggX3_findUpTo_X2_sumBelow : GoodIn wsX3_findUpTo wsX2_sumBelow := goodIn_r _ [43, 44, 45, 46, 47, 42, 48, 49, 50, 51, 52, 53, 54, 55, 56, 57, 58, 30, 31, 32, 59, 60, 61, 62, 63, 64, 65, 66, 67, 68, 69, 70, 9, 10, 11, 71, 72, 73, 74, 75, 76, 77, 78, 79, 80, 81, 82, 83, 84, 85, 86, 87, 88, 89, 90, 91, 92, 93, 94, 95, 96, 97, 98, 99, 100, 101, 102, 103, 104, 105, 106, 107, 108, 109, 110, 111, 112, 113, 114, 115, 116, 117, 118, 119, 120, 121, 122, 123, 124, 125, 126, 127, 128, 129, 130, 131, 132, 133, 134, 135, 136, 137, 138, 139, 140, 141, 142, 143, 144, 145, 146, 147, 148, 149, 150, 151, 152, 153, 154, 155, 156, 157, 158, 159, 160, 161, 162, 163, 164, 165, 166, 167, 168, 169, 170, 171, 172, 173, 174, 175, 176, 201, 202, 203, 204, 205, 206, 207, 208, 209, 210, 211, 212, 213, 214, 215, 216, 217, 192, 193, 194, 195, 196, 197, 198, 199, 200, 188, 189, 190, 191] (by decide +kernel) (by decide +kernel)
set_option maxRecDepth 20000 in
theorem gX3_findUpTo_X2_sumBelow : GoodIn wsX3_findUpTo (wsV RX3 65 RX2 yX2_sumBelow wsX2_sumBelow) := goodIn_app (goodIn_of _ (by decide +kernel)) ggX3_findUpTo_X2_sumBelow
set_option maxRecDepth 20000 in
theorem ggX3_findUpTo_X3_goToNextLimits : GoodIn wsX3_findUpTo wsX3_goToNextLimits := goodIn_r _ [180, 37, 38, 2, 4, 181, 182, 183, 184, 185, 186, 187, 192, 193, 194, 195, 196, 197, 198, 199, 200, 188, 189, 190, 191] (by decide +kernel) (by decide +kernel)
set_option maxRecDepth 20000 in
theorem gX3_findUpTo_X3_goToNextLimits : GoodIn wsX3_findUpTo (wsV RX3 74 RX3 yX3_goToNextLimits wsX3_goToNextLimits) := goodIn_app (goodIn_of _ (by decide +kernel)) ggX3_findUpTo_X3_goToNextLimits
theorem dX3_findUpTo_0 : decode cX3_findUpTo 0 = .ok (.aload_n 0, 1) := by decide +kernel
theorem dX3_findUpTo_1 : decode cX3_findUpTo 1 = .ok (.getfield 41, 3) := by decide +kernel
theorem dX3_findUpTo_4 : decode cX3_findUpTo 4 = .ok (.iload_n 1, 1) := by decide +kernel
theorem dX3_findUpTo_5 : decode cX3_findUpTo 5 = .ok (.if_icmp .ne 4, 3) := by decide +kernel
theorem dX3_findUpTo_8 : decode cX3_findUpTo 8 = .ok (.return_, 1) := by decide +kernel
theorem dX3_findUpTo_9 : decode cX3_findUpTo 9 = .ok (.aload_n 0, 1) := by decide +kernel
theorem dX3_findUpTo_10 : decode cX3_findUpTo 10 = .ok (.invokevirtual 38, 3) := by decide +kernel
theorem dX3_findUpTo_13 : decode cX3_findUpTo 13 = .ok (.aload_n 0, 1) := by decide +kernel
theorem dX3_findUpTo_14 : decode cX3_findUpTo 14 = .ok (.getfield 12, 3) := by decide +kernel
theorem dX3_findUpTo_17 : decode cX3_findUpTo 17 = .ok (.aload_n 0, 1) := by decide +kernel
theorem dX3_findUpTo_18 : decode cX3_findUpTo 18 = .ok (.getfield 26, 3) := by decide +kernel
theorem dX3_findUpTo_21 : decode cX3_findUpTo 21 = .ok (.aload_n 0, 1) := by decide +kernel
theorem dX3_findUpTo_22 : decode cX3_findUpTo 22 = .ok (.getfield 26, 3) := by decide +kernel
theorem dX3_findUpTo_25 : decode cX3_findUpTo 25 = .ok (.invokevirtual 48, 3) := by decide +kernel
theorem dX3_findUpTo_28 : decode cX3_findUpTo 28 = .ok (.aload_n 0, 1) := by decide +kernel
theorem dX3_findUpTo_29 : decode cX3_findUpTo 29 = .ok (.getfield 12, 3) := by decide +kernel
theorem dX3_findUpTo_32 : decode cX3_findUpTo 32 = .ok (.getfield 52, 3) := by decide +kernel
theorem dX3_findUpTo_35 : decode cX3_findUpTo 35 = .ok (.iconst 1, 1) := by decide +kernel
theorem dX3_findUpTo_36 : decode cX3_findUpTo 36 = .ok (.invokestatic 55, 3) := by decide +kernel
theorem dX3_findUpTo_39 : decode cX3_findUpTo 39 = .ok (.aload_n 0, 1) := by decide +kernel
theorem dX3_findUpTo_40 : decode cX3_findUpTo 40 = .ok (.iload_n 1, 1) := by decide +kernel
theorem dX3_findUpTo_41 : decode cX3_findUpTo 41 = .ok (.invokevirtual 61, 3) := by decide +kernel
theorem dX3_findUpTo_44 : decode cX3_findUpTo 44 = .ok (.istore_n 2, 1) := by decide +kernel
theorem dX3_findUpTo_45 : decode cX3_findUpTo 45 = .ok (.iconst 0, 1) := by decide +kernel
theorem dX3_findUpTo_46 : decode cX3_findUpTo 46 = .ok (.istore_n 3, 1) := by decide +kernel
theorem dX3_findUpTo_47 : decode cX3_findUpTo 47 = .ok (.iload_n 3, 1) := by decide +kernel
theorem dX3_findUpTo_48 : decode cX3_findUpTo 48 = .ok (.iload_n 2, 1) := by decide +kernel
theorem dX3_findUpTo_49 : decode cX3_findUpTo 49 = .ok (.if_icmp .ge 56, 3) := by decide +kernel
theorem dX3_findUpTo_52 : decode cX3_findUpTo 52 = .ok (.aload_n 0, 1) := by decide +kernel
theorem dX3_findUpTo_53 : decode cX3_findUpTo 53 = .ok (.getfield 34, 3) := by decide +kernel
theorem dX3_findUpTo_56 : decode cX3_findUpTo 56 = .ok (.aload_n 0, 1) := by decide +kernel
theorem dX3_findUpTo_57 : decode cX3_findUpTo 57 = .ok (.getfield 45, 3) := by decide +kernel
theorem dX3_findUpTo_60 : decode cX3_findUpTo 60 = .ok (.invokevirtual 65, 3) := by decide +kernel
theorem dX3_findUpTo_63 : decode cX3_findUpTo 63 = .ok (.istore 4, 2) := by decide +kernel
theorem dX3_findUpTo_65 : decode cX3_findUpTo 65 = .ok (.iload 4, 2) := by decide +kernel
theorem dX3_findUpTo_67 : decode cX3_findUpTo 67 = .ok (.iconst (-1), 1) := by decide +kernel
theorem dX3_findUpTo_68 : decode cX3_findUpTo 68 = .ok (.if_icmp .eq 26, 3) := by decide +kernel
theorem dX3_findUpTo_71 : decode cX3_findUpTo 71 = .ok (.aload_n 0, 1) := by decide +kernel
theorem dX3_findUpTo_72 : decode cX3_findUpTo 72 = .ok (.iload 4, 2) := by decide +kernel
theorem dX3_findUpTo_74 : decode cX3_findUpTo 74 = .ok (.putfield 45, 3) := by decide +kernel
theorem dX3_findUpTo_77 : decode cX3_findUpTo 77 = .ok (.aload_n 0, 1) := by decide +kernel
theorem dX3_findUpTo_78 : decode cX3_findUpTo 78 = .ok (.getfield 12, 3) := by decide +kernel
theorem dX3_findUpTo_81 : decode cX3_findUpTo 81 = .ok (.getfield 52, 3) := by decide +kernel
theorem dX3_findUpTo_84 : decode cX3_findUpTo 84 = .ok (.iconst 0, 1) := by decide +kernel
theorem dX3_findUpTo_85 : decode cX3_findUpTo 85 = .ok (.aload_n 0, 1) := by decide +kernel
theorem dX3_findUpTo_86 : decode cX3_findUpTo 86 = .ok (.getfield 18, 3) := by decide +kernel
theorem dX3_findUpTo_89 : decode cX3_findUpTo 89 = .ok (.iconst 0, 1) := by decide +kernel
theorem dX3_findUpTo_90 : decode cX3_findUpTo 90 = .ok (.iconst 4, 1) := by decide +kernel
theorem dX3_findUpTo_91 : decode cX3_findUpTo 91 = .ok (.invokestatic 68, 3) := by decide +kernel
theorem dX3_findUpTo_94 : decode cX3_findUpTo 94 = .ok (.aload_n 0, 1) := by decide +kernel
theorem dX3_findUpTo_95 : decode cX3_findUpTo 95 = .ok (.iload_n 1, 1) := by decide +kernel
theorem dX3_findUpTo_96 : decode cX3_findUpTo 96 = .ok (.invokevirtual 74, 3) := by decide +kernel
theorem dX3_findUpTo_99 : decode cX3_findUpTo 99 = .ok (.iinc 3 1, 3) := by decide +kernel
theorem dX3_findUpTo_102 : decode cX3_findUpTo 102 = .ok (.goto (-55), 3) := by decide +kernel
theorem dX3_findUpTo_105 : decode cX3_findUpTo 105 = .ok (.aload_n 0, 1) := by decide +kernel
theorem dX3_findUpTo_106 : decode cX3_findUpTo 106 = .ok (.iload_n 1, 1) := by decide +kernel
theorem dX3_findUpTo_107 : decode cX3_findUpTo 107 = .ok (.putfield 41, 3) := by decide +kernel
theorem dX3_findUpTo_110 : decode cX3_findUpTo 110 = .ok (.return_, 1) := by decide +kernel
theorem dX3_countOfTrials_0 : decode cX3_countOfTrials 0 = .ok (.iconst 1, 1) := by decide +kernel
theorem dX3_countOfTrials_1 : decode cX3_countOfTrials 1 = .ok (.istore_n 2, 1) := by decide +kernel
theorem dX3_countOfTrials_2 : decode cX3_countOfTrials 2 = .ok (.iconst 0, 1) := by decide +kernel
theorem dX3_countOfTrials_3 : decode cX3_countOfTrials 3 = .ok (.istore_n 3, 1) := by decide +kernel
theorem dX3_countOfTrials_4 : decode cX3_countOfTrials 4 = .ok (.iload_n 3, 1) := by decide +kernel
theorem dX3_countOfTrials_5 : decode cX3_countOfTrials 5 = .ok (.aload_n 0, 1) := by decide +kernel
theorem dX3_countOfTrials_6 : decode cX3_countOfTrials 6 = .ok (.getfield 22, 3) := by decide +kernel
theorem dX3_countOfTrials_9 : decode cX3_countOfTrials 9 = .ok (.getfield 78, 3) := by decide +kernel
theorem dX3_countOfTrials_12 : decode cX3_countOfTrials 12 = .ok (.if_icmp .ge 13, 3) := by decide +kernel
theorem dX3_countOfTrials_15 : decode cX3_countOfTrials 15 = .ok (.iload_n 2, 1) := by decide +kernel
theorem dX3_countOfTrials_16 : decode cX3_countOfTrials 16 = .ok (.iload_n 1, 1) := by decide +kernel
theorem dX3_countOfTrials_17 : decode cX3_countOfTrials 17 = .ok (.imul, 1) := by decide +kernel
theorem dX3_countOfTrials_18 : decode cX3_countOfTrials 18 = .ok (.istore_n 2, 1) := by decide +kernel
theorem dX3_countOfTrials_19 : decode cX3_countOfTrials 19 = .ok (.iinc 3 1, 3) := by decide +kernel
theorem dX3_countOfTrials_22 : decode cX3_countOfTrials 22 = .ok (.goto (-18), 3) := by decide +kernel
theorem dX3_countOfTrials_25 : decode cX3_countOfTrials 25 = .ok (.iload_n 2, 1) := by decide +kernel
theorem dX3_countOfTrials_26 : decode cX3_countOfTrials 26 = .ok (.ireturn, 1) := by decide +kernel
theorem dX3_goToNextLimits_0 : decode cX3_goToNextLimits 0 = .ok (.aload_n 0, 1) := by decide +kernel
theorem dX3_goToNextLimits_1 : decode cX3_goToNextLimits 1 = .ok (.getfield 22, 3) := by decide +kernel
theorem dX3_goToNextLimits_4 : decode cX3_goToNextLimits 4 = .ok (.getfield 78, 3) := by decide +kernel
theorem dX3_goToNextLimits_7 : decode cX3_goToNextLimits 7 = .ok (.iconst 1, 1) := by decide +kernel
theorem dX3_goToNextLimits_8 : decode cX3_goToNextLimits 8 = .ok (.isub, 1) := by decide +kernel
theorem dX3_goToNextLimits_9 : decode cX3_goToNextLimits 9 = .ok (.istore_n 2, 1) := by decide +kernel
theorem dX3_goToNextLimits_10 : decode cX3_goToNextLimits 10 = .ok (.iload_n 2, 1) := by decide +kernel
theorem dX3_goToNextLimits_11 : decode cX3_goToNextLimits 11 = .ok (.ifCond .lt 46, 3) := by decide +kernel
theorem dX3_goToNextLimits_14 : decode cX3_goToNextLimits 14 = .ok (.aload_n 0, 1) := by decide +kernel
theorem dX3_goToNextLimits_15 : decode cX3_goToNextLimits 15 = .ok (.getfield 12, 3) := by decide +kernel
theorem dX3_goToNextLimits_18 : decode cX3_goToNextLimits 18 = .ok (.getfield 52, 3) := by decide +kernel
theorem dX3_goToNextLimits_21 : decode cX3_goToNextLimits 21 = .ok (.iload_n 2, 1) := by decide +kernel
theorem dX3_goToNextLimits_22 : decode cX3_goToNextLimits 22 = .ok (.iaload, 1) := by decide +kernel
theorem dX3_goToNextLimits_23 : decode cX3_goToNextLimits 23 = .ok (.iload_n 1, 1) := by decide +kernel
theorem dX3_goToNextLimits_24 : decode cX3_goToNextLimits 24 = .ok (.if_icmp .ge 17, 3) := by decide +kernel
theorem dX3_goToNextLimits_27 : decode cX3_goToNextLimits 27 = .ok (.aload_n 0, 1) := by decide +kernel
theorem dX3_goToNextLimits_28 : decode cX3_goToNextLimits 28 = .ok (.getfield 12, 3) := by decide +kernel
theorem dX3_goToNextLimits_31 : decode cX3_goToNextLimits 31 = .ok (.getfield 52, 3) := by decide +kernel
theorem dX3_goToNextLimits_34 : decode cX3_goToNextLimits 34 = .ok (.iload_n 2, 1) := by decide +kernel
theorem dX3_goToNextLimits_35 : decode cX3_goToNextLimits 35 = .ok (.dup2, 1) := by decide +kernel
theorem dX3_goToNextLimits_36 : decode cX3_goToNextLimits 36 = .ok (.iaload, 1) := by decide +kernel
theorem dX3_goToNextLimits_37 : decode cX3_goToNextLimits 37 = .ok (.iconst 1, 1) := by decide +kernel
theorem dX3_goToNextLimits_38 : decode cX3_goToNextLimits 38 = .ok (.iadd, 1) := by decide +kernel
theorem dX3_goToNextLimits_39 : decode cX3_goToNextLimits 39 = .ok (.iastore, 1) := by decide +kernel
theorem dX3_goToNextLimits_40 : decode cX3_goToNextLimits 40 = .ok (.return_, 1) := by decide +kernel
theorem dX3_goToNextLimits_41 : decode cX3_goToNextLimits 41 = .ok (.aload_n 0, 1) := by decide +kernel
theorem dX3_goToNextLimits_42 : decode cX3_goToNextLimits 42 = .ok (.getfield 12, 3) := by decide +kernel
theorem dX3_goToNextLimits_45 : decode cX3_goToNextLimits 45 = .ok (.getfield 52, 3) := by decide +kernel
theorem dX3_goToNextLimits_48 : decode cX3_goToNextLimits 48 = .ok (.iload_n 2, 1) := by decide +kernel
theorem dX3_goToNextLimits_49 : decode cX3_goToNextLimits 49 = .ok (.iconst 1, 1) := by decide +kernel
theorem dX3_goToNextLimits_50 : decode cX3_goToNextLimits 50 = .ok (.iastore, 1) := by decide +kernel
theorem dX3_goToNextLimits_51 : decode cX3_goToNextLimits 51 = .ok (.iinc 2 (-1), 3) := by decide +kernel
theorem dX3_goToNextLimits_54 : decode cX3_goToNextLimits 54 = .ok (.goto (-44), 3) := by decide +kernel
theorem dX3_goToNextLimits_57 : decode cX3_goToNextLimits 57 = .ok (.return_, 1) := by decide +kernel
set_option maxRecDepth 20000 in
theorem ggX4_init_X0_init : GoodIn wsX4_init wsX0_init := goodIn_r _ [25, 26, 2, 3, 27, 28, 29, 30, 31, 32, 33, 34, 35, 120, 121, 122, 123, 124, 125, 126, 127, 128] (by decide +kernel) (by decide +kernel)
set_option maxRecDepth 20000 in
theorem gX4_init_X0_init_n9 : GoodIn wsX4_init (wsX0_init) := ggX4_init_X0_init
set_option maxRecDepth 20000 in
theorem ggX4_init_X1_init : GoodIn wsX4_init wsX1_init := goodIn_r _ [37, 38, 2, 3, 27, 39, 40, 41, 137, 138, 139, 140] (by decide +kernel) (by decide +kernel)
set_option maxRecDepth 20000 in
theorem gX4_init_X1_init_n18 : GoodIn wsX4_init (wsX1_init) := ggX4_init_X1_init
set_option maxRecDepth 20000 in
theorem ggX4_init_X2_init : GoodIn wsX4_init wsX2_init := goodIn_r _ [44, 45, 2, 3, 27, 46, 47, 48, 49, 29, 50, 51, 52, 53, 54, 55, 56, 57, 141, 142, 143, 144, 145, 146, 147, 148, 149, 150, 151, 152, 153, 154, 155, 156, 157] (by decide +kernel) (by decide +kernel)
set_option maxRecDepth 20000 in
theorem gX4_init_X2_init : GoodIn wsX4_init (wsX2_init) := ggX4_init_X2_init
set_option maxRecDepth 20000 in
theorem ggX4_init_X3_init : GoodIn wsX4_init wsX3_init := goodIn_r _ [60, 61, 2, 3, 62, 9, 10, 63, 27, 64, 65, 66, 67, 15, 16, 68, 36, 37, 38, 39, 40, 41, 69, 43, 44, 45, 46, 47, 48, 49, 29, 50, 51, 52, 53, 54, 55, 56, 57, 70, 71, 72, 22, 73, 74, 75, 137, 138, 139, 140, 158, 159, 160, 161, 162, 163, 164, 141, 142, 143, 144, 145, 146, 147, 148, 149, 150, 151, 152, 153, 154, 155, 156, 157] (by decide +kernel) (by decide +kernel)
set_option maxRecDepth 20000 in
theorem gX4_init_X3_init : GoodIn wsX4_init (wsX3_init) := ggX4_init_X3_init
set_option maxRecDepth 20000 in
theorem ggX4_init_X4_startAnew : GoodIn wsX4_init wsX4_startAnew := goodIn_r _ [80, 7, 11, 12, 81, 82, 83, 6, 84, 85, 86, 87, 88, 89, 10, 90, 91, 92, 93, 94, 95, 39, 40, 41, 96, 97, 98, 79, 99, 13, 17, 18, 19, 23, 100, 101, 102, 103, 104, 105, 106, 107, 108, 109, 16, 110, 46, 47, 48, 49, 54, 51, 111, 112, 113, 114, 115, 116, 117, 118, 119, 71, 72, 22, 73, 74, 75, 129, 130, 131, 132, 133, 134, 135, 136, 120, 121, 122, 123, 124, 125, 126, 127, 128, 137, 138, 139, 140, 141, 142, 143, 144, 145, 146, 147, 148, 149, 150, 151, 152, 153, 154, 155, 156, 157, 158, 159, 160, 161, 162, 163, 164] (by decide +kernel) (by decide +kernel)
set_option maxRecDepth 20000 in
theorem gX4_init_X4_startAnew : GoodIn wsX4_init (wsV RX4 53 RX4 yX4_startAnew wsX4_startAnew) := goodIn_app (goodIn_of _ (by decide +kernel)) ggX4_init_X4_startAnew
theorem dX4_init_0 : decode cX4_init 0 = .ok (.aload_n 0, 1) := by decide +kernel
theorem dX4_init_1 : decode cX4_init 1 = .ok (.invokespecial 1, 3) := by decide +kernel
theorem dX4_init_4 : decode cX4_init 4 = .ok (.aload_n 0, 1) := by decide +kernel
theorem dX4_init_5 : decode cX4_init 5 = .ok (.new 7, 3) := by decide +kernel
theorem dX4_init_8 : decode cX4_init 8 = .ok (.dup, 1) := by decide +kernel
theorem dX4_init_9 : decode cX4_init 9 = .ok (.invokespecial 9, 3) := by decide +kernel
theorem dX4_init_12 : decode cX4_init 12 = .ok (.putfield 10, 3) := by decide +kernel
theorem dX4_init_15 : decode cX4_init 15 = .ok (.aload_n 0, 1) := by decide +kernel
theorem dX4_init_16 : decode cX4_init 16 = .ok (.new 16, 3) := by decide +kernel
theorem dX4_init_19 : decode cX4_init 19 = .ok (.dup, 1) := by decide +kernel
theorem dX4_init_20 : decode cX4_init 20 = .ok (.invokespecial 18, 3) := by decide +kernel
theorem dX4_init_23 : decode cX4_init 23 = .ok (.putfield 19, 3) := by decide +kernel
theorem dX4_init_26 : decode cX4_init 26 = .ok (.aload_n 0, 1) := by decide +kernel
theorem dX4_init_27 : decode cX4_init 27 = .ok (.new 16, 3) := by decide +kernel
theorem dX4_init_30 : decode cX4_init 30 = .ok (.dup, 1) := by decide +kernel
theorem dX4_init_31 : decode cX4_init 31 = .ok (.invokespecial 18, 3) := by decide +kernel
theorem dX4_init_34 : decode cX4_init 34 = .ok (.putfield 23, 3) := by decide +kernel
theorem dX4_init_37 : decode cX4_init 37 = .ok (.aload_n 0, 1) := by decide +kernel
theorem dX4_init_38 : decode cX4_init 38 = .ok (.new 16, 3) := by decide +kernel
theorem dX4_init_41 : decode cX4_init 41 = .ok (.dup, 1) := by decide +kernel
theorem dX4_init_42 : decode cX4_init 42 = .ok (.invokespecial 18, 3) := by decide +kernel
theorem dX4_init_45 : decode cX4_init 45 = .ok (.putfield 26, 3) := by decide +kernel
theorem dX4_init_48 : decode cX4_init 48 = .ok (.aload_n 0, 1) := by decide +kernel
theorem dX4_init_49 : decode cX4_init 49 = .ok (.new 29, 3) := by decide +kernel
theorem dX4_init_52 : decode cX4_init 52 = .ok (.dup, 1) := by decide +kernel
theorem dX4_init_53 : decode cX4_init 53 = .ok (.aload_n 0, 1) := by decide +kernel
theorem dX4_init_54 : decode cX4_init 54 = .ok (.getfield 10, 3) := by decide +kernel
theorem dX4_init_57 : decode cX4_init 57 = .ok (.aload_n 0, 1) := by decide +kernel
theorem dX4_init_58 : decode cX4_init 58 = .ok (.getfield 19, 3) := by decide +kernel
theorem dX4_init_61 : decode cX4_init 61 = .ok (.iconst 0, 1) := by decide +kernel
theorem dX4_init_62 : decode cX4_init 62 = .ok (.invokespecial 31, 3) := by decide +kernel
theorem dX4_init_65 : decode cX4_init 65 = .ok (.putfield 34, 3) := by decide +kernel
theorem dX4_init_68 : decode cX4_init 68 = .ok (.aload_n 0, 1) := by decide +kernel
theorem dX4_init_69 : decode cX4_init 69 = .ok (.new 29, 3) := by decide +kernel
theorem dX4_init_72 : decode cX4_init 72 = .ok (.dup, 1) := by decide +kernel
theorem dX4_init_73 : decode cX4_init 73 = .ok (.aload_n 0, 1) := by decide +kernel
theorem dX4_init_74 : decode cX4_init 74 = .ok (.getfield 10, 3) := by decide +kernel
theorem dX4_init_77 : decode cX4_init 77 = .ok (.aload_n 0, 1) := by decide +kernel
theorem dX4_init_78 : decode cX4_init 78 = .ok (.getfield 26, 3) := by decide +kernel
theorem dX4_init_81 : decode cX4_init 81 = .ok (.iconst 0, 1) := by decide +kernel
theorem dX4_init_82 : decode cX4_init 82 = .ok (.invokespecial 31, 3) := by decide +kernel
theorem dX4_init_85 : decode cX4_init 85 = .ok (.putfield 38, 3) := by decide +kernel
theorem dX4_init_88 : decode cX4_init 88 = .ok (.aload_n 0, 1) := by decide +kernel
theorem dX4_init_89 : decode cX4_init 89 = .ok (.new 29, 3) := by decide +kernel
theorem dX4_init_92 : decode cX4_init 92 = .ok (.dup, 1) := by decide +kernel
theorem dX4_init_93 : decode cX4_init 93 = .ok (.aload_n 0, 1) := by decide +kernel
theorem dX4_init_94 : decode cX4_init 94 = .ok (.getfield 10, 3) := by decide +kernel
theorem dX4_init_97 : decode cX4_init 97 = .ok (.aload_n 0, 1) := by decide +kernel
theorem dX4_init_98 : decode cX4_init 98 = .ok (.getfield 19, 3) := by decide +kernel
theorem dX4_init_101 : decode cX4_init 101 = .ok (.iconst 1, 1) := by decide +kernel
theorem dX4_init_102 : decode cX4_init 102 = .ok (.invokespecial 31, 3) := by decide +kernel
theorem dX4_init_105 : decode cX4_init 105 = .ok (.putfield 41, 3) := by decide +kernel
theorem dX4_init_108 : decode cX4_init 108 = .ok (.aload_n 0, 1) := by decide +kernel
theorem dX4_init_109 : decode cX4_init 109 = .ok (.new 44, 3) := by decide +kernel
theorem dX4_init_112 : decode cX4_init 112 = .ok (.dup, 1) := by decide +kernel
theorem dX4_init_113 : decode cX4_init 113 = .ok (.aload_n 0, 1) := by decide +kernel
theorem dX4_init_114 : decode cX4_init 114 = .ok (.getfield 10, 3) := by decide +kernel
theorem dX4_init_117 : decode cX4_init 117 = .ok (.aload_n 0, 1) := by decide +kernel
theorem dX4_init_118 : decode cX4_init 118 = .ok (.getfield 19, 3) := by decide +kernel
theorem dX4_init_121 : decode cX4_init 121 = .ok (.invokespecial 46, 3) := by decide +kernel
theorem dX4_init_124 : decode cX4_init 124 = .ok (.putfield 49, 3) := by decide +kernel
theorem dX4_init_127 : decode cX4_init 127 = .ok (.aload_n 0, 1) := by decide +kernel
theorem dX4_init_128 : decode cX4_init 128 = .ok (.iconst 1, 1) := by decide +kernel
theorem dX4_init_129 : decode cX4_init 129 = .ok (.invokevirtual 53, 3) := by decide +kernel
theorem dX4_init_132 : decode cX4_init 132 = .ok (.return_, 1) := by decide +kernel
set_option maxRecDepth 20000 in
theorem ggX4_columns_X4_isWithin : GoodIn wsX4_columns wsX4_isWithin := goodIn_r _ [4] (by decide +kernel) (by decide +kernel)
set_option maxRecDepth 20000 in
theorem gX4_columns_X4_isWithin : GoodIn wsX4_columns (va_wsS RX4 57 yX4_isWithin wsX4_isWithin) := goodIn_app (goodIn_of _ (by decide +kernel)) ggX4_columns_X4_isWithin
set_option maxRecDepth 20000 in
theorem ggX4_columns_X4_startAnew : GoodIn wsX4_columns wsX4_startAnew := goodIn_r _ [8, 9, 10, 11, 12, 13, 14, 15, 16, 17, 18, 19, 20, 21, 22, 23, 24, 25, 26, 27, 28, 29, 30, 31, 32, 33, 34, 3, 35, 36, 37, 38, 39, 40, 41, 42, 43, 44, 45, 46, 47, 48, 49, 50, 51, 52, 53, 54, 55, 56, 57, 58, 59, 60, 61, 62, 63, 64, 65, 66, 67, 68, 69, 70, 71, 72, 73, 74, 75, 76, 77, 78, 79, 80, 81, 82, 83, 84, 85, 86, 87, 88, 89, 90, 91, 92, 93, 94, 95, 96, 97, 98, 99, 100, 101, 102, 103, 104, 105, 106, 107, 108, 109, 110, 111, 112, 113, 114, 115, 116, 117, 118] (by decide +kernel) (by decide +kernel)
set_option maxRecDepth 20000 in
theorem gX4_columns_X4_startAnew : GoodIn wsX4_columns (wsV RX4 53 RX4 yX4_startAnew wsX4_startAnew) := goodIn_app (goodIn_of _ (by decide +kernel)) ggX4_columns_X4_startAnew
theorem dX4_columns_0 : decode cX4_columns 0 = .ok (.iload_n 1, 1) := by decide +kernel
theorem dX4_columns_1 : decode cX4_columns 1 = .ok (.iconst 1, 1) := by decide +kernel
theorem dX4_columns_2 : decode cX4_columns 2 = .ok (.iconst 4, 1) := by decide +kernel
theorem dX4_columns_3 : decode cX4_columns 3 = .ok (.invokestatic 57, 3) := by decide +kernel
theorem dX4_columns_6 : decode cX4_columns 6 = .ok (.ifCond .ne 5, 3) := by decide +kernel
theorem dX4_columns_9 : decode cX4_columns 9 = .ok (.iconst 0, 1) := by decide +kernel
theorem dX4_columns_10 : decode cX4_columns 10 = .ok (.ireturn, 1) := by decide +kernel
theorem dX4_columns_11 : decode cX4_columns 11 = .ok (.aload_n 0, 1) := by decide +kernel
theorem dX4_columns_12 : decode cX4_columns 12 = .ok (.iload_n 1, 1) := by decide +kernel
theorem dX4_columns_13 : decode cX4_columns 13 = .ok (.invokevirtual 53, 3) := by decide +kernel
theorem dX4_columns_16 : decode cX4_columns 16 = .ok (.iconst 1, 1) := by decide +kernel
theorem dX4_columns_17 : decode cX4_columns 17 = .ok (.ireturn, 1) := by decide +kernel
set_option maxRecDepth 20000 in
theorem ggX4_column_X0_hasColumn : GoodIn wsX4_column wsX0_hasColumn := goodIn_r _ [8, 9, 73, 74, 75, 76, 77, 78, 79, 80, 81] (by decide +kernel) (by decide +kernel)
set_option maxRecDepth 20000 in
theorem gX4_column_X0_hasColumn : GoodIn wsX4_column (wsV RX4 61 RX0 yX0_hasColumn wsX0_hasColumn) := goodIn_app (goodIn_of _ (by decide +kernel)) ggX4_column_X0_hasColumn
set_option maxRecDepth 20000 in
theorem ggX4_column_X4_isWithin : GoodIn wsX4_column wsX4_isWithin := goodIn_r _ [13] (by decide +kernel) (by decide +kernel)
set_option maxRecDepth 20000 in
theorem gX4_column_X4_isWithin : GoodIn wsX4_column (va_wsS RX4 57 yX4_isWithin wsX4_isWithin) := goodIn_app (goodIn_of _ (by decide +kernel)) ggX4_column_X4_isWithin
set_option maxRecDepth 20000 in
theorem ggX4_column_X1_tellColumn : GoodIn wsX4_column wsX1_tellColumn := goodIn_r _ [18, 19, 20, 21, 82, 83, 84, 85] (by decide +kernel) (by decide +kernel)
set_option maxRecDepth 20000 in
theorem gX4_column_X1_tellColumn : GoodIn wsX4_column (wsV RX4 65 RX1 yX1_tellColumn wsX1_tellColumn) := goodIn_app (goodIn_of _ (by decide +kernel)) ggX4_column_X1_tellColumn
set_option maxRecDepth 20000 in
theorem ggX4_column_X4_forgetRuns : GoodIn wsX4_column wsX4_forgetRuns := goodIn_r _ [25, 26, 2, 3, 27, 28, 29, 30, 31, 32, 33, 17, 34, 19, 20, 21, 35, 36, 37, 38, 39, 40, 41, 42, 43, 44, 45, 46, 47, 48, 49, 50, 51, 52, 53, 54, 55, 56, 57, 58, 59, 60, 61, 62, 63, 64, 65, 66, 67, 68, 69, 70, 71, 72, 82, 83, 84, 85, 86, 87, 88, 89, 90, 91, 92, 93, 94, 95, 96, 97, 98, 99, 100, 101, 102, 103, 104, 105, 106, 107, 108, 109] (by decide +kernel) (by decide +kernel)
set_option maxRecDepth 20000 in
theorem gX4_column_X4_forgetRuns : GoodIn wsX4_column (wsV RX4 69 RX4 yX4_forgetRuns wsX4_forgetRuns) := goodIn_app (goodIn_of _ (by decide +kernel)) ggX4_column_X4_forgetRuns
theorem dX4_column_0 : decode cX4_column 0 = .ok (.aload_n 0, 1) := by decide +kernel
theorem dX4_column_1 : decode cX4_column 1 = .ok (.getfield 10, 3) := by decide +kernel
theorem dX4_column_4 : decode cX4_column 4 = .ok (.iload_n 1, 1) := by decide +kernel
theorem dX4_column_5 : decode cX4_column 5 = .ok (.invokevirtual 61, 3) := by decide +kernel
theorem dX4_column_8 : decode cX4_column 8 = .ok (.ifCond .eq 37, 3) := by decide +kernel
theorem dX4_column_11 : decode cX4_column 11 = .ok (.iload_n 2, 1) := by decide +kernel
theorem dX4_column_12 : decode cX4_column 12 = .ok (.iconst 0, 1) := by decide +kernel
theorem dX4_column_13 : decode cX4_column 13 = .ok (.bipush 20, 2) := by decide +kernel
theorem dX4_column_15 : decode cX4_column 15 = .ok (.invokestatic 57, 3) := by decide +kernel
theorem dX4_column_18 : decode cX4_column 18 = .ok (.ifCond .eq 27, 3) := by decide +kernel
theorem dX4_column_21 : decode cX4_column 21 = .ok (.iload_n 3, 1) := by decide +kernel
theorem dX4_column_22 : decode cX4_column 22 = .ok (.iconst 0, 1) := by decide +kernel
theorem dX4_column_23 : decode cX4_column 23 = .ok (.iconst 5, 1) := by decide +kernel
theorem dX4_column_24 : decode cX4_column 24 = .ok (.invokestatic 57, 3) := by decide +kernel
theorem dX4_column_27 : decode cX4_column 27 = .ok (.ifCond .eq 18, 3) := by decide +kernel
theorem dX4_column_30 : decode cX4_column 30 = .ok (.iload 4, 2) := by decide +kernel
theorem dX4_column_32 : decode cX4_column 32 = .ok (.iconst 0, 1) := by decide +kernel
theorem dX4_column_33 : decode cX4_column 33 = .ok (.bipush 20, 2) := by decide +kernel
theorem dX4_column_35 : decode cX4_column 35 = .ok (.invokestatic 57, 3) := by decide +kernel
theorem dX4_column_38 : decode cX4_column 38 = .ok (.ifCond .eq 7, 3) := by decide +kernel
theorem dX4_column_41 : decode cX4_column 41 = .ok (.iconst 1, 1) := by decide +kernel
theorem dX4_column_42 : decode cX4_column 42 = .ok (.goto 4, 3) := by decide +kernel
theorem dX4_column_45 : decode cX4_column 45 = .ok (.iconst 0, 1) := by decide +kernel
theorem dX4_column_46 : decode cX4_column 46 = .ok (.istore 5, 2) := by decide +kernel
theorem dX4_column_48 : decode cX4_column 48 = .ok (.iload 5, 2) := by decide +kernel
theorem dX4_column_50 : decode cX4_column 50 = .ok (.ifCond .ne 5, 3) := by decide +kernel
theorem dX4_column_53 : decode cX4_column 53 = .ok (.iconst 0, 1) := by decide +kernel
theorem dX4_column_54 : decode cX4_column 54 = .ok (.ireturn, 1) := by decide +kernel
theorem dX4_column_55 : decode cX4_column 55 = .ok (.aload_n 0, 1) := by decide +kernel
theorem dX4_column_56 : decode cX4_column 56 = .ok (.getfield 19, 3) := by decide +kernel
theorem dX4_column_59 : decode cX4_column 59 = .ok (.iload_n 1, 1) := by decide +kernel
theorem dX4_column_60 : decode cX4_column 60 = .ok (.iload_n 2, 1) := by decide +kernel
theorem dX4_column_61 : decode cX4_column 61 = .ok (.iload_n 3, 1) := by decide +kernel
theorem dX4_column_62 : decode cX4_column 62 = .ok (.iload 4, 2) := by decide +kernel
theorem dX4_column_64 : decode cX4_column 64 = .ok (.invokevirtual 65, 3) := by decide +kernel
theorem dX4_column_67 : decode cX4_column 67 = .ok (.aload_n 0, 1) := by decide +kernel
theorem dX4_column_68 : decode cX4_column 68 = .ok (.getfield 23, 3) := by decide +kernel
theorem dX4_column_71 : decode cX4_column 71 = .ok (.iload_n 1, 1) := by decide +kernel
theorem dX4_column_72 : decode cX4_column 72 = .ok (.iconst (-1), 1) := by decide +kernel
theorem dX4_column_73 : decode cX4_column 73 = .ok (.iconst (-1), 1) := by decide +kernel
theorem dX4_column_74 : decode cX4_column 74 = .ok (.iconst (-1), 1) := by decide +kernel
theorem dX4_column_75 : decode cX4_column 75 = .ok (.invokevirtual 65, 3) := by decide +kernel
theorem dX4_column_78 : decode cX4_column 78 = .ok (.aload_n 0, 1) := by decide +kernel
theorem dX4_column_79 : decode cX4_column 79 = .ok (.invokevirtual 69, 3) := by decide +kernel
theorem dX4_column_82 : decode cX4_column 82 = .ok (.iconst 1, 1) := by decide +kernel
theorem dX4_column_83 : decode cX4_column 83 = .ok (.ireturn, 1) := by decide +kernel
set_option maxRecDepth 20000 in
theorem ggX4_pace_X4_isWithin : GoodIn wsX4_pace wsX4_isWithin := goodIn_r _ [6] (by decide +kernel) (by decide +kernel)
set_option maxRecDepth 20000 in
theorem gX4_pace_X4_isWithin : GoodIn wsX4_pace (va_wsS RX4 57 yX4_isWithin wsX4_isWithin) := goodIn_app (goodIn_of _ (by decide +kernel)) ggX4_pace_X4_isWithin
set_option maxRecDepth 20000 in
theorem ggX4_pace_X4_forgetRuns : GoodIn wsX4_pace wsX4_forgetRuns := goodIn_r _ [10, 11, 1, 12, 13, 14, 15, 16, 17, 18, 19, 20, 21, 22, 23, 24, 25, 26, 27, 28, 29, 30, 31, 32, 33, 34, 35, 36, 37, 38, 39, 40, 41, 42, 43, 44, 45, 46, 47, 48, 49, 50, 51, 52, 53, 54, 55, 56, 57, 58, 59, 60, 61, 62, 63, 64, 65, 66, 67, 68, 69, 70, 71, 72, 73, 74, 75, 76, 77, 78, 79, 80, 81, 82, 83, 84, 85, 86, 87, 88, 89, 90] (by decide +kernel) (by decide +kernel)
set_option maxRecDepth 20000 in
theorem gX4_pace_X4_forgetRuns : GoodIn wsX4_pace (wsV RX4 69 RX4 yX4_forgetRuns wsX4_forgetRuns) := goodIn_app (goodIn_of _ (by decide +kernel)) ggX4_pace_X4_forgetRuns
theorem dX4_pace_0 : decode cX4_pace 0 = .ok (.iload_n 1, 1) := by decide +kernel
theorem dX4_pace_1 : decode cX4_pace 1 = .ok (.iconst 1, 1) := by decide +kernel
theorem dX4_pace_2 : decode cX4_pace 2 = .ok (.bipush 9, 2) := by decide +kernel
theorem dX4_pace_4 : decode cX4_pace 4 = .ok (.invokestatic 57, 3) := by decide +kernel
theorem dX4_pace_7 : decode cX4_pace 7 = .ok (.ifCond .ne 5, 3) := by decide +kernel
theorem dX4_pace_10 : decode cX4_pace 10 = .ok (.iconst 0, 1) := by decide +kernel
theorem dX4_pace_11 : decode cX4_pace 11 = .ok (.ireturn, 1) := by decide +kernel
theorem dX4_pace_12 : decode cX4_pace 12 = .ok (.aload_n 0, 1) := by decide +kernel
theorem dX4_pace_13 : decode cX4_pace 13 = .ok (.getfield 19, 3) := by decide +kernel
theorem dX4_pace_16 : decode cX4_pace 16 = .ok (.iload_n 1, 1) := by decide +kernel
theorem dX4_pace_17 : decode cX4_pace 17 = .ok (.putfield 72, 3) := by decide +kernel
theorem dX4_pace_20 : decode cX4_pace 20 = .ok (.aload_n 0, 1) := by decide +kernel
theorem dX4_pace_21 : decode cX4_pace 21 = .ok (.invokevirtual 69, 3) := by decide +kernel
theorem dX4_pace_24 : decode cX4_pace 24 = .ok (.iconst 1, 1) := by decide +kernel
theorem dX4_pace_25 : decode cX4_pace 25 = .ok (.ireturn, 1) := by decide +kernel
set_option maxRecDepth 20000 in
theorem ggX4_card_X4_isWithin : GoodIn wsX4_card wsX4_isWithin := goodIn_r _ [6] (by decide +kernel) (by decide +kernel)
set_option maxRecDepth 20000 in
theorem gX4_card_X4_isWithin : GoodIn wsX4_card (va_wsS RX4 57 yX4_isWithin wsX4_isWithin) := goodIn_app (goodIn_of _ (by decide +kernel)) ggX4_card_X4_isWithin
set_option maxRecDepth 20000 in
theorem ggX4_card_X0_addCard : GoodIn wsX4_card wsX0_addCard := goodIn_r _ [11, 12, 13, 14, 15, 16, 17, 18, 19, 20, 10, 21, 22, 23, 24, 25, 26, 27, 85, 86, 87, 88, 89, 90, 91, 92, 93] (by decide +kernel) (by decide +kernel)
set_option maxRecDepth 20000 in
theorem gX4_card_X0_addCard : GoodIn wsX4_card (wsV RX4 79 RX0 yX0_addCard wsX0_addCard) := goodIn_app (goodIn_of _ (by decide +kernel)) ggX4_card_X0_addCard
set_option maxRecDepth 20000 in
theorem ggX4_card_X4_forgetRuns : GoodIn wsX4_card wsX4_forgetRuns := goodIn_r _ [31, 32, 33, 34, 35, 36, 37, 38, 39, 40, 41, 42, 43, 44, 45, 46, 47, 48, 49, 50, 51, 52, 53, 54, 55, 56, 57, 58, 59, 60, 61, 62, 63, 64, 65, 66, 67, 68, 69, 70, 71, 72, 73, 74, 75, 76, 77, 78, 79, 80, 81, 82, 83, 84, 94, 95, 96, 97, 98, 99, 100, 101, 102, 103, 104, 105, 106, 107, 108, 109, 110, 111, 112, 113, 114, 115, 116, 117, 118, 119, 120, 121] (by decide +kernel) (by decide +kernel)
set_option maxRecDepth 20000 in
theorem gX4_card_X4_forgetRuns : GoodIn wsX4_card (wsV RX4 69 RX4 yX4_forgetRuns wsX4_forgetRuns) := goodIn_app (goodIn_of _ (by decide +kernel)) ggX4_card_X4_forgetRuns
theorem dX4_card_0 : decode cX4_card 0 = .ok (.iload_n 1, 1) := by decide +kernel
theorem dX4_card_1 : decode cX4_card 1 = .ok (.iconst 0, 1) := by decide +kernel
theorem dX4_card_2 : decode cX4_card 2 = .ok (.bipush 99, 2) := by decide +kernel
theorem dX4_card_4 : decode cX4_card 4 = .ok (.invokestatic 57, 3) := by decide +kernel
theorem dX4_card_7 : decode cX4_card 7 = .ok (.ifCond .eq 15, 3) := by decide +kernel
theorem dX4_card_10 : decode cX4_card 10 = .ok (.aload_n 0, 1) := by decide +kernel
theorem dX4_card_11 : decode cX4_card 11 = .ok (.getfield 10, 3) := by decide +kernel
theorem dX4_card_14 : decode cX4_card 14 = .ok (.getfield 76, 3) := by decide +kernel
theorem dX4_card_17 : decode cX4_card 17 = .ok (.bipush 16, 2) := by decide +kernel
theorem dX4_card_19 : decode cX4_card 19 = .ok (.if_icmp .lt 5, 3) := by decide +kernel
theorem dX4_card_22 : decode cX4_card 22 = .ok (.iconst (-1), 1) := by decide +kernel
theorem dX4_card_23 : decode cX4_card 23 = .ok (.ireturn, 1) := by decide +kernel
theorem dX4_card_24 : decode cX4_card 24 = .ok (.aload_n 0, 1) := by decide +kernel
theorem dX4_card_25 : decode cX4_card 25 = .ok (.getfield 10, 3) := by decide +kernel
theorem dX4_card_28 : decode cX4_card 28 = .ok (.iload_n 1, 1) := by decide +kernel
theorem dX4_card_29 : decode cX4_card 29 = .ok (.iload_n 2, 1) := by decide +kernel
theorem dX4_card_30 : decode cX4_card 30 = .ok (.invokevirtual 79, 3) := by decide +kernel
theorem dX4_card_33 : decode cX4_card 33 = .ok (.istore_n 3, 1) := by decide +kernel
theorem dX4_card_34 : decode cX4_card 34 = .ok (.aload_n 0, 1) := by decide +kernel
theorem dX4_card_35 : decode cX4_card 35 = .ok (.invokevirtual 69, 3) := by decide +kernel
theorem dX4_card_38 : decode cX4_card 38 = .ok (.iload_n 3, 1) := by decide +kernel
theorem dX4_card_39 : decode cX4_card 39 = .ok (.ireturn, 1) := by decide +kernel
set_option maxRecDepth 20000 in
theorem ggX4_size_X0_hasCard : GoodIn wsX4_size wsX0_hasCard := goodIn_r _ [6, 7, 79, 80, 81, 82, 83, 84, 85, 86, 87] (by decide +kernel) (by decide +kernel)
set_option maxRecDepth 20000 in
theorem gX4_size_X0_hasCard : GoodIn wsX4_size (wsV RX4 83 RX0 yX0_hasCard wsX0_hasCard) := goodIn_app (goodIn_of _ (by decide +kernel)) ggX4_size_X0_hasCard
set_option maxRecDepth 20000 in
theorem ggX4_size_X0_hasColumn : GoodIn wsX4_size wsX0_hasColumn := goodIn_r _ [11, 12, 79, 80, 81, 82, 83, 84, 85, 86, 87] (by decide +kernel) (by decide +kernel)
set_option maxRecDepth 20000 in
theorem gX4_size_X0_hasColumn : GoodIn wsX4_size (wsV RX4 61 RX0 yX0_hasColumn wsX0_hasColumn) := goodIn_app (goodIn_of _ (by decide +kernel)) ggX4_size_X0_hasColumn
set_option maxRecDepth 20000 in
theorem ggX4_size_X4_isWithin : GoodIn wsX4_size wsX4_isWithin := goodIn_r _ [16] (by decide +kernel) (by decide +kernel)
set_option maxRecDepth 20000 in
theorem gX4_size_X4_isWithin : GoodIn wsX4_size (va_wsS RX4 57 yX4_isWithin wsX4_isWithin) := goodIn_app (goodIn_of _ (by decide +kernel)) ggX4_size_X4_isWithin
set_option maxRecDepth 20000 in
theorem ggX4_size_X0_setSize : GoodIn wsX4_size wsX0_setSize := goodIn_r _ [20, 21, 79, 80, 81, 82, 83, 84, 85, 86, 87] (by decide +kernel) (by decide +kernel)
set_option maxRecDepth 20000 in
theorem gX4_size_X0_setSize : GoodIn wsX4_size (wsV RX4 86 RX0 yX0_setSize wsX0_setSize) := goodIn_app (goodIn_of _ (by decide +kernel)) ggX4_size_X0_setSize
set_option maxRecDepth 20000 in
theorem ggX4_size_X4_forgetRuns : GoodIn wsX4_size wsX4_forgetRuns := goodIn_r _ [25, 26, 27, 28, 29, 30, 31, 32, 33, 34, 35, 36, 37, 38, 39, 40, 41, 42, 43, 44, 45, 46, 47, 48, 49, 50, 51, 52, 53, 54, 55, 56, 57, 58, 59, 60, 61, 62, 63, 64, 65, 66, 67, 68, 69, 70, 71, 72, 73, 74, 75, 76, 77, 78, 88, 89, 90, 91, 92, 93, 94, 95, 96, 97, 98, 99, 100, 101, 102, 103, 104, 105, 106, 107, 108, 109, 110, 111, 112, 113, 114, 115] (by decide +kernel) (by decide +kernel)
set_option maxRecDepth 20000 in
theorem gX4_size_X4_forgetRuns : GoodIn wsX4_size (wsV RX4 69 RX4 yX4_forgetRuns wsX4_forgetRuns) := goodIn_app (goodIn_of _ (by decide +kernel)) ggX4_size_X4_forgetRuns
theorem dX4_size_0 : decode cX4_size 0 = .ok (.aload_n 0, 1) := by decide +kernel
theorem dX4_size_1 : decode cX4_size 1 = .ok (.getfield 10, 3) := by decide +kernel
theorem dX4_size_4 : decode cX4_size 4 = .ok (.iload_n 1, 1) := by decide +kernel
theorem dX4_size_5 : decode cX4_size 5 = .ok (.invokevirtual 83, 3) := by decide +kernel
theorem dX4_size_8 : decode cX4_size 8 = .ok (.ifCond .eq 24, 3) := by decide +kernel
theorem dX4_size_11 : decode cX4_size 11 = .ok (.aload_n 0, 1) := by decide +kernel
theorem dX4_size_12 : decode cX4_size 12 = .ok (.getfield 10, 3) := by decide +kernel
theorem dX4_size_15 : decode cX4_size 15 = .ok (.iload_n 2, 1) := by decide +kernel
theorem dX4_size_16 : decode cX4_size 16 = .ok (.invokevirtual 61, 3) := by decide +kernel
theorem dX4_size_19 : decode cX4_size 19 = .ok (.ifCond .eq 13, 3) := by decide +kernel
theorem dX4_size_22 : decode cX4_size 22 = .ok (.iload_n 3, 1) := by decide +kernel
theorem dX4_size_23 : decode cX4_size 23 = .ok (.iconst 0, 1) := by decide +kernel
theorem dX4_size_24 : decode cX4_size 24 = .ok (.bipush 9, 2) := by decide +kernel
theorem dX4_size_26 : decode cX4_size 26 = .ok (.invokestatic 57, 3) := by decide +kernel
theorem dX4_size_29 : decode cX4_size 29 = .ok (.ifCond .ne 5, 3) := by decide +kernel
theorem dX4_size_32 : decode cX4_size 32 = .ok (.iconst 0, 1) := by decide +kernel
theorem dX4_size_33 : decode cX4_size 33 = .ok (.ireturn, 1) := by decide +kernel
theorem dX4_size_34 : decode cX4_size 34 = .ok (.aload_n 0, 1) := by decide +kernel
theorem dX4_size_35 : decode cX4_size 35 = .ok (.getfield 10, 3) := by decide +kernel
theorem dX4_size_38 : decode cX4_size 38 = .ok (.iload_n 1, 1) := by decide +kernel
theorem dX4_size_39 : decode cX4_size 39 = .ok (.iload_n 2, 1) := by decide +kernel
theorem dX4_size_40 : decode cX4_size 40 = .ok (.iload_n 3, 1) := by decide +kernel
theorem dX4_size_41 : decode cX4_size 41 = .ok (.invokevirtual 86, 3) := by decide +kernel
theorem dX4_size_44 : decode cX4_size 44 = .ok (.aload_n 0, 1) := by decide +kernel
theorem dX4_size_45 : decode cX4_size 45 = .ok (.invokevirtual 69, 3) := by decide +kernel
theorem dX4_size_48 : decode cX4_size 48 = .ok (.iconst 1, 1) := by decide +kernel
theorem dX4_size_49 : decode cX4_size 49 = .ok (.ireturn, 1) := by decide +kernel
set_option maxRecDepth 20000 in
theorem ggX4_waits_X0_hasCard : GoodIn wsX4_waits wsX0_hasCard := goodIn_r _ [7, 8, 70, 71, 72, 73, 74, 75, 76, 77, 78] (by decide +kernel) (by decide +kernel)
set_option maxRecDepth 20000 in
theorem gX4_waits_X0_hasCard : GoodIn wsX4_waits (wsV RX4 83 RX0 yX0_hasCard wsX0_hasCard) := goodIn_app (goodIn_of _ (by decide +kernel)) ggX4_waits_X0_hasCard
set_option maxRecDepth 20000 in
theorem ggX4_waits_X4_isWithin : GoodIn wsX4_waits wsX4_isWithin := goodIn_r _ [12] (by decide +kernel) (by decide +kernel)
set_option maxRecDepth 20000 in
theorem gX4_waits_X4_isWithin : GoodIn wsX4_waits (va_wsS RX4 57 yX4_isWithin wsX4_isWithin) := goodIn_app (goodIn_of _ (by decide +kernel)) ggX4_waits_X4_isWithin
set_option maxRecDepth 20000 in
theorem ggX4_waits_X4_forgetRuns : GoodIn wsX4_waits wsX4_forgetRuns := goodIn_r _ [16, 17, 18, 19, 20, 21, 22, 23, 24, 25, 26, 27, 28, 29, 30, 31, 32, 33, 34, 35, 36, 37, 38, 39, 40, 41, 42, 43, 44, 45, 46, 47, 48, 49, 50, 51, 52, 53, 54, 55, 56, 57, 58, 59, 60, 61, 62, 63, 64, 65, 66, 67, 68, 69, 79, 80, 81, 82, 83, 84, 85, 86, 87, 88, 89, 90, 91, 92, 93, 94, 95, 96, 97, 98, 99, 100, 101, 102, 103, 104, 105, 106] (by decide +kernel) (by decide +kernel)
set_option maxRecDepth 20000 in
theorem gX4_waits_X4_forgetRuns : GoodIn wsX4_waits (wsV RX4 69 RX4 yX4_forgetRuns wsX4_forgetRuns) := goodIn_app (goodIn_of _ (by decide +kernel)) ggX4_waits_X4_forgetRuns
theorem dX4_waits_0 : decode cX4_waits 0 = .ok (.aload_n 0, 1) := by decide +kernel
theorem dX4_waits_1 : decode cX4_waits 1 = .ok (.getfield 10, 3) := by decide +kernel
theorem dX4_waits_4 : decode cX4_waits 4 = .ok (.iload_n 1, 1) := by decide +kernel
theorem dX4_waits_5 : decode cX4_waits 5 = .ok (.invokevirtual 83, 3) := by decide +kernel
theorem dX4_waits_8 : decode cX4_waits 8 = .ok (.ifCond .eq 14, 3) := by decide +kernel
theorem dX4_waits_11 : decode cX4_waits 11 = .ok (.iload_n 2, 1) := by decide +kernel
theorem dX4_waits_12 : decode cX4_waits 12 = .ok (.iconst (-1), 1) := by decide +kernel
theorem dX4_waits_13 : decode cX4_waits 13 = .ok (.iload_n 1, 1) := by decide +kernel
theorem dX4_waits_14 : decode cX4_waits 14 = .ok (.iconst 1, 1) := by decide +kernel
theorem dX4_waits_15 : decode cX4_waits 15 = .ok (.isub, 1) := by decide +kernel
theorem dX4_waits_16 : decode cX4_waits 16 = .ok (.invokestatic 57, 3) := by decide +kernel
theorem dX4_waits_19 : decode cX4_waits 19 = .ok (.ifCond .ne 5, 3) := by decide +kernel
theorem dX4_waits_22 : decode cX4_waits 22 = .ok (.iconst 0, 1) := by decide +kernel
theorem dX4_waits_23 : decode cX4_waits 23 = .ok (.ireturn, 1) := by decide +kernel
theorem dX4_waits_24 : decode cX4_waits 24 = .ok (.aload_n 0, 1) := by decide +kernel
theorem dX4_waits_25 : decode cX4_waits 25 = .ok (.getfield 10, 3) := by decide +kernel
theorem dX4_waits_28 : decode cX4_waits 28 = .ok (.getfield 90, 3) := by decide +kernel
theorem dX4_waits_31 : decode cX4_waits 31 = .ok (.iload_n 1, 1) := by decide +kernel
theorem dX4_waits_32 : decode cX4_waits 32 = .ok (.iload_n 2, 1) := by decide +kernel
theorem dX4_waits_33 : decode cX4_waits 33 = .ok (.iastore, 1) := by decide +kernel
theorem dX4_waits_34 : decode cX4_waits 34 = .ok (.aload_n 0, 1) := by decide +kernel
theorem dX4_waits_35 : decode cX4_waits 35 = .ok (.invokevirtual 69, 3) := by decide +kernel
theorem dX4_waits_38 : decode cX4_waits 38 = .ok (.iconst 1, 1) := by decide +kernel
theorem dX4_waits_39 : decode cX4_waits 39 = .ok (.ireturn, 1) := by decide +kernel
set_option maxRecDepth 20000 in
theorem ggX4_back_X0_hasCard : GoodIn wsX4_back wsX0_hasCard := goodIn_r _ [8, 9, 76, 77, 78, 79, 80, 81, 82, 83, 84] (by decide +kernel) (by decide +kernel)
set_option maxRecDepth 20000 in
theorem gX4_back_X0_hasCard : GoodIn wsX4_back (wsV RX4 83 RX0 yX0_hasCard wsX0_hasCard) := goodIn_app (goodIn_of _ (by decide +kernel)) ggX4_back_X0_hasCard
set_option maxRecDepth 20000 in
theorem ggX4_back_X0_hasColumn : GoodIn wsX4_back wsX0_hasColumn := goodIn_r _ [13, 14, 76, 77, 78, 79, 80, 81, 82, 83, 84] (by decide +kernel) (by decide +kernel)
set_option maxRecDepth 20000 in
theorem gX4_back_X0_hasColumn : GoodIn wsX4_back (wsV RX4 61 RX0 yX0_hasColumn wsX0_hasColumn) := goodIn_app (goodIn_of _ (by decide +kernel)) ggX4_back_X0_hasColumn
set_option maxRecDepth 20000 in
theorem ggX4_back_X4_isWithin : GoodIn wsX4_back wsX4_isWithin := goodIn_r _ [18] (by decide +kernel) (by decide +kernel)
set_option maxRecDepth 20000 in
theorem gX4_back_X4_isWithin : GoodIn wsX4_back (va_wsS RX4 57 yX4_isWithin wsX4_isWithin) := goodIn_app (goodIn_of _ (by decide +kernel)) ggX4_back_X4_isWithin
set_option maxRecDepth 20000 in
theorem ggX4_back_X4_forgetRuns : GoodIn wsX4_back wsX4_forgetRuns := goodIn_r _ [22, 23, 24, 25, 26, 27, 28, 29, 30, 31, 32, 33, 34, 35, 36, 37, 38, 39, 40, 41, 42, 43, 44, 45, 46, 47, 48, 49, 50, 51, 52, 53, 54, 55, 56, 57, 58, 59, 60, 61, 62, 63, 64, 65, 66, 67, 68, 69, 70, 71, 72, 73, 74, 75, 85, 86, 87, 88, 89, 90, 91, 92, 93, 94, 95, 96, 97, 98, 99, 100, 101, 102, 103, 104, 105, 106, 107, 108, 109, 110, 111, 112] (by decide +kernel) (by decide +kernel)
set_option maxRecDepth 20000 in
theorem gX4_back_X4_forgetRuns : GoodIn wsX4_back (wsV RX4 69 RX4 yX4_forgetRuns wsX4_forgetRuns) := goodIn_app (goodIn_of _ (by decide +kernel)) ggX4_back_X4_forgetRuns
theorem dX4_back_0 : decode cX4_back 0 = .ok (.aload_n 0, 1) := by decide +kernel
theorem dX4_back_1 : decode cX4_back 1 = .ok (.getfield 10, 3) := by decide +kernel
theorem dX4_back_4 : decode cX4_back 4 = .ok (.iload_n 1, 1) := by decide +kernel
theorem dX4_back_5 : decode cX4_back 5 = .ok (.invokevirtual 83, 3) := by decide +kernel
theorem dX4_back_8 : decode cX4_back 8 = .ok (.ifCond .ne 5, 3) := by decide +kernel
theorem dX4_back_11 : decode cX4_back 11 = .ok (.iconst 0, 1) := by decide +kernel
theorem dX4_back_12 : decode cX4_back 12 = .ok (.ireturn, 1) := by decide +kernel
theorem dX4_back_13 : decode cX4_back 13 = .ok (.iload_n 2, 1) := by decide +kernel
theorem dX4_back_14 : decode cX4_back 14 = .ok (.iconst (-1), 1) := by decide +kernel
theorem dX4_back_15 : decode cX4_back 15 = .ok (.if_icmp .eq 27, 3) := by decide +kernel
theorem dX4_back_18 : decode cX4_back 18 = .ok (.aload_n 0, 1) := by decide +kernel
theorem dX4_back_19 : decode cX4_back 19 = .ok (.getfield 10, 3) := by decide +kernel
theorem dX4_back_22 : decode cX4_back 22 = .ok (.iload_n 2, 1) := by decide +kernel
theorem dX4_back_23 : decode cX4_back 23 = .ok (.invokevirtual 61, 3) := by decide +kernel
theorem dX4_back_26 : decode cX4_back 26 = .ok (.ifCond .eq 14, 3) := by decide +kernel
theorem dX4_back_29 : decode cX4_back 29 = .ok (.iload_n 3, 1) := by decide +kernel
theorem dX4_back_30 : decode cX4_back 30 = .ok (.iconst 0, 1) := by decide +kernel
theorem dX4_back_31 : decode cX4_back 31 = .ok (.iload_n 2, 1) := by decide +kernel
theorem dX4_back_32 : decode cX4_back 32 = .ok (.iconst 1, 1) := by decide +kernel
theorem dX4_back_33 : decode cX4_back 33 = .ok (.isub, 1) := by decide +kernel
theorem dX4_back_34 : decode cX4_back 34 = .ok (.invokestatic 57, 3) := by decide +kernel
theorem dX4_back_37 : decode cX4_back 37 = .ok (.ifCond .ne 5, 3) := by decide +kernel
theorem dX4_back_40 : decode cX4_back 40 = .ok (.iconst 0, 1) := by decide +kernel
theorem dX4_back_41 : decode cX4_back 41 = .ok (.ireturn, 1) := by decide +kernel
theorem dX4_back_42 : decode cX4_back 42 = .ok (.aload_n 0, 1) := by decide +kernel
theorem dX4_back_43 : decode cX4_back 43 = .ok (.getfield 10, 3) := by decide +kernel
theorem dX4_back_46 : decode cX4_back 46 = .ok (.getfield 94, 3) := by decide +kernel
theorem dX4_back_49 : decode cX4_back 49 = .ok (.iload_n 1, 1) := by decide +kernel
theorem dX4_back_50 : decode cX4_back 50 = .ok (.iload_n 2, 1) := by decide +kernel
theorem dX4_back_51 : decode cX4_back 51 = .ok (.iastore, 1) := by decide +kernel
theorem dX4_back_52 : decode cX4_back 52 = .ok (.aload_n 0, 1) := by decide +kernel
theorem dX4_back_53 : decode cX4_back 53 = .ok (.getfield 10, 3) := by decide +kernel
theorem dX4_back_56 : decode cX4_back 56 = .ok (.getfield 97, 3) := by decide +kernel
theorem dX4_back_59 : decode cX4_back 59 = .ok (.iload_n 1, 1) := by decide +kernel
theorem dX4_back_60 : decode cX4_back 60 = .ok (.iload_n 2, 1) := by decide +kernel
theorem dX4_back_61 : decode cX4_back 61 = .ok (.iconst (-1), 1) := by decide +kernel
theorem dX4_back_62 : decode cX4_back 62 = .ok (.if_icmp .ne 7, 3) := by decide +kernel
theorem dX4_back_65 : decode cX4_back 65 = .ok (.iconst (-1), 1) := by decide +kernel
theorem dX4_back_66 : decode cX4_back 66 = .ok (.goto 4, 3) := by decide +kernel
theorem dX4_back_69 : decode cX4_back 69 = .ok (.iload_n 3, 1) := by decide +kernel
theorem dX4_back_70 : decode cX4_back 70 = .ok (.iastore, 1) := by decide +kernel
theorem dX4_back_71 : decode cX4_back 71 = .ok (.aload_n 0, 1) := by decide +kernel
theorem dX4_back_72 : decode cX4_back 72 = .ok (.invokevirtual 69, 3) := by decide +kernel
theorem dX4_back_75 : decode cX4_back 75 = .ok (.iconst 1, 1) := by decide +kernel
theorem dX4_back_76 : decode cX4_back 76 = .ok (.ireturn, 1) := by decide +kernel
set_option maxRecDepth 20000 in
theorem ggX4_other_X4_mayTellOther : GoodIn wsX4_other wsX4_mayTellOther := goodIn_r _ [10, 11, 12, 13, 14, 15, 16, 17, 18, 19, 9, 20, 69, 70, 71, 72, 73, 74, 75, 76, 81, 82, 83, 84, 85, 86, 87, 88, 89] (by decide +kernel) (by decide +kernel)
set_option maxRecDepth 20000 in
theorem gX4_other_X4_mayTellOther : GoodIn wsX4_other (wsV RX4 100 RX4 yX4_mayTellOther wsX4_mayTellOther) := goodIn_app (goodIn_of _ (by decide +kernel)) ggX4_other_X4_mayTellOther
set_option maxRecDepth 20000 in
theorem ggX4_other_X4_forgetRuns : GoodIn wsX4_other wsX4_forgetRuns := goodIn_r _ [24, 25, 26, 1, 27, 28, 29, 30, 31, 32, 33, 34, 35, 36, 37, 38, 39, 40, 41, 42, 43, 44, 45, 46, 47, 48, 49, 50, 51, 52, 53, 54, 55, 56, 57, 58, 59, 60, 61, 62, 63, 64, 65, 66, 67, 68, 69, 70, 71, 72, 73, 74, 75, 76, 77, 78, 79, 80, 90, 91, 92, 93, 94, 95, 96, 97, 98, 99, 100, 101, 102, 103, 104, 105, 106, 107, 108, 109, 110, 111, 112, 113] (by decide +kernel) (by decide +kernel)
set_option maxRecDepth 20000 in
theorem gX4_other_X4_forgetRuns : GoodIn wsX4_other (wsV RX4 69 RX4 yX4_forgetRuns wsX4_forgetRuns) := goodIn_app (goodIn_of _ (by decide +kernel)) ggX4_other_X4_forgetRuns
theorem dX4_other_0 : decode cX4_other 0 = .ok (.aload_n 0, 1) := by decide +kernel
theorem dX4_other_1 : decode cX4_other 1 = .ok (.iload_n 1, 1) := by decide +kernel
theorem dX4_other_2 : decode cX4_other 2 = .ok (.iload_n 2, 1) := by decide +kernel
theorem dX4_other_3 : decode cX4_other 3 = .ok (.iload_n 3, 1) := by decide +kernel
theorem dX4_other_4 : decode cX4_other 4 = .ok (.invokevirtual 100, 3) := by decide +kernel
theorem dX4_other_7 : decode cX4_other 7 = .ok (.ifCond .ne 5, 3) := by decide +kernel
theorem dX4_other_10 : decode cX4_other 10 = .ok (.iconst 0, 1) := by decide +kernel
theorem dX4_other_11 : decode cX4_other 11 = .ok (.ireturn, 1) := by decide +kernel
theorem dX4_other_12 : decode cX4_other 12 = .ok (.iload_n 1, 1) := by decide +kernel
theorem dX4_other_13 : decode cX4_other 13 = .ok (.tableswitch 66 0 2 #[27, 40, 53], 27) := by decide +kernel
theorem dX4_other_40 : decode cX4_other 40 = .ok (.aload_n 0, 1) := by decide +kernel
theorem dX4_other_41 : decode cX4_other 41 = .ok (.getfield 23, 3) := by decide +kernel
theorem dX4_other_44 : decode cX4_other 44 = .ok (.getfield 103, 3) := by decide +kernel
theorem dX4_other_47 : decode cX4_other 47 = .ok (.iload_n 2, 1) := by decide +kernel
theorem dX4_other_48 : decode cX4_other 48 = .ok (.iload_n 3, 1) := by decide +kernel
theorem dX4_other_49 : decode cX4_other 49 = .ok (.iastore, 1) := by decide +kernel
theorem dX4_other_50 : decode cX4_other 50 = .ok (.goto 37, 3) := by decide +kernel
theorem dX4_other_53 : decode cX4_other 53 = .ok (.aload_n 0, 1) := by decide +kernel
theorem dX4_other_54 : decode cX4_other 54 = .ok (.getfield 23, 3) := by decide +kernel
theorem dX4_other_57 : decode cX4_other 57 = .ok (.getfield 106, 3) := by decide +kernel
theorem dX4_other_60 : decode cX4_other 60 = .ok (.iload_n 2, 1) := by decide +kernel
theorem dX4_other_61 : decode cX4_other 61 = .ok (.iload_n 3, 1) := by decide +kernel
theorem dX4_other_62 : decode cX4_other 62 = .ok (.iastore, 1) := by decide +kernel
theorem dX4_other_63 : decode cX4_other 63 = .ok (.goto 24, 3) := by decide +kernel
theorem dX4_other_66 : decode cX4_other 66 = .ok (.aload_n 0, 1) := by decide +kernel
theorem dX4_other_67 : decode cX4_other 67 = .ok (.getfield 23, 3) := by decide +kernel
theorem dX4_other_70 : decode cX4_other 70 = .ok (.getfield 109, 3) := by decide +kernel
theorem dX4_other_73 : decode cX4_other 73 = .ok (.iload_n 2, 1) := by decide +kernel
theorem dX4_other_74 : decode cX4_other 74 = .ok (.iload_n 3, 1) := by decide +kernel
theorem dX4_other_75 : decode cX4_other 75 = .ok (.iastore, 1) := by decide +kernel
theorem dX4_other_76 : decode cX4_other 76 = .ok (.goto 11, 3) := by decide +kernel
theorem dX4_other_79 : decode cX4_other 79 = .ok (.aload_n 0, 1) := by decide +kernel
theorem dX4_other_80 : decode cX4_other 80 = .ok (.getfield 23, 3) := by decide +kernel
theorem dX4_other_83 : decode cX4_other 83 = .ok (.iload_n 3, 1) := by decide +kernel
theorem dX4_other_84 : decode cX4_other 84 = .ok (.putfield 72, 3) := by decide +kernel
theorem dX4_other_87 : decode cX4_other 87 = .ok (.aload_n 0, 1) := by decide +kernel
theorem dX4_other_88 : decode cX4_other 88 = .ok (.invokevirtual 69, 3) := by decide +kernel
theorem dX4_other_91 : decode cX4_other 91 = .ok (.iconst 1, 1) := by decide +kernel
theorem dX4_other_92 : decode cX4_other 92 = .ok (.ireturn, 1) := by decide +kernel
set_option maxRecDepth 20000 in
theorem ggX4_told_X0_hasCard : GoodIn wsX4_told wsX0_hasCard := goodIn_r _ [7, 8, 176, 177, 178, 179, 180, 181, 182, 183, 184] (by decide +kernel) (by decide +kernel)
set_option maxRecDepth 20000 in
theorem gX4_told_X0_hasCard : GoodIn wsX4_told (wsV RX4 83 RX0 yX0_hasCard wsX0_hasCard) := goodIn_app (goodIn_of _ (by decide +kernel)) ggX4_told_X0_hasCard
set_option maxRecDepth 20000 in
theorem ggX4_told_X4_chosenRun : GoodIn wsX4_told wsX4_chosenRun := goodIn_r _ [13, 14, 15, 151, 152, 153, 154, 155, 156, 157, 158] (by decide +kernel) (by decide +kernel)
set_option maxRecDepth 20000 in
theorem gX4_told_X4_chosenRun : GoodIn wsX4_told (wsV RX4 112 RX4 yX4_chosenRun wsX4_chosenRun) := goodIn_app (goodIn_of _ (by decide +kernel)) ggX4_told_X4_chosenRun
set_option maxRecDepth 20000 in
theorem ggX4_told_X2_showDay : GoodIn wsX4_told wsX2_showDay := goodIn_r _ [20, 21, 22, 23, 24, 25, 19, 26, 27, 28, 29, 30, 31, 32, 33, 34, 35, 36, 37, 38, 39, 40, 41, 42, 43, 44, 45, 46, 47, 48, 49, 50, 51, 52, 53, 54, 55, 56, 57, 58, 59, 60, 61, 62, 63, 64, 65, 66, 67, 68, 69, 70, 71, 72, 73, 74, 75, 76, 77, 78, 4, 5, 6, 7, 8, 79, 80, 81, 82, 83, 84, 85, 86, 87, 88, 89, 90, 91, 92, 93, 94, 95, 96, 97, 98, 99, 100, 101, 102, 103, 104, 105, 106, 107, 108, 109, 110, 111, 112, 113, 114, 115, 116, 117, 118, 119, 120, 121, 122, 123, 124, 125, 126, 127, 128, 129, 130, 131, 132, 133, 134, 135, 136, 137, 138, 139, 140, 141, 142, 159, 160, 161, 162, 163, 164, 165, 166, 167, 168, 169, 170, 171, 172, 173, 174, 175, 176, 177, 178, 179, 180, 181, 182, 183, 184, 185, 186, 187, 188] (by decide +kernel) (by decide +kernel)
set_option maxRecDepth 20000 in
theorem gX4_told_X2_showDay : GoodIn wsX4_told (wsV RX4 116 RX2 yX2_showDay wsX2_showDay) := goodIn_app (goodIn_of _ (by decide +kernel)) ggX4_told_X2_showDay
set_option maxRecDepth 20000 in
theorem ggX4_told_X2_ageOf : GoodIn wsX4_told wsX2_ageOf := goodIn_r _ [146, 30, 43, 61, 159, 160, 161, 162, 163, 164, 165, 166, 167, 168, 169, 170, 171, 172, 173, 174, 175, 176, 177, 178, 179, 180, 181, 182, 183, 184] (by decide +kernel) (by decide +kernel)
set_option maxRecDepth 20000 in
theorem gX4_told_X2_ageOf : GoodIn wsX4_told (wsV RX4 122 RX2 yX2_ageOf wsX2_ageOf) := goodIn_app (goodIn_of _ (by decide +kernel)) ggX4_told_X2_ageOf
set_option maxRecDepth 20000 in
theorem ggX4_told_X2_daysBy : GoodIn wsX4_told wsX2_daysBy := goodIn_r _ [150, 31, 159, 160, 161, 162, 163, 164, 165, 166, 167, 168, 169, 170, 171, 172, 173, 174, 175] (by decide +kernel) (by decide +kernel)
set_option maxRecDepth 20000 in
theorem gX4_told_X2_daysBy : GoodIn wsX4_told (wsV RX4 126 RX2 yX2_daysBy wsX2_daysBy) := goodIn_app (goodIn_of _ (by decide +kernel)) ggX4_told_X2_daysBy
theorem dX4_told_0 : decode cX4_told 0 = .ok (.aload_n 0, 1) := by decide +kernel
theorem dX4_told_1 : decode cX4_told 1 = .ok (.getfield 10, 3) := by decide +kernel
theorem dX4_told_4 : decode cX4_told 4 = .ok (.iload_n 1, 1) := by decide +kernel
theorem dX4_told_5 : decode cX4_told 5 = .ok (.invokevirtual 83, 3) := by decide +kernel
theorem dX4_told_8 : decode cX4_told 8 = .ok (.ifCond .ne 5, 3) := by decide +kernel
theorem dX4_told_11 : decode cX4_told 11 = .ok (.iconst (-1), 1) := by decide +kernel
theorem dX4_told_12 : decode cX4_told 12 = .ok (.ireturn, 1) := by decide +kernel
theorem dX4_told_13 : decode cX4_told 13 = .ok (.aload_n 0, 1) := by decide +kernel
theorem dX4_told_14 : decode cX4_told 14 = .ok (.iload_n 3, 1) := by decide +kernel
theorem dX4_told_15 : decode cX4_told 15 = .ok (.invokevirtual 112, 3) := by decide +kernel
theorem dX4_told_18 : decode cX4_told 18 = .ok (.astore 4, 2) := by decide +kernel
theorem dX4_told_20 : decode cX4_told 20 = .ok (.aload 4, 2) := by decide +kernel
theorem dX4_told_22 : decode cX4_told 22 = .ok (.sipush 3000, 3) := by decide +kernel
theorem dX4_told_25 : decode cX4_told 25 = .ok (.invokevirtual 116, 3) := by decide +kernel
theorem dX4_told_28 : decode cX4_told 28 = .ok (.iload_n 2, 1) := by decide +kernel
theorem dX4_told_29 : decode cX4_told 29 = .ok (.tableswitch 64 0 5 #[39, 47, 54, 54, 54, 54], 39) := by decide +kernel
theorem dX4_told_68 : decode cX4_told 68 = .ok (.aload 4, 2) := by decide +kernel
theorem dX4_told_70 : decode cX4_told 70 = .ok (.getfield 119, 3) := by decide +kernel
theorem dX4_told_73 : decode cX4_told 73 = .ok (.iload_n 1, 1) := by decide +kernel
theorem dX4_told_74 : decode cX4_told 74 = .ok (.iaload, 1) := by decide +kernel
theorem dX4_told_75 : decode cX4_told 75 = .ok (.ireturn, 1) := by decide +kernel
theorem dX4_told_76 : decode cX4_told 76 = .ok (.aload 4, 2) := by decide +kernel
theorem dX4_told_78 : decode cX4_told 78 = .ok (.iload_n 1, 1) := by decide +kernel
theorem dX4_told_79 : decode cX4_told 79 = .ok (.invokevirtual 122, 3) := by decide +kernel
theorem dX4_told_82 : decode cX4_told 82 = .ok (.ireturn, 1) := by decide +kernel
theorem dX4_told_83 : decode cX4_told 83 = .ok (.aload 4, 2) := by decide +kernel
theorem dX4_told_85 : decode cX4_told 85 = .ok (.iload_n 1, 1) := by decide +kernel
theorem dX4_told_86 : decode cX4_told 86 = .ok (.iload_n 2, 1) := by decide +kernel
theorem dX4_told_87 : decode cX4_told 87 = .ok (.iconst 1, 1) := by decide +kernel
theorem dX4_told_88 : decode cX4_told 88 = .ok (.isub, 1) := by decide +kernel
theorem dX4_told_89 : decode cX4_told 89 = .ok (.invokevirtual 126, 3) := by decide +kernel
theorem dX4_told_92 : decode cX4_told 92 = .ok (.ireturn, 1) := by decide +kernel
theorem dX4_told_93 : decode cX4_told 93 = .ok (.iconst (-1), 1) := by decide +kernel
theorem dX4_told_94 : decode cX4_told 94 = .ok (.ireturn, 1) := by decide +kernel
set_option maxRecDepth 20000 in
theorem ggX4_at_X0_hasCard : GoodIn wsX4_at wsX0_hasCard := goodIn_r _ [7, 8, 171, 172, 173, 174, 175, 176, 177, 178, 179] (by decide +kernel) (by decide +kernel)
set_option maxRecDepth 20000 in
theorem gX4_at_X0_hasCard : GoodIn wsX4_at (wsV RX4 83 RX0 yX0_hasCard wsX0_hasCard) := goodIn_app (goodIn_of _ (by decide +kernel)) ggX4_at_X0_hasCard
set_option maxRecDepth 20000 in
theorem ggX4_at_X4_isWithin : GoodIn wsX4_at wsX4_isWithin := goodIn_r _ [12] (by decide +kernel) (by decide +kernel)
set_option maxRecDepth 20000 in
theorem gX4_at_X4_isWithin : GoodIn wsX4_at (va_wsS RX4 57 yX4_isWithin wsX4_isWithin) := goodIn_app (goodIn_of _ (by decide +kernel)) ggX4_at_X4_isWithin
set_option maxRecDepth 20000 in
theorem ggX4_at_X4_chosenRun : GoodIn wsX4_at wsX4_chosenRun := goodIn_r _ [16, 17, 18, 146, 147, 148, 149, 150, 151, 152, 153] (by decide +kernel) (by decide +kernel)
set_option maxRecDepth 20000 in
theorem gX4_at_X4_chosenRun : GoodIn wsX4_at (wsV RX4 112 RX4 yX4_chosenRun wsX4_chosenRun) := goodIn_app (goodIn_of _ (by decide +kernel)) ggX4_at_X4_chosenRun
set_option maxRecDepth 20000 in
theorem ggX4_at_X2_showDay : GoodIn wsX4_at wsX2_showDay := goodIn_r _ [23, 24, 25, 26, 27, 28, 22, 29, 30, 31, 32, 33, 34, 35, 36, 37, 38, 39, 40, 41, 42, 43, 44, 45, 46, 47, 48, 49, 50, 51, 52, 53, 54, 55, 56, 57, 58, 59, 60, 61, 62, 63, 64, 65, 66, 67, 68, 69, 70, 71, 72, 73, 74, 75, 76, 77, 78, 79, 80, 81, 4, 5, 6, 7, 8, 82, 83, 84, 85, 86, 87, 88, 89, 90, 91, 92, 93, 94, 95, 96, 97, 98, 99, 100, 101, 102, 103, 104, 105, 106, 107, 108, 109, 110, 111, 112, 113, 114, 115, 116, 117, 118, 119, 120, 121, 122, 123, 124, 125, 126, 127, 128, 129, 130, 131, 132, 133, 134, 135, 136, 137, 138, 139, 140, 141, 142, 143, 144, 145, 154, 155, 156, 157, 158, 159, 160, 161, 162, 163, 164, 165, 166, 167, 168, 169, 170, 171, 172, 173, 174, 175, 176, 177, 178, 179, 180, 181, 182, 183] (by decide +kernel) (by decide +kernel)
set_option maxRecDepth 20000 in
theorem gX4_at_X2_showDay : GoodIn wsX4_at (wsV RX4 116 RX2 yX2_showDay wsX2_showDay) := goodIn_app (goodIn_of _ (by decide +kernel)) ggX4_at_X2_showDay
theorem dX4_at_0 : decode cX4_at 0 = .ok (.aload_n 0, 1) := by decide +kernel
theorem dX4_at_1 : decode cX4_at 1 = .ok (.getfield 10, 3) := by decide +kernel
theorem dX4_at_4 : decode cX4_at 4 = .ok (.iload_n 1, 1) := by decide +kernel
theorem dX4_at_5 : decode cX4_at 5 = .ok (.invokevirtual 83, 3) := by decide +kernel
theorem dX4_at_8 : decode cX4_at 8 = .ok (.ifCond .eq 14, 3) := by decide +kernel
theorem dX4_at_11 : decode cX4_at 11 = .ok (.iload_n 2, 1) := by decide +kernel
theorem dX4_at_12 : decode cX4_at 12 = .ok (.iconst 0, 1) := by decide +kernel
theorem dX4_at_13 : decode cX4_at 13 = .ok (.sipush 3000, 3) := by decide +kernel
theorem dX4_at_16 : decode cX4_at 16 = .ok (.invokestatic 57, 3) := by decide +kernel
theorem dX4_at_19 : decode cX4_at 19 = .ok (.ifCond .ne 5, 3) := by decide +kernel
theorem dX4_at_22 : decode cX4_at 22 = .ok (.iconst (-1), 1) := by decide +kernel
theorem dX4_at_23 : decode cX4_at 23 = .ok (.ireturn, 1) := by decide +kernel
theorem dX4_at_24 : decode cX4_at 24 = .ok (.aload_n 0, 1) := by decide +kernel
theorem dX4_at_25 : decode cX4_at 25 = .ok (.iload_n 3, 1) := by decide +kernel
theorem dX4_at_26 : decode cX4_at 26 = .ok (.invokevirtual 112, 3) := by decide +kernel
theorem dX4_at_29 : decode cX4_at 29 = .ok (.astore 4, 2) := by decide +kernel
theorem dX4_at_31 : decode cX4_at 31 = .ok (.aload 4, 2) := by decide +kernel
theorem dX4_at_33 : decode cX4_at 33 = .ok (.iload_n 2, 1) := by decide +kernel
theorem dX4_at_34 : decode cX4_at 34 = .ok (.invokevirtual 116, 3) := by decide +kernel
theorem dX4_at_37 : decode cX4_at 37 = .ok (.aload 4, 2) := by decide +kernel
theorem dX4_at_39 : decode cX4_at 39 = .ok (.getfield 130, 3) := by decide +kernel
theorem dX4_at_42 : decode cX4_at 42 = .ok (.iload_n 1, 1) := by decide +kernel
theorem dX4_at_43 : decode cX4_at 43 = .ok (.iaload, 1) := by decide +kernel
theorem dX4_at_44 : decode cX4_at 44 = .ok (.ireturn, 1) := by decide +kernel
set_option maxRecDepth 20000 in
theorem ggX4_reason_X0_hasCard : GoodIn wsX4_reason wsX0_hasCard := goodIn_r _ [6, 7, 154, 155, 156, 157, 158, 159, 160, 161, 162] (by decide +kernel) (by decide +kernel)
set_option maxRecDepth 20000 in
theorem gX4_reason_X0_hasCard : GoodIn wsX4_reason (wsV RX4 83 RX0 yX0_hasCard wsX0_hasCard) := goodIn_app (goodIn_of _ (by decide +kernel)) ggX4_reason_X0_hasCard
set_option maxRecDepth 20000 in
theorem ggX4_reason_X4_isWithin : GoodIn wsX4_reason wsX4_isWithin := goodIn_r _ [11] (by decide +kernel) (by decide +kernel)
set_option maxRecDepth 20000 in
theorem gX4_reason_X4_isWithin : GoodIn wsX4_reason (va_wsS RX4 57 yX4_isWithin wsX4_isWithin) := goodIn_app (goodIn_of _ (by decide +kernel)) ggX4_reason_X4_isWithin
set_option maxRecDepth 20000 in
theorem ggX4_reason_X4_chosenRun : GoodIn wsX4_reason wsX4_chosenRun := goodIn_r _ [15, 16, 17, 146, 147, 148, 149, 150, 151, 152, 153] (by decide +kernel) (by decide +kernel)
set_option maxRecDepth 20000 in
theorem gX4_reason_X4_chosenRun : GoodIn wsX4_reason (wsV RX4 112 RX4 yX4_chosenRun wsX4_chosenRun) := goodIn_app (goodIn_of _ (by decide +kernel)) ggX4_reason_X4_chosenRun
set_option maxRecDepth 20000 in
theorem ggX4_reason_X2_showDay : GoodIn wsX4_reason wsX2_showDay := goodIn_r _ [22, 23, 24, 25, 26, 27, 21, 28, 29, 30, 31, 32, 33, 34, 35, 36, 37, 38, 39, 40, 41, 42, 43, 44, 45, 46, 47, 48, 49, 50, 51, 52, 53, 54, 55, 56, 57, 58, 59, 60, 61, 62, 63, 64, 65, 66, 67, 68, 69, 70, 71, 72, 73, 74, 75, 76, 77, 78, 79, 80, 3, 4, 5, 6, 7, 81, 82, 83, 84, 85, 86, 87, 88, 89, 90, 91, 92, 93, 94, 95, 96, 97, 98, 99, 100, 101, 102, 103, 104, 105, 106, 107, 108, 109, 110, 111, 112, 113, 114, 115, 116, 117, 118, 119, 120, 121, 122, 123, 124, 125, 126, 127, 128, 129, 130, 131, 132, 133, 134, 135, 136, 137, 138, 139, 140, 141, 142, 143, 144, 163, 164, 165, 166, 167, 168, 169, 170, 171, 172, 173, 174, 175, 176, 177, 178, 179, 154, 155, 156, 157, 158, 159, 160, 161, 162, 180, 181, 182, 183] (by decide +kernel) (by decide +kernel)
set_option maxRecDepth 20000 in
theorem gX4_reason_X2_showDay : GoodIn wsX4_reason (wsV RX4 116 RX2 yX2_showDay wsX2_showDay) := goodIn_app (goodIn_of _ (by decide +kernel)) ggX4_reason_X2_showDay
set_option maxRecDepth 20000 in
theorem ggX4_reason_X2_reasonOf : GoodIn wsX4_reason wsX2_reasonOf := goodIn_r _ [140, 62, 30, 141, 142, 143, 21, 144, 29, 81, 82, 83, 84, 32, 23, 75, 76, 77, 78, 45, 79, 80, 3, 4, 5, 6, 7, 163, 164, 165, 166, 167, 168, 169, 170, 171, 172, 173, 174, 175, 176, 177, 178, 179, 154, 155, 156, 157, 158, 159, 160, 161, 162] (by decide +kernel) (by decide +kernel)
set_option maxRecDepth 20000 in
theorem gX4_reason_X2_reasonOf : GoodIn wsX4_reason (wsV RX4 133 RX2 yX2_reasonOf wsX2_reasonOf) := goodIn_app (goodIn_of _ (by decide +kernel)) ggX4_reason_X2_reasonOf
theorem dX4_reason_0 : decode cX4_reason 0 = .ok (.aload_n 0, 1) := by decide +kernel
theorem dX4_reason_1 : decode cX4_reason 1 = .ok (.getfield 10, 3) := by decide +kernel
theorem dX4_reason_4 : decode cX4_reason 4 = .ok (.iload_n 1, 1) := by decide +kernel
theorem dX4_reason_5 : decode cX4_reason 5 = .ok (.invokevirtual 83, 3) := by decide +kernel
theorem dX4_reason_8 : decode cX4_reason 8 = .ok (.ifCond .eq 14, 3) := by decide +kernel
theorem dX4_reason_11 : decode cX4_reason 11 = .ok (.iload_n 2, 1) := by decide +kernel
theorem dX4_reason_12 : decode cX4_reason 12 = .ok (.iconst 0, 1) := by decide +kernel
theorem dX4_reason_13 : decode cX4_reason 13 = .ok (.sipush 3000, 3) := by decide +kernel
theorem dX4_reason_16 : decode cX4_reason 16 = .ok (.invokestatic 57, 3) := by decide +kernel
theorem dX4_reason_19 : decode cX4_reason 19 = .ok (.ifCond .ne 5, 3) := by decide +kernel
theorem dX4_reason_22 : decode cX4_reason 22 = .ok (.iconst (-1), 1) := by decide +kernel
theorem dX4_reason_23 : decode cX4_reason 23 = .ok (.ireturn, 1) := by decide +kernel
theorem dX4_reason_24 : decode cX4_reason 24 = .ok (.aload_n 0, 1) := by decide +kernel
theorem dX4_reason_25 : decode cX4_reason 25 = .ok (.iload_n 3, 1) := by decide +kernel
theorem dX4_reason_26 : decode cX4_reason 26 = .ok (.invokevirtual 112, 3) := by decide +kernel
theorem dX4_reason_29 : decode cX4_reason 29 = .ok (.astore 4, 2) := by decide +kernel
theorem dX4_reason_31 : decode cX4_reason 31 = .ok (.aload 4, 2) := by decide +kernel
theorem dX4_reason_33 : decode cX4_reason 33 = .ok (.iload_n 2, 1) := by decide +kernel
theorem dX4_reason_34 : decode cX4_reason 34 = .ok (.invokevirtual 116, 3) := by decide +kernel
theorem dX4_reason_37 : decode cX4_reason 37 = .ok (.aload 4, 2) := by decide +kernel
theorem dX4_reason_39 : decode cX4_reason 39 = .ok (.iload_n 1, 1) := by decide +kernel
theorem dX4_reason_40 : decode cX4_reason 40 = .ok (.invokevirtual 133, 3) := by decide +kernel
theorem dX4_reason_43 : decode cX4_reason 43 = .ok (.ireturn, 1) := by decide +kernel
set_option maxRecDepth 20000 in
theorem ggX4_counts_X4_isWithin : GoodIn wsX4_counts wsX4_isWithin := goodIn_r _ [5] (by decide +kernel) (by decide +kernel)
set_option maxRecDepth 20000 in
theorem gX4_counts_X4_isWithin : GoodIn wsX4_counts (va_wsS RX4 57 yX4_isWithin wsX4_isWithin) := goodIn_app (goodIn_of _ (by decide +kernel)) ggX4_counts_X4_isWithin
set_option maxRecDepth 20000 in
theorem ggX4_counts_X4_chosenRun : GoodIn wsX4_counts wsX4_chosenRun := goodIn_r _ [9, 10, 11, 158, 159, 160, 161, 162, 163, 164, 165] (by decide +kernel) (by decide +kernel)
set_option maxRecDepth 20000 in
theorem gX4_counts_X4_chosenRun : GoodIn wsX4_counts (wsV RX4 112 RX4 yX4_chosenRun wsX4_chosenRun) := goodIn_app (goodIn_of _ (by decide +kernel)) ggX4_counts_X4_chosenRun
set_option maxRecDepth 20000 in
theorem ggX4_counts_X2_showDay : GoodIn wsX4_counts wsX2_showDay := goodIn_r _ [16, 17, 18, 19, 20, 21, 15, 22, 23, 24, 25, 26, 27, 28, 29, 30, 31, 32, 33, 34, 35, 36, 37, 38, 39, 40, 41, 42, 43, 44, 45, 46, 47, 48, 49, 50, 51, 52, 53, 54, 55, 56, 57, 58, 59, 60, 61, 62, 63, 64, 65, 66, 67, 68, 69, 70, 71, 72, 73, 74, 75, 76, 77, 78, 79, 80, 81, 82, 83, 84, 85, 86, 87, 88, 89, 90, 91, 92, 93, 94, 95, 96, 97, 98, 99, 100, 101, 102, 103, 104, 105, 106, 107, 108, 109, 110, 111, 112, 113, 114, 115, 116, 117, 118, 119, 120, 121, 122, 123, 124, 125, 126, 127, 128, 129, 130, 131, 132, 133, 134, 135, 136, 137, 138, 139, 140, 141, 142, 143, 166, 167, 168, 169, 170, 171, 172, 173, 174, 175, 176, 177, 178, 179, 180, 181, 182, 183, 184, 185, 186, 187, 188, 189, 190, 191, 192, 193, 194, 195] (by decide +kernel) (by decide +kernel)
set_option maxRecDepth 20000 in
theorem gX4_counts_X2_showDay : GoodIn wsX4_counts (wsV RX4 116 RX2 yX2_showDay wsX2_showDay) := goodIn_app (goodIn_of _ (by decide +kernel)) ggX4_counts_X2_showDay
set_option maxRecDepth 20000 in
theorem ggX4_counts_X2_countCome : GoodIn wsX4_counts wsX2_countCome := goodIn_r _ [147, 39, 55, 148, 149, 150, 15, 151, 23, 166, 167, 168, 169, 170, 171, 172, 173, 174, 175, 176, 177, 178, 179, 180, 181, 182, 183, 184, 185, 186, 187, 188, 189, 190, 191] (by decide +kernel) (by decide +kernel)
set_option maxRecDepth 20000 in
theorem gX4_counts_X2_countCome : GoodIn wsX4_counts (wsV RX4 136 RX2 yX2_countCome wsX2_countCome) := goodIn_app (goodIn_of _ (by decide +kernel)) ggX4_counts_X2_countCome
set_option maxRecDepth 20000 in
theorem ggX4_counts_X2_countAt : GoodIn wsX4_counts wsX2_countAt := goodIn_r _ [151, 39, 55, 23, 166, 167, 168, 169, 170, 171, 172, 173, 174, 175, 176, 177, 178, 179, 180, 181, 182, 183, 184, 185, 186, 187, 188, 189, 190, 191] (by decide +kernel) (by decide +kernel)
set_option maxRecDepth 20000 in
theorem gX4_counts_X2_countAt : GoodIn wsX4_counts (wsV RX4 140 RX2 yX2_countAt wsX2_countAt) := goodIn_app (goodIn_of _ (by decide +kernel)) ggX4_counts_X2_countAt
set_option maxRecDepth 20000 in
theorem ggX4_counts_X2_countThereOnDay : GoodIn wsX4_counts wsX2_countThereOnDay := goodIn_r _ [156, 39, 55, 140, 141, 142, 15, 143, 23, 80, 81, 82, 83, 26, 17, 166, 167, 168, 169, 170, 171, 172, 173, 174, 175, 176, 177, 178, 179, 180, 181, 182, 183, 184, 185, 186, 187, 188, 189, 190, 191] (by decide +kernel) (by decide +kernel)
set_option maxRecDepth 20000 in
theorem gX4_counts_X2_countThereOnDay : GoodIn wsX4_counts (wsV RX4 143 RX2 yX2_countThereOnDay wsX2_countThereOnDay) := goodIn_app (goodIn_of _ (by decide +kernel)) ggX4_counts_X2_countThereOnDay
set_option maxRecDepth 20000 in
theorem ggX4_counts_X0_hasColumn : GoodIn wsX4_counts wsX0_hasColumn := goodIn_r _ [109, 110, 183, 184, 185, 186, 187, 188, 189, 190, 191] (by decide +kernel) (by decide +kernel)
set_option maxRecDepth 20000 in
theorem gX4_counts_X0_hasColumn : GoodIn wsX4_counts (wsV RX4 61 RX0 yX0_hasColumn wsX0_hasColumn) := goodIn_app (goodIn_of _ (by decide +kernel)) ggX4_counts_X0_hasColumn
theorem dX4_counts_0 : decode cX4_counts 0 = .ok (.iload_n 1, 1) := by decide +kernel
theorem dX4_counts_1 : decode cX4_counts 1 = .ok (.iconst 0, 1) := by decide +kernel
theorem dX4_counts_2 : decode cX4_counts 2 = .ok (.sipush 3000, 3) := by decide +kernel
theorem dX4_counts_5 : decode cX4_counts 5 = .ok (.invokestatic 57, 3) := by decide +kernel
theorem dX4_counts_8 : decode cX4_counts 8 = .ok (.ifCond .ne 5, 3) := by decide +kernel
theorem dX4_counts_11 : decode cX4_counts 11 = .ok (.iconst (-1), 1) := by decide +kernel
theorem dX4_counts_12 : decode cX4_counts 12 = .ok (.ireturn, 1) := by decide +kernel
theorem dX4_counts_13 : decode cX4_counts 13 = .ok (.aload_n 0, 1) := by decide +kernel
theorem dX4_counts_14 : decode cX4_counts 14 = .ok (.iload_n 3, 1) := by decide +kernel
theorem dX4_counts_15 : decode cX4_counts 15 = .ok (.invokevirtual 112, 3) := by decide +kernel
theorem dX4_counts_18 : decode cX4_counts 18 = .ok (.astore 4, 2) := by decide +kernel
theorem dX4_counts_20 : decode cX4_counts 20 = .ok (.aload 4, 2) := by decide +kernel
theorem dX4_counts_22 : decode cX4_counts 22 = .ok (.iload_n 1, 1) := by decide +kernel
theorem dX4_counts_23 : decode cX4_counts 23 = .ok (.invokevirtual 116, 3) := by decide +kernel
theorem dX4_counts_26 : decode cX4_counts 26 = .ok (.iload_n 2, 1) := by decide +kernel
theorem dX4_counts_27 : decode cX4_counts 27 = .ok (.tableswitch 63 0 3 #[29, 35, 43, 57], 29) := by decide +kernel
theorem dX4_counts_56 : decode cX4_counts 56 = .ok (.aload 4, 2) := by decide +kernel
theorem dX4_counts_58 : decode cX4_counts 58 = .ok (.invokevirtual 136, 3) := by decide +kernel
theorem dX4_counts_61 : decode cX4_counts 61 = .ok (.ireturn, 1) := by decide +kernel
theorem dX4_counts_62 : decode cX4_counts 62 = .ok (.aload 4, 2) := by decide +kernel
theorem dX4_counts_64 : decode cX4_counts 64 = .ok (.bipush 10, 2) := by decide +kernel
theorem dX4_counts_66 : decode cX4_counts 66 = .ok (.invokevirtual 140, 3) := by decide +kernel
theorem dX4_counts_69 : decode cX4_counts 69 = .ok (.ireturn, 1) := by decide +kernel
theorem dX4_counts_70 : decode cX4_counts 70 = .ok (.aload 4, 2) := by decide +kernel
theorem dX4_counts_72 : decode cX4_counts 72 = .ok (.invokevirtual 136, 3) := by decide +kernel
theorem dX4_counts_75 : decode cX4_counts 75 = .ok (.aload 4, 2) := by decide +kernel
theorem dX4_counts_77 : decode cX4_counts 77 = .ok (.bipush 10, 2) := by decide +kernel
theorem dX4_counts_79 : decode cX4_counts 79 = .ok (.invokevirtual 140, 3) := by decide +kernel
theorem dX4_counts_82 : decode cX4_counts 82 = .ok (.isub, 1) := by decide +kernel
theorem dX4_counts_83 : decode cX4_counts 83 = .ok (.ireturn, 1) := by decide +kernel
theorem dX4_counts_84 : decode cX4_counts 84 = .ok (.aload 4, 2) := by decide +kernel
theorem dX4_counts_86 : decode cX4_counts 86 = .ok (.invokevirtual 143, 3) := by decide +kernel
theorem dX4_counts_89 : decode cX4_counts 89 = .ok (.ireturn, 1) := by decide +kernel
theorem dX4_counts_90 : decode cX4_counts 90 = .ok (.aload_n 0, 1) := by decide +kernel
theorem dX4_counts_91 : decode cX4_counts 91 = .ok (.getfield 10, 3) := by decide +kernel
theorem dX4_counts_94 : decode cX4_counts 94 = .ok (.iload_n 2, 1) := by decide +kernel
theorem dX4_counts_95 : decode cX4_counts 95 = .ok (.bipush 10, 2) := by decide +kernel
theorem dX4_counts_97 : decode cX4_counts 97 = .ok (.isub, 1) := by decide +kernel
theorem dX4_counts_98 : decode cX4_counts 98 = .ok (.invokevirtual 61, 3) := by decide +kernel
theorem dX4_counts_101 : decode cX4_counts 101 = .ok (.ifCond .eq 15, 3) := by decide +kernel
theorem dX4_counts_104 : decode cX4_counts 104 = .ok (.aload 4, 2) := by decide +kernel
theorem dX4_counts_106 : decode cX4_counts 106 = .ok (.iload_n 2, 1) := by decide +kernel
theorem dX4_counts_107 : decode cX4_counts 107 = .ok (.bipush 10, 2) := by decide +kernel
theorem dX4_counts_109 : decode cX4_counts 109 = .ok (.isub, 1) := by decide +kernel
theorem dX4_counts_110 : decode cX4_counts 110 = .ok (.invokevirtual 140, 3) := by decide +kernel
theorem dX4_counts_113 : decode cX4_counts 113 = .ok (.goto 4, 3) := by decide +kernel
theorem dX4_counts_116 : decode cX4_counts 116 = .ok (.iconst (-1), 1) := by decide +kernel
theorem dX4_counts_117 : decode cX4_counts 117 = .ok (.ireturn, 1) := by decide +kernel
set_option maxRecDepth 20000 in
theorem ggX4_length_X4_chosenRun : GoodIn wsX4_length wsX4_chosenRun := goodIn_r _ [7, 8, 9, 175, 176, 177, 178, 179, 180, 181, 182] (by decide +kernel) (by decide +kernel)
set_option maxRecDepth 20000 in
theorem gX4_length_X4_chosenRun : GoodIn wsX4_length (wsV RX4 112 RX4 yX4_chosenRun wsX4_chosenRun) := goodIn_app (goodIn_of _ (by decide +kernel)) ggX4_length_X4_chosenRun
set_option maxRecDepth 20000 in
theorem ggX4_length_X2_showDay : GoodIn wsX4_length wsX2_showDay := goodIn_r _ [14, 15, 16, 17, 18, 19, 13, 20, 21, 22, 23, 24, 25, 26, 27, 28, 29, 30, 31, 32, 33, 34, 35, 36, 37, 38, 39, 40, 41, 42, 43, 44, 45, 46, 47, 48, 49, 50, 51, 52, 53, 54, 55, 56, 57, 58, 59, 60, 61, 62, 63, 64, 65, 66, 67, 68, 69, 70, 71, 72, 73, 74, 75, 76, 77, 78, 79, 80, 81, 82, 83, 84, 85, 86, 87, 88, 89, 90, 91, 92, 93, 94, 95, 96, 97, 98, 99, 100, 101, 102, 103, 104, 105, 106, 107, 108, 109, 110, 111, 112, 113, 114, 115, 116, 117, 118, 119, 120, 121, 122, 123, 124, 125, 126, 127, 128, 129, 130, 131, 132, 133, 134, 135, 136, 137, 138, 139, 140, 141, 158, 159, 160, 161, 162, 163, 164, 165, 166, 167, 168, 169, 170, 171, 172, 173, 174, 183, 184, 185, 186, 187, 188, 189, 190, 191, 192, 193, 194, 195] (by decide +kernel) (by decide +kernel)
set_option maxRecDepth 20000 in
theorem gX4_length_X2_showDay : GoodIn wsX4_length (wsV RX4 116 RX2 yX2_showDay wsX2_showDay) := goodIn_app (goodIn_of _ (by decide +kernel)) ggX4_length_X2_showDay
set_option maxRecDepth 20000 in
theorem ggX4_length_X2_areAllDone : GoodIn wsX4_length wsX2_areAllDone := goodIn_r _ [145, 37, 53, 146, 147, 148, 13, 149, 21, 158, 159, 160, 161, 162, 163, 164, 165, 166, 167, 168, 169, 170, 171, 172, 173, 174, 183, 184, 185, 186, 187, 188, 189, 190, 191] (by decide +kernel) (by decide +kernel)
set_option maxRecDepth 20000 in
theorem gX4_length_X2_areAllDone : GoodIn wsX4_length (wsV RX4 149 RX2 yX2_areAllDone wsX2_areAllDone) := goodIn_app (goodIn_of _ (by decide +kernel)) ggX4_length_X2_areAllDone
set_option maxRecDepth 20000 in
theorem ggX4_length_X2_sumOfAges : GoodIn wsX4_length wsX2_sumOfAges := goodIn_r _ [153, 37, 53, 154, 155, 156, 13, 157, 24, 55, 158, 159, 160, 161, 162, 163, 164, 165, 166, 167, 168, 169, 170, 171, 172, 173, 174, 183, 184, 185, 186, 187, 188, 189, 190, 191] (by decide +kernel) (by decide +kernel)
set_option maxRecDepth 20000 in
theorem gX4_length_X2_sumOfAges : GoodIn wsX4_length (wsV RX4 156 RX2 yX2_sumOfAges wsX2_sumOfAges) := goodIn_app (goodIn_of _ (by decide +kernel)) ggX4_length_X2_sumOfAges
theorem dX4_length_0 : decode cX4_length 0 = .ok (.aload_n 0, 1) := by decide +kernel
theorem dX4_length_1 : decode cX4_length 1 = .ok (.iload_n 2, 1) := by decide +kernel
theorem dX4_length_2 : decode cX4_length 2 = .ok (.invokevirtual 112, 3) := by decide +kernel
theorem dX4_length_5 : decode cX4_length 5 = .ok (.astore_n 3, 1) := by decide +kernel
theorem dX4_length_6 : decode cX4_length 6 = .ok (.aload_n 3, 1) := by decide +kernel
theorem dX4_length_7 : decode cX4_length 7 = .ok (.sipush 3000, 3) := by decide +kernel
theorem dX4_length_10 : decode cX4_length 10 = .ok (.invokevirtual 116, 3) := by decide +kernel
theorem dX4_length_13 : decode cX4_length 13 = .ok (.iload_n 1, 1) := by decide +kernel
theorem dX4_length_14 : decode cX4_length 14 = .ok (.tableswitch 65 0 2 #[26, 31, 49], 26) := by decide +kernel
theorem dX4_length_40 : decode cX4_length 40 = .ok (.aload_n 3, 1) := by decide +kernel
theorem dX4_length_41 : decode cX4_length 41 = .ok (.getfield 146, 3) := by decide +kernel
theorem dX4_length_44 : decode cX4_length 44 = .ok (.ireturn, 1) := by decide +kernel
theorem dX4_length_45 : decode cX4_length 45 = .ok (.aload_n 3, 1) := by decide +kernel
theorem dX4_length_46 : decode cX4_length 46 = .ok (.invokevirtual 149, 3) := by decide +kernel
theorem dX4_length_49 : decode cX4_length 49 = .ok (.ifCond .eq 7, 3) := by decide +kernel
theorem dX4_length_52 : decode cX4_length 52 = .ok (.iconst (-1), 1) := by decide +kernel
theorem dX4_length_53 : decode cX4_length 53 = .ok (.goto 9, 3) := by decide +kernel
theorem dX4_length_56 : decode cX4_length 56 = .ok (.aload_n 3, 1) := by decide +kernel
theorem dX4_length_57 : decode cX4_length 57 = .ok (.getfield 153, 3) := by decide +kernel
theorem dX4_length_60 : decode cX4_length 60 = .ok (.iconst 1, 1) := by decide +kernel
theorem dX4_length_61 : decode cX4_length 61 = .ok (.iadd, 1) := by decide +kernel
theorem dX4_length_62 : decode cX4_length 62 = .ok (.ireturn, 1) := by decide +kernel
theorem dX4_length_63 : decode cX4_length 63 = .ok (.aload_n 3, 1) := by decide +kernel
theorem dX4_length_64 : decode cX4_length 64 = .ok (.invokevirtual 149, 3) := by decide +kernel
theorem dX4_length_67 : decode cX4_length 67 = .ok (.ifCond .eq 10, 3) := by decide +kernel
theorem dX4_length_70 : decode cX4_length 70 = .ok (.aload_n 3, 1) := by decide +kernel
theorem dX4_length_71 : decode cX4_length 71 = .ok (.invokevirtual 156, 3) := by decide +kernel
theorem dX4_length_74 : decode cX4_length 74 = .ok (.goto 4, 3) := by decide +kernel
theorem dX4_length_77 : decode cX4_length 77 = .ok (.iconst (-1), 1) := by decide +kernel
theorem dX4_length_78 : decode cX4_length 78 = .ok (.ireturn, 1) := by decide +kernel
theorem dX4_length_79 : decode cX4_length 79 = .ok (.iconst (-1), 1) := by decide +kernel
theorem dX4_length_80 : decode cX4_length 80 = .ok (.ireturn, 1) := by decide +kernel
set_option maxRecDepth 20000 in
theorem ggX4_differ_X2_restart : GoodIn wsX4_differ wsX2_restart := goodIn_r _ [8, 9, 10, 11, 12, 13, 14, 15, 16, 17, 18, 19, 20, 21, 22, 149, 150, 151, 152, 153, 154, 155, 156, 157, 158, 159, 160, 161, 162, 163, 164, 165] (by decide +kernel) (by decide +kernel)
set_option maxRecDepth 20000 in
theorem gX4_differ_X2_restart : GoodIn wsX4_differ (wsV RX4 159 RX2 yX2_restart wsX2_restart) := goodIn_app (goodIn_of _ (by decide +kernel)) ggX4_differ_X2_restart
set_option maxRecDepth 20000 in
theorem ggX4_differ_X2_showDay : GoodIn wsX4_differ wsX2_showDay := goodIn_r _ [26, 16, 18, 27, 5, 6, 7, 8, 9, 10, 11, 12, 13, 14, 15, 17, 19, 20, 21, 22, 28, 29, 30, 31, 32, 33, 34, 35, 36, 37, 38, 39, 40, 41, 42, 43, 44, 45, 46, 47, 48, 49, 50, 51, 52, 53, 54, 55, 56, 57, 58, 59, 60, 61, 62, 63, 64, 65, 66, 67, 68, 69, 70, 71, 72, 73, 74, 75, 76, 77, 78, 79, 80, 81, 82, 83, 84, 85, 86, 87, 88, 89, 90, 91, 92, 93, 94, 95, 96, 97, 98, 99, 100, 101, 102, 103, 104, 105, 106, 107, 108, 109, 110, 111, 112, 113, 114, 115, 116, 117, 118, 119, 120, 121, 122, 123, 124, 125, 126, 127, 128, 129, 130, 131, 132, 133, 134, 135, 136, 149, 150, 151, 152, 153, 154, 155, 156, 157, 158, 159, 160, 161, 162, 163, 164, 165, 166, 167, 168, 169, 170, 171, 172, 173, 174, 175, 176, 177, 178] (by decide +kernel) (by decide +kernel)
set_option maxRecDepth 20000 in
theorem gX4_differ_X2_showDay : GoodIn wsX4_differ (wsV RX4 116 RX2 yX2_showDay wsX2_showDay) := goodIn_app (goodIn_of _ (by decide +kernel)) ggX4_differ_X2_showDay
set_option maxRecDepth 20000 in
theorem ggX4_differ_X2_standsUnlike : GoodIn wsX4_differ wsX2_standsUnlike := goodIn_r _ [140, 32, 48, 9, 11, 149, 150, 151, 152, 153, 154, 155, 156, 157, 158, 159, 160, 161, 162, 163, 164, 165, 166, 167, 168, 169, 170, 171, 172, 173, 174] (by decide +kernel) (by decide +kernel)
set_option maxRecDepth 20000 in
theorem gX4_differ_X2_standsUnlike : GoodIn wsX4_differ (wsV RX4 166 RX2 yX2_standsUnlike wsX2_standsUnlike) := goodIn_app (goodIn_of _ (by decide +kernel)) ggX4_differ_X2_standsUnlike
theorem dX4_differ_0 : decode cX4_differ 0 = .ok (.aload_n 0, 1) := by decide +kernel
theorem dX4_differ_1 : decode cX4_differ 1 = .ok (.getfield 34, 3) := by decide +kernel
theorem dX4_differ_4 : decode cX4_differ 4 = .ok (.invokevirtual 159, 3) := by decide +kernel
theorem dX4_differ_7 : decode cX4_differ 7 = .ok (.aload_n 0, 1) := by decide +kernel
theorem dX4_differ_8 : decode cX4_differ 8 = .ok (.getfield 38, 3) := by decide +kernel
theorem dX4_differ_11 : decode cX4_differ 11 = .ok (.invokevirtual 159, 3) := by decide +kernel
theorem dX4_differ_14 : decode cX4_differ 14 = .ok (.iconst 0, 1) := by decide +kernel
theorem dX4_differ_15 : decode cX4_differ 15 = .ok (.istore_n 1, 1) := by decide +kernel
theorem dX4_differ_16 : decode cX4_differ 16 = .ok (.iload_n 1, 1) := by decide +kernel
theorem dX4_differ_17 : decode cX4_differ 17 = .ok (.sipush 3000, 3) := by decide +kernel
theorem dX4_differ_20 : decode cX4_differ 20 = .ok (.if_icmp .gt 61, 3) := by decide +kernel
theorem dX4_differ_23 : decode cX4_differ 23 = .ok (.aload_n 0, 1) := by decide +kernel
theorem dX4_differ_24 : decode cX4_differ 24 = .ok (.getfield 34, 3) := by decide +kernel
theorem dX4_differ_27 : decode cX4_differ 27 = .ok (.getfield 162, 3) := by decide +kernel
theorem dX4_differ_30 : decode cX4_differ 30 = .ok (.ifCond .eq 13, 3) := by decide +kernel
theorem dX4_differ_33 : decode cX4_differ 33 = .ok (.aload_n 0, 1) := by decide +kernel
theorem dX4_differ_34 : decode cX4_differ 34 = .ok (.getfield 38, 3) := by decide +kernel
theorem dX4_differ_37 : decode cX4_differ 37 = .ok (.getfield 162, 3) := by decide +kernel
theorem dX4_differ_40 : decode cX4_differ 40 = .ok (.ifCond .ne 41, 3) := by decide +kernel
theorem dX4_differ_43 : decode cX4_differ 43 = .ok (.aload_n 0, 1) := by decide +kernel
theorem dX4_differ_44 : decode cX4_differ 44 = .ok (.getfield 34, 3) := by decide +kernel
theorem dX4_differ_47 : decode cX4_differ 47 = .ok (.iload_n 1, 1) := by decide +kernel
theorem dX4_differ_48 : decode cX4_differ 48 = .ok (.invokevirtual 116, 3) := by decide +kernel
theorem dX4_differ_51 : decode cX4_differ 51 = .ok (.aload_n 0, 1) := by decide +kernel
theorem dX4_differ_52 : decode cX4_differ 52 = .ok (.getfield 38, 3) := by decide +kernel
theorem dX4_differ_55 : decode cX4_differ 55 = .ok (.iload_n 1, 1) := by decide +kernel
theorem dX4_differ_56 : decode cX4_differ 56 = .ok (.invokevirtual 116, 3) := by decide +kernel
theorem dX4_differ_59 : decode cX4_differ 59 = .ok (.aload_n 0, 1) := by decide +kernel
theorem dX4_differ_60 : decode cX4_differ 60 = .ok (.getfield 34, 3) := by decide +kernel
theorem dX4_differ_63 : decode cX4_differ 63 = .ok (.aload_n 0, 1) := by decide +kernel
theorem dX4_differ_64 : decode cX4_differ 64 = .ok (.getfield 38, 3) := by decide +kernel
theorem dX4_differ_67 : decode cX4_differ 67 = .ok (.invokevirtual 166, 3) := by decide +kernel
theorem dX4_differ_70 : decode cX4_differ 70 = .ok (.ifCond .eq 5, 3) := by decide +kernel
theorem dX4_differ_73 : decode cX4_differ 73 = .ok (.iload_n 1, 1) := by decide +kernel
theorem dX4_differ_74 : decode cX4_differ 74 = .ok (.ireturn, 1) := by decide +kernel
theorem dX4_differ_75 : decode cX4_differ 75 = .ok (.iinc 1 1, 3) := by decide +kernel
theorem dX4_differ_78 : decode cX4_differ 78 = .ok (.goto (-62), 3) := by decide +kernel
theorem dX4_differ_81 : decode cX4_differ 81 = .ok (.iconst (-1), 1) := by decide +kernel
theorem dX4_differ_82 : decode cX4_differ 82 = .ok (.ireturn, 1) := by decide +kernel
set_option maxRecDepth 20000 in
theorem ggX4_promise_X4_isWithin : GoodIn wsX4_promise wsX4_isWithin := goodIn_r _ [4] (by decide +kernel) (by decide +kernel)
set_option maxRecDepth 20000 in
theorem gX4_promise_X4_isWithin : GoodIn wsX4_promise (va_wsS RX4 57 yX4_isWithin wsX4_isWithin) := goodIn_app (goodIn_of _ (by decide +kernel)) ggX4_promise_X4_isWithin
set_option maxRecDepth 20000 in
theorem ggX4_promise_X4_chosenRun : GoodIn wsX4_promise wsX4_chosenRun := goodIn_r _ [8, 9, 10, 159, 160, 161, 162, 163, 164, 165, 166] (by decide +kernel) (by decide +kernel)
set_option maxRecDepth 20000 in
theorem gX4_promise_X4_chosenRun : GoodIn wsX4_promise (wsV RX4 112 RX4 yX4_chosenRun wsX4_chosenRun) := goodIn_app (goodIn_of _ (by decide +kernel)) ggX4_promise_X4_chosenRun
set_option maxRecDepth 20000 in
theorem ggX4_promise_X2_showDay : GoodIn wsX4_promise wsX2_showDay := goodIn_r _ [15, 16, 17, 18, 19, 20, 14, 21, 22, 23, 24, 25, 26, 27, 28, 29, 30, 31, 32, 33, 34, 35, 36, 37, 38, 39, 40, 41, 42, 43, 44, 45, 46, 47, 48, 49, 50, 51, 52, 53, 54, 55, 56, 57, 58, 59, 60, 61, 62, 63, 64, 65, 66, 67, 68, 69, 70, 71, 72, 73, 74, 75, 76, 77, 78, 79, 80, 81, 82, 83, 84, 85, 86, 87, 88, 89, 90, 91, 92, 93, 94, 95, 96, 97, 98, 99, 100, 101, 102, 103, 104, 105, 106, 107, 108, 109, 110, 111, 112, 113, 114, 115, 116, 117, 118, 119, 120, 121, 122, 123, 124, 125, 126, 127, 128, 129, 130, 131, 132, 133, 134, 135, 136, 137, 138, 139, 140, 141, 142, 167, 168, 169, 170, 171, 172, 173, 174, 175, 176, 177, 178, 179, 180, 181, 182, 183, 184, 185, 186, 187, 188, 189, 190, 191, 192, 193, 194, 195, 196] (by decide +kernel) (by decide +kernel)
set_option maxRecDepth 20000 in
theorem gX4_promise_X2_showDay : GoodIn wsX4_promise (wsV RX4 116 RX2 yX2_showDay wsX2_showDay) := goodIn_app (goodIn_of _ (by decide +kernel)) ggX4_promise_X2_showDay
set_option maxRecDepth 20000 in
theorem ggX4_promise_X2_ageForShare : GoodIn wsX4_promise wsX2_ageForShare := goodIn_r _ [146, 38, 54, 147, 148, 149, 14, 150, 22, 151, 152, 153, 154, 25, 56, 155, 156, 157, 158, 167, 168, 169, 170, 171, 172, 173, 174, 175, 176, 177, 178, 179, 180, 181, 182, 183, 184, 185, 186, 187, 188, 189, 190, 191, 192] (by decide +kernel) (by decide +kernel)
set_option maxRecDepth 20000 in
theorem gX4_promise_X2_ageForShare : GoodIn wsX4_promise (wsV RX4 170 RX2 yX2_ageForShare wsX2_ageForShare) := goodIn_app (goodIn_of _ (by decide +kernel)) ggX4_promise_X2_ageForShare
theorem dX4_promise_0 : decode cX4_promise 0 = .ok (.iload_n 1, 1) := by decide +kernel
theorem dX4_promise_1 : decode cX4_promise 1 = .ok (.iconst 1, 1) := by decide +kernel
theorem dX4_promise_2 : decode cX4_promise 2 = .ok (.bipush 100, 2) := by decide +kernel
theorem dX4_promise_4 : decode cX4_promise 4 = .ok (.invokestatic 57, 3) := by decide +kernel
theorem dX4_promise_7 : decode cX4_promise 7 = .ok (.ifCond .ne 5, 3) := by decide +kernel
theorem dX4_promise_10 : decode cX4_promise 10 = .ok (.iconst (-1), 1) := by decide +kernel
theorem dX4_promise_11 : decode cX4_promise 11 = .ok (.ireturn, 1) := by decide +kernel
theorem dX4_promise_12 : decode cX4_promise 12 = .ok (.aload_n 0, 1) := by decide +kernel
theorem dX4_promise_13 : decode cX4_promise 13 = .ok (.iload_n 2, 1) := by decide +kernel
theorem dX4_promise_14 : decode cX4_promise 14 = .ok (.invokevirtual 112, 3) := by decide +kernel
theorem dX4_promise_17 : decode cX4_promise 17 = .ok (.astore_n 3, 1) := by decide +kernel
theorem dX4_promise_18 : decode cX4_promise 18 = .ok (.aload_n 3, 1) := by decide +kernel
theorem dX4_promise_19 : decode cX4_promise 19 = .ok (.sipush 3000, 3) := by decide +kernel
theorem dX4_promise_22 : decode cX4_promise 22 = .ok (.invokevirtual 116, 3) := by decide +kernel
theorem dX4_promise_25 : decode cX4_promise 25 = .ok (.aload_n 3, 1) := by decide +kernel
theorem dX4_promise_26 : decode cX4_promise 26 = .ok (.iload_n 1, 1) := by decide +kernel
theorem dX4_promise_27 : decode cX4_promise 27 = .ok (.invokevirtual 170, 3) := by decide +kernel
theorem dX4_promise_30 : decode cX4_promise 30 = .ok (.ireturn, 1) := by decide +kernel
set_option maxRecDepth 20000 in
theorem ggX4_best_X4_isWithin : GoodIn wsX4_best wsX4_isWithin := goodIn_r _ [6] (by decide +kernel) (by decide +kernel)
set_option maxRecDepth 20000 in
theorem gX4_best_X4_isWithin : GoodIn wsX4_best (va_wsS RX4 57 yX4_isWithin wsX4_isWithin) := goodIn_app (goodIn_of _ (by decide +kernel)) ggX4_best_X4_isWithin
set_option maxRecDepth 20000 in
theorem ggX4_best_X3_findUpTo : GoodIn wsX4_best wsX3_findUpTo := goodIn_r _ [11, 12, 13, 14, 15, 16, 17, 18, 19, 20, 21, 22, 23, 24, 25, 10, 26, 27, 28, 29, 30, 31, 32, 33, 34, 35, 36, 37, 38, 39, 40, 41, 42, 43, 44, 45, 46, 47, 48, 49, 50, 51, 52, 53, 54, 55, 56, 57, 58, 59, 60, 61, 62, 63, 64, 65, 66, 67, 68, 69, 70, 71, 72, 73, 74, 75, 76, 77, 78, 79, 80, 81, 82, 83, 84, 85, 86, 87, 88, 89, 90, 91, 92, 93, 94, 95, 96, 97, 98, 99, 100, 101, 102, 103, 104, 105, 106, 107, 108, 109, 110, 111, 112, 113, 114, 115, 116, 117, 118, 119, 120, 121, 122, 123, 124, 125, 126, 127, 128, 129, 130, 131, 132, 133, 134, 135, 136, 137, 138, 139, 140, 141, 142, 143, 144, 145, 146, 147, 148, 149, 150, 151, 152, 153, 154, 155, 156, 157, 158, 159, 160, 161, 162, 163, 164, 165, 166, 167, 168, 169, 170, 171, 172, 173, 174, 175, 176, 177, 178, 179, 180, 181, 182, 183, 184, 185, 186, 187, 188, 189, 190, 199, 200, 201, 202, 203, 204, 205, 206, 207, 208, 209, 210, 211, 212, 213, 214, 215, 216, 217, 218, 219, 220, 221, 222, 223, 224, 225, 226, 227, 228, 229, 230, 231, 232, 233, 234, 235] (by decide +kernel) (by decide +kernel)
set_option maxRecDepth 20000 in
theorem gX4_best_X3_findUpTo : GoodIn wsX4_best (wsV RX4 173 RX3 yX3_findUpTo wsX3_findUpTo) := goodIn_app (goodIn_of _ (by decide +kernel)) ggX4_best_X3_findUpTo
theorem dX4_best_0 : decode cX4_best 0 = .ok (.iload_n 1, 1) := by decide +kernel
theorem dX4_best_1 : decode cX4_best 1 = .ok (.iconst 1, 1) := by decide +kernel
theorem dX4_best_2 : decode cX4_best 2 = .ok (.iconst 4, 1) := by decide +kernel
theorem dX4_best_3 : decode cX4_best 3 = .ok (.invokestatic 57, 3) := by decide +kernel
theorem dX4_best_6 : decode cX4_best 6 = .ok (.ifCond .ne 5, 3) := by decide +kernel
theorem dX4_best_9 : decode cX4_best 9 = .ok (.iconst (-1), 1) := by decide +kernel
theorem dX4_best_10 : decode cX4_best 10 = .ok (.ireturn, 1) := by decide +kernel
theorem dX4_best_11 : decode cX4_best 11 = .ok (.aload_n 0, 1) := by decide +kernel
theorem dX4_best_12 : decode cX4_best 12 = .ok (.getfield 49, 3) := by decide +kernel
theorem dX4_best_15 : decode cX4_best 15 = .ok (.iload_n 1, 1) := by decide +kernel
theorem dX4_best_16 : decode cX4_best 16 = .ok (.invokevirtual 173, 3) := by decide +kernel
theorem dX4_best_19 : decode cX4_best 19 = .ok (.aload_n 0, 1) := by decide +kernel
theorem dX4_best_20 : decode cX4_best 20 = .ok (.getfield 49, 3) := by decide +kernel
theorem dX4_best_23 : decode cX4_best 23 = .ok (.getfield 176, 3) := by decide +kernel
theorem dX4_best_26 : decode cX4_best 26 = .ok (.ireturn, 1) := by decide +kernel
set_option maxRecDepth 20000 in
theorem ggX4_bestLimit_X4_isWithin : GoodIn wsX4_bestLimit wsX4_isWithin := goodIn_r _ [8] (by decide +kernel) (by decide +kernel)
set_option maxRecDepth 20000 in
theorem gX4_bestLimit_X4_isWithin : GoodIn wsX4_bestLimit (va_wsS RX4 57 yX4_isWithin wsX4_isWithin) := goodIn_app (goodIn_of _ (by decide +kernel)) ggX4_bestLimit_X4_isWithin
set_option maxRecDepth 20000 in
theorem ggX4_bestLimit_X0_hasColumn : GoodIn wsX4_bestLimit wsX0_hasColumn := goodIn_r _ [13, 14, 209, 210, 211, 212, 213, 214, 215, 216, 217] (by decide +kernel) (by decide +kernel)
set_option maxRecDepth 20000 in
theorem gX4_bestLimit_X0_hasColumn : GoodIn wsX4_bestLimit (wsV RX4 61 RX0 yX0_hasColumn wsX0_hasColumn) := goodIn_app (goodIn_of _ (by decide +kernel)) ggX4_bestLimit_X0_hasColumn
set_option maxRecDepth 20000 in
theorem ggX4_bestLimit_X3_findUpTo : GoodIn wsX4_bestLimit wsX3_findUpTo := goodIn_r _ [19, 20, 21, 22, 23, 24, 25, 26, 27, 28, 29, 30, 31, 32, 33, 18, 34, 35, 36, 37, 38, 39, 40, 41, 42, 43, 44, 45, 46, 47, 48, 49, 50, 51, 52, 53, 54, 55, 56, 57, 58, 59, 60, 61, 62, 63, 64, 65, 66, 67, 68, 69, 70, 71, 72, 73, 74, 75, 76, 77, 78, 79, 80, 81, 82, 83, 84, 85, 86, 87, 88, 89, 90, 91, 92, 93, 94, 95, 96, 97, 98, 99, 100, 101, 102, 103, 104, 105, 106, 107, 108, 109, 110, 111, 112, 113, 114, 115, 12, 116, 117, 118, 119, 120, 121, 122, 123, 124, 125, 126, 127, 128, 129, 130, 131, 132, 133, 134, 135, 136, 137, 138, 139, 140, 141, 142, 143, 144, 10, 11, 13, 14, 145, 146, 147, 148, 149, 150, 151, 152, 153, 154, 155, 156, 157, 158, 159, 160, 161, 162, 163, 164, 165, 166, 167, 168, 169, 170, 171, 172, 173, 174, 175, 176, 177, 178, 179, 180, 181, 182, 183, 184, 185, 186, 187, 188, 189, 190, 191, 192, 193, 202, 203, 204, 205, 206, 207, 208, 218, 219, 220, 221, 209, 210, 211, 212, 213, 214, 215, 216, 217, 222, 223, 224, 225, 226, 227, 228, 229, 230, 231, 232, 233, 234, 235, 236, 237, 238] (by decide +kernel) (by decide +kernel)
set_option maxRecDepth 20000 in
theorem gX4_bestLimit_X3_findUpTo : GoodIn wsX4_bestLimit (wsV RX4 173 RX3 yX3_findUpTo wsX3_findUpTo) := goodIn_app (goodIn_of _ (by decide +kernel)) ggX4_bestLimit_X3_findUpTo
theorem dX4_bestLimit_0 : decode cX4_bestLimit 0 = .ok (.iload_n 1, 1) := by decide +kernel
theorem dX4_bestLimit_1 : decode cX4_bestLimit 1 = .ok (.iconst 1, 1) := by decide +kernel
theorem dX4_bestLimit_2 : decode cX4_bestLimit 2 = .ok (.iconst 4, 1) := by decide +kernel
theorem dX4_bestLimit_3 : decode cX4_bestLimit 3 = .ok (.invokestatic 57, 3) := by decide +kernel
theorem dX4_bestLimit_6 : decode cX4_bestLimit 6 = .ok (.ifCond .eq 14, 3) := by decide +kernel
theorem dX4_bestLimit_9 : decode cX4_bestLimit 9 = .ok (.aload_n 0, 1) := by decide +kernel
theorem dX4_bestLimit_10 : decode cX4_bestLimit 10 = .ok (.getfield 10, 3) := by decide +kernel
theorem dX4_bestLimit_13 : decode cX4_bestLimit 13 = .ok (.iload_n 2, 1) := by decide +kernel
theorem dX4_bestLimit_14 : decode cX4_bestLimit 14 = .ok (.invokevirtual 61, 3) := by decide +kernel
theorem dX4_bestLimit_17 : decode cX4_bestLimit 17 = .ok (.ifCond .ne 5, 3) := by decide +kernel
theorem dX4_bestLimit_20 : decode cX4_bestLimit 20 = .ok (.iconst (-1), 1) := by decide +kernel
theorem dX4_bestLimit_21 : decode cX4_bestLimit 21 = .ok (.ireturn, 1) := by decide +kernel
theorem dX4_bestLimit_22 : decode cX4_bestLimit 22 = .ok (.aload_n 0, 1) := by decide +kernel
theorem dX4_bestLimit_23 : decode cX4_bestLimit 23 = .ok (.getfield 49, 3) := by decide +kernel
theorem dX4_bestLimit_26 : decode cX4_bestLimit 26 = .ok (.iload_n 1, 1) := by decide +kernel
theorem dX4_bestLimit_27 : decode cX4_bestLimit 27 = .ok (.invokevirtual 173, 3) := by decide +kernel
theorem dX4_bestLimit_30 : decode cX4_bestLimit 30 = .ok (.aload_n 0, 1) := by decide +kernel
theorem dX4_bestLimit_31 : decode cX4_bestLimit 31 = .ok (.getfield 49, 3) := by decide +kernel
theorem dX4_bestLimit_34 : decode cX4_bestLimit 34 = .ok (.getfield 176, 3) := by decide +kernel
theorem dX4_bestLimit_37 : decode cX4_bestLimit 37 = .ok (.iconst (-1), 1) := by decide +kernel
theorem dX4_bestLimit_38 : decode cX4_bestLimit 38 = .ok (.if_icmp .ne 7, 3) := by decide +kernel
theorem dX4_bestLimit_41 : decode cX4_bestLimit 41 = .ok (.iconst (-1), 1) := by decide +kernel
theorem dX4_bestLimit_42 : decode cX4_bestLimit 42 = .ok (.goto 12, 3) := by decide +kernel
theorem dX4_bestLimit_45 : decode cX4_bestLimit 45 = .ok (.aload_n 0, 1) := by decide +kernel
theorem dX4_bestLimit_46 : decode cX4_bestLimit 46 = .ok (.getfield 49, 3) := by decide +kernel
theorem dX4_bestLimit_49 : decode cX4_bestLimit 49 = .ok (.getfield 179, 3) := by decide +kernel
theorem dX4_bestLimit_52 : decode cX4_bestLimit 52 = .ok (.iload_n 2, 1) := by decide +kernel
theorem dX4_bestLimit_53 : decode cX4_bestLimit 53 = .ok (.iaload, 1) := by decide +kernel
theorem dX4_bestLimit_54 : decode cX4_bestLimit 54 = .ok (.ireturn, 1) := by decide +kernel
set_option maxRecDepth 20000 in
theorem ggX4_cost_X2_showDay : GoodIn wsX4_cost wsX2_showDay := goodIn_r _ [8, 9, 10, 11, 12, 13, 7, 14, 15, 16, 17, 18, 19, 20, 21, 22, 23, 24, 25, 26, 27, 28, 29, 30, 31, 32, 33, 34, 35, 36, 37, 38, 39, 40, 41, 42, 43, 44, 45, 46, 47, 48, 49, 50, 51, 52, 53, 54, 55, 56, 57, 58, 59, 60, 61, 62, 63, 64, 65, 66, 67, 68, 69, 70, 71, 72, 73, 74, 75, 76, 77, 78, 79, 80, 81, 82, 83, 84, 85, 86, 87, 88, 89, 90, 91, 92, 93, 94, 95, 96, 97, 98, 99, 100, 101, 102, 103, 104, 105, 106, 107, 108, 109, 110, 111, 112, 113, 114, 115, 116, 117, 118, 119, 120, 121, 122, 123, 124, 125, 126, 127, 128, 129, 130, 131, 132, 133, 134, 135, 160, 161, 162, 163, 164, 165, 166, 167, 168, 169, 170, 171, 172, 173, 174, 175, 176, 177, 178, 179, 180, 181, 182, 183, 184, 185, 186, 187, 188, 189] (by decide +kernel) (by decide +kernel)
set_option maxRecDepth 20000 in
theorem gX4_cost_X2_showDay : GoodIn wsX4_cost (wsV RX4 116 RX2 yX2_showDay wsX2_showDay) := goodIn_app (goodIn_of _ (by decide +kernel)) ggX4_cost_X2_showDay
set_option maxRecDepth 20000 in
theorem ggX4_cost_X2_areAllDone : GoodIn wsX4_cost wsX2_areAllDone := goodIn_r _ [139, 31, 47, 140, 141, 142, 7, 143, 15, 160, 161, 162, 163, 164, 165, 166, 167, 168, 169, 170, 171, 172, 173, 174, 175, 176, 177, 178, 179, 180, 181, 182, 183, 184, 185] (by decide +kernel) (by decide +kernel)
set_option maxRecDepth 20000 in
theorem gX4_cost_X2_areAllDone : GoodIn wsX4_cost (wsV RX4 149 RX2 yX2_areAllDone wsX2_areAllDone) := goodIn_app (goodIn_of _ (by decide +kernel)) ggX4_cost_X2_areAllDone
set_option maxRecDepth 20000 in
theorem ggX4_cost_X2_sumOfPlainAges : GoodIn wsX4_cost wsX2_sumOfPlainAges := goodIn_r _ [147, 31, 47, 59, 148, 149, 150, 7, 151, 18, 49, 160, 161, 162, 163, 164, 165, 166, 167, 168, 169, 170, 171, 172, 173, 174, 175, 176, 177, 178, 179, 180, 181, 182, 183, 184, 185] (by decide +kernel) (by decide +kernel)
set_option maxRecDepth 20000 in
theorem gX4_cost_X2_sumOfPlainAges : GoodIn wsX4_cost (wsV RX4 183 RX2 yX2_sumOfPlainAges wsX2_sumOfPlainAges) := goodIn_app (goodIn_of _ (by decide +kernel)) ggX4_cost_X2_sumOfPlainAges
theorem dX4_cost_0 : decode cX4_cost 0 = .ok (.aload_n 0, 1) := by decide +kernel
theorem dX4_cost_1 : decode cX4_cost 1 = .ok (.getfield 34, 3) := by decide +kernel
theorem dX4_cost_4 : decode cX4_cost 4 = .ok (.sipush 3000, 3) := by decide +kernel
theorem dX4_cost_7 : decode cX4_cost 7 = .ok (.invokevirtual 116, 3) := by decide +kernel
theorem dX4_cost_10 : decode cX4_cost 10 = .ok (.aload_n 0, 1) := by decide +kernel
theorem dX4_cost_11 : decode cX4_cost 11 = .ok (.getfield 41, 3) := by decide +kernel
theorem dX4_cost_14 : decode cX4_cost 14 = .ok (.sipush 3000, 3) := by decide +kernel
theorem dX4_cost_17 : decode cX4_cost 17 = .ok (.invokevirtual 116, 3) := by decide +kernel
theorem dX4_cost_20 : decode cX4_cost 20 = .ok (.aload_n 0, 1) := by decide +kernel
theorem dX4_cost_21 : decode cX4_cost 21 = .ok (.getfield 34, 3) := by decide +kernel
theorem dX4_cost_24 : decode cX4_cost 24 = .ok (.invokevirtual 149, 3) := by decide +kernel
theorem dX4_cost_27 : decode cX4_cost 27 = .ok (.ifCond .eq 13, 3) := by decide +kernel
theorem dX4_cost_30 : decode cX4_cost 30 = .ok (.aload_n 0, 1) := by decide +kernel
theorem dX4_cost_31 : decode cX4_cost 31 = .ok (.getfield 41, 3) := by decide +kernel
theorem dX4_cost_34 : decode cX4_cost 34 = .ok (.invokevirtual 149, 3) := by decide +kernel
theorem dX4_cost_37 : decode cX4_cost 37 = .ok (.ifCond .ne 6, 3) := by decide +kernel
theorem dX4_cost_40 : decode cX4_cost 40 = .ok (.ldc 182, 2) := by decide +kernel
theorem dX4_cost_42 : decode cX4_cost 42 = .ok (.ireturn, 1) := by decide +kernel
theorem dX4_cost_43 : decode cX4_cost 43 = .ok (.aload_n 0, 1) := by decide +kernel
theorem dX4_cost_44 : decode cX4_cost 44 = .ok (.getfield 34, 3) := by decide +kernel
theorem dX4_cost_47 : decode cX4_cost 47 = .ok (.invokevirtual 183, 3) := by decide +kernel
theorem dX4_cost_50 : decode cX4_cost 50 = .ok (.aload_n 0, 1) := by decide +kernel
theorem dX4_cost_51 : decode cX4_cost 51 = .ok (.getfield 41, 3) := by decide +kernel
theorem dX4_cost_54 : decode cX4_cost 54 = .ok (.invokevirtual 183, 3) := by decide +kernel
theorem dX4_cost_57 : decode cX4_cost 57 = .ok (.isub, 1) := by decide +kernel
theorem dX4_cost_58 : decode cX4_cost 58 = .ok (.ireturn, 1) := by decide +kernel
theorem dX4_about_0 : decode cX4_about 0 = .ok (.iload_n 1, 1) := by decide +kernel
theorem dX4_about_1 : decode cX4_about 1 = .ok (.tableswitch 63 0 3 #[31, 39, 47, 55], 31) := by decide +kernel
theorem dX4_about_32 : decode cX4_about 32 = .ok (.aload_n 0, 1) := by decide +kernel
theorem dX4_about_33 : decode cX4_about 33 = .ok (.getfield 10, 3) := by decide +kernel
theorem dX4_about_36 : decode cX4_about 36 = .ok (.getfield 186, 3) := by decide +kernel
theorem dX4_about_39 : decode cX4_about 39 = .ok (.ireturn, 1) := by decide +kernel
theorem dX4_about_40 : decode cX4_about 40 = .ok (.aload_n 0, 1) := by decide +kernel
theorem dX4_about_41 : decode cX4_about 41 = .ok (.getfield 10, 3) := by decide +kernel
theorem dX4_about_44 : decode cX4_about 44 = .ok (.getfield 76, 3) := by decide +kernel
theorem dX4_about_47 : decode cX4_about 47 = .ok (.ireturn, 1) := by decide +kernel
theorem dX4_about_48 : decode cX4_about 48 = .ok (.aload_n 0, 1) := by decide +kernel
theorem dX4_about_49 : decode cX4_about 49 = .ok (.getfield 19, 3) := by decide +kernel
theorem dX4_about_52 : decode cX4_about 52 = .ok (.getfield 72, 3) := by decide +kernel
theorem dX4_about_55 : decode cX4_about 55 = .ok (.ireturn, 1) := by decide +kernel
theorem dX4_about_56 : decode cX4_about 56 = .ok (.aload_n 0, 1) := by decide +kernel
theorem dX4_about_57 : decode cX4_about 57 = .ok (.getfield 26, 3) := by decide +kernel
theorem dX4_about_60 : decode cX4_about 60 = .ok (.getfield 72, 3) := by decide +kernel
theorem dX4_about_63 : decode cX4_about 63 = .ok (.ireturn, 1) := by decide +kernel
theorem dX4_about_64 : decode cX4_about 64 = .ok (.iconst (-1), 1) := by decide +kernel
theorem dX4_about_65 : decode cX4_about 65 = .ok (.ireturn, 1) := by decide +kernel
theorem dX4_isWithin_0 : decode cX4_isWithin 0 = .ok (.iload_n 0, 1) := by decide +kernel
theorem dX4_isWithin_1 : decode cX4_isWithin 1 = .ok (.iload_n 1, 1) := by decide +kernel
theorem dX4_isWithin_2 : decode cX4_isWithin 2 = .ok (.if_icmp .lt 12, 3) := by decide +kernel
theorem dX4_isWithin_5 : decode cX4_isWithin 5 = .ok (.iload_n 0, 1) := by decide +kernel
theorem dX4_isWithin_6 : decode cX4_isWithin 6 = .ok (.iload_n 2, 1) := by decide +kernel
theorem dX4_isWithin_7 : decode cX4_isWithin 7 = .ok (.if_icmp .gt 7, 3) := by decide +kernel
theorem dX4_isWithin_10 : decode cX4_isWithin 10 = .ok (.iconst 1, 1) := by decide +kernel
theorem dX4_isWithin_11 : decode cX4_isWithin 11 = .ok (.goto 4, 3) := by decide +kernel
theorem dX4_isWithin_14 : decode cX4_isWithin 14 = .ok (.iconst 0, 1) := by decide +kernel
theorem dX4_isWithin_15 : decode cX4_isWithin 15 = .ok (.ireturn, 1) := by decide +kernel
set_option maxRecDepth 20000 in
theorem ggX4_mayTellOther_X0_hasColumn : GoodIn wsX4_mayTellOther wsX0_hasColumn := goodIn_r _ [6, 7, 20, 21, 22, 23, 24, 25, 26, 27, 28] (by decide +kernel) (by decide +kernel)
set_option maxRecDepth 20000 in
theorem gX4_mayTellOther_X0_hasColumn : GoodIn wsX4_mayTellOther (wsV RX4 61 RX0 yX0_hasColumn wsX0_hasColumn) := goodIn_app (goodIn_of _ (by decide +kernel)) ggX4_mayTellOther_X0_hasColumn
set_option maxRecDepth 20000 in
theorem ggX4_mayTellOther_X4_isWithin : GoodIn wsX4_mayTellOther wsX4_isWithin := goodIn_r _ [11] (by decide +kernel) (by decide +kernel)
set_option maxRecDepth 20000 in
theorem gX4_mayTellOther_X4_isWithin : GoodIn wsX4_mayTellOther (va_wsS RX4 57 yX4_isWithin wsX4_isWithin) := goodIn_app (goodIn_of _ (by decide +kernel)) ggX4_mayTellOther_X4_isWithin
theorem dX4_mayTellOther_0 : decode cX4_mayTellOther 0 = .ok (.iload_n 1, 1) := by decide +kernel
theorem dX4_mayTellOther_1 : decode cX4_mayTellOther 1 = .ok (.tableswitch 132 0 3 #[31, 58, 84, 111], 31) := by decide +kernel
theorem dX4_mayTellOther_32 : decode cX4_mayTellOther 32 = .ok (.aload_n 0, 1) := by decide +kernel
theorem dX4_mayTellOther_33 : decode cX4_mayTellOther 33 = .ok (.getfield 10, 3) := by decide +kernel
theorem dX4_mayTellOther_36 : decode cX4_mayTellOther 36 = .ok (.iload_n 2, 1) := by decide +kernel
theorem dX4_mayTellOther_37 : decode cX4_mayTellOther 37 = .ok (.invokevirtual 61, 3) := by decide +kernel
theorem dX4_mayTellOther_40 : decode cX4_mayTellOther 40 = .ok (.ifCond .eq 17, 3) := by decide +kernel
theorem dX4_mayTellOther_43 : decode cX4_mayTellOther 43 = .ok (.iload_n 3, 1) := by decide +kernel
theorem dX4_mayTellOther_44 : decode cX4_mayTellOther 44 = .ok (.iconst (-1), 1) := by decide +kernel
theorem dX4_mayTellOther_45 : decode cX4_mayTellOther 45 = .ok (.bipush 20, 2) := by decide +kernel
theorem dX4_mayTellOther_47 : decode cX4_mayTellOther 47 = .ok (.invokestatic 57, 3) := by decide +kernel
theorem dX4_mayTellOther_50 : decode cX4_mayTellOther 50 = .ok (.ifCond .eq 7, 3) := by decide +kernel
theorem dX4_mayTellOther_53 : decode cX4_mayTellOther 53 = .ok (.iconst 1, 1) := by decide +kernel
theorem dX4_mayTellOther_54 : decode cX4_mayTellOther 54 = .ok (.goto 4, 3) := by decide +kernel
theorem dX4_mayTellOther_57 : decode cX4_mayTellOther 57 = .ok (.iconst 0, 1) := by decide +kernel
theorem dX4_mayTellOther_58 : decode cX4_mayTellOther 58 = .ok (.ireturn, 1) := by decide +kernel
theorem dX4_mayTellOther_59 : decode cX4_mayTellOther 59 = .ok (.aload_n 0, 1) := by decide +kernel
theorem dX4_mayTellOther_60 : decode cX4_mayTellOther 60 = .ok (.getfield 10, 3) := by decide +kernel
theorem dX4_mayTellOther_63 : decode cX4_mayTellOther 63 = .ok (.iload_n 2, 1) := by decide +kernel
theorem dX4_mayTellOther_64 : decode cX4_mayTellOther 64 = .ok (.invokevirtual 61, 3) := by decide +kernel
theorem dX4_mayTellOther_67 : decode cX4_mayTellOther 67 = .ok (.ifCond .eq 16, 3) := by decide +kernel
theorem dX4_mayTellOther_70 : decode cX4_mayTellOther 70 = .ok (.iload_n 3, 1) := by decide +kernel
theorem dX4_mayTellOther_71 : decode cX4_mayTellOther 71 = .ok (.iconst (-1), 1) := by decide +kernel
theorem dX4_mayTellOther_72 : decode cX4_mayTellOther 72 = .ok (.iconst 5, 1) := by decide +kernel
theorem dX4_mayTellOther_73 : decode cX4_mayTellOther 73 = .ok (.invokestatic 57, 3) := by decide +kernel
theorem dX4_mayTellOther_76 : decode cX4_mayTellOther 76 = .ok (.ifCond .eq 7, 3) := by decide +kernel
theorem dX4_mayTellOther_79 : decode cX4_mayTellOther 79 = .ok (.iconst 1, 1) := by decide +kernel
theorem dX4_mayTellOther_80 : decode cX4_mayTellOther 80 = .ok (.goto 4, 3) := by decide +kernel
theorem dX4_mayTellOther_83 : decode cX4_mayTellOther 83 = .ok (.iconst 0, 1) := by decide +kernel
theorem dX4_mayTellOther_84 : decode cX4_mayTellOther 84 = .ok (.ireturn, 1) := by decide +kernel
theorem dX4_mayTellOther_85 : decode cX4_mayTellOther 85 = .ok (.aload_n 0, 1) := by decide +kernel
theorem dX4_mayTellOther_86 : decode cX4_mayTellOther 86 = .ok (.getfield 10, 3) := by decide +kernel
theorem dX4_mayTellOther_89 : decode cX4_mayTellOther 89 = .ok (.iload_n 2, 1) := by decide +kernel
theorem dX4_mayTellOther_90 : decode cX4_mayTellOther 90 = .ok (.invokevirtual 61, 3) := by decide +kernel
theorem dX4_mayTellOther_93 : decode cX4_mayTellOther 93 = .ok (.ifCond .eq 17, 3) := by decide +kernel
theorem dX4_mayTellOther_96 : decode cX4_mayTellOther 96 = .ok (.iload_n 3, 1) := by decide +kernel
theorem dX4_mayTellOther_97 : decode cX4_mayTellOther 97 = .ok (.iconst (-1), 1) := by decide +kernel
theorem dX4_mayTellOther_98 : decode cX4_mayTellOther 98 = .ok (.bipush 20, 2) := by decide +kernel
theorem dX4_mayTellOther_100 : decode cX4_mayTellOther 100 = .ok (.invokestatic 57, 3) := by decide +kernel
theorem dX4_mayTellOther_103 : decode cX4_mayTellOther 103 = .ok (.ifCond .eq 7, 3) := by decide +kernel
theorem dX4_mayTellOther_106 : decode cX4_mayTellOther 106 = .ok (.iconst 1, 1) := by decide +kernel
theorem dX4_mayTellOther_107 : decode cX4_mayTellOther 107 = .ok (.goto 4, 3) := by decide +kernel
theorem dX4_mayTellOther_110 : decode cX4_mayTellOther 110 = .ok (.iconst 0, 1) := by decide +kernel
theorem dX4_mayTellOther_111 : decode cX4_mayTellOther 111 = .ok (.ireturn, 1) := by decide +kernel
theorem dX4_mayTellOther_112 : decode cX4_mayTellOther 112 = .ok (.iload_n 3, 1) := by decide +kernel
theorem dX4_mayTellOther_113 : decode cX4_mayTellOther 113 = .ok (.iconst (-1), 1) := by decide +kernel
theorem dX4_mayTellOther_114 : decode cX4_mayTellOther 114 = .ok (.if_icmp .eq 13, 3) := by decide +kernel
theorem dX4_mayTellOther_117 : decode cX4_mayTellOther 117 = .ok (.iload_n 3, 1) := by decide +kernel
theorem dX4_mayTellOther_118 : decode cX4_mayTellOther 118 = .ok (.iconst 1, 1) := by decide +kernel
theorem dX4_mayTellOther_119 : decode cX4_mayTellOther 119 = .ok (.bipush 9, 2) := by decide +kernel
theorem dX4_mayTellOther_121 : decode cX4_mayTellOther 121 = .ok (.invokestatic 57, 3) := by decide +kernel
theorem dX4_mayTellOther_124 : decode cX4_mayTellOther 124 = .ok (.ifCond .eq 7, 3) := by decide +kernel
theorem dX4_mayTellOther_127 : decode cX4_mayTellOther 127 = .ok (.iconst 1, 1) := by decide +kernel
theorem dX4_mayTellOther_128 : decode cX4_mayTellOther 128 = .ok (.goto 4, 3) := by decide +kernel
theorem dX4_mayTellOther_131 : decode cX4_mayTellOther 131 = .ok (.iconst 0, 1) := by decide +kernel
theorem dX4_mayTellOther_132 : decode cX4_mayTellOther 132 = .ok (.ireturn, 1) := by decide +kernel
theorem dX4_mayTellOther_133 : decode cX4_mayTellOther 133 = .ok (.iconst 0, 1) := by decide +kernel
theorem dX4_mayTellOther_134 : decode cX4_mayTellOther 134 = .ok (.ireturn, 1) := by decide +kernel
theorem dX4_chosenRun_0 : decode cX4_chosenRun 0 = .ok (.iload_n 1, 1) := by decide +kernel
theorem dX4_chosenRun_1 : decode cX4_chosenRun 1 = .ok (.ifCond .eq 10, 3) := by decide +kernel
theorem dX4_chosenRun_4 : decode cX4_chosenRun 4 = .ok (.aload_n 0, 1) := by decide +kernel
theorem dX4_chosenRun_5 : decode cX4_chosenRun 5 = .ok (.getfield 38, 3) := by decide +kernel
theorem dX4_chosenRun_8 : decode cX4_chosenRun 8 = .ok (.goto 7, 3) := by decide +kernel
theorem dX4_chosenRun_11 : decode cX4_chosenRun 11 = .ok (.aload_n 0, 1) := by decide +kernel
theorem dX4_chosenRun_12 : decode cX4_chosenRun 12 = .ok (.getfield 34, 3) := by decide +kernel
theorem dX4_chosenRun_15 : decode cX4_chosenRun 15 = .ok (.areturn, 1) := by decide +kernel
set_option maxRecDepth 20000 in
theorem ggX4_startAnew_X0_clear : GoodIn wsX4_startAnew wsX0_clear := goodIn_r _ [8, 9, 10, 75, 76, 77, 78, 79, 80, 81, 82, 83] (by decide +kernel) (by decide +kernel)
set_option maxRecDepth 20000 in
theorem gX4_startAnew_X0_clear : GoodIn wsX4_startAnew (wsV RX4 189 RX0 yX0_clear wsX0_clear) := goodIn_app (goodIn_of _ (by decide +kernel)) ggX4_startAnew_X0_clear
set_option maxRecDepth 20000 in
theorem ggX4_startAnew_X1_setAll : GoodIn wsX4_startAnew wsX1_setAll := goodIn_r _ [15, 16, 17, 18, 19, 14, 20, 21, 22, 23, 84, 85, 86, 87] (by decide +kernel) (by decide +kernel)
set_option maxRecDepth 20000 in
theorem gX4_startAnew_X1_setAll : GoodIn wsX4_startAnew (wsV RX4 192 RX1 yX1_setAll wsX1_setAll) := goodIn_app (goodIn_of _ (by decide +kernel)) ggX4_startAnew_X1_setAll
set_option maxRecDepth 20000 in
theorem ggX4_startAnew_X4_forgetRuns : GoodIn wsX4_startAnew wsX4_forgetRuns := goodIn_r _ [28, 29, 2, 3, 30, 31, 32, 33, 34, 35, 36, 14, 37, 21, 22, 23, 16, 38, 39, 40, 41, 42, 43, 44, 45, 46, 47, 48, 49, 50, 51, 52, 53, 54, 55, 56, 57, 58, 59, 60, 61, 62, 63, 64, 65, 66, 67, 68, 69, 70, 71, 72, 73, 74, 84, 85, 86, 87, 88, 89, 90, 91, 92, 93, 94, 95, 96, 97, 98, 99, 100, 101, 102, 103, 104, 105, 106, 107, 108, 109, 110, 111] (by decide +kernel) (by decide +kernel)
set_option maxRecDepth 20000 in
theorem gX4_startAnew_X4_forgetRuns : GoodIn wsX4_startAnew (wsV RX4 69 RX4 yX4_forgetRuns wsX4_forgetRuns) := goodIn_app (goodIn_of _ (by decide +kernel)) ggX4_startAnew_X4_forgetRuns
theorem dX4_startAnew_0 : decode cX4_startAnew 0 = .ok (.aload_n 0, 1) := by decide +kernel
theorem dX4_startAnew_1 : decode cX4_startAnew 1 = .ok (.getfield 10, 3) := by decide +kernel
theorem dX4_startAnew_4 : decode cX4_startAnew 4 = .ok (.iload_n 1, 1) := by decide +kernel
theorem dX4_startAnew_5 : decode cX4_startAnew 5 = .ok (.invokevirtual 189, 3) := by decide +kernel
theorem dX4_startAnew_8 : decode cX4_startAnew 8 = .ok (.aload_n 0, 1) := by decide +kernel
theorem dX4_startAnew_9 : decode cX4_startAnew 9 = .ok (.getfield 19, 3) := by decide +kernel
theorem dX4_startAnew_12 : decode cX4_startAnew 12 = .ok (.iconst 3, 1) := by decide +kernel
theorem dX4_startAnew_13 : decode cX4_startAnew 13 = .ok (.iconst 1, 1) := by decide +kernel
theorem dX4_startAnew_14 : decode cX4_startAnew 14 = .ok (.iconst 2, 1) := by decide +kernel
theorem dX4_startAnew_15 : decode cX4_startAnew 15 = .ok (.iconst 1, 1) := by decide +kernel
theorem dX4_startAnew_16 : decode cX4_startAnew 16 = .ok (.invokevirtual 192, 3) := by decide +kernel
theorem dX4_startAnew_19 : decode cX4_startAnew 19 = .ok (.aload_n 0, 1) := by decide +kernel
theorem dX4_startAnew_20 : decode cX4_startAnew 20 = .ok (.getfield 23, 3) := by decide +kernel
theorem dX4_startAnew_23 : decode cX4_startAnew 23 = .ok (.iconst (-1), 1) := by decide +kernel
theorem dX4_startAnew_24 : decode cX4_startAnew 24 = .ok (.iconst (-1), 1) := by decide +kernel
theorem dX4_startAnew_25 : decode cX4_startAnew 25 = .ok (.iconst (-1), 1) := by decide +kernel
theorem dX4_startAnew_26 : decode cX4_startAnew 26 = .ok (.iconst (-1), 1) := by decide +kernel
theorem dX4_startAnew_27 : decode cX4_startAnew 27 = .ok (.invokevirtual 192, 3) := by decide +kernel
theorem dX4_startAnew_30 : decode cX4_startAnew 30 = .ok (.aload_n 0, 1) := by decide +kernel
theorem dX4_startAnew_31 : decode cX4_startAnew 31 = .ok (.invokevirtual 69, 3) := by decide +kernel
theorem dX4_startAnew_34 : decode cX4_startAnew 34 = .ok (.return_, 1) := by decide +kernel
set_option maxRecDepth 20000 in
theorem ggX4_forgetRuns_X1_setTo : GoodIn wsX4_forgetRuns wsX1_setTo := goodIn_r _ [12, 13, 14, 15, 16, 17, 18, 11, 19, 54, 55, 56, 57] (by decide +kernel) (by decide +kernel)
set_option maxRecDepth 20000 in
theorem gX4_forgetRuns_X1_setTo : GoodIn wsX4_forgetRuns (wsV RX4 195 RX1 yX1_setTo wsX1_setTo) := goodIn_app (goodIn_of _ (by decide +kernel)) ggX4_forgetRuns_X1_setTo
set_option maxRecDepth 20000 in
theorem ggX4_forgetRuns_X2_restart : GoodIn wsX4_forgetRuns wsX2_restart := goodIn_r _ [24, 25, 26, 27, 28, 29, 30, 31, 32, 33, 34, 35, 36, 37, 38, 58, 59, 60, 61, 62, 63, 64, 65, 66, 67, 68, 69, 70, 71, 72, 73, 74] (by decide +kernel) (by decide +kernel)
set_option maxRecDepth 20000 in
theorem gX4_forgetRuns_X2_restart : GoodIn wsX4_forgetRuns (wsV RX4 159 RX2 yX2_restart wsX2_restart) := goodIn_app (goodIn_of _ (by decide +kernel)) ggX4_forgetRuns_X2_restart
set_option maxRecDepth 20000 in
theorem ggX4_forgetRuns_X3_forget : GoodIn wsX4_forgetRuns wsX3_forget := goodIn_r _ [43, 44, 45, 75, 76, 77, 78, 79, 80, 81] (by decide +kernel) (by decide +kernel)
set_option maxRecDepth 20000 in
theorem gX4_forgetRuns_X3_forget : GoodIn wsX4_forgetRuns (wsV RX4 199 RX3 yX3_forget wsX3_forget) := goodIn_app (goodIn_of _ (by decide +kernel)) ggX4_forgetRuns_X3_forget
theorem dX4_forgetRuns_0 : decode cX4_forgetRuns 0 = .ok (.aload_n 0, 1) := by decide +kernel
theorem dX4_forgetRuns_1 : decode cX4_forgetRuns 1 = .ok (.getfield 26, 3) := by decide +kernel
theorem dX4_forgetRuns_4 : decode cX4_forgetRuns 4 = .ok (.aload_n 0, 1) := by decide +kernel
theorem dX4_forgetRuns_5 : decode cX4_forgetRuns 5 = .ok (.getfield 19, 3) := by decide +kernel
theorem dX4_forgetRuns_8 : decode cX4_forgetRuns 8 = .ok (.aload_n 0, 1) := by decide +kernel
theorem dX4_forgetRuns_9 : decode cX4_forgetRuns 9 = .ok (.getfield 23, 3) := by decide +kernel
theorem dX4_forgetRuns_12 : decode cX4_forgetRuns 12 = .ok (.invokevirtual 195, 3) := by decide +kernel
theorem dX4_forgetRuns_15 : decode cX4_forgetRuns 15 = .ok (.aload_n 0, 1) := by decide +kernel
theorem dX4_forgetRuns_16 : decode cX4_forgetRuns 16 = .ok (.getfield 34, 3) := by decide +kernel
theorem dX4_forgetRuns_19 : decode cX4_forgetRuns 19 = .ok (.invokevirtual 159, 3) := by decide +kernel
theorem dX4_forgetRuns_22 : decode cX4_forgetRuns 22 = .ok (.aload_n 0, 1) := by decide +kernel
theorem dX4_forgetRuns_23 : decode cX4_forgetRuns 23 = .ok (.getfield 38, 3) := by decide +kernel
theorem dX4_forgetRuns_26 : decode cX4_forgetRuns 26 = .ok (.invokevirtual 159, 3) := by decide +kernel
theorem dX4_forgetRuns_29 : decode cX4_forgetRuns 29 = .ok (.aload_n 0, 1) := by decide +kernel
theorem dX4_forgetRuns_30 : decode cX4_forgetRuns 30 = .ok (.getfield 41, 3) := by decide +kernel
theorem dX4_forgetRuns_33 : decode cX4_forgetRuns 33 = .ok (.invokevirtual 159, 3) := by decide +kernel
theorem dX4_forgetRuns_36 : decode cX4_forgetRuns 36 = .ok (.aload_n 0, 1) := by decide +kernel
theorem dX4_forgetRuns_37 : decode cX4_forgetRuns 37 = .ok (.getfield 49, 3) := by decide +kernel
theorem dX4_forgetRuns_40 : decode cX4_forgetRuns 40 = .ok (.invokevirtual 199, 3) := by decide +kernel
theorem dX4_forgetRuns_43 : decode cX4_forgetRuns 43 = .ok (.return_, 1) := by decide +kernel
