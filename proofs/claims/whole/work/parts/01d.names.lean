theorem dX12_init_0 : decode cX12_init 0 = .ok (.aload_n 0, 1) := by decide +kernel
theorem dX12_init_1 : decode cX12_init 1 = .ok (.invokespecial 1, 3) := by decide +kernel
theorem dX12_init_4 : decode cX12_init 4 = .ok (.aload_n 0, 1) := by decide +kernel
theorem dX12_init_5 : decode cX12_init 5 = .ok (.sipush 1251, 3) := by decide +kernel
theorem dX12_init_8 : decode cX12_init 8 = .ok (.newarray .int, 2) := by decide +kernel
theorem dX12_init_10 : decode cX12_init 10 = .ok (.putfield 7, 3) := by decide +kernel
theorem dX12_init_13 : decode cX12_init 13 = .ok (.aload_n 0, 1) := by decide +kernel
theorem dX12_init_14 : decode cX12_init 14 = .ok (.iconst 2, 1) := by decide +kernel
theorem dX12_init_15 : decode cX12_init 15 = .ok (.newarray .boolean, 2) := by decide +kernel
theorem dX12_init_17 : decode cX12_init 17 = .ok (.putfield 13, 3) := by decide +kernel
theorem dX12_init_20 : decode cX12_init 20 = .ok (.aload_n 0, 1) := by decide +kernel
theorem dX12_init_21 : decode cX12_init 21 = .ok (.sipush 150, 3) := by decide +kernel
theorem dX12_init_24 : decode cX12_init 24 = .ok (.newarray .int, 2) := by decide +kernel
theorem dX12_init_26 : decode cX12_init 26 = .ok (.putfield 17, 3) := by decide +kernel
theorem dX12_init_29 : decode cX12_init 29 = .ok (.aload_n 0, 1) := by decide +kernel
theorem dX12_init_30 : decode cX12_init 30 = .ok (.lconst 0, 1) := by decide +kernel
theorem dX12_init_31 : decode cX12_init 31 = .ok (.putfield 20, 3) := by decide +kernel
theorem dX12_init_34 : decode cX12_init 34 = .ok (.aload_n 0, 1) := by decide +kernel
theorem dX12_init_35 : decode cX12_init 35 = .ok (.lconst 1, 1) := by decide +kernel
theorem dX12_init_36 : decode cX12_init 36 = .ok (.putfield 24, 3) := by decide +kernel
theorem dX12_init_39 : decode cX12_init 39 = .ok (.aload_n 0, 1) := by decide +kernel
theorem dX12_init_40 : decode cX12_init 40 = .ok (.iconst 3, 1) := by decide +kernel
theorem dX12_init_41 : decode cX12_init 41 = .ok (.newarray .int, 2) := by decide +kernel
theorem dX12_init_43 : decode cX12_init 43 = .ok (.putfield 27, 3) := by decide +kernel
theorem dX12_init_46 : decode cX12_init 46 = .ok (.aload_n 0, 1) := by decide +kernel
theorem dX12_init_47 : decode cX12_init 47 = .ok (.bipush 7, 2) := by decide +kernel
theorem dX12_init_49 : decode cX12_init 49 = .ok (.newarray .int, 2) := by decide +kernel
theorem dX12_init_51 : decode cX12_init 51 = .ok (.putfield 30, 3) := by decide +kernel
theorem dX12_init_54 : decode cX12_init 54 = .ok (.aload_n 0, 1) := by decide +kernel
theorem dX12_init_55 : decode cX12_init 55 = .ok (.bipush 7, 2) := by decide +kernel
theorem dX12_init_57 : decode cX12_init 57 = .ok (.newarray .int, 2) := by decide +kernel
theorem dX12_init_59 : decode cX12_init 59 = .ok (.putfield 33, 3) := by decide +kernel
theorem dX12_init_62 : decode cX12_init 62 = .ok (.aload_n 0, 1) := by decide +kernel
theorem dX12_init_63 : decode cX12_init 63 = .ok (.bipush 7, 2) := by decide +kernel
theorem dX12_init_65 : decode cX12_init 65 = .ok (.newarray .int, 2) := by decide +kernel
theorem dX12_init_67 : decode cX12_init 67 = .ok (.putfield 36, 3) := by decide +kernel
theorem dX12_init_70 : decode cX12_init 70 = .ok (.aload_n 0, 1) := by decide +kernel
theorem dX12_init_71 : decode cX12_init 71 = .ok (.bipush 7, 2) := by decide +kernel
theorem dX12_init_73 : decode cX12_init 73 = .ok (.newarray .int, 2) := by decide +kernel
theorem dX12_init_75 : decode cX12_init 75 = .ok (.putfield 39, 3) := by decide +kernel
theorem dX12_init_78 : decode cX12_init 78 = .ok (.aload_n 0, 1) := by decide +kernel
theorem dX12_init_79 : decode cX12_init 79 = .ok (.bipush 7, 2) := by decide +kernel
theorem dX12_init_81 : decode cX12_init 81 = .ok (.newarray .int, 2) := by decide +kernel
theorem dX12_init_83 : decode cX12_init 83 = .ok (.putfield 42, 3) := by decide +kernel
theorem dX12_init_86 : decode cX12_init 86 = .ok (.aload_n 0, 1) := by decide +kernel
theorem dX12_init_87 : decode cX12_init 87 = .ok (.bipush 7, 2) := by decide +kernel
theorem dX12_init_89 : decode cX12_init 89 = .ok (.newarray .int, 2) := by decide +kernel
theorem dX12_init_91 : decode cX12_init 91 = .ok (.putfield 45, 3) := by decide +kernel
theorem dX12_init_94 : decode cX12_init 94 = .ok (.aload_n 0, 1) := by decide +kernel
theorem dX12_init_95 : decode cX12_init 95 = .ok (.bipush 8, 2) := by decide +kernel
theorem dX12_init_97 : decode cX12_init 97 = .ok (.newarray .int, 2) := by decide +kernel
theorem dX12_init_99 : decode cX12_init 99 = .ok (.putfield 48, 3) := by decide +kernel
theorem dX12_init_102 : decode cX12_init 102 = .ok (.aload_n 0, 1) := by decide +kernel
theorem dX12_init_103 : decode cX12_init 103 = .ok (.bipush 8, 2) := by decide +kernel
theorem dX12_init_105 : decode cX12_init 105 = .ok (.newarray .int, 2) := by decide +kernel
theorem dX12_init_107 : decode cX12_init 107 = .ok (.putfield 51, 3) := by decide +kernel
theorem dX12_init_110 : decode cX12_init 110 = .ok (.aload_n 0, 1) := by decide +kernel
theorem dX12_init_111 : decode cX12_init 111 = .ok (.bipush 8, 2) := by decide +kernel
theorem dX12_init_113 : decode cX12_init 113 = .ok (.newarray .int, 2) := by decide +kernel
theorem dX12_init_115 : decode cX12_init 115 = .ok (.putfield 54, 3) := by decide +kernel
theorem dX12_init_118 : decode cX12_init 118 = .ok (.aload_n 0, 1) := by decide +kernel
theorem dX12_init_119 : decode cX12_init 119 = .ok (.bipush 6, 2) := by decide +kernel
theorem dX12_init_121 : decode cX12_init 121 = .ok (.newarray .int, 2) := by decide +kernel
theorem dX12_init_123 : decode cX12_init 123 = .ok (.putfield 57, 3) := by decide +kernel
theorem dX12_init_126 : decode cX12_init 126 = .ok (.aload_n 0, 1) := by decide +kernel
theorem dX12_init_127 : decode cX12_init 127 = .ok (.iconst 0, 1) := by decide +kernel
theorem dX12_init_128 : decode cX12_init 128 = .ok (.putfield 60, 3) := by decide +kernel
theorem dX12_init_131 : decode cX12_init 131 = .ok (.return_, 1) := by decide +kernel
theorem dX12_in_0 : decode cX12_in 0 = .ok (.lload_n 0, 1) := by decide +kernel
theorem dX12_in_1 : decode cX12_in 1 = .ok (.lload_n 2, 1) := by decide +kernel
theorem dX12_in_2 : decode cX12_in 2 = .ok (.lcmp, 1) := by decide +kernel
theorem dX12_in_3 : decode cX12_in 3 = .ok (.ifCond .lt 14, 3) := by decide +kernel
theorem dX12_in_6 : decode cX12_in 6 = .ok (.lload_n 0, 1) := by decide +kernel
theorem dX12_in_7 : decode cX12_in 7 = .ok (.lload 4, 2) := by decide +kernel
theorem dX12_in_9 : decode cX12_in 9 = .ok (.lcmp, 1) := by decide +kernel
theorem dX12_in_10 : decode cX12_in 10 = .ok (.ifCond .gt 7, 3) := by decide +kernel
theorem dX12_in_13 : decode cX12_in 13 = .ok (.iconst 1, 1) := by decide +kernel
theorem dX12_in_14 : decode cX12_in 14 = .ok (.goto 4, 3) := by decide +kernel
theorem dX12_in_17 : decode cX12_in 17 = .ok (.iconst 0, 1) := by decide +kernel
theorem dX12_in_18 : decode cX12_in 18 = .ok (.ireturn, 1) := by decide +kernel
theorem dX12_has_0 : decode cX12_has 0 = .ok (.iload_n 0, 1) := by decide +kernel
theorem dX12_has_1 : decode cX12_has 1 = .ok (.iload_n 1, 1) := by decide +kernel
theorem dX12_has_2 : decode cX12_has 2 = .ok (.ishr, 1) := by decide +kernel
theorem dX12_has_3 : decode cX12_has 3 = .ok (.iconst 1, 1) := by decide +kernel
theorem dX12_has_4 : decode cX12_has 4 = .ok (.iand, 1) := by decide +kernel
theorem dX12_has_5 : decode cX12_has 5 = .ok (.iconst 1, 1) := by decide +kernel
theorem dX12_has_6 : decode cX12_has 6 = .ok (.if_icmp .ne 7, 3) := by decide +kernel
theorem dX12_has_9 : decode cX12_has 9 = .ok (.iconst 1, 1) := by decide +kernel
theorem dX12_has_10 : decode cX12_has 10 = .ok (.goto 4, 3) := by decide +kernel
theorem dX12_has_13 : decode cX12_has 13 = .ok (.iconst 0, 1) := by decide +kernel
theorem dX12_has_14 : decode cX12_has 14 = .ok (.ireturn, 1) := by decide +kernel
theorem dX12_ones_0 : decode cX12_ones 0 = .ok (.iconst 0, 1) := by decide +kernel
theorem dX12_ones_1 : decode cX12_ones 1 = .ok (.istore_n 1, 1) := by decide +kernel
theorem dX12_ones_2 : decode cX12_ones 2 = .ok (.iconst 0, 1) := by decide +kernel
theorem dX12_ones_3 : decode cX12_ones 3 = .ok (.istore_n 2, 1) := by decide +kernel
theorem dX12_ones_4 : decode cX12_ones 4 = .ok (.iload_n 2, 1) := by decide +kernel
theorem dX12_ones_5 : decode cX12_ones 5 = .ok (.bipush 7, 2) := by decide +kernel
theorem dX12_ones_7 : decode cX12_ones 7 = .ok (.if_icmp .ge 17, 3) := by decide +kernel
theorem dX12_ones_10 : decode cX12_ones 10 = .ok (.iload_n 1, 1) := by decide +kernel
theorem dX12_ones_11 : decode cX12_ones 11 = .ok (.iload_n 0, 1) := by decide +kernel
theorem dX12_ones_12 : decode cX12_ones 12 = .ok (.iload_n 2, 1) := by decide +kernel
theorem dX12_ones_13 : decode cX12_ones 13 = .ok (.ishr, 1) := by decide +kernel
theorem dX12_ones_14 : decode cX12_ones 14 = .ok (.iconst 1, 1) := by decide +kernel
theorem dX12_ones_15 : decode cX12_ones 15 = .ok (.iand, 1) := by decide +kernel
theorem dX12_ones_16 : decode cX12_ones 16 = .ok (.iadd, 1) := by decide +kernel
theorem dX12_ones_17 : decode cX12_ones 17 = .ok (.istore_n 1, 1) := by decide +kernel
theorem dX12_ones_18 : decode cX12_ones 18 = .ok (.iinc 2 1, 3) := by decide +kernel
theorem dX12_ones_21 : decode cX12_ones 21 = .ok (.goto (-17), 3) := by decide +kernel
theorem dX12_ones_24 : decode cX12_ones 24 = .ok (.iload_n 1, 1) := by decide +kernel
theorem dX12_ones_25 : decode cX12_ones 25 = .ok (.ireturn, 1) := by decide +kernel
theorem dX12_bad_0 : decode cX12_bad 0 = .ok (.aload_n 0, 1) := by decide +kernel
theorem dX12_bad_1 : decode cX12_bad 1 = .ok (.getfield 27, 3) := by decide +kernel
theorem dX12_bad_4 : decode cX12_bad 4 = .ok (.iconst 0, 1) := by decide +kernel
theorem dX12_bad_5 : decode cX12_bad 5 = .ok (.dup2, 1) := by decide +kernel
theorem dX12_bad_6 : decode cX12_bad 6 = .ok (.iaload, 1) := by decide +kernel
theorem dX12_bad_7 : decode cX12_bad 7 = .ok (.iconst 1, 1) := by decide +kernel
theorem dX12_bad_8 : decode cX12_bad 8 = .ok (.iadd, 1) := by decide +kernel
theorem dX12_bad_9 : decode cX12_bad 9 = .ok (.iastore, 1) := by decide +kernel
theorem dX12_bad_10 : decode cX12_bad 10 = .ok (.iload_n 1, 1) := by decide +kernel
theorem dX12_bad_11 : decode cX12_bad 11 = .ok (.ireturn, 1) := by decide +kernel
theorem dX12_no_0 : decode cX12_no 0 = .ok (.aload_n 0, 1) := by decide +kernel
theorem dX12_no_1 : decode cX12_no 1 = .ok (.getfield 27, 3) := by decide +kernel
theorem dX12_no_4 : decode cX12_no 4 = .ok (.iconst 1, 1) := by decide +kernel
theorem dX12_no_5 : decode cX12_no 5 = .ok (.dup2, 1) := by decide +kernel
theorem dX12_no_6 : decode cX12_no 6 = .ok (.iaload, 1) := by decide +kernel
theorem dX12_no_7 : decode cX12_no 7 = .ok (.iconst 1, 1) := by decide +kernel
theorem dX12_no_8 : decode cX12_no 8 = .ok (.iadd, 1) := by decide +kernel
theorem dX12_no_9 : decode cX12_no 9 = .ok (.iastore, 1) := by decide +kernel
theorem dX12_no_10 : decode cX12_no 10 = .ok (.bipush (-3), 2) := by decide +kernel
theorem dX12_no_12 : decode cX12_no 12 = .ok (.ireturn, 1) := by decide +kernel
theorem dX12_full_0 : decode cX12_full 0 = .ok (.aload_n 0, 1) := by decide +kernel
theorem dX12_full_1 : decode cX12_full 1 = .ok (.getfield 27, 3) := by decide +kernel
theorem dX12_full_4 : decode cX12_full 4 = .ok (.iconst 2, 1) := by decide +kernel
theorem dX12_full_5 : decode cX12_full 5 = .ok (.dup2, 1) := by decide +kernel
theorem dX12_full_6 : decode cX12_full 6 = .ok (.iaload, 1) := by decide +kernel
theorem dX12_full_7 : decode cX12_full 7 = .ok (.iconst 1, 1) := by decide +kernel
theorem dX12_full_8 : decode cX12_full 8 = .ok (.iadd, 1) := by decide +kernel
theorem dX12_full_9 : decode cX12_full 9 = .ok (.iastore, 1) := by decide +kernel
theorem dX12_full_10 : decode cX12_full 10 = .ok (.bipush (-4), 2) := by decide +kernel
theorem dX12_full_12 : decode cX12_full 12 = .ok (.ireturn, 1) := by decide +kernel
theorem dX12_copy_0 : decode cX12_copy 0 = .ok (.iconst 0, 1) := by decide +kernel
theorem dX12_copy_1 : decode cX12_copy 1 = .ok (.istore_n 3, 1) := by decide +kernel
theorem dX12_copy_2 : decode cX12_copy 2 = .ok (.iload_n 3, 1) := by decide +kernel
theorem dX12_copy_3 : decode cX12_copy 3 = .ok (.sipush 301, 3) := by decide +kernel
theorem dX12_copy_6 : decode cX12_copy 6 = .ok (.if_icmp .ge 25, 3) := by decide +kernel
theorem dX12_copy_9 : decode cX12_copy 9 = .ok (.aload_n 0, 1) := by decide +kernel
theorem dX12_copy_10 : decode cX12_copy 10 = .ok (.getfield 7, 3) := by decide +kernel
theorem dX12_copy_13 : decode cX12_copy 13 = .ok (.iload_n 2, 1) := by decide +kernel
theorem dX12_copy_14 : decode cX12_copy 14 = .ok (.iload_n 3, 1) := by decide +kernel
theorem dX12_copy_15 : decode cX12_copy 15 = .ok (.iadd, 1) := by decide +kernel
theorem dX12_copy_16 : decode cX12_copy 16 = .ok (.aload_n 0, 1) := by decide +kernel
theorem dX12_copy_17 : decode cX12_copy 17 = .ok (.getfield 7, 3) := by decide +kernel
theorem dX12_copy_20 : decode cX12_copy 20 = .ok (.iload_n 1, 1) := by decide +kernel
theorem dX12_copy_21 : decode cX12_copy 21 = .ok (.iload_n 3, 1) := by decide +kernel
theorem dX12_copy_22 : decode cX12_copy 22 = .ok (.iadd, 1) := by decide +kernel
theorem dX12_copy_23 : decode cX12_copy 23 = .ok (.iaload, 1) := by decide +kernel
theorem dX12_copy_24 : decode cX12_copy 24 = .ok (.iastore, 1) := by decide +kernel
theorem dX12_copy_25 : decode cX12_copy 25 = .ok (.iinc 3 1, 3) := by decide +kernel
theorem dX12_copy_28 : decode cX12_copy 28 = .ok (.goto (-26), 3) := by decide +kernel
theorem dX12_copy_31 : decode cX12_copy 31 = .ok (.return_, 1) := by decide +kernel
theorem dX12_empties_0 : decode cX12_empties 0 = .ok (.iconst 0, 1) := by decide +kernel
theorem dX12_empties_1 : decode cX12_empties 1 = .ok (.istore_n 2, 1) := by decide +kernel
theorem dX12_empties_2 : decode cX12_empties 2 = .ok (.iload_n 2, 1) := by decide +kernel
theorem dX12_empties_3 : decode cX12_empties 3 = .ok (.sipush 301, 3) := by decide +kernel
theorem dX12_empties_6 : decode cX12_empties 6 = .ok (.if_icmp .ge 18, 3) := by decide +kernel
theorem dX12_empties_9 : decode cX12_empties 9 = .ok (.aload_n 0, 1) := by decide +kernel
theorem dX12_empties_10 : decode cX12_empties 10 = .ok (.getfield 7, 3) := by decide +kernel
theorem dX12_empties_13 : decode cX12_empties 13 = .ok (.iload_n 1, 1) := by decide +kernel
theorem dX12_empties_14 : decode cX12_empties 14 = .ok (.iload_n 2, 1) := by decide +kernel
theorem dX12_empties_15 : decode cX12_empties 15 = .ok (.iadd, 1) := by decide +kernel
theorem dX12_empties_16 : decode cX12_empties 16 = .ok (.iconst 0, 1) := by decide +kernel
theorem dX12_empties_17 : decode cX12_empties 17 = .ok (.iastore, 1) := by decide +kernel
theorem dX12_empties_18 : decode cX12_empties 18 = .ok (.iinc 2 1, 3) := by decide +kernel
theorem dX12_empties_21 : decode cX12_empties 21 = .ok (.goto (-19), 3) := by decide +kernel
theorem dX12_empties_24 : decode cX12_empties 24 = .ok (.return_, 1) := by decide +kernel
set_option maxRecDepth 20000 in
theorem ggX12_isClerk_X12_in : GoodIn wsX12_isClerk wsX12_in := goodIn_r _ [5] (by decide +kernel) (by decide +kernel)
set_option maxRecDepth 20000 in
theorem gX12_isClerk_X12_in : GoodIn wsX12_isClerk (va_wsS RX12 64 yX12_in wsX12_in) := goodIn_app (goodIn_of _ (by decide +kernel)) ggX12_isClerk_X12_in
theorem dX12_isClerk_0 : decode cX12_isClerk 0 = .ok (.iload_n 1, 1) := by decide +kernel
theorem dX12_isClerk_1 : decode cX12_isClerk 1 = .ok (.i2l, 1) := by decide +kernel
theorem dX12_isClerk_2 : decode cX12_isClerk 2 = .ok (.lconst 0, 1) := by decide +kernel
theorem dX12_isClerk_3 : decode cX12_isClerk 3 = .ok (.aload_n 0, 1) := by decide +kernel
theorem dX12_isClerk_4 : decode cX12_isClerk 4 = .ok (.getfield 7, 3) := by decide +kernel
theorem dX12_isClerk_7 : decode cX12_isClerk 7 = .ok (.iconst 0, 1) := by decide +kernel
theorem dX12_isClerk_8 : decode cX12_isClerk 8 = .ok (.iaload, 1) := by decide +kernel
theorem dX12_isClerk_9 : decode cX12_isClerk 9 = .ok (.iconst 1, 1) := by decide +kernel
theorem dX12_isClerk_10 : decode cX12_isClerk 10 = .ok (.isub, 1) := by decide +kernel
theorem dX12_isClerk_11 : decode cX12_isClerk 11 = .ok (.i2l, 1) := by decide +kernel
theorem dX12_isClerk_12 : decode cX12_isClerk 12 = .ok (.invokestatic 64, 3) := by decide +kernel
theorem dX12_isClerk_15 : decode cX12_isClerk 15 = .ok (.ireturn, 1) := by decide +kernel
set_option maxRecDepth 20000 in
theorem ggX12_isMagnet_X12_in : GoodIn wsX12_isMagnet wsX12_in := goodIn_r _ [5] (by decide +kernel) (by decide +kernel)
set_option maxRecDepth 20000 in
theorem gX12_isMagnet_X12_in : GoodIn wsX12_isMagnet (va_wsS RX12 64 yX12_in wsX12_in) := goodIn_app (goodIn_of _ (by decide +kernel)) ggX12_isMagnet_X12_in
theorem dX12_isMagnet_0 : decode cX12_isMagnet 0 = .ok (.iload_n 1, 1) := by decide +kernel
theorem dX12_isMagnet_1 : decode cX12_isMagnet 1 = .ok (.i2l, 1) := by decide +kernel
theorem dX12_isMagnet_2 : decode cX12_isMagnet 2 = .ok (.lconst 0, 1) := by decide +kernel
theorem dX12_isMagnet_3 : decode cX12_isMagnet 3 = .ok (.aload_n 0, 1) := by decide +kernel
theorem dX12_isMagnet_4 : decode cX12_isMagnet 4 = .ok (.getfield 7, 3) := by decide +kernel
theorem dX12_isMagnet_7 : decode cX12_isMagnet 7 = .ok (.iconst 1, 1) := by decide +kernel
theorem dX12_isMagnet_8 : decode cX12_isMagnet 8 = .ok (.iaload, 1) := by decide +kernel
theorem dX12_isMagnet_9 : decode cX12_isMagnet 9 = .ok (.iconst 1, 1) := by decide +kernel
theorem dX12_isMagnet_10 : decode cX12_isMagnet 10 = .ok (.isub, 1) := by decide +kernel
theorem dX12_isMagnet_11 : decode cX12_isMagnet 11 = .ok (.i2l, 1) := by decide +kernel
theorem dX12_isMagnet_12 : decode cX12_isMagnet 12 = .ok (.invokestatic 64, 3) := by decide +kernel
theorem dX12_isMagnet_15 : decode cX12_isMagnet 15 = .ok (.ireturn, 1) := by decide +kernel
theorem dX12_rusty_0 : decode cX12_rusty 0 = .ok (.iload_n 0, 1) := by decide +kernel
theorem dX12_rusty_1 : decode cX12_rusty 1 = .ok (.iconst 1, 1) := by decide +kernel
theorem dX12_rusty_2 : decode cX12_rusty 2 = .ok (.isub, 1) := by decide +kernel
theorem dX12_rusty_3 : decode cX12_rusty 3 = .ok (.iload_n 1, 1) := by decide +kernel
theorem dX12_rusty_4 : decode cX12_rusty 4 = .ok (.iconst 4, 1) := by decide +kernel
theorem dX12_rusty_5 : decode cX12_rusty 5 = .ok (.if_icmp .le 7, 3) := by decide +kernel
theorem dX12_rusty_8 : decode cX12_rusty 8 = .ok (.iconst 4, 1) := by decide +kernel
theorem dX12_rusty_9 : decode cX12_rusty 9 = .ok (.goto 4, 3) := by decide +kernel
theorem dX12_rusty_12 : decode cX12_rusty 12 = .ok (.iload_n 1, 1) := by decide +kernel
theorem dX12_rusty_13 : decode cX12_rusty 13 = .ok (.isub, 1) := by decide +kernel
theorem dX12_rusty_14 : decode cX12_rusty 14 = .ok (.istore_n 2, 1) := by decide +kernel
theorem dX12_rusty_15 : decode cX12_rusty 15 = .ok (.iload_n 2, 1) := by decide +kernel
theorem dX12_rusty_16 : decode cX12_rusty 16 = .ok (.ifCond .ge 7, 3) := by decide +kernel
theorem dX12_rusty_19 : decode cX12_rusty 19 = .ok (.iconst 0, 1) := by decide +kernel
theorem dX12_rusty_20 : decode cX12_rusty 20 = .ok (.goto 4, 3) := by decide +kernel
theorem dX12_rusty_23 : decode cX12_rusty 23 = .ok (.iload_n 2, 1) := by decide +kernel
theorem dX12_rusty_24 : decode cX12_rusty 24 = .ok (.ireturn, 1) := by decide +kernel
set_option maxRecDepth 20000 in
theorem ggX12_goesOn_X12_rusty : GoodIn wsX12_goesOn wsX12_rusty := goodIn_r _ [4] (by decide +kernel) (by decide +kernel)
set_option maxRecDepth 20000 in
theorem gX12_goesOn_X12_rusty : GoodIn wsX12_goesOn (va_wsS RX12 68 yX12_rusty wsX12_rusty) := goodIn_app (goodIn_of _ (by decide +kernel)) ggX12_goesOn_X12_rusty
theorem dX12_goesOn_0 : decode cX12_goesOn 0 = .ok (.iload_n 0, 1) := by decide +kernel
theorem dX12_goesOn_1 : decode cX12_goesOn 1 = .ok (.tableswitch 81 1 5 #[35, 41, 43, 51, 64], 35) := by decide +kernel
theorem dX12_goesOn_36 : decode cX12_goesOn 36 = .ok (.iload_n 1, 1) := by decide +kernel
theorem dX12_goesOn_37 : decode cX12_goesOn 37 = .ok (.iload_n 2, 1) := by decide +kernel
theorem dX12_goesOn_38 : decode cX12_goesOn 38 = .ok (.invokestatic 68, 3) := by decide +kernel
theorem dX12_goesOn_41 : decode cX12_goesOn 41 = .ok (.ireturn, 1) := by decide +kernel
theorem dX12_goesOn_42 : decode cX12_goesOn 42 = .ok (.iload_n 1, 1) := by decide +kernel
theorem dX12_goesOn_43 : decode cX12_goesOn 43 = .ok (.ireturn, 1) := by decide +kernel
theorem dX12_goesOn_44 : decode cX12_goesOn 44 = .ok (.iload_n 1, 1) := by decide +kernel
theorem dX12_goesOn_45 : decode cX12_goesOn 45 = .ok (.iload_n 2, 1) := by decide +kernel
theorem dX12_goesOn_46 : decode cX12_goesOn 46 = .ok (.invokestatic 68, 3) := by decide +kernel
theorem dX12_goesOn_49 : decode cX12_goesOn 49 = .ok (.iconst 2, 1) := by decide +kernel
theorem dX12_goesOn_50 : decode cX12_goesOn 50 = .ok (.idiv, 1) := by decide +kernel
theorem dX12_goesOn_51 : decode cX12_goesOn 51 = .ok (.ireturn, 1) := by decide +kernel
theorem dX12_goesOn_52 : decode cX12_goesOn 52 = .ok (.iload_n 1, 1) := by decide +kernel
theorem dX12_goesOn_53 : decode cX12_goesOn 53 = .ok (.iconst 5, 1) := by decide +kernel
theorem dX12_goesOn_54 : decode cX12_goesOn 54 = .ok (.if_icmp .lt 9, 3) := by decide +kernel
theorem dX12_goesOn_57 : decode cX12_goesOn 57 = .ok (.iload_n 1, 1) := by decide +kernel
theorem dX12_goesOn_58 : decode cX12_goesOn 58 = .ok (.iconst 1, 1) := by decide +kernel
theorem dX12_goesOn_59 : decode cX12_goesOn 59 = .ok (.isub, 1) := by decide +kernel
theorem dX12_goesOn_60 : decode cX12_goesOn 60 = .ok (.goto 4, 3) := by decide +kernel
theorem dX12_goesOn_63 : decode cX12_goesOn 63 = .ok (.iconst 0, 1) := by decide +kernel
theorem dX12_goesOn_64 : decode cX12_goesOn 64 = .ok (.ireturn, 1) := by decide +kernel
theorem dX12_goesOn_65 : decode cX12_goesOn 65 = .ok (.iconst 2, 1) := by decide +kernel
theorem dX12_goesOn_66 : decode cX12_goesOn 66 = .ok (.iload_n 1, 1) := by decide +kernel
theorem dX12_goesOn_67 : decode cX12_goesOn 67 = .ok (.imul, 1) := by decide +kernel
theorem dX12_goesOn_68 : decode cX12_goesOn 68 = .ok (.bipush 20, 2) := by decide +kernel
theorem dX12_goesOn_70 : decode cX12_goesOn 70 = .ok (.if_icmp .le 8, 3) := by decide +kernel
theorem dX12_goesOn_73 : decode cX12_goesOn 73 = .ok (.bipush 20, 2) := by decide +kernel
theorem dX12_goesOn_75 : decode cX12_goesOn 75 = .ok (.goto 6, 3) := by decide +kernel
theorem dX12_goesOn_78 : decode cX12_goesOn 78 = .ok (.iconst 2, 1) := by decide +kernel
theorem dX12_goesOn_79 : decode cX12_goesOn 79 = .ok (.iload_n 1, 1) := by decide +kernel
theorem dX12_goesOn_80 : decode cX12_goesOn 80 = .ok (.imul, 1) := by decide +kernel
theorem dX12_goesOn_81 : decode cX12_goesOn 81 = .ok (.ireturn, 1) := by decide +kernel
theorem dX12_goesOn_82 : decode cX12_goesOn 82 = .ok (.iload_n 1, 1) := by decide +kernel
theorem dX12_goesOn_83 : decode cX12_goesOn 83 = .ok (.iconst 1, 1) := by decide +kernel
theorem dX12_goesOn_84 : decode cX12_goesOn 84 = .ok (.isub, 1) := by decide +kernel
theorem dX12_goesOn_85 : decode cX12_goesOn 85 = .ok (.ireturn, 1) := by decide +kernel
theorem dX12_plain_0 : decode cX12_plain 0 = .ok (.iload_n 1, 1) := by decide +kernel
theorem dX12_plain_1 : decode cX12_plain 1 = .ok (.iconst 2, 1) := by decide +kernel
theorem dX12_plain_2 : decode cX12_plain 2 = .ok (.iload_n 0, 1) := by decide +kernel
theorem dX12_plain_3 : decode cX12_plain 3 = .ok (.imul, 1) := by decide +kernel
theorem dX12_plain_4 : decode cX12_plain 4 = .ok (.if_icmp .le 7, 3) := by decide +kernel
theorem dX12_plain_7 : decode cX12_plain 7 = .ok (.iconst 0, 1) := by decide +kernel
theorem dX12_plain_8 : decode cX12_plain 8 = .ok (.goto 8, 3) := by decide +kernel
theorem dX12_plain_11 : decode cX12_plain 11 = .ok (.iconst 2, 1) := by decide +kernel
theorem dX12_plain_12 : decode cX12_plain 12 = .ok (.iload_n 0, 1) := by decide +kernel
theorem dX12_plain_13 : decode cX12_plain 13 = .ok (.imul, 1) := by decide +kernel
theorem dX12_plain_14 : decode cX12_plain 14 = .ok (.iload_n 1, 1) := by decide +kernel
theorem dX12_plain_15 : decode cX12_plain 15 = .ok (.isub, 1) := by decide +kernel
theorem dX12_plain_16 : decode cX12_plain 16 = .ok (.ireturn, 1) := by decide +kernel
set_option maxRecDepth 20000 in
theorem ggX12_horseshoe_X12_plain : GoodIn wsX12_horseshoe wsX12_plain := goodIn_r _ [4] (by decide +kernel) (by decide +kernel)
set_option maxRecDepth 20000 in
theorem gX12_horseshoe_X12_plain : GoodIn wsX12_horseshoe (va_wsS RX12 72 yX12_plain wsX12_plain) := goodIn_app (goodIn_of _ (by decide +kernel)) ggX12_horseshoe_X12_plain
theorem dX12_horseshoe_0 : decode cX12_horseshoe 0 = .ok (.iload_n 1, 1) := by decide +kernel
theorem dX12_horseshoe_1 : decode cX12_horseshoe 1 = .ok (.iconst 2, 1) := by decide +kernel
theorem dX12_horseshoe_2 : decode cX12_horseshoe 2 = .ok (.if_icmp .gt 13, 3) := by decide +kernel
theorem dX12_horseshoe_5 : decode cX12_horseshoe 5 = .ok (.iconst 2, 1) := by decide +kernel
theorem dX12_horseshoe_6 : decode cX12_horseshoe 6 = .ok (.iload_n 0, 1) := by decide +kernel
theorem dX12_horseshoe_7 : decode cX12_horseshoe 7 = .ok (.iload_n 1, 1) := by decide +kernel
theorem dX12_horseshoe_8 : decode cX12_horseshoe 8 = .ok (.invokestatic 72, 3) := by decide +kernel
theorem dX12_horseshoe_11 : decode cX12_horseshoe 11 = .ok (.imul, 1) := by decide +kernel
theorem dX12_horseshoe_12 : decode cX12_horseshoe 12 = .ok (.goto 8, 3) := by decide +kernel
theorem dX12_horseshoe_15 : decode cX12_horseshoe 15 = .ok (.iload_n 0, 1) := by decide +kernel
theorem dX12_horseshoe_16 : decode cX12_horseshoe 16 = .ok (.iload_n 1, 1) := by decide +kernel
theorem dX12_horseshoe_17 : decode cX12_horseshoe 17 = .ok (.invokestatic 72, 3) := by decide +kernel
theorem dX12_horseshoe_20 : decode cX12_horseshoe 20 = .ok (.ireturn, 1) := by decide +kernel
set_option maxRecDepth 20000 in
theorem ggX12_pullOf_X12_horseshoe : GoodIn wsX12_pullOf wsX12_horseshoe := goodIn_r _ [4, 5, 6, 3, 7] (by decide +kernel) (by decide +kernel)
set_option maxRecDepth 20000 in
theorem gX12_pullOf_X12_horseshoe : GoodIn wsX12_pullOf (va_wsS RX12 75 yX12_horseshoe wsX12_horseshoe) := goodIn_app (goodIn_of _ (by decide +kernel)) ggX12_pullOf_X12_horseshoe
set_option maxRecDepth 20000 in
theorem ggX12_pullOf_X12_plain : GoodIn wsX12_pullOf wsX12_plain := goodIn_r _ [7] (by decide +kernel) (by decide +kernel)
set_option maxRecDepth 20000 in
theorem gX12_pullOf_X12_plain : GoodIn wsX12_pullOf (va_wsS RX12 72 yX12_plain wsX12_plain) := goodIn_app (goodIn_of _ (by decide +kernel)) ggX12_pullOf_X12_plain
theorem dX12_pullOf_0 : decode cX12_pullOf 0 = .ok (.iload_n 0, 1) := by decide +kernel
theorem dX12_pullOf_1 : decode cX12_pullOf 1 = .ok (.tableswitch 103 1 5 #[35, 41, 51, 71, 78], 35) := by decide +kernel
theorem dX12_pullOf_36 : decode cX12_pullOf 36 = .ok (.iload_n 1, 1) := by decide +kernel
theorem dX12_pullOf_37 : decode cX12_pullOf 37 = .ok (.iload_n 2, 1) := by decide +kernel
theorem dX12_pullOf_38 : decode cX12_pullOf 38 = .ok (.invokestatic 75, 3) := by decide +kernel
theorem dX12_pullOf_41 : decode cX12_pullOf 41 = .ok (.ireturn, 1) := by decide +kernel
theorem dX12_pullOf_42 : decode cX12_pullOf 42 = .ok (.iload_n 1, 1) := by decide +kernel
theorem dX12_pullOf_43 : decode cX12_pullOf 43 = .ok (.iload_n 2, 1) := by decide +kernel
theorem dX12_pullOf_44 : decode cX12_pullOf 44 = .ok (.invokestatic 72, 3) := by decide +kernel
theorem dX12_pullOf_47 : decode cX12_pullOf 47 = .ok (.iconst 1, 1) := by decide +kernel
theorem dX12_pullOf_48 : decode cX12_pullOf 48 = .ok (.iadd, 1) := by decide +kernel
theorem dX12_pullOf_49 : decode cX12_pullOf 49 = .ok (.iconst 2, 1) := by decide +kernel
theorem dX12_pullOf_50 : decode cX12_pullOf 50 = .ok (.idiv, 1) := by decide +kernel
theorem dX12_pullOf_51 : decode cX12_pullOf 51 = .ok (.ireturn, 1) := by decide +kernel
theorem dX12_pullOf_52 : decode cX12_pullOf 52 = .ok (.iload_n 3, 1) := by decide +kernel
theorem dX12_pullOf_53 : decode cX12_pullOf 53 = .ok (.iconst 2, 1) := by decide +kernel
theorem dX12_pullOf_54 : decode cX12_pullOf 54 = .ok (.irem, 1) := by decide +kernel
theorem dX12_pullOf_55 : decode cX12_pullOf 55 = .ok (.ifCond .ne 15, 3) := by decide +kernel
theorem dX12_pullOf_58 : decode cX12_pullOf 58 = .ok (.iload_n 1, 1) := by decide +kernel
theorem dX12_pullOf_59 : decode cX12_pullOf 59 = .ok (.iload_n 2, 1) := by decide +kernel
theorem dX12_pullOf_60 : decode cX12_pullOf 60 = .ok (.invokestatic 72, 3) := by decide +kernel
theorem dX12_pullOf_63 : decode cX12_pullOf 63 = .ok (.iconst 1, 1) := by decide +kernel
theorem dX12_pullOf_64 : decode cX12_pullOf 64 = .ok (.iadd, 1) := by decide +kernel
theorem dX12_pullOf_65 : decode cX12_pullOf 65 = .ok (.iconst 2, 1) := by decide +kernel
theorem dX12_pullOf_66 : decode cX12_pullOf 66 = .ok (.idiv, 1) := by decide +kernel
theorem dX12_pullOf_67 : decode cX12_pullOf 67 = .ok (.goto 4, 3) := by decide +kernel
theorem dX12_pullOf_70 : decode cX12_pullOf 70 = .ok (.iconst 0, 1) := by decide +kernel
theorem dX12_pullOf_71 : decode cX12_pullOf 71 = .ok (.ireturn, 1) := by decide +kernel
theorem dX12_pullOf_72 : decode cX12_pullOf 72 = .ok (.iload_n 1, 1) := by decide +kernel
theorem dX12_pullOf_73 : decode cX12_pullOf 73 = .ok (.iload_n 2, 1) := by decide +kernel
theorem dX12_pullOf_74 : decode cX12_pullOf 74 = .ok (.invokestatic 72, 3) := by decide +kernel
theorem dX12_pullOf_77 : decode cX12_pullOf 77 = .ok (.ineg, 1) := by decide +kernel
theorem dX12_pullOf_78 : decode cX12_pullOf 78 = .ok (.ireturn, 1) := by decide +kernel
theorem dX12_pullOf_79 : decode cX12_pullOf 79 = .ok (.iload_n 1, 1) := by decide +kernel
theorem dX12_pullOf_80 : decode cX12_pullOf 80 = .ok (.iload_n 2, 1) := by decide +kernel
theorem dX12_pullOf_81 : decode cX12_pullOf 81 = .ok (.invokestatic 75, 3) := by decide +kernel
theorem dX12_pullOf_84 : decode cX12_pullOf 84 = .ok (.iconst 1, 1) := by decide +kernel
theorem dX12_pullOf_85 : decode cX12_pullOf 85 = .ok (.if_icmp .lt 13, 3) := by decide +kernel
theorem dX12_pullOf_88 : decode cX12_pullOf 88 = .ok (.iload_n 1, 1) := by decide +kernel
theorem dX12_pullOf_89 : decode cX12_pullOf 89 = .ok (.iload_n 2, 1) := by decide +kernel
theorem dX12_pullOf_90 : decode cX12_pullOf 90 = .ok (.invokestatic 75, 3) := by decide +kernel
theorem dX12_pullOf_93 : decode cX12_pullOf 93 = .ok (.iconst 3, 1) := by decide +kernel
theorem dX12_pullOf_94 : decode cX12_pullOf 94 = .ok (.iadd, 1) := by decide +kernel
theorem dX12_pullOf_95 : decode cX12_pullOf 95 = .ok (.goto 8, 3) := by decide +kernel
theorem dX12_pullOf_98 : decode cX12_pullOf 98 = .ok (.iload_n 1, 1) := by decide +kernel
theorem dX12_pullOf_99 : decode cX12_pullOf 99 = .ok (.iload_n 2, 1) := by decide +kernel
theorem dX12_pullOf_100 : decode cX12_pullOf 100 = .ok (.invokestatic 75, 3) := by decide +kernel
theorem dX12_pullOf_103 : decode cX12_pullOf 103 = .ok (.ireturn, 1) := by decide +kernel
theorem dX12_pullOf_104 : decode cX12_pullOf 104 = .ok (.iload_n 1, 1) := by decide +kernel
theorem dX12_pullOf_105 : decode cX12_pullOf 105 = .ok (.iload_n 2, 1) := by decide +kernel
theorem dX12_pullOf_106 : decode cX12_pullOf 106 = .ok (.invokestatic 72, 3) := by decide +kernel
theorem dX12_pullOf_109 : decode cX12_pullOf 109 = .ok (.ireturn, 1) := by decide +kernel
set_option maxRecDepth 20000 in
theorem ggX12_office_X12_empties : GoodIn wsX12_office wsX12_empties := goodIn_r _ [6, 1, 7, 8, 9, 10, 11, 12, 13, 14, 15, 16, 17, 18, 19, 20, 21, 22, 23, 24, 25, 26, 27, 28] (by decide +kernel) (by decide +kernel)
set_option maxRecDepth 20000 in
theorem gX12_office_X12_empties : GoodIn wsX12_office (wsV RX12 78 RX12 yX12_empties wsX12_empties) := goodIn_app (goodIn_of _ (by decide +kernel)) ggX12_office_X12_empties
theorem dX12_office_0 : decode cX12_office 0 = .ok (.aload_n 0, 1) := by decide +kernel
theorem dX12_office_1 : decode cX12_office 1 = .ok (.getfield 7, 3) := by decide +kernel
theorem dX12_office_4 : decode cX12_office 4 = .ok (.iconst 0, 1) := by decide +kernel
theorem dX12_office_5 : decode cX12_office 5 = .ok (.iaload, 1) := by decide +kernel
theorem dX12_office_6 : decode cX12_office 6 = .ok (.istore_n 1, 1) := by decide +kernel
theorem dX12_office_7 : decode cX12_office 7 = .ok (.aload_n 0, 1) := by decide +kernel
theorem dX12_office_8 : decode cX12_office 8 = .ok (.iconst 0, 1) := by decide +kernel
theorem dX12_office_9 : decode cX12_office 9 = .ok (.invokevirtual 78, 3) := by decide +kernel
theorem dX12_office_12 : decode cX12_office 12 = .ok (.iload_n 1, 1) := by decide +kernel
theorem dX12_office_13 : decode cX12_office 13 = .ok (.ireturn, 1) := by decide +kernel
theorem dX12_adds_0 : decode cX12_adds 0 = .ok (.aload_n 0, 1) := by decide +kernel
theorem dX12_adds_1 : decode cX12_adds 1 = .ok (.getfield 7, 3) := by decide +kernel
theorem dX12_adds_4 : decode cX12_adds 4 = .ok (.iload_n 1, 1) := by decide +kernel
theorem dX12_adds_5 : decode cX12_adds 5 = .ok (.iconst 0, 1) := by decide +kernel
theorem dX12_adds_6 : decode cX12_adds 6 = .ok (.iadd, 1) := by decide +kernel
theorem dX12_adds_7 : decode cX12_adds 7 = .ok (.iaload, 1) := by decide +kernel
theorem dX12_adds_8 : decode cX12_adds 8 = .ok (.istore 5, 2) := by decide +kernel
theorem dX12_adds_10 : decode cX12_adds 10 = .ok (.aload_n 0, 1) := by decide +kernel
theorem dX12_adds_11 : decode cX12_adds 11 = .ok (.getfield 7, 3) := by decide +kernel
theorem dX12_adds_14 : decode cX12_adds 14 = .ok (.iload_n 1, 1) := by decide +kernel
theorem dX12_adds_15 : decode cX12_adds 15 = .ok (.iconst 3, 1) := by decide +kernel
theorem dX12_adds_16 : decode cX12_adds 16 = .ok (.iadd, 1) := by decide +kernel
theorem dX12_adds_17 : decode cX12_adds 17 = .ok (.iload 5, 2) := by decide +kernel
theorem dX12_adds_19 : decode cX12_adds 19 = .ok (.iadd, 1) := by decide +kernel
theorem dX12_adds_20 : decode cX12_adds 20 = .ok (.iload_n 2, 1) := by decide +kernel
theorem dX12_adds_21 : decode cX12_adds 21 = .ok (.iastore, 1) := by decide +kernel
theorem dX12_adds_22 : decode cX12_adds 22 = .ok (.aload_n 0, 1) := by decide +kernel
theorem dX12_adds_23 : decode cX12_adds 23 = .ok (.getfield 7, 3) := by decide +kernel
theorem dX12_adds_26 : decode cX12_adds 26 = .ok (.iload_n 1, 1) := by decide +kernel
theorem dX12_adds_27 : decode cX12_adds 27 = .ok (.bipush 17, 2) := by decide +kernel
theorem dX12_adds_29 : decode cX12_adds 29 = .ok (.iadd, 1) := by decide +kernel
theorem dX12_adds_30 : decode cX12_adds 30 = .ok (.iload 5, 2) := by decide +kernel
theorem dX12_adds_32 : decode cX12_adds 32 = .ok (.iadd, 1) := by decide +kernel
theorem dX12_adds_33 : decode cX12_adds 33 = .ok (.iload_n 3, 1) := by decide +kernel
theorem dX12_adds_34 : decode cX12_adds 34 = .ok (.iastore, 1) := by decide +kernel
theorem dX12_adds_35 : decode cX12_adds 35 = .ok (.aload_n 0, 1) := by decide +kernel
theorem dX12_adds_36 : decode cX12_adds 36 = .ok (.getfield 7, 3) := by decide +kernel
theorem dX12_adds_39 : decode cX12_adds 39 = .ok (.iload_n 1, 1) := by decide +kernel
theorem dX12_adds_40 : decode cX12_adds 40 = .ok (.bipush 10, 2) := by decide +kernel
theorem dX12_adds_42 : decode cX12_adds 42 = .ok (.iadd, 1) := by decide +kernel
theorem dX12_adds_43 : decode cX12_adds 43 = .ok (.iload 5, 2) := by decide +kernel
theorem dX12_adds_45 : decode cX12_adds 45 = .ok (.iadd, 1) := by decide +kernel
theorem dX12_adds_46 : decode cX12_adds 46 = .ok (.iload 4, 2) := by decide +kernel
theorem dX12_adds_48 : decode cX12_adds 48 = .ok (.iastore, 1) := by decide +kernel
theorem dX12_adds_49 : decode cX12_adds 49 = .ok (.aload_n 0, 1) := by decide +kernel
theorem dX12_adds_50 : decode cX12_adds 50 = .ok (.getfield 7, 3) := by decide +kernel
theorem dX12_adds_53 : decode cX12_adds 53 = .ok (.iload_n 1, 1) := by decide +kernel
theorem dX12_adds_54 : decode cX12_adds 54 = .ok (.bipush 24, 2) := by decide +kernel
theorem dX12_adds_56 : decode cX12_adds 56 = .ok (.iadd, 1) := by decide +kernel
theorem dX12_adds_57 : decode cX12_adds 57 = .ok (.iload 5, 2) := by decide +kernel
theorem dX12_adds_59 : decode cX12_adds 59 = .ok (.iadd, 1) := by decide +kernel
theorem dX12_adds_60 : decode cX12_adds 60 = .ok (.iconst 0, 1) := by decide +kernel
theorem dX12_adds_61 : decode cX12_adds 61 = .ok (.iastore, 1) := by decide +kernel
theorem dX12_adds_62 : decode cX12_adds 62 = .ok (.aload_n 0, 1) := by decide +kernel
theorem dX12_adds_63 : decode cX12_adds 63 = .ok (.getfield 7, 3) := by decide +kernel
theorem dX12_adds_66 : decode cX12_adds 66 = .ok (.iload_n 1, 1) := by decide +kernel
theorem dX12_adds_67 : decode cX12_adds 67 = .ok (.bipush 31, 2) := by decide +kernel
theorem dX12_adds_69 : decode cX12_adds 69 = .ok (.iadd, 1) := by decide +kernel
theorem dX12_adds_70 : decode cX12_adds 70 = .ok (.iload 5, 2) := by decide +kernel
theorem dX12_adds_72 : decode cX12_adds 72 = .ok (.iadd, 1) := by decide +kernel
theorem dX12_adds_73 : decode cX12_adds 73 = .ok (.iconst (-1), 1) := by decide +kernel
theorem dX12_adds_74 : decode cX12_adds 74 = .ok (.iastore, 1) := by decide +kernel
theorem dX12_adds_75 : decode cX12_adds 75 = .ok (.aload_n 0, 1) := by decide +kernel
theorem dX12_adds_76 : decode cX12_adds 76 = .ok (.getfield 7, 3) := by decide +kernel
theorem dX12_adds_79 : decode cX12_adds 79 = .ok (.iload_n 1, 1) := by decide +kernel
theorem dX12_adds_80 : decode cX12_adds 80 = .ok (.iconst 0, 1) := by decide +kernel
theorem dX12_adds_81 : decode cX12_adds 81 = .ok (.iadd, 1) := by decide +kernel
theorem dX12_adds_82 : decode cX12_adds 82 = .ok (.dup2, 1) := by decide +kernel
theorem dX12_adds_83 : decode cX12_adds 83 = .ok (.iaload, 1) := by decide +kernel
theorem dX12_adds_84 : decode cX12_adds 84 = .ok (.iconst 1, 1) := by decide +kernel
theorem dX12_adds_85 : decode cX12_adds 85 = .ok (.iadd, 1) := by decide +kernel
theorem dX12_adds_86 : decode cX12_adds 86 = .ok (.iastore, 1) := by decide +kernel
theorem dX12_adds_87 : decode cX12_adds 87 = .ok (.return_, 1) := by decide +kernel
set_option maxRecDepth 20000 in
theorem ggX12_clerk_X12_in : GoodIn wsX12_clerk wsX12_in := goodIn_r _ [8] (by decide +kernel) (by decide +kernel)
set_option maxRecDepth 20000 in
theorem gX12_clerk_X12_in : GoodIn wsX12_clerk (va_wsS RX12 64 yX12_in wsX12_in) := goodIn_app (goodIn_of _ (by decide +kernel)) ggX12_clerk_X12_in
set_option maxRecDepth 20000 in
theorem ggX12_clerk_X12_bad : GoodIn wsX12_clerk wsX12_bad := goodIn_r _ [12, 13, 22, 23, 24, 25, 26, 27, 28, 29, 30, 31, 32, 33, 34, 35, 36, 37, 38, 39, 40, 41, 42, 43] (by decide +kernel) (by decide +kernel)
set_option maxRecDepth 20000 in
theorem gX12_clerk_X12_bad : GoodIn wsX12_clerk (wsV RX12 88 RX12 yX12_bad wsX12_bad) := goodIn_app (goodIn_of _ (by decide +kernel)) ggX12_clerk_X12_bad
set_option maxRecDepth 20000 in
theorem ggX12_clerk_X12_full : GoodIn wsX12_clerk wsX12_full := goodIn_r _ [17, 13, 22, 23, 24, 25, 26, 27, 28, 29, 30, 31, 32, 33, 34, 35, 36, 37, 38, 39, 40, 41, 42, 43] (by decide +kernel) (by decide +kernel)
set_option maxRecDepth 20000 in
theorem gX12_clerk_X12_full : GoodIn wsX12_clerk (wsV RX12 92 RX12 yX12_full wsX12_full) := goodIn_app (goodIn_of _ (by decide +kernel)) ggX12_clerk_X12_full
set_option maxRecDepth 20000 in
theorem ggX12_clerk_X12_adds : GoodIn wsX12_clerk wsX12_adds := goodIn_r _ [21, 4, 22, 23, 24, 25, 26, 27, 28, 29, 30, 31, 32, 33, 34, 35, 36, 37, 38, 39, 40, 41, 42, 43] (by decide +kernel) (by decide +kernel)
set_option maxRecDepth 20000 in
theorem gX12_clerk_X12_adds : GoodIn wsX12_clerk (wsV RX12 96 RX12 yX12_adds wsX12_adds) := goodIn_app (goodIn_of _ (by decide +kernel)) ggX12_clerk_X12_adds
theorem dX12_clerk_0 : decode cX12_clerk 0 = .ok (.iload_n 1, 1) := by decide +kernel
theorem dX12_clerk_1 : decode cX12_clerk 1 = .ok (.i2l, 1) := by decide +kernel
theorem dX12_clerk_2 : decode cX12_clerk 2 = .ok (.lconst 0, 1) := by decide +kernel
theorem dX12_clerk_3 : decode cX12_clerk 3 = .ok (.ldc2_w 82, 3) := by decide +kernel
theorem dX12_clerk_6 : decode cX12_clerk 6 = .ok (.invokestatic 64, 3) := by decide +kernel
theorem dX12_clerk_9 : decode cX12_clerk 9 = .ok (.ifCond .eq 27, 3) := by decide +kernel
theorem dX12_clerk_12 : decode cX12_clerk 12 = .ok (.iload_n 2, 1) := by decide +kernel
theorem dX12_clerk_13 : decode cX12_clerk 13 = .ok (.i2l, 1) := by decide +kernel
theorem dX12_clerk_14 : decode cX12_clerk 14 = .ok (.lconst 0, 1) := by decide +kernel
theorem dX12_clerk_15 : decode cX12_clerk 15 = .ok (.ldc2_w 84, 3) := by decide +kernel
theorem dX12_clerk_18 : decode cX12_clerk 18 = .ok (.invokestatic 64, 3) := by decide +kernel
theorem dX12_clerk_21 : decode cX12_clerk 21 = .ok (.ifCond .eq 15, 3) := by decide +kernel
theorem dX12_clerk_24 : decode cX12_clerk 24 = .ok (.iload_n 3, 1) := by decide +kernel
theorem dX12_clerk_25 : decode cX12_clerk 25 = .ok (.i2l, 1) := by decide +kernel
theorem dX12_clerk_26 : decode cX12_clerk 26 = .ok (.lconst 1, 1) := by decide +kernel
theorem dX12_clerk_27 : decode cX12_clerk 27 = .ok (.ldc2_w 86, 3) := by decide +kernel
theorem dX12_clerk_30 : decode cX12_clerk 30 = .ok (.invokestatic 64, 3) := by decide +kernel
theorem dX12_clerk_33 : decode cX12_clerk 33 = .ok (.ifCond .ne 10, 3) := by decide +kernel
theorem dX12_clerk_36 : decode cX12_clerk 36 = .ok (.aload_n 0, 1) := by decide +kernel
theorem dX12_clerk_37 : decode cX12_clerk 37 = .ok (.bipush (-2), 2) := by decide +kernel
theorem dX12_clerk_39 : decode cX12_clerk 39 = .ok (.invokevirtual 88, 3) := by decide +kernel
theorem dX12_clerk_42 : decode cX12_clerk 42 = .ok (.ireturn, 1) := by decide +kernel
theorem dX12_clerk_43 : decode cX12_clerk 43 = .ok (.aload_n 0, 1) := by decide +kernel
theorem dX12_clerk_44 : decode cX12_clerk 44 = .ok (.getfield 7, 3) := by decide +kernel
theorem dX12_clerk_47 : decode cX12_clerk 47 = .ok (.iconst 0, 1) := by decide +kernel
theorem dX12_clerk_48 : decode cX12_clerk 48 = .ok (.iaload, 1) := by decide +kernel
theorem dX12_clerk_49 : decode cX12_clerk 49 = .ok (.bipush 7, 2) := by decide +kernel
theorem dX12_clerk_51 : decode cX12_clerk 51 = .ok (.if_icmp .ne 8, 3) := by decide +kernel
theorem dX12_clerk_54 : decode cX12_clerk 54 = .ok (.aload_n 0, 1) := by decide +kernel
theorem dX12_clerk_55 : decode cX12_clerk 55 = .ok (.invokevirtual 92, 3) := by decide +kernel
theorem dX12_clerk_58 : decode cX12_clerk 58 = .ok (.ireturn, 1) := by decide +kernel
theorem dX12_clerk_59 : decode cX12_clerk 59 = .ok (.aload_n 0, 1) := by decide +kernel
theorem dX12_clerk_60 : decode cX12_clerk 60 = .ok (.iconst 0, 1) := by decide +kernel
theorem dX12_clerk_61 : decode cX12_clerk 61 = .ok (.iload_n 1, 1) := by decide +kernel
theorem dX12_clerk_62 : decode cX12_clerk 62 = .ok (.iload_n 2, 1) := by decide +kernel
theorem dX12_clerk_63 : decode cX12_clerk 63 = .ok (.iload_n 3, 1) := by decide +kernel
theorem dX12_clerk_64 : decode cX12_clerk 64 = .ok (.invokevirtual 96, 3) := by decide +kernel
theorem dX12_clerk_67 : decode cX12_clerk 67 = .ok (.aload_n 0, 1) := by decide +kernel
theorem dX12_clerk_68 : decode cX12_clerk 68 = .ok (.getfield 7, 3) := by decide +kernel
theorem dX12_clerk_71 : decode cX12_clerk 71 = .ok (.bipush 124, 2) := by decide +kernel
theorem dX12_clerk_73 : decode cX12_clerk 73 = .ok (.iconst 0, 1) := by decide +kernel
theorem dX12_clerk_74 : decode cX12_clerk 74 = .ok (.iastore, 1) := by decide +kernel
theorem dX12_clerk_75 : decode cX12_clerk 75 = .ok (.aload_n 0, 1) := by decide +kernel
theorem dX12_clerk_76 : decode cX12_clerk 76 = .ok (.getfield 7, 3) := by decide +kernel
theorem dX12_clerk_79 : decode cX12_clerk 79 = .ok (.iconst 0, 1) := by decide +kernel
theorem dX12_clerk_80 : decode cX12_clerk 80 = .ok (.iaload, 1) := by decide +kernel
theorem dX12_clerk_81 : decode cX12_clerk 81 = .ok (.iconst 1, 1) := by decide +kernel
theorem dX12_clerk_82 : decode cX12_clerk 82 = .ok (.isub, 1) := by decide +kernel
theorem dX12_clerk_83 : decode cX12_clerk 83 = .ok (.ireturn, 1) := by decide +kernel
theorem dX12_addsMagnet_0 : decode cX12_addsMagnet 0 = .ok (.aload_n 0, 1) := by decide +kernel
theorem dX12_addsMagnet_1 : decode cX12_addsMagnet 1 = .ok (.getfield 7, 3) := by decide +kernel
theorem dX12_addsMagnet_4 : decode cX12_addsMagnet 4 = .ok (.iload_n 1, 1) := by decide +kernel
theorem dX12_addsMagnet_5 : decode cX12_addsMagnet 5 = .ok (.iconst 1, 1) := by decide +kernel
theorem dX12_addsMagnet_6 : decode cX12_addsMagnet 6 = .ok (.iadd, 1) := by decide +kernel
theorem dX12_addsMagnet_7 : decode cX12_addsMagnet 7 = .ok (.iaload, 1) := by decide +kernel
theorem dX12_addsMagnet_8 : decode cX12_addsMagnet 8 = .ok (.istore 5, 2) := by decide +kernel
theorem dX12_addsMagnet_10 : decode cX12_addsMagnet 10 = .ok (.aload_n 0, 1) := by decide +kernel
theorem dX12_addsMagnet_11 : decode cX12_addsMagnet 11 = .ok (.getfield 7, 3) := by decide +kernel
theorem dX12_addsMagnet_14 : decode cX12_addsMagnet 14 = .ok (.iload_n 1, 1) := by decide +kernel
theorem dX12_addsMagnet_15 : decode cX12_addsMagnet 15 = .ok (.bipush 38, 2) := by decide +kernel
theorem dX12_addsMagnet_17 : decode cX12_addsMagnet 17 = .ok (.iadd, 1) := by decide +kernel
theorem dX12_addsMagnet_18 : decode cX12_addsMagnet 18 = .ok (.iload 5, 2) := by decide +kernel
theorem dX12_addsMagnet_20 : decode cX12_addsMagnet 20 = .ok (.iadd, 1) := by decide +kernel
theorem dX12_addsMagnet_21 : decode cX12_addsMagnet 21 = .ok (.iload_n 2, 1) := by decide +kernel
theorem dX12_addsMagnet_22 : decode cX12_addsMagnet 22 = .ok (.iastore, 1) := by decide +kernel
theorem dX12_addsMagnet_23 : decode cX12_addsMagnet 23 = .ok (.aload_n 0, 1) := by decide +kernel
theorem dX12_addsMagnet_24 : decode cX12_addsMagnet 24 = .ok (.getfield 7, 3) := by decide +kernel
theorem dX12_addsMagnet_27 : decode cX12_addsMagnet 27 = .ok (.iload_n 1, 1) := by decide +kernel
theorem dX12_addsMagnet_28 : decode cX12_addsMagnet 28 = .ok (.bipush 41, 2) := by decide +kernel
theorem dX12_addsMagnet_30 : decode cX12_addsMagnet 30 = .ok (.iadd, 1) := by decide +kernel
theorem dX12_addsMagnet_31 : decode cX12_addsMagnet 31 = .ok (.iload 5, 2) := by decide +kernel
theorem dX12_addsMagnet_33 : decode cX12_addsMagnet 33 = .ok (.iadd, 1) := by decide +kernel
theorem dX12_addsMagnet_34 : decode cX12_addsMagnet 34 = .ok (.iload_n 3, 1) := by decide +kernel
theorem dX12_addsMagnet_35 : decode cX12_addsMagnet 35 = .ok (.iastore, 1) := by decide +kernel
theorem dX12_addsMagnet_36 : decode cX12_addsMagnet 36 = .ok (.aload_n 0, 1) := by decide +kernel
theorem dX12_addsMagnet_37 : decode cX12_addsMagnet 37 = .ok (.getfield 7, 3) := by decide +kernel
theorem dX12_addsMagnet_40 : decode cX12_addsMagnet 40 = .ok (.iload_n 1, 1) := by decide +kernel
theorem dX12_addsMagnet_41 : decode cX12_addsMagnet 41 = .ok (.bipush 44, 2) := by decide +kernel
theorem dX12_addsMagnet_43 : decode cX12_addsMagnet 43 = .ok (.iadd, 1) := by decide +kernel
theorem dX12_addsMagnet_44 : decode cX12_addsMagnet 44 = .ok (.iload 5, 2) := by decide +kernel
theorem dX12_addsMagnet_46 : decode cX12_addsMagnet 46 = .ok (.iadd, 1) := by decide +kernel
theorem dX12_addsMagnet_47 : decode cX12_addsMagnet 47 = .ok (.iload 4, 2) := by decide +kernel
theorem dX12_addsMagnet_49 : decode cX12_addsMagnet 49 = .ok (.iastore, 1) := by decide +kernel
theorem dX12_addsMagnet_50 : decode cX12_addsMagnet 50 = .ok (.aload_n 0, 1) := by decide +kernel
theorem dX12_addsMagnet_51 : decode cX12_addsMagnet 51 = .ok (.getfield 7, 3) := by decide +kernel
theorem dX12_addsMagnet_54 : decode cX12_addsMagnet 54 = .ok (.iload_n 1, 1) := by decide +kernel
theorem dX12_addsMagnet_55 : decode cX12_addsMagnet 55 = .ok (.iconst 1, 1) := by decide +kernel
theorem dX12_addsMagnet_56 : decode cX12_addsMagnet 56 = .ok (.iadd, 1) := by decide +kernel
theorem dX12_addsMagnet_57 : decode cX12_addsMagnet 57 = .ok (.dup2, 1) := by decide +kernel
theorem dX12_addsMagnet_58 : decode cX12_addsMagnet 58 = .ok (.iaload, 1) := by decide +kernel
theorem dX12_addsMagnet_59 : decode cX12_addsMagnet 59 = .ok (.iconst 1, 1) := by decide +kernel
theorem dX12_addsMagnet_60 : decode cX12_addsMagnet 60 = .ok (.iadd, 1) := by decide +kernel
theorem dX12_addsMagnet_61 : decode cX12_addsMagnet 61 = .ok (.iastore, 1) := by decide +kernel
theorem dX12_addsMagnet_62 : decode cX12_addsMagnet 62 = .ok (.return_, 1) := by decide +kernel
set_option maxRecDepth 20000 in
theorem ggX12_magnet_X12_in : GoodIn wsX12_magnet wsX12_in := goodIn_r _ [8] (by decide +kernel) (by decide +kernel)
set_option maxRecDepth 20000 in
theorem gX12_magnet_X12_in : GoodIn wsX12_magnet (va_wsS RX12 64 yX12_in wsX12_in) := goodIn_app (goodIn_of _ (by decide +kernel)) ggX12_magnet_X12_in
set_option maxRecDepth 20000 in
theorem ggX12_magnet_X12_bad : GoodIn wsX12_magnet wsX12_bad := goodIn_r _ [12, 13, 22, 23, 24, 25, 26, 27, 28, 29, 30, 31, 32, 33, 34, 35, 36, 37, 38, 39, 40, 41, 42, 43] (by decide +kernel) (by decide +kernel)
set_option maxRecDepth 20000 in
theorem gX12_magnet_X12_bad : GoodIn wsX12_magnet (wsV RX12 88 RX12 yX12_bad wsX12_bad) := goodIn_app (goodIn_of _ (by decide +kernel)) ggX12_magnet_X12_bad
set_option maxRecDepth 20000 in
theorem ggX12_magnet_X12_full : GoodIn wsX12_magnet wsX12_full := goodIn_r _ [17, 13, 22, 23, 24, 25, 26, 27, 28, 29, 30, 31, 32, 33, 34, 35, 36, 37, 38, 39, 40, 41, 42, 43] (by decide +kernel) (by decide +kernel)
set_option maxRecDepth 20000 in
theorem gX12_magnet_X12_full : GoodIn wsX12_magnet (wsV RX12 92 RX12 yX12_full wsX12_full) := goodIn_app (goodIn_of _ (by decide +kernel)) ggX12_magnet_X12_full
set_option maxRecDepth 20000 in
theorem ggX12_magnet_X12_addsMagnet : GoodIn wsX12_magnet wsX12_addsMagnet := goodIn_r _ [21, 4, 22, 23, 24, 25, 26, 27, 28, 29, 30, 31, 32, 33, 34, 35, 36, 37, 38, 39, 40, 41, 42, 43] (by decide +kernel) (by decide +kernel)
set_option maxRecDepth 20000 in
theorem gX12_magnet_X12_addsMagnet : GoodIn wsX12_magnet (wsV RX12 100 RX12 yX12_addsMagnet wsX12_addsMagnet) := goodIn_app (goodIn_of _ (by decide +kernel)) ggX12_magnet_X12_addsMagnet
theorem dX12_magnet_0 : decode cX12_magnet 0 = .ok (.iload_n 1, 1) := by decide +kernel
theorem dX12_magnet_1 : decode cX12_magnet 1 = .ok (.i2l, 1) := by decide +kernel
theorem dX12_magnet_2 : decode cX12_magnet 2 = .ok (.lconst 0, 1) := by decide +kernel
theorem dX12_magnet_3 : decode cX12_magnet 3 = .ok (.ldc2_w 82, 3) := by decide +kernel
theorem dX12_magnet_6 : decode cX12_magnet 6 = .ok (.invokestatic 64, 3) := by decide +kernel
theorem dX12_magnet_9 : decode cX12_magnet 9 = .ok (.ifCond .eq 27, 3) := by decide +kernel
theorem dX12_magnet_12 : decode cX12_magnet 12 = .ok (.iload_n 2, 1) := by decide +kernel
theorem dX12_magnet_13 : decode cX12_magnet 13 = .ok (.i2l, 1) := by decide +kernel
theorem dX12_magnet_14 : decode cX12_magnet 14 = .ok (.lconst 0, 1) := by decide +kernel
theorem dX12_magnet_15 : decode cX12_magnet 15 = .ok (.ldc2_w 84, 3) := by decide +kernel
theorem dX12_magnet_18 : decode cX12_magnet 18 = .ok (.invokestatic 64, 3) := by decide +kernel
theorem dX12_magnet_21 : decode cX12_magnet 21 = .ok (.ifCond .eq 15, 3) := by decide +kernel
theorem dX12_magnet_24 : decode cX12_magnet 24 = .ok (.iload_n 3, 1) := by decide +kernel
theorem dX12_magnet_25 : decode cX12_magnet 25 = .ok (.i2l, 1) := by decide +kernel
theorem dX12_magnet_26 : decode cX12_magnet 26 = .ok (.lconst 1, 1) := by decide +kernel
theorem dX12_magnet_27 : decode cX12_magnet 27 = .ok (.ldc2_w 86, 3) := by decide +kernel
theorem dX12_magnet_30 : decode cX12_magnet 30 = .ok (.invokestatic 64, 3) := by decide +kernel
theorem dX12_magnet_33 : decode cX12_magnet 33 = .ok (.ifCond .ne 10, 3) := by decide +kernel
theorem dX12_magnet_36 : decode cX12_magnet 36 = .ok (.aload_n 0, 1) := by decide +kernel
theorem dX12_magnet_37 : decode cX12_magnet 37 = .ok (.bipush (-2), 2) := by decide +kernel
theorem dX12_magnet_39 : decode cX12_magnet 39 = .ok (.invokevirtual 88, 3) := by decide +kernel
theorem dX12_magnet_42 : decode cX12_magnet 42 = .ok (.ireturn, 1) := by decide +kernel
theorem dX12_magnet_43 : decode cX12_magnet 43 = .ok (.aload_n 0, 1) := by decide +kernel
theorem dX12_magnet_44 : decode cX12_magnet 44 = .ok (.getfield 7, 3) := by decide +kernel
theorem dX12_magnet_47 : decode cX12_magnet 47 = .ok (.iconst 1, 1) := by decide +kernel
theorem dX12_magnet_48 : decode cX12_magnet 48 = .ok (.iaload, 1) := by decide +kernel
theorem dX12_magnet_49 : decode cX12_magnet 49 = .ok (.iconst 3, 1) := by decide +kernel
theorem dX12_magnet_50 : decode cX12_magnet 50 = .ok (.if_icmp .ne 8, 3) := by decide +kernel
theorem dX12_magnet_53 : decode cX12_magnet 53 = .ok (.aload_n 0, 1) := by decide +kernel
theorem dX12_magnet_54 : decode cX12_magnet 54 = .ok (.invokevirtual 92, 3) := by decide +kernel
theorem dX12_magnet_57 : decode cX12_magnet 57 = .ok (.ireturn, 1) := by decide +kernel
theorem dX12_magnet_58 : decode cX12_magnet 58 = .ok (.aload_n 0, 1) := by decide +kernel
theorem dX12_magnet_59 : decode cX12_magnet 59 = .ok (.iconst 0, 1) := by decide +kernel
theorem dX12_magnet_60 : decode cX12_magnet 60 = .ok (.iload_n 1, 1) := by decide +kernel
theorem dX12_magnet_61 : decode cX12_magnet 61 = .ok (.iload_n 2, 1) := by decide +kernel
theorem dX12_magnet_62 : decode cX12_magnet 62 = .ok (.iload_n 3, 1) := by decide +kernel
theorem dX12_magnet_63 : decode cX12_magnet 63 = .ok (.invokevirtual 100, 3) := by decide +kernel
theorem dX12_magnet_66 : decode cX12_magnet 66 = .ok (.aload_n 0, 1) := by decide +kernel
theorem dX12_magnet_67 : decode cX12_magnet 67 = .ok (.getfield 7, 3) := by decide +kernel
theorem dX12_magnet_70 : decode cX12_magnet 70 = .ok (.bipush 124, 2) := by decide +kernel
theorem dX12_magnet_72 : decode cX12_magnet 72 = .ok (.iconst 0, 1) := by decide +kernel
theorem dX12_magnet_73 : decode cX12_magnet 73 = .ok (.iastore, 1) := by decide +kernel
theorem dX12_magnet_74 : decode cX12_magnet 74 = .ok (.aload_n 0, 1) := by decide +kernel
theorem dX12_magnet_75 : decode cX12_magnet 75 = .ok (.getfield 7, 3) := by decide +kernel
theorem dX12_magnet_78 : decode cX12_magnet 78 = .ok (.iconst 1, 1) := by decide +kernel
theorem dX12_magnet_79 : decode cX12_magnet 79 = .ok (.iaload, 1) := by decide +kernel
theorem dX12_magnet_80 : decode cX12_magnet 80 = .ok (.iconst 1, 1) := by decide +kernel
theorem dX12_magnet_81 : decode cX12_magnet 81 = .ok (.isub, 1) := by decide +kernel
theorem dX12_magnet_82 : decode cX12_magnet 82 = .ok (.ireturn, 1) := by decide +kernel
set_option maxRecDepth 20000 in
theorem ggX12_type_X12_in : GoodIn wsX12_type wsX12_in := goodIn_r _ [7] (by decide +kernel) (by decide +kernel)
set_option maxRecDepth 20000 in
theorem gX12_type_X12_in : GoodIn wsX12_type (va_wsS RX12 64 yX12_in wsX12_in) := goodIn_app (goodIn_of _ (by decide +kernel)) ggX12_type_X12_in
set_option maxRecDepth 20000 in
theorem ggX12_type_X12_bad : GoodIn wsX12_type wsX12_bad := goodIn_r _ [11, 12, 17, 18, 19, 20, 21, 22, 23, 24, 25, 26, 27, 28, 29, 30, 31, 32, 33, 34, 35, 36, 37, 38] (by decide +kernel) (by decide +kernel)
set_option maxRecDepth 20000 in
theorem gX12_type_X12_bad : GoodIn wsX12_type (wsV RX12 88 RX12 yX12_bad wsX12_bad) := goodIn_app (goodIn_of _ (by decide +kernel)) ggX12_type_X12_bad
set_option maxRecDepth 20000 in
theorem ggX12_type_X12_full : GoodIn wsX12_type wsX12_full := goodIn_r _ [16, 12, 17, 18, 19, 20, 21, 22, 23, 24, 25, 26, 27, 28, 29, 30, 31, 32, 33, 34, 35, 36, 37, 38] (by decide +kernel) (by decide +kernel)
set_option maxRecDepth 20000 in
theorem gX12_type_X12_full : GoodIn wsX12_type (wsV RX12 92 RX12 yX12_full wsX12_full) := goodIn_app (goodIn_of _ (by decide +kernel)) ggX12_type_X12_full
theorem dX12_type_0 : decode cX12_type 0 = .ok (.iload_n 1, 1) := by decide +kernel
theorem dX12_type_1 : decode cX12_type 1 = .ok (.i2l, 1) := by decide +kernel
theorem dX12_type_2 : decode cX12_type 2 = .ok (.lconst 0, 1) := by decide +kernel
theorem dX12_type_3 : decode cX12_type 3 = .ok (.ldc2_w 103, 3) := by decide +kernel
theorem dX12_type_6 : decode cX12_type 6 = .ok (.invokestatic 64, 3) := by decide +kernel
theorem dX12_type_9 : decode cX12_type 9 = .ok (.ifCond .ne 10, 3) := by decide +kernel
theorem dX12_type_12 : decode cX12_type 12 = .ok (.aload_n 0, 1) := by decide +kernel
theorem dX12_type_13 : decode cX12_type 13 = .ok (.bipush (-2), 2) := by decide +kernel
theorem dX12_type_15 : decode cX12_type 15 = .ok (.invokevirtual 88, 3) := by decide +kernel
theorem dX12_type_18 : decode cX12_type 18 = .ok (.ireturn, 1) := by decide +kernel
theorem dX12_type_19 : decode cX12_type 19 = .ok (.aload_n 0, 1) := by decide +kernel
theorem dX12_type_20 : decode cX12_type 20 = .ok (.getfield 60, 3) := by decide +kernel
theorem dX12_type_23 : decode cX12_type 23 = .ok (.sipush 150, 3) := by decide +kernel
theorem dX12_type_26 : decode cX12_type 26 = .ok (.if_icmp .ne 8, 3) := by decide +kernel
theorem dX12_type_29 : decode cX12_type 29 = .ok (.aload_n 0, 1) := by decide +kernel
theorem dX12_type_30 : decode cX12_type 30 = .ok (.invokevirtual 92, 3) := by decide +kernel
theorem dX12_type_33 : decode cX12_type 33 = .ok (.ireturn, 1) := by decide +kernel
theorem dX12_type_34 : decode cX12_type 34 = .ok (.aload_n 0, 1) := by decide +kernel
theorem dX12_type_35 : decode cX12_type 35 = .ok (.getfield 17, 3) := by decide +kernel
theorem dX12_type_38 : decode cX12_type 38 = .ok (.aload_n 0, 1) := by decide +kernel
theorem dX12_type_39 : decode cX12_type 39 = .ok (.getfield 60, 3) := by decide +kernel
theorem dX12_type_42 : decode cX12_type 42 = .ok (.iload_n 1, 1) := by decide +kernel
theorem dX12_type_43 : decode cX12_type 43 = .ok (.iastore, 1) := by decide +kernel
theorem dX12_type_44 : decode cX12_type 44 = .ok (.aload_n 0, 1) := by decide +kernel
theorem dX12_type_45 : decode cX12_type 45 = .ok (.dup, 1) := by decide +kernel
theorem dX12_type_46 : decode cX12_type 46 = .ok (.getfield 60, 3) := by decide +kernel
theorem dX12_type_49 : decode cX12_type 49 = .ok (.iconst 1, 1) := by decide +kernel
theorem dX12_type_50 : decode cX12_type 50 = .ok (.iadd, 1) := by decide +kernel
theorem dX12_type_51 : decode cX12_type 51 = .ok (.putfield 60, 3) := by decide +kernel
theorem dX12_type_54 : decode cX12_type 54 = .ok (.aload_n 0, 1) := by decide +kernel
theorem dX12_type_55 : decode cX12_type 55 = .ok (.getfield 60, 3) := by decide +kernel
theorem dX12_type_58 : decode cX12_type 58 = .ok (.ireturn, 1) := by decide +kernel
theorem dX12_clear_0 : decode cX12_clear 0 = .ok (.aload_n 0, 1) := by decide +kernel
theorem dX12_clear_1 : decode cX12_clear 1 = .ok (.getfield 60, 3) := by decide +kernel
theorem dX12_clear_4 : decode cX12_clear 4 = .ok (.istore_n 1, 1) := by decide +kernel
theorem dX12_clear_5 : decode cX12_clear 5 = .ok (.aload_n 0, 1) := by decide +kernel
theorem dX12_clear_6 : decode cX12_clear 6 = .ok (.iconst 0, 1) := by decide +kernel
theorem dX12_clear_7 : decode cX12_clear 7 = .ok (.putfield 60, 3) := by decide +kernel
theorem dX12_clear_10 : decode cX12_clear 10 = .ok (.iload_n 1, 1) := by decide +kernel
theorem dX12_clear_11 : decode cX12_clear 11 = .ok (.ireturn, 1) := by decide +kernel
theorem dX12_byteAt_0 : decode cX12_byteAt 0 = .ok (.iload_n 1, 1) := by decide +kernel
theorem dX12_byteAt_1 : decode cX12_byteAt 1 = .ok (.aload_n 0, 1) := by decide +kernel
theorem dX12_byteAt_2 : decode cX12_byteAt 2 = .ok (.getfield 60, 3) := by decide +kernel
theorem dX12_byteAt_5 : decode cX12_byteAt 5 = .ok (.if_icmp .ge 12, 3) := by decide +kernel
theorem dX12_byteAt_8 : decode cX12_byteAt 8 = .ok (.aload_n 0, 1) := by decide +kernel
theorem dX12_byteAt_9 : decode cX12_byteAt 9 = .ok (.getfield 17, 3) := by decide +kernel
theorem dX12_byteAt_12 : decode cX12_byteAt 12 = .ok (.iload_n 1, 1) := by decide +kernel
theorem dX12_byteAt_13 : decode cX12_byteAt 13 = .ok (.iaload, 1) := by decide +kernel
theorem dX12_byteAt_14 : decode cX12_byteAt 14 = .ok (.goto 4, 3) := by decide +kernel
theorem dX12_byteAt_17 : decode cX12_byteAt 17 = .ok (.iconst (-1), 1) := by decide +kernel
theorem dX12_byteAt_18 : decode cX12_byteAt 18 = .ok (.ireturn, 1) := by decide +kernel
set_option maxRecDepth 20000 in
theorem ggX12_blanks_X12_byteAt : GoodIn wsX12_blanks wsX12_byteAt := goodIn_r _ [7, 8, 9, 10, 11, 12, 13, 14, 15, 16, 17, 18, 19, 20, 21, 22, 23, 24, 25, 26, 27, 28, 29, 30, 31] (by decide +kernel) (by decide +kernel)
set_option maxRecDepth 20000 in
theorem gX12_blanks_X12_byteAt : GoodIn wsX12_blanks (wsV RX12 108 RX12 yX12_byteAt wsX12_byteAt) := goodIn_app (goodIn_of _ (by decide +kernel)) ggX12_blanks_X12_byteAt
theorem dX12_blanks_0 : decode cX12_blanks 0 = .ok (.aload_n 0, 1) := by decide +kernel
theorem dX12_blanks_1 : decode cX12_blanks 1 = .ok (.aload_n 0, 1) := by decide +kernel
theorem dX12_blanks_2 : decode cX12_blanks 2 = .ok (.getfield 105, 3) := by decide +kernel
theorem dX12_blanks_5 : decode cX12_blanks 5 = .ok (.invokevirtual 108, 3) := by decide +kernel
theorem dX12_blanks_8 : decode cX12_blanks 8 = .ok (.bipush 32, 2) := by decide +kernel
theorem dX12_blanks_10 : decode cX12_blanks 10 = .ok (.if_icmp .ne 16, 3) := by decide +kernel
theorem dX12_blanks_13 : decode cX12_blanks 13 = .ok (.aload_n 0, 1) := by decide +kernel
theorem dX12_blanks_14 : decode cX12_blanks 14 = .ok (.dup, 1) := by decide +kernel
theorem dX12_blanks_15 : decode cX12_blanks 15 = .ok (.getfield 105, 3) := by decide +kernel
theorem dX12_blanks_18 : decode cX12_blanks 18 = .ok (.iconst 1, 1) := by decide +kernel
theorem dX12_blanks_19 : decode cX12_blanks 19 = .ok (.iadd, 1) := by decide +kernel
theorem dX12_blanks_20 : decode cX12_blanks 20 = .ok (.putfield 105, 3) := by decide +kernel
theorem dX12_blanks_23 : decode cX12_blanks 23 = .ok (.goto (-23), 3) := by decide +kernel
theorem dX12_blanks_26 : decode cX12_blanks 26 = .ok (.aload_n 0, 1) := by decide +kernel
theorem dX12_blanks_27 : decode cX12_blanks 27 = .ok (.aload_n 0, 1) := by decide +kernel
theorem dX12_blanks_28 : decode cX12_blanks 28 = .ok (.getfield 105, 3) := by decide +kernel
theorem dX12_blanks_31 : decode cX12_blanks 31 = .ok (.putfield 111, 3) := by decide +kernel
theorem dX12_blanks_34 : decode cX12_blanks 34 = .ok (.return_, 1) := by decide +kernel
set_option maxRecDepth 20000 in
theorem ggX12_takesWord_X12_blanks : GoodIn wsX12_takesWord wsX12_blanks := goodIn_r _ [8, 1, 9, 10, 11, 12, 7, 13, 14, 15, 19, 20, 21, 22, 23, 24, 25, 26, 27, 28, 29, 30, 31, 32, 33, 34, 35, 36, 37, 38, 39, 40] (by decide +kernel) (by decide +kernel)
set_option maxRecDepth 20000 in
theorem gX12_takesWord_X12_blanks : GoodIn wsX12_takesWord (wsV RX12 114 RX12 yX12_blanks wsX12_blanks) := goodIn_app (goodIn_of _ (by decide +kernel)) ggX12_takesWord_X12_blanks
set_option maxRecDepth 20000 in
theorem ggX12_takesWord_X12_byteAt : GoodIn wsX12_takesWord wsX12_byteAt := goodIn_r _ [13, 14, 15, 19, 20, 21, 22, 23, 24, 25, 26, 27, 28, 29, 30, 31, 32, 33, 34, 35, 36, 37, 38, 39, 40] (by decide +kernel) (by decide +kernel)
set_option maxRecDepth 20000 in
theorem gX12_takesWord_X12_byteAt : GoodIn wsX12_takesWord (wsV RX12 108 RX12 yX12_byteAt wsX12_byteAt) := goodIn_app (goodIn_of _ (by decide +kernel)) ggX12_takesWord_X12_byteAt
set_option maxRecDepth 20000 in
theorem ggX12_takesWord_X12_in : GoodIn wsX12_takesWord wsX12_in := goodIn_r _ [18] (by decide +kernel) (by decide +kernel)
set_option maxRecDepth 20000 in
theorem gX12_takesWord_X12_in : GoodIn wsX12_takesWord (va_wsS RX12 64 yX12_in wsX12_in) := goodIn_app (goodIn_of _ (by decide +kernel)) ggX12_takesWord_X12_in
theorem dX12_takesWord_0 : decode cX12_takesWord 0 = .ok (.aload_n 0, 1) := by decide +kernel
theorem dX12_takesWord_1 : decode cX12_takesWord 1 = .ok (.invokevirtual 114, 3) := by decide +kernel
theorem dX12_takesWord_4 : decode cX12_takesWord 4 = .ok (.aload_n 0, 1) := by decide +kernel
theorem dX12_takesWord_5 : decode cX12_takesWord 5 = .ok (.aload_n 0, 1) := by decide +kernel
theorem dX12_takesWord_6 : decode cX12_takesWord 6 = .ok (.getfield 105, 3) := by decide +kernel
theorem dX12_takesWord_9 : decode cX12_takesWord 9 = .ok (.invokevirtual 108, 3) := by decide +kernel
theorem dX12_takesWord_12 : decode cX12_takesWord 12 = .ok (.i2l, 1) := by decide +kernel
theorem dX12_takesWord_13 : decode cX12_takesWord 13 = .ok (.ldc2_w 117, 3) := by decide +kernel
theorem dX12_takesWord_16 : decode cX12_takesWord 16 = .ok (.ldc2_w 119, 3) := by decide +kernel
theorem dX12_takesWord_19 : decode cX12_takesWord 19 = .ok (.invokestatic 64, 3) := by decide +kernel
theorem dX12_takesWord_22 : decode cX12_takesWord 22 = .ok (.ifCond .eq 16, 3) := by decide +kernel
theorem dX12_takesWord_25 : decode cX12_takesWord 25 = .ok (.aload_n 0, 1) := by decide +kernel
theorem dX12_takesWord_26 : decode cX12_takesWord 26 = .ok (.dup, 1) := by decide +kernel
theorem dX12_takesWord_27 : decode cX12_takesWord 27 = .ok (.getfield 105, 3) := by decide +kernel
theorem dX12_takesWord_30 : decode cX12_takesWord 30 = .ok (.iconst 1, 1) := by decide +kernel
theorem dX12_takesWord_31 : decode cX12_takesWord 31 = .ok (.iadd, 1) := by decide +kernel
theorem dX12_takesWord_32 : decode cX12_takesWord 32 = .ok (.putfield 105, 3) := by decide +kernel
theorem dX12_takesWord_35 : decode cX12_takesWord 35 = .ok (.goto (-31), 3) := by decide +kernel
theorem dX12_takesWord_38 : decode cX12_takesWord 38 = .ok (.return_, 1) := by decide +kernel
set_option maxRecDepth 20000 in
theorem ggX12_isWord_X12_isLetter : GoodIn wsX12_isWord wsX12_isLetter := goodIn_r _ [7, 8, 2, 9, 10, 11, 12, 13, 14, 15, 16, 17, 18, 19, 20, 21, 22, 23, 24, 25, 26, 27, 28, 29, 30] (by decide +kernel) (by decide +kernel)
set_option maxRecDepth 20000 in
theorem gX12_isWord_X12_isLetter : GoodIn wsX12_isWord (wsV RX12 121 RX12 yX12_isLetter wsX12_isLetter) := goodIn_app (goodIn_of _ (by decide +kernel)) ggX12_isWord_X12_isLetter
theorem dX12_isWord_0 : decode cX12_isWord 0 = .ok (.aload_n 0, 1) := by decide +kernel
theorem dX12_isWord_1 : decode cX12_isWord 1 = .ok (.getfield 105, 3) := by decide +kernel
theorem dX12_isWord_4 : decode cX12_isWord 4 = .ok (.aload_n 0, 1) := by decide +kernel
theorem dX12_isWord_5 : decode cX12_isWord 5 = .ok (.getfield 111, 3) := by decide +kernel
theorem dX12_isWord_8 : decode cX12_isWord 8 = .ok (.isub, 1) := by decide +kernel
theorem dX12_isWord_9 : decode cX12_isWord 9 = .ok (.istore 8, 2) := by decide +kernel
theorem dX12_isWord_11 : decode cX12_isWord 11 = .ok (.aload_n 0, 1) := by decide +kernel
theorem dX12_isWord_12 : decode cX12_isWord 12 = .ok (.iconst 0, 1) := by decide +kernel
theorem dX12_isWord_13 : decode cX12_isWord 13 = .ok (.iload_n 1, 1) := by decide +kernel
theorem dX12_isWord_14 : decode cX12_isWord 14 = .ok (.iload 8, 2) := by decide +kernel
theorem dX12_isWord_16 : decode cX12_isWord 16 = .ok (.invokevirtual 121, 3) := by decide +kernel
theorem dX12_isWord_19 : decode cX12_isWord 19 = .ok (.ifCond .eq 85, 3) := by decide +kernel
theorem dX12_isWord_22 : decode cX12_isWord 22 = .ok (.aload_n 0, 1) := by decide +kernel
theorem dX12_isWord_23 : decode cX12_isWord 23 = .ok (.iconst 1, 1) := by decide +kernel
theorem dX12_isWord_24 : decode cX12_isWord 24 = .ok (.iload_n 2, 1) := by decide +kernel
theorem dX12_isWord_25 : decode cX12_isWord 25 = .ok (.iload 8, 2) := by decide +kernel
theorem dX12_isWord_27 : decode cX12_isWord 27 = .ok (.invokevirtual 121, 3) := by decide +kernel
theorem dX12_isWord_30 : decode cX12_isWord 30 = .ok (.ifCond .eq 74, 3) := by decide +kernel
theorem dX12_isWord_33 : decode cX12_isWord 33 = .ok (.aload_n 0, 1) := by decide +kernel
theorem dX12_isWord_34 : decode cX12_isWord 34 = .ok (.iconst 2, 1) := by decide +kernel
theorem dX12_isWord_35 : decode cX12_isWord 35 = .ok (.iload_n 3, 1) := by decide +kernel
theorem dX12_isWord_36 : decode cX12_isWord 36 = .ok (.iload 8, 2) := by decide +kernel
theorem dX12_isWord_38 : decode cX12_isWord 38 = .ok (.invokevirtual 121, 3) := by decide +kernel
theorem dX12_isWord_41 : decode cX12_isWord 41 = .ok (.ifCond .eq 63, 3) := by decide +kernel
theorem dX12_isWord_44 : decode cX12_isWord 44 = .ok (.aload_n 0, 1) := by decide +kernel
theorem dX12_isWord_45 : decode cX12_isWord 45 = .ok (.iconst 3, 1) := by decide +kernel
theorem dX12_isWord_46 : decode cX12_isWord 46 = .ok (.iload 4, 2) := by decide +kernel
theorem dX12_isWord_48 : decode cX12_isWord 48 = .ok (.iload 8, 2) := by decide +kernel
theorem dX12_isWord_50 : decode cX12_isWord 50 = .ok (.invokevirtual 121, 3) := by decide +kernel
theorem dX12_isWord_53 : decode cX12_isWord 53 = .ok (.ifCond .eq 51, 3) := by decide +kernel
theorem dX12_isWord_56 : decode cX12_isWord 56 = .ok (.aload_n 0, 1) := by decide +kernel
theorem dX12_isWord_57 : decode cX12_isWord 57 = .ok (.iconst 4, 1) := by decide +kernel
theorem dX12_isWord_58 : decode cX12_isWord 58 = .ok (.iload 5, 2) := by decide +kernel
theorem dX12_isWord_60 : decode cX12_isWord 60 = .ok (.iload 8, 2) := by decide +kernel
theorem dX12_isWord_62 : decode cX12_isWord 62 = .ok (.invokevirtual 121, 3) := by decide +kernel
theorem dX12_isWord_65 : decode cX12_isWord 65 = .ok (.ifCond .eq 39, 3) := by decide +kernel
theorem dX12_isWord_68 : decode cX12_isWord 68 = .ok (.aload_n 0, 1) := by decide +kernel
theorem dX12_isWord_69 : decode cX12_isWord 69 = .ok (.iconst 5, 1) := by decide +kernel
theorem dX12_isWord_70 : decode cX12_isWord 70 = .ok (.iload 6, 2) := by decide +kernel
theorem dX12_isWord_72 : decode cX12_isWord 72 = .ok (.iload 8, 2) := by decide +kernel
theorem dX12_isWord_74 : decode cX12_isWord 74 = .ok (.invokevirtual 121, 3) := by decide +kernel
theorem dX12_isWord_77 : decode cX12_isWord 77 = .ok (.ifCond .eq 27, 3) := by decide +kernel
theorem dX12_isWord_80 : decode cX12_isWord 80 = .ok (.aload_n 0, 1) := by decide +kernel
theorem dX12_isWord_81 : decode cX12_isWord 81 = .ok (.bipush 6, 2) := by decide +kernel
theorem dX12_isWord_83 : decode cX12_isWord 83 = .ok (.iload 7, 2) := by decide +kernel
theorem dX12_isWord_85 : decode cX12_isWord 85 = .ok (.iload 8, 2) := by decide +kernel
theorem dX12_isWord_87 : decode cX12_isWord 87 = .ok (.invokevirtual 121, 3) := by decide +kernel
theorem dX12_isWord_90 : decode cX12_isWord 90 = .ok (.ifCond .eq 14, 3) := by decide +kernel
theorem dX12_isWord_93 : decode cX12_isWord 93 = .ok (.iload 8, 2) := by decide +kernel
theorem dX12_isWord_95 : decode cX12_isWord 95 = .ok (.bipush 8, 2) := by decide +kernel
theorem dX12_isWord_97 : decode cX12_isWord 97 = .ok (.if_icmp .ge 7, 3) := by decide +kernel
theorem dX12_isWord_100 : decode cX12_isWord 100 = .ok (.iconst 1, 1) := by decide +kernel
theorem dX12_isWord_101 : decode cX12_isWord 101 = .ok (.goto 4, 3) := by decide +kernel
theorem dX12_isWord_104 : decode cX12_isWord 104 = .ok (.iconst 0, 1) := by decide +kernel
theorem dX12_isWord_105 : decode cX12_isWord 105 = .ok (.ireturn, 1) := by decide +kernel
theorem dX12_isLetter_0 : decode cX12_isLetter 0 = .ok (.iload_n 2, 1) := by decide +kernel
theorem dX12_isLetter_1 : decode cX12_isLetter 1 = .ok (.ifCond .ne 16, 3) := by decide +kernel
theorem dX12_isLetter_4 : decode cX12_isLetter 4 = .ok (.iload_n 3, 1) := by decide +kernel
theorem dX12_isLetter_5 : decode cX12_isLetter 5 = .ok (.iload_n 1, 1) := by decide +kernel
theorem dX12_isLetter_6 : decode cX12_isLetter 6 = .ok (.if_icmp .gt 7, 3) := by decide +kernel
theorem dX12_isLetter_9 : decode cX12_isLetter 9 = .ok (.iconst 1, 1) := by decide +kernel
theorem dX12_isLetter_10 : decode cX12_isLetter 10 = .ok (.goto 32, 3) := by decide +kernel
theorem dX12_isLetter_13 : decode cX12_isLetter 13 = .ok (.iconst 0, 1) := by decide +kernel
theorem dX12_isLetter_14 : decode cX12_isLetter 14 = .ok (.goto 28, 3) := by decide +kernel
theorem dX12_isLetter_17 : decode cX12_isLetter 17 = .ok (.iload_n 3, 1) := by decide +kernel
theorem dX12_isLetter_18 : decode cX12_isLetter 18 = .ok (.iload_n 1, 1) := by decide +kernel
theorem dX12_isLetter_19 : decode cX12_isLetter 19 = .ok (.if_icmp .le 22, 3) := by decide +kernel
theorem dX12_isLetter_22 : decode cX12_isLetter 22 = .ok (.aload_n 0, 1) := by decide +kernel
theorem dX12_isLetter_23 : decode cX12_isLetter 23 = .ok (.getfield 17, 3) := by decide +kernel
theorem dX12_isLetter_26 : decode cX12_isLetter 26 = .ok (.aload_n 0, 1) := by decide +kernel
theorem dX12_isLetter_27 : decode cX12_isLetter 27 = .ok (.getfield 111, 3) := by decide +kernel
theorem dX12_isLetter_30 : decode cX12_isLetter 30 = .ok (.iload_n 1, 1) := by decide +kernel
theorem dX12_isLetter_31 : decode cX12_isLetter 31 = .ok (.iadd, 1) := by decide +kernel
theorem dX12_isLetter_32 : decode cX12_isLetter 32 = .ok (.iaload, 1) := by decide +kernel
theorem dX12_isLetter_33 : decode cX12_isLetter 33 = .ok (.iload_n 2, 1) := by decide +kernel
theorem dX12_isLetter_34 : decode cX12_isLetter 34 = .ok (.if_icmp .ne 7, 3) := by decide +kernel
theorem dX12_isLetter_37 : decode cX12_isLetter 37 = .ok (.iconst 1, 1) := by decide +kernel
theorem dX12_isLetter_38 : decode cX12_isLetter 38 = .ok (.goto 4, 3) := by decide +kernel
theorem dX12_isLetter_41 : decode cX12_isLetter 41 = .ok (.iconst 0, 1) := by decide +kernel
theorem dX12_isLetter_42 : decode cX12_isLetter 42 = .ok (.ireturn, 1) := by decide +kernel
set_option maxRecDepth 20000 in
theorem ggX12_wordOf_X12_isWord : GoodIn wsX12_wordOf wsX12_isWord := goodIn_r _ [5, 6, 7, 8, 9, 10, 4, 11, 12, 13, 14, 15, 16, 17, 18, 19, 20, 21, 22, 23, 24, 25, 26, 27, 28, 29, 30, 31, 32, 33, 34] (by decide +kernel) (by decide +kernel)
set_option maxRecDepth 20000 in
theorem gX12_wordOf_X12_isWord : GoodIn wsX12_wordOf (wsV RX12 125 RX12 yX12_isWord wsX12_isWord) := goodIn_app (goodIn_of _ (by decide +kernel)) ggX12_wordOf_X12_isWord
theorem dX12_wordOf_0 : decode cX12_wordOf 0 = .ok (.aload_n 0, 1) := by decide +kernel
theorem dX12_wordOf_1 : decode cX12_wordOf 1 = .ok (.bipush 111, 2) := by decide +kernel
theorem dX12_wordOf_3 : decode cX12_wordOf 3 = .ok (.bipush 102, 2) := by decide +kernel
theorem dX12_wordOf_5 : decode cX12_wordOf 5 = .ok (.bipush 102, 2) := by decide +kernel
theorem dX12_wordOf_7 : decode cX12_wordOf 7 = .ok (.bipush 105, 2) := by decide +kernel
theorem dX12_wordOf_9 : decode cX12_wordOf 9 = .ok (.bipush 99, 2) := by decide +kernel
theorem dX12_wordOf_11 : decode cX12_wordOf 11 = .ok (.bipush 101, 2) := by decide +kernel
theorem dX12_wordOf_13 : decode cX12_wordOf 13 = .ok (.iconst 0, 1) := by decide +kernel
theorem dX12_wordOf_14 : decode cX12_wordOf 14 = .ok (.invokevirtual 125, 3) := by decide +kernel
theorem dX12_wordOf_17 : decode cX12_wordOf 17 = .ok (.ifCond .eq 7, 3) := by decide +kernel
theorem dX12_wordOf_20 : decode cX12_wordOf 20 = .ok (.iconst 1, 1) := by decide +kernel
theorem dX12_wordOf_21 : decode cX12_wordOf 21 = .ok (.goto 95, 3) := by decide +kernel
theorem dX12_wordOf_24 : decode cX12_wordOf 24 = .ok (.aload_n 0, 1) := by decide +kernel
theorem dX12_wordOf_25 : decode cX12_wordOf 25 = .ok (.bipush 99, 2) := by decide +kernel
theorem dX12_wordOf_27 : decode cX12_wordOf 27 = .ok (.bipush 108, 2) := by decide +kernel
theorem dX12_wordOf_29 : decode cX12_wordOf 29 = .ok (.bipush 101, 2) := by decide +kernel
theorem dX12_wordOf_31 : decode cX12_wordOf 31 = .ok (.bipush 114, 2) := by decide +kernel
theorem dX12_wordOf_33 : decode cX12_wordOf 33 = .ok (.bipush 107, 2) := by decide +kernel
theorem dX12_wordOf_35 : decode cX12_wordOf 35 = .ok (.iconst 0, 1) := by decide +kernel
theorem dX12_wordOf_36 : decode cX12_wordOf 36 = .ok (.iconst 0, 1) := by decide +kernel
theorem dX12_wordOf_37 : decode cX12_wordOf 37 = .ok (.invokevirtual 125, 3) := by decide +kernel
theorem dX12_wordOf_40 : decode cX12_wordOf 40 = .ok (.ifCond .eq 7, 3) := by decide +kernel
theorem dX12_wordOf_43 : decode cX12_wordOf 43 = .ok (.iconst 2, 1) := by decide +kernel
theorem dX12_wordOf_44 : decode cX12_wordOf 44 = .ok (.goto 72, 3) := by decide +kernel
theorem dX12_wordOf_47 : decode cX12_wordOf 47 = .ok (.aload_n 0, 1) := by decide +kernel
theorem dX12_wordOf_48 : decode cX12_wordOf 48 = .ok (.bipush 109, 2) := by decide +kernel
theorem dX12_wordOf_50 : decode cX12_wordOf 50 = .ok (.bipush 97, 2) := by decide +kernel
theorem dX12_wordOf_52 : decode cX12_wordOf 52 = .ok (.bipush 103, 2) := by decide +kernel
theorem dX12_wordOf_54 : decode cX12_wordOf 54 = .ok (.bipush 110, 2) := by decide +kernel
theorem dX12_wordOf_56 : decode cX12_wordOf 56 = .ok (.bipush 101, 2) := by decide +kernel
theorem dX12_wordOf_58 : decode cX12_wordOf 58 = .ok (.bipush 116, 2) := by decide +kernel
theorem dX12_wordOf_60 : decode cX12_wordOf 60 = .ok (.iconst 0, 1) := by decide +kernel
theorem dX12_wordOf_61 : decode cX12_wordOf 61 = .ok (.invokevirtual 125, 3) := by decide +kernel
theorem dX12_wordOf_64 : decode cX12_wordOf 64 = .ok (.ifCond .eq 7, 3) := by decide +kernel
theorem dX12_wordOf_67 : decode cX12_wordOf 67 = .ok (.iconst 3, 1) := by decide +kernel
theorem dX12_wordOf_68 : decode cX12_wordOf 68 = .ok (.goto 48, 3) := by decide +kernel
theorem dX12_wordOf_71 : decode cX12_wordOf 71 = .ok (.aload_n 0, 1) := by decide +kernel
theorem dX12_wordOf_72 : decode cX12_wordOf 72 = .ok (.bipush 104, 2) := by decide +kernel
theorem dX12_wordOf_74 : decode cX12_wordOf 74 = .ok (.bipush 111, 2) := by decide +kernel
theorem dX12_wordOf_76 : decode cX12_wordOf 76 = .ok (.bipush 111, 2) := by decide +kernel
theorem dX12_wordOf_78 : decode cX12_wordOf 78 = .ok (.bipush 107, 2) := by decide +kernel
theorem dX12_wordOf_80 : decode cX12_wordOf 80 = .ok (.iconst 0, 1) := by decide +kernel
theorem dX12_wordOf_81 : decode cX12_wordOf 81 = .ok (.iconst 0, 1) := by decide +kernel
theorem dX12_wordOf_82 : decode cX12_wordOf 82 = .ok (.iconst 0, 1) := by decide +kernel
theorem dX12_wordOf_83 : decode cX12_wordOf 83 = .ok (.invokevirtual 125, 3) := by decide +kernel
theorem dX12_wordOf_86 : decode cX12_wordOf 86 = .ok (.ifCond .eq 7, 3) := by decide +kernel
theorem dX12_wordOf_89 : decode cX12_wordOf 89 = .ok (.iconst 4, 1) := by decide +kernel
theorem dX12_wordOf_90 : decode cX12_wordOf 90 = .ok (.goto 26, 3) := by decide +kernel
theorem dX12_wordOf_93 : decode cX12_wordOf 93 = .ok (.aload_n 0, 1) := by decide +kernel
theorem dX12_wordOf_94 : decode cX12_wordOf 94 = .ok (.bipush 100, 2) := by decide +kernel
theorem dX12_wordOf_96 : decode cX12_wordOf 96 = .ok (.bipush 97, 2) := by decide +kernel
theorem dX12_wordOf_98 : decode cX12_wordOf 98 = .ok (.bipush 121, 2) := by decide +kernel
theorem dX12_wordOf_100 : decode cX12_wordOf 100 = .ok (.bipush 115, 2) := by decide +kernel
theorem dX12_wordOf_102 : decode cX12_wordOf 102 = .ok (.iconst 0, 1) := by decide +kernel
theorem dX12_wordOf_103 : decode cX12_wordOf 103 = .ok (.iconst 0, 1) := by decide +kernel
theorem dX12_wordOf_104 : decode cX12_wordOf 104 = .ok (.iconst 0, 1) := by decide +kernel
theorem dX12_wordOf_105 : decode cX12_wordOf 105 = .ok (.invokevirtual 125, 3) := by decide +kernel
theorem dX12_wordOf_108 : decode cX12_wordOf 108 = .ok (.ifCond .eq 7, 3) := by decide +kernel
theorem dX12_wordOf_111 : decode cX12_wordOf 111 = .ok (.iconst 5, 1) := by decide +kernel
theorem dX12_wordOf_112 : decode cX12_wordOf 112 = .ok (.goto 4, 3) := by decide +kernel
theorem dX12_wordOf_115 : decode cX12_wordOf 115 = .ok (.iconst 0, 1) := by decide +kernel
theorem dX12_wordOf_116 : decode cX12_wordOf 116 = .ok (.ireturn, 1) := by decide +kernel
set_option maxRecDepth 20000 in
theorem ggX12_takesNumber_X12_blanks : GoodIn wsX12_takesNumber wsX12_blanks := goodIn_r _ [11, 2, 5, 12, 13, 14, 10, 15, 16, 17, 21, 22, 23, 24, 25, 26, 27, 28, 29, 30, 31, 32, 33, 34, 35, 36, 37, 38, 39, 40, 41, 42] (by decide +kernel) (by decide +kernel)
set_option maxRecDepth 20000 in
theorem gX12_takesNumber_X12_blanks : GoodIn wsX12_takesNumber (wsV RX12 114 RX12 yX12_blanks wsX12_blanks) := goodIn_app (goodIn_of _ (by decide +kernel)) ggX12_takesNumber_X12_blanks
set_option maxRecDepth 20000 in
theorem ggX12_takesNumber_X12_byteAt : GoodIn wsX12_takesNumber wsX12_byteAt := goodIn_r _ [15, 16, 17, 21, 22, 23, 24, 25, 26, 27, 28, 29, 30, 31, 32, 33, 34, 35, 36, 37, 38, 39, 40, 41, 42] (by decide +kernel) (by decide +kernel)
set_option maxRecDepth 20000 in
theorem gX12_takesNumber_X12_byteAt : GoodIn wsX12_takesNumber (wsV RX12 108 RX12 yX12_byteAt wsX12_byteAt) := goodIn_app (goodIn_of _ (by decide +kernel)) ggX12_takesNumber_X12_byteAt
set_option maxRecDepth 20000 in
theorem ggX12_takesNumber_X12_in : GoodIn wsX12_takesNumber wsX12_in := goodIn_r _ [20] (by decide +kernel) (by decide +kernel)
set_option maxRecDepth 20000 in
theorem gX12_takesNumber_X12_in : GoodIn wsX12_takesNumber (va_wsS RX12 64 yX12_in wsX12_in) := goodIn_app (goodIn_of _ (by decide +kernel)) ggX12_takesNumber_X12_in
theorem dX12_takesNumber_0 : decode cX12_takesNumber 0 = .ok (.aload_n 0, 1) := by decide +kernel
theorem dX12_takesNumber_1 : decode cX12_takesNumber 1 = .ok (.invokevirtual 114, 3) := by decide +kernel
theorem dX12_takesNumber_4 : decode cX12_takesNumber 4 = .ok (.aload_n 0, 1) := by decide +kernel
theorem dX12_takesNumber_5 : decode cX12_takesNumber 5 = .ok (.iconst 0, 1) := by decide +kernel
theorem dX12_takesNumber_6 : decode cX12_takesNumber 6 = .ok (.putfield 129, 3) := by decide +kernel
theorem dX12_takesNumber_9 : decode cX12_takesNumber 9 = .ok (.aload_n 0, 1) := by decide +kernel
theorem dX12_takesNumber_10 : decode cX12_takesNumber 10 = .ok (.aload_n 0, 1) := by decide +kernel
theorem dX12_takesNumber_11 : decode cX12_takesNumber 11 = .ok (.getfield 105, 3) := by decide +kernel
theorem dX12_takesNumber_14 : decode cX12_takesNumber 14 = .ok (.invokevirtual 108, 3) := by decide +kernel
theorem dX12_takesNumber_17 : decode cX12_takesNumber 17 = .ok (.i2l, 1) := by decide +kernel
theorem dX12_takesNumber_18 : decode cX12_takesNumber 18 = .ok (.ldc2_w 132, 3) := by decide +kernel
theorem dX12_takesNumber_21 : decode cX12_takesNumber 21 = .ok (.ldc2_w 134, 3) := by decide +kernel
theorem dX12_takesNumber_24 : decode cX12_takesNumber 24 = .ok (.invokestatic 64, 3) := by decide +kernel
theorem dX12_takesNumber_27 : decode cX12_takesNumber 27 = .ok (.ifCond .eq 59, 3) := by decide +kernel
theorem dX12_takesNumber_30 : decode cX12_takesNumber 30 = .ok (.aload_n 0, 1) := by decide +kernel
theorem dX12_takesNumber_31 : decode cX12_takesNumber 31 = .ok (.aload_n 0, 1) := by decide +kernel
theorem dX12_takesNumber_32 : decode cX12_takesNumber 32 = .ok (.getfield 105, 3) := by decide +kernel
theorem dX12_takesNumber_35 : decode cX12_takesNumber 35 = .ok (.aload_n 0, 1) := by decide +kernel
theorem dX12_takesNumber_36 : decode cX12_takesNumber 36 = .ok (.getfield 111, 3) := by decide +kernel
theorem dX12_takesNumber_39 : decode cX12_takesNumber 39 = .ok (.isub, 1) := by decide +kernel
theorem dX12_takesNumber_40 : decode cX12_takesNumber 40 = .ok (.iconst 2, 1) := by decide +kernel
theorem dX12_takesNumber_41 : decode cX12_takesNumber 41 = .ok (.if_icmp .ge 25, 3) := by decide +kernel
theorem dX12_takesNumber_44 : decode cX12_takesNumber 44 = .ok (.bipush 10, 2) := by decide +kernel
theorem dX12_takesNumber_46 : decode cX12_takesNumber 46 = .ok (.aload_n 0, 1) := by decide +kernel
theorem dX12_takesNumber_47 : decode cX12_takesNumber 47 = .ok (.getfield 129, 3) := by decide +kernel
theorem dX12_takesNumber_50 : decode cX12_takesNumber 50 = .ok (.imul, 1) := by decide +kernel
theorem dX12_takesNumber_51 : decode cX12_takesNumber 51 = .ok (.aload_n 0, 1) := by decide +kernel
theorem dX12_takesNumber_52 : decode cX12_takesNumber 52 = .ok (.aload_n 0, 1) := by decide +kernel
theorem dX12_takesNumber_53 : decode cX12_takesNumber 53 = .ok (.getfield 105, 3) := by decide +kernel
theorem dX12_takesNumber_56 : decode cX12_takesNumber 56 = .ok (.invokevirtual 108, 3) := by decide +kernel
theorem dX12_takesNumber_59 : decode cX12_takesNumber 59 = .ok (.iadd, 1) := by decide +kernel
theorem dX12_takesNumber_60 : decode cX12_takesNumber 60 = .ok (.bipush 48, 2) := by decide +kernel
theorem dX12_takesNumber_62 : decode cX12_takesNumber 62 = .ok (.isub, 1) := by decide +kernel
theorem dX12_takesNumber_63 : decode cX12_takesNumber 63 = .ok (.goto 7, 3) := by decide +kernel
theorem dX12_takesNumber_66 : decode cX12_takesNumber 66 = .ok (.aload_n 0, 1) := by decide +kernel
theorem dX12_takesNumber_67 : decode cX12_takesNumber 67 = .ok (.getfield 129, 3) := by decide +kernel
theorem dX12_takesNumber_70 : decode cX12_takesNumber 70 = .ok (.putfield 129, 3) := by decide +kernel
theorem dX12_takesNumber_73 : decode cX12_takesNumber 73 = .ok (.aload_n 0, 1) := by decide +kernel
theorem dX12_takesNumber_74 : decode cX12_takesNumber 74 = .ok (.dup, 1) := by decide +kernel
theorem dX12_takesNumber_75 : decode cX12_takesNumber 75 = .ok (.getfield 105, 3) := by decide +kernel
theorem dX12_takesNumber_78 : decode cX12_takesNumber 78 = .ok (.iconst 1, 1) := by decide +kernel
theorem dX12_takesNumber_79 : decode cX12_takesNumber 79 = .ok (.iadd, 1) := by decide +kernel
theorem dX12_takesNumber_80 : decode cX12_takesNumber 80 = .ok (.putfield 105, 3) := by decide +kernel
theorem dX12_takesNumber_83 : decode cX12_takesNumber 83 = .ok (.goto (-74), 3) := by decide +kernel
theorem dX12_takesNumber_86 : decode cX12_takesNumber 86 = .ok (.aload_n 0, 1) := by decide +kernel
theorem dX12_takesNumber_87 : decode cX12_takesNumber 87 = .ok (.getfield 105, 3) := by decide +kernel
theorem dX12_takesNumber_90 : decode cX12_takesNumber 90 = .ok (.aload_n 0, 1) := by decide +kernel
theorem dX12_takesNumber_91 : decode cX12_takesNumber 91 = .ok (.getfield 111, 3) := by decide +kernel
theorem dX12_takesNumber_94 : decode cX12_takesNumber 94 = .ok (.isub, 1) := by decide +kernel
theorem dX12_takesNumber_95 : decode cX12_takesNumber 95 = .ok (.i2l, 1) := by decide +kernel
theorem dX12_takesNumber_96 : decode cX12_takesNumber 96 = .ok (.lconst 1, 1) := by decide +kernel
theorem dX12_takesNumber_97 : decode cX12_takesNumber 97 = .ok (.ldc2_w 136, 3) := by decide +kernel
theorem dX12_takesNumber_100 : decode cX12_takesNumber 100 = .ok (.invokestatic 64, 3) := by decide +kernel
theorem dX12_takesNumber_103 : decode cX12_takesNumber 103 = .ok (.ifCond .eq 22, 3) := by decide +kernel
theorem dX12_takesNumber_106 : decode cX12_takesNumber 106 = .ok (.aload_n 0, 1) := by decide +kernel
theorem dX12_takesNumber_107 : decode cX12_takesNumber 107 = .ok (.getfield 129, 3) := by decide +kernel
theorem dX12_takesNumber_110 : decode cX12_takesNumber 110 = .ok (.i2l, 1) := by decide +kernel
theorem dX12_takesNumber_111 : decode cX12_takesNumber 111 = .ok (.iload_n 1, 1) := by decide +kernel
theorem dX12_takesNumber_112 : decode cX12_takesNumber 112 = .ok (.i2l, 1) := by decide +kernel
theorem dX12_takesNumber_113 : decode cX12_takesNumber 113 = .ok (.iload_n 2, 1) := by decide +kernel
theorem dX12_takesNumber_114 : decode cX12_takesNumber 114 = .ok (.i2l, 1) := by decide +kernel
theorem dX12_takesNumber_115 : decode cX12_takesNumber 115 = .ok (.invokestatic 64, 3) := by decide +kernel
theorem dX12_takesNumber_118 : decode cX12_takesNumber 118 = .ok (.ifCond .eq 7, 3) := by decide +kernel
theorem dX12_takesNumber_121 : decode cX12_takesNumber 121 = .ok (.iconst 1, 1) := by decide +kernel
theorem dX12_takesNumber_122 : decode cX12_takesNumber 122 = .ok (.goto 4, 3) := by decide +kernel
theorem dX12_takesNumber_125 : decode cX12_takesNumber 125 = .ok (.iconst 0, 1) := by decide +kernel
theorem dX12_takesNumber_126 : decode cX12_takesNumber 126 = .ok (.ireturn, 1) := by decide +kernel
set_option maxRecDepth 20000 in
theorem ggX12_takesEnd_X12_blanks : GoodIn wsX12_takesEnd wsX12_blanks := goodIn_r _ [7, 1, 2, 8, 9, 10, 6, 11, 12, 13, 14, 15, 16, 17, 18, 19, 20, 21, 22, 23, 24, 25, 26, 27, 28, 29, 30, 31, 32, 33, 34, 35] (by decide +kernel) (by decide +kernel)
set_option maxRecDepth 20000 in
theorem gX12_takesEnd_X12_blanks : GoodIn wsX12_takesEnd (wsV RX12 114 RX12 yX12_blanks wsX12_blanks) := goodIn_app (goodIn_of _ (by decide +kernel)) ggX12_takesEnd_X12_blanks
set_option maxRecDepth 20000 in
theorem ggX12_takesEnd_X12_byteAt : GoodIn wsX12_takesEnd wsX12_byteAt := goodIn_r _ [11, 12, 13, 14, 15, 16, 17, 18, 19, 20, 21, 22, 23, 24, 25, 26, 27, 28, 29, 30, 31, 32, 33, 34, 35] (by decide +kernel) (by decide +kernel)
set_option maxRecDepth 20000 in
theorem gX12_takesEnd_X12_byteAt : GoodIn wsX12_takesEnd (wsV RX12 108 RX12 yX12_byteAt wsX12_byteAt) := goodIn_app (goodIn_of _ (by decide +kernel)) ggX12_takesEnd_X12_byteAt
theorem dX12_takesEnd_0 : decode cX12_takesEnd 0 = .ok (.aload_n 0, 1) := by decide +kernel
theorem dX12_takesEnd_1 : decode cX12_takesEnd 1 = .ok (.invokevirtual 114, 3) := by decide +kernel
theorem dX12_takesEnd_4 : decode cX12_takesEnd 4 = .ok (.aload_n 0, 1) := by decide +kernel
theorem dX12_takesEnd_5 : decode cX12_takesEnd 5 = .ok (.dup, 1) := by decide +kernel
theorem dX12_takesEnd_6 : decode cX12_takesEnd 6 = .ok (.getfield 105, 3) := by decide +kernel
theorem dX12_takesEnd_9 : decode cX12_takesEnd 9 = .ok (.iconst 1, 1) := by decide +kernel
theorem dX12_takesEnd_10 : decode cX12_takesEnd 10 = .ok (.iadd, 1) := by decide +kernel
theorem dX12_takesEnd_11 : decode cX12_takesEnd 11 = .ok (.putfield 105, 3) := by decide +kernel
theorem dX12_takesEnd_14 : decode cX12_takesEnd 14 = .ok (.aload_n 0, 1) := by decide +kernel
theorem dX12_takesEnd_15 : decode cX12_takesEnd 15 = .ok (.aload_n 0, 1) := by decide +kernel
theorem dX12_takesEnd_16 : decode cX12_takesEnd 16 = .ok (.getfield 111, 3) := by decide +kernel
theorem dX12_takesEnd_19 : decode cX12_takesEnd 19 = .ok (.invokevirtual 108, 3) := by decide +kernel
theorem dX12_takesEnd_22 : decode cX12_takesEnd 22 = .ok (.bipush 59, 2) := by decide +kernel
theorem dX12_takesEnd_24 : decode cX12_takesEnd 24 = .ok (.if_icmp .ne 7, 3) := by decide +kernel
theorem dX12_takesEnd_27 : decode cX12_takesEnd 27 = .ok (.iconst 1, 1) := by decide +kernel
theorem dX12_takesEnd_28 : decode cX12_takesEnd 28 = .ok (.goto 4, 3) := by decide +kernel
theorem dX12_takesEnd_31 : decode cX12_takesEnd 31 = .ok (.iconst 0, 1) := by decide +kernel
theorem dX12_takesEnd_32 : decode cX12_takesEnd 32 = .ok (.ireturn, 1) := by decide +kernel
set_option maxRecDepth 20000 in
theorem ggX12_readsClerk_X12_takesNumber : GoodIn wsX12_readsClerk wsX12_takesNumber := goodIn_r _ [7, 2, 8, 9, 10, 11, 12, 13, 14, 15, 6, 16, 17, 18, 19, 20, 21, 22, 23, 24, 25, 30, 31, 32, 33, 34, 35, 36, 37, 38, 39, 40, 41, 42, 43, 44, 45, 46, 47, 48, 49, 50, 51] (by decide +kernel) (by decide +kernel)
set_option maxRecDepth 20000 in
theorem gX12_readsClerk_X12_takesNumber : GoodIn wsX12_readsClerk (wsV RX12 138 RX12 yX12_takesNumber wsX12_takesNumber) := goodIn_app (goodIn_of _ (by decide +kernel)) ggX12_readsClerk_X12_takesNumber
set_option maxRecDepth 20000 in
theorem ggX12_readsClerk_X12_adds : GoodIn wsX12_readsClerk wsX12_adds := goodIn_r _ [29, 1, 30, 31, 32, 33, 34, 35, 36, 37, 38, 39, 40, 41, 42, 43, 44, 45, 46, 47, 48, 49, 50, 51] (by decide +kernel) (by decide +kernel)
set_option maxRecDepth 20000 in
theorem gX12_readsClerk_X12_adds : GoodIn wsX12_readsClerk (wsV RX12 96 RX12 yX12_adds wsX12_adds) := goodIn_app (goodIn_of _ (by decide +kernel)) ggX12_readsClerk_X12_adds
theorem dX12_readsClerk_0 : decode cX12_readsClerk 0 = .ok (.aload_n 0, 1) := by decide +kernel
theorem dX12_readsClerk_1 : decode cX12_readsClerk 1 = .ok (.getfield 7, 3) := by decide +kernel
theorem dX12_readsClerk_4 : decode cX12_readsClerk 4 = .ok (.sipush 903, 3) := by decide +kernel
theorem dX12_readsClerk_7 : decode cX12_readsClerk 7 = .ok (.iaload, 1) := by decide +kernel
theorem dX12_readsClerk_8 : decode cX12_readsClerk 8 = .ok (.bipush 7, 2) := by decide +kernel
theorem dX12_readsClerk_10 : decode cX12_readsClerk 10 = .ok (.if_icmp .eq 12, 3) := by decide +kernel
theorem dX12_readsClerk_13 : decode cX12_readsClerk 13 = .ok (.aload_n 0, 1) := by decide +kernel
theorem dX12_readsClerk_14 : decode cX12_readsClerk 14 = .ok (.iconst 0, 1) := by decide +kernel
theorem dX12_readsClerk_15 : decode cX12_readsClerk 15 = .ok (.iconst 5, 1) := by decide +kernel
theorem dX12_readsClerk_16 : decode cX12_readsClerk 16 = .ok (.invokevirtual 138, 3) := by decide +kernel
theorem dX12_readsClerk_19 : decode cX12_readsClerk 19 = .ok (.ifCond .ne 5, 3) := by decide +kernel
theorem dX12_readsClerk_22 : decode cX12_readsClerk 22 = .ok (.iconst 0, 1) := by decide +kernel
theorem dX12_readsClerk_23 : decode cX12_readsClerk 23 = .ok (.ireturn, 1) := by decide +kernel
theorem dX12_readsClerk_24 : decode cX12_readsClerk 24 = .ok (.aload_n 0, 1) := by decide +kernel
theorem dX12_readsClerk_25 : decode cX12_readsClerk 25 = .ok (.getfield 129, 3) := by decide +kernel
theorem dX12_readsClerk_28 : decode cX12_readsClerk 28 = .ok (.istore_n 1, 1) := by decide +kernel
theorem dX12_readsClerk_29 : decode cX12_readsClerk 29 = .ok (.aload_n 0, 1) := by decide +kernel
theorem dX12_readsClerk_30 : decode cX12_readsClerk 30 = .ok (.iconst 0, 1) := by decide +kernel
theorem dX12_readsClerk_31 : decode cX12_readsClerk 31 = .ok (.bipush 11, 2) := by decide +kernel
theorem dX12_readsClerk_33 : decode cX12_readsClerk 33 = .ok (.invokevirtual 138, 3) := by decide +kernel
theorem dX12_readsClerk_36 : decode cX12_readsClerk 36 = .ok (.ifCond .ne 5, 3) := by decide +kernel
theorem dX12_readsClerk_39 : decode cX12_readsClerk 39 = .ok (.iconst 0, 1) := by decide +kernel
theorem dX12_readsClerk_40 : decode cX12_readsClerk 40 = .ok (.ireturn, 1) := by decide +kernel
theorem dX12_readsClerk_41 : decode cX12_readsClerk 41 = .ok (.aload_n 0, 1) := by decide +kernel
theorem dX12_readsClerk_42 : decode cX12_readsClerk 42 = .ok (.getfield 129, 3) := by decide +kernel
theorem dX12_readsClerk_45 : decode cX12_readsClerk 45 = .ok (.istore_n 2, 1) := by decide +kernel
theorem dX12_readsClerk_46 : decode cX12_readsClerk 46 = .ok (.aload_n 0, 1) := by decide +kernel
theorem dX12_readsClerk_47 : decode cX12_readsClerk 47 = .ok (.iconst 1, 1) := by decide +kernel
theorem dX12_readsClerk_48 : decode cX12_readsClerk 48 = .ok (.bipush 9, 2) := by decide +kernel
theorem dX12_readsClerk_50 : decode cX12_readsClerk 50 = .ok (.invokevirtual 138, 3) := by decide +kernel
theorem dX12_readsClerk_53 : decode cX12_readsClerk 53 = .ok (.ifCond .ne 5, 3) := by decide +kernel
theorem dX12_readsClerk_56 : decode cX12_readsClerk 56 = .ok (.iconst 0, 1) := by decide +kernel
theorem dX12_readsClerk_57 : decode cX12_readsClerk 57 = .ok (.ireturn, 1) := by decide +kernel
theorem dX12_readsClerk_58 : decode cX12_readsClerk 58 = .ok (.aload_n 0, 1) := by decide +kernel
theorem dX12_readsClerk_59 : decode cX12_readsClerk 59 = .ok (.sipush 903, 3) := by decide +kernel
theorem dX12_readsClerk_62 : decode cX12_readsClerk 62 = .ok (.iload_n 1, 1) := by decide +kernel
theorem dX12_readsClerk_63 : decode cX12_readsClerk 63 = .ok (.iload_n 2, 1) := by decide +kernel
theorem dX12_readsClerk_64 : decode cX12_readsClerk 64 = .ok (.aload_n 0, 1) := by decide +kernel
theorem dX12_readsClerk_65 : decode cX12_readsClerk 65 = .ok (.getfield 129, 3) := by decide +kernel
theorem dX12_readsClerk_68 : decode cX12_readsClerk 68 = .ok (.invokevirtual 96, 3) := by decide +kernel
theorem dX12_readsClerk_71 : decode cX12_readsClerk 71 = .ok (.iconst 1, 1) := by decide +kernel
theorem dX12_readsClerk_72 : decode cX12_readsClerk 72 = .ok (.ireturn, 1) := by decide +kernel
set_option maxRecDepth 20000 in
theorem ggX12_readsMagnet_X12_takesNumber : GoodIn wsX12_readsMagnet wsX12_takesNumber := goodIn_r _ [7, 2, 8, 9, 10, 11, 12, 13, 14, 15, 6, 16, 17, 18, 19, 20, 21, 22, 23, 24, 25, 30, 31, 32, 33, 34, 35, 36, 37, 38, 39, 40, 41, 42, 43, 44, 45, 46, 47, 48, 49, 50, 51] (by decide +kernel) (by decide +kernel)
set_option maxRecDepth 20000 in
theorem gX12_readsMagnet_X12_takesNumber : GoodIn wsX12_readsMagnet (wsV RX12 138 RX12 yX12_takesNumber wsX12_takesNumber) := goodIn_app (goodIn_of _ (by decide +kernel)) ggX12_readsMagnet_X12_takesNumber
set_option maxRecDepth 20000 in
theorem ggX12_readsMagnet_X12_addsMagnet : GoodIn wsX12_readsMagnet wsX12_addsMagnet := goodIn_r _ [29, 1, 30, 31, 32, 33, 34, 35, 36, 37, 38, 39, 40, 41, 42, 43, 44, 45, 46, 47, 48, 49, 50, 51] (by decide +kernel) (by decide +kernel)
set_option maxRecDepth 20000 in
theorem gX12_readsMagnet_X12_addsMagnet : GoodIn wsX12_readsMagnet (wsV RX12 100 RX12 yX12_addsMagnet wsX12_addsMagnet) := goodIn_app (goodIn_of _ (by decide +kernel)) ggX12_readsMagnet_X12_addsMagnet
theorem dX12_readsMagnet_0 : decode cX12_readsMagnet 0 = .ok (.aload_n 0, 1) := by decide +kernel
theorem dX12_readsMagnet_1 : decode cX12_readsMagnet 1 = .ok (.getfield 7, 3) := by decide +kernel
theorem dX12_readsMagnet_4 : decode cX12_readsMagnet 4 = .ok (.sipush 904, 3) := by decide +kernel
theorem dX12_readsMagnet_7 : decode cX12_readsMagnet 7 = .ok (.iaload, 1) := by decide +kernel
theorem dX12_readsMagnet_8 : decode cX12_readsMagnet 8 = .ok (.iconst 3, 1) := by decide +kernel
theorem dX12_readsMagnet_9 : decode cX12_readsMagnet 9 = .ok (.if_icmp .eq 12, 3) := by decide +kernel
theorem dX12_readsMagnet_12 : decode cX12_readsMagnet 12 = .ok (.aload_n 0, 1) := by decide +kernel
theorem dX12_readsMagnet_13 : decode cX12_readsMagnet 13 = .ok (.iconst 0, 1) := by decide +kernel
theorem dX12_readsMagnet_14 : decode cX12_readsMagnet 14 = .ok (.iconst 5, 1) := by decide +kernel
theorem dX12_readsMagnet_15 : decode cX12_readsMagnet 15 = .ok (.invokevirtual 138, 3) := by decide +kernel
theorem dX12_readsMagnet_18 : decode cX12_readsMagnet 18 = .ok (.ifCond .ne 5, 3) := by decide +kernel
theorem dX12_readsMagnet_21 : decode cX12_readsMagnet 21 = .ok (.iconst 0, 1) := by decide +kernel
theorem dX12_readsMagnet_22 : decode cX12_readsMagnet 22 = .ok (.ireturn, 1) := by decide +kernel
theorem dX12_readsMagnet_23 : decode cX12_readsMagnet 23 = .ok (.aload_n 0, 1) := by decide +kernel
theorem dX12_readsMagnet_24 : decode cX12_readsMagnet 24 = .ok (.getfield 129, 3) := by decide +kernel
theorem dX12_readsMagnet_27 : decode cX12_readsMagnet 27 = .ok (.istore_n 1, 1) := by decide +kernel
theorem dX12_readsMagnet_28 : decode cX12_readsMagnet 28 = .ok (.aload_n 0, 1) := by decide +kernel
theorem dX12_readsMagnet_29 : decode cX12_readsMagnet 29 = .ok (.iconst 0, 1) := by decide +kernel
theorem dX12_readsMagnet_30 : decode cX12_readsMagnet 30 = .ok (.bipush 11, 2) := by decide +kernel
theorem dX12_readsMagnet_32 : decode cX12_readsMagnet 32 = .ok (.invokevirtual 138, 3) := by decide +kernel
theorem dX12_readsMagnet_35 : decode cX12_readsMagnet 35 = .ok (.ifCond .ne 5, 3) := by decide +kernel
theorem dX12_readsMagnet_38 : decode cX12_readsMagnet 38 = .ok (.iconst 0, 1) := by decide +kernel
theorem dX12_readsMagnet_39 : decode cX12_readsMagnet 39 = .ok (.ireturn, 1) := by decide +kernel
theorem dX12_readsMagnet_40 : decode cX12_readsMagnet 40 = .ok (.aload_n 0, 1) := by decide +kernel
theorem dX12_readsMagnet_41 : decode cX12_readsMagnet 41 = .ok (.getfield 129, 3) := by decide +kernel
theorem dX12_readsMagnet_44 : decode cX12_readsMagnet 44 = .ok (.istore_n 2, 1) := by decide +kernel
theorem dX12_readsMagnet_45 : decode cX12_readsMagnet 45 = .ok (.aload_n 0, 1) := by decide +kernel
theorem dX12_readsMagnet_46 : decode cX12_readsMagnet 46 = .ok (.iconst 1, 1) := by decide +kernel
theorem dX12_readsMagnet_47 : decode cX12_readsMagnet 47 = .ok (.bipush 9, 2) := by decide +kernel
theorem dX12_readsMagnet_49 : decode cX12_readsMagnet 49 = .ok (.invokevirtual 138, 3) := by decide +kernel
theorem dX12_readsMagnet_52 : decode cX12_readsMagnet 52 = .ok (.ifCond .ne 5, 3) := by decide +kernel
theorem dX12_readsMagnet_55 : decode cX12_readsMagnet 55 = .ok (.iconst 0, 1) := by decide +kernel
theorem dX12_readsMagnet_56 : decode cX12_readsMagnet 56 = .ok (.ireturn, 1) := by decide +kernel
theorem dX12_readsMagnet_57 : decode cX12_readsMagnet 57 = .ok (.aload_n 0, 1) := by decide +kernel
theorem dX12_readsMagnet_58 : decode cX12_readsMagnet 58 = .ok (.sipush 903, 3) := by decide +kernel
theorem dX12_readsMagnet_61 : decode cX12_readsMagnet 61 = .ok (.iload_n 1, 1) := by decide +kernel
theorem dX12_readsMagnet_62 : decode cX12_readsMagnet 62 = .ok (.iload_n 2, 1) := by decide +kernel
theorem dX12_readsMagnet_63 : decode cX12_readsMagnet 63 = .ok (.aload_n 0, 1) := by decide +kernel
theorem dX12_readsMagnet_64 : decode cX12_readsMagnet 64 = .ok (.getfield 129, 3) := by decide +kernel
theorem dX12_readsMagnet_67 : decode cX12_readsMagnet 67 = .ok (.invokevirtual 100, 3) := by decide +kernel
theorem dX12_readsMagnet_70 : decode cX12_readsMagnet 70 = .ok (.iconst 1, 1) := by decide +kernel
theorem dX12_readsMagnet_71 : decode cX12_readsMagnet 71 = .ok (.ireturn, 1) := by decide +kernel
set_option maxRecDepth 20000 in
theorem ggX12_readsHook_X12_takesNumber : GoodIn wsX12_readsHook wsX12_takesNumber := goodIn_r _ [7, 2, 8, 9, 10, 11, 12, 13, 14, 15, 6, 16, 17, 18, 19, 20, 21, 22, 23, 24, 25, 34, 35, 36, 37, 38, 39, 40, 41, 42, 43, 44, 45, 46, 47, 48, 49, 50, 51, 52, 53, 54, 55] (by decide +kernel) (by decide +kernel)
set_option maxRecDepth 20000 in
theorem gX12_readsHook_X12_takesNumber : GoodIn wsX12_readsHook (wsV RX12 138 RX12 yX12_takesNumber wsX12_takesNumber) := goodIn_app (goodIn_of _ (by decide +kernel)) ggX12_readsHook_X12_takesNumber
set_option maxRecDepth 20000 in
theorem ggX12_readsHook_X12_isOver : GoodIn wsX12_readsHook wsX12_isOver := goodIn_r _ [29, 1, 34, 35, 36, 37, 38, 39, 40, 41, 42, 43, 44, 45, 46, 47, 48, 49, 50, 51, 52, 53, 54, 55] (by decide +kernel) (by decide +kernel)
set_option maxRecDepth 20000 in
theorem gX12_readsHook_X12_isOver : GoodIn wsX12_readsHook (wsV RX12 142 RX12 yX12_isOver wsX12_isOver) := goodIn_app (goodIn_of _ (by decide +kernel)) ggX12_readsHook_X12_isOver
set_option maxRecDepth 20000 in
theorem ggX12_readsHook_X12_onIt : GoodIn wsX12_readsHook wsX12_onIt := goodIn_r _ [33, 1, 34, 35, 36, 37, 38, 39, 40, 41, 42, 43, 44, 45, 46, 47, 48, 49, 50, 51, 52, 53, 54, 55] (by decide +kernel) (by decide +kernel)
set_option maxRecDepth 20000 in
theorem gX12_readsHook_X12_onIt : GoodIn wsX12_readsHook (wsV RX12 145 RX12 yX12_onIt wsX12_onIt) := goodIn_app (goodIn_of _ (by decide +kernel)) ggX12_readsHook_X12_onIt
theorem dX12_readsHook_0 : decode cX12_readsHook 0 = .ok (.aload_n 0, 1) := by decide +kernel
theorem dX12_readsHook_1 : decode cX12_readsHook 1 = .ok (.iconst 0, 1) := by decide +kernel
theorem dX12_readsHook_2 : decode cX12_readsHook 2 = .ok (.aload_n 0, 1) := by decide +kernel
theorem dX12_readsHook_3 : decode cX12_readsHook 3 = .ok (.getfield 7, 3) := by decide +kernel
theorem dX12_readsHook_6 : decode cX12_readsHook 6 = .ok (.sipush 903, 3) := by decide +kernel
theorem dX12_readsHook_9 : decode cX12_readsHook 9 = .ok (.iaload, 1) := by decide +kernel
theorem dX12_readsHook_10 : decode cX12_readsHook 10 = .ok (.iconst 1, 1) := by decide +kernel
theorem dX12_readsHook_11 : decode cX12_readsHook 11 = .ok (.isub, 1) := by decide +kernel
theorem dX12_readsHook_12 : decode cX12_readsHook 12 = .ok (.invokevirtual 138, 3) := by decide +kernel
theorem dX12_readsHook_15 : decode cX12_readsHook 15 = .ok (.ifCond .eq 20, 3) := by decide +kernel
theorem dX12_readsHook_18 : decode cX12_readsHook 18 = .ok (.aload_n 0, 1) := by decide +kernel
theorem dX12_readsHook_19 : decode cX12_readsHook 19 = .ok (.getfield 7, 3) := by decide +kernel
theorem dX12_readsHook_22 : decode cX12_readsHook 22 = .ok (.sipush 934, 3) := by decide +kernel
theorem dX12_readsHook_25 : decode cX12_readsHook 25 = .ok (.aload_n 0, 1) := by decide +kernel
theorem dX12_readsHook_26 : decode cX12_readsHook 26 = .ok (.getfield 129, 3) := by decide +kernel
theorem dX12_readsHook_29 : decode cX12_readsHook 29 = .ok (.iadd, 1) := by decide +kernel
theorem dX12_readsHook_30 : decode cX12_readsHook 30 = .ok (.iaload, 1) := by decide +kernel
theorem dX12_readsHook_31 : decode cX12_readsHook 31 = .ok (.iconst (-1), 1) := by decide +kernel
theorem dX12_readsHook_32 : decode cX12_readsHook 32 = .ok (.if_icmp .eq 5, 3) := by decide +kernel
theorem dX12_readsHook_35 : decode cX12_readsHook 35 = .ok (.iconst 0, 1) := by decide +kernel
theorem dX12_readsHook_36 : decode cX12_readsHook 36 = .ok (.ireturn, 1) := by decide +kernel
theorem dX12_readsHook_37 : decode cX12_readsHook 37 = .ok (.aload_n 0, 1) := by decide +kernel
theorem dX12_readsHook_38 : decode cX12_readsHook 38 = .ok (.getfield 129, 3) := by decide +kernel
theorem dX12_readsHook_41 : decode cX12_readsHook 41 = .ok (.istore_n 1, 1) := by decide +kernel
theorem dX12_readsHook_42 : decode cX12_readsHook 42 = .ok (.aload_n 0, 1) := by decide +kernel
theorem dX12_readsHook_43 : decode cX12_readsHook 43 = .ok (.iconst 0, 1) := by decide +kernel
theorem dX12_readsHook_44 : decode cX12_readsHook 44 = .ok (.aload_n 0, 1) := by decide +kernel
theorem dX12_readsHook_45 : decode cX12_readsHook 45 = .ok (.getfield 7, 3) := by decide +kernel
theorem dX12_readsHook_48 : decode cX12_readsHook 48 = .ok (.sipush 903, 3) := by decide +kernel
theorem dX12_readsHook_51 : decode cX12_readsHook 51 = .ok (.iaload, 1) := by decide +kernel
theorem dX12_readsHook_52 : decode cX12_readsHook 52 = .ok (.iconst 1, 1) := by decide +kernel
theorem dX12_readsHook_53 : decode cX12_readsHook 53 = .ok (.isub, 1) := by decide +kernel
theorem dX12_readsHook_54 : decode cX12_readsHook 54 = .ok (.invokevirtual 138, 3) := by decide +kernel
theorem dX12_readsHook_57 : decode cX12_readsHook 57 = .ok (.ifCond .eq 33, 3) := by decide +kernel
theorem dX12_readsHook_60 : decode cX12_readsHook 60 = .ok (.aload_n 0, 1) := by decide +kernel
theorem dX12_readsHook_61 : decode cX12_readsHook 61 = .ok (.sipush 903, 3) := by decide +kernel
theorem dX12_readsHook_64 : decode cX12_readsHook 64 = .ok (.iload_n 1, 1) := by decide +kernel
theorem dX12_readsHook_65 : decode cX12_readsHook 65 = .ok (.aload_n 0, 1) := by decide +kernel
theorem dX12_readsHook_66 : decode cX12_readsHook 66 = .ok (.getfield 129, 3) := by decide +kernel
theorem dX12_readsHook_69 : decode cX12_readsHook 69 = .ok (.invokevirtual 142, 3) := by decide +kernel
theorem dX12_readsHook_72 : decode cX12_readsHook 72 = .ok (.ifCond .ne 18, 3) := by decide +kernel
theorem dX12_readsHook_75 : decode cX12_readsHook 75 = .ok (.aload_n 0, 1) := by decide +kernel
theorem dX12_readsHook_76 : decode cX12_readsHook 76 = .ok (.sipush 903, 3) := by decide +kernel
theorem dX12_readsHook_79 : decode cX12_readsHook 79 = .ok (.aload_n 0, 1) := by decide +kernel
theorem dX12_readsHook_80 : decode cX12_readsHook 80 = .ok (.getfield 129, 3) := by decide +kernel
theorem dX12_readsHook_83 : decode cX12_readsHook 83 = .ok (.invokevirtual 145, 3) := by decide +kernel
theorem dX12_readsHook_86 : decode cX12_readsHook 86 = .ok (.iconst 2, 1) := by decide +kernel
theorem dX12_readsHook_87 : decode cX12_readsHook 87 = .ok (.if_icmp .ne 5, 3) := by decide +kernel
theorem dX12_readsHook_90 : decode cX12_readsHook 90 = .ok (.iconst 0, 1) := by decide +kernel
theorem dX12_readsHook_91 : decode cX12_readsHook 91 = .ok (.ireturn, 1) := by decide +kernel
theorem dX12_readsHook_92 : decode cX12_readsHook 92 = .ok (.aload_n 0, 1) := by decide +kernel
theorem dX12_readsHook_93 : decode cX12_readsHook 93 = .ok (.getfield 7, 3) := by decide +kernel
theorem dX12_readsHook_96 : decode cX12_readsHook 96 = .ok (.sipush 934, 3) := by decide +kernel
theorem dX12_readsHook_99 : decode cX12_readsHook 99 = .ok (.iload_n 1, 1) := by decide +kernel
theorem dX12_readsHook_100 : decode cX12_readsHook 100 = .ok (.iadd, 1) := by decide +kernel
theorem dX12_readsHook_101 : decode cX12_readsHook 101 = .ok (.aload_n 0, 1) := by decide +kernel
theorem dX12_readsHook_102 : decode cX12_readsHook 102 = .ok (.getfield 129, 3) := by decide +kernel
theorem dX12_readsHook_105 : decode cX12_readsHook 105 = .ok (.iastore, 1) := by decide +kernel
theorem dX12_readsHook_106 : decode cX12_readsHook 106 = .ok (.iconst 1, 1) := by decide +kernel
theorem dX12_readsHook_107 : decode cX12_readsHook 107 = .ok (.ireturn, 1) := by decide +kernel
set_option maxRecDepth 20000 in
theorem ggX12_readsDays_X12_takesNumber : GoodIn wsX12_readsDays wsX12_takesNumber := goodIn_r _ [7, 1, 8, 9, 10, 11, 12, 13, 14, 15, 6, 16, 17, 18, 19, 20, 21, 22, 23, 24, 25, 65, 66, 67, 68, 69, 70, 71, 72, 73, 74, 75, 76, 77, 78, 79, 80, 81, 82, 83, 84, 85, 86] (by decide +kernel) (by decide +kernel)
set_option maxRecDepth 20000 in
theorem gX12_readsDays_X12_takesNumber : GoodIn wsX12_readsDays (wsV RX12 138 RX12 yX12_takesNumber wsX12_takesNumber) := goodIn_app (goodIn_of _ (by decide +kernel)) ggX12_readsDays_X12_takesNumber
set_option maxRecDepth 20000 in
theorem ggX12_readsDays_X12_passes : GoodIn wsX12_readsDays wsX12_passes := goodIn_r _ [29, 30, 2, 31, 32, 33, 34, 6, 35, 36, 37, 38, 39, 40, 41, 42, 43, 44, 45, 46, 47, 48, 49, 50, 51, 52, 53, 54, 55, 56, 57, 58, 59, 60, 61, 62, 63, 64, 23, 24, 25, 65, 66, 67, 68, 69, 70, 71, 72, 73, 74, 75, 76, 77, 78, 79, 80, 81, 82, 83, 84, 85, 86] (by decide +kernel) (by decide +kernel)
set_option maxRecDepth 20000 in
theorem gX12_readsDays_X12_passes : GoodIn wsX12_readsDays (wsV RX12 148 RX12 yX12_passes wsX12_passes) := goodIn_app (goodIn_of _ (by decide +kernel)) ggX12_readsDays_X12_passes
theorem dX12_readsDays_0 : decode cX12_readsDays 0 = .ok (.aload_n 0, 1) := by decide +kernel
theorem dX12_readsDays_1 : decode cX12_readsDays 1 = .ok (.iconst 1, 1) := by decide +kernel
theorem dX12_readsDays_2 : decode cX12_readsDays 2 = .ok (.bipush 99, 2) := by decide +kernel
theorem dX12_readsDays_4 : decode cX12_readsDays 4 = .ok (.invokevirtual 138, 3) := by decide +kernel
theorem dX12_readsDays_7 : decode cX12_readsDays 7 = .ok (.ifCond .ne 5, 3) := by decide +kernel
theorem dX12_readsDays_10 : decode cX12_readsDays 10 = .ok (.iconst 0, 1) := by decide +kernel
theorem dX12_readsDays_11 : decode cX12_readsDays 11 = .ok (.ireturn, 1) := by decide +kernel
theorem dX12_readsDays_12 : decode cX12_readsDays 12 = .ok (.iconst 0, 1) := by decide +kernel
theorem dX12_readsDays_13 : decode cX12_readsDays 13 = .ok (.istore_n 1, 1) := by decide +kernel
theorem dX12_readsDays_14 : decode cX12_readsDays 14 = .ok (.iload_n 1, 1) := by decide +kernel
theorem dX12_readsDays_15 : decode cX12_readsDays 15 = .ok (.aload_n 0, 1) := by decide +kernel
theorem dX12_readsDays_16 : decode cX12_readsDays 16 = .ok (.getfield 129, 3) := by decide +kernel
theorem dX12_readsDays_19 : decode cX12_readsDays 19 = .ok (.if_icmp .ge 30, 3) := by decide +kernel
theorem dX12_readsDays_22 : decode cX12_readsDays 22 = .ok (.aload_n 0, 1) := by decide +kernel
theorem dX12_readsDays_23 : decode cX12_readsDays 23 = .ok (.getfield 7, 3) := by decide +kernel
theorem dX12_readsDays_26 : decode cX12_readsDays 26 = .ok (.sipush 905, 3) := by decide +kernel
theorem dX12_readsDays_29 : decode cX12_readsDays 29 = .ok (.iaload, 1) := by decide +kernel
theorem dX12_readsDays_30 : decode cX12_readsDays 30 = .ok (.sipush 999, 3) := by decide +kernel
theorem dX12_readsDays_33 : decode cX12_readsDays 33 = .ok (.if_icmp .ge 10, 3) := by decide +kernel
theorem dX12_readsDays_36 : decode cX12_readsDays 36 = .ok (.aload_n 0, 1) := by decide +kernel
theorem dX12_readsDays_37 : decode cX12_readsDays 37 = .ok (.sipush 903, 3) := by decide +kernel
theorem dX12_readsDays_40 : decode cX12_readsDays 40 = .ok (.invokevirtual 148, 3) := by decide +kernel
theorem dX12_readsDays_43 : decode cX12_readsDays 43 = .ok (.iinc 1 1, 3) := by decide +kernel
theorem dX12_readsDays_46 : decode cX12_readsDays 46 = .ok (.goto (-32), 3) := by decide +kernel
theorem dX12_readsDays_49 : decode cX12_readsDays 49 = .ok (.iconst 1, 1) := by decide +kernel
theorem dX12_readsDays_50 : decode cX12_readsDays 50 = .ok (.ireturn, 1) := by decide +kernel
set_option maxRecDepth 20000 in
theorem ggX12_readsItem_X12_takesWord : GoodIn wsX12_readsItem wsX12_takesWord := goodIn_r _ [5, 6, 7, 8, 9, 10, 11, 4, 12, 13, 14, 15, 16, 17, 18, 19, 20, 21, 22, 119, 120, 121, 122, 123, 124, 125, 126, 127, 128, 129, 130, 131, 132, 133, 134, 135, 136, 137, 138, 139, 140] (by decide +kernel) (by decide +kernel)
set_option maxRecDepth 20000 in
theorem gX12_readsItem_X12_takesWord : GoodIn wsX12_readsItem (wsV RX12 151 RX12 yX12_takesWord wsX12_takesWord) := goodIn_app (goodIn_of _ (by decide +kernel)) ggX12_readsItem_X12_takesWord
set_option maxRecDepth 20000 in
theorem ggX12_readsItem_X12_wordOf : GoodIn wsX12_readsItem wsX12_wordOf := goodIn_r _ [26, 27, 28, 29, 4, 30, 6, 13, 31, 32, 33, 34, 19, 119, 120, 121, 122, 123, 124, 125, 126, 127, 128, 129, 130, 131, 132, 133, 134, 135, 136, 137, 138, 139, 140] (by decide +kernel) (by decide +kernel)
set_option maxRecDepth 20000 in
theorem gX12_readsItem_X12_wordOf : GoodIn wsX12_readsItem (wsV RX12 154 RX12 yX12_wordOf wsX12_wordOf) := goodIn_app (goodIn_of _ (by decide +kernel)) ggX12_readsItem_X12_wordOf
set_option maxRecDepth 20000 in
theorem ggX12_readsItem_X12_readsClerk : GoodIn wsX12_readsItem wsX12_readsClerk := goodIn_r _ [38, 39, 40, 41, 42, 43, 4, 44, 6, 45, 46, 13, 47, 9, 10, 11, 12, 14, 15, 16, 17, 18, 19, 20, 21, 22, 48, 49, 50, 51, 119, 120, 121, 122, 123, 124, 125, 126, 127, 128, 129, 130, 131, 132, 133, 134, 135, 136, 137, 138, 139, 140] (by decide +kernel) (by decide +kernel)
set_option maxRecDepth 20000 in
theorem gX12_readsItem_X12_readsClerk : GoodIn wsX12_readsItem (wsV RX12 157 RX12 yX12_readsClerk wsX12_readsClerk) := goodIn_app (goodIn_of _ (by decide +kernel)) ggX12_readsItem_X12_readsClerk
set_option maxRecDepth 20000 in
theorem ggX12_readsItem_X12_readsMagnet : GoodIn wsX12_readsItem wsX12_readsMagnet := goodIn_r _ [55, 39, 40, 41, 42, 43, 4, 44, 6, 45, 46, 13, 47, 9, 10, 11, 12, 14, 15, 16, 17, 18, 19, 20, 21, 22, 56, 57, 58, 59, 119, 120, 121, 122, 123, 124, 125, 126, 127, 128, 129, 130, 131, 132, 133, 134, 135, 136, 137, 138, 139, 140] (by decide +kernel) (by decide +kernel)
set_option maxRecDepth 20000 in
theorem gX12_readsItem_X12_readsMagnet : GoodIn wsX12_readsItem (wsV RX12 161 RX12 yX12_readsMagnet wsX12_readsMagnet) := goodIn_app (goodIn_of _ (by decide +kernel)) ggX12_readsItem_X12_readsMagnet
set_option maxRecDepth 20000 in
theorem ggX12_readsItem_X12_readsHook : GoodIn wsX12_readsItem wsX12_readsHook := goodIn_r _ [63, 39, 40, 41, 42, 43, 4, 44, 6, 45, 46, 13, 47, 9, 10, 11, 12, 14, 15, 16, 17, 18, 19, 20, 21, 22, 64, 65, 66, 67, 68, 69, 70, 71, 119, 120, 121, 122, 123, 124, 125, 126, 127, 128, 129, 130, 131, 132, 133, 134, 135, 136, 137, 138, 139, 140] (by decide +kernel) (by decide +kernel)
set_option maxRecDepth 20000 in
theorem gX12_readsItem_X12_readsHook : GoodIn wsX12_readsItem (wsV RX12 164 RX12 yX12_readsHook wsX12_readsHook) := goodIn_app (goodIn_of _ (by decide +kernel)) ggX12_readsItem_X12_readsHook
set_option maxRecDepth 20000 in
theorem ggX12_readsItem_X12_readsDays : GoodIn wsX12_readsItem wsX12_readsDays := goodIn_r _ [75, 40, 39, 41, 42, 43, 4, 44, 6, 45, 46, 13, 47, 9, 10, 11, 12, 14, 15, 16, 17, 18, 19, 20, 21, 22, 76, 77, 78, 79, 80, 81, 82, 83, 84, 85, 86, 87, 88, 89, 90, 91, 92, 93, 94, 95, 96, 97, 98, 99, 100, 101, 102, 103, 104, 105, 106, 107, 108, 109, 110, 111, 112, 113, 114, 119, 120, 121, 122, 123, 124, 125, 126, 127, 128, 129, 130, 131, 132, 133, 134, 135, 136, 137, 138, 139, 140] (by decide +kernel) (by decide +kernel)
set_option maxRecDepth 20000 in
theorem gX12_readsItem_X12_readsDays : GoodIn wsX12_readsItem (wsV RX12 167 RX12 yX12_readsDays wsX12_readsDays) := goodIn_app (goodIn_of _ (by decide +kernel)) ggX12_readsItem_X12_readsDays
set_option maxRecDepth 20000 in
theorem ggX12_readsItem_X12_takesEnd : GoodIn wsX12_readsItem wsX12_takesEnd := goodIn_r _ [118, 6, 13, 9, 10, 11, 4, 12, 14, 15, 16, 17, 18, 19, 119, 120, 121, 122, 123, 124, 125, 126, 127, 128, 129, 130, 131, 132, 133, 134, 135, 136, 137, 138, 139, 140] (by decide +kernel) (by decide +kernel)
set_option maxRecDepth 20000 in
theorem gX12_readsItem_X12_takesEnd : GoodIn wsX12_readsItem (wsV RX12 170 RX12 yX12_takesEnd wsX12_takesEnd) := goodIn_app (goodIn_of _ (by decide +kernel)) ggX12_readsItem_X12_takesEnd
theorem dX12_readsItem_0 : decode cX12_readsItem 0 = .ok (.aload_n 0, 1) := by decide +kernel
theorem dX12_readsItem_1 : decode cX12_readsItem 1 = .ok (.invokevirtual 151, 3) := by decide +kernel
theorem dX12_readsItem_4 : decode cX12_readsItem 4 = .ok (.aload_n 0, 1) := by decide +kernel
theorem dX12_readsItem_5 : decode cX12_readsItem 5 = .ok (.invokevirtual 154, 3) := by decide +kernel
theorem dX12_readsItem_8 : decode cX12_readsItem 8 = .ok (.istore_n 2, 1) := by decide +kernel
theorem dX12_readsItem_9 : decode cX12_readsItem 9 = .ok (.iload_n 1, 1) := by decide +kernel
theorem dX12_readsItem_10 : decode cX12_readsItem 10 = .ok (.iload_n 2, 1) := by decide +kernel
theorem dX12_readsItem_11 : decode cX12_readsItem 11 = .ok (.iconst 1, 1) := by decide +kernel
theorem dX12_readsItem_12 : decode cX12_readsItem 12 = .ok (.if_icmp .ne 7, 3) := by decide +kernel
theorem dX12_readsItem_15 : decode cX12_readsItem 15 = .ok (.iconst 1, 1) := by decide +kernel
theorem dX12_readsItem_16 : decode cX12_readsItem 16 = .ok (.goto 4, 3) := by decide +kernel
theorem dX12_readsItem_19 : decode cX12_readsItem 19 = .ok (.iconst 0, 1) := by decide +kernel
theorem dX12_readsItem_20 : decode cX12_readsItem 20 = .ok (.if_icmp .eq 5, 3) := by decide +kernel
theorem dX12_readsItem_23 : decode cX12_readsItem 23 = .ok (.iconst 0, 1) := by decide +kernel
theorem dX12_readsItem_24 : decode cX12_readsItem 24 = .ok (.ireturn, 1) := by decide +kernel
theorem dX12_readsItem_25 : decode cX12_readsItem 25 = .ok (.iload_n 2, 1) := by decide +kernel
theorem dX12_readsItem_26 : decode cX12_readsItem 26 = .ok (.iconst 1, 1) := by decide +kernel
theorem dX12_readsItem_27 : decode cX12_readsItem 27 = .ok (.if_icmp .eq 60, 3) := by decide +kernel
theorem dX12_readsItem_30 : decode cX12_readsItem 30 = .ok (.iload_n 2, 1) := by decide +kernel
theorem dX12_readsItem_31 : decode cX12_readsItem 31 = .ok (.iconst 2, 1) := by decide +kernel
theorem dX12_readsItem_32 : decode cX12_readsItem 32 = .ok (.if_icmp .ne 13, 3) := by decide +kernel
theorem dX12_readsItem_35 : decode cX12_readsItem 35 = .ok (.aload_n 0, 1) := by decide +kernel
theorem dX12_readsItem_36 : decode cX12_readsItem 36 = .ok (.invokevirtual 157, 3) := by decide +kernel
theorem dX12_readsItem_39 : decode cX12_readsItem 39 = .ok (.ifCond .eq 52, 3) := by decide +kernel
theorem dX12_readsItem_42 : decode cX12_readsItem 42 = .ok (.goto 45, 3) := by decide +kernel
theorem dX12_readsItem_45 : decode cX12_readsItem 45 = .ok (.iload_n 2, 1) := by decide +kernel
theorem dX12_readsItem_46 : decode cX12_readsItem 46 = .ok (.iconst 3, 1) := by decide +kernel
theorem dX12_readsItem_47 : decode cX12_readsItem 47 = .ok (.if_icmp .ne 13, 3) := by decide +kernel
theorem dX12_readsItem_50 : decode cX12_readsItem 50 = .ok (.aload_n 0, 1) := by decide +kernel
theorem dX12_readsItem_51 : decode cX12_readsItem 51 = .ok (.invokevirtual 161, 3) := by decide +kernel
theorem dX12_readsItem_54 : decode cX12_readsItem 54 = .ok (.ifCond .eq 37, 3) := by decide +kernel
theorem dX12_readsItem_57 : decode cX12_readsItem 57 = .ok (.goto 30, 3) := by decide +kernel
theorem dX12_readsItem_60 : decode cX12_readsItem 60 = .ok (.iload_n 2, 1) := by decide +kernel
theorem dX12_readsItem_61 : decode cX12_readsItem 61 = .ok (.iconst 4, 1) := by decide +kernel
theorem dX12_readsItem_62 : decode cX12_readsItem 62 = .ok (.if_icmp .ne 13, 3) := by decide +kernel
theorem dX12_readsItem_65 : decode cX12_readsItem 65 = .ok (.aload_n 0, 1) := by decide +kernel
theorem dX12_readsItem_66 : decode cX12_readsItem 66 = .ok (.invokevirtual 164, 3) := by decide +kernel
theorem dX12_readsItem_69 : decode cX12_readsItem 69 = .ok (.ifCond .eq 22, 3) := by decide +kernel
theorem dX12_readsItem_72 : decode cX12_readsItem 72 = .ok (.goto 15, 3) := by decide +kernel
theorem dX12_readsItem_75 : decode cX12_readsItem 75 = .ok (.iload_n 2, 1) := by decide +kernel
theorem dX12_readsItem_76 : decode cX12_readsItem 76 = .ok (.iconst 5, 1) := by decide +kernel
theorem dX12_readsItem_77 : decode cX12_readsItem 77 = .ok (.if_icmp .ne 14, 3) := by decide +kernel
theorem dX12_readsItem_80 : decode cX12_readsItem 80 = .ok (.aload_n 0, 1) := by decide +kernel
theorem dX12_readsItem_81 : decode cX12_readsItem 81 = .ok (.invokevirtual 167, 3) := by decide +kernel
theorem dX12_readsItem_84 : decode cX12_readsItem 84 = .ok (.ifCond .eq 7, 3) := by decide +kernel
theorem dX12_readsItem_87 : decode cX12_readsItem 87 = .ok (.iconst 1, 1) := by decide +kernel
theorem dX12_readsItem_88 : decode cX12_readsItem 88 = .ok (.goto 4, 3) := by decide +kernel
theorem dX12_readsItem_91 : decode cX12_readsItem 91 = .ok (.iconst 0, 1) := by decide +kernel
theorem dX12_readsItem_92 : decode cX12_readsItem 92 = .ok (.istore_n 3, 1) := by decide +kernel
theorem dX12_readsItem_93 : decode cX12_readsItem 93 = .ok (.iload_n 3, 1) := by decide +kernel
theorem dX12_readsItem_94 : decode cX12_readsItem 94 = .ok (.ifCond .eq 14, 3) := by decide +kernel
theorem dX12_readsItem_97 : decode cX12_readsItem 97 = .ok (.aload_n 0, 1) := by decide +kernel
theorem dX12_readsItem_98 : decode cX12_readsItem 98 = .ok (.invokevirtual 170, 3) := by decide +kernel
theorem dX12_readsItem_101 : decode cX12_readsItem 101 = .ok (.ifCond .eq 7, 3) := by decide +kernel
theorem dX12_readsItem_104 : decode cX12_readsItem 104 = .ok (.iconst 1, 1) := by decide +kernel
theorem dX12_readsItem_105 : decode cX12_readsItem 105 = .ok (.goto 4, 3) := by decide +kernel
theorem dX12_readsItem_108 : decode cX12_readsItem 108 = .ok (.iconst 0, 1) := by decide +kernel
theorem dX12_readsItem_109 : decode cX12_readsItem 109 = .ok (.ireturn, 1) := by decide +kernel
set_option maxRecDepth 20000 in
theorem ggX12_read_X12_empties : GoodIn wsX12_read wsX12_empties := goodIn_r _ [8, 9, 131, 132, 133, 134, 135, 136, 137, 138, 139, 140, 141, 142, 143, 144, 145, 146, 147, 148, 149, 150, 151, 152] (by decide +kernel) (by decide +kernel)
set_option maxRecDepth 20000 in
theorem gX12_read_X12_empties : GoodIn wsX12_read (wsV RX12 78 RX12 yX12_empties wsX12_empties) := goodIn_app (goodIn_of _ (by decide +kernel)) ggX12_read_X12_empties
set_option maxRecDepth 20000 in
theorem ggX12_read_X12_blanks : GoodIn wsX12_read wsX12_blanks := goodIn_r _ [13, 1, 2, 14, 15, 16, 7, 17, 3, 18, 131, 132, 133, 134, 135, 136, 137, 138, 139, 140, 141, 142, 143, 144, 145, 146, 147, 148, 149, 150, 151, 152] (by decide +kernel) (by decide +kernel)
set_option maxRecDepth 20000 in
theorem gX12_read_X12_blanks : GoodIn wsX12_read (wsV RX12 114 RX12 yX12_blanks wsX12_blanks) := goodIn_app (goodIn_of _ (by decide +kernel)) ggX12_read_X12_blanks
set_option maxRecDepth 20000 in
theorem ggX12_read_X12_readsItem : GoodIn wsX12_read wsX12_readsItem := goodIn_r _ [22, 23, 24, 25, 7, 26, 1, 27, 28, 10, 11, 12, 13, 2, 14, 15, 16, 17, 3, 18, 29, 30, 31, 32, 33, 34, 35, 36, 37, 38, 39, 40, 41, 42, 43, 44, 45, 46, 47, 9, 48, 49, 50, 51, 52, 53, 54, 55, 56, 57, 58, 59, 60, 61, 62, 63, 64, 65, 66, 67, 68, 69, 70, 71, 72, 73, 74, 75, 76, 77, 78, 79, 80, 81, 82, 83, 84, 85, 86, 87, 88, 89, 90, 91, 92, 93, 94, 95, 96, 97, 98, 99, 100, 101, 102, 103, 104, 105, 106, 107, 108, 109, 110, 111, 112, 113, 114, 115, 116, 117, 118, 119, 120, 121, 122, 123, 124, 125, 126, 131, 132, 133, 134, 135, 136, 137, 138, 139, 140, 141, 142, 143, 144, 145, 146, 147, 148, 149, 150, 151, 152] (by decide +kernel) (by decide +kernel)
set_option maxRecDepth 20000 in
theorem gX12_read_X12_readsItem : GoodIn wsX12_read (wsV RX12 173 RX12 yX12_readsItem wsX12_readsItem) := goodIn_app (goodIn_of _ (by decide +kernel)) ggX12_read_X12_readsItem
set_option maxRecDepth 20000 in
theorem ggX12_read_X12_copy : GoodIn wsX12_read wsX12_copy := goodIn_r _ [130, 9, 131, 132, 133, 134, 135, 136, 137, 138, 139, 140, 141, 142, 143, 144, 145, 146, 147, 148, 149, 150, 151, 152] (by decide +kernel) (by decide +kernel)
set_option maxRecDepth 20000 in
theorem gX12_read_X12_copy : GoodIn wsX12_read (wsV RX12 177 RX12 yX12_copy wsX12_copy) := goodIn_app (goodIn_of _ (by decide +kernel)) ggX12_read_X12_copy
theorem dX12_read_0 : decode cX12_read 0 = .ok (.aload_n 0, 1) := by decide +kernel
theorem dX12_read_1 : decode cX12_read 1 = .ok (.sipush 903, 3) := by decide +kernel
theorem dX12_read_4 : decode cX12_read 4 = .ok (.invokevirtual 78, 3) := by decide +kernel
theorem dX12_read_7 : decode cX12_read 7 = .ok (.aload_n 0, 1) := by decide +kernel
theorem dX12_read_8 : decode cX12_read 8 = .ok (.iconst 0, 1) := by decide +kernel
theorem dX12_read_9 : decode cX12_read 9 = .ok (.putfield 105, 3) := by decide +kernel
theorem dX12_read_12 : decode cX12_read 12 = .ok (.iconst 0, 1) := by decide +kernel
theorem dX12_read_13 : decode cX12_read 13 = .ok (.istore_n 1, 1) := by decide +kernel
theorem dX12_read_14 : decode cX12_read 14 = .ok (.aload_n 0, 1) := by decide +kernel
theorem dX12_read_15 : decode cX12_read 15 = .ok (.invokevirtual 114, 3) := by decide +kernel
theorem dX12_read_18 : decode cX12_read 18 = .ok (.iconst 1, 1) := by decide +kernel
theorem dX12_read_19 : decode cX12_read 19 = .ok (.istore_n 2, 1) := by decide +kernel
theorem dX12_read_20 : decode cX12_read 20 = .ok (.iload_n 2, 1) := by decide +kernel
theorem dX12_read_21 : decode cX12_read 21 = .ok (.ifCond .eq 46, 3) := by decide +kernel
theorem dX12_read_24 : decode cX12_read 24 = .ok (.aload_n 0, 1) := by decide +kernel
theorem dX12_read_25 : decode cX12_read 25 = .ok (.getfield 111, 3) := by decide +kernel
theorem dX12_read_28 : decode cX12_read 28 = .ok (.aload_n 0, 1) := by decide +kernel
theorem dX12_read_29 : decode cX12_read 29 = .ok (.getfield 60, 3) := by decide +kernel
theorem dX12_read_32 : decode cX12_read 32 = .ok (.if_icmp .lt 7, 3) := by decide +kernel
theorem dX12_read_35 : decode cX12_read 35 = .ok (.iload_n 1, 1) := by decide +kernel
theorem dX12_read_36 : decode cX12_read 36 = .ok (.ifCond .ne 31, 3) := by decide +kernel
theorem dX12_read_39 : decode cX12_read 39 = .ok (.aload_n 0, 1) := by decide +kernel
theorem dX12_read_40 : decode cX12_read 40 = .ok (.iload_n 1, 1) := by decide +kernel
theorem dX12_read_41 : decode cX12_read 41 = .ok (.ifCond .ne 7, 3) := by decide +kernel
theorem dX12_read_44 : decode cX12_read 44 = .ok (.iconst 1, 1) := by decide +kernel
theorem dX12_read_45 : decode cX12_read 45 = .ok (.goto 4, 3) := by decide +kernel
theorem dX12_read_48 : decode cX12_read 48 = .ok (.iconst 0, 1) := by decide +kernel
theorem dX12_read_49 : decode cX12_read 49 = .ok (.invokevirtual 173, 3) := by decide +kernel
theorem dX12_read_52 : decode cX12_read 52 = .ok (.istore_n 2, 1) := by decide +kernel
theorem dX12_read_53 : decode cX12_read 53 = .ok (.iinc 1 1, 3) := by decide +kernel
theorem dX12_read_56 : decode cX12_read 56 = .ok (.iload_n 2, 1) := by decide +kernel
theorem dX12_read_57 : decode cX12_read 57 = .ok (.ifCond .eq (-37), 3) := by decide +kernel
theorem dX12_read_60 : decode cX12_read 60 = .ok (.aload_n 0, 1) := by decide +kernel
theorem dX12_read_61 : decode cX12_read 61 = .ok (.invokevirtual 114, 3) := by decide +kernel
theorem dX12_read_64 : decode cX12_read 64 = .ok (.goto (-44), 3) := by decide +kernel
theorem dX12_read_67 : decode cX12_read 67 = .ok (.iload_n 2, 1) := by decide +kernel
theorem dX12_read_68 : decode cX12_read 68 = .ok (.ifCond .ne 11, 3) := by decide +kernel
theorem dX12_read_71 : decode cX12_read 71 = .ok (.bipush (-10), 2) := by decide +kernel
theorem dX12_read_73 : decode cX12_read 73 = .ok (.aload_n 0, 1) := by decide +kernel
theorem dX12_read_74 : decode cX12_read 74 = .ok (.getfield 111, 3) := by decide +kernel
theorem dX12_read_77 : decode cX12_read 77 = .ok (.isub, 1) := by decide +kernel
theorem dX12_read_78 : decode cX12_read 78 = .ok (.ireturn, 1) := by decide +kernel
theorem dX12_read_79 : decode cX12_read 79 = .ok (.aload_n 0, 1) := by decide +kernel
theorem dX12_read_80 : decode cX12_read 80 = .ok (.sipush 903, 3) := by decide +kernel
theorem dX12_read_83 : decode cX12_read 83 = .ok (.iconst 0, 1) := by decide +kernel
theorem dX12_read_84 : decode cX12_read 84 = .ok (.invokevirtual 177, 3) := by decide +kernel
theorem dX12_read_87 : decode cX12_read 87 = .ok (.iload_n 1, 1) := by decide +kernel
theorem dX12_read_88 : decode cX12_read 88 = .ok (.ireturn, 1) := by decide +kernel
theorem dX12_isOver_0 : decode cX12_isOver 0 = .ok (.iload_n 3, 1) := by decide +kernel
theorem dX12_isOver_1 : decode cX12_isOver 1 = .ok (.istore 4, 2) := by decide +kernel
theorem dX12_isOver_3 : decode cX12_isOver 3 = .ok (.iload 4, 2) := by decide +kernel
theorem dX12_isOver_5 : decode cX12_isOver 5 = .ok (.iconst (-1), 1) := by decide +kernel
theorem dX12_isOver_6 : decode cX12_isOver 6 = .ok (.if_icmp .eq 26, 3) := by decide +kernel
theorem dX12_isOver_9 : decode cX12_isOver 9 = .ok (.iload 4, 2) := by decide +kernel
theorem dX12_isOver_11 : decode cX12_isOver 11 = .ok (.iload_n 2, 1) := by decide +kernel
theorem dX12_isOver_12 : decode cX12_isOver 12 = .ok (.if_icmp .eq 20, 3) := by decide +kernel
theorem dX12_isOver_15 : decode cX12_isOver 15 = .ok (.aload_n 0, 1) := by decide +kernel
theorem dX12_isOver_16 : decode cX12_isOver 16 = .ok (.getfield 7, 3) := by decide +kernel
theorem dX12_isOver_19 : decode cX12_isOver 19 = .ok (.iload_n 1, 1) := by decide +kernel
theorem dX12_isOver_20 : decode cX12_isOver 20 = .ok (.bipush 31, 2) := by decide +kernel
theorem dX12_isOver_22 : decode cX12_isOver 22 = .ok (.iadd, 1) := by decide +kernel
theorem dX12_isOver_23 : decode cX12_isOver 23 = .ok (.iload 4, 2) := by decide +kernel
theorem dX12_isOver_25 : decode cX12_isOver 25 = .ok (.iadd, 1) := by decide +kernel
theorem dX12_isOver_26 : decode cX12_isOver 26 = .ok (.iaload, 1) := by decide +kernel
theorem dX12_isOver_27 : decode cX12_isOver 27 = .ok (.istore 4, 2) := by decide +kernel
theorem dX12_isOver_29 : decode cX12_isOver 29 = .ok (.goto (-26), 3) := by decide +kernel
theorem dX12_isOver_32 : decode cX12_isOver 32 = .ok (.iload 4, 2) := by decide +kernel
theorem dX12_isOver_34 : decode cX12_isOver 34 = .ok (.iload_n 2, 1) := by decide +kernel
theorem dX12_isOver_35 : decode cX12_isOver 35 = .ok (.if_icmp .ne 7, 3) := by decide +kernel
theorem dX12_isOver_38 : decode cX12_isOver 38 = .ok (.iconst 1, 1) := by decide +kernel
theorem dX12_isOver_39 : decode cX12_isOver 39 = .ok (.goto 4, 3) := by decide +kernel
theorem dX12_isOver_42 : decode cX12_isOver 42 = .ok (.iconst 0, 1) := by decide +kernel
theorem dX12_isOver_43 : decode cX12_isOver 43 = .ok (.ireturn, 1) := by decide +kernel
theorem dX12_onIt_0 : decode cX12_onIt 0 = .ok (.iconst 0, 1) := by decide +kernel
theorem dX12_onIt_1 : decode cX12_onIt 1 = .ok (.istore_n 3, 1) := by decide +kernel
theorem dX12_onIt_2 : decode cX12_onIt 2 = .ok (.iconst 0, 1) := by decide +kernel
theorem dX12_onIt_3 : decode cX12_onIt 3 = .ok (.istore 4, 2) := by decide +kernel
theorem dX12_onIt_5 : decode cX12_onIt 5 = .ok (.iload 4, 2) := by decide +kernel
theorem dX12_onIt_7 : decode cX12_onIt 7 = .ok (.aload_n 0, 1) := by decide +kernel
theorem dX12_onIt_8 : decode cX12_onIt 8 = .ok (.getfield 7, 3) := by decide +kernel
theorem dX12_onIt_11 : decode cX12_onIt 11 = .ok (.iload_n 1, 1) := by decide +kernel
theorem dX12_onIt_12 : decode cX12_onIt 12 = .ok (.iconst 0, 1) := by decide +kernel
theorem dX12_onIt_13 : decode cX12_onIt 13 = .ok (.iadd, 1) := by decide +kernel
theorem dX12_onIt_14 : decode cX12_onIt 14 = .ok (.iaload, 1) := by decide +kernel
theorem dX12_onIt_15 : decode cX12_onIt 15 = .ok (.if_icmp .ge 33, 3) := by decide +kernel
theorem dX12_onIt_18 : decode cX12_onIt 18 = .ok (.iload_n 3, 1) := by decide +kernel
theorem dX12_onIt_19 : decode cX12_onIt 19 = .ok (.aload_n 0, 1) := by decide +kernel
theorem dX12_onIt_20 : decode cX12_onIt 20 = .ok (.getfield 7, 3) := by decide +kernel
theorem dX12_onIt_23 : decode cX12_onIt 23 = .ok (.iload_n 1, 1) := by decide +kernel
theorem dX12_onIt_24 : decode cX12_onIt 24 = .ok (.bipush 31, 2) := by decide +kernel
theorem dX12_onIt_26 : decode cX12_onIt 26 = .ok (.iadd, 1) := by decide +kernel
theorem dX12_onIt_27 : decode cX12_onIt 27 = .ok (.iload 4, 2) := by decide +kernel
theorem dX12_onIt_29 : decode cX12_onIt 29 = .ok (.iadd, 1) := by decide +kernel
theorem dX12_onIt_30 : decode cX12_onIt 30 = .ok (.iaload, 1) := by decide +kernel
theorem dX12_onIt_31 : decode cX12_onIt 31 = .ok (.iload_n 2, 1) := by decide +kernel
theorem dX12_onIt_32 : decode cX12_onIt 32 = .ok (.if_icmp .ne 7, 3) := by decide +kernel
theorem dX12_onIt_35 : decode cX12_onIt 35 = .ok (.iconst 1, 1) := by decide +kernel
theorem dX12_onIt_36 : decode cX12_onIt 36 = .ok (.goto 4, 3) := by decide +kernel
theorem dX12_onIt_39 : decode cX12_onIt 39 = .ok (.iconst 0, 1) := by decide +kernel
theorem dX12_onIt_40 : decode cX12_onIt 40 = .ok (.iadd, 1) := by decide +kernel
theorem dX12_onIt_41 : decode cX12_onIt 41 = .ok (.istore_n 3, 1) := by decide +kernel
theorem dX12_onIt_42 : decode cX12_onIt 42 = .ok (.iinc 4 1, 3) := by decide +kernel
theorem dX12_onIt_45 : decode cX12_onIt 45 = .ok (.goto (-40), 3) := by decide +kernel
theorem dX12_onIt_48 : decode cX12_onIt 48 = .ok (.iload_n 3, 1) := by decide +kernel
theorem dX12_onIt_49 : decode cX12_onIt 49 = .ok (.ireturn, 1) := by decide +kernel
theorem dX12_topOf_0 : decode cX12_topOf 0 = .ok (.iload_n 2, 1) := by decide +kernel
theorem dX12_topOf_1 : decode cX12_topOf 1 = .ok (.istore_n 3, 1) := by decide +kernel
theorem dX12_topOf_2 : decode cX12_topOf 2 = .ok (.aload_n 0, 1) := by decide +kernel
theorem dX12_topOf_3 : decode cX12_topOf 3 = .ok (.getfield 7, 3) := by decide +kernel
theorem dX12_topOf_6 : decode cX12_topOf 6 = .ok (.iload_n 1, 1) := by decide +kernel
theorem dX12_topOf_7 : decode cX12_topOf 7 = .ok (.bipush 31, 2) := by decide +kernel
theorem dX12_topOf_9 : decode cX12_topOf 9 = .ok (.iadd, 1) := by decide +kernel
theorem dX12_topOf_10 : decode cX12_topOf 10 = .ok (.iload_n 3, 1) := by decide +kernel
theorem dX12_topOf_11 : decode cX12_topOf 11 = .ok (.iadd, 1) := by decide +kernel
theorem dX12_topOf_12 : decode cX12_topOf 12 = .ok (.iaload, 1) := by decide +kernel
theorem dX12_topOf_13 : decode cX12_topOf 13 = .ok (.iconst (-1), 1) := by decide +kernel
theorem dX12_topOf_14 : decode cX12_topOf 14 = .ok (.if_icmp .eq 18, 3) := by decide +kernel
theorem dX12_topOf_17 : decode cX12_topOf 17 = .ok (.aload_n 0, 1) := by decide +kernel
theorem dX12_topOf_18 : decode cX12_topOf 18 = .ok (.getfield 7, 3) := by decide +kernel
theorem dX12_topOf_21 : decode cX12_topOf 21 = .ok (.iload_n 1, 1) := by decide +kernel
theorem dX12_topOf_22 : decode cX12_topOf 22 = .ok (.bipush 31, 2) := by decide +kernel
theorem dX12_topOf_24 : decode cX12_topOf 24 = .ok (.iadd, 1) := by decide +kernel
theorem dX12_topOf_25 : decode cX12_topOf 25 = .ok (.iload_n 3, 1) := by decide +kernel
theorem dX12_topOf_26 : decode cX12_topOf 26 = .ok (.iadd, 1) := by decide +kernel
theorem dX12_topOf_27 : decode cX12_topOf 27 = .ok (.iaload, 1) := by decide +kernel
theorem dX12_topOf_28 : decode cX12_topOf 28 = .ok (.istore_n 3, 1) := by decide +kernel
theorem dX12_topOf_29 : decode cX12_topOf 29 = .ok (.goto (-27), 3) := by decide +kernel
theorem dX12_topOf_32 : decode cX12_topOf 32 = .ok (.iload_n 3, 1) := by decide +kernel
theorem dX12_topOf_33 : decode cX12_topOf 33 = .ok (.ireturn, 1) := by decide +kernel
set_option maxRecDepth 20000 in
theorem ggX12_stringOf_X12_topOf : GoodIn wsX12_stringOf wsX12_topOf := goodIn_r _ [6, 1, 7, 8, 9, 10, 11, 12, 13, 14, 15, 16, 17, 18, 19, 20, 21, 22, 23, 24, 25, 26, 27, 28] (by decide +kernel) (by decide +kernel)
set_option maxRecDepth 20000 in
theorem gX12_stringOf_X12_topOf : GoodIn wsX12_stringOf (wsV RX12 181 RX12 yX12_topOf wsX12_topOf) := goodIn_app (goodIn_of _ (by decide +kernel)) ggX12_stringOf_X12_topOf
theorem dX12_stringOf_0 : decode cX12_stringOf 0 = .ok (.iconst 0, 1) := by decide +kernel
theorem dX12_stringOf_1 : decode cX12_stringOf 1 = .ok (.istore_n 3, 1) := by decide +kernel
theorem dX12_stringOf_2 : decode cX12_stringOf 2 = .ok (.iconst 0, 1) := by decide +kernel
theorem dX12_stringOf_3 : decode cX12_stringOf 3 = .ok (.istore 4, 2) := by decide +kernel
theorem dX12_stringOf_5 : decode cX12_stringOf 5 = .ok (.iload 4, 2) := by decide +kernel
theorem dX12_stringOf_7 : decode cX12_stringOf 7 = .ok (.aload_n 0, 1) := by decide +kernel
theorem dX12_stringOf_8 : decode cX12_stringOf 8 = .ok (.getfield 7, 3) := by decide +kernel
theorem dX12_stringOf_11 : decode cX12_stringOf 11 = .ok (.iload_n 1, 1) := by decide +kernel
theorem dX12_stringOf_12 : decode cX12_stringOf 12 = .ok (.iconst 0, 1) := by decide +kernel
theorem dX12_stringOf_13 : decode cX12_stringOf 13 = .ok (.iadd, 1) := by decide +kernel
theorem dX12_stringOf_14 : decode cX12_stringOf 14 = .ok (.iaload, 1) := by decide +kernel
theorem dX12_stringOf_15 : decode cX12_stringOf 15 = .ok (.if_icmp .ge 36, 3) := by decide +kernel
theorem dX12_stringOf_18 : decode cX12_stringOf 18 = .ok (.iload_n 3, 1) := by decide +kernel
theorem dX12_stringOf_19 : decode cX12_stringOf 19 = .ok (.aload_n 0, 1) := by decide +kernel
theorem dX12_stringOf_20 : decode cX12_stringOf 20 = .ok (.iload_n 1, 1) := by decide +kernel
theorem dX12_stringOf_21 : decode cX12_stringOf 21 = .ok (.iload 4, 2) := by decide +kernel
theorem dX12_stringOf_23 : decode cX12_stringOf 23 = .ok (.invokevirtual 181, 3) := by decide +kernel
theorem dX12_stringOf_26 : decode cX12_stringOf 26 = .ok (.aload_n 0, 1) := by decide +kernel
theorem dX12_stringOf_27 : decode cX12_stringOf 27 = .ok (.iload_n 1, 1) := by decide +kernel
theorem dX12_stringOf_28 : decode cX12_stringOf 28 = .ok (.iload_n 2, 1) := by decide +kernel
theorem dX12_stringOf_29 : decode cX12_stringOf 29 = .ok (.invokevirtual 181, 3) := by decide +kernel
theorem dX12_stringOf_32 : decode cX12_stringOf 32 = .ok (.if_icmp .ne 10, 3) := by decide +kernel
theorem dX12_stringOf_35 : decode cX12_stringOf 35 = .ok (.iconst 1, 1) := by decide +kernel
theorem dX12_stringOf_36 : decode cX12_stringOf 36 = .ok (.iload 4, 2) := by decide +kernel
theorem dX12_stringOf_38 : decode cX12_stringOf 38 = .ok (.ishl, 1) := by decide +kernel
theorem dX12_stringOf_39 : decode cX12_stringOf 39 = .ok (.goto 4, 3) := by decide +kernel
theorem dX12_stringOf_42 : decode cX12_stringOf 42 = .ok (.iconst 0, 1) := by decide +kernel
theorem dX12_stringOf_43 : decode cX12_stringOf 43 = .ok (.ior, 1) := by decide +kernel
theorem dX12_stringOf_44 : decode cX12_stringOf 44 = .ok (.istore_n 3, 1) := by decide +kernel
theorem dX12_stringOf_45 : decode cX12_stringOf 45 = .ok (.iinc 4 1, 3) := by decide +kernel
theorem dX12_stringOf_48 : decode cX12_stringOf 48 = .ok (.goto (-43), 3) := by decide +kernel
theorem dX12_stringOf_51 : decode cX12_stringOf 51 = .ok (.iload_n 3, 1) := by decide +kernel
theorem dX12_stringOf_52 : decode cX12_stringOf 52 = .ok (.ireturn, 1) := by decide +kernel
set_option maxRecDepth 20000 in
theorem ggX12_weighs_X12_has : GoodIn wsX12_weighs wsX12_has := goodIn_r _ [5] (by decide +kernel) (by decide +kernel)
set_option maxRecDepth 20000 in
theorem gX12_weighs_X12_has : GoodIn wsX12_weighs (va_wsS RX12 184 yX12_has wsX12_has) := goodIn_app (goodIn_of _ (by decide +kernel)) ggX12_weighs_X12_has
theorem dX12_weighs_0 : decode cX12_weighs 0 = .ok (.iconst 0, 1) := by decide +kernel
theorem dX12_weighs_1 : decode cX12_weighs 1 = .ok (.istore_n 3, 1) := by decide +kernel
theorem dX12_weighs_2 : decode cX12_weighs 2 = .ok (.iconst 0, 1) := by decide +kernel
theorem dX12_weighs_3 : decode cX12_weighs 3 = .ok (.istore 4, 2) := by decide +kernel
theorem dX12_weighs_5 : decode cX12_weighs 5 = .ok (.iload 4, 2) := by decide +kernel
theorem dX12_weighs_7 : decode cX12_weighs 7 = .ok (.aload_n 0, 1) := by decide +kernel
theorem dX12_weighs_8 : decode cX12_weighs 8 = .ok (.getfield 7, 3) := by decide +kernel
theorem dX12_weighs_11 : decode cX12_weighs 11 = .ok (.iload_n 1, 1) := by decide +kernel
theorem dX12_weighs_12 : decode cX12_weighs 12 = .ok (.iconst 0, 1) := by decide +kernel
theorem dX12_weighs_13 : decode cX12_weighs 13 = .ok (.iadd, 1) := by decide +kernel
theorem dX12_weighs_14 : decode cX12_weighs 14 = .ok (.iaload, 1) := by decide +kernel
theorem dX12_weighs_15 : decode cX12_weighs 15 = .ok (.if_icmp .ge 37, 3) := by decide +kernel
theorem dX12_weighs_18 : decode cX12_weighs 18 = .ok (.iload_n 3, 1) := by decide +kernel
theorem dX12_weighs_19 : decode cX12_weighs 19 = .ok (.iload_n 2, 1) := by decide +kernel
theorem dX12_weighs_20 : decode cX12_weighs 20 = .ok (.iload 4, 2) := by decide +kernel
theorem dX12_weighs_22 : decode cX12_weighs 22 = .ok (.invokestatic 184, 3) := by decide +kernel
theorem dX12_weighs_25 : decode cX12_weighs 25 = .ok (.ifCond .eq 18, 3) := by decide +kernel
theorem dX12_weighs_28 : decode cX12_weighs 28 = .ok (.aload_n 0, 1) := by decide +kernel
theorem dX12_weighs_29 : decode cX12_weighs 29 = .ok (.getfield 7, 3) := by decide +kernel
theorem dX12_weighs_32 : decode cX12_weighs 32 = .ok (.iload_n 1, 1) := by decide +kernel
theorem dX12_weighs_33 : decode cX12_weighs 33 = .ok (.bipush 10, 2) := by decide +kernel
theorem dX12_weighs_35 : decode cX12_weighs 35 = .ok (.iadd, 1) := by decide +kernel
theorem dX12_weighs_36 : decode cX12_weighs 36 = .ok (.iload 4, 2) := by decide +kernel
theorem dX12_weighs_38 : decode cX12_weighs 38 = .ok (.iadd, 1) := by decide +kernel
theorem dX12_weighs_39 : decode cX12_weighs 39 = .ok (.iaload, 1) := by decide +kernel
theorem dX12_weighs_40 : decode cX12_weighs 40 = .ok (.goto 4, 3) := by decide +kernel
theorem dX12_weighs_43 : decode cX12_weighs 43 = .ok (.iconst 0, 1) := by decide +kernel
theorem dX12_weighs_44 : decode cX12_weighs 44 = .ok (.iadd, 1) := by decide +kernel
theorem dX12_weighs_45 : decode cX12_weighs 45 = .ok (.istore_n 3, 1) := by decide +kernel
theorem dX12_weighs_46 : decode cX12_weighs 46 = .ok (.iinc 4 1, 3) := by decide +kernel
theorem dX12_weighs_49 : decode cX12_weighs 49 = .ok (.goto (-44), 3) := by decide +kernel
theorem dX12_weighs_52 : decode cX12_weighs 52 = .ok (.iload_n 3, 1) := by decide +kernel
theorem dX12_weighs_53 : decode cX12_weighs 53 = .ok (.ireturn, 1) := by decide +kernel
set_option maxRecDepth 20000 in
theorem ggX12_drawnBy_X12_has : GoodIn wsX12_drawnBy wsX12_has := goodIn_r _ [5] (by decide +kernel) (by decide +kernel)
set_option maxRecDepth 20000 in
theorem gX12_drawnBy_X12_has : GoodIn wsX12_drawnBy (va_wsS RX12 184 yX12_has wsX12_has) := goodIn_app (goodIn_of _ (by decide +kernel)) ggX12_drawnBy_X12_has
set_option maxRecDepth 20000 in
theorem ggX12_drawnBy_X12_pullOf : GoodIn wsX12_drawnBy wsX12_pullOf := goodIn_r _ [8, 9, 10, 4, 11, 12, 13, 14] (by decide +kernel) (by decide +kernel)
set_option maxRecDepth 20000 in
theorem gX12_drawnBy_X12_pullOf : GoodIn wsX12_drawnBy (va_wsS RX12 187 yX12_pullOf wsX12_pullOf) := goodIn_app (goodIn_of _ (by decide +kernel)) ggX12_drawnBy_X12_pullOf
theorem dX12_drawnBy_0 : decode cX12_drawnBy 0 = .ok (.iconst 0, 1) := by decide +kernel
theorem dX12_drawnBy_1 : decode cX12_drawnBy 1 = .ok (.istore_n 3, 1) := by decide +kernel
theorem dX12_drawnBy_2 : decode cX12_drawnBy 2 = .ok (.iconst 0, 1) := by decide +kernel
theorem dX12_drawnBy_3 : decode cX12_drawnBy 3 = .ok (.istore 4, 2) := by decide +kernel
theorem dX12_drawnBy_5 : decode cX12_drawnBy 5 = .ok (.iload 4, 2) := by decide +kernel
theorem dX12_drawnBy_7 : decode cX12_drawnBy 7 = .ok (.aload_n 0, 1) := by decide +kernel
theorem dX12_drawnBy_8 : decode cX12_drawnBy 8 = .ok (.getfield 7, 3) := by decide +kernel
theorem dX12_drawnBy_11 : decode cX12_drawnBy 11 = .ok (.iload_n 1, 1) := by decide +kernel
theorem dX12_drawnBy_12 : decode cX12_drawnBy 12 = .ok (.iconst 0, 1) := by decide +kernel
theorem dX12_drawnBy_13 : decode cX12_drawnBy 13 = .ok (.iadd, 1) := by decide +kernel
theorem dX12_drawnBy_14 : decode cX12_drawnBy 14 = .ok (.iaload, 1) := by decide +kernel
theorem dX12_drawnBy_15 : decode cX12_drawnBy 15 = .ok (.if_icmp .ge 142, 3) := by decide +kernel
theorem dX12_drawnBy_18 : decode cX12_drawnBy 18 = .ok (.iconst 0, 1) := by decide +kernel
theorem dX12_drawnBy_19 : decode cX12_drawnBy 19 = .ok (.istore 5, 2) := by decide +kernel
theorem dX12_drawnBy_21 : decode cX12_drawnBy 21 = .ok (.iload 5, 2) := by decide +kernel
theorem dX12_drawnBy_23 : decode cX12_drawnBy 23 = .ok (.aload_n 0, 1) := by decide +kernel
theorem dX12_drawnBy_24 : decode cX12_drawnBy 24 = .ok (.getfield 7, 3) := by decide +kernel
theorem dX12_drawnBy_27 : decode cX12_drawnBy 27 = .ok (.iload_n 1, 1) := by decide +kernel
theorem dX12_drawnBy_28 : decode cX12_drawnBy 28 = .ok (.iconst 1, 1) := by decide +kernel
theorem dX12_drawnBy_29 : decode cX12_drawnBy 29 = .ok (.iadd, 1) := by decide +kernel
theorem dX12_drawnBy_30 : decode cX12_drawnBy 30 = .ok (.iaload, 1) := by decide +kernel
theorem dX12_drawnBy_31 : decode cX12_drawnBy 31 = .ok (.if_icmp .ge 120, 3) := by decide +kernel
theorem dX12_drawnBy_34 : decode cX12_drawnBy 34 = .ok (.iload_n 2, 1) := by decide +kernel
theorem dX12_drawnBy_35 : decode cX12_drawnBy 35 = .ok (.iload 4, 2) := by decide +kernel
theorem dX12_drawnBy_37 : decode cX12_drawnBy 37 = .ok (.invokestatic 184, 3) := by decide +kernel
theorem dX12_drawnBy_40 : decode cX12_drawnBy 40 = .ok (.ifCond .eq 111, 3) := by decide +kernel
theorem dX12_drawnBy_43 : decode cX12_drawnBy 43 = .ok (.aload_n 0, 1) := by decide +kernel
theorem dX12_drawnBy_44 : decode cX12_drawnBy 44 = .ok (.getfield 7, 3) := by decide +kernel
theorem dX12_drawnBy_47 : decode cX12_drawnBy 47 = .ok (.iload_n 1, 1) := by decide +kernel
theorem dX12_drawnBy_48 : decode cX12_drawnBy 48 = .ok (.bipush 41, 2) := by decide +kernel
theorem dX12_drawnBy_50 : decode cX12_drawnBy 50 = .ok (.iadd, 1) := by decide +kernel
theorem dX12_drawnBy_51 : decode cX12_drawnBy 51 = .ok (.iload 5, 2) := by decide +kernel
theorem dX12_drawnBy_53 : decode cX12_drawnBy 53 = .ok (.iadd, 1) := by decide +kernel
theorem dX12_drawnBy_54 : decode cX12_drawnBy 54 = .ok (.iaload, 1) := by decide +kernel
theorem dX12_drawnBy_55 : decode cX12_drawnBy 55 = .ok (.aload_n 0, 1) := by decide +kernel
theorem dX12_drawnBy_56 : decode cX12_drawnBy 56 = .ok (.getfield 7, 3) := by decide +kernel
theorem dX12_drawnBy_59 : decode cX12_drawnBy 59 = .ok (.iload_n 1, 1) := by decide +kernel
theorem dX12_drawnBy_60 : decode cX12_drawnBy 60 = .ok (.bipush 17, 2) := by decide +kernel
theorem dX12_drawnBy_62 : decode cX12_drawnBy 62 = .ok (.iadd, 1) := by decide +kernel
theorem dX12_drawnBy_63 : decode cX12_drawnBy 63 = .ok (.iload 4, 2) := by decide +kernel
theorem dX12_drawnBy_65 : decode cX12_drawnBy 65 = .ok (.iadd, 1) := by decide +kernel
theorem dX12_drawnBy_66 : decode cX12_drawnBy 66 = .ok (.iaload, 1) := by decide +kernel
theorem dX12_drawnBy_67 : decode cX12_drawnBy 67 = .ok (.isub, 1) := by decide +kernel
theorem dX12_drawnBy_68 : decode cX12_drawnBy 68 = .ok (.istore 6, 2) := by decide +kernel
theorem dX12_drawnBy_70 : decode cX12_drawnBy 70 = .ok (.iload 6, 2) := by decide +kernel
theorem dX12_drawnBy_72 : decode cX12_drawnBy 72 = .ok (.ifCond .ne 7, 3) := by decide +kernel
theorem dX12_drawnBy_75 : decode cX12_drawnBy 75 = .ok (.iconst 0, 1) := by decide +kernel
theorem dX12_drawnBy_76 : decode cX12_drawnBy 76 = .ok (.goto 51, 3) := by decide +kernel
theorem dX12_drawnBy_79 : decode cX12_drawnBy 79 = .ok (.aload_n 0, 1) := by decide +kernel
theorem dX12_drawnBy_80 : decode cX12_drawnBy 80 = .ok (.getfield 7, 3) := by decide +kernel
theorem dX12_drawnBy_83 : decode cX12_drawnBy 83 = .ok (.iload_n 1, 1) := by decide +kernel
theorem dX12_drawnBy_84 : decode cX12_drawnBy 84 = .ok (.bipush 38, 2) := by decide +kernel
theorem dX12_drawnBy_86 : decode cX12_drawnBy 86 = .ok (.iadd, 1) := by decide +kernel
theorem dX12_drawnBy_87 : decode cX12_drawnBy 87 = .ok (.iload 5, 2) := by decide +kernel
theorem dX12_drawnBy_89 : decode cX12_drawnBy 89 = .ok (.iadd, 1) := by decide +kernel
theorem dX12_drawnBy_90 : decode cX12_drawnBy 90 = .ok (.iaload, 1) := by decide +kernel
theorem dX12_drawnBy_91 : decode cX12_drawnBy 91 = .ok (.aload_n 0, 1) := by decide +kernel
theorem dX12_drawnBy_92 : decode cX12_drawnBy 92 = .ok (.getfield 7, 3) := by decide +kernel
theorem dX12_drawnBy_95 : decode cX12_drawnBy 95 = .ok (.iload_n 1, 1) := by decide +kernel
theorem dX12_drawnBy_96 : decode cX12_drawnBy 96 = .ok (.bipush 44, 2) := by decide +kernel
theorem dX12_drawnBy_98 : decode cX12_drawnBy 98 = .ok (.iadd, 1) := by decide +kernel
theorem dX12_drawnBy_99 : decode cX12_drawnBy 99 = .ok (.iload 5, 2) := by decide +kernel
theorem dX12_drawnBy_101 : decode cX12_drawnBy 101 = .ok (.iadd, 1) := by decide +kernel
theorem dX12_drawnBy_102 : decode cX12_drawnBy 102 = .ok (.iaload, 1) := by decide +kernel
theorem dX12_drawnBy_103 : decode cX12_drawnBy 103 = .ok (.iload 6, 2) := by decide +kernel
theorem dX12_drawnBy_105 : decode cX12_drawnBy 105 = .ok (.ifCond .ge 9, 3) := by decide +kernel
theorem dX12_drawnBy_108 : decode cX12_drawnBy 108 = .ok (.iload 6, 2) := by decide +kernel
theorem dX12_drawnBy_110 : decode cX12_drawnBy 110 = .ok (.ineg, 1) := by decide +kernel
theorem dX12_drawnBy_111 : decode cX12_drawnBy 111 = .ok (.goto 5, 3) := by decide +kernel
theorem dX12_drawnBy_114 : decode cX12_drawnBy 114 = .ok (.iload 6, 2) := by decide +kernel
theorem dX12_drawnBy_116 : decode cX12_drawnBy 116 = .ok (.aload_n 0, 1) := by decide +kernel
theorem dX12_drawnBy_117 : decode cX12_drawnBy 117 = .ok (.getfield 7, 3) := by decide +kernel
theorem dX12_drawnBy_120 : decode cX12_drawnBy 120 = .ok (.iload_n 1, 1) := by decide +kernel
theorem dX12_drawnBy_121 : decode cX12_drawnBy 121 = .ok (.iconst 2, 1) := by decide +kernel
theorem dX12_drawnBy_122 : decode cX12_drawnBy 122 = .ok (.iadd, 1) := by decide +kernel
theorem dX12_drawnBy_123 : decode cX12_drawnBy 123 = .ok (.iaload, 1) := by decide +kernel
theorem dX12_drawnBy_124 : decode cX12_drawnBy 124 = .ok (.invokestatic 187, 3) := by decide +kernel
theorem dX12_drawnBy_127 : decode cX12_drawnBy 127 = .ok (.istore 7, 2) := by decide +kernel
theorem dX12_drawnBy_129 : decode cX12_drawnBy 129 = .ok (.iload_n 3, 1) := by decide +kernel
theorem dX12_drawnBy_130 : decode cX12_drawnBy 130 = .ok (.iload 6, 2) := by decide +kernel
theorem dX12_drawnBy_132 : decode cX12_drawnBy 132 = .ok (.ifCond .ge 9, 3) := by decide +kernel
theorem dX12_drawnBy_135 : decode cX12_drawnBy 135 = .ok (.iload 7, 2) := by decide +kernel
theorem dX12_drawnBy_137 : decode cX12_drawnBy 137 = .ok (.ineg, 1) := by decide +kernel
theorem dX12_drawnBy_138 : decode cX12_drawnBy 138 = .ok (.goto 5, 3) := by decide +kernel
theorem dX12_drawnBy_141 : decode cX12_drawnBy 141 = .ok (.iload 7, 2) := by decide +kernel
theorem dX12_drawnBy_143 : decode cX12_drawnBy 143 = .ok (.iadd, 1) := by decide +kernel
theorem dX12_drawnBy_144 : decode cX12_drawnBy 144 = .ok (.istore_n 3, 1) := by decide +kernel
theorem dX12_drawnBy_145 : decode cX12_drawnBy 145 = .ok (.iinc 5 1, 3) := by decide +kernel
theorem dX12_drawnBy_148 : decode cX12_drawnBy 148 = .ok (.goto (-127), 3) := by decide +kernel
theorem dX12_drawnBy_151 : decode cX12_drawnBy 151 = .ok (.iinc 4 1, 3) := by decide +kernel
theorem dX12_drawnBy_154 : decode cX12_drawnBy 154 = .ok (.goto (-149), 3) := by decide +kernel
theorem dX12_drawnBy_157 : decode cX12_drawnBy 157 = .ok (.iload_n 3, 1) := by decide +kernel
theorem dX12_drawnBy_158 : decode cX12_drawnBy 158 = .ok (.ireturn, 1) := by decide +kernel
set_option maxRecDepth 20000 in
theorem ggX12_wayOf_X12_drawnBy : GoodIn wsX12_wayOf wsX12_drawnBy := goodIn_r _ [7, 1, 8, 9, 6, 10, 11, 12, 13, 14, 15, 16, 17, 18, 19, 27, 28, 29, 30, 31, 32, 33, 34, 35, 36, 37, 38, 39, 40, 41, 42, 43, 44, 45, 46, 47, 48] (by decide +kernel) (by decide +kernel)
set_option maxRecDepth 20000 in
theorem gX12_wayOf_X12_drawnBy : GoodIn wsX12_wayOf (wsV RX12 191 RX12 yX12_drawnBy wsX12_drawnBy) := goodIn_app (goodIn_of _ (by decide +kernel)) ggX12_wayOf_X12_drawnBy
set_option maxRecDepth 20000 in
theorem ggX12_wayOf_X12_weighs : GoodIn wsX12_wayOf wsX12_weighs := goodIn_r _ [23, 1, 8, 9, 6, 10, 27, 28, 29, 30, 31, 32, 33, 34, 35, 36, 37, 38, 39, 40, 41, 42, 43, 44, 45, 46, 47, 48] (by decide +kernel) (by decide +kernel)
set_option maxRecDepth 20000 in
theorem gX12_wayOf_X12_weighs : GoodIn wsX12_wayOf (wsV RX12 194 RX12 yX12_weighs wsX12_weighs) := goodIn_app (goodIn_of _ (by decide +kernel)) ggX12_wayOf_X12_weighs
set_option maxRecDepth 20000 in
theorem ggX12_wayOf_X12_has : GoodIn wsX12_wayOf wsX12_has := goodIn_r _ [10] (by decide +kernel) (by decide +kernel)
set_option maxRecDepth 20000 in
theorem gX12_wayOf_X12_has : GoodIn wsX12_wayOf (va_wsS RX12 184 yX12_has wsX12_has) := goodIn_app (goodIn_of _ (by decide +kernel)) ggX12_wayOf_X12_has
set_option maxRecDepth 20000 in
theorem ggX12_wayOf_X12_in : GoodIn wsX12_wayOf wsX12_in := goodIn_r _ [26] (by decide +kernel) (by decide +kernel)
set_option maxRecDepth 20000 in
theorem gX12_wayOf_X12_in : GoodIn wsX12_wayOf (va_wsS RX12 64 yX12_in wsX12_in) := goodIn_app (goodIn_of _ (by decide +kernel)) ggX12_wayOf_X12_in
theorem dX12_wayOf_0 : decode cX12_wayOf 0 = .ok (.aload_n 0, 1) := by decide +kernel
theorem dX12_wayOf_1 : decode cX12_wayOf 1 = .ok (.iload_n 1, 1) := by decide +kernel
theorem dX12_wayOf_2 : decode cX12_wayOf 2 = .ok (.iload_n 2, 1) := by decide +kernel
theorem dX12_wayOf_3 : decode cX12_wayOf 3 = .ok (.invokevirtual 191, 3) := by decide +kernel
theorem dX12_wayOf_6 : decode cX12_wayOf 6 = .ok (.istore_n 3, 1) := by decide +kernel
theorem dX12_wayOf_7 : decode cX12_wayOf 7 = .ok (.aload_n 0, 1) := by decide +kernel
theorem dX12_wayOf_8 : decode cX12_wayOf 8 = .ok (.iload_n 1, 1) := by decide +kernel
theorem dX12_wayOf_9 : decode cX12_wayOf 9 = .ok (.iload_n 2, 1) := by decide +kernel
theorem dX12_wayOf_10 : decode cX12_wayOf 10 = .ok (.invokevirtual 194, 3) := by decide +kernel
theorem dX12_wayOf_13 : decode cX12_wayOf 13 = .ok (.istore 4, 2) := by decide +kernel
theorem dX12_wayOf_15 : decode cX12_wayOf 15 = .ok (.iload_n 3, 1) := by decide +kernel
theorem dX12_wayOf_16 : decode cX12_wayOf 16 = .ok (.iload 4, 2) := by decide +kernel
theorem dX12_wayOf_18 : decode cX12_wayOf 18 = .ok (.if_icmp .lt 7, 3) := by decide +kernel
theorem dX12_wayOf_21 : decode cX12_wayOf 21 = .ok (.iconst 1, 1) := by decide +kernel
theorem dX12_wayOf_22 : decode cX12_wayOf 22 = .ok (.goto 15, 3) := by decide +kernel
theorem dX12_wayOf_25 : decode cX12_wayOf 25 = .ok (.iload_n 3, 1) := by decide +kernel
theorem dX12_wayOf_26 : decode cX12_wayOf 26 = .ok (.iload 4, 2) := by decide +kernel
theorem dX12_wayOf_28 : decode cX12_wayOf 28 = .ok (.ineg, 1) := by decide +kernel
theorem dX12_wayOf_29 : decode cX12_wayOf 29 = .ok (.if_icmp .gt 7, 3) := by decide +kernel
theorem dX12_wayOf_32 : decode cX12_wayOf 32 = .ok (.iconst (-1), 1) := by decide +kernel
theorem dX12_wayOf_33 : decode cX12_wayOf 33 = .ok (.goto 4, 3) := by decide +kernel
theorem dX12_wayOf_36 : decode cX12_wayOf 36 = .ok (.iconst 0, 1) := by decide +kernel
theorem dX12_wayOf_37 : decode cX12_wayOf 37 = .ok (.istore 5, 2) := by decide +kernel
theorem dX12_wayOf_39 : decode cX12_wayOf 39 = .ok (.iconst 1, 1) := by decide +kernel
theorem dX12_wayOf_40 : decode cX12_wayOf 40 = .ok (.istore 6, 2) := by decide +kernel
theorem dX12_wayOf_42 : decode cX12_wayOf 42 = .ok (.iconst 0, 1) := by decide +kernel
theorem dX12_wayOf_43 : decode cX12_wayOf 43 = .ok (.istore 7, 2) := by decide +kernel
theorem dX12_wayOf_45 : decode cX12_wayOf 45 = .ok (.iload 7, 2) := by decide +kernel
theorem dX12_wayOf_47 : decode cX12_wayOf 47 = .ok (.aload_n 0, 1) := by decide +kernel
theorem dX12_wayOf_48 : decode cX12_wayOf 48 = .ok (.getfield 7, 3) := by decide +kernel
theorem dX12_wayOf_51 : decode cX12_wayOf 51 = .ok (.iload_n 1, 1) := by decide +kernel
theorem dX12_wayOf_52 : decode cX12_wayOf 52 = .ok (.iconst 0, 1) := by decide +kernel
theorem dX12_wayOf_53 : decode cX12_wayOf 53 = .ok (.iadd, 1) := by decide +kernel
theorem dX12_wayOf_54 : decode cX12_wayOf 54 = .ok (.iaload, 1) := by decide +kernel
theorem dX12_wayOf_55 : decode cX12_wayOf 55 = .ok (.if_icmp .ge 56, 3) := by decide +kernel
theorem dX12_wayOf_58 : decode cX12_wayOf 58 = .ok (.iload 6, 2) := by decide +kernel
theorem dX12_wayOf_60 : decode cX12_wayOf 60 = .ok (.ifCond .eq 42, 3) := by decide +kernel
theorem dX12_wayOf_63 : decode cX12_wayOf 63 = .ok (.iload_n 2, 1) := by decide +kernel
theorem dX12_wayOf_64 : decode cX12_wayOf 64 = .ok (.iload 7, 2) := by decide +kernel
theorem dX12_wayOf_66 : decode cX12_wayOf 66 = .ok (.invokestatic 184, 3) := by decide +kernel
theorem dX12_wayOf_69 : decode cX12_wayOf 69 = .ok (.ifCond .eq 29, 3) := by decide +kernel
theorem dX12_wayOf_72 : decode cX12_wayOf 72 = .ok (.aload_n 0, 1) := by decide +kernel
theorem dX12_wayOf_73 : decode cX12_wayOf 73 = .ok (.getfield 7, 3) := by decide +kernel
theorem dX12_wayOf_76 : decode cX12_wayOf 76 = .ok (.iload_n 1, 1) := by decide +kernel
theorem dX12_wayOf_77 : decode cX12_wayOf 77 = .ok (.bipush 17, 2) := by decide +kernel
theorem dX12_wayOf_79 : decode cX12_wayOf 79 = .ok (.iadd, 1) := by decide +kernel
theorem dX12_wayOf_80 : decode cX12_wayOf 80 = .ok (.iload 7, 2) := by decide +kernel
theorem dX12_wayOf_82 : decode cX12_wayOf 82 = .ok (.iadd, 1) := by decide +kernel
theorem dX12_wayOf_83 : decode cX12_wayOf 83 = .ok (.iaload, 1) := by decide +kernel
theorem dX12_wayOf_84 : decode cX12_wayOf 84 = .ok (.iload 5, 2) := by decide +kernel
theorem dX12_wayOf_86 : decode cX12_wayOf 86 = .ok (.iadd, 1) := by decide +kernel
theorem dX12_wayOf_87 : decode cX12_wayOf 87 = .ok (.i2l, 1) := by decide +kernel
theorem dX12_wayOf_88 : decode cX12_wayOf 88 = .ok (.lconst 0, 1) := by decide +kernel
theorem dX12_wayOf_89 : decode cX12_wayOf 89 = .ok (.ldc2_w 84, 3) := by decide +kernel
theorem dX12_wayOf_92 : decode cX12_wayOf 92 = .ok (.invokestatic 64, 3) := by decide +kernel
theorem dX12_wayOf_95 : decode cX12_wayOf 95 = .ok (.ifCond .eq 7, 3) := by decide +kernel
theorem dX12_wayOf_98 : decode cX12_wayOf 98 = .ok (.iconst 1, 1) := by decide +kernel
theorem dX12_wayOf_99 : decode cX12_wayOf 99 = .ok (.goto 4, 3) := by decide +kernel
theorem dX12_wayOf_102 : decode cX12_wayOf 102 = .ok (.iconst 0, 1) := by decide +kernel
theorem dX12_wayOf_103 : decode cX12_wayOf 103 = .ok (.istore 6, 2) := by decide +kernel
theorem dX12_wayOf_105 : decode cX12_wayOf 105 = .ok (.iinc 7 1, 3) := by decide +kernel
theorem dX12_wayOf_108 : decode cX12_wayOf 108 = .ok (.goto (-63), 3) := by decide +kernel
theorem dX12_wayOf_111 : decode cX12_wayOf 111 = .ok (.iload 6, 2) := by decide +kernel
theorem dX12_wayOf_113 : decode cX12_wayOf 113 = .ok (.ifCond .eq 8, 3) := by decide +kernel
theorem dX12_wayOf_116 : decode cX12_wayOf 116 = .ok (.iload 5, 2) := by decide +kernel
theorem dX12_wayOf_118 : decode cX12_wayOf 118 = .ok (.goto 4, 3) := by decide +kernel
theorem dX12_wayOf_121 : decode cX12_wayOf 121 = .ok (.iconst 0, 1) := by decide +kernel
theorem dX12_wayOf_122 : decode cX12_wayOf 122 = .ok (.ireturn, 1) := by decide +kernel
set_option maxRecDepth 20000 in
theorem ggX12_passes_X12_stringOf : GoodIn wsX12_passes wsX12_stringOf := goodIn_r _ [8, 2, 9, 10, 11, 7, 12, 41, 42, 43, 44, 45, 46, 47, 48, 49, 50, 51, 52, 53, 54, 55, 56, 57, 58, 59, 60, 61, 62] (by decide +kernel) (by decide +kernel)
set_option maxRecDepth 20000 in
theorem gX12_passes_X12_stringOf : GoodIn wsX12_passes (wsV RX12 200 RX12 yX12_stringOf wsX12_stringOf) := goodIn_app (goodIn_of _ (by decide +kernel)) ggX12_passes_X12_stringOf
set_option maxRecDepth 20000 in
theorem ggX12_passes_X12_wayOf : GoodIn wsX12_passes wsX12_wayOf := goodIn_r _ [16, 2, 17, 18, 19, 20, 7, 21, 22, 23, 24, 25, 26, 27, 28, 29, 30, 31, 32, 33, 34, 35, 36, 37, 38, 39, 40, 41, 42, 43, 44, 45, 46, 47, 48, 49, 50, 51, 52, 53, 54, 55, 56, 57, 58, 59, 60, 61, 62] (by decide +kernel) (by decide +kernel)
set_option maxRecDepth 20000 in
theorem gX12_passes_X12_wayOf : GoodIn wsX12_passes (wsV RX12 203 RX12 yX12_wayOf wsX12_wayOf) := goodIn_app (goodIn_of _ (by decide +kernel)) ggX12_passes_X12_wayOf
set_option maxRecDepth 20000 in
theorem ggX12_passes_X12_topOf : GoodIn wsX12_passes wsX12_topOf := goodIn_r _ [12, 2, 41, 42, 43, 44, 45, 46, 47, 48, 49, 50, 51, 52, 53, 54, 55, 56, 57, 58, 59, 60, 61, 62] (by decide +kernel) (by decide +kernel)
set_option maxRecDepth 20000 in
theorem gX12_passes_X12_topOf : GoodIn wsX12_passes (wsV RX12 181 RX12 yX12_topOf wsX12_topOf) := goodIn_app (goodIn_of _ (by decide +kernel)) ggX12_passes_X12_topOf
theorem dX12_passes_0 : decode cX12_passes 0 = .ok (.aload_n 0, 1) := by decide +kernel
theorem dX12_passes_1 : decode cX12_passes 1 = .ok (.iconst 0, 1) := by decide +kernel
theorem dX12_passes_2 : decode cX12_passes 2 = .ok (.putfield 197, 3) := by decide +kernel
theorem dX12_passes_5 : decode cX12_passes 5 = .ok (.iconst 0, 1) := by decide +kernel
theorem dX12_passes_6 : decode cX12_passes 6 = .ok (.istore_n 2, 1) := by decide +kernel
theorem dX12_passes_7 : decode cX12_passes 7 = .ok (.iload_n 2, 1) := by decide +kernel
theorem dX12_passes_8 : decode cX12_passes 8 = .ok (.aload_n 0, 1) := by decide +kernel
theorem dX12_passes_9 : decode cX12_passes 9 = .ok (.getfield 7, 3) := by decide +kernel
theorem dX12_passes_12 : decode cX12_passes 12 = .ok (.iload_n 1, 1) := by decide +kernel
theorem dX12_passes_13 : decode cX12_passes 13 = .ok (.iconst 0, 1) := by decide +kernel
theorem dX12_passes_14 : decode cX12_passes 14 = .ok (.iadd, 1) := by decide +kernel
theorem dX12_passes_15 : decode cX12_passes 15 = .ok (.iaload, 1) := by decide +kernel
theorem dX12_passes_16 : decode cX12_passes 16 = .ok (.if_icmp .ge 59, 3) := by decide +kernel
theorem dX12_passes_19 : decode cX12_passes 19 = .ok (.aload_n 0, 1) := by decide +kernel
theorem dX12_passes_20 : decode cX12_passes 20 = .ok (.getfield 30, 3) := by decide +kernel
theorem dX12_passes_23 : decode cX12_passes 23 = .ok (.iload_n 2, 1) := by decide +kernel
theorem dX12_passes_24 : decode cX12_passes 24 = .ok (.aload_n 0, 1) := by decide +kernel
theorem dX12_passes_25 : decode cX12_passes 25 = .ok (.iload_n 1, 1) := by decide +kernel
theorem dX12_passes_26 : decode cX12_passes 26 = .ok (.aload_n 0, 1) := by decide +kernel
theorem dX12_passes_27 : decode cX12_passes 27 = .ok (.iload_n 1, 1) := by decide +kernel
theorem dX12_passes_28 : decode cX12_passes 28 = .ok (.iload_n 2, 1) := by decide +kernel
theorem dX12_passes_29 : decode cX12_passes 29 = .ok (.invokevirtual 200, 3) := by decide +kernel
theorem dX12_passes_32 : decode cX12_passes 32 = .ok (.invokevirtual 203, 3) := by decide +kernel
theorem dX12_passes_35 : decode cX12_passes 35 = .ok (.iastore, 1) := by decide +kernel
theorem dX12_passes_36 : decode cX12_passes 36 = .ok (.aload_n 0, 1) := by decide +kernel
theorem dX12_passes_37 : decode cX12_passes 37 = .ok (.dup, 1) := by decide +kernel
theorem dX12_passes_38 : decode cX12_passes 38 = .ok (.getfield 197, 3) := by decide +kernel
theorem dX12_passes_41 : decode cX12_passes 41 = .ok (.aload_n 0, 1) := by decide +kernel
theorem dX12_passes_42 : decode cX12_passes 42 = .ok (.getfield 30, 3) := by decide +kernel
theorem dX12_passes_45 : decode cX12_passes 45 = .ok (.iload_n 2, 1) := by decide +kernel
theorem dX12_passes_46 : decode cX12_passes 46 = .ok (.iaload, 1) := by decide +kernel
theorem dX12_passes_47 : decode cX12_passes 47 = .ok (.ifCond .eq 17, 3) := by decide +kernel
theorem dX12_passes_50 : decode cX12_passes 50 = .ok (.aload_n 0, 1) := by decide +kernel
theorem dX12_passes_51 : decode cX12_passes 51 = .ok (.iload_n 1, 1) := by decide +kernel
theorem dX12_passes_52 : decode cX12_passes 52 = .ok (.iload_n 2, 1) := by decide +kernel
theorem dX12_passes_53 : decode cX12_passes 53 = .ok (.invokevirtual 181, 3) := by decide +kernel
theorem dX12_passes_56 : decode cX12_passes 56 = .ok (.iload_n 2, 1) := by decide +kernel
theorem dX12_passes_57 : decode cX12_passes 57 = .ok (.if_icmp .ne 7, 3) := by decide +kernel
theorem dX12_passes_60 : decode cX12_passes 60 = .ok (.iconst 1, 1) := by decide +kernel
theorem dX12_passes_61 : decode cX12_passes 61 = .ok (.goto 4, 3) := by decide +kernel
theorem dX12_passes_64 : decode cX12_passes 64 = .ok (.iconst 0, 1) := by decide +kernel
theorem dX12_passes_65 : decode cX12_passes 65 = .ok (.iadd, 1) := by decide +kernel
theorem dX12_passes_66 : decode cX12_passes 66 = .ok (.putfield 197, 3) := by decide +kernel
theorem dX12_passes_69 : decode cX12_passes 69 = .ok (.iinc 2 1, 3) := by decide +kernel
theorem dX12_passes_72 : decode cX12_passes 72 = .ok (.goto (-65), 3) := by decide +kernel
theorem dX12_passes_75 : decode cX12_passes 75 = .ok (.iconst 0, 1) := by decide +kernel
theorem dX12_passes_76 : decode cX12_passes 76 = .ok (.istore_n 2, 1) := by decide +kernel
theorem dX12_passes_77 : decode cX12_passes 77 = .ok (.iload_n 2, 1) := by decide +kernel
theorem dX12_passes_78 : decode cX12_passes 78 = .ok (.aload_n 0, 1) := by decide +kernel
theorem dX12_passes_79 : decode cX12_passes 79 = .ok (.getfield 7, 3) := by decide +kernel
theorem dX12_passes_82 : decode cX12_passes 82 = .ok (.iload_n 1, 1) := by decide +kernel
theorem dX12_passes_83 : decode cX12_passes 83 = .ok (.iconst 0, 1) := by decide +kernel
theorem dX12_passes_84 : decode cX12_passes 84 = .ok (.iadd, 1) := by decide +kernel
theorem dX12_passes_85 : decode cX12_passes 85 = .ok (.iaload, 1) := by decide +kernel
theorem dX12_passes_86 : decode cX12_passes 86 = .ok (.if_icmp .ge 87, 3) := by decide +kernel
theorem dX12_passes_89 : decode cX12_passes 89 = .ok (.aload_n 0, 1) := by decide +kernel
theorem dX12_passes_90 : decode cX12_passes 90 = .ok (.getfield 7, 3) := by decide +kernel
theorem dX12_passes_93 : decode cX12_passes 93 = .ok (.iload_n 1, 1) := by decide +kernel
theorem dX12_passes_94 : decode cX12_passes 94 = .ok (.bipush 17, 2) := by decide +kernel
theorem dX12_passes_96 : decode cX12_passes 96 = .ok (.iadd, 1) := by decide +kernel
theorem dX12_passes_97 : decode cX12_passes 97 = .ok (.iload_n 2, 1) := by decide +kernel
theorem dX12_passes_98 : decode cX12_passes 98 = .ok (.iadd, 1) := by decide +kernel
theorem dX12_passes_99 : decode cX12_passes 99 = .ok (.dup2, 1) := by decide +kernel
theorem dX12_passes_100 : decode cX12_passes 100 = .ok (.iaload, 1) := by decide +kernel
theorem dX12_passes_101 : decode cX12_passes 101 = .ok (.aload_n 0, 1) := by decide +kernel
theorem dX12_passes_102 : decode cX12_passes 102 = .ok (.getfield 30, 3) := by decide +kernel
theorem dX12_passes_105 : decode cX12_passes 105 = .ok (.iload_n 2, 1) := by decide +kernel
theorem dX12_passes_106 : decode cX12_passes 106 = .ok (.iaload, 1) := by decide +kernel
theorem dX12_passes_107 : decode cX12_passes 107 = .ok (.iadd, 1) := by decide +kernel
theorem dX12_passes_108 : decode cX12_passes 108 = .ok (.iastore, 1) := by decide +kernel
theorem dX12_passes_109 : decode cX12_passes 109 = .ok (.aload_n 0, 1) := by decide +kernel
theorem dX12_passes_110 : decode cX12_passes 110 = .ok (.getfield 7, 3) := by decide +kernel
theorem dX12_passes_113 : decode cX12_passes 113 = .ok (.iload_n 1, 1) := by decide +kernel
theorem dX12_passes_114 : decode cX12_passes 114 = .ok (.bipush 24, 2) := by decide +kernel
theorem dX12_passes_116 : decode cX12_passes 116 = .ok (.iadd, 1) := by decide +kernel
theorem dX12_passes_117 : decode cX12_passes 117 = .ok (.iload_n 2, 1) := by decide +kernel
theorem dX12_passes_118 : decode cX12_passes 118 = .ok (.iadd, 1) := by decide +kernel
theorem dX12_passes_119 : decode cX12_passes 119 = .ok (.aload_n 0, 1) := by decide +kernel
theorem dX12_passes_120 : decode cX12_passes 120 = .ok (.getfield 30, 3) := by decide +kernel
theorem dX12_passes_123 : decode cX12_passes 123 = .ok (.iload_n 2, 1) := by decide +kernel
theorem dX12_passes_124 : decode cX12_passes 124 = .ok (.iaload, 1) := by decide +kernel
theorem dX12_passes_125 : decode cX12_passes 125 = .ok (.ifCond .eq 7, 3) := by decide +kernel
theorem dX12_passes_128 : decode cX12_passes 128 = .ok (.iconst 0, 1) := by decide +kernel
theorem dX12_passes_129 : decode cX12_passes 129 = .ok (.goto 37, 3) := by decide +kernel
theorem dX12_passes_132 : decode cX12_passes 132 = .ok (.aload_n 0, 1) := by decide +kernel
theorem dX12_passes_133 : decode cX12_passes 133 = .ok (.getfield 7, 3) := by decide +kernel
theorem dX12_passes_136 : decode cX12_passes 136 = .ok (.iload_n 1, 1) := by decide +kernel
theorem dX12_passes_137 : decode cX12_passes 137 = .ok (.bipush 24, 2) := by decide +kernel
theorem dX12_passes_139 : decode cX12_passes 139 = .ok (.iadd, 1) := by decide +kernel
theorem dX12_passes_140 : decode cX12_passes 140 = .ok (.iload_n 2, 1) := by decide +kernel
theorem dX12_passes_141 : decode cX12_passes 141 = .ok (.iadd, 1) := by decide +kernel
theorem dX12_passes_142 : decode cX12_passes 142 = .ok (.iaload, 1) := by decide +kernel
theorem dX12_passes_143 : decode cX12_passes 143 = .ok (.bipush 99, 2) := by decide +kernel
theorem dX12_passes_145 : decode cX12_passes 145 = .ok (.if_icmp .ge 19, 3) := by decide +kernel
theorem dX12_passes_148 : decode cX12_passes 148 = .ok (.aload_n 0, 1) := by decide +kernel
theorem dX12_passes_149 : decode cX12_passes 149 = .ok (.getfield 7, 3) := by decide +kernel
theorem dX12_passes_152 : decode cX12_passes 152 = .ok (.iload_n 1, 1) := by decide +kernel
theorem dX12_passes_153 : decode cX12_passes 153 = .ok (.bipush 24, 2) := by decide +kernel
theorem dX12_passes_155 : decode cX12_passes 155 = .ok (.iadd, 1) := by decide +kernel
theorem dX12_passes_156 : decode cX12_passes 156 = .ok (.iload_n 2, 1) := by decide +kernel
theorem dX12_passes_157 : decode cX12_passes 157 = .ok (.iadd, 1) := by decide +kernel
theorem dX12_passes_158 : decode cX12_passes 158 = .ok (.iaload, 1) := by decide +kernel
theorem dX12_passes_159 : decode cX12_passes 159 = .ok (.iconst 1, 1) := by decide +kernel
theorem dX12_passes_160 : decode cX12_passes 160 = .ok (.iadd, 1) := by decide +kernel
theorem dX12_passes_161 : decode cX12_passes 161 = .ok (.goto 5, 3) := by decide +kernel
theorem dX12_passes_164 : decode cX12_passes 164 = .ok (.bipush 99, 2) := by decide +kernel
theorem dX12_passes_166 : decode cX12_passes 166 = .ok (.iastore, 1) := by decide +kernel
theorem dX12_passes_167 : decode cX12_passes 167 = .ok (.iinc 2 1, 3) := by decide +kernel
theorem dX12_passes_170 : decode cX12_passes 170 = .ok (.goto (-93), 3) := by decide +kernel
theorem dX12_passes_173 : decode cX12_passes 173 = .ok (.aload_n 0, 1) := by decide +kernel
theorem dX12_passes_174 : decode cX12_passes 174 = .ok (.getfield 7, 3) := by decide +kernel
theorem dX12_passes_177 : decode cX12_passes 177 = .ok (.iload_n 1, 1) := by decide +kernel
theorem dX12_passes_178 : decode cX12_passes 178 = .ok (.iconst 2, 1) := by decide +kernel
theorem dX12_passes_179 : decode cX12_passes 179 = .ok (.iadd, 1) := by decide +kernel
theorem dX12_passes_180 : decode cX12_passes 180 = .ok (.dup2, 1) := by decide +kernel
theorem dX12_passes_181 : decode cX12_passes 181 = .ok (.iaload, 1) := by decide +kernel
theorem dX12_passes_182 : decode cX12_passes 182 = .ok (.iconst 1, 1) := by decide +kernel
theorem dX12_passes_183 : decode cX12_passes 183 = .ok (.iadd, 1) := by decide +kernel
theorem dX12_passes_184 : decode cX12_passes 184 = .ok (.iastore, 1) := by decide +kernel
theorem dX12_passes_185 : decode cX12_passes 185 = .ok (.return_, 1) := by decide +kernel
theorem dX12_minds_0 : decode cX12_minds 0 = .ok (.aload_n 0, 1) := by decide +kernel
theorem dX12_minds_1 : decode cX12_minds 1 = .ok (.getfield 7, 3) := by decide +kernel
theorem dX12_minds_4 : decode cX12_minds 4 = .ok (.bipush 124, 2) := by decide +kernel
theorem dX12_minds_6 : decode cX12_minds 6 = .ok (.iaload, 1) := by decide +kernel
theorem dX12_minds_7 : decode cX12_minds 7 = .ok (.bipush 8, 2) := by decide +kernel
theorem dX12_minds_9 : decode cX12_minds 9 = .ok (.if_icmp .ne 50, 3) := by decide +kernel
theorem dX12_minds_12 : decode cX12_minds 12 = .ok (.iconst 0, 1) := by decide +kernel
theorem dX12_minds_13 : decode cX12_minds 13 = .ok (.istore_n 1, 1) := by decide +kernel
theorem dX12_minds_14 : decode cX12_minds 14 = .ok (.iload_n 1, 1) := by decide +kernel
theorem dX12_minds_15 : decode cX12_minds 15 = .ok (.sipush 154, 3) := by decide +kernel
theorem dX12_minds_18 : decode cX12_minds 18 = .ok (.if_icmp .ge 30, 3) := by decide +kernel
theorem dX12_minds_21 : decode cX12_minds 21 = .ok (.aload_n 0, 1) := by decide +kernel
theorem dX12_minds_22 : decode cX12_minds 22 = .ok (.getfield 7, 3) := by decide +kernel
theorem dX12_minds_25 : decode cX12_minds 25 = .ok (.bipush 125, 2) := by decide +kernel
theorem dX12_minds_27 : decode cX12_minds 27 = .ok (.iload_n 1, 1) := by decide +kernel
theorem dX12_minds_28 : decode cX12_minds 28 = .ok (.iadd, 1) := by decide +kernel
theorem dX12_minds_29 : decode cX12_minds 29 = .ok (.aload_n 0, 1) := by decide +kernel
theorem dX12_minds_30 : decode cX12_minds 30 = .ok (.getfield 7, 3) := by decide +kernel
theorem dX12_minds_33 : decode cX12_minds 33 = .ok (.bipush 125, 2) := by decide +kernel
theorem dX12_minds_35 : decode cX12_minds 35 = .ok (.iload_n 1, 1) := by decide +kernel
theorem dX12_minds_36 : decode cX12_minds 36 = .ok (.iadd, 1) := by decide +kernel
theorem dX12_minds_37 : decode cX12_minds 37 = .ok (.bipush 22, 2) := by decide +kernel
theorem dX12_minds_39 : decode cX12_minds 39 = .ok (.iadd, 1) := by decide +kernel
theorem dX12_minds_40 : decode cX12_minds 40 = .ok (.iaload, 1) := by decide +kernel
theorem dX12_minds_41 : decode cX12_minds 41 = .ok (.iastore, 1) := by decide +kernel
theorem dX12_minds_42 : decode cX12_minds 42 = .ok (.iinc 1 1, 3) := by decide +kernel
theorem dX12_minds_45 : decode cX12_minds 45 = .ok (.goto (-31), 3) := by decide +kernel
theorem dX12_minds_48 : decode cX12_minds 48 = .ok (.aload_n 0, 1) := by decide +kernel
theorem dX12_minds_49 : decode cX12_minds 49 = .ok (.getfield 7, 3) := by decide +kernel
theorem dX12_minds_52 : decode cX12_minds 52 = .ok (.bipush 124, 2) := by decide +kernel
theorem dX12_minds_54 : decode cX12_minds 54 = .ok (.dup2, 1) := by decide +kernel
theorem dX12_minds_55 : decode cX12_minds 55 = .ok (.iaload, 1) := by decide +kernel
theorem dX12_minds_56 : decode cX12_minds 56 = .ok (.iconst 1, 1) := by decide +kernel
theorem dX12_minds_57 : decode cX12_minds 57 = .ok (.isub, 1) := by decide +kernel
theorem dX12_minds_58 : decode cX12_minds 58 = .ok (.iastore, 1) := by decide +kernel
theorem dX12_minds_59 : decode cX12_minds 59 = .ok (.bipush 125, 2) := by decide +kernel
theorem dX12_minds_61 : decode cX12_minds 61 = .ok (.bipush 22, 2) := by decide +kernel
theorem dX12_minds_63 : decode cX12_minds 63 = .ok (.aload_n 0, 1) := by decide +kernel
theorem dX12_minds_64 : decode cX12_minds 64 = .ok (.getfield 7, 3) := by decide +kernel
theorem dX12_minds_67 : decode cX12_minds 67 = .ok (.bipush 124, 2) := by decide +kernel
theorem dX12_minds_69 : decode cX12_minds 69 = .ok (.iaload, 1) := by decide +kernel
theorem dX12_minds_70 : decode cX12_minds 70 = .ok (.imul, 1) := by decide +kernel
theorem dX12_minds_71 : decode cX12_minds 71 = .ok (.iadd, 1) := by decide +kernel
theorem dX12_minds_72 : decode cX12_minds 72 = .ok (.istore_n 1, 1) := by decide +kernel
theorem dX12_minds_73 : decode cX12_minds 73 = .ok (.aload_n 0, 1) := by decide +kernel
theorem dX12_minds_74 : decode cX12_minds 74 = .ok (.getfield 7, 3) := by decide +kernel
theorem dX12_minds_77 : decode cX12_minds 77 = .ok (.iload_n 1, 1) := by decide +kernel
theorem dX12_minds_78 : decode cX12_minds 78 = .ok (.aload_n 0, 1) := by decide +kernel
theorem dX12_minds_79 : decode cX12_minds 79 = .ok (.getfield 7, 3) := by decide +kernel
theorem dX12_minds_82 : decode cX12_minds 82 = .ok (.iconst 2, 1) := by decide +kernel
theorem dX12_minds_83 : decode cX12_minds 83 = .ok (.iaload, 1) := by decide +kernel
theorem dX12_minds_84 : decode cX12_minds 84 = .ok (.iastore, 1) := by decide +kernel
theorem dX12_minds_85 : decode cX12_minds 85 = .ok (.iconst 0, 1) := by decide +kernel
theorem dX12_minds_86 : decode cX12_minds 86 = .ok (.istore_n 2, 1) := by decide +kernel
theorem dX12_minds_87 : decode cX12_minds 87 = .ok (.iload_n 2, 1) := by decide +kernel
theorem dX12_minds_88 : decode cX12_minds 88 = .ok (.bipush 21, 2) := by decide +kernel
theorem dX12_minds_90 : decode cX12_minds 90 = .ok (.if_icmp .ge 28, 3) := by decide +kernel
theorem dX12_minds_93 : decode cX12_minds 93 = .ok (.aload_n 0, 1) := by decide +kernel
theorem dX12_minds_94 : decode cX12_minds 94 = .ok (.getfield 7, 3) := by decide +kernel
theorem dX12_minds_97 : decode cX12_minds 97 = .ok (.iload_n 1, 1) := by decide +kernel
theorem dX12_minds_98 : decode cX12_minds 98 = .ok (.iconst 1, 1) := by decide +kernel
theorem dX12_minds_99 : decode cX12_minds 99 = .ok (.iadd, 1) := by decide +kernel
theorem dX12_minds_100 : decode cX12_minds 100 = .ok (.iload_n 2, 1) := by decide +kernel
theorem dX12_minds_101 : decode cX12_minds 101 = .ok (.iadd, 1) := by decide +kernel
theorem dX12_minds_102 : decode cX12_minds 102 = .ok (.aload_n 0, 1) := by decide +kernel
theorem dX12_minds_103 : decode cX12_minds 103 = .ok (.getfield 7, 3) := by decide +kernel
theorem dX12_minds_106 : decode cX12_minds 106 = .ok (.bipush 17, 2) := by decide +kernel
theorem dX12_minds_108 : decode cX12_minds 108 = .ok (.iload_n 2, 1) := by decide +kernel
theorem dX12_minds_109 : decode cX12_minds 109 = .ok (.iadd, 1) := by decide +kernel
theorem dX12_minds_110 : decode cX12_minds 110 = .ok (.iaload, 1) := by decide +kernel
theorem dX12_minds_111 : decode cX12_minds 111 = .ok (.iastore, 1) := by decide +kernel
theorem dX12_minds_112 : decode cX12_minds 112 = .ok (.iinc 2 1, 3) := by decide +kernel
theorem dX12_minds_115 : decode cX12_minds 115 = .ok (.goto (-28), 3) := by decide +kernel
theorem dX12_minds_118 : decode cX12_minds 118 = .ok (.aload_n 0, 1) := by decide +kernel
theorem dX12_minds_119 : decode cX12_minds 119 = .ok (.getfield 7, 3) := by decide +kernel
theorem dX12_minds_122 : decode cX12_minds 122 = .ok (.bipush 124, 2) := by decide +kernel
theorem dX12_minds_124 : decode cX12_minds 124 = .ok (.dup2, 1) := by decide +kernel
theorem dX12_minds_125 : decode cX12_minds 125 = .ok (.iaload, 1) := by decide +kernel
theorem dX12_minds_126 : decode cX12_minds 126 = .ok (.iconst 1, 1) := by decide +kernel
theorem dX12_minds_127 : decode cX12_minds 127 = .ok (.iadd, 1) := by decide +kernel
theorem dX12_minds_128 : decode cX12_minds 128 = .ok (.iastore, 1) := by decide +kernel
theorem dX12_minds_129 : decode cX12_minds 129 = .ok (.return_, 1) := by decide +kernel
set_option maxRecDepth 20000 in
theorem ggX12_hook_X12_isClerk : GoodIn wsX12_hook wsX12_isClerk := goodIn_r _ [6, 1, 7, 8, 5, 9, 46, 47, 48, 49, 50, 51, 52, 53, 54, 55, 56, 57, 58, 59, 60, 61, 62, 63, 64, 65, 66, 67] (by decide +kernel) (by decide +kernel)
set_option maxRecDepth 20000 in
theorem gX12_hook_X12_isClerk : GoodIn wsX12_hook (wsV RX12 206 RX12 yX12_isClerk wsX12_isClerk) := goodIn_app (goodIn_of _ (by decide +kernel)) ggX12_hook_X12_isClerk
set_option maxRecDepth 20000 in
theorem ggX12_hook_X12_bad : GoodIn wsX12_hook wsX12_bad := goodIn_r _ [13, 14, 46, 47, 48, 49, 50, 51, 52, 53, 54, 55, 56, 57, 58, 59, 60, 61, 62, 63, 64, 65, 66, 67] (by decide +kernel) (by decide +kernel)
set_option maxRecDepth 20000 in
theorem gX12_hook_X12_bad : GoodIn wsX12_hook (wsV RX12 88 RX12 yX12_bad wsX12_bad) := goodIn_app (goodIn_of _ (by decide +kernel)) ggX12_hook_X12_bad
set_option maxRecDepth 20000 in
theorem ggX12_hook_X12_isOver : GoodIn wsX12_hook wsX12_isOver := goodIn_r _ [18, 1, 46, 47, 48, 49, 50, 51, 52, 53, 54, 55, 56, 57, 58, 59, 60, 61, 62, 63, 64, 65, 66, 67] (by decide +kernel) (by decide +kernel)
set_option maxRecDepth 20000 in
theorem gX12_hook_X12_isOver : GoodIn wsX12_hook (wsV RX12 142 RX12 yX12_isOver wsX12_isOver) := goodIn_app (goodIn_of _ (by decide +kernel)) ggX12_hook_X12_isOver
set_option maxRecDepth 20000 in
theorem ggX12_hook_X12_no : GoodIn wsX12_hook wsX12_no := goodIn_r _ [22, 14, 46, 47, 48, 49, 50, 51, 52, 53, 54, 55, 56, 57, 58, 59, 60, 61, 62, 63, 64, 65, 66, 67] (by decide +kernel) (by decide +kernel)
set_option maxRecDepth 20000 in
theorem gX12_hook_X12_no : GoodIn wsX12_hook (wsV RX12 210 RX12 yX12_no wsX12_no) := goodIn_app (goodIn_of _ (by decide +kernel)) ggX12_hook_X12_no
set_option maxRecDepth 20000 in
theorem ggX12_hook_X12_onIt : GoodIn wsX12_hook wsX12_onIt := goodIn_r _ [26, 1, 46, 47, 48, 49, 50, 51, 52, 53, 54, 55, 56, 57, 58, 59, 60, 61, 62, 63, 64, 65, 66, 67] (by decide +kernel) (by decide +kernel)
set_option maxRecDepth 20000 in
theorem gX12_hook_X12_onIt : GoodIn wsX12_hook (wsV RX12 145 RX12 yX12_onIt wsX12_onIt) := goodIn_app (goodIn_of _ (by decide +kernel)) ggX12_hook_X12_onIt
set_option maxRecDepth 20000 in
theorem ggX12_hook_X12_full : GoodIn wsX12_hook wsX12_full := goodIn_r _ [30, 14, 46, 47, 48, 49, 50, 51, 52, 53, 54, 55, 56, 57, 58, 59, 60, 61, 62, 63, 64, 65, 66, 67] (by decide +kernel) (by decide +kernel)
set_option maxRecDepth 20000 in
theorem gX12_hook_X12_full : GoodIn wsX12_hook (wsV RX12 92 RX12 yX12_full wsX12_full) := goodIn_app (goodIn_of _ (by decide +kernel)) ggX12_hook_X12_full
set_option maxRecDepth 20000 in
theorem ggX12_hook_X12_minds : GoodIn wsX12_hook wsX12_minds := goodIn_r _ [34, 1, 46, 47, 48, 49, 50, 51, 52, 53, 54, 55, 56, 57, 58, 59, 60, 61, 62, 63, 64, 65, 66, 67] (by decide +kernel) (by decide +kernel)
set_option maxRecDepth 20000 in
theorem gX12_hook_X12_minds : GoodIn wsX12_hook (wsV RX12 213 RX12 yX12_minds wsX12_minds) := goodIn_app (goodIn_of _ (by decide +kernel)) ggX12_hook_X12_minds
set_option maxRecDepth 20000 in
theorem ggX12_hook_X12_stringOf : GoodIn wsX12_hook wsX12_stringOf := goodIn_r _ [38, 1, 39, 40, 41, 5, 42, 46, 47, 48, 49, 50, 51, 52, 53, 54, 55, 56, 57, 58, 59, 60, 61, 62, 63, 64, 65, 66, 67] (by decide +kernel) (by decide +kernel)
set_option maxRecDepth 20000 in
theorem gX12_hook_X12_stringOf : GoodIn wsX12_hook (wsV RX12 200 RX12 yX12_stringOf wsX12_stringOf) := goodIn_app (goodIn_of _ (by decide +kernel)) ggX12_hook_X12_stringOf
set_option maxRecDepth 20000 in
theorem ggX12_hook_X12_ones : GoodIn wsX12_hook wsX12_ones := goodIn_r _ [45] (by decide +kernel) (by decide +kernel)
set_option maxRecDepth 20000 in
theorem gX12_hook_X12_ones : GoodIn wsX12_hook (va_wsS RX12 216 yX12_ones wsX12_ones) := goodIn_app (goodIn_of _ (by decide +kernel)) ggX12_hook_X12_ones
theorem dX12_hook_0 : decode cX12_hook 0 = .ok (.aload_n 0, 1) := by decide +kernel
theorem dX12_hook_1 : decode cX12_hook 1 = .ok (.iload_n 1, 1) := by decide +kernel
theorem dX12_hook_2 : decode cX12_hook 2 = .ok (.invokevirtual 206, 3) := by decide +kernel
theorem dX12_hook_5 : decode cX12_hook 5 = .ok (.ifCond .eq 16, 3) := by decide +kernel
theorem dX12_hook_8 : decode cX12_hook 8 = .ok (.aload_n 0, 1) := by decide +kernel
theorem dX12_hook_9 : decode cX12_hook 9 = .ok (.iload_n 2, 1) := by decide +kernel
theorem dX12_hook_10 : decode cX12_hook 10 = .ok (.invokevirtual 206, 3) := by decide +kernel
theorem dX12_hook_13 : decode cX12_hook 13 = .ok (.ifCond .eq 8, 3) := by decide +kernel
theorem dX12_hook_16 : decode cX12_hook 16 = .ok (.iload_n 1, 1) := by decide +kernel
theorem dX12_hook_17 : decode cX12_hook 17 = .ok (.iload_n 2, 1) := by decide +kernel
theorem dX12_hook_18 : decode cX12_hook 18 = .ok (.if_icmp .ne 10, 3) := by decide +kernel
theorem dX12_hook_21 : decode cX12_hook 21 = .ok (.aload_n 0, 1) := by decide +kernel
theorem dX12_hook_22 : decode cX12_hook 22 = .ok (.bipush (-2), 2) := by decide +kernel
theorem dX12_hook_24 : decode cX12_hook 24 = .ok (.invokevirtual 88, 3) := by decide +kernel
theorem dX12_hook_27 : decode cX12_hook 27 = .ok (.ireturn, 1) := by decide +kernel
theorem dX12_hook_28 : decode cX12_hook 28 = .ok (.aload_n 0, 1) := by decide +kernel
theorem dX12_hook_29 : decode cX12_hook 29 = .ok (.getfield 7, 3) := by decide +kernel
theorem dX12_hook_32 : decode cX12_hook 32 = .ok (.bipush 31, 2) := by decide +kernel
theorem dX12_hook_34 : decode cX12_hook 34 = .ok (.iload_n 1, 1) := by decide +kernel
theorem dX12_hook_35 : decode cX12_hook 35 = .ok (.iadd, 1) := by decide +kernel
theorem dX12_hook_36 : decode cX12_hook 36 = .ok (.iaload, 1) := by decide +kernel
theorem dX12_hook_37 : decode cX12_hook 37 = .ok (.iconst (-1), 1) := by decide +kernel
theorem dX12_hook_38 : decode cX12_hook 38 = .ok (.if_icmp .ne 13, 3) := by decide +kernel
theorem dX12_hook_41 : decode cX12_hook 41 = .ok (.aload_n 0, 1) := by decide +kernel
theorem dX12_hook_42 : decode cX12_hook 42 = .ok (.iconst 0, 1) := by decide +kernel
theorem dX12_hook_43 : decode cX12_hook 43 = .ok (.iload_n 1, 1) := by decide +kernel
theorem dX12_hook_44 : decode cX12_hook 44 = .ok (.iload_n 2, 1) := by decide +kernel
theorem dX12_hook_45 : decode cX12_hook 45 = .ok (.invokevirtual 142, 3) := by decide +kernel
theorem dX12_hook_48 : decode cX12_hook 48 = .ok (.ifCond .eq 8, 3) := by decide +kernel
theorem dX12_hook_51 : decode cX12_hook 51 = .ok (.aload_n 0, 1) := by decide +kernel
theorem dX12_hook_52 : decode cX12_hook 52 = .ok (.invokevirtual 210, 3) := by decide +kernel
theorem dX12_hook_55 : decode cX12_hook 55 = .ok (.ireturn, 1) := by decide +kernel
theorem dX12_hook_56 : decode cX12_hook 56 = .ok (.aload_n 0, 1) := by decide +kernel
theorem dX12_hook_57 : decode cX12_hook 57 = .ok (.iconst 0, 1) := by decide +kernel
theorem dX12_hook_58 : decode cX12_hook 58 = .ok (.iload_n 2, 1) := by decide +kernel
theorem dX12_hook_59 : decode cX12_hook 59 = .ok (.invokevirtual 145, 3) := by decide +kernel
theorem dX12_hook_62 : decode cX12_hook 62 = .ok (.iconst 2, 1) := by decide +kernel
theorem dX12_hook_63 : decode cX12_hook 63 = .ok (.if_icmp .ne 8, 3) := by decide +kernel
theorem dX12_hook_66 : decode cX12_hook 66 = .ok (.aload_n 0, 1) := by decide +kernel
theorem dX12_hook_67 : decode cX12_hook 67 = .ok (.invokevirtual 92, 3) := by decide +kernel
theorem dX12_hook_70 : decode cX12_hook 70 = .ok (.ireturn, 1) := by decide +kernel
theorem dX12_hook_71 : decode cX12_hook 71 = .ok (.aload_n 0, 1) := by decide +kernel
theorem dX12_hook_72 : decode cX12_hook 72 = .ok (.invokevirtual 213, 3) := by decide +kernel
theorem dX12_hook_75 : decode cX12_hook 75 = .ok (.aload_n 0, 1) := by decide +kernel
theorem dX12_hook_76 : decode cX12_hook 76 = .ok (.getfield 7, 3) := by decide +kernel
theorem dX12_hook_79 : decode cX12_hook 79 = .ok (.bipush 31, 2) := by decide +kernel
theorem dX12_hook_81 : decode cX12_hook 81 = .ok (.iload_n 1, 1) := by decide +kernel
theorem dX12_hook_82 : decode cX12_hook 82 = .ok (.iadd, 1) := by decide +kernel
theorem dX12_hook_83 : decode cX12_hook 83 = .ok (.iload_n 2, 1) := by decide +kernel
theorem dX12_hook_84 : decode cX12_hook 84 = .ok (.iastore, 1) := by decide +kernel
theorem dX12_hook_85 : decode cX12_hook 85 = .ok (.aload_n 0, 1) := by decide +kernel
theorem dX12_hook_86 : decode cX12_hook 86 = .ok (.iconst 0, 1) := by decide +kernel
theorem dX12_hook_87 : decode cX12_hook 87 = .ok (.iload_n 1, 1) := by decide +kernel
theorem dX12_hook_88 : decode cX12_hook 88 = .ok (.invokevirtual 200, 3) := by decide +kernel
theorem dX12_hook_91 : decode cX12_hook 91 = .ok (.invokestatic 216, 3) := by decide +kernel
theorem dX12_hook_94 : decode cX12_hook 94 = .ok (.ireturn, 1) := by decide +kernel
set_option maxRecDepth 20000 in
theorem ggX12_unbend_X12_isClerk : GoodIn wsX12_unbend wsX12_isClerk := goodIn_r _ [6, 1, 7, 8, 5, 9, 23, 24, 25, 26, 27, 28, 29, 30, 31, 32, 33, 34, 35, 36, 37, 38, 39, 40, 41, 42, 43, 44] (by decide +kernel) (by decide +kernel)
set_option maxRecDepth 20000 in
theorem gX12_unbend_X12_isClerk : GoodIn wsX12_unbend (wsV RX12 206 RX12 yX12_isClerk wsX12_isClerk) := goodIn_app (goodIn_of _ (by decide +kernel)) ggX12_unbend_X12_isClerk
set_option maxRecDepth 20000 in
theorem ggX12_unbend_X12_bad : GoodIn wsX12_unbend wsX12_bad := goodIn_r _ [13, 14, 23, 24, 25, 26, 27, 28, 29, 30, 31, 32, 33, 34, 35, 36, 37, 38, 39, 40, 41, 42, 43, 44] (by decide +kernel) (by decide +kernel)
set_option maxRecDepth 20000 in
theorem gX12_unbend_X12_bad : GoodIn wsX12_unbend (wsV RX12 88 RX12 yX12_bad wsX12_bad) := goodIn_app (goodIn_of _ (by decide +kernel)) ggX12_unbend_X12_bad
set_option maxRecDepth 20000 in
theorem ggX12_unbend_X12_no : GoodIn wsX12_unbend wsX12_no := goodIn_r _ [18, 14, 23, 24, 25, 26, 27, 28, 29, 30, 31, 32, 33, 34, 35, 36, 37, 38, 39, 40, 41, 42, 43, 44] (by decide +kernel) (by decide +kernel)
set_option maxRecDepth 20000 in
theorem gX12_unbend_X12_no : GoodIn wsX12_unbend (wsV RX12 210 RX12 yX12_no wsX12_no) := goodIn_app (goodIn_of _ (by decide +kernel)) ggX12_unbend_X12_no
set_option maxRecDepth 20000 in
theorem ggX12_unbend_X12_minds : GoodIn wsX12_unbend wsX12_minds := goodIn_r _ [22, 1, 23, 24, 25, 26, 27, 28, 29, 30, 31, 32, 33, 34, 35, 36, 37, 38, 39, 40, 41, 42, 43, 44] (by decide +kernel) (by decide +kernel)
set_option maxRecDepth 20000 in
theorem gX12_unbend_X12_minds : GoodIn wsX12_unbend (wsV RX12 213 RX12 yX12_minds wsX12_minds) := goodIn_app (goodIn_of _ (by decide +kernel)) ggX12_unbend_X12_minds
theorem dX12_unbend_0 : decode cX12_unbend 0 = .ok (.aload_n 0, 1) := by decide +kernel
theorem dX12_unbend_1 : decode cX12_unbend 1 = .ok (.iload_n 1, 1) := by decide +kernel
theorem dX12_unbend_2 : decode cX12_unbend 2 = .ok (.invokevirtual 206, 3) := by decide +kernel
theorem dX12_unbend_5 : decode cX12_unbend 5 = .ok (.ifCond .ne 10, 3) := by decide +kernel
theorem dX12_unbend_8 : decode cX12_unbend 8 = .ok (.aload_n 0, 1) := by decide +kernel
theorem dX12_unbend_9 : decode cX12_unbend 9 = .ok (.bipush (-2), 2) := by decide +kernel
theorem dX12_unbend_11 : decode cX12_unbend 11 = .ok (.invokevirtual 88, 3) := by decide +kernel
theorem dX12_unbend_14 : decode cX12_unbend 14 = .ok (.ireturn, 1) := by decide +kernel
theorem dX12_unbend_15 : decode cX12_unbend 15 = .ok (.aload_n 0, 1) := by decide +kernel
theorem dX12_unbend_16 : decode cX12_unbend 16 = .ok (.getfield 7, 3) := by decide +kernel
theorem dX12_unbend_19 : decode cX12_unbend 19 = .ok (.bipush 31, 2) := by decide +kernel
theorem dX12_unbend_21 : decode cX12_unbend 21 = .ok (.iload_n 1, 1) := by decide +kernel
theorem dX12_unbend_22 : decode cX12_unbend 22 = .ok (.iadd, 1) := by decide +kernel
theorem dX12_unbend_23 : decode cX12_unbend 23 = .ok (.iaload, 1) := by decide +kernel
theorem dX12_unbend_24 : decode cX12_unbend 24 = .ok (.istore_n 2, 1) := by decide +kernel
theorem dX12_unbend_25 : decode cX12_unbend 25 = .ok (.iload_n 2, 1) := by decide +kernel
theorem dX12_unbend_26 : decode cX12_unbend 26 = .ok (.iconst (-1), 1) := by decide +kernel
theorem dX12_unbend_27 : decode cX12_unbend 27 = .ok (.if_icmp .ne 8, 3) := by decide +kernel
theorem dX12_unbend_30 : decode cX12_unbend 30 = .ok (.aload_n 0, 1) := by decide +kernel
theorem dX12_unbend_31 : decode cX12_unbend 31 = .ok (.invokevirtual 210, 3) := by decide +kernel
theorem dX12_unbend_34 : decode cX12_unbend 34 = .ok (.ireturn, 1) := by decide +kernel
theorem dX12_unbend_35 : decode cX12_unbend 35 = .ok (.aload_n 0, 1) := by decide +kernel
theorem dX12_unbend_36 : decode cX12_unbend 36 = .ok (.invokevirtual 213, 3) := by decide +kernel
theorem dX12_unbend_39 : decode cX12_unbend 39 = .ok (.aload_n 0, 1) := by decide +kernel
theorem dX12_unbend_40 : decode cX12_unbend 40 = .ok (.getfield 7, 3) := by decide +kernel
theorem dX12_unbend_43 : decode cX12_unbend 43 = .ok (.bipush 31, 2) := by decide +kernel
theorem dX12_unbend_45 : decode cX12_unbend 45 = .ok (.iload_n 1, 1) := by decide +kernel
theorem dX12_unbend_46 : decode cX12_unbend 46 = .ok (.iadd, 1) := by decide +kernel
theorem dX12_unbend_47 : decode cX12_unbend 47 = .ok (.iconst (-1), 1) := by decide +kernel
theorem dX12_unbend_48 : decode cX12_unbend 48 = .ok (.iastore, 1) := by decide +kernel
theorem dX12_unbend_49 : decode cX12_unbend 49 = .ok (.iload_n 2, 1) := by decide +kernel
theorem dX12_unbend_50 : decode cX12_unbend 50 = .ok (.ireturn, 1) := by decide +kernel
set_option maxRecDepth 20000 in
theorem ggX12_day_X12_in : GoodIn wsX12_day wsX12_in := goodIn_r _ [7] (by decide +kernel) (by decide +kernel)
set_option maxRecDepth 20000 in
theorem gX12_day_X12_in : GoodIn wsX12_day (va_wsS RX12 64 yX12_in wsX12_in) := goodIn_app (goodIn_of _ (by decide +kernel)) ggX12_day_X12_in
set_option maxRecDepth 20000 in
theorem ggX12_day_X12_bad : GoodIn wsX12_day wsX12_bad := goodIn_r _ [11, 12, 55, 56, 57, 58, 59, 60, 61, 62, 63, 64, 65, 66, 67, 68, 69, 70, 71, 72, 73, 74, 75, 76] (by decide +kernel) (by decide +kernel)
set_option maxRecDepth 20000 in
theorem gX12_day_X12_bad : GoodIn wsX12_day (wsV RX12 88 RX12 yX12_bad wsX12_bad) := goodIn_app (goodIn_of _ (by decide +kernel)) ggX12_day_X12_bad
set_option maxRecDepth 20000 in
theorem ggX12_day_X12_minds : GoodIn wsX12_day wsX12_minds := goodIn_r _ [16, 3, 55, 56, 57, 58, 59, 60, 61, 62, 63, 64, 65, 66, 67, 68, 69, 70, 71, 72, 73, 74, 75, 76] (by decide +kernel) (by decide +kernel)
set_option maxRecDepth 20000 in
theorem gX12_day_X12_minds : GoodIn wsX12_day (wsV RX12 213 RX12 yX12_minds wsX12_minds) := goodIn_app (goodIn_of _ (by decide +kernel)) ggX12_day_X12_minds
set_option maxRecDepth 20000 in
theorem ggX12_day_X12_passes : GoodIn wsX12_day wsX12_passes := goodIn_r _ [20, 2, 3, 21, 22, 23, 24, 6, 25, 26, 27, 28, 29, 30, 31, 32, 33, 34, 35, 36, 37, 38, 39, 40, 41, 42, 43, 44, 45, 46, 47, 48, 49, 50, 51, 52, 53, 54, 4, 5, 7, 55, 56, 57, 58, 59, 60, 61, 62, 63, 64, 65, 66, 67, 68, 69, 70, 71, 72, 73, 74, 75, 76] (by decide +kernel) (by decide +kernel)
set_option maxRecDepth 20000 in
theorem gX12_day_X12_passes : GoodIn wsX12_day (wsV RX12 148 RX12 yX12_passes wsX12_passes) := goodIn_app (goodIn_of _ (by decide +kernel)) ggX12_day_X12_passes
theorem dX12_day_0 : decode cX12_day 0 = .ok (.iload_n 1, 1) := by decide +kernel
theorem dX12_day_1 : decode cX12_day 1 = .ok (.i2l, 1) := by decide +kernel
theorem dX12_day_2 : decode cX12_day 2 = .ok (.lconst 1, 1) := by decide +kernel
theorem dX12_day_3 : decode cX12_day 3 = .ok (.ldc2_w 219, 3) := by decide +kernel
theorem dX12_day_6 : decode cX12_day 6 = .ok (.invokestatic 64, 3) := by decide +kernel
theorem dX12_day_9 : decode cX12_day 9 = .ok (.ifCond .ne 10, 3) := by decide +kernel
theorem dX12_day_12 : decode cX12_day 12 = .ok (.aload_n 0, 1) := by decide +kernel
theorem dX12_day_13 : decode cX12_day 13 = .ok (.bipush (-2), 2) := by decide +kernel
theorem dX12_day_15 : decode cX12_day 15 = .ok (.invokevirtual 88, 3) := by decide +kernel
theorem dX12_day_18 : decode cX12_day 18 = .ok (.ireturn, 1) := by decide +kernel
theorem dX12_day_19 : decode cX12_day 19 = .ok (.aload_n 0, 1) := by decide +kernel
theorem dX12_day_20 : decode cX12_day 20 = .ok (.invokevirtual 213, 3) := by decide +kernel
theorem dX12_day_23 : decode cX12_day 23 = .ok (.aload_n 0, 1) := by decide +kernel
theorem dX12_day_24 : decode cX12_day 24 = .ok (.iconst 0, 1) := by decide +kernel
theorem dX12_day_25 : decode cX12_day 25 = .ok (.putfield 197, 3) := by decide +kernel
theorem dX12_day_28 : decode cX12_day 28 = .ok (.iconst 0, 1) := by decide +kernel
theorem dX12_day_29 : decode cX12_day 29 = .ok (.istore_n 2, 1) := by decide +kernel
theorem dX12_day_30 : decode cX12_day 30 = .ok (.iload_n 2, 1) := by decide +kernel
theorem dX12_day_31 : decode cX12_day 31 = .ok (.iload_n 1, 1) := by decide +kernel
theorem dX12_day_32 : decode cX12_day 32 = .ok (.if_icmp .ge 26, 3) := by decide +kernel
theorem dX12_day_35 : decode cX12_day 35 = .ok (.aload_n 0, 1) := by decide +kernel
theorem dX12_day_36 : decode cX12_day 36 = .ok (.getfield 7, 3) := by decide +kernel
theorem dX12_day_39 : decode cX12_day 39 = .ok (.iconst 2, 1) := by decide +kernel
theorem dX12_day_40 : decode cX12_day 40 = .ok (.iaload, 1) := by decide +kernel
theorem dX12_day_41 : decode cX12_day 41 = .ok (.sipush 999, 3) := by decide +kernel
theorem dX12_day_44 : decode cX12_day 44 = .ok (.if_icmp .ge 14, 3) := by decide +kernel
theorem dX12_day_47 : decode cX12_day 47 = .ok (.aload_n 0, 1) := by decide +kernel
theorem dX12_day_48 : decode cX12_day 48 = .ok (.iconst 0, 1) := by decide +kernel
theorem dX12_day_49 : decode cX12_day 49 = .ok (.invokevirtual 148, 3) := by decide +kernel
theorem dX12_day_52 : decode cX12_day 52 = .ok (.iinc 2 1, 3) := by decide +kernel
theorem dX12_day_55 : decode cX12_day 55 = .ok (.goto (-25), 3) := by decide +kernel
theorem dX12_day_58 : decode cX12_day 58 = .ok (.aload_n 0, 1) := by decide +kernel
theorem dX12_day_59 : decode cX12_day 59 = .ok (.getfield 197, 3) := by decide +kernel
theorem dX12_day_62 : decode cX12_day 62 = .ok (.ireturn, 1) := by decide +kernel
set_option maxRecDepth 20000 in
theorem ggX12_undo_X12_no : GoodIn wsX12_undo wsX12_no := goodIn_r _ [6, 7, 8, 9, 10, 11, 12, 13, 14, 15, 16, 17, 18, 19, 20, 21, 22, 23, 24, 25, 26, 27, 28, 29] (by decide +kernel) (by decide +kernel)
set_option maxRecDepth 20000 in
theorem gX12_undo_X12_no : GoodIn wsX12_undo (wsV RX12 210 RX12 yX12_no wsX12_no) := goodIn_app (goodIn_of _ (by decide +kernel)) ggX12_undo_X12_no
theorem dX12_undo_0 : decode cX12_undo 0 = .ok (.aload_n 0, 1) := by decide +kernel
theorem dX12_undo_1 : decode cX12_undo 1 = .ok (.getfield 7, 3) := by decide +kernel
theorem dX12_undo_4 : decode cX12_undo 4 = .ok (.bipush 124, 2) := by decide +kernel
theorem dX12_undo_6 : decode cX12_undo 6 = .ok (.iaload, 1) := by decide +kernel
theorem dX12_undo_7 : decode cX12_undo 7 = .ok (.ifCond .ne 8, 3) := by decide +kernel
theorem dX12_undo_10 : decode cX12_undo 10 = .ok (.aload_n 0, 1) := by decide +kernel
theorem dX12_undo_11 : decode cX12_undo 11 = .ok (.invokevirtual 210, 3) := by decide +kernel
theorem dX12_undo_14 : decode cX12_undo 14 = .ok (.ireturn, 1) := by decide +kernel
theorem dX12_undo_15 : decode cX12_undo 15 = .ok (.aload_n 0, 1) := by decide +kernel
theorem dX12_undo_16 : decode cX12_undo 16 = .ok (.getfield 7, 3) := by decide +kernel
theorem dX12_undo_19 : decode cX12_undo 19 = .ok (.bipush 124, 2) := by decide +kernel
theorem dX12_undo_21 : decode cX12_undo 21 = .ok (.dup2, 1) := by decide +kernel
theorem dX12_undo_22 : decode cX12_undo 22 = .ok (.iaload, 1) := by decide +kernel
theorem dX12_undo_23 : decode cX12_undo 23 = .ok (.iconst 1, 1) := by decide +kernel
theorem dX12_undo_24 : decode cX12_undo 24 = .ok (.isub, 1) := by decide +kernel
theorem dX12_undo_25 : decode cX12_undo 25 = .ok (.iastore, 1) := by decide +kernel
theorem dX12_undo_26 : decode cX12_undo 26 = .ok (.bipush 125, 2) := by decide +kernel
theorem dX12_undo_28 : decode cX12_undo 28 = .ok (.bipush 22, 2) := by decide +kernel
theorem dX12_undo_30 : decode cX12_undo 30 = .ok (.aload_n 0, 1) := by decide +kernel
theorem dX12_undo_31 : decode cX12_undo 31 = .ok (.getfield 7, 3) := by decide +kernel
theorem dX12_undo_34 : decode cX12_undo 34 = .ok (.bipush 124, 2) := by decide +kernel
theorem dX12_undo_36 : decode cX12_undo 36 = .ok (.iaload, 1) := by decide +kernel
theorem dX12_undo_37 : decode cX12_undo 37 = .ok (.imul, 1) := by decide +kernel
theorem dX12_undo_38 : decode cX12_undo 38 = .ok (.iadd, 1) := by decide +kernel
theorem dX12_undo_39 : decode cX12_undo 39 = .ok (.istore_n 1, 1) := by decide +kernel
theorem dX12_undo_40 : decode cX12_undo 40 = .ok (.aload_n 0, 1) := by decide +kernel
theorem dX12_undo_41 : decode cX12_undo 41 = .ok (.getfield 7, 3) := by decide +kernel
theorem dX12_undo_44 : decode cX12_undo 44 = .ok (.iconst 2, 1) := by decide +kernel
theorem dX12_undo_45 : decode cX12_undo 45 = .ok (.aload_n 0, 1) := by decide +kernel
theorem dX12_undo_46 : decode cX12_undo 46 = .ok (.getfield 7, 3) := by decide +kernel
theorem dX12_undo_49 : decode cX12_undo 49 = .ok (.iload_n 1, 1) := by decide +kernel
theorem dX12_undo_50 : decode cX12_undo 50 = .ok (.iaload, 1) := by decide +kernel
theorem dX12_undo_51 : decode cX12_undo 51 = .ok (.iastore, 1) := by decide +kernel
theorem dX12_undo_52 : decode cX12_undo 52 = .ok (.iconst 0, 1) := by decide +kernel
theorem dX12_undo_53 : decode cX12_undo 53 = .ok (.istore_n 2, 1) := by decide +kernel
theorem dX12_undo_54 : decode cX12_undo 54 = .ok (.iload_n 2, 1) := by decide +kernel
theorem dX12_undo_55 : decode cX12_undo 55 = .ok (.bipush 21, 2) := by decide +kernel
theorem dX12_undo_57 : decode cX12_undo 57 = .ok (.if_icmp .ge 28, 3) := by decide +kernel
theorem dX12_undo_60 : decode cX12_undo 60 = .ok (.aload_n 0, 1) := by decide +kernel
theorem dX12_undo_61 : decode cX12_undo 61 = .ok (.getfield 7, 3) := by decide +kernel
theorem dX12_undo_64 : decode cX12_undo 64 = .ok (.bipush 17, 2) := by decide +kernel
theorem dX12_undo_66 : decode cX12_undo 66 = .ok (.iload_n 2, 1) := by decide +kernel
theorem dX12_undo_67 : decode cX12_undo 67 = .ok (.iadd, 1) := by decide +kernel
theorem dX12_undo_68 : decode cX12_undo 68 = .ok (.aload_n 0, 1) := by decide +kernel
theorem dX12_undo_69 : decode cX12_undo 69 = .ok (.getfield 7, 3) := by decide +kernel
theorem dX12_undo_72 : decode cX12_undo 72 = .ok (.iload_n 1, 1) := by decide +kernel
theorem dX12_undo_73 : decode cX12_undo 73 = .ok (.iconst 1, 1) := by decide +kernel
theorem dX12_undo_74 : decode cX12_undo 74 = .ok (.iadd, 1) := by decide +kernel
theorem dX12_undo_75 : decode cX12_undo 75 = .ok (.iload_n 2, 1) := by decide +kernel
theorem dX12_undo_76 : decode cX12_undo 76 = .ok (.iadd, 1) := by decide +kernel
theorem dX12_undo_77 : decode cX12_undo 77 = .ok (.iaload, 1) := by decide +kernel
theorem dX12_undo_78 : decode cX12_undo 78 = .ok (.iastore, 1) := by decide +kernel
theorem dX12_undo_79 : decode cX12_undo 79 = .ok (.iinc 2 1, 3) := by decide +kernel
theorem dX12_undo_82 : decode cX12_undo 82 = .ok (.goto (-28), 3) := by decide +kernel
theorem dX12_undo_85 : decode cX12_undo 85 = .ok (.aload_n 0, 1) := by decide +kernel
theorem dX12_undo_86 : decode cX12_undo 86 = .ok (.getfield 7, 3) := by decide +kernel
theorem dX12_undo_89 : decode cX12_undo 89 = .ok (.iconst 2, 1) := by decide +kernel
theorem dX12_undo_90 : decode cX12_undo 90 = .ok (.iaload, 1) := by decide +kernel
theorem dX12_undo_91 : decode cX12_undo 91 = .ok (.ireturn, 1) := by decide +kernel
theorem dX12_ofClerk_0 : decode cX12_ofClerk 0 = .ok (.iload_n 2, 1) := by decide +kernel
theorem dX12_ofClerk_1 : decode cX12_ofClerk 1 = .ok (.ifCond .ne 14, 3) := by decide +kernel
theorem dX12_ofClerk_4 : decode cX12_ofClerk 4 = .ok (.aload_n 0, 1) := by decide +kernel
theorem dX12_ofClerk_5 : decode cX12_ofClerk 5 = .ok (.getfield 7, 3) := by decide +kernel
theorem dX12_ofClerk_8 : decode cX12_ofClerk 8 = .ok (.iconst 3, 1) := by decide +kernel
theorem dX12_ofClerk_9 : decode cX12_ofClerk 9 = .ok (.iload_n 1, 1) := by decide +kernel
theorem dX12_ofClerk_10 : decode cX12_ofClerk 10 = .ok (.iadd, 1) := by decide +kernel
theorem dX12_ofClerk_11 : decode cX12_ofClerk 11 = .ok (.iaload, 1) := by decide +kernel
theorem dX12_ofClerk_12 : decode cX12_ofClerk 12 = .ok (.goto 63, 3) := by decide +kernel
theorem dX12_ofClerk_15 : decode cX12_ofClerk 15 = .ok (.iload_n 2, 1) := by decide +kernel
theorem dX12_ofClerk_16 : decode cX12_ofClerk 16 = .ok (.iconst 1, 1) := by decide +kernel
theorem dX12_ofClerk_17 : decode cX12_ofClerk 17 = .ok (.if_icmp .ne 15, 3) := by decide +kernel
theorem dX12_ofClerk_20 : decode cX12_ofClerk 20 = .ok (.aload_n 0, 1) := by decide +kernel
theorem dX12_ofClerk_21 : decode cX12_ofClerk 21 = .ok (.getfield 7, 3) := by decide +kernel
theorem dX12_ofClerk_24 : decode cX12_ofClerk 24 = .ok (.bipush 17, 2) := by decide +kernel
theorem dX12_ofClerk_26 : decode cX12_ofClerk 26 = .ok (.iload_n 1, 1) := by decide +kernel
theorem dX12_ofClerk_27 : decode cX12_ofClerk 27 = .ok (.iadd, 1) := by decide +kernel
theorem dX12_ofClerk_28 : decode cX12_ofClerk 28 = .ok (.iaload, 1) := by decide +kernel
theorem dX12_ofClerk_29 : decode cX12_ofClerk 29 = .ok (.goto 46, 3) := by decide +kernel
theorem dX12_ofClerk_32 : decode cX12_ofClerk 32 = .ok (.iload_n 2, 1) := by decide +kernel
theorem dX12_ofClerk_33 : decode cX12_ofClerk 33 = .ok (.iconst 2, 1) := by decide +kernel
theorem dX12_ofClerk_34 : decode cX12_ofClerk 34 = .ok (.if_icmp .ne 15, 3) := by decide +kernel
theorem dX12_ofClerk_37 : decode cX12_ofClerk 37 = .ok (.aload_n 0, 1) := by decide +kernel
theorem dX12_ofClerk_38 : decode cX12_ofClerk 38 = .ok (.getfield 7, 3) := by decide +kernel
theorem dX12_ofClerk_41 : decode cX12_ofClerk 41 = .ok (.bipush 10, 2) := by decide +kernel
theorem dX12_ofClerk_43 : decode cX12_ofClerk 43 = .ok (.iload_n 1, 1) := by decide +kernel
theorem dX12_ofClerk_44 : decode cX12_ofClerk 44 = .ok (.iadd, 1) := by decide +kernel
theorem dX12_ofClerk_45 : decode cX12_ofClerk 45 = .ok (.iaload, 1) := by decide +kernel
theorem dX12_ofClerk_46 : decode cX12_ofClerk 46 = .ok (.goto 29, 3) := by decide +kernel
theorem dX12_ofClerk_49 : decode cX12_ofClerk 49 = .ok (.iload_n 2, 1) := by decide +kernel
theorem dX12_ofClerk_50 : decode cX12_ofClerk 50 = .ok (.iconst 3, 1) := by decide +kernel
theorem dX12_ofClerk_51 : decode cX12_ofClerk 51 = .ok (.if_icmp .ne 15, 3) := by decide +kernel
theorem dX12_ofClerk_54 : decode cX12_ofClerk 54 = .ok (.aload_n 0, 1) := by decide +kernel
theorem dX12_ofClerk_55 : decode cX12_ofClerk 55 = .ok (.getfield 7, 3) := by decide +kernel
theorem dX12_ofClerk_58 : decode cX12_ofClerk 58 = .ok (.bipush 24, 2) := by decide +kernel
theorem dX12_ofClerk_60 : decode cX12_ofClerk 60 = .ok (.iload_n 1, 1) := by decide +kernel
theorem dX12_ofClerk_61 : decode cX12_ofClerk 61 = .ok (.iadd, 1) := by decide +kernel
theorem dX12_ofClerk_62 : decode cX12_ofClerk 62 = .ok (.iaload, 1) := by decide +kernel
theorem dX12_ofClerk_63 : decode cX12_ofClerk 63 = .ok (.goto 12, 3) := by decide +kernel
theorem dX12_ofClerk_66 : decode cX12_ofClerk 66 = .ok (.aload_n 0, 1) := by decide +kernel
theorem dX12_ofClerk_67 : decode cX12_ofClerk 67 = .ok (.getfield 7, 3) := by decide +kernel
theorem dX12_ofClerk_70 : decode cX12_ofClerk 70 = .ok (.bipush 31, 2) := by decide +kernel
theorem dX12_ofClerk_72 : decode cX12_ofClerk 72 = .ok (.iload_n 1, 1) := by decide +kernel
theorem dX12_ofClerk_73 : decode cX12_ofClerk 73 = .ok (.iadd, 1) := by decide +kernel
theorem dX12_ofClerk_74 : decode cX12_ofClerk 74 = .ok (.iaload, 1) := by decide +kernel
theorem dX12_ofClerk_75 : decode cX12_ofClerk 75 = .ok (.ireturn, 1) := by decide +kernel
set_option maxRecDepth 20000 in
theorem ggX12_of_X12_isClerk : GoodIn wsX12_of wsX12_isClerk := goodIn_r _ [6, 7, 8, 9, 5, 10, 20, 21, 22, 23, 24, 25, 26, 27, 28, 29, 30, 31, 32, 33, 34, 35, 36, 37, 38, 39, 40, 41] (by decide +kernel) (by decide +kernel)
set_option maxRecDepth 20000 in
theorem gX12_of_X12_isClerk : GoodIn wsX12_of (wsV RX12 206 RX12 yX12_isClerk wsX12_isClerk) := goodIn_app (goodIn_of _ (by decide +kernel)) ggX12_of_X12_isClerk
set_option maxRecDepth 20000 in
theorem ggX12_of_X12_in : GoodIn wsX12_of wsX12_in := goodIn_r _ [10] (by decide +kernel) (by decide +kernel)
set_option maxRecDepth 20000 in
theorem gX12_of_X12_in : GoodIn wsX12_of (va_wsS RX12 64 yX12_in wsX12_in) := goodIn_app (goodIn_of _ (by decide +kernel)) ggX12_of_X12_in
set_option maxRecDepth 20000 in
theorem ggX12_of_X12_ofClerk : GoodIn wsX12_of wsX12_ofClerk := goodIn_r _ [14, 7, 20, 21, 22, 23, 24, 25, 26, 27, 28, 29, 30, 31, 32, 33, 34, 35, 36, 37, 38, 39, 40, 41] (by decide +kernel) (by decide +kernel)
set_option maxRecDepth 20000 in
theorem gX12_of_X12_ofClerk : GoodIn wsX12_of (wsV RX12 223 RX12 yX12_ofClerk wsX12_ofClerk) := goodIn_app (goodIn_of _ (by decide +kernel)) ggX12_of_X12_ofClerk
set_option maxRecDepth 20000 in
theorem ggX12_of_X12_bad : GoodIn wsX12_of wsX12_bad := goodIn_r _ [18, 19, 20, 21, 22, 23, 24, 25, 26, 27, 28, 29, 30, 31, 32, 33, 34, 35, 36, 37, 38, 39, 40, 41] (by decide +kernel) (by decide +kernel)
set_option maxRecDepth 20000 in
theorem gX12_of_X12_bad : GoodIn wsX12_of (wsV RX12 88 RX12 yX12_bad wsX12_bad) := goodIn_app (goodIn_of _ (by decide +kernel)) ggX12_of_X12_bad
theorem dX12_of_0 : decode cX12_of 0 = .ok (.aload_n 0, 1) := by decide +kernel
theorem dX12_of_1 : decode cX12_of 1 = .ok (.iload_n 1, 1) := by decide +kernel
theorem dX12_of_2 : decode cX12_of 2 = .ok (.invokevirtual 206, 3) := by decide +kernel
theorem dX12_of_5 : decode cX12_of 5 = .ok (.ifCond .eq 24, 3) := by decide +kernel
theorem dX12_of_8 : decode cX12_of 8 = .ok (.iload_n 2, 1) := by decide +kernel
theorem dX12_of_9 : decode cX12_of 9 = .ok (.i2l, 1) := by decide +kernel
theorem dX12_of_10 : decode cX12_of 10 = .ok (.lconst 0, 1) := by decide +kernel
theorem dX12_of_11 : decode cX12_of 11 = .ok (.ldc2_w 221, 3) := by decide +kernel
theorem dX12_of_14 : decode cX12_of 14 = .ok (.invokestatic 64, 3) := by decide +kernel
theorem dX12_of_17 : decode cX12_of 17 = .ok (.ifCond .eq 12, 3) := by decide +kernel
theorem dX12_of_20 : decode cX12_of 20 = .ok (.aload_n 0, 1) := by decide +kernel
theorem dX12_of_21 : decode cX12_of 21 = .ok (.iload_n 1, 1) := by decide +kernel
theorem dX12_of_22 : decode cX12_of 22 = .ok (.iload_n 2, 1) := by decide +kernel
theorem dX12_of_23 : decode cX12_of 23 = .ok (.invokevirtual 223, 3) := by decide +kernel
theorem dX12_of_26 : decode cX12_of 26 = .ok (.goto 9, 3) := by decide +kernel
theorem dX12_of_29 : decode cX12_of 29 = .ok (.aload_n 0, 1) := by decide +kernel
theorem dX12_of_30 : decode cX12_of 30 = .ok (.bipush (-2), 2) := by decide +kernel
theorem dX12_of_32 : decode cX12_of 32 = .ok (.invokevirtual 88, 3) := by decide +kernel
theorem dX12_of_35 : decode cX12_of 35 = .ok (.ireturn, 1) := by decide +kernel
theorem dX12_areHooked_0 : decode cX12_areHooked 0 = .ok (.aload_n 0, 1) := by decide +kernel
theorem dX12_areHooked_1 : decode cX12_areHooked 1 = .ok (.getfield 7, 3) := by decide +kernel
theorem dX12_areHooked_4 : decode cX12_areHooked 4 = .ok (.iload_n 1, 1) := by decide +kernel
theorem dX12_areHooked_5 : decode cX12_areHooked 5 = .ok (.bipush 31, 2) := by decide +kernel
theorem dX12_areHooked_7 : decode cX12_areHooked 7 = .ok (.iadd, 1) := by decide +kernel
theorem dX12_areHooked_8 : decode cX12_areHooked 8 = .ok (.iload_n 2, 1) := by decide +kernel
theorem dX12_areHooked_9 : decode cX12_areHooked 9 = .ok (.iadd, 1) := by decide +kernel
theorem dX12_areHooked_10 : decode cX12_areHooked 10 = .ok (.iaload, 1) := by decide +kernel
theorem dX12_areHooked_11 : decode cX12_areHooked 11 = .ok (.iload_n 3, 1) := by decide +kernel
theorem dX12_areHooked_12 : decode cX12_areHooked 12 = .ok (.if_icmp .eq 18, 3) := by decide +kernel
theorem dX12_areHooked_15 : decode cX12_areHooked 15 = .ok (.aload_n 0, 1) := by decide +kernel
theorem dX12_areHooked_16 : decode cX12_areHooked 16 = .ok (.getfield 7, 3) := by decide +kernel
theorem dX12_areHooked_19 : decode cX12_areHooked 19 = .ok (.iload_n 1, 1) := by decide +kernel
theorem dX12_areHooked_20 : decode cX12_areHooked 20 = .ok (.bipush 31, 2) := by decide +kernel
theorem dX12_areHooked_22 : decode cX12_areHooked 22 = .ok (.iadd, 1) := by decide +kernel
theorem dX12_areHooked_23 : decode cX12_areHooked 23 = .ok (.iload_n 3, 1) := by decide +kernel
theorem dX12_areHooked_24 : decode cX12_areHooked 24 = .ok (.iadd, 1) := by decide +kernel
theorem dX12_areHooked_25 : decode cX12_areHooked 25 = .ok (.iaload, 1) := by decide +kernel
theorem dX12_areHooked_26 : decode cX12_areHooked 26 = .ok (.iload_n 2, 1) := by decide +kernel
theorem dX12_areHooked_27 : decode cX12_areHooked 27 = .ok (.if_icmp .ne 7, 3) := by decide +kernel
theorem dX12_areHooked_30 : decode cX12_areHooked 30 = .ok (.iconst 1, 1) := by decide +kernel
theorem dX12_areHooked_31 : decode cX12_areHooked 31 = .ok (.goto 4, 3) := by decide +kernel
theorem dX12_areHooked_34 : decode cX12_areHooked 34 = .ok (.iconst 0, 1) := by decide +kernel
theorem dX12_areHooked_35 : decode cX12_areHooked 35 = .ok (.ireturn, 1) := by decide +kernel
set_option maxRecDepth 20000 in
theorem ggX12_tugs_X12_goesOn : GoodIn wsX12_tugs wsX12_goesOn := goodIn_r _ [8, 9, 10, 7, 11] (by decide +kernel) (by decide +kernel)
set_option maxRecDepth 20000 in
theorem gX12_tugs_X12_goesOn : GoodIn wsX12_tugs (va_wsS RX12 226 yX12_goesOn wsX12_goesOn) := goodIn_app (goodIn_of _ (by decide +kernel)) ggX12_tugs_X12_goesOn
set_option maxRecDepth 20000 in
theorem ggX12_tugs_X12_areHooked : GoodIn wsX12_tugs wsX12_areHooked := goodIn_r _ [15, 4, 16, 17, 18, 19, 20, 21, 22, 23, 24, 25, 26, 27, 28, 29, 30, 31, 32, 33, 34, 35, 36, 37] (by decide +kernel) (by decide +kernel)
set_option maxRecDepth 20000 in
theorem gX12_tugs_X12_areHooked : GoodIn wsX12_tugs (wsV RX12 230 RX12 yX12_areHooked wsX12_areHooked) := goodIn_app (goodIn_of _ (by decide +kernel)) ggX12_tugs_X12_areHooked
theorem dX12_tugs_0 : decode cX12_tugs 0 = .ok (.iconst 0, 1) := by decide +kernel
theorem dX12_tugs_1 : decode cX12_tugs 1 = .ok (.istore 4, 2) := by decide +kernel
theorem dX12_tugs_3 : decode cX12_tugs 3 = .ok (.iload 4, 2) := by decide +kernel
theorem dX12_tugs_5 : decode cX12_tugs 5 = .ok (.bipush 7, 2) := by decide +kernel
theorem dX12_tugs_7 : decode cX12_tugs 7 = .ok (.if_icmp .ge 17, 3) := by decide +kernel
theorem dX12_tugs_10 : decode cX12_tugs 10 = .ok (.aload_n 0, 1) := by decide +kernel
theorem dX12_tugs_11 : decode cX12_tugs 11 = .ok (.getfield 33, 3) := by decide +kernel
theorem dX12_tugs_14 : decode cX12_tugs 14 = .ok (.iload 4, 2) := by decide +kernel
theorem dX12_tugs_16 : decode cX12_tugs 16 = .ok (.iconst 0, 1) := by decide +kernel
theorem dX12_tugs_17 : decode cX12_tugs 17 = .ok (.iastore, 1) := by decide +kernel
theorem dX12_tugs_18 : decode cX12_tugs 18 = .ok (.iinc 4 1, 3) := by decide +kernel
theorem dX12_tugs_21 : decode cX12_tugs 21 = .ok (.goto (-18), 3) := by decide +kernel
theorem dX12_tugs_24 : decode cX12_tugs 24 = .ok (.iconst 0, 1) := by decide +kernel
theorem dX12_tugs_25 : decode cX12_tugs 25 = .ok (.istore 4, 2) := by decide +kernel
theorem dX12_tugs_27 : decode cX12_tugs 27 = .ok (.iconst 1, 1) := by decide +kernel
theorem dX12_tugs_28 : decode cX12_tugs 28 = .ok (.istore 5, 2) := by decide +kernel
theorem dX12_tugs_30 : decode cX12_tugs 30 = .ok (.aload_n 0, 1) := by decide +kernel
theorem dX12_tugs_31 : decode cX12_tugs 31 = .ok (.getfield 36, 3) := by decide +kernel
theorem dX12_tugs_34 : decode cX12_tugs 34 = .ok (.iconst 0, 1) := by decide +kernel
theorem dX12_tugs_35 : decode cX12_tugs 35 = .ok (.iload_n 2, 1) := by decide +kernel
theorem dX12_tugs_36 : decode cX12_tugs 36 = .ok (.iastore, 1) := by decide +kernel
theorem dX12_tugs_37 : decode cX12_tugs 37 = .ok (.aload_n 0, 1) := by decide +kernel
theorem dX12_tugs_38 : decode cX12_tugs 38 = .ok (.getfield 39, 3) := by decide +kernel
theorem dX12_tugs_41 : decode cX12_tugs 41 = .ok (.iload_n 2, 1) := by decide +kernel
theorem dX12_tugs_42 : decode cX12_tugs 42 = .ok (.iconst (-1), 1) := by decide +kernel
theorem dX12_tugs_43 : decode cX12_tugs 43 = .ok (.iastore, 1) := by decide +kernel
theorem dX12_tugs_44 : decode cX12_tugs 44 = .ok (.aload_n 0, 1) := by decide +kernel
theorem dX12_tugs_45 : decode cX12_tugs 45 = .ok (.getfield 33, 3) := by decide +kernel
theorem dX12_tugs_48 : decode cX12_tugs 48 = .ok (.iload_n 2, 1) := by decide +kernel
theorem dX12_tugs_49 : decode cX12_tugs 49 = .ok (.iload_n 3, 1) := by decide +kernel
theorem dX12_tugs_50 : decode cX12_tugs 50 = .ok (.iastore, 1) := by decide +kernel
theorem dX12_tugs_51 : decode cX12_tugs 51 = .ok (.iload 4, 2) := by decide +kernel
theorem dX12_tugs_53 : decode cX12_tugs 53 = .ok (.iload 5, 2) := by decide +kernel
theorem dX12_tugs_55 : decode cX12_tugs 55 = .ok (.if_icmp .ge 141, 3) := by decide +kernel
theorem dX12_tugs_58 : decode cX12_tugs 58 = .ok (.aload_n 0, 1) := by decide +kernel
theorem dX12_tugs_59 : decode cX12_tugs 59 = .ok (.getfield 36, 3) := by decide +kernel
theorem dX12_tugs_62 : decode cX12_tugs 62 = .ok (.iload 4, 2) := by decide +kernel
theorem dX12_tugs_64 : decode cX12_tugs 64 = .ok (.iaload, 1) := by decide +kernel
theorem dX12_tugs_65 : decode cX12_tugs 65 = .ok (.istore 6, 2) := by decide +kernel
theorem dX12_tugs_67 : decode cX12_tugs 67 = .ok (.iinc 4 1, 3) := by decide +kernel
theorem dX12_tugs_70 : decode cX12_tugs 70 = .ok (.aload_n 0, 1) := by decide +kernel
theorem dX12_tugs_71 : decode cX12_tugs 71 = .ok (.getfield 7, 3) := by decide +kernel
theorem dX12_tugs_74 : decode cX12_tugs 74 = .ok (.iload_n 1, 1) := by decide +kernel
theorem dX12_tugs_75 : decode cX12_tugs 75 = .ok (.iconst 3, 1) := by decide +kernel
theorem dX12_tugs_76 : decode cX12_tugs 76 = .ok (.iadd, 1) := by decide +kernel
theorem dX12_tugs_77 : decode cX12_tugs 77 = .ok (.iload 6, 2) := by decide +kernel
theorem dX12_tugs_79 : decode cX12_tugs 79 = .ok (.iadd, 1) := by decide +kernel
theorem dX12_tugs_80 : decode cX12_tugs 80 = .ok (.iaload, 1) := by decide +kernel
theorem dX12_tugs_81 : decode cX12_tugs 81 = .ok (.aload_n 0, 1) := by decide +kernel
theorem dX12_tugs_82 : decode cX12_tugs 82 = .ok (.getfield 33, 3) := by decide +kernel
theorem dX12_tugs_85 : decode cX12_tugs 85 = .ok (.iload 6, 2) := by decide +kernel
theorem dX12_tugs_87 : decode cX12_tugs 87 = .ok (.iaload, 1) := by decide +kernel
theorem dX12_tugs_88 : decode cX12_tugs 88 = .ok (.aload_n 0, 1) := by decide +kernel
theorem dX12_tugs_89 : decode cX12_tugs 89 = .ok (.getfield 7, 3) := by decide +kernel
theorem dX12_tugs_92 : decode cX12_tugs 92 = .ok (.iload_n 1, 1) := by decide +kernel
theorem dX12_tugs_93 : decode cX12_tugs 93 = .ok (.bipush 24, 2) := by decide +kernel
theorem dX12_tugs_95 : decode cX12_tugs 95 = .ok (.iadd, 1) := by decide +kernel
theorem dX12_tugs_96 : decode cX12_tugs 96 = .ok (.iload 6, 2) := by decide +kernel
theorem dX12_tugs_98 : decode cX12_tugs 98 = .ok (.iadd, 1) := by decide +kernel
theorem dX12_tugs_99 : decode cX12_tugs 99 = .ok (.iaload, 1) := by decide +kernel
theorem dX12_tugs_100 : decode cX12_tugs 100 = .ok (.invokestatic 226, 3) := by decide +kernel
theorem dX12_tugs_103 : decode cX12_tugs 103 = .ok (.istore 7, 2) := by decide +kernel
theorem dX12_tugs_105 : decode cX12_tugs 105 = .ok (.iconst 0, 1) := by decide +kernel
theorem dX12_tugs_106 : decode cX12_tugs 106 = .ok (.istore 8, 2) := by decide +kernel
theorem dX12_tugs_108 : decode cX12_tugs 108 = .ok (.iload 8, 2) := by decide +kernel
theorem dX12_tugs_110 : decode cX12_tugs 110 = .ok (.aload_n 0, 1) := by decide +kernel
theorem dX12_tugs_111 : decode cX12_tugs 111 = .ok (.getfield 7, 3) := by decide +kernel
theorem dX12_tugs_114 : decode cX12_tugs 114 = .ok (.iload_n 1, 1) := by decide +kernel
theorem dX12_tugs_115 : decode cX12_tugs 115 = .ok (.iconst 0, 1) := by decide +kernel
theorem dX12_tugs_116 : decode cX12_tugs 116 = .ok (.iadd, 1) := by decide +kernel
theorem dX12_tugs_117 : decode cX12_tugs 117 = .ok (.iaload, 1) := by decide +kernel
theorem dX12_tugs_118 : decode cX12_tugs 118 = .ok (.if_icmp .ge 75, 3) := by decide +kernel
theorem dX12_tugs_121 : decode cX12_tugs 121 = .ok (.iload 7, 2) := by decide +kernel
theorem dX12_tugs_123 : decode cX12_tugs 123 = .ok (.ifCond .le 70, 3) := by decide +kernel
theorem dX12_tugs_126 : decode cX12_tugs 126 = .ok (.iload 8, 2) := by decide +kernel
theorem dX12_tugs_128 : decode cX12_tugs 128 = .ok (.iload 6, 2) := by decide +kernel
theorem dX12_tugs_130 : decode cX12_tugs 130 = .ok (.if_icmp .eq 57, 3) := by decide +kernel
theorem dX12_tugs_133 : decode cX12_tugs 133 = .ok (.iload 8, 2) := by decide +kernel
theorem dX12_tugs_135 : decode cX12_tugs 135 = .ok (.aload_n 0, 1) := by decide +kernel
theorem dX12_tugs_136 : decode cX12_tugs 136 = .ok (.getfield 39, 3) := by decide +kernel
theorem dX12_tugs_139 : decode cX12_tugs 139 = .ok (.iload 6, 2) := by decide +kernel
theorem dX12_tugs_141 : decode cX12_tugs 141 = .ok (.iaload, 1) := by decide +kernel
theorem dX12_tugs_142 : decode cX12_tugs 142 = .ok (.if_icmp .eq 45, 3) := by decide +kernel
theorem dX12_tugs_145 : decode cX12_tugs 145 = .ok (.aload_n 0, 1) := by decide +kernel
theorem dX12_tugs_146 : decode cX12_tugs 146 = .ok (.iload_n 1, 1) := by decide +kernel
theorem dX12_tugs_147 : decode cX12_tugs 147 = .ok (.iload 6, 2) := by decide +kernel
theorem dX12_tugs_149 : decode cX12_tugs 149 = .ok (.iload 8, 2) := by decide +kernel
theorem dX12_tugs_151 : decode cX12_tugs 151 = .ok (.invokevirtual 230, 3) := by decide +kernel
theorem dX12_tugs_154 : decode cX12_tugs 154 = .ok (.ifCond .eq 33, 3) := by decide +kernel
theorem dX12_tugs_157 : decode cX12_tugs 157 = .ok (.aload_n 0, 1) := by decide +kernel
theorem dX12_tugs_158 : decode cX12_tugs 158 = .ok (.getfield 33, 3) := by decide +kernel
theorem dX12_tugs_161 : decode cX12_tugs 161 = .ok (.iload 8, 2) := by decide +kernel
theorem dX12_tugs_163 : decode cX12_tugs 163 = .ok (.iload 7, 2) := by decide +kernel
theorem dX12_tugs_165 : decode cX12_tugs 165 = .ok (.iastore, 1) := by decide +kernel
theorem dX12_tugs_166 : decode cX12_tugs 166 = .ok (.aload_n 0, 1) := by decide +kernel
theorem dX12_tugs_167 : decode cX12_tugs 167 = .ok (.getfield 39, 3) := by decide +kernel
theorem dX12_tugs_170 : decode cX12_tugs 170 = .ok (.iload 8, 2) := by decide +kernel
theorem dX12_tugs_172 : decode cX12_tugs 172 = .ok (.iload 6, 2) := by decide +kernel
theorem dX12_tugs_174 : decode cX12_tugs 174 = .ok (.iastore, 1) := by decide +kernel
theorem dX12_tugs_175 : decode cX12_tugs 175 = .ok (.aload_n 0, 1) := by decide +kernel
theorem dX12_tugs_176 : decode cX12_tugs 176 = .ok (.getfield 36, 3) := by decide +kernel
theorem dX12_tugs_179 : decode cX12_tugs 179 = .ok (.iload 5, 2) := by decide +kernel
theorem dX12_tugs_181 : decode cX12_tugs 181 = .ok (.iload 8, 2) := by decide +kernel
theorem dX12_tugs_183 : decode cX12_tugs 183 = .ok (.iastore, 1) := by decide +kernel
theorem dX12_tugs_184 : decode cX12_tugs 184 = .ok (.iinc 5 1, 3) := by decide +kernel
theorem dX12_tugs_187 : decode cX12_tugs 187 = .ok (.iinc 8 1, 3) := by decide +kernel
theorem dX12_tugs_190 : decode cX12_tugs 190 = .ok (.goto (-82), 3) := by decide +kernel
theorem dX12_tugs_193 : decode cX12_tugs 193 = .ok (.goto (-142), 3) := by decide +kernel
theorem dX12_tugs_196 : decode cX12_tugs 196 = .ok (.return_, 1) := by decide +kernel
theorem dX12_whoFeels_0 : decode cX12_whoFeels 0 = .ok (.iconst 0, 1) := by decide +kernel
theorem dX12_whoFeels_1 : decode cX12_whoFeels 1 = .ok (.istore_n 1, 1) := by decide +kernel
theorem dX12_whoFeels_2 : decode cX12_whoFeels 2 = .ok (.iconst 0, 1) := by decide +kernel
theorem dX12_whoFeels_3 : decode cX12_whoFeels 3 = .ok (.istore_n 2, 1) := by decide +kernel
theorem dX12_whoFeels_4 : decode cX12_whoFeels 4 = .ok (.iload_n 2, 1) := by decide +kernel
theorem dX12_whoFeels_5 : decode cX12_whoFeels 5 = .ok (.aload_n 0, 1) := by decide +kernel
theorem dX12_whoFeels_6 : decode cX12_whoFeels 6 = .ok (.getfield 7, 3) := by decide +kernel
theorem dX12_whoFeels_9 : decode cX12_whoFeels 9 = .ok (.iconst 0, 1) := by decide +kernel
theorem dX12_whoFeels_10 : decode cX12_whoFeels 10 = .ok (.iaload, 1) := by decide +kernel
theorem dX12_whoFeels_11 : decode cX12_whoFeels 11 = .ok (.if_icmp .ge 28, 3) := by decide +kernel
theorem dX12_whoFeels_14 : decode cX12_whoFeels 14 = .ok (.iload_n 1, 1) := by decide +kernel
theorem dX12_whoFeels_15 : decode cX12_whoFeels 15 = .ok (.aload_n 0, 1) := by decide +kernel
theorem dX12_whoFeels_16 : decode cX12_whoFeels 16 = .ok (.getfield 33, 3) := by decide +kernel
theorem dX12_whoFeels_19 : decode cX12_whoFeels 19 = .ok (.iload_n 2, 1) := by decide +kernel
theorem dX12_whoFeels_20 : decode cX12_whoFeels 20 = .ok (.iaload, 1) := by decide +kernel
theorem dX12_whoFeels_21 : decode cX12_whoFeels 21 = .ok (.ifCond .le 9, 3) := by decide +kernel
theorem dX12_whoFeels_24 : decode cX12_whoFeels 24 = .ok (.iconst 1, 1) := by decide +kernel
theorem dX12_whoFeels_25 : decode cX12_whoFeels 25 = .ok (.iload_n 2, 1) := by decide +kernel
theorem dX12_whoFeels_26 : decode cX12_whoFeels 26 = .ok (.ishl, 1) := by decide +kernel
theorem dX12_whoFeels_27 : decode cX12_whoFeels 27 = .ok (.goto 4, 3) := by decide +kernel
theorem dX12_whoFeels_30 : decode cX12_whoFeels 30 = .ok (.iconst 0, 1) := by decide +kernel
theorem dX12_whoFeels_31 : decode cX12_whoFeels 31 = .ok (.ior, 1) := by decide +kernel
theorem dX12_whoFeels_32 : decode cX12_whoFeels 32 = .ok (.istore_n 1, 1) := by decide +kernel
theorem dX12_whoFeels_33 : decode cX12_whoFeels 33 = .ok (.iinc 2 1, 3) := by decide +kernel
theorem dX12_whoFeels_36 : decode cX12_whoFeels 36 = .ok (.goto (-32), 3) := by decide +kernel
theorem dX12_whoFeels_39 : decode cX12_whoFeels 39 = .ok (.iload_n 1, 1) := by decide +kernel
theorem dX12_whoFeels_40 : decode cX12_whoFeels 40 = .ok (.ireturn, 1) := by decide +kernel
set_option maxRecDepth 20000 in
theorem ggX12_felt_X12_isClerk : GoodIn wsX12_felt wsX12_isClerk := goodIn_r _ [7, 8, 9, 10, 6, 11, 37, 38, 39, 40, 41, 42, 43, 44, 45, 46, 47, 48, 49, 50, 51, 52, 53, 54, 55, 56, 57, 58] (by decide +kernel) (by decide +kernel)
set_option maxRecDepth 20000 in
theorem gX12_felt_X12_isClerk : GoodIn wsX12_felt (wsV RX12 206 RX12 yX12_isClerk wsX12_isClerk) := goodIn_app (goodIn_of _ (by decide +kernel)) ggX12_felt_X12_isClerk
set_option maxRecDepth 20000 in
theorem ggX12_felt_X12_in : GoodIn wsX12_felt wsX12_in := goodIn_r _ [11] (by decide +kernel) (by decide +kernel)
set_option maxRecDepth 20000 in
theorem gX12_felt_X12_in : GoodIn wsX12_felt (va_wsS RX12 64 yX12_in wsX12_in) := goodIn_app (goodIn_of _ (by decide +kernel)) ggX12_felt_X12_in
set_option maxRecDepth 20000 in
theorem ggX12_felt_X12_bad : GoodIn wsX12_felt wsX12_bad := goodIn_r _ [15, 16, 37, 38, 39, 40, 41, 42, 43, 44, 45, 46, 47, 48, 49, 50, 51, 52, 53, 54, 55, 56, 57, 58] (by decide +kernel) (by decide +kernel)
set_option maxRecDepth 20000 in
theorem gX12_felt_X12_bad : GoodIn wsX12_felt (wsV RX12 88 RX12 yX12_bad wsX12_bad) := goodIn_app (goodIn_of _ (by decide +kernel)) ggX12_felt_X12_bad
set_option maxRecDepth 20000 in
theorem ggX12_felt_X12_tugs : GoodIn wsX12_felt wsX12_tugs := goodIn_r _ [20, 2, 21, 22, 8, 23, 24, 6, 25, 26, 27, 28, 29, 30, 31, 32, 37, 38, 39, 40, 41, 42, 43, 44, 45, 46, 47, 48, 49, 50, 51, 52, 53, 54, 55, 56, 57, 58] (by decide +kernel) (by decide +kernel)
set_option maxRecDepth 20000 in
theorem gX12_felt_X12_tugs : GoodIn wsX12_felt (wsV RX12 235 RX12 yX12_tugs wsX12_tugs) := goodIn_app (goodIn_of _ (by decide +kernel)) ggX12_felt_X12_tugs
set_option maxRecDepth 20000 in
theorem ggX12_felt_X12_whoFeels : GoodIn wsX12_felt wsX12_whoFeels := goodIn_r _ [36, 8, 2, 37, 38, 39, 40, 41, 42, 43, 44, 45, 46, 47, 48, 49, 50, 51, 52, 53, 54, 55, 56, 57, 58] (by decide +kernel) (by decide +kernel)
set_option maxRecDepth 20000 in
theorem gX12_felt_X12_whoFeels : GoodIn wsX12_felt (wsV RX12 239 RX12 yX12_whoFeels wsX12_whoFeels) := goodIn_app (goodIn_of _ (by decide +kernel)) ggX12_felt_X12_whoFeels
theorem dX12_felt_0 : decode cX12_felt 0 = .ok (.aload_n 0, 1) := by decide +kernel
theorem dX12_felt_1 : decode cX12_felt 1 = .ok (.iload_n 1, 1) := by decide +kernel
theorem dX12_felt_2 : decode cX12_felt 2 = .ok (.invokevirtual 206, 3) := by decide +kernel
theorem dX12_felt_5 : decode cX12_felt 5 = .ok (.ifCond .eq 28, 3) := by decide +kernel
theorem dX12_felt_8 : decode cX12_felt 8 = .ok (.iload_n 2, 1) := by decide +kernel
theorem dX12_felt_9 : decode cX12_felt 9 = .ok (.i2l, 1) := by decide +kernel
theorem dX12_felt_10 : decode cX12_felt 10 = .ok (.lconst 1, 1) := by decide +kernel
theorem dX12_felt_11 : decode cX12_felt 11 = .ok (.ldc2_w 233, 3) := by decide +kernel
theorem dX12_felt_14 : decode cX12_felt 14 = .ok (.invokestatic 64, 3) := by decide +kernel
theorem dX12_felt_17 : decode cX12_felt 17 = .ok (.ifCond .eq 16, 3) := by decide +kernel
theorem dX12_felt_20 : decode cX12_felt 20 = .ok (.iload_n 3, 1) := by decide +kernel
theorem dX12_felt_21 : decode cX12_felt 21 = .ok (.iconst (-1), 1) := by decide +kernel
theorem dX12_felt_22 : decode cX12_felt 22 = .ok (.if_icmp .eq 18, 3) := by decide +kernel
theorem dX12_felt_25 : decode cX12_felt 25 = .ok (.aload_n 0, 1) := by decide +kernel
theorem dX12_felt_26 : decode cX12_felt 26 = .ok (.iload_n 3, 1) := by decide +kernel
theorem dX12_felt_27 : decode cX12_felt 27 = .ok (.invokevirtual 206, 3) := by decide +kernel
theorem dX12_felt_30 : decode cX12_felt 30 = .ok (.ifCond .ne 10, 3) := by decide +kernel
theorem dX12_felt_33 : decode cX12_felt 33 = .ok (.aload_n 0, 1) := by decide +kernel
theorem dX12_felt_34 : decode cX12_felt 34 = .ok (.bipush (-2), 2) := by decide +kernel
theorem dX12_felt_36 : decode cX12_felt 36 = .ok (.invokevirtual 88, 3) := by decide +kernel
theorem dX12_felt_39 : decode cX12_felt 39 = .ok (.ireturn, 1) := by decide +kernel
theorem dX12_felt_40 : decode cX12_felt 40 = .ok (.aload_n 0, 1) := by decide +kernel
theorem dX12_felt_41 : decode cX12_felt 41 = .ok (.iconst 0, 1) := by decide +kernel
theorem dX12_felt_42 : decode cX12_felt 42 = .ok (.iload_n 1, 1) := by decide +kernel
theorem dX12_felt_43 : decode cX12_felt 43 = .ok (.iload_n 2, 1) := by decide +kernel
theorem dX12_felt_44 : decode cX12_felt 44 = .ok (.invokevirtual 235, 3) := by decide +kernel
theorem dX12_felt_47 : decode cX12_felt 47 = .ok (.iload_n 3, 1) := by decide +kernel
theorem dX12_felt_48 : decode cX12_felt 48 = .ok (.iconst (-1), 1) := by decide +kernel
theorem dX12_felt_49 : decode cX12_felt 49 = .ok (.if_icmp .ne 10, 3) := by decide +kernel
theorem dX12_felt_52 : decode cX12_felt 52 = .ok (.aload_n 0, 1) := by decide +kernel
theorem dX12_felt_53 : decode cX12_felt 53 = .ok (.invokevirtual 239, 3) := by decide +kernel
theorem dX12_felt_56 : decode cX12_felt 56 = .ok (.goto 9, 3) := by decide +kernel
theorem dX12_felt_59 : decode cX12_felt 59 = .ok (.aload_n 0, 1) := by decide +kernel
theorem dX12_felt_60 : decode cX12_felt 60 = .ok (.getfield 33, 3) := by decide +kernel
theorem dX12_felt_63 : decode cX12_felt 63 = .ok (.iload_n 3, 1) := by decide +kernel
theorem dX12_felt_64 : decode cX12_felt 64 = .ok (.iaload, 1) := by decide +kernel
theorem dX12_felt_65 : decode cX12_felt 65 = .ok (.ireturn, 1) := by decide +kernel
set_option maxRecDepth 20000 in
theorem ggX12_least_X12_isClerk : GoodIn wsX12_least wsX12_isClerk := goodIn_r _ [6, 7, 8, 9, 5, 10, 32, 33, 34, 35, 36, 37, 38, 39, 40, 41, 42, 43, 44, 45, 46, 47, 48, 49, 50, 51, 52, 53] (by decide +kernel) (by decide +kernel)
set_option maxRecDepth 20000 in
theorem gX12_least_X12_isClerk : GoodIn wsX12_least (wsV RX12 206 RX12 yX12_isClerk wsX12_isClerk) := goodIn_app (goodIn_of _ (by decide +kernel)) ggX12_least_X12_isClerk
set_option maxRecDepth 20000 in
theorem ggX12_least_X12_bad : GoodIn wsX12_least wsX12_bad := goodIn_r _ [14, 15, 32, 33, 34, 35, 36, 37, 38, 39, 40, 41, 42, 43, 44, 45, 46, 47, 48, 49, 50, 51, 52, 53] (by decide +kernel) (by decide +kernel)
set_option maxRecDepth 20000 in
theorem gX12_least_X12_bad : GoodIn wsX12_least (wsV RX12 88 RX12 yX12_bad wsX12_bad) := goodIn_app (goodIn_of _ (by decide +kernel)) ggX12_least_X12_bad
set_option maxRecDepth 20000 in
theorem ggX12_least_X12_tugs : GoodIn wsX12_least wsX12_tugs := goodIn_r _ [19, 1, 20, 21, 7, 22, 23, 5, 24, 25, 26, 27, 28, 29, 30, 31, 32, 33, 34, 35, 36, 37, 38, 39, 40, 41, 42, 43, 44, 45, 46, 47, 48, 49, 50, 51, 52, 53] (by decide +kernel) (by decide +kernel)
set_option maxRecDepth 20000 in
theorem gX12_least_X12_tugs : GoodIn wsX12_least (wsV RX12 235 RX12 yX12_tugs wsX12_tugs) := goodIn_app (goodIn_of _ (by decide +kernel)) ggX12_least_X12_tugs
theorem dX12_least_0 : decode cX12_least 0 = .ok (.aload_n 0, 1) := by decide +kernel
theorem dX12_least_1 : decode cX12_least 1 = .ok (.iload_n 1, 1) := by decide +kernel
theorem dX12_least_2 : decode cX12_least 2 = .ok (.invokevirtual 206, 3) := by decide +kernel
theorem dX12_least_5 : decode cX12_least 5 = .ok (.ifCond .eq 11, 3) := by decide +kernel
theorem dX12_least_8 : decode cX12_least 8 = .ok (.aload_n 0, 1) := by decide +kernel
theorem dX12_least_9 : decode cX12_least 9 = .ok (.iload_n 2, 1) := by decide +kernel
theorem dX12_least_10 : decode cX12_least 10 = .ok (.invokevirtual 206, 3) := by decide +kernel
theorem dX12_least_13 : decode cX12_least 13 = .ok (.ifCond .ne 10, 3) := by decide +kernel
theorem dX12_least_16 : decode cX12_least 16 = .ok (.aload_n 0, 1) := by decide +kernel
theorem dX12_least_17 : decode cX12_least 17 = .ok (.bipush (-2), 2) := by decide +kernel
theorem dX12_least_19 : decode cX12_least 19 = .ok (.invokevirtual 88, 3) := by decide +kernel
theorem dX12_least_22 : decode cX12_least 22 = .ok (.ireturn, 1) := by decide +kernel
theorem dX12_least_23 : decode cX12_least 23 = .ok (.iconst 1, 1) := by decide +kernel
theorem dX12_least_24 : decode cX12_least 24 = .ok (.istore_n 3, 1) := by decide +kernel
theorem dX12_least_25 : decode cX12_least 25 = .ok (.iload_n 3, 1) := by decide +kernel
theorem dX12_least_26 : decode cX12_least 26 = .ok (.bipush 20, 2) := by decide +kernel
theorem dX12_least_28 : decode cX12_least 28 = .ok (.if_icmp .gt 27, 3) := by decide +kernel
theorem dX12_least_31 : decode cX12_least 31 = .ok (.aload_n 0, 1) := by decide +kernel
theorem dX12_least_32 : decode cX12_least 32 = .ok (.iconst 0, 1) := by decide +kernel
theorem dX12_least_33 : decode cX12_least 33 = .ok (.iload_n 1, 1) := by decide +kernel
theorem dX12_least_34 : decode cX12_least 34 = .ok (.iload_n 3, 1) := by decide +kernel
theorem dX12_least_35 : decode cX12_least 35 = .ok (.invokevirtual 235, 3) := by decide +kernel
theorem dX12_least_38 : decode cX12_least 38 = .ok (.aload_n 0, 1) := by decide +kernel
theorem dX12_least_39 : decode cX12_least 39 = .ok (.getfield 33, 3) := by decide +kernel
theorem dX12_least_42 : decode cX12_least 42 = .ok (.iload_n 2, 1) := by decide +kernel
theorem dX12_least_43 : decode cX12_least 43 = .ok (.iaload, 1) := by decide +kernel
theorem dX12_least_44 : decode cX12_least 44 = .ok (.ifCond .le 5, 3) := by decide +kernel
theorem dX12_least_47 : decode cX12_least 47 = .ok (.iload_n 3, 1) := by decide +kernel
theorem dX12_least_48 : decode cX12_least 48 = .ok (.ireturn, 1) := by decide +kernel
theorem dX12_least_49 : decode cX12_least 49 = .ok (.iinc 3 1, 3) := by decide +kernel
theorem dX12_least_52 : decode cX12_least 52 = .ok (.goto (-27), 3) := by decide +kernel
theorem dX12_least_55 : decode cX12_least 55 = .ok (.iconst (-1), 1) := by decide +kernel
theorem dX12_least_56 : decode cX12_least 56 = .ok (.ireturn, 1) := by decide +kernel
set_option maxRecDepth 20000 in
theorem ggX12_quiet_X12_isClerk : GoodIn wsX12_quiet wsX12_isClerk := goodIn_r _ [7, 1, 8, 9, 6, 10, 36, 37, 38, 39, 40, 41, 42, 43, 44, 45, 46, 47, 48, 49, 50, 51, 52, 53, 54, 55, 56, 57] (by decide +kernel) (by decide +kernel)
set_option maxRecDepth 20000 in
theorem gX12_quiet_X12_isClerk : GoodIn wsX12_quiet (wsV RX12 206 RX12 yX12_isClerk wsX12_isClerk) := goodIn_app (goodIn_of _ (by decide +kernel)) ggX12_quiet_X12_isClerk
set_option maxRecDepth 20000 in
theorem ggX12_quiet_X12_in : GoodIn wsX12_quiet wsX12_in := goodIn_r _ [10] (by decide +kernel) (by decide +kernel)
set_option maxRecDepth 20000 in
theorem gX12_quiet_X12_in : GoodIn wsX12_quiet (va_wsS RX12 64 yX12_in wsX12_in) := goodIn_app (goodIn_of _ (by decide +kernel)) ggX12_quiet_X12_in
set_option maxRecDepth 20000 in
theorem ggX12_quiet_X12_bad : GoodIn wsX12_quiet wsX12_bad := goodIn_r _ [14, 15, 36, 37, 38, 39, 40, 41, 42, 43, 44, 45, 46, 47, 48, 49, 50, 51, 52, 53, 54, 55, 56, 57] (by decide +kernel) (by decide +kernel)
set_option maxRecDepth 20000 in
theorem gX12_quiet_X12_bad : GoodIn wsX12_quiet (wsV RX12 88 RX12 yX12_bad wsX12_bad) := goodIn_app (goodIn_of _ (by decide +kernel)) ggX12_quiet_X12_bad
set_option maxRecDepth 20000 in
theorem ggX12_quiet_X12_tugs : GoodIn wsX12_quiet wsX12_tugs := goodIn_r _ [19, 2, 20, 21, 1, 22, 23, 6, 24, 25, 26, 27, 28, 29, 30, 31, 36, 37, 38, 39, 40, 41, 42, 43, 44, 45, 46, 47, 48, 49, 50, 51, 52, 53, 54, 55, 56, 57] (by decide +kernel) (by decide +kernel)
set_option maxRecDepth 20000 in
theorem gX12_quiet_X12_tugs : GoodIn wsX12_quiet (wsV RX12 235 RX12 yX12_tugs wsX12_tugs) := goodIn_app (goodIn_of _ (by decide +kernel)) ggX12_quiet_X12_tugs
set_option maxRecDepth 20000 in
theorem ggX12_quiet_X12_whoFeels : GoodIn wsX12_quiet wsX12_whoFeels := goodIn_r _ [35, 1, 2, 36, 37, 38, 39, 40, 41, 42, 43, 44, 45, 46, 47, 48, 49, 50, 51, 52, 53, 54, 55, 56, 57] (by decide +kernel) (by decide +kernel)
set_option maxRecDepth 20000 in
theorem gX12_quiet_X12_whoFeels : GoodIn wsX12_quiet (wsV RX12 239 RX12 yX12_whoFeels wsX12_whoFeels) := goodIn_app (goodIn_of _ (by decide +kernel)) ggX12_quiet_X12_whoFeels
theorem dX12_quiet_0 : decode cX12_quiet 0 = .ok (.aload_n 0, 1) := by decide +kernel
theorem dX12_quiet_1 : decode cX12_quiet 1 = .ok (.iload_n 1, 1) := by decide +kernel
theorem dX12_quiet_2 : decode cX12_quiet 2 = .ok (.invokevirtual 206, 3) := by decide +kernel
theorem dX12_quiet_5 : decode cX12_quiet 5 = .ok (.ifCond .eq 23, 3) := by decide +kernel
theorem dX12_quiet_8 : decode cX12_quiet 8 = .ok (.iload_n 2, 1) := by decide +kernel
theorem dX12_quiet_9 : decode cX12_quiet 9 = .ok (.i2l, 1) := by decide +kernel
theorem dX12_quiet_10 : decode cX12_quiet 10 = .ok (.lconst 0, 1) := by decide +kernel
theorem dX12_quiet_11 : decode cX12_quiet 11 = .ok (.iconst 1, 1) := by decide +kernel
theorem dX12_quiet_12 : decode cX12_quiet 12 = .ok (.aload_n 0, 1) := by decide +kernel
theorem dX12_quiet_13 : decode cX12_quiet 13 = .ok (.getfield 7, 3) := by decide +kernel
theorem dX12_quiet_16 : decode cX12_quiet 16 = .ok (.iconst 0, 1) := by decide +kernel
theorem dX12_quiet_17 : decode cX12_quiet 17 = .ok (.iaload, 1) := by decide +kernel
theorem dX12_quiet_18 : decode cX12_quiet 18 = .ok (.ishl, 1) := by decide +kernel
theorem dX12_quiet_19 : decode cX12_quiet 19 = .ok (.iconst 1, 1) := by decide +kernel
theorem dX12_quiet_20 : decode cX12_quiet 20 = .ok (.isub, 1) := by decide +kernel
theorem dX12_quiet_21 : decode cX12_quiet 21 = .ok (.i2l, 1) := by decide +kernel
theorem dX12_quiet_22 : decode cX12_quiet 22 = .ok (.invokestatic 64, 3) := by decide +kernel
theorem dX12_quiet_25 : decode cX12_quiet 25 = .ok (.ifCond .ne 10, 3) := by decide +kernel
theorem dX12_quiet_28 : decode cX12_quiet 28 = .ok (.aload_n 0, 1) := by decide +kernel
theorem dX12_quiet_29 : decode cX12_quiet 29 = .ok (.bipush (-2), 2) := by decide +kernel
theorem dX12_quiet_31 : decode cX12_quiet 31 = .ok (.invokevirtual 88, 3) := by decide +kernel
theorem dX12_quiet_34 : decode cX12_quiet 34 = .ok (.ireturn, 1) := by decide +kernel
theorem dX12_quiet_35 : decode cX12_quiet 35 = .ok (.iconst 1, 1) := by decide +kernel
theorem dX12_quiet_36 : decode cX12_quiet 36 = .ok (.istore_n 3, 1) := by decide +kernel
theorem dX12_quiet_37 : decode cX12_quiet 37 = .ok (.iload_n 3, 1) := by decide +kernel
theorem dX12_quiet_38 : decode cX12_quiet 38 = .ok (.bipush 20, 2) := by decide +kernel
theorem dX12_quiet_40 : decode cX12_quiet 40 = .ok (.if_icmp .gt 63, 3) := by decide +kernel
theorem dX12_quiet_43 : decode cX12_quiet 43 = .ok (.iconst 0, 1) := by decide +kernel
theorem dX12_quiet_44 : decode cX12_quiet 44 = .ok (.istore 4, 2) := by decide +kernel
theorem dX12_quiet_46 : decode cX12_quiet 46 = .ok (.iload 4, 2) := by decide +kernel
theorem dX12_quiet_48 : decode cX12_quiet 48 = .ok (.aload_n 0, 1) := by decide +kernel
theorem dX12_quiet_49 : decode cX12_quiet 49 = .ok (.getfield 7, 3) := by decide +kernel
theorem dX12_quiet_52 : decode cX12_quiet 52 = .ok (.iconst 0, 1) := by decide +kernel
theorem dX12_quiet_53 : decode cX12_quiet 53 = .ok (.iaload, 1) := by decide +kernel
theorem dX12_quiet_54 : decode cX12_quiet 54 = .ok (.if_icmp .ge 43, 3) := by decide +kernel
theorem dX12_quiet_57 : decode cX12_quiet 57 = .ok (.aload_n 0, 1) := by decide +kernel
theorem dX12_quiet_58 : decode cX12_quiet 58 = .ok (.iconst 0, 1) := by decide +kernel
theorem dX12_quiet_59 : decode cX12_quiet 59 = .ok (.iload 4, 2) := by decide +kernel
theorem dX12_quiet_61 : decode cX12_quiet 61 = .ok (.iload_n 3, 1) := by decide +kernel
theorem dX12_quiet_62 : decode cX12_quiet 62 = .ok (.invokevirtual 235, 3) := by decide +kernel
theorem dX12_quiet_65 : decode cX12_quiet 65 = .ok (.aload_n 0, 1) := by decide +kernel
theorem dX12_quiet_66 : decode cX12_quiet 66 = .ok (.getfield 33, 3) := by decide +kernel
theorem dX12_quiet_69 : decode cX12_quiet 69 = .ok (.iload_n 1, 1) := by decide +kernel
theorem dX12_quiet_70 : decode cX12_quiet 70 = .ok (.iaload, 1) := by decide +kernel
theorem dX12_quiet_71 : decode cX12_quiet 71 = .ok (.ifCond .le 20, 3) := by decide +kernel
theorem dX12_quiet_74 : decode cX12_quiet 74 = .ok (.aload_n 0, 1) := by decide +kernel
theorem dX12_quiet_75 : decode cX12_quiet 75 = .ok (.invokevirtual 239, 3) := by decide +kernel
theorem dX12_quiet_78 : decode cX12_quiet 78 = .ok (.iload_n 2, 1) := by decide +kernel
theorem dX12_quiet_79 : decode cX12_quiet 79 = .ok (.iand, 1) := by decide +kernel
theorem dX12_quiet_80 : decode cX12_quiet 80 = .ok (.ifCond .ne 11, 3) := by decide +kernel
theorem dX12_quiet_83 : decode cX12_quiet 83 = .ok (.bipush 100, 2) := by decide +kernel
theorem dX12_quiet_85 : decode cX12_quiet 85 = .ok (.iload_n 3, 1) := by decide +kernel
theorem dX12_quiet_86 : decode cX12_quiet 86 = .ok (.imul, 1) := by decide +kernel
theorem dX12_quiet_87 : decode cX12_quiet 87 = .ok (.iload 4, 2) := by decide +kernel
theorem dX12_quiet_89 : decode cX12_quiet 89 = .ok (.iadd, 1) := by decide +kernel
theorem dX12_quiet_90 : decode cX12_quiet 90 = .ok (.ireturn, 1) := by decide +kernel
theorem dX12_quiet_91 : decode cX12_quiet 91 = .ok (.iinc 4 1, 3) := by decide +kernel
theorem dX12_quiet_94 : decode cX12_quiet 94 = .ok (.goto (-48), 3) := by decide +kernel
theorem dX12_quiet_97 : decode cX12_quiet 97 = .ok (.iinc 3 1, 3) := by decide +kernel
theorem dX12_quiet_100 : decode cX12_quiet 100 = .ok (.goto (-63), 3) := by decide +kernel
theorem dX12_quiet_103 : decode cX12_quiet 103 = .ok (.iconst (-1), 1) := by decide +kernel
theorem dX12_quiet_104 : decode cX12_quiet 104 = .ok (.ireturn, 1) := by decide +kernel
set_option maxRecDepth 20000 in
theorem ggX12_longFrom_X12_areHooked : GoodIn wsX12_longFrom wsX12_areHooked := goodIn_r _ [9, 4, 10, 11, 12, 13, 14, 15, 16, 17, 18, 19, 20, 21, 22, 23, 24, 25, 26, 27, 28, 29, 30, 31] (by decide +kernel) (by decide +kernel)
set_option maxRecDepth 20000 in
theorem gX12_longFrom_X12_areHooked : GoodIn wsX12_longFrom (wsV RX12 230 RX12 yX12_areHooked wsX12_areHooked) := goodIn_app (goodIn_of _ (by decide +kernel)) ggX12_longFrom_X12_areHooked
theorem dX12_longFrom_0 : decode cX12_longFrom 0 = .ok (.iconst 1, 1) := by decide +kernel
theorem dX12_longFrom_1 : decode cX12_longFrom 1 = .ok (.istore_n 2, 1) := by decide +kernel
theorem dX12_longFrom_2 : decode cX12_longFrom 2 = .ok (.iconst 0, 1) := by decide +kernel
theorem dX12_longFrom_3 : decode cX12_longFrom 3 = .ok (.istore_n 3, 1) := by decide +kernel
theorem dX12_longFrom_4 : decode cX12_longFrom 4 = .ok (.iconst 1, 1) := by decide +kernel
theorem dX12_longFrom_5 : decode cX12_longFrom 5 = .ok (.istore 4, 2) := by decide +kernel
theorem dX12_longFrom_7 : decode cX12_longFrom 7 = .ok (.aload_n 0, 1) := by decide +kernel
theorem dX12_longFrom_8 : decode cX12_longFrom 8 = .ok (.getfield 36, 3) := by decide +kernel
theorem dX12_longFrom_11 : decode cX12_longFrom 11 = .ok (.iconst 0, 1) := by decide +kernel
theorem dX12_longFrom_12 : decode cX12_longFrom 12 = .ok (.iload_n 1, 1) := by decide +kernel
theorem dX12_longFrom_13 : decode cX12_longFrom 13 = .ok (.iastore, 1) := by decide +kernel
theorem dX12_longFrom_14 : decode cX12_longFrom 14 = .ok (.aload_n 0, 1) := by decide +kernel
theorem dX12_longFrom_15 : decode cX12_longFrom 15 = .ok (.getfield 39, 3) := by decide +kernel
theorem dX12_longFrom_18 : decode cX12_longFrom 18 = .ok (.iload_n 1, 1) := by decide +kernel
theorem dX12_longFrom_19 : decode cX12_longFrom 19 = .ok (.iconst (-1), 1) := by decide +kernel
theorem dX12_longFrom_20 : decode cX12_longFrom 20 = .ok (.iastore, 1) := by decide +kernel
theorem dX12_longFrom_21 : decode cX12_longFrom 21 = .ok (.aload_n 0, 1) := by decide +kernel
theorem dX12_longFrom_22 : decode cX12_longFrom 22 = .ok (.getfield 42, 3) := by decide +kernel
theorem dX12_longFrom_25 : decode cX12_longFrom 25 = .ok (.iload_n 1, 1) := by decide +kernel
theorem dX12_longFrom_26 : decode cX12_longFrom 26 = .ok (.iconst 1, 1) := by decide +kernel
theorem dX12_longFrom_27 : decode cX12_longFrom 27 = .ok (.iastore, 1) := by decide +kernel
theorem dX12_longFrom_28 : decode cX12_longFrom 28 = .ok (.iload_n 3, 1) := by decide +kernel
theorem dX12_longFrom_29 : decode cX12_longFrom 29 = .ok (.iload 4, 2) := by decide +kernel
theorem dX12_longFrom_31 : decode cX12_longFrom 31 = .ok (.if_icmp .ge 128, 3) := by decide +kernel
theorem dX12_longFrom_34 : decode cX12_longFrom 34 = .ok (.aload_n 0, 1) := by decide +kernel
theorem dX12_longFrom_35 : decode cX12_longFrom 35 = .ok (.getfield 36, 3) := by decide +kernel
theorem dX12_longFrom_38 : decode cX12_longFrom 38 = .ok (.iload_n 3, 1) := by decide +kernel
theorem dX12_longFrom_39 : decode cX12_longFrom 39 = .ok (.iaload, 1) := by decide +kernel
theorem dX12_longFrom_40 : decode cX12_longFrom 40 = .ok (.istore 5, 2) := by decide +kernel
theorem dX12_longFrom_42 : decode cX12_longFrom 42 = .ok (.iinc 3 1, 3) := by decide +kernel
theorem dX12_longFrom_45 : decode cX12_longFrom 45 = .ok (.aload_n 0, 1) := by decide +kernel
theorem dX12_longFrom_46 : decode cX12_longFrom 46 = .ok (.getfield 42, 3) := by decide +kernel
theorem dX12_longFrom_49 : decode cX12_longFrom 49 = .ok (.iload 5, 2) := by decide +kernel
theorem dX12_longFrom_51 : decode cX12_longFrom 51 = .ok (.iaload, 1) := by decide +kernel
theorem dX12_longFrom_52 : decode cX12_longFrom 52 = .ok (.iload_n 2, 1) := by decide +kernel
theorem dX12_longFrom_53 : decode cX12_longFrom 53 = .ok (.if_icmp .le 13, 3) := by decide +kernel
theorem dX12_longFrom_56 : decode cX12_longFrom 56 = .ok (.aload_n 0, 1) := by decide +kernel
theorem dX12_longFrom_57 : decode cX12_longFrom 57 = .ok (.getfield 42, 3) := by decide +kernel
theorem dX12_longFrom_60 : decode cX12_longFrom 60 = .ok (.iload 5, 2) := by decide +kernel
theorem dX12_longFrom_62 : decode cX12_longFrom 62 = .ok (.iaload, 1) := by decide +kernel
theorem dX12_longFrom_63 : decode cX12_longFrom 63 = .ok (.goto 4, 3) := by decide +kernel
theorem dX12_longFrom_66 : decode cX12_longFrom 66 = .ok (.iload_n 2, 1) := by decide +kernel
theorem dX12_longFrom_67 : decode cX12_longFrom 67 = .ok (.istore_n 2, 1) := by decide +kernel
theorem dX12_longFrom_68 : decode cX12_longFrom 68 = .ok (.iconst 0, 1) := by decide +kernel
