set_option maxRecDepth 20000 in
theorem ggX11_init_X6_init : GoodIn wsX11_init wsX6_init := goodIn_r _ [39, 40, 2, 3, 41, 34, 35, 42, 43, 44, 45, 46, 47, 48, 49, 50, 51, 52, 53, 19, 54, 55, 56, 57, 124, 125, 126, 127, 88, 89, 90, 91, 92, 93, 94] (by decide +kernel) (by decide +kernel)
set_option maxRecDepth 20000 in
theorem gX11_init_X6_init : GoodIn wsX11_init (wsX6_init) := ggX11_init_X6_init
set_option maxRecDepth 20000 in
theorem ggX11_init_X9_init : GoodIn wsX11_init wsX9_init := goodIn_r _ [60, 61, 2, 3, 19, 62, 108, 109, 110, 111, 112, 113, 114, 115] (by decide +kernel) (by decide +kernel)
set_option maxRecDepth 20000 in
theorem gX11_init_X9_init : GoodIn wsX11_init (wsX9_init) := ggX11_init_X9_init
set_option maxRecDepth 20000 in
theorem ggX11_init_X2_init : GoodIn wsX11_init wsX2_init := goodIn_r _ [65, 66, 2, 3, 67, 68, 116, 117] (by decide +kernel) (by decide +kernel)
set_option maxRecDepth 20000 in
theorem gX11_init_X2_init : GoodIn wsX11_init (wsX2_init) := ggX11_init_X2_init
set_option maxRecDepth 20000 in
theorem ggX11_init_X10_init : GoodIn wsX11_init wsX10_init := goodIn_r _ [71, 72, 2, 3, 19, 73, 118] (by decide +kernel) (by decide +kernel)
set_option maxRecDepth 20000 in
theorem gX11_init_X10_init : GoodIn wsX11_init (wsX10_init) := ggX11_init_X10_init
set_option maxRecDepth 20000 in
theorem ggX11_init_X3_init : GoodIn wsX11_init wsX3_init := goodIn_r _ [76, 77, 2, 3, 19, 78, 119] (by decide +kernel) (by decide +kernel)
set_option maxRecDepth 20000 in
theorem gX11_init_X3_init : GoodIn wsX11_init (wsX3_init) := ggX11_init_X3_init
set_option maxRecDepth 20000 in
theorem ggX11_init_X8_init : GoodIn wsX11_init wsX8_init := goodIn_r _ [81, 82, 2, 3, 19, 83, 84, 85, 86, 120, 121, 122, 123] (by decide +kernel) (by decide +kernel)
set_option maxRecDepth 20000 in
theorem gX11_init_X8_init : GoodIn wsX11_init (wsX8_init) := ggX11_init_X8_init
set_option maxRecDepth 20000 in
theorem ggX11_init_X7_init : GoodIn wsX11_init wsX7_init := goodIn_r _ [50, 51, 2, 3, 52, 53, 19, 54, 55, 56, 57, 124, 125, 126, 127] (by decide +kernel) (by decide +kernel)
set_option maxRecDepth 20000 in
theorem gX11_init_X7_init : GoodIn wsX11_init (wsX7_init) := ggX11_init_X7_init
theorem dX11_init_0 : decode cX11_init 0 = .ok (.aload_n 0, 1) := by decide +kernel
theorem dX11_init_1 : decode cX11_init 1 = .ok (.invokespecial 1, 3) := by decide +kernel
theorem dX11_init_4 : decode cX11_init 4 = .ok (.aload_n 0, 1) := by decide +kernel
theorem dX11_init_5 : decode cX11_init 5 = .ok (.new 7, 3) := by decide +kernel
theorem dX11_init_8 : decode cX11_init 8 = .ok (.dup, 1) := by decide +kernel
theorem dX11_init_9 : decode cX11_init 9 = .ok (.invokespecial 9, 3) := by decide +kernel
theorem dX11_init_12 : decode cX11_init 12 = .ok (.putfield 10, 3) := by decide +kernel
theorem dX11_init_15 : decode cX11_init 15 = .ok (.aload_n 0, 1) := by decide +kernel
theorem dX11_init_16 : decode cX11_init 16 = .ok (.new 7, 3) := by decide +kernel
theorem dX11_init_19 : decode cX11_init 19 = .ok (.dup, 1) := by decide +kernel
theorem dX11_init_20 : decode cX11_init 20 = .ok (.invokespecial 9, 3) := by decide +kernel
theorem dX11_init_23 : decode cX11_init 23 = .ok (.putfield 16, 3) := by decide +kernel
theorem dX11_init_26 : decode cX11_init 26 = .ok (.aload_n 0, 1) := by decide +kernel
theorem dX11_init_27 : decode cX11_init 27 = .ok (.new 7, 3) := by decide +kernel
theorem dX11_init_30 : decode cX11_init 30 = .ok (.dup, 1) := by decide +kernel
theorem dX11_init_31 : decode cX11_init 31 = .ok (.invokespecial 9, 3) := by decide +kernel
theorem dX11_init_34 : decode cX11_init 34 = .ok (.putfield 19, 3) := by decide +kernel
theorem dX11_init_37 : decode cX11_init 37 = .ok (.aload_n 0, 1) := by decide +kernel
theorem dX11_init_38 : decode cX11_init 38 = .ok (.new 7, 3) := by decide +kernel
theorem dX11_init_41 : decode cX11_init 41 = .ok (.dup, 1) := by decide +kernel
theorem dX11_init_42 : decode cX11_init 42 = .ok (.invokespecial 9, 3) := by decide +kernel
theorem dX11_init_45 : decode cX11_init 45 = .ok (.putfield 22, 3) := by decide +kernel
theorem dX11_init_48 : decode cX11_init 48 = .ok (.aload_n 0, 1) := by decide +kernel
theorem dX11_init_49 : decode cX11_init 49 = .ok (.new 25, 3) := by decide +kernel
theorem dX11_init_52 : decode cX11_init 52 = .ok (.dup, 1) := by decide +kernel
theorem dX11_init_53 : decode cX11_init 53 = .ok (.invokespecial 27, 3) := by decide +kernel
theorem dX11_init_56 : decode cX11_init 56 = .ok (.putfield 28, 3) := by decide +kernel
theorem dX11_init_59 : decode cX11_init 59 = .ok (.aload_n 0, 1) := by decide +kernel
theorem dX11_init_60 : decode cX11_init 60 = .ok (.new 32, 3) := by decide +kernel
theorem dX11_init_63 : decode cX11_init 63 = .ok (.dup, 1) := by decide +kernel
theorem dX11_init_64 : decode cX11_init 64 = .ok (.invokespecial 34, 3) := by decide +kernel
theorem dX11_init_67 : decode cX11_init 67 = .ok (.putfield 35, 3) := by decide +kernel
theorem dX11_init_70 : decode cX11_init 70 = .ok (.aload_n 0, 1) := by decide +kernel
theorem dX11_init_71 : decode cX11_init 71 = .ok (.iconst 3, 1) := by decide +kernel
theorem dX11_init_72 : decode cX11_init 72 = .ok (.newarray .int, 2) := by decide +kernel
theorem dX11_init_74 : decode cX11_init 74 = .ok (.putfield 39, 3) := by decide +kernel
theorem dX11_init_77 : decode cX11_init 77 = .ok (.aload_n 0, 1) := by decide +kernel
theorem dX11_init_78 : decode cX11_init 78 = .ok (.new 43, 3) := by decide +kernel
theorem dX11_init_81 : decode cX11_init 81 = .ok (.dup, 1) := by decide +kernel
theorem dX11_init_82 : decode cX11_init 82 = .ok (.invokespecial 45, 3) := by decide +kernel
theorem dX11_init_85 : decode cX11_init 85 = .ok (.putfield 46, 3) := by decide +kernel
theorem dX11_init_88 : decode cX11_init 88 = .ok (.aload_n 0, 1) := by decide +kernel
theorem dX11_init_89 : decode cX11_init 89 = .ok (.new 50, 3) := by decide +kernel
theorem dX11_init_92 : decode cX11_init 92 = .ok (.dup, 1) := by decide +kernel
theorem dX11_init_93 : decode cX11_init 93 = .ok (.invokespecial 52, 3) := by decide +kernel
theorem dX11_init_96 : decode cX11_init 96 = .ok (.putfield 53, 3) := by decide +kernel
theorem dX11_init_99 : decode cX11_init 99 = .ok (.aload_n 0, 1) := by decide +kernel
theorem dX11_init_100 : decode cX11_init 100 = .ok (.new 57, 3) := by decide +kernel
theorem dX11_init_103 : decode cX11_init 103 = .ok (.dup, 1) := by decide +kernel
theorem dX11_init_104 : decode cX11_init 104 = .ok (.invokespecial 59, 3) := by decide +kernel
theorem dX11_init_107 : decode cX11_init 107 = .ok (.putfield 60, 3) := by decide +kernel
theorem dX11_init_110 : decode cX11_init 110 = .ok (.aload_n 0, 1) := by decide +kernel
theorem dX11_init_111 : decode cX11_init 111 = .ok (.new 64, 3) := by decide +kernel
theorem dX11_init_114 : decode cX11_init 114 = .ok (.dup, 1) := by decide +kernel
theorem dX11_init_115 : decode cX11_init 115 = .ok (.bipush 7, 2) := by decide +kernel
theorem dX11_init_117 : decode cX11_init 117 = .ok (.iconst 5, 1) := by decide +kernel
theorem dX11_init_118 : decode cX11_init 118 = .ok (.invokespecial 66, 3) := by decide +kernel
theorem dX11_init_121 : decode cX11_init 121 = .ok (.putfield 69, 3) := by decide +kernel
theorem dX11_init_124 : decode cX11_init 124 = .ok (.return_, 1) := by decide +kernel
set_option maxRecDepth 20000 in
theorem ggX11_office_X7_size : GoodIn wsX11_office wsX7_size := goodIn_r _ [6, 7, 44, 45, 46, 47] (by decide +kernel) (by decide +kernel)
set_option maxRecDepth 20000 in
theorem gX11_office_X7_size : GoodIn wsX11_office (wsV RX11 76 RX7 yX7_size wsX7_size) := goodIn_app (goodIn_of _ (by decide +kernel)) ggX11_office_X7_size
set_option maxRecDepth 20000 in
theorem ggX11_office_X6_empty : GoodIn wsX11_office wsX6_empty := goodIn_r _ [12, 13, 14, 15, 16, 17, 18, 19, 20, 21, 22, 5, 23, 7, 37, 38, 39, 40, 41, 42, 43, 44, 45, 46, 47] (by decide +kernel) (by decide +kernel)
set_option maxRecDepth 20000 in
theorem gX11_office_X6_empty : GoodIn wsX11_office (wsV RX11 80 RX6 yX6_empty wsX6_empty) := goodIn_app (goodIn_of _ (by decide +kernel)) ggX11_office_X6_empty
theorem dX11_office_0 : decode cX11_office 0 = .ok (.aload_n 0, 1) := by decide +kernel
theorem dX11_office_1 : decode cX11_office 1 = .ok (.getfield 10, 3) := by decide +kernel
theorem dX11_office_4 : decode cX11_office 4 = .ok (.getfield 73, 3) := by decide +kernel
theorem dX11_office_7 : decode cX11_office 7 = .ok (.invokevirtual 76, 3) := by decide +kernel
theorem dX11_office_10 : decode cX11_office 10 = .ok (.istore_n 1, 1) := by decide +kernel
theorem dX11_office_11 : decode cX11_office 11 = .ok (.aload_n 0, 1) := by decide +kernel
theorem dX11_office_12 : decode cX11_office 12 = .ok (.getfield 10, 3) := by decide +kernel
theorem dX11_office_15 : decode cX11_office 15 = .ok (.invokevirtual 80, 3) := by decide +kernel
theorem dX11_office_18 : decode cX11_office 18 = .ok (.iload_n 1, 1) := by decide +kernel
theorem dX11_office_19 : decode cX11_office 19 = .ok (.ireturn, 1) := by decide +kernel
set_option maxRecDepth 20000 in
theorem ggX11_clerk_X11_isKind : GoodIn wsX11_clerk wsX11_isKind := goodIn_r _ [5, 6, 7, 4, 8] (by decide +kernel) (by decide +kernel)
set_option maxRecDepth 20000 in
theorem gX11_clerk_X11_isKind : GoodIn wsX11_clerk (va_wsS RX11 83 yX11_isKind wsX11_isKind) := goodIn_app (goodIn_of _ (by decide +kernel)) ggX11_clerk_X11_isKind
set_option maxRecDepth 20000 in
theorem ggX11_clerk_X11_isDesk : GoodIn wsX11_clerk wsX11_isDesk := goodIn_r _ [11, 6, 7, 4, 8] (by decide +kernel) (by decide +kernel)
set_option maxRecDepth 20000 in
theorem gX11_clerk_X11_isDesk : GoodIn wsX11_clerk (va_wsS RX11 87 yX11_isDesk wsX11_isDesk) := goodIn_app (goodIn_of _ (by decide +kernel)) ggX11_clerk_X11_isDesk
set_option maxRecDepth 20000 in
theorem ggX11_clerk_X11_within : GoodIn wsX11_clerk wsX11_within := goodIn_r _ [8] (by decide +kernel) (by decide +kernel)
set_option maxRecDepth 20000 in
theorem gX11_clerk_X11_within : GoodIn wsX11_clerk (va_wsS RX11 90 yX11_within wsX11_within) := goodIn_app (goodIn_of _ (by decide +kernel)) ggX11_clerk_X11_within
set_option maxRecDepth 20000 in
theorem ggX11_clerk_X11_refuse : GoodIn wsX11_clerk wsX11_refuse := goodIn_r _ [15, 16, 17, 18, 4, 19, 20, 21, 22, 52, 53, 54, 55, 56, 57, 58, 59, 60, 61, 62, 63, 64] (by decide +kernel) (by decide +kernel)
set_option maxRecDepth 20000 in
theorem gX11_clerk_X11_refuse : GoodIn wsX11_clerk (wsV RX11 94 RX11 yX11_refuse wsX11_refuse) := goodIn_app (goodIn_of _ (by decide +kernel)) ggX11_clerk_X11_refuse
set_option maxRecDepth 20000 in
theorem ggX11_clerk_X7_isFull : GoodIn wsX11_clerk wsX7_isFull := goodIn_r _ [27, 28, 29, 72, 73, 74, 75] (by decide +kernel) (by decide +kernel)
set_option maxRecDepth 20000 in
theorem gX11_clerk_X7_isFull : GoodIn wsX11_clerk (wsV RX11 98 RX7 yX7_isFull wsX7_isFull) := goodIn_app (goodIn_of _ (by decide +kernel)) ggX11_clerk_X7_isFull
set_option maxRecDepth 20000 in
theorem ggX11_clerk_X6_addClerk : GoodIn wsX11_clerk wsX6_addClerk := goodIn_r _ [34, 35, 36, 37, 38, 39, 26, 40, 28, 41, 42, 43, 44, 45, 24, 25, 27, 29, 46, 47, 48, 49, 50, 51, 65, 66, 67, 68, 69, 70, 71, 72, 73, 74, 75] (by decide +kernel) (by decide +kernel)
set_option maxRecDepth 20000 in
theorem gX11_clerk_X6_addClerk : GoodIn wsX11_clerk (wsV RX11 102 RX6 yX6_addClerk wsX6_addClerk) := goodIn_app (goodIn_of _ (by decide +kernel)) ggX11_clerk_X6_addClerk
theorem dX11_clerk_0 : decode cX11_clerk 0 = .ok (.iload_n 1, 1) := by decide +kernel
theorem dX11_clerk_1 : decode cX11_clerk 1 = .ok (.invokestatic 83, 3) := by decide +kernel
theorem dX11_clerk_4 : decode cX11_clerk 4 = .ok (.ifCond .eq 20, 3) := by decide +kernel
theorem dX11_clerk_7 : decode cX11_clerk 7 = .ok (.iload_n 2, 1) := by decide +kernel
theorem dX11_clerk_8 : decode cX11_clerk 8 = .ok (.invokestatic 87, 3) := by decide +kernel
theorem dX11_clerk_11 : decode cX11_clerk 11 = .ok (.ifCond .eq 13, 3) := by decide +kernel
theorem dX11_clerk_14 : decode cX11_clerk 14 = .ok (.iload_n 3, 1) := by decide +kernel
theorem dX11_clerk_15 : decode cX11_clerk 15 = .ok (.iconst 1, 1) := by decide +kernel
theorem dX11_clerk_16 : decode cX11_clerk 16 = .ok (.bipush 9, 2) := by decide +kernel
theorem dX11_clerk_18 : decode cX11_clerk 18 = .ok (.invokestatic 90, 3) := by decide +kernel
theorem dX11_clerk_21 : decode cX11_clerk 21 = .ok (.ifCond .ne 10, 3) := by decide +kernel
theorem dX11_clerk_24 : decode cX11_clerk 24 = .ok (.aload_n 0, 1) := by decide +kernel
theorem dX11_clerk_25 : decode cX11_clerk 25 = .ok (.bipush (-2), 2) := by decide +kernel
theorem dX11_clerk_27 : decode cX11_clerk 27 = .ok (.invokevirtual 94, 3) := by decide +kernel
theorem dX11_clerk_30 : decode cX11_clerk 30 = .ok (.ireturn, 1) := by decide +kernel
theorem dX11_clerk_31 : decode cX11_clerk 31 = .ok (.aload_n 0, 1) := by decide +kernel
theorem dX11_clerk_32 : decode cX11_clerk 32 = .ok (.getfield 10, 3) := by decide +kernel
theorem dX11_clerk_35 : decode cX11_clerk 35 = .ok (.getfield 73, 3) := by decide +kernel
theorem dX11_clerk_38 : decode cX11_clerk 38 = .ok (.invokevirtual 98, 3) := by decide +kernel
theorem dX11_clerk_41 : decode cX11_clerk 41 = .ok (.ifCond .eq 12, 3) := by decide +kernel
theorem dX11_clerk_44 : decode cX11_clerk 44 = .ok (.aload_n 0, 1) := by decide +kernel
theorem dX11_clerk_45 : decode cX11_clerk 45 = .ok (.bipush (-4), 2) := by decide +kernel
theorem dX11_clerk_47 : decode cX11_clerk 47 = .ok (.invokevirtual 94, 3) := by decide +kernel
theorem dX11_clerk_50 : decode cX11_clerk 50 = .ok (.goto 13, 3) := by decide +kernel
theorem dX11_clerk_53 : decode cX11_clerk 53 = .ok (.aload_n 0, 1) := by decide +kernel
theorem dX11_clerk_54 : decode cX11_clerk 54 = .ok (.getfield 10, 3) := by decide +kernel
theorem dX11_clerk_57 : decode cX11_clerk 57 = .ok (.iload_n 1, 1) := by decide +kernel
theorem dX11_clerk_58 : decode cX11_clerk 58 = .ok (.iload_n 2, 1) := by decide +kernel
theorem dX11_clerk_59 : decode cX11_clerk 59 = .ok (.iload_n 3, 1) := by decide +kernel
theorem dX11_clerk_60 : decode cX11_clerk 60 = .ok (.invokevirtual 102, 3) := by decide +kernel
theorem dX11_clerk_63 : decode cX11_clerk 63 = .ok (.ireturn, 1) := by decide +kernel
set_option maxRecDepth 20000 in
theorem ggX11_magnet_X11_isKind : GoodIn wsX11_magnet wsX11_isKind := goodIn_r _ [5, 6, 7, 4, 8] (by decide +kernel) (by decide +kernel)
set_option maxRecDepth 20000 in
theorem gX11_magnet_X11_isKind : GoodIn wsX11_magnet (va_wsS RX11 83 yX11_isKind wsX11_isKind) := goodIn_app (goodIn_of _ (by decide +kernel)) ggX11_magnet_X11_isKind
set_option maxRecDepth 20000 in
theorem ggX11_magnet_X11_isDesk : GoodIn wsX11_magnet wsX11_isDesk := goodIn_r _ [11, 6, 7, 4, 8] (by decide +kernel) (by decide +kernel)
set_option maxRecDepth 20000 in
theorem gX11_magnet_X11_isDesk : GoodIn wsX11_magnet (va_wsS RX11 87 yX11_isDesk wsX11_isDesk) := goodIn_app (goodIn_of _ (by decide +kernel)) ggX11_magnet_X11_isDesk
set_option maxRecDepth 20000 in
theorem ggX11_magnet_X11_within : GoodIn wsX11_magnet wsX11_within := goodIn_r _ [8] (by decide +kernel) (by decide +kernel)
set_option maxRecDepth 20000 in
theorem gX11_magnet_X11_within : GoodIn wsX11_magnet (va_wsS RX11 90 yX11_within wsX11_within) := goodIn_app (goodIn_of _ (by decide +kernel)) ggX11_magnet_X11_within
set_option maxRecDepth 20000 in
theorem ggX11_magnet_X11_refuse : GoodIn wsX11_magnet wsX11_refuse := goodIn_r _ [15, 16, 17, 18, 4, 19, 20, 21, 22, 52, 53, 54, 55, 56, 57, 58, 59, 60, 61, 62, 63, 64] (by decide +kernel) (by decide +kernel)
set_option maxRecDepth 20000 in
theorem gX11_magnet_X11_refuse : GoodIn wsX11_magnet (wsV RX11 94 RX11 yX11_refuse wsX11_refuse) := goodIn_app (goodIn_of _ (by decide +kernel)) ggX11_magnet_X11_refuse
set_option maxRecDepth 20000 in
theorem ggX11_magnet_X7_isFull : GoodIn wsX11_magnet wsX7_isFull := goodIn_r _ [27, 28, 29, 72, 73, 74, 75] (by decide +kernel) (by decide +kernel)
set_option maxRecDepth 20000 in
theorem gX11_magnet_X7_isFull : GoodIn wsX11_magnet (wsV RX11 98 RX7 yX7_isFull wsX7_isFull) := goodIn_app (goodIn_of _ (by decide +kernel)) ggX11_magnet_X7_isFull
set_option maxRecDepth 20000 in
theorem ggX11_magnet_X6_addMagnet : GoodIn wsX11_magnet wsX6_addMagnet := goodIn_r _ [34, 35, 36, 37, 38, 39, 26, 40, 28, 41, 42, 43, 44, 45, 24, 25, 27, 29, 46, 47, 48, 49, 50, 51, 65, 66, 67, 68, 69, 70, 71, 72, 73, 74, 75] (by decide +kernel) (by decide +kernel)
set_option maxRecDepth 20000 in
theorem gX11_magnet_X6_addMagnet : GoodIn wsX11_magnet (wsV RX11 109 RX6 yX6_addMagnet wsX6_addMagnet) := goodIn_app (goodIn_of _ (by decide +kernel)) ggX11_magnet_X6_addMagnet
theorem dX11_magnet_0 : decode cX11_magnet 0 = .ok (.iload_n 1, 1) := by decide +kernel
theorem dX11_magnet_1 : decode cX11_magnet 1 = .ok (.invokestatic 83, 3) := by decide +kernel
theorem dX11_magnet_4 : decode cX11_magnet 4 = .ok (.ifCond .eq 20, 3) := by decide +kernel
theorem dX11_magnet_7 : decode cX11_magnet 7 = .ok (.iload_n 2, 1) := by decide +kernel
theorem dX11_magnet_8 : decode cX11_magnet 8 = .ok (.invokestatic 87, 3) := by decide +kernel
theorem dX11_magnet_11 : decode cX11_magnet 11 = .ok (.ifCond .eq 13, 3) := by decide +kernel
theorem dX11_magnet_14 : decode cX11_magnet 14 = .ok (.iload_n 3, 1) := by decide +kernel
theorem dX11_magnet_15 : decode cX11_magnet 15 = .ok (.iconst 1, 1) := by decide +kernel
theorem dX11_magnet_16 : decode cX11_magnet 16 = .ok (.bipush 9, 2) := by decide +kernel
theorem dX11_magnet_18 : decode cX11_magnet 18 = .ok (.invokestatic 90, 3) := by decide +kernel
theorem dX11_magnet_21 : decode cX11_magnet 21 = .ok (.ifCond .ne 10, 3) := by decide +kernel
theorem dX11_magnet_24 : decode cX11_magnet 24 = .ok (.aload_n 0, 1) := by decide +kernel
theorem dX11_magnet_25 : decode cX11_magnet 25 = .ok (.bipush (-2), 2) := by decide +kernel
theorem dX11_magnet_27 : decode cX11_magnet 27 = .ok (.invokevirtual 94, 3) := by decide +kernel
theorem dX11_magnet_30 : decode cX11_magnet 30 = .ok (.ireturn, 1) := by decide +kernel
theorem dX11_magnet_31 : decode cX11_magnet 31 = .ok (.aload_n 0, 1) := by decide +kernel
theorem dX11_magnet_32 : decode cX11_magnet 32 = .ok (.getfield 10, 3) := by decide +kernel
theorem dX11_magnet_35 : decode cX11_magnet 35 = .ok (.getfield 106, 3) := by decide +kernel
theorem dX11_magnet_38 : decode cX11_magnet 38 = .ok (.invokevirtual 98, 3) := by decide +kernel
theorem dX11_magnet_41 : decode cX11_magnet 41 = .ok (.ifCond .eq 12, 3) := by decide +kernel
theorem dX11_magnet_44 : decode cX11_magnet 44 = .ok (.aload_n 0, 1) := by decide +kernel
theorem dX11_magnet_45 : decode cX11_magnet 45 = .ok (.bipush (-4), 2) := by decide +kernel
theorem dX11_magnet_47 : decode cX11_magnet 47 = .ok (.invokevirtual 94, 3) := by decide +kernel
theorem dX11_magnet_50 : decode cX11_magnet 50 = .ok (.goto 13, 3) := by decide +kernel
theorem dX11_magnet_53 : decode cX11_magnet 53 = .ok (.aload_n 0, 1) := by decide +kernel
theorem dX11_magnet_54 : decode cX11_magnet 54 = .ok (.getfield 10, 3) := by decide +kernel
theorem dX11_magnet_57 : decode cX11_magnet 57 = .ok (.iload_n 1, 1) := by decide +kernel
theorem dX11_magnet_58 : decode cX11_magnet 58 = .ok (.iload_n 2, 1) := by decide +kernel
theorem dX11_magnet_59 : decode cX11_magnet 59 = .ok (.iload_n 3, 1) := by decide +kernel
theorem dX11_magnet_60 : decode cX11_magnet 60 = .ok (.invokevirtual 109, 3) := by decide +kernel
theorem dX11_magnet_63 : decode cX11_magnet 63 = .ok (.ireturn, 1) := by decide +kernel
set_option maxRecDepth 20000 in
theorem ggX11_type_X11_within : GoodIn wsX11_type wsX11_within := goodIn_r _ [5] (by decide +kernel) (by decide +kernel)
set_option maxRecDepth 20000 in
theorem gX11_type_X11_within : GoodIn wsX11_type (va_wsS RX11 90 yX11_within wsX11_within) := goodIn_app (goodIn_of _ (by decide +kernel)) ggX11_type_X11_within
set_option maxRecDepth 20000 in
theorem ggX11_type_X11_refuse : GoodIn wsX11_type wsX11_refuse := goodIn_r _ [9, 10, 11, 12, 4, 13, 14, 15, 16, 28, 29, 30, 31, 32, 33, 34, 35, 36, 37, 38, 39, 40] (by decide +kernel) (by decide +kernel)
set_option maxRecDepth 20000 in
theorem gX11_type_X11_refuse : GoodIn wsX11_type (wsV RX11 94 RX11 yX11_refuse wsX11_refuse) := goodIn_app (goodIn_of _ (by decide +kernel)) ggX11_type_X11_refuse
set_option maxRecDepth 20000 in
theorem ggX11_type_X9_isFull : GoodIn wsX11_type wsX9_isFull := goodIn_r _ [21, 22, 41, 42, 43, 44, 45, 46, 47, 48] (by decide +kernel) (by decide +kernel)
set_option maxRecDepth 20000 in
theorem gX11_type_X9_isFull : GoodIn wsX11_type (wsV RX11 112 RX9 yX9_isFull wsX9_isFull) := goodIn_app (goodIn_of _ (by decide +kernel)) ggX11_type_X9_isFull
set_option maxRecDepth 20000 in
theorem ggX11_type_X9_append : GoodIn wsX11_type wsX9_append := goodIn_r _ [26, 27, 22, 15, 4, 16, 41, 42, 43, 44, 45, 46, 47, 48] (by decide +kernel) (by decide +kernel)
set_option maxRecDepth 20000 in
theorem gX11_type_X9_append : GoodIn wsX11_type (wsV RX11 113 RX9 yX9_append wsX9_append) := goodIn_app (goodIn_of _ (by decide +kernel)) ggX11_type_X9_append
theorem dX11_type_0 : decode cX11_type 0 = .ok (.iload_n 1, 1) := by decide +kernel
theorem dX11_type_1 : decode cX11_type 1 = .ok (.iconst 0, 1) := by decide +kernel
theorem dX11_type_2 : decode cX11_type 2 = .ok (.bipush 127, 2) := by decide +kernel
theorem dX11_type_4 : decode cX11_type 4 = .ok (.invokestatic 90, 3) := by decide +kernel
theorem dX11_type_7 : decode cX11_type 7 = .ok (.ifCond .ne 10, 3) := by decide +kernel
theorem dX11_type_10 : decode cX11_type 10 = .ok (.aload_n 0, 1) := by decide +kernel
theorem dX11_type_11 : decode cX11_type 11 = .ok (.bipush (-2), 2) := by decide +kernel
theorem dX11_type_13 : decode cX11_type 13 = .ok (.invokevirtual 94, 3) := by decide +kernel
theorem dX11_type_16 : decode cX11_type 16 = .ok (.ireturn, 1) := by decide +kernel
theorem dX11_type_17 : decode cX11_type 17 = .ok (.aload_n 0, 1) := by decide +kernel
theorem dX11_type_18 : decode cX11_type 18 = .ok (.getfield 28, 3) := by decide +kernel
theorem dX11_type_21 : decode cX11_type 21 = .ok (.invokevirtual 112, 3) := by decide +kernel
theorem dX11_type_24 : decode cX11_type 24 = .ok (.ifCond .eq 12, 3) := by decide +kernel
theorem dX11_type_27 : decode cX11_type 27 = .ok (.aload_n 0, 1) := by decide +kernel
theorem dX11_type_28 : decode cX11_type 28 = .ok (.bipush (-4), 2) := by decide +kernel
theorem dX11_type_30 : decode cX11_type 30 = .ok (.invokevirtual 94, 3) := by decide +kernel
theorem dX11_type_33 : decode cX11_type 33 = .ok (.goto 11, 3) := by decide +kernel
theorem dX11_type_36 : decode cX11_type 36 = .ok (.aload_n 0, 1) := by decide +kernel
theorem dX11_type_37 : decode cX11_type 37 = .ok (.getfield 28, 3) := by decide +kernel
theorem dX11_type_40 : decode cX11_type 40 = .ok (.iload_n 1, 1) := by decide +kernel
theorem dX11_type_41 : decode cX11_type 41 = .ok (.invokevirtual 113, 3) := by decide +kernel
theorem dX11_type_44 : decode cX11_type 44 = .ok (.ireturn, 1) := by decide +kernel
set_option maxRecDepth 20000 in
theorem ggX11_clear_X9_length : GoodIn wsX11_clear wsX9_length := goodIn_r _ [6, 7, 25, 26, 27, 28, 29, 30, 31, 32] (by decide +kernel) (by decide +kernel)
set_option maxRecDepth 20000 in
theorem gX11_clear_X9_length : GoodIn wsX11_clear (wsV RX11 116 RX9 yX9_length wsX9_length) := goodIn_app (goodIn_of _ (by decide +kernel)) ggX11_clear_X9_length
set_option maxRecDepth 20000 in
theorem ggX11_clear_X9_empty : GoodIn wsX11_clear wsX9_empty := goodIn_r _ [11, 7, 25, 26, 27, 28, 29, 30, 31, 32] (by decide +kernel) (by decide +kernel)
set_option maxRecDepth 20000 in
theorem gX11_clear_X9_empty : GoodIn wsX11_clear (wsV RX11 119 RX9 yX9_empty wsX9_empty) := goodIn_app (goodIn_of _ (by decide +kernel)) ggX11_clear_X9_empty
theorem dX11_clear_0 : decode cX11_clear 0 = .ok (.aload_n 0, 1) := by decide +kernel
theorem dX11_clear_1 : decode cX11_clear 1 = .ok (.getfield 28, 3) := by decide +kernel
theorem dX11_clear_4 : decode cX11_clear 4 = .ok (.invokevirtual 116, 3) := by decide +kernel
theorem dX11_clear_7 : decode cX11_clear 7 = .ok (.istore_n 1, 1) := by decide +kernel
theorem dX11_clear_8 : decode cX11_clear 8 = .ok (.aload_n 0, 1) := by decide +kernel
theorem dX11_clear_9 : decode cX11_clear 9 = .ok (.getfield 28, 3) := by decide +kernel
theorem dX11_clear_12 : decode cX11_clear 12 = .ok (.invokevirtual 119, 3) := by decide +kernel
theorem dX11_clear_15 : decode cX11_clear 15 = .ok (.iload_n 1, 1) := by decide +kernel
theorem dX11_clear_16 : decode cX11_clear 16 = .ok (.ireturn, 1) := by decide +kernel
set_option maxRecDepth 20000 in
theorem ggX11_read_X9_readInto : GoodIn wsX11_read wsX9_readInto := goodIn_r _ [8, 9, 10, 11, 12, 13, 14, 15, 16, 17, 18, 19, 20, 21, 22, 23, 24, 25, 26, 27, 28, 29, 30, 31, 32, 33, 34, 35, 7, 36, 37, 38, 39, 40, 41, 42, 43, 44, 45, 46, 47, 48, 49, 50, 51, 52, 53, 54, 55, 56, 57, 58, 59, 60, 61, 62, 63, 64, 65, 66, 67, 68, 69, 70, 71, 72, 73, 74, 75, 76, 77, 78, 79, 80, 81, 82, 83, 84, 85, 86, 87, 88, 89, 90, 91, 92, 93, 94, 95, 96, 97, 98, 99, 100, 101, 102, 103, 104, 105, 106, 107, 108, 109, 110, 111, 112, 113, 114, 115, 116, 117, 118, 119, 120, 121, 122, 123, 124, 125, 126, 127, 128, 129, 130, 131, 132, 133, 134, 135, 136, 137, 138, 139, 140, 141, 142, 143, 144, 145, 146, 147, 148, 149, 150, 151, 152, 153, 154, 155, 156, 157, 158, 159, 160, 161, 162, 163, 164, 165, 166, 167, 168, 169, 170, 171, 172, 173, 174, 175, 176, 177, 178, 179, 180, 181, 182, 183, 184, 185, 186, 187, 188, 189, 190, 191, 192, 193, 194, 195, 196, 197, 198, 199, 200, 201, 202, 203, 204, 205, 206, 207, 208, 209, 210, 211, 212, 213, 214, 215, 216, 217, 218, 219, 220, 221, 246, 247, 248, 249, 250, 251, 252, 253, 254, 255, 256, 257, 258, 259, 260, 261, 262, 263, 264] (by decide +kernel) (by decide +kernel)
set_option maxRecDepth 20000 in
theorem gX11_read_X9_readInto : GoodIn wsX11_read (wsV RX11 120 RX9 yX9_readInto wsX9_readInto) := goodIn_app (goodIn_of _ (by decide +kernel)) ggX11_read_X9_readInto
set_option maxRecDepth 20000 in
theorem ggX11_read_X6_copyFrom : GoodIn wsX11_read wsX6_copyFrom := goodIn_r _ [225, 20, 21, 22, 23, 24, 25, 26, 226, 227, 228, 30, 229, 32, 113, 230, 174, 175, 176, 135, 136, 43, 44, 45, 231, 232, 254, 255, 256, 257, 258, 259, 260, 261, 262, 263, 264] (by decide +kernel) (by decide +kernel)
set_option maxRecDepth 20000 in
theorem gX11_read_X6_copyFrom : GoodIn wsX11_read (wsV RX11 124 RX6 yX6_copyFrom wsX6_copyFrom) := goodIn_app (goodIn_of _ (by decide +kernel)) ggX11_read_X6_copyFrom
theorem dX11_read_0 : decode cX11_read 0 = .ok (.aload_n 0, 1) := by decide +kernel
theorem dX11_read_1 : decode cX11_read 1 = .ok (.getfield 28, 3) := by decide +kernel
theorem dX11_read_4 : decode cX11_read 4 = .ok (.aload_n 0, 1) := by decide +kernel
theorem dX11_read_5 : decode cX11_read 5 = .ok (.getfield 16, 3) := by decide +kernel
theorem dX11_read_8 : decode cX11_read 8 = .ok (.invokevirtual 120, 3) := by decide +kernel
theorem dX11_read_11 : decode cX11_read 11 = .ok (.istore_n 1, 1) := by decide +kernel
theorem dX11_read_12 : decode cX11_read 12 = .ok (.iload_n 1, 1) := by decide +kernel
theorem dX11_read_13 : decode cX11_read 13 = .ok (.ifCond .lt 14, 3) := by decide +kernel
theorem dX11_read_16 : decode cX11_read 16 = .ok (.aload_n 0, 1) := by decide +kernel
theorem dX11_read_17 : decode cX11_read 17 = .ok (.getfield 10, 3) := by decide +kernel
theorem dX11_read_20 : decode cX11_read 20 = .ok (.aload_n 0, 1) := by decide +kernel
theorem dX11_read_21 : decode cX11_read 21 = .ok (.getfield 16, 3) := by decide +kernel
theorem dX11_read_24 : decode cX11_read 24 = .ok (.invokevirtual 124, 3) := by decide +kernel
theorem dX11_read_27 : decode cX11_read 27 = .ok (.iload_n 1, 1) := by decide +kernel
theorem dX11_read_28 : decode cX11_read 28 = .ok (.ireturn, 1) := by decide +kernel
set_option maxRecDepth 20000 in
theorem ggX11_hook_X11_isClerk : GoodIn wsX11_hook wsX11_isClerk := goodIn_r _ [6, 1, 7, 8, 9, 10, 11, 12, 94, 95, 96, 97, 98, 99, 100, 101, 102, 103, 104, 105, 106, 107, 108, 109, 110, 111, 112, 113, 114, 115, 116, 117] (by decide +kernel) (by decide +kernel)
set_option maxRecDepth 20000 in
theorem gX11_hook_X11_isClerk : GoodIn wsX11_hook (wsV RX11 128 RX11 yX11_isClerk wsX11_isClerk) := goodIn_app (goodIn_of _ (by decide +kernel)) ggX11_hook_X11_isClerk
set_option maxRecDepth 20000 in
theorem ggX11_hook_X11_refuse : GoodIn wsX11_hook wsX11_refuse := goodIn_r _ [16, 17, 18, 19, 5, 20, 21, 22, 23, 94, 95, 96, 97, 98, 99, 100, 101, 102, 103, 104, 105, 106] (by decide +kernel) (by decide +kernel)
set_option maxRecDepth 20000 in
theorem gX11_hook_X11_refuse : GoodIn wsX11_hook (wsV RX11 94 RX11 yX11_refuse wsX11_refuse) := goodIn_app (goodIn_of _ (by decide +kernel)) ggX11_hook_X11_refuse
set_option maxRecDepth 20000 in
theorem ggX11_hook_X7_get : GoodIn wsX11_hook wsX7_get := goodIn_r _ [27, 12, 28, 29, 114, 115, 116, 117] (by decide +kernel) (by decide +kernel)
set_option maxRecDepth 20000 in
theorem gX11_hook_X7_get : GoodIn wsX11_hook (wsV RX11 131 RX7 yX7_get wsX7_get) := goodIn_app (goodIn_of _ (by decide +kernel)) ggX11_hook_X7_get
set_option maxRecDepth 20000 in
theorem ggX11_hook_X0_hangsOn : GoodIn wsX11_hook wsX0_hangsOn := goodIn_r _ [33, 34, 25, 26, 10, 27, 12, 28, 29, 114, 115, 116, 117] (by decide +kernel) (by decide +kernel)
set_option maxRecDepth 20000 in
theorem gX11_hook_X0_hangsOn : GoodIn wsX11_hook (va_wsS RX11 135 yX0_hangsOn wsX0_hangsOn) := goodIn_app (goodIn_of _ (by decide +kernel)) ggX11_hook_X0_hangsOn
set_option maxRecDepth 20000 in
theorem ggX11_hook_X0_holdsTwo : GoodIn wsX11_hook wsX0_holdsTwo := goodIn_r _ [37, 38, 39, 32, 40, 41, 42, 43, 10, 44, 12, 34, 25, 26, 27, 28, 29, 114, 115, 116, 117] (by decide +kernel) (by decide +kernel)
set_option maxRecDepth 20000 in
theorem gX11_hook_X0_holdsTwo : GoodIn wsX11_hook (va_wsS RX11 141 yX0_holdsTwo wsX0_holdsTwo) := goodIn_app (goodIn_of _ (by decide +kernel)) ggX11_hook_X0_holdsTwo
set_option maxRecDepth 20000 in
theorem ggX11_hook_X6_remember : GoodIn wsX11_hook wsX6_remember := goodIn_r _ [49, 50, 51, 52, 53, 54, 55, 10, 56, 12, 57, 58, 59, 60, 61, 28, 29, 19, 5, 20, 22, 23, 62, 63, 64, 65, 66, 67, 68, 69, 70, 71, 72, 73, 74, 75, 42, 43, 44, 76, 25, 26, 27, 77, 107, 108, 109, 110, 111, 112, 113, 114, 115, 116, 117] (by decide +kernel) (by decide +kernel)
set_option maxRecDepth 20000 in
theorem gX11_hook_X6_remember : GoodIn wsX11_hook (wsV RX11 145 RX6 yX6_remember wsX6_remember) := goodIn_app (goodIn_of _ (by decide +kernel)) ggX11_hook_X6_remember
set_option maxRecDepth 20000 in
theorem ggX11_hook_X7_put : GoodIn wsX11_hook wsX7_put := goodIn_r _ [74, 12, 28, 29, 114, 115, 116, 117] (by decide +kernel) (by decide +kernel)
set_option maxRecDepth 20000 in
theorem gX11_hook_X7_put : GoodIn wsX11_hook (wsV RX11 148 RX7 yX7_put wsX7_put) := goodIn_app (goodIn_of _ (by decide +kernel)) ggX11_hook_X7_put
set_option maxRecDepth 20000 in
theorem ggX11_hook_X0_members : GoodIn wsX11_hook wsX0_members := goodIn_r _ [81, 82, 83, 32, 84, 85, 5, 86, 34, 25, 26, 10, 27, 12, 28, 29, 41, 42, 43, 44, 114, 115, 116, 117] (by decide +kernel) (by decide +kernel)
set_option maxRecDepth 20000 in
theorem gX11_hook_X0_members : GoodIn wsX11_hook (va_wsS RX11 152 yX0_members wsX0_members) := goodIn_app (goodIn_of _ (by decide +kernel)) ggX11_hook_X0_members
set_option maxRecDepth 20000 in
theorem ggX11_hook_J6_bitCount_0f7a4 : GoodIn wsX11_hook wsJ6_bitCount_0f7a4 := goodIn_r _ [90, 91, 92, 93] (by decide +kernel) (by decide +kernel)
set_option maxRecDepth 20000 in
theorem gX11_hook_J6_bitCount_0f7a4 : GoodIn wsX11_hook (va_wsS RX11 156 yJ6_bitCount_0f7a4 wsJ6_bitCount_0f7a4) := goodIn_app (goodIn_of _ (by decide +kernel)) ggX11_hook_J6_bitCount_0f7a4
theorem dX11_hook_0 : decode cX11_hook 0 = .ok (.aload_n 0, 1) := by decide +kernel
theorem dX11_hook_1 : decode cX11_hook 1 = .ok (.iload_n 1, 1) := by decide +kernel
theorem dX11_hook_2 : decode cX11_hook 2 = .ok (.invokevirtual 128, 3) := by decide +kernel
theorem dX11_hook_5 : decode cX11_hook 5 = .ok (.ifCond .eq 16, 3) := by decide +kernel
theorem dX11_hook_8 : decode cX11_hook 8 = .ok (.aload_n 0, 1) := by decide +kernel
theorem dX11_hook_9 : decode cX11_hook 9 = .ok (.iload_n 2, 1) := by decide +kernel
theorem dX11_hook_10 : decode cX11_hook 10 = .ok (.invokevirtual 128, 3) := by decide +kernel
theorem dX11_hook_13 : decode cX11_hook 13 = .ok (.ifCond .eq 8, 3) := by decide +kernel
theorem dX11_hook_16 : decode cX11_hook 16 = .ok (.iload_n 1, 1) := by decide +kernel
theorem dX11_hook_17 : decode cX11_hook 17 = .ok (.iload_n 2, 1) := by decide +kernel
theorem dX11_hook_18 : decode cX11_hook 18 = .ok (.if_icmp .ne 10, 3) := by decide +kernel
theorem dX11_hook_21 : decode cX11_hook 21 = .ok (.aload_n 0, 1) := by decide +kernel
theorem dX11_hook_22 : decode cX11_hook 22 = .ok (.bipush (-2), 2) := by decide +kernel
theorem dX11_hook_24 : decode cX11_hook 24 = .ok (.invokevirtual 94, 3) := by decide +kernel
theorem dX11_hook_27 : decode cX11_hook 27 = .ok (.ireturn, 1) := by decide +kernel
theorem dX11_hook_28 : decode cX11_hook 28 = .ok (.aload_n 0, 1) := by decide +kernel
theorem dX11_hook_29 : decode cX11_hook 29 = .ok (.getfield 10, 3) := by decide +kernel
theorem dX11_hook_32 : decode cX11_hook 32 = .ok (.getfield 73, 3) := by decide +kernel
theorem dX11_hook_35 : decode cX11_hook 35 = .ok (.iload_n 1, 1) := by decide +kernel
theorem dX11_hook_36 : decode cX11_hook 36 = .ok (.iconst 4, 1) := by decide +kernel
theorem dX11_hook_37 : decode cX11_hook 37 = .ok (.invokevirtual 131, 3) := by decide +kernel
theorem dX11_hook_40 : decode cX11_hook 40 = .ok (.iconst (-1), 1) := by decide +kernel
theorem dX11_hook_41 : decode cX11_hook 41 = .ok (.if_icmp .ne 18, 3) := by decide +kernel
theorem dX11_hook_44 : decode cX11_hook 44 = .ok (.aload_n 0, 1) := by decide +kernel
theorem dX11_hook_45 : decode cX11_hook 45 = .ok (.getfield 10, 3) := by decide +kernel
theorem dX11_hook_48 : decode cX11_hook 48 = .ok (.getfield 73, 3) := by decide +kernel
theorem dX11_hook_51 : decode cX11_hook 51 = .ok (.iload_n 2, 1) := by decide +kernel
theorem dX11_hook_52 : decode cX11_hook 52 = .ok (.iload_n 1, 1) := by decide +kernel
theorem dX11_hook_53 : decode cX11_hook 53 = .ok (.invokestatic 135, 3) := by decide +kernel
theorem dX11_hook_56 : decode cX11_hook 56 = .ok (.ifCond .eq 10, 3) := by decide +kernel
theorem dX11_hook_59 : decode cX11_hook 59 = .ok (.aload_n 0, 1) := by decide +kernel
theorem dX11_hook_60 : decode cX11_hook 60 = .ok (.bipush (-3), 2) := by decide +kernel
theorem dX11_hook_62 : decode cX11_hook 62 = .ok (.invokevirtual 94, 3) := by decide +kernel
theorem dX11_hook_65 : decode cX11_hook 65 = .ok (.ireturn, 1) := by decide +kernel
theorem dX11_hook_66 : decode cX11_hook 66 = .ok (.aload_n 0, 1) := by decide +kernel
theorem dX11_hook_67 : decode cX11_hook 67 = .ok (.getfield 10, 3) := by decide +kernel
theorem dX11_hook_70 : decode cX11_hook 70 = .ok (.getfield 73, 3) := by decide +kernel
theorem dX11_hook_73 : decode cX11_hook 73 = .ok (.iload_n 2, 1) := by decide +kernel
theorem dX11_hook_74 : decode cX11_hook 74 = .ok (.invokestatic 141, 3) := by decide +kernel
theorem dX11_hook_77 : decode cX11_hook 77 = .ok (.ifCond .eq 10, 3) := by decide +kernel
theorem dX11_hook_80 : decode cX11_hook 80 = .ok (.aload_n 0, 1) := by decide +kernel
theorem dX11_hook_81 : decode cX11_hook 81 = .ok (.bipush (-4), 2) := by decide +kernel
theorem dX11_hook_83 : decode cX11_hook 83 = .ok (.invokevirtual 94, 3) := by decide +kernel
theorem dX11_hook_86 : decode cX11_hook 86 = .ok (.ireturn, 1) := by decide +kernel
theorem dX11_hook_87 : decode cX11_hook 87 = .ok (.aload_n 0, 1) := by decide +kernel
theorem dX11_hook_88 : decode cX11_hook 88 = .ok (.getfield 10, 3) := by decide +kernel
theorem dX11_hook_91 : decode cX11_hook 91 = .ok (.invokevirtual 145, 3) := by decide +kernel
theorem dX11_hook_94 : decode cX11_hook 94 = .ok (.aload_n 0, 1) := by decide +kernel
theorem dX11_hook_95 : decode cX11_hook 95 = .ok (.getfield 10, 3) := by decide +kernel
theorem dX11_hook_98 : decode cX11_hook 98 = .ok (.getfield 73, 3) := by decide +kernel
theorem dX11_hook_101 : decode cX11_hook 101 = .ok (.iload_n 1, 1) := by decide +kernel
theorem dX11_hook_102 : decode cX11_hook 102 = .ok (.iconst 4, 1) := by decide +kernel
theorem dX11_hook_103 : decode cX11_hook 103 = .ok (.iload_n 2, 1) := by decide +kernel
theorem dX11_hook_104 : decode cX11_hook 104 = .ok (.invokevirtual 148, 3) := by decide +kernel
theorem dX11_hook_107 : decode cX11_hook 107 = .ok (.aload_n 0, 1) := by decide +kernel
theorem dX11_hook_108 : decode cX11_hook 108 = .ok (.getfield 10, 3) := by decide +kernel
theorem dX11_hook_111 : decode cX11_hook 111 = .ok (.getfield 73, 3) := by decide +kernel
theorem dX11_hook_114 : decode cX11_hook 114 = .ok (.iload_n 1, 1) := by decide +kernel
theorem dX11_hook_115 : decode cX11_hook 115 = .ok (.invokestatic 152, 3) := by decide +kernel
theorem dX11_hook_118 : decode cX11_hook 118 = .ok (.invokestatic 156, 3) := by decide +kernel
theorem dX11_hook_121 : decode cX11_hook 121 = .ok (.ireturn, 1) := by decide +kernel
set_option maxRecDepth 20000 in
theorem ggX11_unbend_X11_isClerk : GoodIn wsX11_unbend wsX11_isClerk := goodIn_r _ [6, 1, 7, 8, 9, 10, 11, 12, 67, 68, 69, 70, 71, 72, 73, 74, 75, 76, 77, 78, 79, 80, 81, 82, 83, 84, 85, 86, 87, 88, 89, 90] (by decide +kernel) (by decide +kernel)
set_option maxRecDepth 20000 in
theorem gX11_unbend_X11_isClerk : GoodIn wsX11_unbend (wsV RX11 128 RX11 yX11_isClerk wsX11_isClerk) := goodIn_app (goodIn_of _ (by decide +kernel)) ggX11_unbend_X11_isClerk
set_option maxRecDepth 20000 in
theorem ggX11_unbend_X11_refuse : GoodIn wsX11_unbend wsX11_refuse := goodIn_r _ [16, 17, 18, 19, 5, 20, 21, 22, 23, 67, 68, 69, 70, 71, 72, 73, 74, 75, 76, 77, 78, 79] (by decide +kernel) (by decide +kernel)
set_option maxRecDepth 20000 in
theorem gX11_unbend_X11_refuse : GoodIn wsX11_unbend (wsV RX11 94 RX11 yX11_refuse wsX11_refuse) := goodIn_app (goodIn_of _ (by decide +kernel)) ggX11_unbend_X11_refuse
set_option maxRecDepth 20000 in
theorem ggX11_unbend_X7_get : GoodIn wsX11_unbend wsX7_get := goodIn_r _ [27, 12, 28, 29, 87, 88, 89, 90] (by decide +kernel) (by decide +kernel)
set_option maxRecDepth 20000 in
theorem gX11_unbend_X7_get : GoodIn wsX11_unbend (wsV RX11 131 RX7 yX7_get wsX7_get) := goodIn_app (goodIn_of _ (by decide +kernel)) ggX11_unbend_X7_get
set_option maxRecDepth 20000 in
theorem ggX11_unbend_X6_remember : GoodIn wsX11_unbend wsX6_remember := goodIn_r _ [34, 35, 36, 37, 38, 39, 40, 10, 41, 12, 42, 43, 44, 45, 46, 28, 29, 19, 5, 20, 22, 23, 47, 48, 49, 50, 51, 52, 53, 54, 55, 56, 57, 58, 59, 60, 61, 62, 63, 64, 25, 26, 27, 65, 80, 81, 82, 83, 84, 85, 86, 87, 88, 89, 90] (by decide +kernel) (by decide +kernel)
set_option maxRecDepth 20000 in
theorem gX11_unbend_X6_remember : GoodIn wsX11_unbend (wsV RX11 145 RX6 yX6_remember wsX6_remember) := goodIn_app (goodIn_of _ (by decide +kernel)) ggX11_unbend_X6_remember
set_option maxRecDepth 20000 in
theorem ggX11_unbend_X7_put : GoodIn wsX11_unbend wsX7_put := goodIn_r _ [59, 12, 28, 29, 87, 88, 89, 90] (by decide +kernel) (by decide +kernel)
set_option maxRecDepth 20000 in
theorem gX11_unbend_X7_put : GoodIn wsX11_unbend (wsV RX11 148 RX7 yX7_put wsX7_put) := goodIn_app (goodIn_of _ (by decide +kernel)) ggX11_unbend_X7_put
theorem dX11_unbend_0 : decode cX11_unbend 0 = .ok (.aload_n 0, 1) := by decide +kernel
theorem dX11_unbend_1 : decode cX11_unbend 1 = .ok (.iload_n 1, 1) := by decide +kernel
theorem dX11_unbend_2 : decode cX11_unbend 2 = .ok (.invokevirtual 128, 3) := by decide +kernel
theorem dX11_unbend_5 : decode cX11_unbend 5 = .ok (.ifCond .ne 10, 3) := by decide +kernel
theorem dX11_unbend_8 : decode cX11_unbend 8 = .ok (.aload_n 0, 1) := by decide +kernel
theorem dX11_unbend_9 : decode cX11_unbend 9 = .ok (.bipush (-2), 2) := by decide +kernel
theorem dX11_unbend_11 : decode cX11_unbend 11 = .ok (.invokevirtual 94, 3) := by decide +kernel
theorem dX11_unbend_14 : decode cX11_unbend 14 = .ok (.ireturn, 1) := by decide +kernel
theorem dX11_unbend_15 : decode cX11_unbend 15 = .ok (.aload_n 0, 1) := by decide +kernel
theorem dX11_unbend_16 : decode cX11_unbend 16 = .ok (.getfield 10, 3) := by decide +kernel
theorem dX11_unbend_19 : decode cX11_unbend 19 = .ok (.getfield 73, 3) := by decide +kernel
theorem dX11_unbend_22 : decode cX11_unbend 22 = .ok (.iload_n 1, 1) := by decide +kernel
theorem dX11_unbend_23 : decode cX11_unbend 23 = .ok (.iconst 4, 1) := by decide +kernel
theorem dX11_unbend_24 : decode cX11_unbend 24 = .ok (.invokevirtual 131, 3) := by decide +kernel
theorem dX11_unbend_27 : decode cX11_unbend 27 = .ok (.istore_n 2, 1) := by decide +kernel
theorem dX11_unbend_28 : decode cX11_unbend 28 = .ok (.iload_n 2, 1) := by decide +kernel
theorem dX11_unbend_29 : decode cX11_unbend 29 = .ok (.iconst (-1), 1) := by decide +kernel
theorem dX11_unbend_30 : decode cX11_unbend 30 = .ok (.if_icmp .ne 10, 3) := by decide +kernel
theorem dX11_unbend_33 : decode cX11_unbend 33 = .ok (.aload_n 0, 1) := by decide +kernel
theorem dX11_unbend_34 : decode cX11_unbend 34 = .ok (.bipush (-3), 2) := by decide +kernel
theorem dX11_unbend_36 : decode cX11_unbend 36 = .ok (.invokevirtual 94, 3) := by decide +kernel
theorem dX11_unbend_39 : decode cX11_unbend 39 = .ok (.ireturn, 1) := by decide +kernel
theorem dX11_unbend_40 : decode cX11_unbend 40 = .ok (.aload_n 0, 1) := by decide +kernel
theorem dX11_unbend_41 : decode cX11_unbend 41 = .ok (.getfield 10, 3) := by decide +kernel
theorem dX11_unbend_44 : decode cX11_unbend 44 = .ok (.invokevirtual 145, 3) := by decide +kernel
theorem dX11_unbend_47 : decode cX11_unbend 47 = .ok (.aload_n 0, 1) := by decide +kernel
theorem dX11_unbend_48 : decode cX11_unbend 48 = .ok (.getfield 10, 3) := by decide +kernel
theorem dX11_unbend_51 : decode cX11_unbend 51 = .ok (.getfield 73, 3) := by decide +kernel
theorem dX11_unbend_54 : decode cX11_unbend 54 = .ok (.iload_n 1, 1) := by decide +kernel
theorem dX11_unbend_55 : decode cX11_unbend 55 = .ok (.iconst 4, 1) := by decide +kernel
theorem dX11_unbend_56 : decode cX11_unbend 56 = .ok (.iconst (-1), 1) := by decide +kernel
theorem dX11_unbend_57 : decode cX11_unbend 57 = .ok (.invokevirtual 148, 3) := by decide +kernel
theorem dX11_unbend_60 : decode cX11_unbend 60 = .ok (.iload_n 2, 1) := by decide +kernel
theorem dX11_unbend_61 : decode cX11_unbend 61 = .ok (.ireturn, 1) := by decide +kernel
set_option maxRecDepth 20000 in
theorem ggX11_day_X11_within : GoodIn wsX11_day wsX11_within := goodIn_r _ [5] (by decide +kernel) (by decide +kernel)
set_option maxRecDepth 20000 in
theorem gX11_day_X11_within : GoodIn wsX11_day (va_wsS RX11 90 yX11_within wsX11_within) := goodIn_app (goodIn_of _ (by decide +kernel)) ggX11_day_X11_within
set_option maxRecDepth 20000 in
theorem ggX11_day_X11_refuse : GoodIn wsX11_day wsX11_refuse := goodIn_r _ [9, 10, 11, 12, 4, 13, 14, 15, 16, 116, 117, 118, 119, 120, 121, 122, 123, 124, 125, 126, 127, 128] (by decide +kernel) (by decide +kernel)
set_option maxRecDepth 20000 in
theorem gX11_day_X11_refuse : GoodIn wsX11_day (wsV RX11 94 RX11 yX11_refuse wsX11_refuse) := goodIn_app (goodIn_of _ (by decide +kernel)) ggX11_day_X11_refuse
set_option maxRecDepth 20000 in
theorem ggX11_day_X6_remember : GoodIn wsX11_day wsX6_remember := goodIn_r _ [21, 22, 23, 24, 25, 26, 27, 28, 29, 30, 31, 32, 33, 34, 35, 36, 37, 12, 4, 13, 15, 16, 38, 39, 40, 41, 42, 43, 44, 45, 46, 47, 48, 49, 50, 51, 52, 53, 54, 55, 56, 57, 58, 59, 129, 130, 131, 132, 133, 134, 135, 136, 137, 138, 139] (by decide +kernel) (by decide +kernel)
set_option maxRecDepth 20000 in
theorem gX11_day_X6_remember : GoodIn wsX11_day (wsV RX11 145 RX6 yX6_remember wsX6_remember) := goodIn_app (goodIn_of _ (by decide +kernel)) ggX11_day_X6_remember
set_option maxRecDepth 20000 in
theorem ggX11_day_X6_passDays : GoodIn wsX11_day wsX6_passDays := goodIn_r _ [63, 23, 64, 65, 66, 67, 24, 68, 69, 70, 71, 72, 73, 52, 53, 28, 54, 30, 74, 56, 57, 58, 36, 37, 75, 76, 77, 78, 79, 80, 81, 82, 4, 83, 84, 85, 86, 87, 88, 89, 90, 91, 92, 93, 94, 95, 96, 97, 98, 99, 100, 101, 102, 103, 104, 105, 106, 107, 108, 109, 110, 2, 3, 5, 111, 112, 113, 114, 115, 48, 49, 50, 129, 130, 131, 132, 133, 134, 135, 136, 137, 138, 139] (by decide +kernel) (by decide +kernel)
set_option maxRecDepth 20000 in
theorem gX11_day_X6_passDays : GoodIn wsX11_day (wsV RX11 161 RX6 yX6_passDays wsX6_passDays) := goodIn_app (goodIn_of _ (by decide +kernel)) ggX11_day_X6_passDays
theorem dX11_day_0 : decode cX11_day 0 = .ok (.iload_n 1, 1) := by decide +kernel
theorem dX11_day_1 : decode cX11_day 1 = .ok (.iconst 1, 1) := by decide +kernel
theorem dX11_day_2 : decode cX11_day 2 = .ok (.bipush 60, 2) := by decide +kernel
theorem dX11_day_4 : decode cX11_day 4 = .ok (.invokestatic 90, 3) := by decide +kernel
theorem dX11_day_7 : decode cX11_day 7 = .ok (.ifCond .ne 10, 3) := by decide +kernel
theorem dX11_day_10 : decode cX11_day 10 = .ok (.aload_n 0, 1) := by decide +kernel
theorem dX11_day_11 : decode cX11_day 11 = .ok (.bipush (-2), 2) := by decide +kernel
theorem dX11_day_13 : decode cX11_day 13 = .ok (.invokevirtual 94, 3) := by decide +kernel
theorem dX11_day_16 : decode cX11_day 16 = .ok (.ireturn, 1) := by decide +kernel
theorem dX11_day_17 : decode cX11_day 17 = .ok (.aload_n 0, 1) := by decide +kernel
theorem dX11_day_18 : decode cX11_day 18 = .ok (.getfield 10, 3) := by decide +kernel
theorem dX11_day_21 : decode cX11_day 21 = .ok (.invokevirtual 145, 3) := by decide +kernel
theorem dX11_day_24 : decode cX11_day 24 = .ok (.aload_n 0, 1) := by decide +kernel
theorem dX11_day_25 : decode cX11_day 25 = .ok (.getfield 10, 3) := by decide +kernel
theorem dX11_day_28 : decode cX11_day 28 = .ok (.iload_n 1, 1) := by decide +kernel
theorem dX11_day_29 : decode cX11_day 29 = .ok (.invokevirtual 161, 3) := by decide +kernel
theorem dX11_day_32 : decode cX11_day 32 = .ok (.ireturn, 1) := by decide +kernel
set_option maxRecDepth 20000 in
theorem ggX11_undo_X7_size : GoodIn wsX11_undo wsX7_size := goodIn_r _ [6, 7, 63, 64, 65, 66] (by decide +kernel) (by decide +kernel)
set_option maxRecDepth 20000 in
theorem gX11_undo_X7_size : GoodIn wsX11_undo (wsV RX11 76 RX7 yX7_size wsX7_size) := goodIn_app (goodIn_of _ (by decide +kernel)) ggX11_undo_X7_size
set_option maxRecDepth 20000 in
theorem ggX11_undo_X11_refuse : GoodIn wsX11_undo wsX11_refuse := goodIn_r _ [12, 13, 14, 15, 11, 16, 17, 18, 19, 43, 44, 45, 46, 47, 48, 49, 50, 51, 52, 53, 54, 55] (by decide +kernel) (by decide +kernel)
set_option maxRecDepth 20000 in
theorem gX11_undo_X11_refuse : GoodIn wsX11_undo (wsV RX11 94 RX11 yX11_refuse wsX11_refuse) := goodIn_app (goodIn_of _ (by decide +kernel)) ggX11_undo_X11_refuse
set_option maxRecDepth 20000 in
theorem ggX11_undo_X6_goBack : GoodIn wsX11_undo wsX6_goBack := goodIn_r _ [24, 25, 26, 27, 28, 3, 4, 5, 6, 7, 29, 30, 31, 32, 33, 34, 35, 36, 37, 38, 39, 40, 41, 42, 56, 57, 58, 59, 60, 61, 62, 63, 64, 65, 66] (by decide +kernel) (by decide +kernel)
set_option maxRecDepth 20000 in
theorem gX11_undo_X6_goBack : GoodIn wsX11_undo (wsV RX11 167 RX6 yX6_goBack wsX6_goBack) := goodIn_app (goodIn_of _ (by decide +kernel)) ggX11_undo_X6_goBack
theorem dX11_undo_0 : decode cX11_undo 0 = .ok (.aload_n 0, 1) := by decide +kernel
theorem dX11_undo_1 : decode cX11_undo 1 = .ok (.getfield 10, 3) := by decide +kernel
theorem dX11_undo_4 : decode cX11_undo 4 = .ok (.getfield 164, 3) := by decide +kernel
theorem dX11_undo_7 : decode cX11_undo 7 = .ok (.invokevirtual 76, 3) := by decide +kernel
theorem dX11_undo_10 : decode cX11_undo 10 = .ok (.ifCond .ne 10, 3) := by decide +kernel
theorem dX11_undo_13 : decode cX11_undo 13 = .ok (.aload_n 0, 1) := by decide +kernel
theorem dX11_undo_14 : decode cX11_undo 14 = .ok (.bipush (-3), 2) := by decide +kernel
theorem dX11_undo_16 : decode cX11_undo 16 = .ok (.invokevirtual 94, 3) := by decide +kernel
theorem dX11_undo_19 : decode cX11_undo 19 = .ok (.ireturn, 1) := by decide +kernel
theorem dX11_undo_20 : decode cX11_undo 20 = .ok (.aload_n 0, 1) := by decide +kernel
theorem dX11_undo_21 : decode cX11_undo 21 = .ok (.getfield 10, 3) := by decide +kernel
theorem dX11_undo_24 : decode cX11_undo 24 = .ok (.invokevirtual 167, 3) := by decide +kernel
theorem dX11_undo_27 : decode cX11_undo 27 = .ok (.aload_n 0, 1) := by decide +kernel
theorem dX11_undo_28 : decode cX11_undo 28 = .ok (.getfield 10, 3) := by decide +kernel
theorem dX11_undo_31 : decode cX11_undo 31 = .ok (.getfield 170, 3) := by decide +kernel
theorem dX11_undo_34 : decode cX11_undo 34 = .ok (.ireturn, 1) := by decide +kernel
set_option maxRecDepth 20000 in
theorem ggX11_of_X11_isClerk : GoodIn wsX11_of wsX11_isClerk := goodIn_r _ [6, 1, 7, 8, 9, 10, 11, 12, 33, 34, 35, 36, 37, 38, 39, 40, 41, 42, 43, 44, 45, 46, 47, 48, 49, 50, 51, 52, 53, 54, 55, 56] (by decide +kernel) (by decide +kernel)
set_option maxRecDepth 20000 in
theorem gX11_of_X11_isClerk : GoodIn wsX11_of (wsV RX11 128 RX11 yX11_isClerk wsX11_isClerk) := goodIn_app (goodIn_of _ (by decide +kernel)) ggX11_of_X11_isClerk
set_option maxRecDepth 20000 in
theorem ggX11_of_X11_within : GoodIn wsX11_of wsX11_within := goodIn_r _ [15] (by decide +kernel) (by decide +kernel)
set_option maxRecDepth 20000 in
theorem gX11_of_X11_within : GoodIn wsX11_of (va_wsS RX11 90 yX11_within wsX11_within) := goodIn_app (goodIn_of _ (by decide +kernel)) ggX11_of_X11_within
set_option maxRecDepth 20000 in
theorem ggX11_of_X7_get : GoodIn wsX11_of wsX7_get := goodIn_r _ [19, 12, 20, 21, 53, 54, 55, 56] (by decide +kernel) (by decide +kernel)
set_option maxRecDepth 20000 in
theorem gX11_of_X7_get : GoodIn wsX11_of (wsV RX11 131 RX7 yX7_get wsX7_get) := goodIn_app (goodIn_of _ (by decide +kernel)) ggX11_of_X7_get
set_option maxRecDepth 20000 in
theorem ggX11_of_X11_refuse : GoodIn wsX11_of wsX11_refuse := goodIn_r _ [25, 26, 27, 28, 5, 29, 30, 31, 32, 33, 34, 35, 36, 37, 38, 39, 40, 41, 42, 43, 44, 45] (by decide +kernel) (by decide +kernel)
set_option maxRecDepth 20000 in
theorem gX11_of_X11_refuse : GoodIn wsX11_of (wsV RX11 94 RX11 yX11_refuse wsX11_refuse) := goodIn_app (goodIn_of _ (by decide +kernel)) ggX11_of_X11_refuse
theorem dX11_of_0 : decode cX11_of 0 = .ok (.aload_n 0, 1) := by decide +kernel
theorem dX11_of_1 : decode cX11_of 1 = .ok (.iload_n 1, 1) := by decide +kernel
theorem dX11_of_2 : decode cX11_of 2 = .ok (.invokevirtual 128, 3) := by decide +kernel
theorem dX11_of_5 : decode cX11_of 5 = .ok (.ifCond .eq 27, 3) := by decide +kernel
theorem dX11_of_8 : decode cX11_of 8 = .ok (.iload_n 2, 1) := by decide +kernel
theorem dX11_of_9 : decode cX11_of 9 = .ok (.iconst 0, 1) := by decide +kernel
theorem dX11_of_10 : decode cX11_of 10 = .ok (.iconst 4, 1) := by decide +kernel
theorem dX11_of_11 : decode cX11_of 11 = .ok (.invokestatic 90, 3) := by decide +kernel
theorem dX11_of_14 : decode cX11_of 14 = .ok (.ifCond .eq 18, 3) := by decide +kernel
theorem dX11_of_17 : decode cX11_of 17 = .ok (.aload_n 0, 1) := by decide +kernel
theorem dX11_of_18 : decode cX11_of 18 = .ok (.getfield 10, 3) := by decide +kernel
theorem dX11_of_21 : decode cX11_of 21 = .ok (.getfield 73, 3) := by decide +kernel
theorem dX11_of_24 : decode cX11_of 24 = .ok (.iload_n 1, 1) := by decide +kernel
theorem dX11_of_25 : decode cX11_of 25 = .ok (.iload_n 2, 1) := by decide +kernel
theorem dX11_of_26 : decode cX11_of 26 = .ok (.invokevirtual 131, 3) := by decide +kernel
theorem dX11_of_29 : decode cX11_of 29 = .ok (.goto 9, 3) := by decide +kernel
theorem dX11_of_32 : decode cX11_of 32 = .ok (.aload_n 0, 1) := by decide +kernel
theorem dX11_of_33 : decode cX11_of 33 = .ok (.bipush (-2), 2) := by decide +kernel
theorem dX11_of_35 : decode cX11_of 35 = .ok (.invokevirtual 94, 3) := by decide +kernel
theorem dX11_of_38 : decode cX11_of 38 = .ok (.ireturn, 1) := by decide +kernel
set_option maxRecDepth 20000 in
theorem ggX11_felt_X11_isClerk : GoodIn wsX11_felt wsX11_isClerk := goodIn_r _ [7, 2, 8, 9, 10, 11, 12, 13, 70, 71, 72, 73, 74, 75, 76, 77, 78, 79, 80, 81, 82, 83, 84, 85, 86, 87, 88, 89, 90, 91, 92, 93] (by decide +kernel) (by decide +kernel)
set_option maxRecDepth 20000 in
theorem gX11_felt_X11_isClerk : GoodIn wsX11_felt (wsV RX11 128 RX11 yX11_isClerk wsX11_isClerk) := goodIn_app (goodIn_of _ (by decide +kernel)) ggX11_felt_X11_isClerk
set_option maxRecDepth 20000 in
theorem ggX11_felt_X11_isTug : GoodIn wsX11_felt wsX11_isTug := goodIn_r _ [16, 17, 18, 6, 19] (by decide +kernel) (by decide +kernel)
set_option maxRecDepth 20000 in
theorem gX11_felt_X11_isTug : GoodIn wsX11_felt (va_wsS RX11 174 yX11_isTug wsX11_isTug) := goodIn_app (goodIn_of _ (by decide +kernel)) ggX11_felt_X11_isTug
set_option maxRecDepth 20000 in
theorem ggX11_felt_X11_refuse : GoodIn wsX11_felt wsX11_refuse := goodIn_r _ [23, 24, 25, 26, 6, 27, 28, 29, 30, 70, 71, 72, 73, 74, 75, 76, 77, 78, 79, 80, 81, 82] (by decide +kernel) (by decide +kernel)
set_option maxRecDepth 20000 in
theorem gX11_felt_X11_refuse : GoodIn wsX11_felt (wsV RX11 94 RX11 yX11_refuse wsX11_refuse) := goodIn_app (goodIn_of _ (by decide +kernel)) ggX11_felt_X11_refuse
set_option maxRecDepth 20000 in
theorem ggX11_felt_X10_spread : GoodIn wsX11_felt wsX10_spread := goodIn_r _ [35, 36, 29, 6, 30, 37, 38, 39, 11, 40, 13, 41, 42, 43, 44, 45, 46, 47, 48, 49, 34, 50, 26, 27, 51, 52, 53, 54, 55, 56, 57, 58, 59, 60, 61, 94, 90, 91, 92, 93] (by decide +kernel) (by decide +kernel)
set_option maxRecDepth 20000 in
theorem gX11_felt_X10_spread : GoodIn wsX11_felt (wsV RX11 177 RX10 yX10_spread wsX10_spread) := goodIn_app (goodIn_of _ (by decide +kernel)) ggX11_felt_X10_spread
set_option maxRecDepth 20000 in
theorem ggX11_felt_X10_whoFeel : GoodIn wsX11_felt wsX10_whoFeel := goodIn_r _ [65, 36, 26, 6, 27, 94] (by decide +kernel) (by decide +kernel)
set_option maxRecDepth 20000 in
theorem gX11_felt_X10_whoFeel : GoodIn wsX11_felt (wsV RX11 181 RX10 yX10_whoFeel wsX10_whoFeel) := goodIn_app (goodIn_of _ (by decide +kernel)) ggX11_felt_X10_whoFeel
set_option maxRecDepth 20000 in
theorem ggX11_felt_X10_feltBy : GoodIn wsX11_felt wsX10_feltBy := goodIn_r _ [69, 36, 26, 6, 27, 94] (by decide +kernel) (by decide +kernel)
set_option maxRecDepth 20000 in
theorem gX11_felt_X10_feltBy : GoodIn wsX11_felt (wsV RX11 184 RX10 yX10_feltBy wsX10_feltBy) := goodIn_app (goodIn_of _ (by decide +kernel)) ggX11_felt_X10_feltBy
theorem dX11_felt_0 : decode cX11_felt 0 = .ok (.aload_n 0, 1) := by decide +kernel
theorem dX11_felt_1 : decode cX11_felt 1 = .ok (.iload_n 1, 1) := by decide +kernel
theorem dX11_felt_2 : decode cX11_felt 2 = .ok (.invokevirtual 128, 3) := by decide +kernel
theorem dX11_felt_5 : decode cX11_felt 5 = .ok (.ifCond .eq 23, 3) := by decide +kernel
theorem dX11_felt_8 : decode cX11_felt 8 = .ok (.iload_n 2, 1) := by decide +kernel
theorem dX11_felt_9 : decode cX11_felt 9 = .ok (.invokestatic 174, 3) := by decide +kernel
theorem dX11_felt_12 : decode cX11_felt 12 = .ok (.ifCond .eq 16, 3) := by decide +kernel
theorem dX11_felt_15 : decode cX11_felt 15 = .ok (.iload_n 3, 1) := by decide +kernel
theorem dX11_felt_16 : decode cX11_felt 16 = .ok (.iconst (-1), 1) := by decide +kernel
theorem dX11_felt_17 : decode cX11_felt 17 = .ok (.if_icmp .eq 18, 3) := by decide +kernel
theorem dX11_felt_20 : decode cX11_felt 20 = .ok (.aload_n 0, 1) := by decide +kernel
theorem dX11_felt_21 : decode cX11_felt 21 = .ok (.iload_n 3, 1) := by decide +kernel
theorem dX11_felt_22 : decode cX11_felt 22 = .ok (.invokevirtual 128, 3) := by decide +kernel
theorem dX11_felt_25 : decode cX11_felt 25 = .ok (.ifCond .ne 10, 3) := by decide +kernel
theorem dX11_felt_28 : decode cX11_felt 28 = .ok (.aload_n 0, 1) := by decide +kernel
theorem dX11_felt_29 : decode cX11_felt 29 = .ok (.bipush (-2), 2) := by decide +kernel
theorem dX11_felt_31 : decode cX11_felt 31 = .ok (.invokevirtual 94, 3) := by decide +kernel
theorem dX11_felt_34 : decode cX11_felt 34 = .ok (.ireturn, 1) := by decide +kernel
theorem dX11_felt_35 : decode cX11_felt 35 = .ok (.aload_n 0, 1) := by decide +kernel
theorem dX11_felt_36 : decode cX11_felt 36 = .ok (.getfield 46, 3) := by decide +kernel
theorem dX11_felt_39 : decode cX11_felt 39 = .ok (.aload_n 0, 1) := by decide +kernel
theorem dX11_felt_40 : decode cX11_felt 40 = .ok (.getfield 10, 3) := by decide +kernel
theorem dX11_felt_43 : decode cX11_felt 43 = .ok (.getfield 73, 3) := by decide +kernel
theorem dX11_felt_46 : decode cX11_felt 46 = .ok (.iload_n 1, 1) := by decide +kernel
theorem dX11_felt_47 : decode cX11_felt 47 = .ok (.iload_n 2, 1) := by decide +kernel
theorem dX11_felt_48 : decode cX11_felt 48 = .ok (.invokevirtual 177, 3) := by decide +kernel
theorem dX11_felt_51 : decode cX11_felt 51 = .ok (.iload_n 3, 1) := by decide +kernel
theorem dX11_felt_52 : decode cX11_felt 52 = .ok (.iconst (-1), 1) := by decide +kernel
theorem dX11_felt_53 : decode cX11_felt 53 = .ok (.if_icmp .ne 13, 3) := by decide +kernel
theorem dX11_felt_56 : decode cX11_felt 56 = .ok (.aload_n 0, 1) := by decide +kernel
theorem dX11_felt_57 : decode cX11_felt 57 = .ok (.getfield 46, 3) := by decide +kernel
theorem dX11_felt_60 : decode cX11_felt 60 = .ok (.invokevirtual 181, 3) := by decide +kernel
theorem dX11_felt_63 : decode cX11_felt 63 = .ok (.goto 11, 3) := by decide +kernel
theorem dX11_felt_66 : decode cX11_felt 66 = .ok (.aload_n 0, 1) := by decide +kernel
theorem dX11_felt_67 : decode cX11_felt 67 = .ok (.getfield 46, 3) := by decide +kernel
theorem dX11_felt_70 : decode cX11_felt 70 = .ok (.iload_n 3, 1) := by decide +kernel
theorem dX11_felt_71 : decode cX11_felt 71 = .ok (.invokevirtual 184, 3) := by decide +kernel
theorem dX11_felt_74 : decode cX11_felt 74 = .ok (.ireturn, 1) := by decide +kernel
set_option maxRecDepth 20000 in
theorem ggX11_least_X11_isClerk : GoodIn wsX11_least wsX11_isClerk := goodIn_r _ [7, 2, 8, 9, 10, 11, 12, 13, 60, 61, 62, 63, 64, 65, 66, 67, 68, 69, 70, 71, 72, 73, 74, 75, 76, 77, 78, 79, 80, 81, 82, 83] (by decide +kernel) (by decide +kernel)
set_option maxRecDepth 20000 in
theorem gX11_least_X11_isClerk : GoodIn wsX11_least (wsV RX11 128 RX11 yX11_isClerk wsX11_isClerk) := goodIn_app (goodIn_of _ (by decide +kernel)) ggX11_least_X11_isClerk
set_option maxRecDepth 20000 in
theorem ggX11_least_X11_refuse : GoodIn wsX11_least wsX11_refuse := goodIn_r _ [17, 18, 19, 20, 6, 21, 22, 23, 24, 60, 61, 62, 63, 64, 65, 66, 67, 68, 69, 70, 71, 72] (by decide +kernel) (by decide +kernel)
set_option maxRecDepth 20000 in
theorem gX11_least_X11_refuse : GoodIn wsX11_least (wsV RX11 94 RX11 yX11_refuse wsX11_refuse) := goodIn_app (goodIn_of _ (by decide +kernel)) ggX11_least_X11_refuse
set_option maxRecDepth 20000 in
theorem ggX11_least_X10_spread : GoodIn wsX11_least wsX10_spread := goodIn_r _ [29, 30, 23, 6, 24, 31, 32, 33, 11, 34, 13, 35, 36, 37, 38, 39, 40, 41, 42, 43, 28, 44, 20, 21, 45, 46, 47, 48, 49, 50, 51, 52, 53, 54, 55, 84, 80, 81, 82, 83] (by decide +kernel) (by decide +kernel)
set_option maxRecDepth 20000 in
theorem gX11_least_X10_spread : GoodIn wsX11_least (wsV RX11 177 RX10 yX10_spread wsX10_spread) := goodIn_app (goodIn_of _ (by decide +kernel)) ggX11_least_X10_spread
set_option maxRecDepth 20000 in
theorem ggX11_least_X10_feltBy : GoodIn wsX11_least wsX10_feltBy := goodIn_r _ [59, 30, 20, 6, 21, 84] (by decide +kernel) (by decide +kernel)
set_option maxRecDepth 20000 in
theorem gX11_least_X10_feltBy : GoodIn wsX11_least (wsV RX11 184 RX10 yX10_feltBy wsX10_feltBy) := goodIn_app (goodIn_of _ (by decide +kernel)) ggX11_least_X10_feltBy
theorem dX11_least_0 : decode cX11_least 0 = .ok (.aload_n 0, 1) := by decide +kernel
theorem dX11_least_1 : decode cX11_least 1 = .ok (.iload_n 1, 1) := by decide +kernel
theorem dX11_least_2 : decode cX11_least 2 = .ok (.invokevirtual 128, 3) := by decide +kernel
theorem dX11_least_5 : decode cX11_least 5 = .ok (.ifCond .eq 11, 3) := by decide +kernel
theorem dX11_least_8 : decode cX11_least 8 = .ok (.aload_n 0, 1) := by decide +kernel
theorem dX11_least_9 : decode cX11_least 9 = .ok (.iload_n 2, 1) := by decide +kernel
theorem dX11_least_10 : decode cX11_least 10 = .ok (.invokevirtual 128, 3) := by decide +kernel
theorem dX11_least_13 : decode cX11_least 13 = .ok (.ifCond .ne 10, 3) := by decide +kernel
theorem dX11_least_16 : decode cX11_least 16 = .ok (.aload_n 0, 1) := by decide +kernel
theorem dX11_least_17 : decode cX11_least 17 = .ok (.bipush (-2), 2) := by decide +kernel
theorem dX11_least_19 : decode cX11_least 19 = .ok (.invokevirtual 94, 3) := by decide +kernel
theorem dX11_least_22 : decode cX11_least 22 = .ok (.ireturn, 1) := by decide +kernel
theorem dX11_least_23 : decode cX11_least 23 = .ok (.iconst 1, 1) := by decide +kernel
theorem dX11_least_24 : decode cX11_least 24 = .ok (.istore_n 3, 1) := by decide +kernel
theorem dX11_least_25 : decode cX11_least 25 = .ok (.iload_n 3, 1) := by decide +kernel
theorem dX11_least_26 : decode cX11_least 26 = .ok (.bipush 20, 2) := by decide +kernel
theorem dX11_least_28 : decode cX11_least 28 = .ok (.if_icmp .gt 38, 3) := by decide +kernel
theorem dX11_least_31 : decode cX11_least 31 = .ok (.aload_n 0, 1) := by decide +kernel
theorem dX11_least_32 : decode cX11_least 32 = .ok (.getfield 46, 3) := by decide +kernel
theorem dX11_least_35 : decode cX11_least 35 = .ok (.aload_n 0, 1) := by decide +kernel
theorem dX11_least_36 : decode cX11_least 36 = .ok (.getfield 10, 3) := by decide +kernel
theorem dX11_least_39 : decode cX11_least 39 = .ok (.getfield 73, 3) := by decide +kernel
theorem dX11_least_42 : decode cX11_least 42 = .ok (.iload_n 1, 1) := by decide +kernel
theorem dX11_least_43 : decode cX11_least 43 = .ok (.iload_n 3, 1) := by decide +kernel
theorem dX11_least_44 : decode cX11_least 44 = .ok (.invokevirtual 177, 3) := by decide +kernel
theorem dX11_least_47 : decode cX11_least 47 = .ok (.aload_n 0, 1) := by decide +kernel
theorem dX11_least_48 : decode cX11_least 48 = .ok (.getfield 46, 3) := by decide +kernel
theorem dX11_least_51 : decode cX11_least 51 = .ok (.iload_n 2, 1) := by decide +kernel
theorem dX11_least_52 : decode cX11_least 52 = .ok (.invokevirtual 184, 3) := by decide +kernel
theorem dX11_least_55 : decode cX11_least 55 = .ok (.ifCond .le 5, 3) := by decide +kernel
theorem dX11_least_58 : decode cX11_least 58 = .ok (.iload_n 3, 1) := by decide +kernel
theorem dX11_least_59 : decode cX11_least 59 = .ok (.ireturn, 1) := by decide +kernel
theorem dX11_least_60 : decode cX11_least 60 = .ok (.iinc 3 1, 3) := by decide +kernel
theorem dX11_least_63 : decode cX11_least 63 = .ok (.goto (-38), 3) := by decide +kernel
theorem dX11_least_66 : decode cX11_least 66 = .ok (.iconst (-1), 1) := by decide +kernel
theorem dX11_least_67 : decode cX11_least 67 = .ok (.ireturn, 1) := by decide +kernel
set_option maxRecDepth 20000 in
theorem ggX11_quiet_X11_isClerk : GoodIn wsX11_quiet wsX11_isClerk := goodIn_r _ [7, 1, 8, 9, 10, 11, 12, 13, 68, 69, 70, 71, 72, 73, 74, 75, 76, 77, 78, 79, 80, 81, 82, 83, 84, 85, 86, 87, 88, 89, 90, 91] (by decide +kernel) (by decide +kernel)
set_option maxRecDepth 20000 in
theorem gX11_quiet_X11_isClerk : GoodIn wsX11_quiet (wsV RX11 128 RX11 yX11_isClerk wsX11_isClerk) := goodIn_app (goodIn_of _ (by decide +kernel)) ggX11_quiet_X11_isClerk
set_option maxRecDepth 20000 in
theorem ggX11_quiet_X7_size : GoodIn wsX11_quiet wsX7_size := goodIn_r _ [17, 13, 88, 89, 90, 91] (by decide +kernel) (by decide +kernel)
set_option maxRecDepth 20000 in
theorem gX11_quiet_X7_size : GoodIn wsX11_quiet (wsV RX11 76 RX7 yX7_size wsX7_size) := goodIn_app (goodIn_of _ (by decide +kernel)) ggX11_quiet_X7_size
set_option maxRecDepth 20000 in
theorem ggX11_quiet_X11_within : GoodIn wsX11_quiet wsX11_within := goodIn_r _ [20] (by decide +kernel) (by decide +kernel)
set_option maxRecDepth 20000 in
theorem gX11_quiet_X11_within : GoodIn wsX11_quiet (va_wsS RX11 90 yX11_within wsX11_within) := goodIn_app (goodIn_of _ (by decide +kernel)) ggX11_quiet_X11_within
set_option maxRecDepth 20000 in
theorem ggX11_quiet_X11_refuse : GoodIn wsX11_quiet wsX11_refuse := goodIn_r _ [24, 25, 26, 27, 6, 28, 29, 30, 31, 68, 69, 70, 71, 72, 73, 74, 75, 76, 77, 78, 79, 80] (by decide +kernel) (by decide +kernel)
set_option maxRecDepth 20000 in
theorem gX11_quiet_X11_refuse : GoodIn wsX11_quiet (wsV RX11 94 RX11 yX11_refuse wsX11_refuse) := goodIn_app (goodIn_of _ (by decide +kernel)) ggX11_quiet_X11_refuse
set_option maxRecDepth 20000 in
theorem ggX11_quiet_X10_spread : GoodIn wsX11_quiet wsX10_spread := goodIn_r _ [36, 37, 30, 6, 31, 38, 15, 16, 11, 17, 13, 39, 40, 41, 42, 43, 44, 45, 46, 47, 35, 48, 27, 28, 49, 50, 51, 52, 53, 54, 55, 56, 57, 58, 59, 92, 88, 89, 90, 91] (by decide +kernel) (by decide +kernel)
set_option maxRecDepth 20000 in
theorem gX11_quiet_X10_spread : GoodIn wsX11_quiet (wsV RX11 177 RX10 yX10_spread wsX10_spread) := goodIn_app (goodIn_of _ (by decide +kernel)) ggX11_quiet_X10_spread
set_option maxRecDepth 20000 in
theorem ggX11_quiet_X10_feltBy : GoodIn wsX11_quiet wsX10_feltBy := goodIn_r _ [63, 37, 27, 6, 28, 92] (by decide +kernel) (by decide +kernel)
set_option maxRecDepth 20000 in
theorem gX11_quiet_X10_feltBy : GoodIn wsX11_quiet (wsV RX11 184 RX10 yX10_feltBy wsX10_feltBy) := goodIn_app (goodIn_of _ (by decide +kernel)) ggX11_quiet_X10_feltBy
set_option maxRecDepth 20000 in
theorem ggX11_quiet_X10_whoFeel : GoodIn wsX11_quiet wsX10_whoFeel := goodIn_r _ [67, 37, 27, 6, 28, 92] (by decide +kernel) (by decide +kernel)
set_option maxRecDepth 20000 in
theorem gX11_quiet_X10_whoFeel : GoodIn wsX11_quiet (wsV RX11 181 RX10 yX10_whoFeel wsX10_whoFeel) := goodIn_app (goodIn_of _ (by decide +kernel)) ggX11_quiet_X10_whoFeel
theorem dX11_quiet_0 : decode cX11_quiet 0 = .ok (.aload_n 0, 1) := by decide +kernel
theorem dX11_quiet_1 : decode cX11_quiet 1 = .ok (.iload_n 1, 1) := by decide +kernel
theorem dX11_quiet_2 : decode cX11_quiet 2 = .ok (.invokevirtual 128, 3) := by decide +kernel
theorem dX11_quiet_5 : decode cX11_quiet 5 = .ok (.ifCond .eq 25, 3) := by decide +kernel
theorem dX11_quiet_8 : decode cX11_quiet 8 = .ok (.iload_n 2, 1) := by decide +kernel
theorem dX11_quiet_9 : decode cX11_quiet 9 = .ok (.iconst 0, 1) := by decide +kernel
theorem dX11_quiet_10 : decode cX11_quiet 10 = .ok (.iconst 1, 1) := by decide +kernel
theorem dX11_quiet_11 : decode cX11_quiet 11 = .ok (.aload_n 0, 1) := by decide +kernel
theorem dX11_quiet_12 : decode cX11_quiet 12 = .ok (.getfield 10, 3) := by decide +kernel
theorem dX11_quiet_15 : decode cX11_quiet 15 = .ok (.getfield 73, 3) := by decide +kernel
theorem dX11_quiet_18 : decode cX11_quiet 18 = .ok (.invokevirtual 76, 3) := by decide +kernel
theorem dX11_quiet_21 : decode cX11_quiet 21 = .ok (.ishl, 1) := by decide +kernel
theorem dX11_quiet_22 : decode cX11_quiet 22 = .ok (.iconst 1, 1) := by decide +kernel
theorem dX11_quiet_23 : decode cX11_quiet 23 = .ok (.isub, 1) := by decide +kernel
theorem dX11_quiet_24 : decode cX11_quiet 24 = .ok (.invokestatic 90, 3) := by decide +kernel
theorem dX11_quiet_27 : decode cX11_quiet 27 = .ok (.ifCond .ne 10, 3) := by decide +kernel
theorem dX11_quiet_30 : decode cX11_quiet 30 = .ok (.aload_n 0, 1) := by decide +kernel
theorem dX11_quiet_31 : decode cX11_quiet 31 = .ok (.bipush (-2), 2) := by decide +kernel
theorem dX11_quiet_33 : decode cX11_quiet 33 = .ok (.invokevirtual 94, 3) := by decide +kernel
theorem dX11_quiet_36 : decode cX11_quiet 36 = .ok (.ireturn, 1) := by decide +kernel
theorem dX11_quiet_37 : decode cX11_quiet 37 = .ok (.iconst 1, 1) := by decide +kernel
theorem dX11_quiet_38 : decode cX11_quiet 38 = .ok (.istore_n 3, 1) := by decide +kernel
theorem dX11_quiet_39 : decode cX11_quiet 39 = .ok (.iload_n 3, 1) := by decide +kernel
theorem dX11_quiet_40 : decode cX11_quiet 40 = .ok (.bipush 20, 2) := by decide +kernel
theorem dX11_quiet_42 : decode cX11_quiet 42 = .ok (.if_icmp .gt 81, 3) := by decide +kernel
theorem dX11_quiet_45 : decode cX11_quiet 45 = .ok (.iconst 0, 1) := by decide +kernel
theorem dX11_quiet_46 : decode cX11_quiet 46 = .ok (.istore 4, 2) := by decide +kernel
theorem dX11_quiet_48 : decode cX11_quiet 48 = .ok (.iload 4, 2) := by decide +kernel
theorem dX11_quiet_50 : decode cX11_quiet 50 = .ok (.aload_n 0, 1) := by decide +kernel
theorem dX11_quiet_51 : decode cX11_quiet 51 = .ok (.getfield 10, 3) := by decide +kernel
theorem dX11_quiet_54 : decode cX11_quiet 54 = .ok (.getfield 73, 3) := by decide +kernel
theorem dX11_quiet_57 : decode cX11_quiet 57 = .ok (.invokevirtual 76, 3) := by decide +kernel
theorem dX11_quiet_60 : decode cX11_quiet 60 = .ok (.if_icmp .ge 57, 3) := by decide +kernel
theorem dX11_quiet_63 : decode cX11_quiet 63 = .ok (.aload_n 0, 1) := by decide +kernel
theorem dX11_quiet_64 : decode cX11_quiet 64 = .ok (.getfield 46, 3) := by decide +kernel
theorem dX11_quiet_67 : decode cX11_quiet 67 = .ok (.aload_n 0, 1) := by decide +kernel
theorem dX11_quiet_68 : decode cX11_quiet 68 = .ok (.getfield 10, 3) := by decide +kernel
theorem dX11_quiet_71 : decode cX11_quiet 71 = .ok (.getfield 73, 3) := by decide +kernel
theorem dX11_quiet_74 : decode cX11_quiet 74 = .ok (.iload 4, 2) := by decide +kernel
theorem dX11_quiet_76 : decode cX11_quiet 76 = .ok (.iload_n 3, 1) := by decide +kernel
theorem dX11_quiet_77 : decode cX11_quiet 77 = .ok (.invokevirtual 177, 3) := by decide +kernel
theorem dX11_quiet_80 : decode cX11_quiet 80 = .ok (.aload_n 0, 1) := by decide +kernel
theorem dX11_quiet_81 : decode cX11_quiet 81 = .ok (.getfield 46, 3) := by decide +kernel
theorem dX11_quiet_84 : decode cX11_quiet 84 = .ok (.iload_n 1, 1) := by decide +kernel
theorem dX11_quiet_85 : decode cX11_quiet 85 = .ok (.invokevirtual 184, 3) := by decide +kernel
theorem dX11_quiet_88 : decode cX11_quiet 88 = .ok (.ifCond .le 23, 3) := by decide +kernel
theorem dX11_quiet_91 : decode cX11_quiet 91 = .ok (.aload_n 0, 1) := by decide +kernel
theorem dX11_quiet_92 : decode cX11_quiet 92 = .ok (.getfield 46, 3) := by decide +kernel
theorem dX11_quiet_95 : decode cX11_quiet 95 = .ok (.invokevirtual 181, 3) := by decide +kernel
theorem dX11_quiet_98 : decode cX11_quiet 98 = .ok (.iload_n 2, 1) := by decide +kernel
theorem dX11_quiet_99 : decode cX11_quiet 99 = .ok (.iand, 1) := by decide +kernel
theorem dX11_quiet_100 : decode cX11_quiet 100 = .ok (.ifCond .ne 11, 3) := by decide +kernel
theorem dX11_quiet_103 : decode cX11_quiet 103 = .ok (.bipush 100, 2) := by decide +kernel
theorem dX11_quiet_105 : decode cX11_quiet 105 = .ok (.iload_n 3, 1) := by decide +kernel
theorem dX11_quiet_106 : decode cX11_quiet 106 = .ok (.imul, 1) := by decide +kernel
theorem dX11_quiet_107 : decode cX11_quiet 107 = .ok (.iload 4, 2) := by decide +kernel
theorem dX11_quiet_109 : decode cX11_quiet 109 = .ok (.iadd, 1) := by decide +kernel
theorem dX11_quiet_110 : decode cX11_quiet 110 = .ok (.ireturn, 1) := by decide +kernel
theorem dX11_quiet_111 : decode cX11_quiet 111 = .ok (.iinc 4 1, 3) := by decide +kernel
theorem dX11_quiet_114 : decode cX11_quiet 114 = .ok (.goto (-66), 3) := by decide +kernel
theorem dX11_quiet_117 : decode cX11_quiet 117 = .ok (.iinc 3 1, 3) := by decide +kernel
theorem dX11_quiet_120 : decode cX11_quiet 120 = .ok (.goto (-81), 3) := by decide +kernel
theorem dX11_quiet_123 : decode cX11_quiet 123 = .ok (.iconst (-1), 1) := by decide +kernel
theorem dX11_quiet_124 : decode cX11_quiet 124 = .ok (.ireturn, 1) := by decide +kernel
set_option maxRecDepth 20000 in
theorem ggX11_string_X11_isClerk : GoodIn wsX11_string wsX11_isClerk := goodIn_r _ [6, 1, 7, 8, 9, 10, 11, 12, 77, 78, 79, 80, 81, 82, 83, 84, 85, 86, 87, 88, 89, 90, 91, 92, 93, 94, 95, 96, 97, 98, 99, 100] (by decide +kernel) (by decide +kernel)
set_option maxRecDepth 20000 in
theorem gX11_string_X11_isClerk : GoodIn wsX11_string (wsV RX11 128 RX11 yX11_isClerk wsX11_isClerk) := goodIn_app (goodIn_of _ (by decide +kernel)) ggX11_string_X11_isClerk
set_option maxRecDepth 20000 in
theorem ggX11_string_X11_within : GoodIn wsX11_string wsX11_within := goodIn_r _ [15] (by decide +kernel) (by decide +kernel)
set_option maxRecDepth 20000 in
theorem gX11_string_X11_within : GoodIn wsX11_string (va_wsS RX11 90 yX11_within wsX11_within) := goodIn_app (goodIn_of _ (by decide +kernel)) ggX11_string_X11_within
set_option maxRecDepth 20000 in
theorem ggX11_string_X11_refuse : GoodIn wsX11_string wsX11_refuse := goodIn_r _ [19, 20, 21, 22, 5, 23, 24, 25, 26, 77, 78, 79, 80, 81, 82, 83, 84, 85, 86, 87, 88, 89] (by decide +kernel) (by decide +kernel)
set_option maxRecDepth 20000 in
theorem gX11_string_X11_refuse : GoodIn wsX11_string (wsV RX11 94 RX11 yX11_refuse wsX11_refuse) := goodIn_app (goodIn_of _ (by decide +kernel)) ggX11_string_X11_refuse
set_option maxRecDepth 20000 in
theorem ggX11_string_X0_members : GoodIn wsX11_string wsX0_members := goodIn_r _ [30, 31, 32, 29, 33, 34, 5, 35, 36, 37, 38, 10, 39, 12, 40, 41, 42, 43, 44, 45, 97, 98, 99, 100] (by decide +kernel) (by decide +kernel)
set_option maxRecDepth 20000 in
theorem gX11_string_X0_members : GoodIn wsX11_string (va_wsS RX11 152 yX0_members wsX0_members) := goodIn_app (goodIn_of _ (by decide +kernel)) ggX11_string_X0_members
set_option maxRecDepth 20000 in
theorem ggX11_string_X0_weight : GoodIn wsX11_string wsX0_weight := goodIn_r _ [48, 42, 43, 44, 10, 45, 12, 34, 5, 35, 36, 37, 38, 39, 40, 41, 97, 98, 99, 100] (by decide +kernel) (by decide +kernel)
set_option maxRecDepth 20000 in
theorem gX11_string_X0_weight : GoodIn wsX11_string (va_wsS RX11 187 yX0_weight wsX0_weight) := goodIn_app (goodIn_of _ (by decide +kernel)) ggX11_string_X0_weight
set_option maxRecDepth 20000 in
theorem ggX11_string_X0_longest : GoodIn wsX11_string wsX0_longest := goodIn_r _ [51, 52, 53, 54, 55, 42, 43, 44, 10, 45, 12, 34, 5, 35, 56, 57, 29, 58, 36, 37, 38, 39, 40, 41, 97, 98, 99, 100] (by decide +kernel) (by decide +kernel)
set_option maxRecDepth 20000 in
theorem gX11_string_X0_longest : GoodIn wsX11_string (va_wsS RX11 190 yX0_longest wsX0_longest) := goodIn_app (goodIn_of _ (by decide +kernel)) ggX11_string_X0_longest
set_option maxRecDepth 20000 in
theorem ggX11_string_X1_drawn : GoodIn wsX11_string wsX1_drawn := goodIn_r _ [62, 63, 64, 54, 65, 66, 43, 44, 10, 45, 12, 34, 5, 35, 67, 37, 38, 39, 40, 41, 68, 69, 70, 71, 72, 53, 55, 73, 74, 75, 76, 97, 98, 99, 100] (by decide +kernel) (by decide +kernel)
set_option maxRecDepth 20000 in
theorem gX11_string_X1_drawn : GoodIn wsX11_string (va_wsS RX11 193 yX1_drawn wsX1_drawn) := goodIn_app (goodIn_of _ (by decide +kernel)) ggX11_string_X1_drawn
theorem dX11_string_0 : decode cX11_string 0 = .ok (.aload_n 0, 1) := by decide +kernel
theorem dX11_string_1 : decode cX11_string 1 = .ok (.iload_n 1, 1) := by decide +kernel
theorem dX11_string_2 : decode cX11_string 2 = .ok (.invokevirtual 128, 3) := by decide +kernel
theorem dX11_string_5 : decode cX11_string 5 = .ok (.ifCond .eq 12, 3) := by decide +kernel
theorem dX11_string_8 : decode cX11_string 8 = .ok (.iload_n 2, 1) := by decide +kernel
theorem dX11_string_9 : decode cX11_string 9 = .ok (.iconst 0, 1) := by decide +kernel
theorem dX11_string_10 : decode cX11_string 10 = .ok (.iconst 3, 1) := by decide +kernel
theorem dX11_string_11 : decode cX11_string 11 = .ok (.invokestatic 90, 3) := by decide +kernel
theorem dX11_string_14 : decode cX11_string 14 = .ok (.ifCond .ne 14, 3) := by decide +kernel
theorem dX11_string_17 : decode cX11_string 17 = .ok (.aload_n 0, 1) := by decide +kernel
theorem dX11_string_18 : decode cX11_string 18 = .ok (.bipush (-2), 2) := by decide +kernel
theorem dX11_string_20 : decode cX11_string 20 = .ok (.invokevirtual 94, 3) := by decide +kernel
theorem dX11_string_23 : decode cX11_string 23 = .ok (.pop, 1) := by decide +kernel
theorem dX11_string_24 : decode cX11_string 24 = .ok (.sipush (-1000), 3) := by decide +kernel
theorem dX11_string_27 : decode cX11_string 27 = .ok (.ireturn, 1) := by decide +kernel
theorem dX11_string_28 : decode cX11_string 28 = .ok (.aload_n 0, 1) := by decide +kernel
theorem dX11_string_29 : decode cX11_string 29 = .ok (.getfield 10, 3) := by decide +kernel
theorem dX11_string_32 : decode cX11_string 32 = .ok (.getfield 73, 3) := by decide +kernel
theorem dX11_string_35 : decode cX11_string 35 = .ok (.iload_n 1, 1) := by decide +kernel
theorem dX11_string_36 : decode cX11_string 36 = .ok (.invokestatic 152, 3) := by decide +kernel
theorem dX11_string_39 : decode cX11_string 39 = .ok (.istore_n 3, 1) := by decide +kernel
theorem dX11_string_40 : decode cX11_string 40 = .ok (.iload_n 2, 1) := by decide +kernel
theorem dX11_string_41 : decode cX11_string 41 = .ok (.tableswitch 53 0 2 #[27, 29, 41], 27) := by decide +kernel
theorem dX11_string_68 : decode cX11_string 68 = .ok (.iload_n 3, 1) := by decide +kernel
theorem dX11_string_69 : decode cX11_string 69 = .ok (.ireturn, 1) := by decide +kernel
theorem dX11_string_70 : decode cX11_string 70 = .ok (.aload_n 0, 1) := by decide +kernel
theorem dX11_string_71 : decode cX11_string 71 = .ok (.getfield 10, 3) := by decide +kernel
theorem dX11_string_74 : decode cX11_string 74 = .ok (.getfield 73, 3) := by decide +kernel
theorem dX11_string_77 : decode cX11_string 77 = .ok (.iload_n 3, 1) := by decide +kernel
theorem dX11_string_78 : decode cX11_string 78 = .ok (.invokestatic 187, 3) := by decide +kernel
theorem dX11_string_81 : decode cX11_string 81 = .ok (.ireturn, 1) := by decide +kernel
theorem dX11_string_82 : decode cX11_string 82 = .ok (.aload_n 0, 1) := by decide +kernel
theorem dX11_string_83 : decode cX11_string 83 = .ok (.getfield 10, 3) := by decide +kernel
theorem dX11_string_86 : decode cX11_string 86 = .ok (.getfield 73, 3) := by decide +kernel
theorem dX11_string_89 : decode cX11_string 89 = .ok (.iload_n 3, 1) := by decide +kernel
theorem dX11_string_90 : decode cX11_string 90 = .ok (.invokestatic 190, 3) := by decide +kernel
theorem dX11_string_93 : decode cX11_string 93 = .ok (.ireturn, 1) := by decide +kernel
theorem dX11_string_94 : decode cX11_string 94 = .ok (.aload_n 0, 1) := by decide +kernel
theorem dX11_string_95 : decode cX11_string 95 = .ok (.getfield 10, 3) := by decide +kernel
theorem dX11_string_98 : decode cX11_string 98 = .ok (.getfield 73, 3) := by decide +kernel
theorem dX11_string_101 : decode cX11_string 101 = .ok (.aload_n 0, 1) := by decide +kernel
theorem dX11_string_102 : decode cX11_string 102 = .ok (.getfield 10, 3) := by decide +kernel
theorem dX11_string_105 : decode cX11_string 105 = .ok (.getfield 106, 3) := by decide +kernel
theorem dX11_string_108 : decode cX11_string 108 = .ok (.iload_n 3, 1) := by decide +kernel
theorem dX11_string_109 : decode cX11_string 109 = .ok (.aload_n 0, 1) := by decide +kernel
theorem dX11_string_110 : decode cX11_string 110 = .ok (.getfield 10, 3) := by decide +kernel
theorem dX11_string_113 : decode cX11_string 113 = .ok (.getfield 170, 3) := by decide +kernel
theorem dX11_string_116 : decode cX11_string 116 = .ok (.invokestatic 193, 3) := by decide +kernel
theorem dX11_string_119 : decode cX11_string 119 = .ok (.ireturn, 1) := by decide +kernel
set_option maxRecDepth 20000 in
theorem ggX11_strings_X11_within : GoodIn wsX11_strings wsX11_within := goodIn_r _ [5] (by decide +kernel) (by decide +kernel)
set_option maxRecDepth 20000 in
theorem gX11_strings_X11_within : GoodIn wsX11_strings (va_wsS RX11 90 yX11_within wsX11_within) := goodIn_app (goodIn_of _ (by decide +kernel)) ggX11_strings_X11_within
set_option maxRecDepth 20000 in
theorem ggX11_strings_X11_refuse : GoodIn wsX11_strings wsX11_refuse := goodIn_r _ [9, 10, 11, 12, 4, 13, 14, 15, 16, 39, 40, 41, 42, 43, 44, 45, 46, 47, 48, 49, 50, 51] (by decide +kernel) (by decide +kernel)
set_option maxRecDepth 20000 in
theorem gX11_strings_X11_refuse : GoodIn wsX11_strings (wsV RX11 94 RX11 yX11_refuse wsX11_refuse) := goodIn_app (goodIn_of _ (by decide +kernel)) ggX11_strings_X11_refuse
set_option maxRecDepth 20000 in
theorem ggX11_strings_X0_howMany : GoodIn wsX11_strings wsX0_howMany := goodIn_r _ [20, 21, 22, 19, 23, 24, 25, 26, 27, 28, 29, 30, 31, 32, 33, 34, 35, 59, 60, 61, 62] (by decide +kernel) (by decide +kernel)
set_option maxRecDepth 20000 in
theorem gX11_strings_X0_howMany : GoodIn wsX11_strings (va_wsS RX11 199 yX0_howMany wsX0_howMany) := goodIn_app (goodIn_of _ (by decide +kernel)) ggX11_strings_X0_howMany
set_option maxRecDepth 20000 in
theorem ggX11_strings_X0_ends : GoodIn wsX11_strings wsX0_ends := goodIn_r _ [38, 24, 25, 26, 27, 28, 29, 21, 22, 19, 23, 30, 31, 32, 33, 34, 35, 59, 60, 61, 62] (by decide +kernel) (by decide +kernel)
set_option maxRecDepth 20000 in
theorem gX11_strings_X0_ends : GoodIn wsX11_strings (va_wsS RX11 203 yX0_ends wsX0_ends) := goodIn_app (goodIn_of _ (by decide +kernel)) ggX11_strings_X0_ends
theorem dX11_strings_0 : decode cX11_strings 0 = .ok (.iload_n 1, 1) := by decide +kernel
theorem dX11_strings_1 : decode cX11_strings 1 = .ok (.iconst 0, 1) := by decide +kernel
theorem dX11_strings_2 : decode cX11_strings 2 = .ok (.iconst 1, 1) := by decide +kernel
theorem dX11_strings_3 : decode cX11_strings 3 = .ok (.invokestatic 90, 3) := by decide +kernel
theorem dX11_strings_6 : decode cX11_strings 6 = .ok (.ifCond .ne 10, 3) := by decide +kernel
theorem dX11_strings_9 : decode cX11_strings 9 = .ok (.aload_n 0, 1) := by decide +kernel
theorem dX11_strings_10 : decode cX11_strings 10 = .ok (.bipush (-2), 2) := by decide +kernel
theorem dX11_strings_12 : decode cX11_strings 12 = .ok (.invokevirtual 94, 3) := by decide +kernel
theorem dX11_strings_15 : decode cX11_strings 15 = .ok (.ireturn, 1) := by decide +kernel
theorem dX11_strings_16 : decode cX11_strings 16 = .ok (.iload_n 1, 1) := by decide +kernel
theorem dX11_strings_17 : decode cX11_strings 17 = .ok (.ifCond .ne 16, 3) := by decide +kernel
theorem dX11_strings_20 : decode cX11_strings 20 = .ok (.aload_n 0, 1) := by decide +kernel
theorem dX11_strings_21 : decode cX11_strings 21 = .ok (.getfield 10, 3) := by decide +kernel
theorem dX11_strings_24 : decode cX11_strings 24 = .ok (.getfield 73, 3) := by decide +kernel
theorem dX11_strings_27 : decode cX11_strings 27 = .ok (.invokestatic 199, 3) := by decide +kernel
theorem dX11_strings_30 : decode cX11_strings 30 = .ok (.goto 13, 3) := by decide +kernel
theorem dX11_strings_33 : decode cX11_strings 33 = .ok (.aload_n 0, 1) := by decide +kernel
theorem dX11_strings_34 : decode cX11_strings 34 = .ok (.getfield 10, 3) := by decide +kernel
theorem dX11_strings_37 : decode cX11_strings 37 = .ok (.getfield 73, 3) := by decide +kernel
theorem dX11_strings_40 : decode cX11_strings 40 = .ok (.invokestatic 203, 3) := by decide +kernel
theorem dX11_strings_43 : decode cX11_strings 43 = .ok (.ireturn, 1) := by decide +kernel
set_option maxRecDepth 20000 in
theorem ggX11_then_X11_isClerk : GoodIn wsX11_then wsX11_isClerk := goodIn_r _ [7, 2, 8, 9, 10, 11, 12, 13, 96, 97, 98, 99, 100, 101, 102, 103, 104, 105, 106, 107, 108, 109, 110, 111, 112, 113, 114, 115, 116, 117, 118, 119] (by decide +kernel) (by decide +kernel)
set_option maxRecDepth 20000 in
theorem gX11_then_X11_isClerk : GoodIn wsX11_then (wsV RX11 128 RX11 yX11_isClerk wsX11_isClerk) := goodIn_app (goodIn_of _ (by decide +kernel)) ggX11_then_X11_isClerk
set_option maxRecDepth 20000 in
theorem ggX11_then_X11_within : GoodIn wsX11_then wsX11_within := goodIn_r _ [16] (by decide +kernel) (by decide +kernel)
set_option maxRecDepth 20000 in
theorem gX11_then_X11_within : GoodIn wsX11_then (va_wsS RX11 90 yX11_within wsX11_within) := goodIn_app (goodIn_of _ (by decide +kernel)) ggX11_then_X11_within
set_option maxRecDepth 20000 in
theorem ggX11_then_X11_refuse : GoodIn wsX11_then wsX11_refuse := goodIn_r _ [20, 21, 22, 23, 6, 24, 25, 26, 27, 96, 97, 98, 99, 100, 101, 102, 103, 104, 105, 106, 107, 108] (by decide +kernel) (by decide +kernel)
set_option maxRecDepth 20000 in
theorem gX11_then_X11_refuse : GoodIn wsX11_then (wsV RX11 94 RX11 yX11_refuse wsX11_refuse) := goodIn_app (goodIn_of _ (by decide +kernel)) ggX11_then_X11_refuse
set_option maxRecDepth 20000 in
theorem ggX11_then_X7_copyFrom : GoodIn wsX11_then wsX7_copyFrom := goodIn_r _ [31, 13, 32, 33, 34, 35, 36, 37, 38, 23, 6, 24, 26, 27, 116, 117, 118, 119] (by decide +kernel) (by decide +kernel)
set_option maxRecDepth 20000 in
theorem gX11_then_X7_copyFrom : GoodIn wsX11_then (wsV RX11 206 RX7 yX7_copyFrom wsX7_copyFrom) := goodIn_app (goodIn_of _ (by decide +kernel)) ggX11_then_X7_copyFrom
set_option maxRecDepth 20000 in
theorem ggX11_then_X1_passDays : GoodIn wsX11_then wsX1_passDays := goodIn_r _ [42, 43, 44, 45, 11, 46, 13, 47, 48, 49, 50, 37, 38, 51, 52, 53, 54, 55, 56, 57, 58, 6, 59, 60, 61, 62, 63, 41, 64, 65, 66, 35, 67, 68, 69, 70, 71, 72, 73, 74, 75, 76, 77, 78, 79, 80, 81, 82, 83, 84, 85, 86, 14, 15, 16, 87, 88, 89, 90, 34, 36, 91, 92, 93, 94, 116, 117, 118, 119] (by decide +kernel) (by decide +kernel)
set_option maxRecDepth 20000 in
theorem gX11_then_X1_passDays : GoodIn wsX11_then (va_wsS RX11 209 yX1_passDays wsX1_passDays) := goodIn_app (goodIn_of _ (by decide +kernel)) ggX11_then_X1_passDays
set_option maxRecDepth 20000 in
theorem ggX11_then_X7_get : GoodIn wsX11_then wsX7_get := goodIn_r _ [50, 13, 37, 38, 116, 117, 118, 119] (by decide +kernel) (by decide +kernel)
set_option maxRecDepth 20000 in
theorem gX11_then_X7_get : GoodIn wsX11_then (wsV RX11 131 RX7 yX7_get wsX7_get) := goodIn_app (goodIn_of _ (by decide +kernel)) ggX11_then_X7_get
theorem dX11_then_0 : decode cX11_then 0 = .ok (.aload_n 0, 1) := by decide +kernel
theorem dX11_then_1 : decode cX11_then 1 = .ok (.iload_n 1, 1) := by decide +kernel
theorem dX11_then_2 : decode cX11_then 2 = .ok (.invokevirtual 128, 3) := by decide +kernel
theorem dX11_then_5 : decode cX11_then 5 = .ok (.ifCond .eq 13, 3) := by decide +kernel
theorem dX11_then_8 : decode cX11_then 8 = .ok (.iload_n 2, 1) := by decide +kernel
theorem dX11_then_9 : decode cX11_then 9 = .ok (.iconst 0, 1) := by decide +kernel
theorem dX11_then_10 : decode cX11_then 10 = .ok (.bipush 60, 2) := by decide +kernel
theorem dX11_then_12 : decode cX11_then 12 = .ok (.invokestatic 90, 3) := by decide +kernel
theorem dX11_then_15 : decode cX11_then 15 = .ok (.ifCond .ne 10, 3) := by decide +kernel
theorem dX11_then_18 : decode cX11_then 18 = .ok (.aload_n 0, 1) := by decide +kernel
theorem dX11_then_19 : decode cX11_then 19 = .ok (.bipush (-2), 2) := by decide +kernel
theorem dX11_then_21 : decode cX11_then 21 = .ok (.invokevirtual 94, 3) := by decide +kernel
theorem dX11_then_24 : decode cX11_then 24 = .ok (.ireturn, 1) := by decide +kernel
theorem dX11_then_25 : decode cX11_then 25 = .ok (.aload_n 0, 1) := by decide +kernel
theorem dX11_then_26 : decode cX11_then 26 = .ok (.getfield 69, 3) := by decide +kernel
theorem dX11_then_29 : decode cX11_then 29 = .ok (.aload_n 0, 1) := by decide +kernel
theorem dX11_then_30 : decode cX11_then 30 = .ok (.getfield 10, 3) := by decide +kernel
theorem dX11_then_33 : decode cX11_then 33 = .ok (.getfield 73, 3) := by decide +kernel
theorem dX11_then_36 : decode cX11_then 36 = .ok (.invokevirtual 206, 3) := by decide +kernel
theorem dX11_then_39 : decode cX11_then 39 = .ok (.aload_n 0, 1) := by decide +kernel
theorem dX11_then_40 : decode cX11_then 40 = .ok (.getfield 69, 3) := by decide +kernel
theorem dX11_then_43 : decode cX11_then 43 = .ok (.aload_n 0, 1) := by decide +kernel
theorem dX11_then_44 : decode cX11_then 44 = .ok (.getfield 10, 3) := by decide +kernel
theorem dX11_then_47 : decode cX11_then 47 = .ok (.getfield 106, 3) := by decide +kernel
theorem dX11_then_50 : decode cX11_then 50 = .ok (.aload_n 0, 1) := by decide +kernel
theorem dX11_then_51 : decode cX11_then 51 = .ok (.getfield 10, 3) := by decide +kernel
theorem dX11_then_54 : decode cX11_then 54 = .ok (.getfield 170, 3) := by decide +kernel
theorem dX11_then_57 : decode cX11_then 57 = .ok (.iload_n 2, 1) := by decide +kernel
theorem dX11_then_58 : decode cX11_then 58 = .ok (.invokestatic 209, 3) := by decide +kernel
theorem dX11_then_61 : decode cX11_then 61 = .ok (.pop, 1) := by decide +kernel
theorem dX11_then_62 : decode cX11_then 62 = .ok (.aload_n 0, 1) := by decide +kernel
theorem dX11_then_63 : decode cX11_then 63 = .ok (.getfield 69, 3) := by decide +kernel
theorem dX11_then_66 : decode cX11_then 66 = .ok (.iload_n 1, 1) := by decide +kernel
theorem dX11_then_67 : decode cX11_then 67 = .ok (.iconst 1, 1) := by decide +kernel
theorem dX11_then_68 : decode cX11_then 68 = .ok (.invokevirtual 131, 3) := by decide +kernel
theorem dX11_then_71 : decode cX11_then 71 = .ok (.ireturn, 1) := by decide +kernel
set_option maxRecDepth 20000 in
theorem ggX11_lunch_X11_within : GoodIn wsX11_lunch wsX11_within := goodIn_r _ [6] (by decide +kernel) (by decide +kernel)
set_option maxRecDepth 20000 in
theorem gX11_lunch_X11_within : GoodIn wsX11_lunch (va_wsS RX11 90 yX11_within wsX11_within) := goodIn_app (goodIn_of _ (by decide +kernel)) ggX11_lunch_X11_within
set_option maxRecDepth 20000 in
theorem ggX11_lunch_X8_fewest : GoodIn wsX11_lunch wsX8_fewest := goodIn_r _ [11, 12, 13, 14, 15, 16, 17, 10, 18, 19, 20, 21, 22, 23, 24, 25, 26, 27, 28, 29, 30, 31, 32, 33, 34, 35, 36, 37, 38, 5, 39, 40, 41, 42, 43, 44, 45, 46, 47, 48, 49, 50, 51, 52, 53, 54, 55, 56, 57, 58, 59, 60, 61, 62, 63, 64, 92, 93, 94, 95, 96, 97, 98, 99] (by decide +kernel) (by decide +kernel)
set_option maxRecDepth 20000 in
theorem gX11_lunch_X8_fewest : GoodIn wsX11_lunch (wsV RX11 211 RX8 yX8_fewest wsX8_fewest) := goodIn_app (goodIn_of _ (by decide +kernel)) ggX11_lunch_X8_fewest
set_option maxRecDepth 20000 in
theorem ggX11_lunch_X11_refuse : GoodIn wsX11_lunch wsX11_refuse := goodIn_r _ [68, 69, 70, 51, 5, 52, 71, 49, 50, 72, 73, 74, 75, 76, 77, 78, 79, 80, 81, 82, 83, 84] (by decide +kernel) (by decide +kernel)
set_option maxRecDepth 20000 in
theorem gX11_lunch_X11_refuse : GoodIn wsX11_lunch (wsV RX11 94 RX11 yX11_refuse wsX11_refuse) := goodIn_app (goodIn_of _ (by decide +kernel)) ggX11_lunch_X11_refuse
theorem dX11_lunch_0 : decode cX11_lunch 0 = .ok (.iload_n 1, 1) := by decide +kernel
theorem dX11_lunch_1 : decode cX11_lunch 1 = .ok (.iconst 1, 1) := by decide +kernel
theorem dX11_lunch_2 : decode cX11_lunch 2 = .ok (.bipush 7, 2) := by decide +kernel
theorem dX11_lunch_4 : decode cX11_lunch 4 = .ok (.invokestatic 90, 3) := by decide +kernel
theorem dX11_lunch_7 : decode cX11_lunch 7 = .ok (.ifCond .eq 21, 3) := by decide +kernel
theorem dX11_lunch_10 : decode cX11_lunch 10 = .ok (.aload_n 0, 1) := by decide +kernel
theorem dX11_lunch_11 : decode cX11_lunch 11 = .ok (.getfield 60, 3) := by decide +kernel
theorem dX11_lunch_14 : decode cX11_lunch 14 = .ok (.aload_n 0, 1) := by decide +kernel
theorem dX11_lunch_15 : decode cX11_lunch 15 = .ok (.getfield 10, 3) := by decide +kernel
theorem dX11_lunch_18 : decode cX11_lunch 18 = .ok (.getfield 73, 3) := by decide +kernel
theorem dX11_lunch_21 : decode cX11_lunch 21 = .ok (.iload_n 1, 1) := by decide +kernel
theorem dX11_lunch_22 : decode cX11_lunch 22 = .ok (.invokevirtual 211, 3) := by decide +kernel
theorem dX11_lunch_25 : decode cX11_lunch 25 = .ok (.goto 9, 3) := by decide +kernel
theorem dX11_lunch_28 : decode cX11_lunch 28 = .ok (.aload_n 0, 1) := by decide +kernel
theorem dX11_lunch_29 : decode cX11_lunch 29 = .ok (.bipush (-2), 2) := by decide +kernel
theorem dX11_lunch_31 : decode cX11_lunch 31 = .ok (.invokevirtual 94, 3) := by decide +kernel
theorem dX11_lunch_34 : decode cX11_lunch 34 = .ok (.ireturn, 1) := by decide +kernel
set_option maxRecDepth 20000 in
theorem ggX11_free_X11_within : GoodIn wsX11_free wsX11_within := goodIn_r _ [6] (by decide +kernel) (by decide +kernel)
set_option maxRecDepth 20000 in
theorem gX11_free_X11_within : GoodIn wsX11_free (va_wsS RX11 90 yX11_within wsX11_within) := goodIn_app (goodIn_of _ (by decide +kernel)) ggX11_free_X11_within
set_option maxRecDepth 20000 in
theorem ggX11_free_X8_fewestUnbent : GoodIn wsX11_free wsX8_fewestUnbent := goodIn_r _ [11, 12, 13, 14, 15, 16, 17, 18, 19, 20, 21, 22, 23, 24, 25, 26, 27, 28, 29, 30, 31, 32, 33, 10, 34, 35, 36, 5, 37, 38, 39, 40, 41, 42, 43, 44, 45, 46, 74, 75, 76, 77, 78, 79, 80, 81] (by decide +kernel) (by decide +kernel)
set_option maxRecDepth 20000 in
theorem gX11_free_X8_fewestUnbent : GoodIn wsX11_free (wsV RX11 214 RX8 yX8_fewestUnbent wsX8_fewestUnbent) := goodIn_app (goodIn_of _ (by decide +kernel)) ggX11_free_X8_fewestUnbent
set_option maxRecDepth 20000 in
theorem ggX11_free_X11_refuse : GoodIn wsX11_free wsX11_refuse := goodIn_r _ [50, 51, 52, 45, 5, 46, 53, 36, 37, 54, 55, 56, 57, 58, 59, 60, 61, 62, 63, 64, 65, 66] (by decide +kernel) (by decide +kernel)
set_option maxRecDepth 20000 in
theorem gX11_free_X11_refuse : GoodIn wsX11_free (wsV RX11 94 RX11 yX11_refuse wsX11_refuse) := goodIn_app (goodIn_of _ (by decide +kernel)) ggX11_free_X11_refuse
theorem dX11_free_0 : decode cX11_free 0 = .ok (.iload_n 1, 1) := by decide +kernel
theorem dX11_free_1 : decode cX11_free 1 = .ok (.iconst 1, 1) := by decide +kernel
theorem dX11_free_2 : decode cX11_free 2 = .ok (.bipush 63, 2) := by decide +kernel
theorem dX11_free_4 : decode cX11_free 4 = .ok (.invokestatic 90, 3) := by decide +kernel
theorem dX11_free_7 : decode cX11_free 7 = .ok (.ifCond .eq 21, 3) := by decide +kernel
theorem dX11_free_10 : decode cX11_free 10 = .ok (.aload_n 0, 1) := by decide +kernel
theorem dX11_free_11 : decode cX11_free 11 = .ok (.getfield 60, 3) := by decide +kernel
theorem dX11_free_14 : decode cX11_free 14 = .ok (.aload_n 0, 1) := by decide +kernel
theorem dX11_free_15 : decode cX11_free 15 = .ok (.getfield 10, 3) := by decide +kernel
theorem dX11_free_18 : decode cX11_free 18 = .ok (.getfield 73, 3) := by decide +kernel
theorem dX11_free_21 : decode cX11_free 21 = .ok (.iload_n 1, 1) := by decide +kernel
theorem dX11_free_22 : decode cX11_free 22 = .ok (.invokevirtual 214, 3) := by decide +kernel
theorem dX11_free_25 : decode cX11_free 25 = .ok (.goto 9, 3) := by decide +kernel
theorem dX11_free_28 : decode cX11_free 28 = .ok (.aload_n 0, 1) := by decide +kernel
theorem dX11_free_29 : decode cX11_free 29 = .ok (.bipush (-2), 2) := by decide +kernel
theorem dX11_free_31 : decode cX11_free 31 = .ok (.invokevirtual 94, 3) := by decide +kernel
theorem dX11_free_34 : decode cX11_free 34 = .ok (.ireturn, 1) := by decide +kernel
set_option maxRecDepth 20000 in
theorem ggX11_caught_X11_isClerk : GoodIn wsX11_caught wsX11_isClerk := goodIn_r _ [6, 1, 7, 8, 9, 10, 11, 12, 51, 52, 53, 54, 55, 56, 57, 58, 59, 60, 61, 62, 63, 64, 65, 66, 67, 68, 69, 70, 71, 72, 73, 74] (by decide +kernel) (by decide +kernel)
set_option maxRecDepth 20000 in
theorem gX11_caught_X11_isClerk : GoodIn wsX11_caught (wsV RX11 128 RX11 yX11_isClerk wsX11_isClerk) := goodIn_app (goodIn_of _ (by decide +kernel)) ggX11_caught_X11_isClerk
set_option maxRecDepth 20000 in
theorem ggX11_caught_X11_refuse : GoodIn wsX11_caught wsX11_refuse := goodIn_r _ [16, 17, 18, 19, 5, 20, 21, 22, 23, 51, 52, 53, 54, 55, 56, 57, 58, 59, 60, 61, 62, 63] (by decide +kernel) (by decide +kernel)
set_option maxRecDepth 20000 in
theorem gX11_caught_X11_refuse : GoodIn wsX11_caught (wsV RX11 94 RX11 yX11_refuse wsX11_refuse) := goodIn_app (goodIn_of _ (by decide +kernel)) ggX11_caught_X11_refuse
set_option maxRecDepth 20000 in
theorem ggX11_caught_X7_get : GoodIn wsX11_caught wsX7_get := goodIn_r _ [27, 12, 28, 29, 71, 72, 73, 74] (by decide +kernel) (by decide +kernel)
set_option maxRecDepth 20000 in
theorem gX11_caught_X7_get : GoodIn wsX11_caught (wsV RX11 131 RX7 yX7_get wsX7_get) := goodIn_app (goodIn_of _ (by decide +kernel)) ggX11_caught_X7_get
set_option maxRecDepth 20000 in
theorem ggX11_caught_X0_holdersFor : GoodIn wsX11_caught wsX0_holdersFor := goodIn_r _ [33, 34, 35, 36, 10, 37, 12, 38, 39, 32, 40, 41, 42, 43, 44, 25, 26, 27, 28, 29, 45, 46, 47, 48, 49, 50, 71, 72, 73, 74] (by decide +kernel) (by decide +kernel)
set_option maxRecDepth 20000 in
theorem gX11_caught_X0_holdersFor : GoodIn wsX11_caught (va_wsS RX11 217 yX0_holdersFor wsX0_holdersFor) := goodIn_app (goodIn_of _ (by decide +kernel)) ggX11_caught_X0_holdersFor
theorem dX11_caught_0 : decode cX11_caught 0 = .ok (.aload_n 0, 1) := by decide +kernel
theorem dX11_caught_1 : decode cX11_caught 1 = .ok (.iload_n 1, 1) := by decide +kernel
theorem dX11_caught_2 : decode cX11_caught 2 = .ok (.invokevirtual 128, 3) := by decide +kernel
theorem dX11_caught_5 : decode cX11_caught 5 = .ok (.ifCond .ne 10, 3) := by decide +kernel
theorem dX11_caught_8 : decode cX11_caught 8 = .ok (.aload_n 0, 1) := by decide +kernel
theorem dX11_caught_9 : decode cX11_caught 9 = .ok (.bipush (-2), 2) := by decide +kernel
theorem dX11_caught_11 : decode cX11_caught 11 = .ok (.invokevirtual 94, 3) := by decide +kernel
theorem dX11_caught_14 : decode cX11_caught 14 = .ok (.ireturn, 1) := by decide +kernel
theorem dX11_caught_15 : decode cX11_caught 15 = .ok (.aload_n 0, 1) := by decide +kernel
theorem dX11_caught_16 : decode cX11_caught 16 = .ok (.getfield 10, 3) := by decide +kernel
theorem dX11_caught_19 : decode cX11_caught 19 = .ok (.getfield 73, 3) := by decide +kernel
theorem dX11_caught_22 : decode cX11_caught 22 = .ok (.iload_n 1, 1) := by decide +kernel
theorem dX11_caught_23 : decode cX11_caught 23 = .ok (.iconst 4, 1) := by decide +kernel
theorem dX11_caught_24 : decode cX11_caught 24 = .ok (.invokevirtual 131, 3) := by decide +kernel
theorem dX11_caught_27 : decode cX11_caught 27 = .ok (.iconst (-1), 1) := by decide +kernel
theorem dX11_caught_28 : decode cX11_caught 28 = .ok (.if_icmp .eq 12, 3) := by decide +kernel
theorem dX11_caught_31 : decode cX11_caught 31 = .ok (.aload_n 0, 1) := by decide +kernel
theorem dX11_caught_32 : decode cX11_caught 32 = .ok (.bipush (-3), 2) := by decide +kernel
theorem dX11_caught_34 : decode cX11_caught 34 = .ok (.invokevirtual 94, 3) := by decide +kernel
theorem dX11_caught_37 : decode cX11_caught 37 = .ok (.goto 14, 3) := by decide +kernel
theorem dX11_caught_40 : decode cX11_caught 40 = .ok (.aload_n 0, 1) := by decide +kernel
theorem dX11_caught_41 : decode cX11_caught 41 = .ok (.getfield 10, 3) := by decide +kernel
theorem dX11_caught_44 : decode cX11_caught 44 = .ok (.getfield 73, 3) := by decide +kernel
theorem dX11_caught_47 : decode cX11_caught 47 = .ok (.iload_n 1, 1) := by decide +kernel
theorem dX11_caught_48 : decode cX11_caught 48 = .ok (.invokestatic 217, 3) := by decide +kernel
theorem dX11_caught_51 : decode cX11_caught 51 = .ok (.ireturn, 1) := by decide +kernel
set_option maxRecDepth 20000 in
theorem ggX11_told_X11_isClerk : GoodIn wsX11_told wsX11_isClerk := goodIn_r _ [6, 1, 7, 8, 9, 10, 11, 12, 54, 55, 56, 57, 58, 59, 60, 61, 62, 63, 64, 65, 66, 67, 68, 69, 70, 71, 72, 73, 74, 75, 76, 77] (by decide +kernel) (by decide +kernel)
set_option maxRecDepth 20000 in
theorem gX11_told_X11_isClerk : GoodIn wsX11_told (wsV RX11 128 RX11 yX11_isClerk wsX11_isClerk) := goodIn_app (goodIn_of _ (by decide +kernel)) ggX11_told_X11_isClerk
set_option maxRecDepth 20000 in
theorem ggX11_told_X11_isTug : GoodIn wsX11_told wsX11_isTug := goodIn_r _ [15, 16, 17, 5, 18] (by decide +kernel) (by decide +kernel)
set_option maxRecDepth 20000 in
theorem gX11_told_X11_isTug : GoodIn wsX11_told (va_wsS RX11 174 yX11_isTug wsX11_isTug) := goodIn_app (goodIn_of _ (by decide +kernel)) ggX11_told_X11_isTug
set_option maxRecDepth 20000 in
theorem ggX11_told_X11_within : GoodIn wsX11_told wsX11_within := goodIn_r _ [18] (by decide +kernel) (by decide +kernel)
set_option maxRecDepth 20000 in
theorem gX11_told_X11_within : GoodIn wsX11_told (va_wsS RX11 90 yX11_within wsX11_within) := goodIn_app (goodIn_of _ (by decide +kernel)) ggX11_told_X11_within
set_option maxRecDepth 20000 in
theorem ggX11_told_X11_refuse : GoodIn wsX11_told wsX11_refuse := goodIn_r _ [22, 23, 24, 25, 5, 26, 27, 28, 29, 54, 55, 56, 57, 58, 59, 60, 61, 62, 63, 64, 65, 66] (by decide +kernel) (by decide +kernel)
set_option maxRecDepth 20000 in
theorem gX11_told_X11_refuse : GoodIn wsX11_told (wsV RX11 94 RX11 yX11_refuse wsX11_refuse) := goodIn_app (goodIn_of _ (by decide +kernel)) ggX11_told_X11_refuse
set_option maxRecDepth 20000 in
theorem ggX11_told_X11_keep : GoodIn wsX11_told wsX11_keep := goodIn_r _ [33, 34, 35, 36, 10, 37, 12, 38, 19, 20, 21, 5, 22, 23, 24, 25, 26, 27, 28, 29, 39, 40, 41, 42, 43, 44, 45, 46, 47, 48, 49, 50, 51, 52, 53, 74, 75, 76, 77, 54, 55, 56, 57, 58, 59, 60, 61, 62, 63, 64, 65, 66] (by decide +kernel) (by decide +kernel)
set_option maxRecDepth 20000 in
theorem gX11_told_X11_keep : GoodIn wsX11_told (wsV RX11 223 RX11 yX11_keep wsX11_keep) := goodIn_app (goodIn_of _ (by decide +kernel)) ggX11_told_X11_keep
theorem dX11_told_0 : decode cX11_told 0 = .ok (.aload_n 0, 1) := by decide +kernel
theorem dX11_told_1 : decode cX11_told 1 = .ok (.iload_n 1, 1) := by decide +kernel
theorem dX11_told_2 : decode cX11_told 2 = .ok (.invokevirtual 128, 3) := by decide +kernel
theorem dX11_told_5 : decode cX11_told 5 = .ok (.ifCond .eq 29, 3) := by decide +kernel
theorem dX11_told_8 : decode cX11_told 8 = .ok (.iload_n 2, 1) := by decide +kernel
theorem dX11_told_9 : decode cX11_told 9 = .ok (.invokestatic 174, 3) := by decide +kernel
theorem dX11_told_12 : decode cX11_told 12 = .ok (.ifCond .eq 22, 3) := by decide +kernel
theorem dX11_told_15 : decode cX11_told 15 = .ok (.aload_n 0, 1) := by decide +kernel
theorem dX11_told_16 : decode cX11_told 16 = .ok (.iload_n 3, 1) := by decide +kernel
theorem dX11_told_17 : decode cX11_told 17 = .ok (.invokevirtual 128, 3) := by decide +kernel
theorem dX11_told_20 : decode cX11_told 20 = .ok (.ifCond .eq 14, 3) := by decide +kernel
theorem dX11_told_23 : decode cX11_told 23 = .ok (.iload 4, 2) := by decide +kernel
theorem dX11_told_25 : decode cX11_told 25 = .ok (.iconst 0, 1) := by decide +kernel
theorem dX11_told_26 : decode cX11_told 26 = .ok (.bipush 20, 2) := by decide +kernel
theorem dX11_told_28 : decode cX11_told 28 = .ok (.invokestatic 90, 3) := by decide +kernel
theorem dX11_told_31 : decode cX11_told 31 = .ok (.ifCond .ne 10, 3) := by decide +kernel
theorem dX11_told_34 : decode cX11_told 34 = .ok (.aload_n 0, 1) := by decide +kernel
theorem dX11_told_35 : decode cX11_told 35 = .ok (.bipush (-2), 2) := by decide +kernel
theorem dX11_told_37 : decode cX11_told 37 = .ok (.invokevirtual 94, 3) := by decide +kernel
theorem dX11_told_40 : decode cX11_told 40 = .ok (.ireturn, 1) := by decide +kernel
theorem dX11_told_41 : decode cX11_told 41 = .ok (.aload_n 0, 1) := by decide +kernel
theorem dX11_told_42 : decode cX11_told 42 = .ok (.aload_n 0, 1) := by decide +kernel
theorem dX11_told_43 : decode cX11_told 43 = .ok (.getfield 10, 3) := by decide +kernel
theorem dX11_told_46 : decode cX11_told 46 = .ok (.getfield 220, 3) := by decide +kernel
theorem dX11_told_49 : decode cX11_told 49 = .ok (.iload_n 1, 1) := by decide +kernel
theorem dX11_told_50 : decode cX11_told 50 = .ok (.iload_n 2, 1) := by decide +kernel
theorem dX11_told_51 : decode cX11_told 51 = .ok (.iload_n 3, 1) := by decide +kernel
theorem dX11_told_52 : decode cX11_told 52 = .ok (.iload 4, 2) := by decide +kernel
theorem dX11_told_54 : decode cX11_told 54 = .ok (.iconst 0, 1) := by decide +kernel
theorem dX11_told_55 : decode cX11_told 55 = .ok (.invokevirtual 223, 3) := by decide +kernel
theorem dX11_told_58 : decode cX11_told 58 = .ok (.ireturn, 1) := by decide +kernel
set_option maxRecDepth 20000 in
theorem ggX11_found_X11_isClerk : GoodIn wsX11_found wsX11_isClerk := goodIn_r _ [8, 1, 9, 10, 11, 12, 13, 14, 98, 99, 100, 101, 102, 103, 104, 105, 106, 107, 108, 109, 110, 111, 112, 113, 114, 115, 116, 117, 118, 119, 120, 121] (by decide +kernel) (by decide +kernel)
set_option maxRecDepth 20000 in
theorem gX11_found_X11_isClerk : GoodIn wsX11_found (wsV RX11 128 RX11 yX11_isClerk wsX11_isClerk) := goodIn_app (goodIn_of _ (by decide +kernel)) ggX11_found_X11_isClerk
set_option maxRecDepth 20000 in
theorem ggX11_found_X11_refuse : GoodIn wsX11_found wsX11_refuse := goodIn_r _ [18, 19, 20, 21, 7, 22, 23, 24, 25, 98, 99, 100, 101, 102, 103, 104, 105, 106, 107, 108, 109, 110] (by decide +kernel) (by decide +kernel)
set_option maxRecDepth 20000 in
theorem gX11_found_X11_refuse : GoodIn wsX11_found (wsV RX11 94 RX11 yX11_refuse wsX11_refuse) := goodIn_app (goodIn_of _ (by decide +kernel)) ggX11_found_X11_refuse
set_option maxRecDepth 20000 in
theorem ggX11_found_X7_get : GoodIn wsX11_found wsX7_get := goodIn_r _ [29, 14, 30, 31, 118, 119, 120, 121] (by decide +kernel) (by decide +kernel)
set_option maxRecDepth 20000 in
theorem gX11_found_X7_get : GoodIn wsX11_found (wsV RX11 131 RX7 yX7_get wsX7_get) := goodIn_app (goodIn_of _ (by decide +kernel)) ggX11_found_X7_get
set_option maxRecDepth 20000 in
theorem ggX11_found_X7_copyFrom : GoodIn wsX11_found wsX7_copyFrom := goodIn_r _ [35, 14, 36, 37, 38, 39, 40, 30, 31, 21, 7, 22, 24, 25, 118, 119, 120, 121] (by decide +kernel) (by decide +kernel)
set_option maxRecDepth 20000 in
theorem gX11_found_X7_copyFrom : GoodIn wsX11_found (wsV RX11 206 RX7 yX7_copyFrom wsX7_copyFrom) := goodIn_app (goodIn_of _ (by decide +kernel)) ggX11_found_X7_copyFrom
set_option maxRecDepth 20000 in
theorem ggX11_found_X10_agrees : GoodIn wsX11_found wsX10_agrees := goodIn_r _ [45, 46, 47, 48, 12, 49, 14, 50, 27, 28, 29, 30, 31, 51, 52, 53, 44, 54, 55, 24, 7, 25, 56, 57, 58, 59, 21, 22, 60, 61, 62, 63, 64, 38, 39, 40, 65, 66, 67, 68, 69, 70, 71, 118, 119, 120, 121, 122] (by decide +kernel) (by decide +kernel)
set_option maxRecDepth 20000 in
theorem gX11_found_X10_agrees : GoodIn wsX11_found (wsV RX11 227 RX10 yX10_agrees wsX10_agrees) := goodIn_app (goodIn_of _ (by decide +kernel)) ggX11_found_X10_agrees
set_option maxRecDepth 20000 in
theorem ggX11_found_X0_holdersFor : GoodIn wsX11_found wsX0_holdersFor := goodIn_r _ [75, 76, 47, 48, 12, 49, 14, 77, 78, 74, 79, 80, 81, 82, 83, 27, 28, 29, 30, 31, 84, 85, 86, 87, 88, 89, 118, 119, 120, 121] (by decide +kernel) (by decide +kernel)
set_option maxRecDepth 20000 in
theorem gX11_found_X0_holdersFor : GoodIn wsX11_found (va_wsS RX11 217 yX0_holdersFor wsX0_holdersFor) := goodIn_app (goodIn_of _ (by decide +kernel)) ggX11_found_X0_holdersFor
set_option maxRecDepth 20000 in
theorem ggX11_found_X7_size : GoodIn wsX11_found wsX7_size := goodIn_r _ [49, 14, 118, 119, 120, 121] (by decide +kernel) (by decide +kernel)
set_option maxRecDepth 20000 in
theorem gX11_found_X7_size : GoodIn wsX11_found (wsV RX11 76 RX7 yX7_size wsX7_size) := goodIn_app (goodIn_of _ (by decide +kernel)) ggX11_found_X7_size
set_option maxRecDepth 20000 in
theorem ggX11_found_X11_hasBit : GoodIn wsX11_found wsX11_hasBit := goodIn_r _ [93] (by decide +kernel) (by decide +kernel)
set_option maxRecDepth 20000 in
theorem gX11_found_X11_hasBit : GoodIn wsX11_found (va_wsS RX11 231 yX11_hasBit wsX11_hasBit) := goodIn_app (goodIn_of _ (by decide +kernel)) ggX11_found_X11_hasBit
set_option maxRecDepth 20000 in
theorem ggX11_found_X7_put : GoodIn wsX11_found wsX7_put := goodIn_r _ [97, 14, 30, 31, 118, 119, 120, 121] (by decide +kernel) (by decide +kernel)
set_option maxRecDepth 20000 in
theorem gX11_found_X7_put : GoodIn wsX11_found (wsV RX11 148 RX7 yX7_put wsX7_put) := goodIn_app (goodIn_of _ (by decide +kernel)) ggX11_found_X7_put
theorem dX11_found_0 : decode cX11_found 0 = .ok (.aload_n 0, 1) := by decide +kernel
theorem dX11_found_1 : decode cX11_found 1 = .ok (.iload_n 1, 1) := by decide +kernel
theorem dX11_found_2 : decode cX11_found 2 = .ok (.invokevirtual 128, 3) := by decide +kernel
theorem dX11_found_5 : decode cX11_found 5 = .ok (.ifCond .ne 10, 3) := by decide +kernel
theorem dX11_found_8 : decode cX11_found 8 = .ok (.aload_n 0, 1) := by decide +kernel
theorem dX11_found_9 : decode cX11_found 9 = .ok (.bipush (-2), 2) := by decide +kernel
theorem dX11_found_11 : decode cX11_found 11 = .ok (.invokevirtual 94, 3) := by decide +kernel
theorem dX11_found_14 : decode cX11_found 14 = .ok (.ireturn, 1) := by decide +kernel
theorem dX11_found_15 : decode cX11_found 15 = .ok (.aload_n 0, 1) := by decide +kernel
theorem dX11_found_16 : decode cX11_found 16 = .ok (.getfield 10, 3) := by decide +kernel
theorem dX11_found_19 : decode cX11_found 19 = .ok (.getfield 73, 3) := by decide +kernel
theorem dX11_found_22 : decode cX11_found 22 = .ok (.iload_n 1, 1) := by decide +kernel
theorem dX11_found_23 : decode cX11_found 23 = .ok (.iconst 4, 1) := by decide +kernel
theorem dX11_found_24 : decode cX11_found 24 = .ok (.invokevirtual 131, 3) := by decide +kernel
theorem dX11_found_27 : decode cX11_found 27 = .ok (.iconst (-1), 1) := by decide +kernel
theorem dX11_found_28 : decode cX11_found 28 = .ok (.if_icmp .eq 10, 3) := by decide +kernel
theorem dX11_found_31 : decode cX11_found 31 = .ok (.aload_n 0, 1) := by decide +kernel
theorem dX11_found_32 : decode cX11_found 32 = .ok (.bipush (-3), 2) := by decide +kernel
theorem dX11_found_34 : decode cX11_found 34 = .ok (.invokevirtual 94, 3) := by decide +kernel
theorem dX11_found_37 : decode cX11_found 37 = .ok (.ireturn, 1) := by decide +kernel
theorem dX11_found_38 : decode cX11_found 38 = .ok (.aload_n 0, 1) := by decide +kernel
theorem dX11_found_39 : decode cX11_found 39 = .ok (.getfield 69, 3) := by decide +kernel
theorem dX11_found_42 : decode cX11_found 42 = .ok (.aload_n 0, 1) := by decide +kernel
theorem dX11_found_43 : decode cX11_found 43 = .ok (.getfield 10, 3) := by decide +kernel
theorem dX11_found_46 : decode cX11_found 46 = .ok (.getfield 73, 3) := by decide +kernel
theorem dX11_found_49 : decode cX11_found 49 = .ok (.invokevirtual 206, 3) := by decide +kernel
theorem dX11_found_52 : decode cX11_found 52 = .ok (.aload_n 0, 1) := by decide +kernel
theorem dX11_found_53 : decode cX11_found 53 = .ok (.getfield 46, 3) := by decide +kernel
theorem dX11_found_56 : decode cX11_found 56 = .ok (.aload_n 0, 1) := by decide +kernel
theorem dX11_found_57 : decode cX11_found 57 = .ok (.getfield 69, 3) := by decide +kernel
theorem dX11_found_60 : decode cX11_found 60 = .ok (.aload_n 0, 1) := by decide +kernel
theorem dX11_found_61 : decode cX11_found 61 = .ok (.getfield 10, 3) := by decide +kernel
theorem dX11_found_64 : decode cX11_found 64 = .ok (.getfield 220, 3) := by decide +kernel
theorem dX11_found_67 : decode cX11_found 67 = .ok (.invokevirtual 227, 3) := by decide +kernel
theorem dX11_found_70 : decode cX11_found 70 = .ok (.ifCond .eq 9, 3) := by decide +kernel
theorem dX11_found_73 : decode cX11_found 73 = .ok (.sipush 128, 3) := by decide +kernel
theorem dX11_found_76 : decode cX11_found 76 = .ok (.goto 4, 3) := by decide +kernel
theorem dX11_found_79 : decode cX11_found 79 = .ok (.iconst 0, 1) := by decide +kernel
theorem dX11_found_80 : decode cX11_found 80 = .ok (.istore_n 2, 1) := by decide +kernel
theorem dX11_found_81 : decode cX11_found 81 = .ok (.aload_n 0, 1) := by decide +kernel
theorem dX11_found_82 : decode cX11_found 82 = .ok (.getfield 10, 3) := by decide +kernel
theorem dX11_found_85 : decode cX11_found 85 = .ok (.getfield 73, 3) := by decide +kernel
theorem dX11_found_88 : decode cX11_found 88 = .ok (.iload_n 1, 1) := by decide +kernel
theorem dX11_found_89 : decode cX11_found 89 = .ok (.invokestatic 217, 3) := by decide +kernel
theorem dX11_found_92 : decode cX11_found 92 = .ok (.istore_n 3, 1) := by decide +kernel
theorem dX11_found_93 : decode cX11_found 93 = .ok (.iconst 0, 1) := by decide +kernel
theorem dX11_found_94 : decode cX11_found 94 = .ok (.istore 4, 2) := by decide +kernel
theorem dX11_found_96 : decode cX11_found 96 = .ok (.iload 4, 2) := by decide +kernel
theorem dX11_found_98 : decode cX11_found 98 = .ok (.aload_n 0, 1) := by decide +kernel
theorem dX11_found_99 : decode cX11_found 99 = .ok (.getfield 10, 3) := by decide +kernel
theorem dX11_found_102 : decode cX11_found 102 = .ok (.getfield 73, 3) := by decide +kernel
theorem dX11_found_105 : decode cX11_found 105 = .ok (.invokevirtual 76, 3) := by decide +kernel
theorem dX11_found_108 : decode cX11_found 108 = .ok (.if_icmp .ge 61, 3) := by decide +kernel
theorem dX11_found_111 : decode cX11_found 111 = .ok (.iload_n 3, 1) := by decide +kernel
theorem dX11_found_112 : decode cX11_found 112 = .ok (.iload 4, 2) := by decide +kernel
theorem dX11_found_114 : decode cX11_found 114 = .ok (.invokestatic 231, 3) := by decide +kernel
theorem dX11_found_117 : decode cX11_found 117 = .ok (.ifCond .eq 46, 3) := by decide +kernel
theorem dX11_found_120 : decode cX11_found 120 = .ok (.aload_n 0, 1) := by decide +kernel
theorem dX11_found_121 : decode cX11_found 121 = .ok (.getfield 69, 3) := by decide +kernel
theorem dX11_found_124 : decode cX11_found 124 = .ok (.iload_n 1, 1) := by decide +kernel
theorem dX11_found_125 : decode cX11_found 125 = .ok (.iconst 4, 1) := by decide +kernel
theorem dX11_found_126 : decode cX11_found 126 = .ok (.iload 4, 2) := by decide +kernel
theorem dX11_found_128 : decode cX11_found 128 = .ok (.invokevirtual 148, 3) := by decide +kernel
theorem dX11_found_131 : decode cX11_found 131 = .ok (.iload_n 2, 1) := by decide +kernel
theorem dX11_found_132 : decode cX11_found 132 = .ok (.aload_n 0, 1) := by decide +kernel
theorem dX11_found_133 : decode cX11_found 133 = .ok (.getfield 46, 3) := by decide +kernel
theorem dX11_found_136 : decode cX11_found 136 = .ok (.aload_n 0, 1) := by decide +kernel
theorem dX11_found_137 : decode cX11_found 137 = .ok (.getfield 69, 3) := by decide +kernel
theorem dX11_found_140 : decode cX11_found 140 = .ok (.aload_n 0, 1) := by decide +kernel
theorem dX11_found_141 : decode cX11_found 141 = .ok (.getfield 10, 3) := by decide +kernel
theorem dX11_found_144 : decode cX11_found 144 = .ok (.getfield 220, 3) := by decide +kernel
theorem dX11_found_147 : decode cX11_found 147 = .ok (.invokevirtual 227, 3) := by decide +kernel
theorem dX11_found_150 : decode cX11_found 150 = .ok (.ifCond .eq 10, 3) := by decide +kernel
theorem dX11_found_153 : decode cX11_found 153 = .ok (.iconst 1, 1) := by decide +kernel
theorem dX11_found_154 : decode cX11_found 154 = .ok (.iload 4, 2) := by decide +kernel
theorem dX11_found_156 : decode cX11_found 156 = .ok (.ishl, 1) := by decide +kernel
theorem dX11_found_157 : decode cX11_found 157 = .ok (.goto 4, 3) := by decide +kernel
theorem dX11_found_160 : decode cX11_found 160 = .ok (.iconst 0, 1) := by decide +kernel
theorem dX11_found_161 : decode cX11_found 161 = .ok (.ior, 1) := by decide +kernel
theorem dX11_found_162 : decode cX11_found 162 = .ok (.istore_n 2, 1) := by decide +kernel
theorem dX11_found_163 : decode cX11_found 163 = .ok (.iinc 4 1, 3) := by decide +kernel
theorem dX11_found_166 : decode cX11_found 166 = .ok (.goto (-70), 3) := by decide +kernel
theorem dX11_found_169 : decode cX11_found 169 = .ok (.iload_n 2, 1) := by decide +kernel
theorem dX11_found_170 : decode cX11_found 170 = .ok (.ireturn, 1) := by decide +kernel
set_option maxRecDepth 20000 in
theorem ggX11_note_X11_isClerk : GoodIn wsX11_note wsX11_isClerk := goodIn_r _ [6, 1, 7, 8, 9, 10, 11, 12, 54, 55, 56, 57, 58, 59, 60, 61, 62, 63, 64, 65, 66, 67, 68, 69, 70, 71, 72, 73, 74, 75, 76, 77] (by decide +kernel) (by decide +kernel)
set_option maxRecDepth 20000 in
theorem gX11_note_X11_isClerk : GoodIn wsX11_note (wsV RX11 128 RX11 yX11_isClerk wsX11_isClerk) := goodIn_app (goodIn_of _ (by decide +kernel)) ggX11_note_X11_isClerk
set_option maxRecDepth 20000 in
theorem ggX11_note_X11_isTug : GoodIn wsX11_note wsX11_isTug := goodIn_r _ [15, 16, 17, 5, 18] (by decide +kernel) (by decide +kernel)
set_option maxRecDepth 20000 in
theorem gX11_note_X11_isTug : GoodIn wsX11_note (va_wsS RX11 174 yX11_isTug wsX11_isTug) := goodIn_app (goodIn_of _ (by decide +kernel)) ggX11_note_X11_isTug
set_option maxRecDepth 20000 in
theorem ggX11_note_X11_within : GoodIn wsX11_note wsX11_within := goodIn_r _ [18] (by decide +kernel) (by decide +kernel)
set_option maxRecDepth 20000 in
theorem gX11_note_X11_within : GoodIn wsX11_note (va_wsS RX11 90 yX11_within wsX11_within) := goodIn_app (goodIn_of _ (by decide +kernel)) ggX11_note_X11_within
set_option maxRecDepth 20000 in
theorem ggX11_note_X11_refuse : GoodIn wsX11_note wsX11_refuse := goodIn_r _ [22, 23, 24, 25, 5, 26, 27, 28, 29, 54, 55, 56, 57, 58, 59, 60, 61, 62, 63, 64, 65, 66] (by decide +kernel) (by decide +kernel)
set_option maxRecDepth 20000 in
theorem gX11_note_X11_refuse : GoodIn wsX11_note (wsV RX11 94 RX11 yX11_refuse wsX11_refuse) := goodIn_app (goodIn_of _ (by decide +kernel)) ggX11_note_X11_refuse
set_option maxRecDepth 20000 in
theorem ggX11_note_X11_keep : GoodIn wsX11_note wsX11_keep := goodIn_r _ [33, 34, 35, 36, 10, 37, 12, 38, 19, 20, 21, 5, 22, 23, 24, 25, 26, 27, 28, 29, 39, 40, 41, 42, 43, 44, 45, 46, 47, 48, 49, 50, 51, 52, 53, 74, 75, 76, 77, 54, 55, 56, 57, 58, 59, 60, 61, 62, 63, 64, 65, 66] (by decide +kernel) (by decide +kernel)
set_option maxRecDepth 20000 in
theorem gX11_note_X11_keep : GoodIn wsX11_note (wsV RX11 223 RX11 yX11_keep wsX11_keep) := goodIn_app (goodIn_of _ (by decide +kernel)) ggX11_note_X11_keep
theorem dX11_note_0 : decode cX11_note 0 = .ok (.aload_n 0, 1) := by decide +kernel
theorem dX11_note_1 : decode cX11_note 1 = .ok (.iload_n 1, 1) := by decide +kernel
theorem dX11_note_2 : decode cX11_note 2 = .ok (.invokevirtual 128, 3) := by decide +kernel
theorem dX11_note_5 : decode cX11_note 5 = .ok (.ifCond .eq 31, 3) := by decide +kernel
theorem dX11_note_8 : decode cX11_note 8 = .ok (.iload_n 2, 1) := by decide +kernel
theorem dX11_note_9 : decode cX11_note 9 = .ok (.invokestatic 174, 3) := by decide +kernel
theorem dX11_note_12 : decode cX11_note 12 = .ok (.ifCond .eq 24, 3) := by decide +kernel
theorem dX11_note_15 : decode cX11_note 15 = .ok (.iload_n 3, 1) := by decide +kernel
theorem dX11_note_16 : decode cX11_note 16 = .ok (.iconst 0, 1) := by decide +kernel
theorem dX11_note_17 : decode cX11_note 17 = .ok (.bipush 99, 2) := by decide +kernel
theorem dX11_note_19 : decode cX11_note 19 = .ok (.invokestatic 90, 3) := by decide +kernel
theorem dX11_note_22 : decode cX11_note 22 = .ok (.ifCond .eq 14, 3) := by decide +kernel
theorem dX11_note_25 : decode cX11_note 25 = .ok (.iload 4, 2) := by decide +kernel
theorem dX11_note_27 : decode cX11_note 27 = .ok (.iconst 0, 1) := by decide +kernel
theorem dX11_note_28 : decode cX11_note 28 = .ok (.bipush 20, 2) := by decide +kernel
theorem dX11_note_30 : decode cX11_note 30 = .ok (.invokestatic 90, 3) := by decide +kernel
theorem dX11_note_33 : decode cX11_note 33 = .ok (.ifCond .ne 10, 3) := by decide +kernel
theorem dX11_note_36 : decode cX11_note 36 = .ok (.aload_n 0, 1) := by decide +kernel
theorem dX11_note_37 : decode cX11_note 37 = .ok (.bipush (-2), 2) := by decide +kernel
theorem dX11_note_39 : decode cX11_note 39 = .ok (.invokevirtual 94, 3) := by decide +kernel
theorem dX11_note_42 : decode cX11_note 42 = .ok (.ireturn, 1) := by decide +kernel
theorem dX11_note_43 : decode cX11_note 43 = .ok (.aload_n 0, 1) := by decide +kernel
theorem dX11_note_44 : decode cX11_note 44 = .ok (.aload_n 0, 1) := by decide +kernel
theorem dX11_note_45 : decode cX11_note 45 = .ok (.getfield 10, 3) := by decide +kernel
theorem dX11_note_48 : decode cX11_note 48 = .ok (.getfield 235, 3) := by decide +kernel
theorem dX11_note_51 : decode cX11_note 51 = .ok (.iload_n 1, 1) := by decide +kernel
theorem dX11_note_52 : decode cX11_note 52 = .ok (.iload_n 2, 1) := by decide +kernel
theorem dX11_note_53 : decode cX11_note 53 = .ok (.iload_n 3, 1) := by decide +kernel
theorem dX11_note_54 : decode cX11_note 54 = .ok (.iload 4, 2) := by decide +kernel
theorem dX11_note_56 : decode cX11_note 56 = .ok (.iconst 0, 1) := by decide +kernel
theorem dX11_note_57 : decode cX11_note 57 = .ok (.invokevirtual 223, 3) := by decide +kernel
theorem dX11_note_60 : decode cX11_note 60 = .ok (.ireturn, 1) := by decide +kernel
set_option maxRecDepth 20000 in
theorem ggX11_mark_X11_isMagnet : GoodIn wsX11_mark wsX11_isMagnet := goodIn_r _ [6, 1, 7, 8, 9, 10, 11, 12, 54, 55, 56, 57, 58, 59, 60, 61, 62, 63, 64, 65, 66, 67, 68, 69, 70, 71, 72, 73, 74, 75, 76, 77] (by decide +kernel) (by decide +kernel)
set_option maxRecDepth 20000 in
theorem gX11_mark_X11_isMagnet : GoodIn wsX11_mark (wsV RX11 238 RX11 yX11_isMagnet wsX11_isMagnet) := goodIn_app (goodIn_of _ (by decide +kernel)) ggX11_mark_X11_isMagnet
set_option maxRecDepth 20000 in
theorem ggX11_mark_X11_within : GoodIn wsX11_mark wsX11_within := goodIn_r _ [15] (by decide +kernel) (by decide +kernel)
set_option maxRecDepth 20000 in
theorem gX11_mark_X11_within : GoodIn wsX11_mark (va_wsS RX11 90 yX11_within wsX11_within) := goodIn_app (goodIn_of _ (by decide +kernel)) ggX11_mark_X11_within
set_option maxRecDepth 20000 in
theorem ggX11_mark_X11_isDesk : GoodIn wsX11_mark wsX11_isDesk := goodIn_r _ [18, 13, 14, 5, 15] (by decide +kernel) (by decide +kernel)
set_option maxRecDepth 20000 in
theorem gX11_mark_X11_isDesk : GoodIn wsX11_mark (va_wsS RX11 87 yX11_isDesk wsX11_isDesk) := goodIn_app (goodIn_of _ (by decide +kernel)) ggX11_mark_X11_isDesk
set_option maxRecDepth 20000 in
theorem ggX11_mark_X11_refuse : GoodIn wsX11_mark wsX11_refuse := goodIn_r _ [22, 23, 24, 25, 5, 26, 27, 28, 29, 54, 55, 56, 57, 58, 59, 60, 61, 62, 63, 64, 65, 66] (by decide +kernel) (by decide +kernel)
set_option maxRecDepth 20000 in
theorem gX11_mark_X11_refuse : GoodIn wsX11_mark (wsV RX11 94 RX11 yX11_refuse wsX11_refuse) := goodIn_app (goodIn_of _ (by decide +kernel)) ggX11_mark_X11_refuse
set_option maxRecDepth 20000 in
theorem ggX11_mark_X11_keep : GoodIn wsX11_mark wsX11_keep := goodIn_r _ [33, 34, 35, 36, 10, 37, 12, 38, 19, 20, 21, 5, 22, 23, 24, 25, 26, 27, 28, 29, 39, 40, 41, 42, 43, 44, 45, 46, 47, 48, 49, 50, 51, 52, 53, 74, 75, 76, 77, 54, 55, 56, 57, 58, 59, 60, 61, 62, 63, 64, 65, 66] (by decide +kernel) (by decide +kernel)
set_option maxRecDepth 20000 in
theorem gX11_mark_X11_keep : GoodIn wsX11_mark (wsV RX11 223 RX11 yX11_keep wsX11_keep) := goodIn_app (goodIn_of _ (by decide +kernel)) ggX11_mark_X11_keep
theorem dX11_mark_0 : decode cX11_mark 0 = .ok (.aload_n 0, 1) := by decide +kernel
theorem dX11_mark_1 : decode cX11_mark 1 = .ok (.iload_n 1, 1) := by decide +kernel
theorem dX11_mark_2 : decode cX11_mark 2 = .ok (.invokevirtual 238, 3) := by decide +kernel
theorem dX11_mark_5 : decode cX11_mark 5 = .ok (.ifCond .eq 43, 3) := by decide +kernel
theorem dX11_mark_8 : decode cX11_mark 8 = .ok (.iload_n 2, 1) := by decide +kernel
theorem dX11_mark_9 : decode cX11_mark 9 = .ok (.iconst 1, 1) := by decide +kernel
theorem dX11_mark_10 : decode cX11_mark 10 = .ok (.bipush 9, 2) := by decide +kernel
theorem dX11_mark_12 : decode cX11_mark 12 = .ok (.invokestatic 90, 3) := by decide +kernel
theorem dX11_mark_15 : decode cX11_mark 15 = .ok (.ifCond .eq 33, 3) := by decide +kernel
theorem dX11_mark_18 : decode cX11_mark 18 = .ok (.iload_n 3, 1) := by decide +kernel
theorem dX11_mark_19 : decode cX11_mark 19 = .ok (.invokestatic 87, 3) := by decide +kernel
theorem dX11_mark_22 : decode cX11_mark 22 = .ok (.ifCond .eq 26, 3) := by decide +kernel
theorem dX11_mark_25 : decode cX11_mark 25 = .ok (.iload 4, 2) := by decide +kernel
theorem dX11_mark_27 : decode cX11_mark 27 = .ok (.iconst 0, 1) := by decide +kernel
theorem dX11_mark_28 : decode cX11_mark 28 = .ok (.bipush 99, 2) := by decide +kernel
theorem dX11_mark_30 : decode cX11_mark 30 = .ok (.invokestatic 90, 3) := by decide +kernel
theorem dX11_mark_33 : decode cX11_mark 33 = .ok (.ifCond .eq 15, 3) := by decide +kernel
theorem dX11_mark_36 : decode cX11_mark 36 = .ok (.iload 5, 2) := by decide +kernel
theorem dX11_mark_38 : decode cX11_mark 38 = .ok (.bipush (-40), 2) := by decide +kernel
theorem dX11_mark_40 : decode cX11_mark 40 = .ok (.bipush 40, 2) := by decide +kernel
theorem dX11_mark_42 : decode cX11_mark 42 = .ok (.invokestatic 90, 3) := by decide +kernel
theorem dX11_mark_45 : decode cX11_mark 45 = .ok (.ifCond .ne 10, 3) := by decide +kernel
theorem dX11_mark_48 : decode cX11_mark 48 = .ok (.aload_n 0, 1) := by decide +kernel
theorem dX11_mark_49 : decode cX11_mark 49 = .ok (.bipush (-2), 2) := by decide +kernel
theorem dX11_mark_51 : decode cX11_mark 51 = .ok (.invokevirtual 94, 3) := by decide +kernel
theorem dX11_mark_54 : decode cX11_mark 54 = .ok (.ireturn, 1) := by decide +kernel
theorem dX11_mark_55 : decode cX11_mark 55 = .ok (.aload_n 0, 1) := by decide +kernel
theorem dX11_mark_56 : decode cX11_mark 56 = .ok (.aload_n 0, 1) := by decide +kernel
theorem dX11_mark_57 : decode cX11_mark 57 = .ok (.getfield 10, 3) := by decide +kernel
theorem dX11_mark_60 : decode cX11_mark 60 = .ok (.getfield 241, 3) := by decide +kernel
theorem dX11_mark_63 : decode cX11_mark 63 = .ok (.iload_n 1, 1) := by decide +kernel
theorem dX11_mark_64 : decode cX11_mark 64 = .ok (.iload_n 2, 1) := by decide +kernel
theorem dX11_mark_65 : decode cX11_mark 65 = .ok (.iload_n 3, 1) := by decide +kernel
theorem dX11_mark_66 : decode cX11_mark 66 = .ok (.iload 4, 2) := by decide +kernel
theorem dX11_mark_68 : decode cX11_mark 68 = .ok (.iload 5, 2) := by decide +kernel
theorem dX11_mark_70 : decode cX11_mark 70 = .ok (.invokevirtual 223, 3) := by decide +kernel
theorem dX11_mark_73 : decode cX11_mark 73 = .ok (.ireturn, 1) := by decide +kernel
set_option maxRecDepth 20000 in
theorem ggX11_forget_X11_drop : GoodIn wsX11_forget wsX11_drop := goodIn_r _ [5, 6, 7, 8, 9, 10, 11, 12, 13, 14, 15, 47, 48, 49, 50] (by decide +kernel) (by decide +kernel)
set_option maxRecDepth 20000 in
theorem gX11_forget_X11_drop : GoodIn wsX11_forget (va_wsS RX11 244 yX11_drop wsX11_drop) := goodIn_app (goodIn_of _ (by decide +kernel)) ggX11_forget_X11_drop
set_option maxRecDepth 20000 in
theorem ggX11_forget_X11_refuse : GoodIn wsX11_forget wsX11_refuse := goodIn_r _ [19, 20, 21, 22, 4, 23, 24, 25, 26, 27, 28, 29, 30, 31, 32, 33, 34, 35, 36, 37, 38, 39] (by decide +kernel) (by decide +kernel)
set_option maxRecDepth 20000 in
theorem gX11_forget_X11_refuse : GoodIn wsX11_forget (wsV RX11 94 RX11 yX11_refuse wsX11_refuse) := goodIn_app (goodIn_of _ (by decide +kernel)) ggX11_forget_X11_refuse
theorem dX11_forget_0 : decode cX11_forget 0 = .ok (.iload_n 1, 1) := by decide +kernel
theorem dX11_forget_1 : decode cX11_forget 1 = .ok (.tableswitch 60 0 2 #[27, 38, 49], 27) := by decide +kernel
theorem dX11_forget_28 : decode cX11_forget 28 = .ok (.aload_n 0, 1) := by decide +kernel
theorem dX11_forget_29 : decode cX11_forget 29 = .ok (.getfield 10, 3) := by decide +kernel
theorem dX11_forget_32 : decode cX11_forget 32 = .ok (.getfield 220, 3) := by decide +kernel
theorem dX11_forget_35 : decode cX11_forget 35 = .ok (.invokestatic 244, 3) := by decide +kernel
theorem dX11_forget_38 : decode cX11_forget 38 = .ok (.ireturn, 1) := by decide +kernel
theorem dX11_forget_39 : decode cX11_forget 39 = .ok (.aload_n 0, 1) := by decide +kernel
theorem dX11_forget_40 : decode cX11_forget 40 = .ok (.getfield 10, 3) := by decide +kernel
theorem dX11_forget_43 : decode cX11_forget 43 = .ok (.getfield 235, 3) := by decide +kernel
theorem dX11_forget_46 : decode cX11_forget 46 = .ok (.invokestatic 244, 3) := by decide +kernel
theorem dX11_forget_49 : decode cX11_forget 49 = .ok (.ireturn, 1) := by decide +kernel
theorem dX11_forget_50 : decode cX11_forget 50 = .ok (.aload_n 0, 1) := by decide +kernel
theorem dX11_forget_51 : decode cX11_forget 51 = .ok (.getfield 10, 3) := by decide +kernel
theorem dX11_forget_54 : decode cX11_forget 54 = .ok (.getfield 241, 3) := by decide +kernel
theorem dX11_forget_57 : decode cX11_forget 57 = .ok (.invokestatic 244, 3) := by decide +kernel
theorem dX11_forget_60 : decode cX11_forget 60 = .ok (.ireturn, 1) := by decide +kernel
theorem dX11_forget_61 : decode cX11_forget 61 = .ok (.aload_n 0, 1) := by decide +kernel
theorem dX11_forget_62 : decode cX11_forget 62 = .ok (.bipush (-2), 2) := by decide +kernel
theorem dX11_forget_64 : decode cX11_forget 64 = .ok (.invokevirtual 94, 3) := by decide +kernel
theorem dX11_forget_67 : decode cX11_forget 67 = .ok (.ireturn, 1) := by decide +kernel
set_option maxRecDepth 20000 in
theorem ggX11_is_X11_isClerk : GoodIn wsX11_is wsX11_isClerk := goodIn_r _ [6, 1, 7, 8, 9, 10, 11, 12, 49, 50, 51, 52, 53, 54, 55, 56, 57, 58, 59, 60, 61, 62, 63, 64, 65, 66, 67, 68, 69, 70, 71, 72] (by decide +kernel) (by decide +kernel)
set_option maxRecDepth 20000 in
theorem gX11_is_X11_isClerk : GoodIn wsX11_is (wsV RX11 128 RX11 yX11_isClerk wsX11_isClerk) := goodIn_app (goodIn_of _ (by decide +kernel)) ggX11_is_X11_isClerk
set_option maxRecDepth 20000 in
theorem ggX11_is_X3_clerkKinds : GoodIn wsX11_is wsX3_clerkKinds := goodIn_r _ [16, 17, 18, 19, 10, 20, 12, 21, 22, 23, 24, 25, 26, 27, 28, 29, 30, 31, 32, 33, 34, 35, 36, 37, 69, 70, 71, 72] (by decide +kernel) (by decide +kernel)
set_option maxRecDepth 20000 in
theorem gX11_is_X3_clerkKinds : GoodIn wsX11_is (va_wsS RX11 247 yX3_clerkKinds wsX3_clerkKinds) := goodIn_app (goodIn_of _ (by decide +kernel)) ggX11_is_X3_clerkKinds
set_option maxRecDepth 20000 in
theorem ggX11_is_X11_refuse : GoodIn wsX11_is wsX11_refuse := goodIn_r _ [41, 42, 43, 44, 5, 45, 46, 47, 48, 49, 50, 51, 52, 53, 54, 55, 56, 57, 58, 59, 60, 61] (by decide +kernel) (by decide +kernel)
set_option maxRecDepth 20000 in
theorem gX11_is_X11_refuse : GoodIn wsX11_is (wsV RX11 94 RX11 yX11_refuse wsX11_refuse) := goodIn_app (goodIn_of _ (by decide +kernel)) ggX11_is_X11_refuse
theorem dX11_is_0 : decode cX11_is 0 = .ok (.aload_n 0, 1) := by decide +kernel
theorem dX11_is_1 : decode cX11_is 1 = .ok (.iload_n 1, 1) := by decide +kernel
theorem dX11_is_2 : decode cX11_is 2 = .ok (.invokevirtual 128, 3) := by decide +kernel
theorem dX11_is_5 : decode cX11_is 5 = .ok (.ifCond .eq 17, 3) := by decide +kernel
theorem dX11_is_8 : decode cX11_is 8 = .ok (.aload_n 0, 1) := by decide +kernel
theorem dX11_is_9 : decode cX11_is 9 = .ok (.getfield 10, 3) := by decide +kernel
theorem dX11_is_12 : decode cX11_is 12 = .ok (.getfield 235, 3) := by decide +kernel
theorem dX11_is_15 : decode cX11_is 15 = .ok (.iload_n 1, 1) := by decide +kernel
theorem dX11_is_16 : decode cX11_is 16 = .ok (.invokestatic 247, 3) := by decide +kernel
theorem dX11_is_19 : decode cX11_is 19 = .ok (.goto 9, 3) := by decide +kernel
theorem dX11_is_22 : decode cX11_is 22 = .ok (.aload_n 0, 1) := by decide +kernel
theorem dX11_is_23 : decode cX11_is 23 = .ok (.bipush (-2), 2) := by decide +kernel
theorem dX11_is_25 : decode cX11_is 25 = .ok (.invokevirtual 94, 3) := by decide +kernel
theorem dX11_is_28 : decode cX11_is 28 = .ok (.ireturn, 1) := by decide +kernel
set_option maxRecDepth 20000 in
theorem ggX11_look_X11_isClerk : GoodIn wsX11_look wsX11_isClerk := goodIn_r _ [7, 2, 8, 9, 10, 11, 12, 13, 62, 63, 64, 65, 66, 67, 68, 69, 70, 71, 72, 73, 74, 75, 76, 77, 78, 79, 80, 81, 82, 83, 84, 85] (by decide +kernel) (by decide +kernel)
set_option maxRecDepth 20000 in
theorem gX11_look_X11_isClerk : GoodIn wsX11_look (wsV RX11 128 RX11 yX11_isClerk wsX11_isClerk) := goodIn_app (goodIn_of _ (by decide +kernel)) ggX11_look_X11_isClerk
set_option maxRecDepth 20000 in
theorem ggX11_look_X3_clerkKinds : GoodIn wsX11_look wsX3_clerkKinds := goodIn_r _ [17, 18, 19, 20, 11, 21, 13, 22, 23, 24, 25, 26, 27, 28, 29, 30, 31, 32, 33, 34, 35, 36, 37, 38, 82, 83, 84, 85] (by decide +kernel) (by decide +kernel)
set_option maxRecDepth 20000 in
theorem gX11_look_X3_clerkKinds : GoodIn wsX11_look (va_wsS RX11 247 yX3_clerkKinds wsX3_clerkKinds) := goodIn_app (goodIn_of _ (by decide +kernel)) ggX11_look_X3_clerkKinds
set_option maxRecDepth 20000 in
theorem ggX11_look_X3_nextLook : GoodIn wsX11_look wsX3_nextLook := goodIn_r _ [42, 43, 28, 29, 30, 31, 32, 33, 34, 35, 36, 37, 38, 44, 6, 45, 46, 47, 48, 16, 49, 50, 51, 52, 53, 54, 86] (by decide +kernel) (by decide +kernel)
set_option maxRecDepth 20000 in
theorem gX11_look_X3_nextLook : GoodIn wsX11_look (wsV RX11 250 RX3 yX3_nextLook wsX3_nextLook) := goodIn_app (goodIn_of _ (by decide +kernel)) ggX11_look_X3_nextLook
set_option maxRecDepth 20000 in
theorem ggX11_look_X11_refuse : GoodIn wsX11_look wsX11_refuse := goodIn_r _ [58, 59, 60, 53, 6, 54, 61, 44, 45, 62, 63, 64, 65, 66, 67, 68, 69, 70, 71, 72, 73, 74] (by decide +kernel) (by decide +kernel)
set_option maxRecDepth 20000 in
theorem gX11_look_X11_refuse : GoodIn wsX11_look (wsV RX11 94 RX11 yX11_refuse wsX11_refuse) := goodIn_app (goodIn_of _ (by decide +kernel)) ggX11_look_X11_refuse
theorem dX11_look_0 : decode cX11_look 0 = .ok (.aload_n 0, 1) := by decide +kernel
theorem dX11_look_1 : decode cX11_look 1 = .ok (.iload_n 1, 1) := by decide +kernel
theorem dX11_look_2 : decode cX11_look 2 = .ok (.invokevirtual 128, 3) := by decide +kernel
theorem dX11_look_5 : decode cX11_look 5 = .ok (.ifCond .eq 24, 3) := by decide +kernel
theorem dX11_look_8 : decode cX11_look 8 = .ok (.aload_n 0, 1) := by decide +kernel
theorem dX11_look_9 : decode cX11_look 9 = .ok (.getfield 53, 3) := by decide +kernel
theorem dX11_look_12 : decode cX11_look 12 = .ok (.aload_n 0, 1) := by decide +kernel
theorem dX11_look_13 : decode cX11_look 13 = .ok (.getfield 10, 3) := by decide +kernel
theorem dX11_look_16 : decode cX11_look 16 = .ok (.getfield 235, 3) := by decide +kernel
theorem dX11_look_19 : decode cX11_look 19 = .ok (.iload_n 1, 1) := by decide +kernel
theorem dX11_look_20 : decode cX11_look 20 = .ok (.invokestatic 247, 3) := by decide +kernel
theorem dX11_look_23 : decode cX11_look 23 = .ok (.invokevirtual 250, 3) := by decide +kernel
theorem dX11_look_26 : decode cX11_look 26 = .ok (.goto 9, 3) := by decide +kernel
theorem dX11_look_29 : decode cX11_look 29 = .ok (.aload_n 0, 1) := by decide +kernel
theorem dX11_look_30 : decode cX11_look 30 = .ok (.bipush (-2), 2) := by decide +kernel
theorem dX11_look_32 : decode cX11_look 32 = .ok (.invokevirtual 94, 3) := by decide +kernel
theorem dX11_look_35 : decode cX11_look 35 = .ok (.ireturn, 1) := by decide +kernel
set_option maxRecDepth 20000 in
theorem ggX11_kinds_X11_isMagnet : GoodIn wsX11_kinds wsX11_isMagnet := goodIn_r _ [6, 1, 7, 8, 9, 10, 11, 12, 46, 47, 48, 49, 50, 51, 52, 53, 54, 55, 56, 57, 58, 59, 60, 61, 62, 63, 64, 65, 66, 67, 68, 69] (by decide +kernel) (by decide +kernel)
set_option maxRecDepth 20000 in
theorem gX11_kinds_X11_isMagnet : GoodIn wsX11_kinds (wsV RX11 238 RX11 yX11_isMagnet wsX11_isMagnet) := goodIn_app (goodIn_of _ (by decide +kernel)) ggX11_kinds_X11_isMagnet
set_option maxRecDepth 20000 in
theorem ggX11_kinds_X3_magnetKinds : GoodIn wsX11_kinds wsX3_magnetKinds := goodIn_r _ [16, 17, 18, 19, 10, 20, 12, 21, 22, 23, 24, 25, 26, 27, 28, 29, 30, 31, 32, 33, 34, 66, 67, 68, 69] (by decide +kernel) (by decide +kernel)
set_option maxRecDepth 20000 in
theorem gX11_kinds_X3_magnetKinds : GoodIn wsX11_kinds (va_wsS RX11 253 yX3_magnetKinds wsX3_magnetKinds) := goodIn_app (goodIn_of _ (by decide +kernel)) ggX11_kinds_X3_magnetKinds
set_option maxRecDepth 20000 in
theorem ggX11_kinds_X11_refuse : GoodIn wsX11_kinds wsX11_refuse := goodIn_r _ [38, 39, 40, 41, 5, 42, 43, 44, 45, 46, 47, 48, 49, 50, 51, 52, 53, 54, 55, 56, 57, 58] (by decide +kernel) (by decide +kernel)
set_option maxRecDepth 20000 in
theorem gX11_kinds_X11_refuse : GoodIn wsX11_kinds (wsV RX11 94 RX11 yX11_refuse wsX11_refuse) := goodIn_app (goodIn_of _ (by decide +kernel)) ggX11_kinds_X11_refuse
theorem dX11_kinds_0 : decode cX11_kinds 0 = .ok (.aload_n 0, 1) := by decide +kernel
theorem dX11_kinds_1 : decode cX11_kinds 1 = .ok (.iload_n 1, 1) := by decide +kernel
theorem dX11_kinds_2 : decode cX11_kinds 2 = .ok (.invokevirtual 238, 3) := by decide +kernel
theorem dX11_kinds_5 : decode cX11_kinds 5 = .ok (.ifCond .eq 17, 3) := by decide +kernel
theorem dX11_kinds_8 : decode cX11_kinds 8 = .ok (.aload_n 0, 1) := by decide +kernel
theorem dX11_kinds_9 : decode cX11_kinds 9 = .ok (.getfield 10, 3) := by decide +kernel
theorem dX11_kinds_12 : decode cX11_kinds 12 = .ok (.getfield 241, 3) := by decide +kernel
theorem dX11_kinds_15 : decode cX11_kinds 15 = .ok (.iload_n 1, 1) := by decide +kernel
theorem dX11_kinds_16 : decode cX11_kinds 16 = .ok (.invokestatic 253, 3) := by decide +kernel
theorem dX11_kinds_19 : decode cX11_kinds 19 = .ok (.goto 9, 3) := by decide +kernel
theorem dX11_kinds_22 : decode cX11_kinds 22 = .ok (.aload_n 0, 1) := by decide +kernel
theorem dX11_kinds_23 : decode cX11_kinds 23 = .ok (.bipush (-2), 2) := by decide +kernel
theorem dX11_kinds_25 : decode cX11_kinds 25 = .ok (.invokevirtual 94, 3) := by decide +kernel
theorem dX11_kinds_28 : decode cX11_kinds 28 = .ok (.ireturn, 1) := by decide +kernel
set_option maxRecDepth 20000 in
theorem ggX11_ask_X11_isMagnet : GoodIn wsX11_ask wsX11_isMagnet := goodIn_r _ [7, 2, 8, 9, 10, 11, 12, 13, 60, 61, 62, 63, 64, 65, 66, 67, 68, 69, 70, 71, 72, 73, 74, 75, 76, 77, 78, 79, 80, 81, 82, 83] (by decide +kernel) (by decide +kernel)
set_option maxRecDepth 20000 in
theorem gX11_ask_X11_isMagnet : GoodIn wsX11_ask (wsV RX11 238 RX11 yX11_isMagnet wsX11_isMagnet) := goodIn_app (goodIn_of _ (by decide +kernel)) ggX11_ask_X11_isMagnet
set_option maxRecDepth 20000 in
theorem ggX11_ask_X11_refuse : GoodIn wsX11_ask wsX11_refuse := goodIn_r _ [17, 18, 19, 20, 6, 21, 22, 23, 24, 60, 61, 62, 63, 64, 65, 66, 67, 68, 69, 70, 71, 72] (by decide +kernel) (by decide +kernel)
set_option maxRecDepth 20000 in
theorem gX11_ask_X11_refuse : GoodIn wsX11_ask (wsV RX11 94 RX11 yX11_refuse wsX11_refuse) := goodIn_app (goodIn_of _ (by decide +kernel)) ggX11_ask_X11_refuse
set_option maxRecDepth 20000 in
theorem ggX11_ask_X3_magnetKinds : GoodIn wsX11_ask wsX3_magnetKinds := goodIn_r _ [28, 29, 30, 31, 11, 32, 13, 33, 34, 35, 36, 37, 38, 39, 40, 41, 42, 43, 44, 45, 46, 80, 81, 82, 83] (by decide +kernel) (by decide +kernel)
set_option maxRecDepth 20000 in
theorem gX11_ask_X3_magnetKinds : GoodIn wsX11_ask (va_wsS RX11 253 yX3_magnetKinds wsX3_magnetKinds) := goodIn_app (goodIn_of _ (by decide +kernel)) ggX11_ask_X3_magnetKinds
set_option maxRecDepth 20000 in
theorem ggX11_ask_X7_get : GoodIn wsX11_ask wsX7_get := goodIn_r _ [36, 13, 37, 38, 80, 81, 82, 83] (by decide +kernel) (by decide +kernel)
set_option maxRecDepth 20000 in
theorem gX11_ask_X7_get : GoodIn wsX11_ask (wsV RX11 131 RX7 yX7_get wsX7_get) := goodIn_app (goodIn_of _ (by decide +kernel)) ggX11_ask_X7_get
set_option maxRecDepth 20000 in
theorem ggX11_ask_X3_nextAsk : GoodIn wsX11_ask wsX3_nextAsk := goodIn_r _ [51, 52, 39, 40, 41, 42, 43, 44, 45, 46, 23, 6, 24, 53, 54, 55, 27, 56, 57, 58, 59, 20, 21, 84] (by decide +kernel) (by decide +kernel)
set_option maxRecDepth 20000 in
theorem gX11_ask_X3_nextAsk : GoodIn wsX11_ask (wsV RX11 256 RX3 yX3_nextAsk wsX3_nextAsk) := goodIn_app (goodIn_of _ (by decide +kernel)) ggX11_ask_X3_nextAsk
theorem dX11_ask_0 : decode cX11_ask 0 = .ok (.aload_n 0, 1) := by decide +kernel
theorem dX11_ask_1 : decode cX11_ask 1 = .ok (.iload_n 1, 1) := by decide +kernel
theorem dX11_ask_2 : decode cX11_ask 2 = .ok (.invokevirtual 238, 3) := by decide +kernel
theorem dX11_ask_5 : decode cX11_ask 5 = .ok (.ifCond .ne 10, 3) := by decide +kernel
theorem dX11_ask_8 : decode cX11_ask 8 = .ok (.aload_n 0, 1) := by decide +kernel
theorem dX11_ask_9 : decode cX11_ask 9 = .ok (.bipush (-2), 2) := by decide +kernel
theorem dX11_ask_11 : decode cX11_ask 11 = .ok (.invokevirtual 94, 3) := by decide +kernel
theorem dX11_ask_14 : decode cX11_ask 14 = .ok (.ireturn, 1) := by decide +kernel
theorem dX11_ask_15 : decode cX11_ask 15 = .ok (.aload_n 0, 1) := by decide +kernel
theorem dX11_ask_16 : decode cX11_ask 16 = .ok (.getfield 53, 3) := by decide +kernel
theorem dX11_ask_19 : decode cX11_ask 19 = .ok (.aload_n 0, 1) := by decide +kernel
theorem dX11_ask_20 : decode cX11_ask 20 = .ok (.getfield 10, 3) := by decide +kernel
theorem dX11_ask_23 : decode cX11_ask 23 = .ok (.getfield 241, 3) := by decide +kernel
theorem dX11_ask_26 : decode cX11_ask 26 = .ok (.iload_n 1, 1) := by decide +kernel
theorem dX11_ask_27 : decode cX11_ask 27 = .ok (.invokestatic 253, 3) := by decide +kernel
theorem dX11_ask_30 : decode cX11_ask 30 = .ok (.aload_n 0, 1) := by decide +kernel
theorem dX11_ask_31 : decode cX11_ask 31 = .ok (.getfield 10, 3) := by decide +kernel
theorem dX11_ask_34 : decode cX11_ask 34 = .ok (.getfield 106, 3) := by decide +kernel
theorem dX11_ask_37 : decode cX11_ask 37 = .ok (.iload_n 1, 1) := by decide +kernel
theorem dX11_ask_38 : decode cX11_ask 38 = .ok (.iconst 2, 1) := by decide +kernel
theorem dX11_ask_39 : decode cX11_ask 39 = .ok (.invokevirtual 131, 3) := by decide +kernel
theorem dX11_ask_42 : decode cX11_ask 42 = .ok (.invokevirtual 256, 3) := by decide +kernel
theorem dX11_ask_45 : decode cX11_ask 45 = .ok (.ireturn, 1) := by decide +kernel
set_option maxRecDepth 20000 in
theorem ggX11_lifts_X11_isClerk : GoodIn wsX11_lifts wsX11_isClerk := goodIn_r _ [6, 1, 7, 8, 9, 10, 11, 12, 65, 66, 67, 68, 69, 70, 71, 72, 73, 74, 75, 76, 77, 78, 79, 80, 81, 82, 83, 84, 85, 86, 87, 88] (by decide +kernel) (by decide +kernel)
set_option maxRecDepth 20000 in
theorem gX11_lifts_X11_isClerk : GoodIn wsX11_lifts (wsV RX11 128 RX11 yX11_isClerk wsX11_isClerk) := goodIn_app (goodIn_of _ (by decide +kernel)) ggX11_lifts_X11_isClerk
set_option maxRecDepth 20000 in
theorem ggX11_lifts_X11_refuse : GoodIn wsX11_lifts wsX11_refuse := goodIn_r _ [16, 17, 18, 19, 5, 20, 21, 22, 23, 65, 66, 67, 68, 69, 70, 71, 72, 73, 74, 75, 76, 77] (by decide +kernel) (by decide +kernel)
set_option maxRecDepth 20000 in
theorem gX11_lifts_X11_refuse : GoodIn wsX11_lifts (wsV RX11 94 RX11 yX11_refuse wsX11_refuse) := goodIn_app (goodIn_of _ (by decide +kernel)) ggX11_lifts_X11_refuse
set_option maxRecDepth 20000 in
theorem ggX11_lifts_X0_members : GoodIn wsX11_lifts wsX0_members := goodIn_r _ [27, 28, 29, 26, 30, 31, 5, 32, 33, 34, 35, 10, 36, 12, 37, 38, 39, 40, 41, 42, 85, 86, 87, 88] (by decide +kernel) (by decide +kernel)
set_option maxRecDepth 20000 in
theorem gX11_lifts_X0_members : GoodIn wsX11_lifts (va_wsS RX11 152 yX0_members wsX0_members) := goodIn_app (goodIn_of _ (by decide +kernel)) ggX11_lifts_X0_members
set_option maxRecDepth 20000 in
theorem ggX11_lifts_X0_weight : GoodIn wsX11_lifts wsX0_weight := goodIn_r _ [45, 39, 40, 41, 10, 42, 12, 31, 5, 32, 33, 34, 35, 36, 37, 38, 85, 86, 87, 88] (by decide +kernel) (by decide +kernel)
set_option maxRecDepth 20000 in
theorem gX11_lifts_X0_weight : GoodIn wsX11_lifts (va_wsS RX11 187 yX0_weight wsX0_weight) := goodIn_app (goodIn_of _ (by decide +kernel)) ggX11_lifts_X0_weight
set_option maxRecDepth 20000 in
theorem ggX11_lifts_X5_howMany : GoodIn wsX11_lifts wsX5_howMany := goodIn_r _ [49, 50, 51, 48, 52, 53, 54, 55, 56, 57, 58, 59, 60, 61] (by decide +kernel) (by decide +kernel)
set_option maxRecDepth 20000 in
theorem gX11_lifts_X5_howMany : GoodIn wsX11_lifts (va_wsS RX11 259 yX5_howMany wsX5_howMany) := goodIn_app (goodIn_of _ (by decide +kernel)) ggX11_lifts_X5_howMany
set_option maxRecDepth 20000 in
theorem ggX11_lifts_X5_pair : GoodIn wsX11_lifts wsX5_pair := goodIn_r _ [64, 50, 51, 48, 52, 53, 54, 55, 56, 57, 58, 59, 60, 61] (by decide +kernel) (by decide +kernel)
set_option maxRecDepth 20000 in
theorem gX11_lifts_X5_pair : GoodIn wsX11_lifts (va_wsS RX11 263 yX5_pair wsX5_pair) := goodIn_app (goodIn_of _ (by decide +kernel)) ggX11_lifts_X5_pair
theorem dX11_lifts_0 : decode cX11_lifts 0 = .ok (.aload_n 0, 1) := by decide +kernel
theorem dX11_lifts_1 : decode cX11_lifts 1 = .ok (.iload_n 1, 1) := by decide +kernel
theorem dX11_lifts_2 : decode cX11_lifts 2 = .ok (.invokevirtual 128, 3) := by decide +kernel
theorem dX11_lifts_5 : decode cX11_lifts 5 = .ok (.ifCond .eq 21, 3) := by decide +kernel
theorem dX11_lifts_8 : decode cX11_lifts 8 = .ok (.aload_n 0, 1) := by decide +kernel
theorem dX11_lifts_9 : decode cX11_lifts 9 = .ok (.iload_n 2, 1) := by decide +kernel
theorem dX11_lifts_10 : decode cX11_lifts 10 = .ok (.invokevirtual 128, 3) := by decide +kernel
theorem dX11_lifts_13 : decode cX11_lifts 13 = .ok (.ifCond .eq 13, 3) := by decide +kernel
theorem dX11_lifts_16 : decode cX11_lifts 16 = .ok (.iload_n 1, 1) := by decide +kernel
theorem dX11_lifts_17 : decode cX11_lifts 17 = .ok (.iload_n 2, 1) := by decide +kernel
theorem dX11_lifts_18 : decode cX11_lifts 18 = .ok (.if_icmp .eq 8, 3) := by decide +kernel
theorem dX11_lifts_21 : decode cX11_lifts 21 = .ok (.iload_n 3, 1) := by decide +kernel
theorem dX11_lifts_22 : decode cX11_lifts 22 = .ok (.iconst (-1), 1) := by decide +kernel
theorem dX11_lifts_23 : decode cX11_lifts 23 = .ok (.if_icmp .ge 13, 3) := by decide +kernel
theorem dX11_lifts_26 : decode cX11_lifts 26 = .ok (.aload_n 0, 1) := by decide +kernel
theorem dX11_lifts_27 : decode cX11_lifts 27 = .ok (.bipush (-2), 2) := by decide +kernel
theorem dX11_lifts_29 : decode cX11_lifts 29 = .ok (.invokevirtual 94, 3) := by decide +kernel
theorem dX11_lifts_32 : decode cX11_lifts 32 = .ok (.pop, 1) := by decide +kernel
theorem dX11_lifts_33 : decode cX11_lifts 33 = .ok (.bipush (-10), 2) := by decide +kernel
theorem dX11_lifts_35 : decode cX11_lifts 35 = .ok (.ireturn, 1) := by decide +kernel
theorem dX11_lifts_36 : decode cX11_lifts 36 = .ok (.aload_n 0, 1) := by decide +kernel
theorem dX11_lifts_37 : decode cX11_lifts 37 = .ok (.getfield 10, 3) := by decide +kernel
theorem dX11_lifts_40 : decode cX11_lifts 40 = .ok (.getfield 73, 3) := by decide +kernel
theorem dX11_lifts_43 : decode cX11_lifts 43 = .ok (.aload_n 0, 1) := by decide +kernel
theorem dX11_lifts_44 : decode cX11_lifts 44 = .ok (.getfield 10, 3) := by decide +kernel
theorem dX11_lifts_47 : decode cX11_lifts 47 = .ok (.getfield 73, 3) := by decide +kernel
theorem dX11_lifts_50 : decode cX11_lifts 50 = .ok (.iload_n 1, 1) := by decide +kernel
theorem dX11_lifts_51 : decode cX11_lifts 51 = .ok (.invokestatic 152, 3) := by decide +kernel
theorem dX11_lifts_54 : decode cX11_lifts 54 = .ok (.invokestatic 187, 3) := by decide +kernel
theorem dX11_lifts_57 : decode cX11_lifts 57 = .ok (.istore 4, 2) := by decide +kernel
theorem dX11_lifts_59 : decode cX11_lifts 59 = .ok (.aload_n 0, 1) := by decide +kernel
theorem dX11_lifts_60 : decode cX11_lifts 60 = .ok (.getfield 10, 3) := by decide +kernel
theorem dX11_lifts_63 : decode cX11_lifts 63 = .ok (.getfield 73, 3) := by decide +kernel
theorem dX11_lifts_66 : decode cX11_lifts 66 = .ok (.aload_n 0, 1) := by decide +kernel
theorem dX11_lifts_67 : decode cX11_lifts 67 = .ok (.getfield 10, 3) := by decide +kernel
theorem dX11_lifts_70 : decode cX11_lifts 70 = .ok (.getfield 73, 3) := by decide +kernel
theorem dX11_lifts_73 : decode cX11_lifts 73 = .ok (.iload_n 2, 1) := by decide +kernel
theorem dX11_lifts_74 : decode cX11_lifts 74 = .ok (.invokestatic 152, 3) := by decide +kernel
theorem dX11_lifts_77 : decode cX11_lifts 77 = .ok (.invokestatic 187, 3) := by decide +kernel
theorem dX11_lifts_80 : decode cX11_lifts 80 = .ok (.istore 5, 2) := by decide +kernel
theorem dX11_lifts_82 : decode cX11_lifts 82 = .ok (.iload_n 3, 1) := by decide +kernel
theorem dX11_lifts_83 : decode cX11_lifts 83 = .ok (.iconst (-1), 1) := by decide +kernel
theorem dX11_lifts_84 : decode cX11_lifts 84 = .ok (.if_icmp .ne 13, 3) := by decide +kernel
theorem dX11_lifts_87 : decode cX11_lifts 87 = .ok (.iload 4, 2) := by decide +kernel
theorem dX11_lifts_89 : decode cX11_lifts 89 = .ok (.iload 5, 2) := by decide +kernel
theorem dX11_lifts_91 : decode cX11_lifts 91 = .ok (.invokestatic 259, 3) := by decide +kernel
theorem dX11_lifts_94 : decode cX11_lifts 94 = .ok (.goto 11, 3) := by decide +kernel
theorem dX11_lifts_97 : decode cX11_lifts 97 = .ok (.iload 4, 2) := by decide +kernel
theorem dX11_lifts_99 : decode cX11_lifts 99 = .ok (.iload 5, 2) := by decide +kernel
theorem dX11_lifts_101 : decode cX11_lifts 101 = .ok (.iload_n 3, 1) := by decide +kernel
theorem dX11_lifts_102 : decode cX11_lifts 102 = .ok (.invokestatic 263, 3) := by decide +kernel
theorem dX11_lifts_105 : decode cX11_lifts 105 = .ok (.ireturn, 1) := by decide +kernel
set_option maxRecDepth 20000 in
theorem ggX11_slips_X11_isClerk : GoodIn wsX11_slips wsX11_isClerk := goodIn_r _ [8, 2, 9, 10, 11, 12, 13, 14, 82, 83, 84, 85, 86, 87, 88, 89, 90, 91, 92, 93, 94, 95, 96, 97, 98, 99, 100, 101, 102, 103, 104, 105] (by decide +kernel) (by decide +kernel)
set_option maxRecDepth 20000 in
theorem gX11_slips_X11_isClerk : GoodIn wsX11_slips (wsV RX11 128 RX11 yX11_isClerk wsX11_isClerk) := goodIn_app (goodIn_of _ (by decide +kernel)) ggX11_slips_X11_isClerk
set_option maxRecDepth 20000 in
theorem ggX11_slips_X11_isTug : GoodIn wsX11_slips wsX11_isTug := goodIn_r _ [17, 18, 19, 7, 20] (by decide +kernel) (by decide +kernel)
set_option maxRecDepth 20000 in
theorem gX11_slips_X11_isTug : GoodIn wsX11_slips (va_wsS RX11 174 yX11_isTug wsX11_isTug) := goodIn_app (goodIn_of _ (by decide +kernel)) ggX11_slips_X11_isTug
set_option maxRecDepth 20000 in
theorem ggX11_slips_X11_within : GoodIn wsX11_slips wsX11_within := goodIn_r _ [20] (by decide +kernel) (by decide +kernel)
set_option maxRecDepth 20000 in
theorem gX11_slips_X11_within : GoodIn wsX11_slips (va_wsS RX11 90 yX11_within wsX11_within) := goodIn_app (goodIn_of _ (by decide +kernel)) ggX11_slips_X11_within
set_option maxRecDepth 20000 in
theorem ggX11_slips_X11_refuse : GoodIn wsX11_slips wsX11_refuse := goodIn_r _ [24, 25, 26, 27, 7, 28, 29, 30, 31, 82, 83, 84, 85, 86, 87, 88, 89, 90, 91, 92, 93, 94] (by decide +kernel) (by decide +kernel)
set_option maxRecDepth 20000 in
theorem gX11_slips_X11_refuse : GoodIn wsX11_slips (wsV RX11 94 RX11 yX11_refuse wsX11_refuse) := goodIn_app (goodIn_of _ (by decide +kernel)) ggX11_slips_X11_refuse
set_option maxRecDepth 20000 in
theorem ggX11_slips_X10_spread : GoodIn wsX11_slips wsX10_spread := goodIn_r _ [36, 37, 30, 7, 31, 38, 39, 40, 12, 41, 14, 42, 43, 44, 45, 46, 47, 48, 49, 50, 35, 51, 27, 28, 52, 53, 54, 55, 56, 57, 58, 59, 60, 61, 62, 106, 102, 103, 104, 105] (by decide +kernel) (by decide +kernel)
set_option maxRecDepth 20000 in
theorem gX11_slips_X10_spread : GoodIn wsX11_slips (wsV RX11 177 RX10 yX10_spread wsX10_spread) := goodIn_app (goodIn_of _ (by decide +kernel)) ggX11_slips_X10_spread
set_option maxRecDepth 20000 in
theorem ggX11_slips_X10_feltBy : GoodIn wsX11_slips wsX10_feltBy := goodIn_r _ [66, 37, 27, 7, 28, 106] (by decide +kernel) (by decide +kernel)
set_option maxRecDepth 20000 in
theorem gX11_slips_X10_feltBy : GoodIn wsX11_slips (wsV RX11 184 RX10 yX10_feltBy wsX10_feltBy) := goodIn_app (goodIn_of _ (by decide +kernel)) ggX11_slips_X10_feltBy
set_option maxRecDepth 20000 in
theorem ggX11_slips_X0_hooksBetween : GoodIn wsX11_slips wsX0_hooksBetween := goodIn_r _ [70, 71, 43, 44, 12, 45, 14, 46, 47, 102, 103, 104, 105] (by decide +kernel) (by decide +kernel)
set_option maxRecDepth 20000 in
theorem gX11_slips_X0_hooksBetween : GoodIn wsX11_slips (va_wsS RX11 266 yX0_hooksBetween wsX0_hooksBetween) := goodIn_app (goodIn_of _ (by decide +kernel)) ggX11_slips_X0_hooksBetween
set_option maxRecDepth 20000 in
theorem ggX11_slips_X2_setPower : GoodIn wsX11_slips wsX2_setPower := goodIn_r _ [76, 77, 78, 79, 80, 75, 81, 107, 108] (by decide +kernel) (by decide +kernel)
set_option maxRecDepth 20000 in
theorem gX11_slips_X2_setPower : GoodIn wsX11_slips (wsV RX11 270 RX2 yX2_setPower wsX2_setPower) := goodIn_app (goodIn_of _ (by decide +kernel)) ggX11_slips_X2_setPower
theorem dX11_slips_0 : decode cX11_slips 0 = .ok (.aload_n 0, 1) := by decide +kernel
theorem dX11_slips_1 : decode cX11_slips 1 = .ok (.iload_n 1, 1) := by decide +kernel
theorem dX11_slips_2 : decode cX11_slips 2 = .ok (.invokevirtual 128, 3) := by decide +kernel
theorem dX11_slips_5 : decode cX11_slips 5 = .ok (.ifCond .eq 29, 3) := by decide +kernel
theorem dX11_slips_8 : decode cX11_slips 8 = .ok (.iload_n 2, 1) := by decide +kernel
theorem dX11_slips_9 : decode cX11_slips 9 = .ok (.invokestatic 174, 3) := by decide +kernel
theorem dX11_slips_12 : decode cX11_slips 12 = .ok (.ifCond .eq 22, 3) := by decide +kernel
theorem dX11_slips_15 : decode cX11_slips 15 = .ok (.aload_n 0, 1) := by decide +kernel
theorem dX11_slips_16 : decode cX11_slips 16 = .ok (.iload_n 3, 1) := by decide +kernel
theorem dX11_slips_17 : decode cX11_slips 17 = .ok (.invokevirtual 128, 3) := by decide +kernel
theorem dX11_slips_20 : decode cX11_slips 20 = .ok (.ifCond .eq 14, 3) := by decide +kernel
theorem dX11_slips_23 : decode cX11_slips 23 = .ok (.iload 4, 2) := by decide +kernel
theorem dX11_slips_25 : decode cX11_slips 25 = .ok (.iconst 0, 1) := by decide +kernel
theorem dX11_slips_26 : decode cX11_slips 26 = .ok (.bipush 10, 2) := by decide +kernel
theorem dX11_slips_28 : decode cX11_slips 28 = .ok (.invokestatic 90, 3) := by decide +kernel
theorem dX11_slips_31 : decode cX11_slips 31 = .ok (.ifCond .ne 10, 3) := by decide +kernel
theorem dX11_slips_34 : decode cX11_slips 34 = .ok (.aload_n 0, 1) := by decide +kernel
theorem dX11_slips_35 : decode cX11_slips 35 = .ok (.bipush (-2), 2) := by decide +kernel
theorem dX11_slips_37 : decode cX11_slips 37 = .ok (.invokevirtual 94, 3) := by decide +kernel
theorem dX11_slips_40 : decode cX11_slips 40 = .ok (.ireturn, 1) := by decide +kernel
theorem dX11_slips_41 : decode cX11_slips 41 = .ok (.aload_n 0, 1) := by decide +kernel
theorem dX11_slips_42 : decode cX11_slips 42 = .ok (.getfield 46, 3) := by decide +kernel
theorem dX11_slips_45 : decode cX11_slips 45 = .ok (.aload_n 0, 1) := by decide +kernel
theorem dX11_slips_46 : decode cX11_slips 46 = .ok (.getfield 10, 3) := by decide +kernel
theorem dX11_slips_49 : decode cX11_slips 49 = .ok (.getfield 73, 3) := by decide +kernel
theorem dX11_slips_52 : decode cX11_slips 52 = .ok (.iload_n 1, 1) := by decide +kernel
theorem dX11_slips_53 : decode cX11_slips 53 = .ok (.iload_n 2, 1) := by decide +kernel
theorem dX11_slips_54 : decode cX11_slips 54 = .ok (.invokevirtual 177, 3) := by decide +kernel
theorem dX11_slips_57 : decode cX11_slips 57 = .ok (.aload_n 0, 1) := by decide +kernel
theorem dX11_slips_58 : decode cX11_slips 58 = .ok (.getfield 46, 3) := by decide +kernel
theorem dX11_slips_61 : decode cX11_slips 61 = .ok (.iload_n 3, 1) := by decide +kernel
theorem dX11_slips_62 : decode cX11_slips 62 = .ok (.invokevirtual 184, 3) := by decide +kernel
theorem dX11_slips_65 : decode cX11_slips 65 = .ok (.ifCond .le 32, 3) := by decide +kernel
theorem dX11_slips_68 : decode cX11_slips 68 = .ok (.aload_n 0, 1) := by decide +kernel
theorem dX11_slips_69 : decode cX11_slips 69 = .ok (.getfield 35, 3) := by decide +kernel
theorem dX11_slips_72 : decode cX11_slips 72 = .ok (.bipush 10, 2) := by decide +kernel
theorem dX11_slips_74 : decode cX11_slips 74 = .ok (.iload 4, 2) := by decide +kernel
theorem dX11_slips_76 : decode cX11_slips 76 = .ok (.isub, 1) := by decide +kernel
theorem dX11_slips_77 : decode cX11_slips 77 = .ok (.bipush 10, 2) := by decide +kernel
theorem dX11_slips_79 : decode cX11_slips 79 = .ok (.aload_n 0, 1) := by decide +kernel
theorem dX11_slips_80 : decode cX11_slips 80 = .ok (.getfield 10, 3) := by decide +kernel
theorem dX11_slips_83 : decode cX11_slips 83 = .ok (.getfield 73, 3) := by decide +kernel
theorem dX11_slips_86 : decode cX11_slips 86 = .ok (.iload_n 1, 1) := by decide +kernel
theorem dX11_slips_87 : decode cX11_slips 87 = .ok (.iload_n 3, 1) := by decide +kernel
theorem dX11_slips_88 : decode cX11_slips 88 = .ok (.invokestatic 266, 3) := by decide +kernel
theorem dX11_slips_91 : decode cX11_slips 91 = .ok (.invokevirtual 270, 3) := by decide +kernel
theorem dX11_slips_94 : decode cX11_slips 94 = .ok (.goto 13, 3) := by decide +kernel
theorem dX11_slips_97 : decode cX11_slips 97 = .ok (.aload_n 0, 1) := by decide +kernel
theorem dX11_slips_98 : decode cX11_slips 98 = .ok (.getfield 35, 3) := by decide +kernel
theorem dX11_slips_101 : decode cX11_slips 101 = .ok (.iconst 0, 1) := by decide +kernel
theorem dX11_slips_102 : decode cX11_slips 102 = .ok (.iconst 1, 1) := by decide +kernel
theorem dX11_slips_103 : decode cX11_slips 103 = .ok (.iconst 1, 1) := by decide +kernel
theorem dX11_slips_104 : decode cX11_slips 104 = .ok (.invokevirtual 270, 3) := by decide +kernel
theorem dX11_slips_107 : decode cX11_slips 107 = .ok (.iconst 1, 1) := by decide +kernel
theorem dX11_slips_108 : decode cX11_slips 108 = .ok (.ireturn, 1) := by decide +kernel
set_option maxRecDepth 20000 in
theorem ggX11_decades_X11_within : GoodIn wsX11_decades wsX11_within := goodIn_r _ [15] (by decide +kernel) (by decide +kernel)
set_option maxRecDepth 20000 in
theorem gX11_decades_X11_within : GoodIn wsX11_decades (va_wsS RX11 90 yX11_within wsX11_within) := goodIn_app (goodIn_of _ (by decide +kernel)) ggX11_decades_X11_within
set_option maxRecDepth 20000 in
theorem ggX11_decades_X11_refuse : GoodIn wsX11_decades wsX11_refuse := goodIn_r _ [19, 20, 21, 22, 14, 23, 24, 25, 26, 126, 127, 128, 129, 130, 131, 132, 133, 134, 135, 136, 137, 138] (by decide +kernel) (by decide +kernel)
set_option maxRecDepth 20000 in
theorem gX11_decades_X11_refuse : GoodIn wsX11_decades (wsV RX11 94 RX11 yX11_refuse wsX11_refuse) := goodIn_app (goodIn_of _ (by decide +kernel)) ggX11_decades_X11_refuse
set_option maxRecDepth 20000 in
theorem ggX11_decades_X7_copyFrom : GoodIn wsX11_decades wsX7_copyFrom := goodIn_r _ [31, 32, 33, 34, 35, 36, 37, 38, 39, 22, 14, 23, 25, 26, 146, 147, 148, 149] (by decide +kernel) (by decide +kernel)
set_option maxRecDepth 20000 in
theorem gX11_decades_X7_copyFrom : GoodIn wsX11_decades (wsV RX11 206 RX7 yX7_copyFrom wsX7_copyFrom) := goodIn_app (goodIn_of _ (by decide +kernel)) ggX11_decades_X7_copyFrom
set_option maxRecDepth 20000 in
theorem ggX11_decades_X7_has : GoodIn wsX11_decades wsX7_has := goodIn_r _ [43, 32, 146, 147, 148, 149] (by decide +kernel) (by decide +kernel)
set_option maxRecDepth 20000 in
theorem gX11_decades_X7_has : GoodIn wsX11_decades (wsV RX11 284 RX7 yX7_has wsX7_has) := goodIn_app (goodIn_of _ (by decide +kernel)) ggX11_decades_X7_has
set_option maxRecDepth 20000 in
theorem ggX11_decades_X10_spread : GoodIn wsX11_decades wsX10_spread := goodIn_r _ [48, 49, 25, 14, 26, 50, 51, 52, 30, 53, 32, 54, 55, 56, 57, 38, 39, 58, 59, 60, 47, 61, 22, 23, 62, 63, 64, 65, 66, 35, 36, 37, 67, 68, 69, 150, 146, 147, 148, 149] (by decide +kernel) (by decide +kernel)
set_option maxRecDepth 20000 in
theorem gX11_decades_X10_spread : GoodIn wsX11_decades (wsV RX11 177 RX10 yX10_spread wsX10_spread) := goodIn_app (goodIn_of _ (by decide +kernel)) ggX11_decades_X10_spread
set_option maxRecDepth 20000 in
theorem ggX11_decades_X10_whoFeel : GoodIn wsX11_decades wsX10_whoFeel := goodIn_r _ [73, 49, 22, 14, 23, 150] (by decide +kernel) (by decide +kernel)
set_option maxRecDepth 20000 in
theorem gX11_decades_X10_whoFeel : GoodIn wsX11_decades (wsV RX11 181 RX10 yX10_whoFeel wsX10_whoFeel) := goodIn_app (goodIn_of _ (by decide +kernel)) ggX11_decades_X10_whoFeel
set_option maxRecDepth 20000 in
theorem ggX11_decades_J6_bitCount_0f7a4 : GoodIn wsX11_decades wsJ6_bitCount_0f7a4 := goodIn_r _ [77, 78, 79, 80] (by decide +kernel) (by decide +kernel)
set_option maxRecDepth 20000 in
theorem gX11_decades_J6_bitCount_0f7a4 : GoodIn wsX11_decades (va_wsS RX11 156 yJ6_bitCount_0f7a4 wsJ6_bitCount_0f7a4) := goodIn_app (goodIn_of _ (by decide +kernel)) ggX11_decades_J6_bitCount_0f7a4
set_option maxRecDepth 20000 in
theorem ggX11_decades_X1_passDays : GoodIn wsX11_decades wsX1_passDays := goodIn_r _ [84, 85, 51, 52, 30, 53, 32, 86, 55, 56, 57, 38, 39, 87, 88, 89, 90, 91, 92, 93, 94, 14, 95, 96, 97, 98, 99, 83, 100, 101, 102, 36, 103, 104, 105, 106, 107, 108, 64, 109, 67, 68, 69, 110, 111, 76, 112, 113, 114, 115, 116, 117, 12, 13, 15, 118, 119, 120, 121, 35, 37, 122, 123, 124, 125, 146, 147, 148, 149] (by decide +kernel) (by decide +kernel)
set_option maxRecDepth 20000 in
theorem gX11_decades_X1_passDays : GoodIn wsX11_decades (va_wsS RX11 209 yX1_passDays wsX1_passDays) := goodIn_app (goodIn_of _ (by decide +kernel)) ggX11_decades_X1_passDays
theorem dX11_decades_0 : decode cX11_decades 0 = .ok (.iload_n 1, 1) := by decide +kernel
theorem dX11_decades_1 : decode cX11_decades 1 = .ok (.iconst 0, 1) := by decide +kernel
theorem dX11_decades_2 : decode cX11_decades 2 = .ok (.ldc_w 273, 3) := by decide +kernel
theorem dX11_decades_5 : decode cX11_decades 5 = .ok (.invokestatic 90, 3) := by decide +kernel
theorem dX11_decades_8 : decode cX11_decades 8 = .ok (.ifCond .eq 13, 3) := by decide +kernel
theorem dX11_decades_11 : decode cX11_decades 11 = .ok (.iload_n 2, 1) := by decide +kernel
theorem dX11_decades_12 : decode cX11_decades 12 = .ok (.iconst 0, 1) := by decide +kernel
theorem dX11_decades_13 : decode cX11_decades 13 = .ok (.bipush 60, 2) := by decide +kernel
theorem dX11_decades_15 : decode cX11_decades 15 = .ok (.invokestatic 90, 3) := by decide +kernel
theorem dX11_decades_18 : decode cX11_decades 18 = .ok (.ifCond .ne 10, 3) := by decide +kernel
theorem dX11_decades_21 : decode cX11_decades 21 = .ok (.aload_n 0, 1) := by decide +kernel
theorem dX11_decades_22 : decode cX11_decades 22 = .ok (.bipush (-2), 2) := by decide +kernel
theorem dX11_decades_24 : decode cX11_decades 24 = .ok (.invokevirtual 94, 3) := by decide +kernel
theorem dX11_decades_27 : decode cX11_decades 27 = .ok (.ireturn, 1) := by decide +kernel
theorem dX11_decades_28 : decode cX11_decades 28 = .ok (.aload_n 0, 1) := by decide +kernel
theorem dX11_decades_29 : decode cX11_decades 29 = .ok (.getfield 69, 3) := by decide +kernel
theorem dX11_decades_32 : decode cX11_decades 32 = .ok (.aload_n 0, 1) := by decide +kernel
theorem dX11_decades_33 : decode cX11_decades 33 = .ok (.getfield 10, 3) := by decide +kernel
theorem dX11_decades_36 : decode cX11_decades 36 = .ok (.getfield 73, 3) := by decide +kernel
theorem dX11_decades_39 : decode cX11_decades 39 = .ok (.invokevirtual 206, 3) := by decide +kernel
theorem dX11_decades_42 : decode cX11_decades 42 = .ok (.iload_n 1, 1) := by decide +kernel
theorem dX11_decades_43 : decode cX11_decades 43 = .ok (.i2l, 1) := by decide +kernel
theorem dX11_decades_44 : decode cX11_decades 44 = .ok (.lstore_n 3, 1) := by decide +kernel
theorem dX11_decades_45 : decode cX11_decades 45 = .ok (.iconst 0, 1) := by decide +kernel
theorem dX11_decades_46 : decode cX11_decades 46 = .ok (.istore 5, 2) := by decide +kernel
theorem dX11_decades_48 : decode cX11_decades 48 = .ok (.iconst 0, 1) := by decide +kernel
theorem dX11_decades_49 : decode cX11_decades 49 = .ok (.istore 6, 2) := by decide +kernel
theorem dX11_decades_51 : decode cX11_decades 51 = .ok (.iload 6, 2) := by decide +kernel
theorem dX11_decades_53 : decode cX11_decades 53 = .ok (.iload_n 2, 1) := by decide +kernel
theorem dX11_decades_54 : decode cX11_decades 54 = .ok (.if_icmp .ge 113, 3) := by decide +kernel
theorem dX11_decades_57 : decode cX11_decades 57 = .ok (.lload_n 3, 1) := by decide +kernel
theorem dX11_decades_58 : decode cX11_decades 58 = .ok (.ldc2_w 274, 3) := by decide +kernel
theorem dX11_decades_61 : decode cX11_decades 61 = .ok (.lmul, 1) := by decide +kernel
theorem dX11_decades_62 : decode cX11_decades 62 = .ok (.ldc2_w 276, 3) := by decide +kernel
theorem dX11_decades_65 : decode cX11_decades 65 = .ok (.ladd, 1) := by decide +kernel
theorem dX11_decades_66 : decode cX11_decades 66 = .ok (.ldc2_w 278, 3) := by decide +kernel
theorem dX11_decades_69 : decode cX11_decades 69 = .ok (.lrem, 1) := by decide +kernel
theorem dX11_decades_70 : decode cX11_decades 70 = .ok (.lstore_n 3, 1) := by decide +kernel
theorem dX11_decades_71 : decode cX11_decades 71 = .ok (.lload_n 3, 1) := by decide +kernel
theorem dX11_decades_72 : decode cX11_decades 72 = .ok (.ldc2_w 280, 3) := by decide +kernel
theorem dX11_decades_75 : decode cX11_decades 75 = .ok (.ldiv, 1) := by decide +kernel
theorem dX11_decades_76 : decode cX11_decades 76 = .ok (.ldc2_w 282, 3) := by decide +kernel
theorem dX11_decades_79 : decode cX11_decades 79 = .ok (.lrem, 1) := by decide +kernel
theorem dX11_decades_80 : decode cX11_decades 80 = .ok (.l2i, 1) := by decide +kernel
theorem dX11_decades_81 : decode cX11_decades 81 = .ok (.istore 7, 2) := by decide +kernel
theorem dX11_decades_83 : decode cX11_decades 83 = .ok (.aload_n 0, 1) := by decide +kernel
theorem dX11_decades_84 : decode cX11_decades 84 = .ok (.getfield 69, 3) := by decide +kernel
theorem dX11_decades_87 : decode cX11_decades 87 = .ok (.iload 7, 2) := by decide +kernel
theorem dX11_decades_89 : decode cX11_decades 89 = .ok (.invokevirtual 284, 3) := by decide +kernel
theorem dX11_decades_92 : decode cX11_decades 92 = .ok (.ifCond .eq 43, 3) := by decide +kernel
theorem dX11_decades_95 : decode cX11_decades 95 = .ok (.aload_n 0, 1) := by decide +kernel
theorem dX11_decades_96 : decode cX11_decades 96 = .ok (.getfield 46, 3) := by decide +kernel
theorem dX11_decades_99 : decode cX11_decades 99 = .ok (.aload_n 0, 1) := by decide +kernel
theorem dX11_decades_100 : decode cX11_decades 100 = .ok (.getfield 69, 3) := by decide +kernel
theorem dX11_decades_103 : decode cX11_decades 103 = .ok (.iload 7, 2) := by decide +kernel
theorem dX11_decades_105 : decode cX11_decades 105 = .ok (.lload_n 3, 1) := by decide +kernel
theorem dX11_decades_106 : decode cX11_decades 106 = .ok (.ldc2_w 287, 3) := by decide +kernel
theorem dX11_decades_109 : decode cX11_decades 109 = .ok (.ldiv, 1) := by decide +kernel
theorem dX11_decades_110 : decode cX11_decades 110 = .ok (.ldc2_w 289, 3) := by decide +kernel
theorem dX11_decades_113 : decode cX11_decades 113 = .ok (.lrem, 1) := by decide +kernel
theorem dX11_decades_114 : decode cX11_decades 114 = .ok (.l2i, 1) := by decide +kernel
theorem dX11_decades_115 : decode cX11_decades 115 = .ok (.iconst 1, 1) := by decide +kernel
theorem dX11_decades_116 : decode cX11_decades 116 = .ok (.iadd, 1) := by decide +kernel
theorem dX11_decades_117 : decode cX11_decades 117 = .ok (.invokevirtual 177, 3) := by decide +kernel
theorem dX11_decades_120 : decode cX11_decades 120 = .ok (.iload 5, 2) := by decide +kernel
theorem dX11_decades_122 : decode cX11_decades 122 = .ok (.aload_n 0, 1) := by decide +kernel
theorem dX11_decades_123 : decode cX11_decades 123 = .ok (.getfield 46, 3) := by decide +kernel
theorem dX11_decades_126 : decode cX11_decades 126 = .ok (.invokevirtual 181, 3) := by decide +kernel
theorem dX11_decades_129 : decode cX11_decades 129 = .ok (.invokestatic 156, 3) := by decide +kernel
theorem dX11_decades_132 : decode cX11_decades 132 = .ok (.iadd, 1) := by decide +kernel
theorem dX11_decades_133 : decode cX11_decades 133 = .ok (.istore 5, 2) := by decide +kernel
theorem dX11_decades_135 : decode cX11_decades 135 = .ok (.aload_n 0, 1) := by decide +kernel
theorem dX11_decades_136 : decode cX11_decades 136 = .ok (.getfield 69, 3) := by decide +kernel
theorem dX11_decades_139 : decode cX11_decades 139 = .ok (.aload_n 0, 1) := by decide +kernel
theorem dX11_decades_140 : decode cX11_decades 140 = .ok (.getfield 10, 3) := by decide +kernel
theorem dX11_decades_143 : decode cX11_decades 143 = .ok (.getfield 106, 3) := by decide +kernel
theorem dX11_decades_146 : decode cX11_decades 146 = .ok (.aload_n 0, 1) := by decide +kernel
theorem dX11_decades_147 : decode cX11_decades 147 = .ok (.getfield 10, 3) := by decide +kernel
theorem dX11_decades_150 : decode cX11_decades 150 = .ok (.getfield 170, 3) := by decide +kernel
theorem dX11_decades_153 : decode cX11_decades 153 = .ok (.iload 6, 2) := by decide +kernel
theorem dX11_decades_155 : decode cX11_decades 155 = .ok (.iadd, 1) := by decide +kernel
theorem dX11_decades_156 : decode cX11_decades 156 = .ok (.iconst 1, 1) := by decide +kernel
theorem dX11_decades_157 : decode cX11_decades 157 = .ok (.invokestatic 209, 3) := by decide +kernel
theorem dX11_decades_160 : decode cX11_decades 160 = .ok (.pop, 1) := by decide +kernel
theorem dX11_decades_161 : decode cX11_decades 161 = .ok (.iinc 6 1, 3) := by decide +kernel
theorem dX11_decades_164 : decode cX11_decades 164 = .ok (.goto (-113), 3) := by decide +kernel
theorem dX11_decades_167 : decode cX11_decades 167 = .ok (.iload 5, 2) := by decide +kernel
theorem dX11_decades_169 : decode cX11_decades 169 = .ok (.ireturn, 1) := by decide +kernel
set_option maxRecDepth 20000 in
theorem ggX11_part_X11_within : GoodIn wsX11_part wsX11_within := goodIn_r _ [5] (by decide +kernel) (by decide +kernel)
set_option maxRecDepth 20000 in
theorem gX11_part_X11_within : GoodIn wsX11_part (va_wsS RX11 90 yX11_within wsX11_within) := goodIn_app (goodIn_of _ (by decide +kernel)) ggX11_part_X11_within
set_option maxRecDepth 20000 in
theorem ggX11_part_X11_refuse : GoodIn wsX11_part wsX11_refuse := goodIn_r _ [9, 10, 11, 12, 4, 13, 14, 15, 16, 17, 18, 19, 20, 21, 22, 23, 24, 25, 26, 27, 28, 29] (by decide +kernel) (by decide +kernel)
set_option maxRecDepth 20000 in
theorem gX11_part_X11_refuse : GoodIn wsX11_part (wsV RX11 94 RX11 yX11_refuse wsX11_refuse) := goodIn_app (goodIn_of _ (by decide +kernel)) ggX11_part_X11_refuse
theorem dX11_part_0 : decode cX11_part 0 = .ok (.iload_n 1, 1) := by decide +kernel
theorem dX11_part_1 : decode cX11_part 1 = .ok (.iconst 0, 1) := by decide +kernel
theorem dX11_part_2 : decode cX11_part 2 = .ok (.iconst 1, 1) := by decide +kernel
theorem dX11_part_3 : decode cX11_part 3 = .ok (.invokestatic 90, 3) := by decide +kernel
theorem dX11_part_6 : decode cX11_part 6 = .ok (.ifCond .ne 11, 3) := by decide +kernel
theorem dX11_part_9 : decode cX11_part 9 = .ok (.aload_n 0, 1) := by decide +kernel
theorem dX11_part_10 : decode cX11_part 10 = .ok (.bipush (-2), 2) := by decide +kernel
theorem dX11_part_12 : decode cX11_part 12 = .ok (.invokevirtual 94, 3) := by decide +kernel
theorem dX11_part_15 : decode cX11_part 15 = .ok (.i2l, 1) := by decide +kernel
theorem dX11_part_16 : decode cX11_part 16 = .ok (.lreturn, 1) := by decide +kernel
theorem dX11_part_17 : decode cX11_part 17 = .ok (.iload_n 1, 1) := by decide +kernel
theorem dX11_part_18 : decode cX11_part 18 = .ok (.ifCond .ne 13, 3) := by decide +kernel
theorem dX11_part_21 : decode cX11_part 21 = .ok (.aload_n 0, 1) := by decide +kernel
theorem dX11_part_22 : decode cX11_part 22 = .ok (.getfield 35, 3) := by decide +kernel
theorem dX11_part_25 : decode cX11_part 25 = .ok (.getfield 291, 3) := by decide +kernel
theorem dX11_part_28 : decode cX11_part 28 = .ok (.goto 10, 3) := by decide +kernel
theorem dX11_part_31 : decode cX11_part 31 = .ok (.aload_n 0, 1) := by decide +kernel
theorem dX11_part_32 : decode cX11_part 32 = .ok (.getfield 35, 3) := by decide +kernel
theorem dX11_part_35 : decode cX11_part 35 = .ok (.getfield 295, 3) := by decide +kernel
theorem dX11_part_38 : decode cX11_part 38 = .ok (.lreturn, 1) := by decide +kernel
set_option maxRecDepth 20000 in
theorem ggX11_image_X11_within : GoodIn wsX11_image wsX11_within := goodIn_r _ [9] (by decide +kernel) (by decide +kernel)
set_option maxRecDepth 20000 in
theorem gX11_image_X11_within : GoodIn wsX11_image (va_wsS RX11 90 yX11_within wsX11_within) := goodIn_app (goodIn_of _ (by decide +kernel)) ggX11_image_X11_within
set_option maxRecDepth 20000 in
theorem ggX11_image_X11_refuse : GoodIn wsX11_image wsX11_refuse := goodIn_r _ [13, 14, 15, 16, 8, 17, 18, 19, 20, 46, 47, 48, 49, 50, 51, 52, 53, 54, 55, 56, 57, 58] (by decide +kernel) (by decide +kernel)
set_option maxRecDepth 20000 in
theorem gX11_image_X11_refuse : GoodIn wsX11_image (wsV RX11 94 RX11 yX11_refuse wsX11_refuse) := goodIn_app (goodIn_of _ (by decide +kernel)) ggX11_image_X11_refuse
set_option maxRecDepth 20000 in
theorem ggX11_image_X6_copyFrom : GoodIn wsX11_image wsX6_copyFrom := goodIn_r _ [25, 26, 27, 28, 29, 30, 31, 32, 33, 34, 35, 36, 37, 38, 39, 40, 41, 42, 43, 44, 45, 16, 8, 17, 19, 20, 59, 60, 61, 62, 63, 64, 65, 66, 67, 68, 69] (by decide +kernel) (by decide +kernel)
set_option maxRecDepth 20000 in
theorem gX11_image_X6_copyFrom : GoodIn wsX11_image (wsV RX11 124 RX6 yX6_copyFrom wsX6_copyFrom) := goodIn_app (goodIn_of _ (by decide +kernel)) ggX11_image_X6_copyFrom
theorem dX11_image_0 : decode cX11_image 0 = .ok (.iload_n 1, 1) := by decide +kernel
theorem dX11_image_1 : decode cX11_image 1 = .ok (.iconst 0, 1) := by decide +kernel
theorem dX11_image_2 : decode cX11_image 2 = .ok (.iconst 1, 1) := by decide +kernel
theorem dX11_image_3 : decode cX11_image 3 = .ok (.invokestatic 90, 3) := by decide +kernel
theorem dX11_image_6 : decode cX11_image 6 = .ok (.ifCond .ne 10, 3) := by decide +kernel
theorem dX11_image_9 : decode cX11_image 9 = .ok (.aload_n 0, 1) := by decide +kernel
theorem dX11_image_10 : decode cX11_image 10 = .ok (.bipush (-2), 2) := by decide +kernel
theorem dX11_image_12 : decode cX11_image 12 = .ok (.invokevirtual 94, 3) := by decide +kernel
theorem dX11_image_15 : decode cX11_image 15 = .ok (.ireturn, 1) := by decide +kernel
theorem dX11_image_16 : decode cX11_image 16 = .ok (.iload_n 1, 1) := by decide +kernel
theorem dX11_image_17 : decode cX11_image 17 = .ok (.ifCond .ne 22, 3) := by decide +kernel
theorem dX11_image_20 : decode cX11_image 20 = .ok (.aload_n 0, 1) := by decide +kernel
theorem dX11_image_21 : decode cX11_image 21 = .ok (.getfield 19, 3) := by decide +kernel
theorem dX11_image_24 : decode cX11_image 24 = .ok (.aload_n 0, 1) := by decide +kernel
theorem dX11_image_25 : decode cX11_image 25 = .ok (.getfield 10, 3) := by decide +kernel
theorem dX11_image_28 : decode cX11_image 28 = .ok (.invokevirtual 124, 3) := by decide +kernel
theorem dX11_image_31 : decode cX11_image 31 = .ok (.aload_n 0, 1) := by decide +kernel
theorem dX11_image_32 : decode cX11_image 32 = .ok (.iconst 1, 1) := by decide +kernel
theorem dX11_image_33 : decode cX11_image 33 = .ok (.putfield 298, 3) := by decide +kernel
theorem dX11_image_36 : decode cX11_image 36 = .ok (.goto 19, 3) := by decide +kernel
theorem dX11_image_39 : decode cX11_image 39 = .ok (.aload_n 0, 1) := by decide +kernel
theorem dX11_image_40 : decode cX11_image 40 = .ok (.getfield 22, 3) := by decide +kernel
theorem dX11_image_43 : decode cX11_image 43 = .ok (.aload_n 0, 1) := by decide +kernel
theorem dX11_image_44 : decode cX11_image 44 = .ok (.getfield 10, 3) := by decide +kernel
theorem dX11_image_47 : decode cX11_image 47 = .ok (.invokevirtual 124, 3) := by decide +kernel
theorem dX11_image_50 : decode cX11_image 50 = .ok (.aload_n 0, 1) := by decide +kernel
theorem dX11_image_51 : decode cX11_image 51 = .ok (.iconst 1, 1) := by decide +kernel
theorem dX11_image_52 : decode cX11_image 52 = .ok (.putfield 302, 3) := by decide +kernel
theorem dX11_image_55 : decode cX11_image 55 = .ok (.iconst 1, 1) := by decide +kernel
theorem dX11_image_56 : decode cX11_image 56 = .ok (.ireturn, 1) := by decide +kernel
set_option maxRecDepth 20000 in
theorem ggX11_from_X11_within : GoodIn wsX11_from wsX11_within := goodIn_r _ [9] (by decide +kernel) (by decide +kernel)
set_option maxRecDepth 20000 in
theorem gX11_from_X11_within : GoodIn wsX11_from (va_wsS RX11 90 yX11_within wsX11_within) := goodIn_app (goodIn_of _ (by decide +kernel)) ggX11_from_X11_within
set_option maxRecDepth 20000 in
theorem ggX11_from_X11_refuse : GoodIn wsX11_from wsX11_refuse := goodIn_r _ [13, 14, 15, 16, 8, 17, 18, 19, 20, 46, 47, 48, 49, 50, 51, 52, 53, 54, 55, 56, 57, 58] (by decide +kernel) (by decide +kernel)
set_option maxRecDepth 20000 in
theorem gX11_from_X11_refuse : GoodIn wsX11_from (wsV RX11 94 RX11 yX11_refuse wsX11_refuse) := goodIn_app (goodIn_of _ (by decide +kernel)) ggX11_from_X11_refuse
set_option maxRecDepth 20000 in
theorem ggX11_from_X6_copyFrom : GoodIn wsX11_from wsX6_copyFrom := goodIn_r _ [25, 26, 27, 28, 29, 30, 31, 32, 33, 34, 35, 36, 37, 38, 39, 40, 41, 42, 43, 44, 45, 16, 8, 17, 19, 20, 59, 60, 61, 62, 63, 64, 65, 66, 67, 68, 69] (by decide +kernel) (by decide +kernel)
set_option maxRecDepth 20000 in
theorem gX11_from_X6_copyFrom : GoodIn wsX11_from (wsV RX11 124 RX6 yX6_copyFrom wsX6_copyFrom) := goodIn_app (goodIn_of _ (by decide +kernel)) ggX11_from_X6_copyFrom
theorem dX11_from_0 : decode cX11_from 0 = .ok (.iload_n 1, 1) := by decide +kernel
theorem dX11_from_1 : decode cX11_from 1 = .ok (.iconst 0, 1) := by decide +kernel
theorem dX11_from_2 : decode cX11_from 2 = .ok (.iconst 1, 1) := by decide +kernel
theorem dX11_from_3 : decode cX11_from 3 = .ok (.invokestatic 90, 3) := by decide +kernel
theorem dX11_from_6 : decode cX11_from 6 = .ok (.ifCond .ne 10, 3) := by decide +kernel
theorem dX11_from_9 : decode cX11_from 9 = .ok (.aload_n 0, 1) := by decide +kernel
theorem dX11_from_10 : decode cX11_from 10 = .ok (.bipush (-2), 2) := by decide +kernel
theorem dX11_from_12 : decode cX11_from 12 = .ok (.invokevirtual 94, 3) := by decide +kernel
theorem dX11_from_15 : decode cX11_from 15 = .ok (.ireturn, 1) := by decide +kernel
theorem dX11_from_16 : decode cX11_from 16 = .ok (.iload_n 1, 1) := by decide +kernel
theorem dX11_from_17 : decode cX11_from 17 = .ok (.ifCond .ne 13, 3) := by decide +kernel
theorem dX11_from_20 : decode cX11_from 20 = .ok (.aload_n 0, 1) := by decide +kernel
theorem dX11_from_21 : decode cX11_from 21 = .ok (.getfield 298, 3) := by decide +kernel
theorem dX11_from_24 : decode cX11_from 24 = .ok (.ifCond .ne 20, 3) := by decide +kernel
theorem dX11_from_27 : decode cX11_from 27 = .ok (.goto 10, 3) := by decide +kernel
theorem dX11_from_30 : decode cX11_from 30 = .ok (.aload_n 0, 1) := by decide +kernel
theorem dX11_from_31 : decode cX11_from 31 = .ok (.getfield 302, 3) := by decide +kernel
theorem dX11_from_34 : decode cX11_from 34 = .ok (.ifCond .ne 10, 3) := by decide +kernel
theorem dX11_from_37 : decode cX11_from 37 = .ok (.aload_n 0, 1) := by decide +kernel
theorem dX11_from_38 : decode cX11_from 38 = .ok (.bipush (-3), 2) := by decide +kernel
theorem dX11_from_40 : decode cX11_from 40 = .ok (.invokevirtual 94, 3) := by decide +kernel
theorem dX11_from_43 : decode cX11_from 43 = .ok (.ireturn, 1) := by decide +kernel
theorem dX11_from_44 : decode cX11_from 44 = .ok (.aload_n 0, 1) := by decide +kernel
theorem dX11_from_45 : decode cX11_from 45 = .ok (.getfield 10, 3) := by decide +kernel
theorem dX11_from_48 : decode cX11_from 48 = .ok (.iload_n 1, 1) := by decide +kernel
theorem dX11_from_49 : decode cX11_from 49 = .ok (.ifCond .ne 10, 3) := by decide +kernel
theorem dX11_from_52 : decode cX11_from 52 = .ok (.aload_n 0, 1) := by decide +kernel
theorem dX11_from_53 : decode cX11_from 53 = .ok (.getfield 19, 3) := by decide +kernel
theorem dX11_from_56 : decode cX11_from 56 = .ok (.goto 7, 3) := by decide +kernel
theorem dX11_from_59 : decode cX11_from 59 = .ok (.aload_n 0, 1) := by decide +kernel
theorem dX11_from_60 : decode cX11_from 60 = .ok (.getfield 22, 3) := by decide +kernel
theorem dX11_from_63 : decode cX11_from 63 = .ok (.invokevirtual 124, 3) := by decide +kernel
theorem dX11_from_66 : decode cX11_from 66 = .ok (.iconst 1, 1) := by decide +kernel
theorem dX11_from_67 : decode cX11_from 67 = .ok (.ireturn, 1) := by decide +kernel
set_option maxRecDepth 20000 in
theorem ggX11_status_X11_within : GoodIn wsX11_status wsX11_within := goodIn_r _ [5] (by decide +kernel) (by decide +kernel)
set_option maxRecDepth 20000 in
theorem gX11_status_X11_within : GoodIn wsX11_status (va_wsS RX11 90 yX11_within wsX11_within) := goodIn_app (goodIn_of _ (by decide +kernel)) ggX11_status_X11_within
set_option maxRecDepth 20000 in
theorem ggX11_status_X11_refuse : GoodIn wsX11_status wsX11_refuse := goodIn_r _ [9, 1, 10, 11, 4, 12, 13, 14, 15, 16, 17, 18, 19, 20, 21, 22, 23, 24, 25, 26, 27, 28] (by decide +kernel) (by decide +kernel)
set_option maxRecDepth 20000 in
theorem gX11_status_X11_refuse : GoodIn wsX11_status (wsV RX11 94 RX11 yX11_refuse wsX11_refuse) := goodIn_app (goodIn_of _ (by decide +kernel)) ggX11_status_X11_refuse
set_option maxRecDepth 20000 in
theorem ggX11_status_X11_cell : GoodIn wsX11_status wsX11_cell := goodIn_r _ [12] (by decide +kernel) (by decide +kernel)
set_option maxRecDepth 20000 in
theorem gX11_status_X11_cell : GoodIn wsX11_status (va_wsS RX11 305 yX11_cell wsX11_cell) := goodIn_app (goodIn_of _ (by decide +kernel)) ggX11_status_X11_cell
theorem dX11_status_0 : decode cX11_status 0 = .ok (.iload_n 1, 1) := by decide +kernel
theorem dX11_status_1 : decode cX11_status 1 = .ok (.iconst 0, 1) := by decide +kernel
theorem dX11_status_2 : decode cX11_status 2 = .ok (.iconst 2, 1) := by decide +kernel
theorem dX11_status_3 : decode cX11_status 3 = .ok (.invokestatic 90, 3) := by decide +kernel
theorem dX11_status_6 : decode cX11_status 6 = .ok (.ifCond .ne 12, 3) := by decide +kernel
theorem dX11_status_9 : decode cX11_status 9 = .ok (.aload_n 0, 1) := by decide +kernel
theorem dX11_status_10 : decode cX11_status 10 = .ok (.bipush (-2), 2) := by decide +kernel
theorem dX11_status_12 : decode cX11_status 12 = .ok (.invokevirtual 94, 3) := by decide +kernel
theorem dX11_status_15 : decode cX11_status 15 = .ok (.pop, 1) := by decide +kernel
theorem dX11_status_16 : decode cX11_status 16 = .ok (.iconst (-1), 1) := by decide +kernel
theorem dX11_status_17 : decode cX11_status 17 = .ok (.ireturn, 1) := by decide +kernel
theorem dX11_status_18 : decode cX11_status 18 = .ok (.aload_n 0, 1) := by decide +kernel
theorem dX11_status_19 : decode cX11_status 19 = .ok (.getfield 39, 3) := by decide +kernel
theorem dX11_status_22 : decode cX11_status 22 = .ok (.iload_n 1, 1) := by decide +kernel
theorem dX11_status_23 : decode cX11_status 23 = .ok (.invokestatic 305, 3) := by decide +kernel
theorem dX11_status_26 : decode cX11_status 26 = .ok (.ireturn, 1) := by decide +kernel
set_option maxRecDepth 20000 in
theorem ggX11_count_X11_within : GoodIn wsX11_count wsX11_within := goodIn_r _ [4] (by decide +kernel) (by decide +kernel)
set_option maxRecDepth 20000 in
theorem gX11_count_X11_within : GoodIn wsX11_count (va_wsS RX11 90 yX11_within wsX11_within) := goodIn_app (goodIn_of _ (by decide +kernel)) ggX11_count_X11_within
set_option maxRecDepth 20000 in
theorem ggX11_count_X11_howMany : GoodIn wsX11_count wsX11_howMany := goodIn_r _ [8, 9, 10, 11, 12, 13, 14, 15, 16, 17, 18, 19, 20, 21, 22, 23, 24, 25, 26, 27, 28, 29, 30, 31, 32, 33, 34, 35, 36, 37, 38, 39, 40, 41, 53, 54, 55, 56, 57, 58, 59, 60, 61, 62, 63, 64, 65, 66, 67, 68, 69, 70, 71, 72, 73, 74, 75, 76, 77, 78, 79, 80, 81, 82, 83, 84] (by decide +kernel) (by decide +kernel)
set_option maxRecDepth 20000 in
theorem gX11_count_X11_howMany : GoodIn wsX11_count (wsV RX11 309 RX11 yX11_howMany wsX11_howMany) := goodIn_app (goodIn_of _ (by decide +kernel)) ggX11_count_X11_howMany
set_option maxRecDepth 20000 in
theorem ggX11_count_X11_refuse : GoodIn wsX11_count wsX11_refuse := goodIn_r _ [45, 46, 47, 48, 3, 49, 50, 51, 52, 53, 54, 55, 56, 57, 58, 59, 60, 61, 62, 63, 64, 65] (by decide +kernel) (by decide +kernel)
set_option maxRecDepth 20000 in
theorem gX11_count_X11_refuse : GoodIn wsX11_count (wsV RX11 94 RX11 yX11_refuse wsX11_refuse) := goodIn_app (goodIn_of _ (by decide +kernel)) ggX11_count_X11_refuse
theorem dX11_count_0 : decode cX11_count 0 = .ok (.iload_n 1, 1) := by decide +kernel
theorem dX11_count_1 : decode cX11_count 1 = .ok (.iconst 0, 1) := by decide +kernel
theorem dX11_count_2 : decode cX11_count 2 = .ok (.bipush 9, 2) := by decide +kernel
theorem dX11_count_4 : decode cX11_count 4 = .ok (.invokestatic 90, 3) := by decide +kernel
theorem dX11_count_7 : decode cX11_count 7 = .ok (.ifCond .eq 11, 3) := by decide +kernel
theorem dX11_count_10 : decode cX11_count 10 = .ok (.aload_n 0, 1) := by decide +kernel
theorem dX11_count_11 : decode cX11_count 11 = .ok (.iload_n 1, 1) := by decide +kernel
theorem dX11_count_12 : decode cX11_count 12 = .ok (.invokevirtual 309, 3) := by decide +kernel
theorem dX11_count_15 : decode cX11_count 15 = .ok (.goto 9, 3) := by decide +kernel
theorem dX11_count_18 : decode cX11_count 18 = .ok (.aload_n 0, 1) := by decide +kernel
theorem dX11_count_19 : decode cX11_count 19 = .ok (.bipush (-2), 2) := by decide +kernel
theorem dX11_count_21 : decode cX11_count 21 = .ok (.invokevirtual 94, 3) := by decide +kernel
theorem dX11_count_24 : decode cX11_count 24 = .ok (.ireturn, 1) := by decide +kernel
set_option maxRecDepth 20000 in
theorem ggX11_digest_X11_howMany : GoodIn wsX11_digest wsX11_howMany := goodIn_r _ [9, 3, 10, 11, 12, 13, 14, 15, 16, 17, 18, 19, 20, 21, 22, 23, 24, 25, 26, 27, 28, 29, 30, 31, 32, 33, 34, 35, 36, 37, 38, 39, 40, 41, 49, 50, 51, 52, 53, 54, 55, 56, 57, 58, 59, 60, 61, 62, 63, 64, 65, 66, 67, 68, 71, 72, 73, 74, 75, 76, 77, 78, 79, 80, 81, 82] (by decide +kernel) (by decide +kernel)
set_option maxRecDepth 20000 in
theorem gX11_digest_X11_howMany : GoodIn wsX11_digest (wsV RX11 309 RX11 yX11_howMany wsX11_howMany) := goodIn_app (goodIn_of _ (by decide +kernel)) ggX11_digest_X11_howMany
set_option maxRecDepth 20000 in
theorem ggX11_digest_X7_digestOn : GoodIn wsX11_digest wsX7_digestOn := goodIn_r _ [45, 16, 29, 46, 30, 47, 8, 48, 71, 72, 73, 74] (by decide +kernel) (by decide +kernel)
set_option maxRecDepth 20000 in
theorem gX11_digest_X7_digestOn : GoodIn wsX11_digest (wsV RX11 315 RX7 yX7_digestOn wsX7_digestOn) := goodIn_app (goodIn_of _ (by decide +kernel)) ggX11_digest_X7_digestOn
theorem dX11_digest_0 : decode cX11_digest 0 = .ok (.ldc2_w 311, 3) := by decide +kernel
theorem dX11_digest_3 : decode cX11_digest 3 = .ok (.lstore_n 1, 1) := by decide +kernel
theorem dX11_digest_4 : decode cX11_digest 4 = .ok (.iconst 0, 1) := by decide +kernel
theorem dX11_digest_5 : decode cX11_digest 5 = .ok (.istore_n 3, 1) := by decide +kernel
theorem dX11_digest_6 : decode cX11_digest 6 = .ok (.iload_n 3, 1) := by decide +kernel
theorem dX11_digest_7 : decode cX11_digest 7 = .ok (.bipush 9, 2) := by decide +kernel
theorem dX11_digest_9 : decode cX11_digest 9 = .ok (.if_icmp .gt 22, 3) := by decide +kernel
theorem dX11_digest_12 : decode cX11_digest 12 = .ok (.ldc2_w 313, 3) := by decide +kernel
theorem dX11_digest_15 : decode cX11_digest 15 = .ok (.lload_n 1, 1) := by decide +kernel
theorem dX11_digest_16 : decode cX11_digest 16 = .ok (.lmul, 1) := by decide +kernel
theorem dX11_digest_17 : decode cX11_digest 17 = .ok (.aload_n 0, 1) := by decide +kernel
theorem dX11_digest_18 : decode cX11_digest 18 = .ok (.iload_n 3, 1) := by decide +kernel
theorem dX11_digest_19 : decode cX11_digest 19 = .ok (.invokevirtual 309, 3) := by decide +kernel
theorem dX11_digest_22 : decode cX11_digest 22 = .ok (.i2l, 1) := by decide +kernel
theorem dX11_digest_23 : decode cX11_digest 23 = .ok (.ladd, 1) := by decide +kernel
theorem dX11_digest_24 : decode cX11_digest 24 = .ok (.lstore_n 1, 1) := by decide +kernel
theorem dX11_digest_25 : decode cX11_digest 25 = .ok (.iinc 3 1, 3) := by decide +kernel
theorem dX11_digest_28 : decode cX11_digest 28 = .ok (.goto (-22), 3) := by decide +kernel
theorem dX11_digest_31 : decode cX11_digest 31 = .ok (.aload_n 0, 1) := by decide +kernel
theorem dX11_digest_32 : decode cX11_digest 32 = .ok (.getfield 10, 3) := by decide +kernel
theorem dX11_digest_35 : decode cX11_digest 35 = .ok (.getfield 73, 3) := by decide +kernel
theorem dX11_digest_38 : decode cX11_digest 38 = .ok (.lload_n 1, 1) := by decide +kernel
theorem dX11_digest_39 : decode cX11_digest 39 = .ok (.invokevirtual 315, 3) := by decide +kernel
theorem dX11_digest_42 : decode cX11_digest 42 = .ok (.lstore_n 1, 1) := by decide +kernel
theorem dX11_digest_43 : decode cX11_digest 43 = .ok (.aload_n 0, 1) := by decide +kernel
theorem dX11_digest_44 : decode cX11_digest 44 = .ok (.getfield 10, 3) := by decide +kernel
theorem dX11_digest_47 : decode cX11_digest 47 = .ok (.getfield 106, 3) := by decide +kernel
theorem dX11_digest_50 : decode cX11_digest 50 = .ok (.lload_n 1, 1) := by decide +kernel
theorem dX11_digest_51 : decode cX11_digest 51 = .ok (.invokevirtual 315, 3) := by decide +kernel
theorem dX11_digest_54 : decode cX11_digest 54 = .ok (.lstore_n 1, 1) := by decide +kernel
theorem dX11_digest_55 : decode cX11_digest 55 = .ok (.aload_n 0, 1) := by decide +kernel
theorem dX11_digest_56 : decode cX11_digest 56 = .ok (.getfield 10, 3) := by decide +kernel
theorem dX11_digest_59 : decode cX11_digest 59 = .ok (.getfield 220, 3) := by decide +kernel
theorem dX11_digest_62 : decode cX11_digest 62 = .ok (.lload_n 1, 1) := by decide +kernel
theorem dX11_digest_63 : decode cX11_digest 63 = .ok (.invokevirtual 315, 3) := by decide +kernel
theorem dX11_digest_66 : decode cX11_digest 66 = .ok (.lstore_n 1, 1) := by decide +kernel
theorem dX11_digest_67 : decode cX11_digest 67 = .ok (.aload_n 0, 1) := by decide +kernel
theorem dX11_digest_68 : decode cX11_digest 68 = .ok (.getfield 10, 3) := by decide +kernel
theorem dX11_digest_71 : decode cX11_digest 71 = .ok (.getfield 235, 3) := by decide +kernel
theorem dX11_digest_74 : decode cX11_digest 74 = .ok (.lload_n 1, 1) := by decide +kernel
theorem dX11_digest_75 : decode cX11_digest 75 = .ok (.invokevirtual 315, 3) := by decide +kernel
theorem dX11_digest_78 : decode cX11_digest 78 = .ok (.lstore_n 1, 1) := by decide +kernel
theorem dX11_digest_79 : decode cX11_digest 79 = .ok (.aload_n 0, 1) := by decide +kernel
theorem dX11_digest_80 : decode cX11_digest 80 = .ok (.getfield 10, 3) := by decide +kernel
theorem dX11_digest_83 : decode cX11_digest 83 = .ok (.getfield 241, 3) := by decide +kernel
theorem dX11_digest_86 : decode cX11_digest 86 = .ok (.lload_n 1, 1) := by decide +kernel
theorem dX11_digest_87 : decode cX11_digest 87 = .ok (.invokevirtual 315, 3) := by decide +kernel
theorem dX11_digest_90 : decode cX11_digest 90 = .ok (.lstore_n 1, 1) := by decide +kernel
theorem dX11_digest_91 : decode cX11_digest 91 = .ok (.ldc2_w 313, 3) := by decide +kernel
theorem dX11_digest_94 : decode cX11_digest 94 = .ok (.lload_n 1, 1) := by decide +kernel
theorem dX11_digest_95 : decode cX11_digest 95 = .ok (.lmul, 1) := by decide +kernel
theorem dX11_digest_96 : decode cX11_digest 96 = .ok (.aload_n 0, 1) := by decide +kernel
theorem dX11_digest_97 : decode cX11_digest 97 = .ok (.getfield 35, 3) := by decide +kernel
theorem dX11_digest_100 : decode cX11_digest 100 = .ok (.getfield 291, 3) := by decide +kernel
theorem dX11_digest_103 : decode cX11_digest 103 = .ok (.ladd, 1) := by decide +kernel
theorem dX11_digest_104 : decode cX11_digest 104 = .ok (.lstore_n 1, 1) := by decide +kernel
theorem dX11_digest_105 : decode cX11_digest 105 = .ok (.ldc2_w 313, 3) := by decide +kernel
theorem dX11_digest_108 : decode cX11_digest 108 = .ok (.lload_n 1, 1) := by decide +kernel
theorem dX11_digest_109 : decode cX11_digest 109 = .ok (.lmul, 1) := by decide +kernel
theorem dX11_digest_110 : decode cX11_digest 110 = .ok (.aload_n 0, 1) := by decide +kernel
theorem dX11_digest_111 : decode cX11_digest 111 = .ok (.getfield 35, 3) := by decide +kernel
theorem dX11_digest_114 : decode cX11_digest 114 = .ok (.getfield 295, 3) := by decide +kernel
theorem dX11_digest_117 : decode cX11_digest 117 = .ok (.ladd, 1) := by decide +kernel
theorem dX11_digest_118 : decode cX11_digest 118 = .ok (.lreturn, 1) := by decide +kernel
set_option maxRecDepth 20000 in
theorem ggX11_howMany_X7_size : GoodIn wsX11_howMany wsX7_size := goodIn_r _ [7, 8, 54, 55, 56, 57] (by decide +kernel) (by decide +kernel)
set_option maxRecDepth 20000 in
theorem gX11_howMany_X7_size : GoodIn wsX11_howMany (wsV RX11 76 RX7 yX7_size wsX7_size) := goodIn_app (goodIn_of _ (by decide +kernel)) ggX11_howMany_X7_size
set_option maxRecDepth 20000 in
theorem ggX11_howMany_X0_howMany : GoodIn wsX11_howMany wsX0_howMany := goodIn_r _ [12, 13, 14, 11, 15, 16, 4, 5, 6, 7, 8, 17, 18, 19, 20, 21, 22, 54, 55, 56, 57] (by decide +kernel) (by decide +kernel)
set_option maxRecDepth 20000 in
theorem gX11_howMany_X0_howMany : GoodIn wsX11_howMany (va_wsS RX11 199 yX0_howMany wsX0_howMany) := goodIn_app (goodIn_of _ (by decide +kernel)) ggX11_howMany_X0_howMany
set_option maxRecDepth 20000 in
theorem ggX11_howMany_X7_sum : GoodIn wsX11_howMany wsX7_sum := goodIn_r _ [26, 8, 27, 18, 19, 6, 20, 21, 22, 54, 55, 56, 57] (by decide +kernel) (by decide +kernel)
set_option maxRecDepth 20000 in
theorem gX11_howMany_X7_sum : GoodIn wsX11_howMany (wsV RX11 319 RX7 yX7_sum wsX7_sum) := goodIn_app (goodIn_of _ (by decide +kernel)) ggX11_howMany_X7_sum
set_option maxRecDepth 20000 in
theorem ggX11_howMany_X9_length : GoodIn wsX11_howMany wsX9_length := goodIn_r _ [32, 33, 58, 59, 60, 61, 62, 63, 64, 65] (by decide +kernel) (by decide +kernel)
set_option maxRecDepth 20000 in
theorem gX11_howMany_X9_length : GoodIn wsX11_howMany (wsV RX11 116 RX9 yX9_length wsX9_length) := goodIn_app (goodIn_of _ (by decide +kernel)) ggX11_howMany_X9_length
theorem dX11_howMany_0 : decode cX11_howMany 0 = .ok (.iload_n 1, 1) := by decide +kernel
theorem dX11_howMany_1 : decode cX11_howMany 1 = .ok (.tableswitch 159 0 8 #[51, 62, 73, 81, 103, 115, 126, 137, 148], 51) := by decide +kernel
theorem dX11_howMany_52 : decode cX11_howMany 52 = .ok (.aload_n 0, 1) := by decide +kernel
theorem dX11_howMany_53 : decode cX11_howMany 53 = .ok (.getfield 10, 3) := by decide +kernel
theorem dX11_howMany_56 : decode cX11_howMany 56 = .ok (.getfield 73, 3) := by decide +kernel
theorem dX11_howMany_59 : decode cX11_howMany 59 = .ok (.invokevirtual 76, 3) := by decide +kernel
theorem dX11_howMany_62 : decode cX11_howMany 62 = .ok (.ireturn, 1) := by decide +kernel
theorem dX11_howMany_63 : decode cX11_howMany 63 = .ok (.aload_n 0, 1) := by decide +kernel
theorem dX11_howMany_64 : decode cX11_howMany 64 = .ok (.getfield 10, 3) := by decide +kernel
theorem dX11_howMany_67 : decode cX11_howMany 67 = .ok (.getfield 106, 3) := by decide +kernel
theorem dX11_howMany_70 : decode cX11_howMany 70 = .ok (.invokevirtual 76, 3) := by decide +kernel
theorem dX11_howMany_73 : decode cX11_howMany 73 = .ok (.ireturn, 1) := by decide +kernel
theorem dX11_howMany_74 : decode cX11_howMany 74 = .ok (.aload_n 0, 1) := by decide +kernel
theorem dX11_howMany_75 : decode cX11_howMany 75 = .ok (.getfield 10, 3) := by decide +kernel
theorem dX11_howMany_78 : decode cX11_howMany 78 = .ok (.getfield 170, 3) := by decide +kernel
theorem dX11_howMany_81 : decode cX11_howMany 81 = .ok (.ireturn, 1) := by decide +kernel
theorem dX11_howMany_82 : decode cX11_howMany 82 = .ok (.aload_n 0, 1) := by decide +kernel
theorem dX11_howMany_83 : decode cX11_howMany 83 = .ok (.getfield 10, 3) := by decide +kernel
theorem dX11_howMany_86 : decode cX11_howMany 86 = .ok (.getfield 73, 3) := by decide +kernel
theorem dX11_howMany_89 : decode cX11_howMany 89 = .ok (.invokevirtual 76, 3) := by decide +kernel
theorem dX11_howMany_92 : decode cX11_howMany 92 = .ok (.aload_n 0, 1) := by decide +kernel
theorem dX11_howMany_93 : decode cX11_howMany 93 = .ok (.getfield 10, 3) := by decide +kernel
theorem dX11_howMany_96 : decode cX11_howMany 96 = .ok (.getfield 73, 3) := by decide +kernel
theorem dX11_howMany_99 : decode cX11_howMany 99 = .ok (.invokestatic 199, 3) := by decide +kernel
theorem dX11_howMany_102 : decode cX11_howMany 102 = .ok (.isub, 1) := by decide +kernel
theorem dX11_howMany_103 : decode cX11_howMany 103 = .ok (.ireturn, 1) := by decide +kernel
theorem dX11_howMany_104 : decode cX11_howMany 104 = .ok (.aload_n 0, 1) := by decide +kernel
theorem dX11_howMany_105 : decode cX11_howMany 105 = .ok (.getfield 10, 3) := by decide +kernel
theorem dX11_howMany_108 : decode cX11_howMany 108 = .ok (.getfield 73, 3) := by decide +kernel
theorem dX11_howMany_111 : decode cX11_howMany 111 = .ok (.iconst 3, 1) := by decide +kernel
theorem dX11_howMany_112 : decode cX11_howMany 112 = .ok (.invokevirtual 319, 3) := by decide +kernel
theorem dX11_howMany_115 : decode cX11_howMany 115 = .ok (.ireturn, 1) := by decide +kernel
theorem dX11_howMany_116 : decode cX11_howMany 116 = .ok (.aload_n 0, 1) := by decide +kernel
theorem dX11_howMany_117 : decode cX11_howMany 117 = .ok (.getfield 10, 3) := by decide +kernel
theorem dX11_howMany_120 : decode cX11_howMany 120 = .ok (.getfield 220, 3) := by decide +kernel
theorem dX11_howMany_123 : decode cX11_howMany 123 = .ok (.invokevirtual 76, 3) := by decide +kernel
theorem dX11_howMany_126 : decode cX11_howMany 126 = .ok (.ireturn, 1) := by decide +kernel
theorem dX11_howMany_127 : decode cX11_howMany 127 = .ok (.aload_n 0, 1) := by decide +kernel
theorem dX11_howMany_128 : decode cX11_howMany 128 = .ok (.getfield 10, 3) := by decide +kernel
theorem dX11_howMany_131 : decode cX11_howMany 131 = .ok (.getfield 235, 3) := by decide +kernel
theorem dX11_howMany_134 : decode cX11_howMany 134 = .ok (.invokevirtual 76, 3) := by decide +kernel
theorem dX11_howMany_137 : decode cX11_howMany 137 = .ok (.ireturn, 1) := by decide +kernel
theorem dX11_howMany_138 : decode cX11_howMany 138 = .ok (.aload_n 0, 1) := by decide +kernel
theorem dX11_howMany_139 : decode cX11_howMany 139 = .ok (.getfield 10, 3) := by decide +kernel
theorem dX11_howMany_142 : decode cX11_howMany 142 = .ok (.getfield 241, 3) := by decide +kernel
theorem dX11_howMany_145 : decode cX11_howMany 145 = .ok (.invokevirtual 76, 3) := by decide +kernel
theorem dX11_howMany_148 : decode cX11_howMany 148 = .ok (.ireturn, 1) := by decide +kernel
theorem dX11_howMany_149 : decode cX11_howMany 149 = .ok (.aload_n 0, 1) := by decide +kernel
theorem dX11_howMany_150 : decode cX11_howMany 150 = .ok (.getfield 10, 3) := by decide +kernel
theorem dX11_howMany_153 : decode cX11_howMany 153 = .ok (.getfield 164, 3) := by decide +kernel
theorem dX11_howMany_156 : decode cX11_howMany 156 = .ok (.invokevirtual 76, 3) := by decide +kernel
theorem dX11_howMany_159 : decode cX11_howMany 159 = .ok (.ireturn, 1) := by decide +kernel
theorem dX11_howMany_160 : decode cX11_howMany 160 = .ok (.aload_n 0, 1) := by decide +kernel
theorem dX11_howMany_161 : decode cX11_howMany 161 = .ok (.getfield 28, 3) := by decide +kernel
theorem dX11_howMany_164 : decode cX11_howMany 164 = .ok (.invokevirtual 116, 3) := by decide +kernel
theorem dX11_howMany_167 : decode cX11_howMany 167 = .ok (.ireturn, 1) := by decide +kernel
set_option maxRecDepth 20000 in
theorem ggX11_refuse_X11_cell : GoodIn wsX11_refuse wsX11_cell := goodIn_r _ [5] (by decide +kernel) (by decide +kernel)
set_option maxRecDepth 20000 in
theorem gX11_refuse_X11_cell : GoodIn wsX11_refuse (va_wsS RX11 305 yX11_cell wsX11_cell) := goodIn_app (goodIn_of _ (by decide +kernel)) ggX11_refuse_X11_cell
set_option maxRecDepth 20000 in
theorem ggX11_refuse_X11_setCell : GoodIn wsX11_refuse wsX11_setCell := goodIn_r _ [8] (by decide +kernel) (by decide +kernel)
set_option maxRecDepth 20000 in
theorem gX11_refuse_X11_setCell : GoodIn wsX11_refuse (va_wsS RX11 322 yX11_setCell wsX11_setCell) := goodIn_app (goodIn_of _ (by decide +kernel)) ggX11_refuse_X11_setCell
theorem dX11_refuse_0 : decode cX11_refuse 0 = .ok (.bipush (-2), 2) := by decide +kernel
theorem dX11_refuse_2 : decode cX11_refuse 2 = .ok (.iload_n 1, 1) := by decide +kernel
theorem dX11_refuse_3 : decode cX11_refuse 3 = .ok (.isub, 1) := by decide +kernel
theorem dX11_refuse_4 : decode cX11_refuse 4 = .ok (.istore_n 2, 1) := by decide +kernel
theorem dX11_refuse_5 : decode cX11_refuse 5 = .ok (.aload_n 0, 1) := by decide +kernel
theorem dX11_refuse_6 : decode cX11_refuse 6 = .ok (.getfield 39, 3) := by decide +kernel
theorem dX11_refuse_9 : decode cX11_refuse 9 = .ok (.iload_n 2, 1) := by decide +kernel
theorem dX11_refuse_10 : decode cX11_refuse 10 = .ok (.aload_n 0, 1) := by decide +kernel
theorem dX11_refuse_11 : decode cX11_refuse 11 = .ok (.getfield 39, 3) := by decide +kernel
theorem dX11_refuse_14 : decode cX11_refuse 14 = .ok (.iload_n 2, 1) := by decide +kernel
theorem dX11_refuse_15 : decode cX11_refuse 15 = .ok (.invokestatic 305, 3) := by decide +kernel
theorem dX11_refuse_18 : decode cX11_refuse 18 = .ok (.iconst 1, 1) := by decide +kernel
theorem dX11_refuse_19 : decode cX11_refuse 19 = .ok (.iadd, 1) := by decide +kernel
theorem dX11_refuse_20 : decode cX11_refuse 20 = .ok (.invokestatic 322, 3) := by decide +kernel
theorem dX11_refuse_23 : decode cX11_refuse 23 = .ok (.iload_n 1, 1) := by decide +kernel
theorem dX11_refuse_24 : decode cX11_refuse 24 = .ok (.ireturn, 1) := by decide +kernel
set_option maxRecDepth 20000 in
theorem ggX11_keep_X7_isFull : GoodIn wsX11_keep wsX7_isFull := goodIn_r _ [5, 6, 7, 35, 36, 37, 38] (by decide +kernel) (by decide +kernel)
set_option maxRecDepth 20000 in
theorem gX11_keep_X7_isFull : GoodIn wsX11_keep (wsV RX11 98 RX7 yX7_isFull wsX7_isFull) := goodIn_app (goodIn_of _ (by decide +kernel)) ggX11_keep_X7_isFull
set_option maxRecDepth 20000 in
theorem ggX11_keep_X11_refuse : GoodIn wsX11_keep wsX11_refuse := goodIn_r _ [12, 13, 14, 15, 11, 16, 17, 18, 19, 39, 40, 41, 42, 43, 44, 45, 46, 47, 48, 49, 50, 51] (by decide +kernel) (by decide +kernel)
set_option maxRecDepth 20000 in
theorem gX11_keep_X11_refuse : GoodIn wsX11_keep (wsV RX11 94 RX11 yX11_refuse wsX11_refuse) := goodIn_app (goodIn_of _ (by decide +kernel)) ggX11_keep_X11_refuse
set_option maxRecDepth 20000 in
theorem ggX11_keep_X7_add : GoodIn wsX11_keep wsX7_add := goodIn_r _ [23, 6, 24, 2, 3, 4, 5, 7, 25, 26, 27, 28, 29, 30, 35, 36, 37, 38] (by decide +kernel) (by decide +kernel)
set_option maxRecDepth 20000 in
theorem gX11_keep_X7_add : GoodIn wsX11_keep (wsV RX11 326 RX7 yX7_add wsX7_add) := goodIn_app (goodIn_of _ (by decide +kernel)) ggX11_keep_X7_add
set_option maxRecDepth 20000 in
theorem ggX11_keep_X7_size : GoodIn wsX11_keep wsX7_size := goodIn_r _ [34, 6, 35, 36, 37, 38] (by decide +kernel) (by decide +kernel)
set_option maxRecDepth 20000 in
theorem gX11_keep_X7_size : GoodIn wsX11_keep (wsV RX11 76 RX7 yX7_size wsX7_size) := goodIn_app (goodIn_of _ (by decide +kernel)) ggX11_keep_X7_size
theorem dX11_keep_0 : decode cX11_keep 0 = .ok (.aload_n 1, 1) := by decide +kernel
theorem dX11_keep_1 : decode cX11_keep 1 = .ok (.invokevirtual 98, 3) := by decide +kernel
theorem dX11_keep_4 : decode cX11_keep 4 = .ok (.ifCond .eq 10, 3) := by decide +kernel
theorem dX11_keep_7 : decode cX11_keep 7 = .ok (.aload_n 0, 1) := by decide +kernel
theorem dX11_keep_8 : decode cX11_keep 8 = .ok (.bipush (-4), 2) := by decide +kernel
theorem dX11_keep_10 : decode cX11_keep 10 = .ok (.invokevirtual 94, 3) := by decide +kernel
theorem dX11_keep_13 : decode cX11_keep 13 = .ok (.ireturn, 1) := by decide +kernel
theorem dX11_keep_14 : decode cX11_keep 14 = .ok (.aload_n 1, 1) := by decide +kernel
theorem dX11_keep_15 : decode cX11_keep 15 = .ok (.iload_n 2, 1) := by decide +kernel
theorem dX11_keep_16 : decode cX11_keep 16 = .ok (.iload_n 3, 1) := by decide +kernel
theorem dX11_keep_17 : decode cX11_keep 17 = .ok (.iload 4, 2) := by decide +kernel
theorem dX11_keep_19 : decode cX11_keep 19 = .ok (.iload 5, 2) := by decide +kernel
theorem dX11_keep_21 : decode cX11_keep 21 = .ok (.iload 6, 2) := by decide +kernel
theorem dX11_keep_23 : decode cX11_keep 23 = .ok (.invokevirtual 326, 3) := by decide +kernel
theorem dX11_keep_26 : decode cX11_keep 26 = .ok (.pop, 1) := by decide +kernel
theorem dX11_keep_27 : decode cX11_keep 27 = .ok (.aload_n 1, 1) := by decide +kernel
theorem dX11_keep_28 : decode cX11_keep 28 = .ok (.invokevirtual 76, 3) := by decide +kernel
theorem dX11_keep_31 : decode cX11_keep 31 = .ok (.ireturn, 1) := by decide +kernel
set_option maxRecDepth 20000 in
theorem ggX11_drop_X7_size : GoodIn wsX11_drop wsX7_size := goodIn_r _ [5, 6, 11, 12, 13, 14] (by decide +kernel) (by decide +kernel)
set_option maxRecDepth 20000 in
theorem gX11_drop_X7_size : GoodIn wsX11_drop (wsV RX11 76 RX7 yX7_size wsX7_size) := goodIn_app (goodIn_of _ (by decide +kernel)) ggX11_drop_X7_size
set_option maxRecDepth 20000 in
theorem ggX11_drop_X7_empty : GoodIn wsX11_drop wsX7_empty := goodIn_r _ [10, 6, 11, 12, 13, 14] (by decide +kernel) (by decide +kernel)
set_option maxRecDepth 20000 in
theorem gX11_drop_X7_empty : GoodIn wsX11_drop (wsV RX11 330 RX7 yX7_empty wsX7_empty) := goodIn_app (goodIn_of _ (by decide +kernel)) ggX11_drop_X7_empty
theorem dX11_drop_0 : decode cX11_drop 0 = .ok (.aload_n 0, 1) := by decide +kernel
theorem dX11_drop_1 : decode cX11_drop 1 = .ok (.invokevirtual 76, 3) := by decide +kernel
theorem dX11_drop_4 : decode cX11_drop 4 = .ok (.istore_n 1, 1) := by decide +kernel
theorem dX11_drop_5 : decode cX11_drop 5 = .ok (.aload_n 0, 1) := by decide +kernel
theorem dX11_drop_6 : decode cX11_drop 6 = .ok (.invokevirtual 330, 3) := by decide +kernel
theorem dX11_drop_9 : decode cX11_drop 9 = .ok (.iload_n 1, 1) := by decide +kernel
theorem dX11_drop_10 : decode cX11_drop 10 = .ok (.ireturn, 1) := by decide +kernel
set_option maxRecDepth 20000 in
theorem ggX11_isClerk_X7_has : GoodIn wsX11_isClerk wsX7_has := goodIn_r _ [6, 7, 28, 29, 30, 31] (by decide +kernel) (by decide +kernel)
set_option maxRecDepth 20000 in
theorem gX11_isClerk_X7_has : GoodIn wsX11_isClerk (wsV RX11 284 RX7 yX7_has wsX7_has) := goodIn_app (goodIn_of _ (by decide +kernel)) ggX11_isClerk_X7_has
theorem dX11_isClerk_0 : decode cX11_isClerk 0 = .ok (.aload_n 0, 1) := by decide +kernel
theorem dX11_isClerk_1 : decode cX11_isClerk 1 = .ok (.getfield 10, 3) := by decide +kernel
theorem dX11_isClerk_4 : decode cX11_isClerk 4 = .ok (.getfield 73, 3) := by decide +kernel
theorem dX11_isClerk_7 : decode cX11_isClerk 7 = .ok (.iload_n 1, 1) := by decide +kernel
theorem dX11_isClerk_8 : decode cX11_isClerk 8 = .ok (.invokevirtual 284, 3) := by decide +kernel
theorem dX11_isClerk_11 : decode cX11_isClerk 11 = .ok (.ireturn, 1) := by decide +kernel
set_option maxRecDepth 20000 in
theorem ggX11_isMagnet_X7_has : GoodIn wsX11_isMagnet wsX7_has := goodIn_r _ [6, 7, 28, 29, 30, 31] (by decide +kernel) (by decide +kernel)
set_option maxRecDepth 20000 in
theorem gX11_isMagnet_X7_has : GoodIn wsX11_isMagnet (wsV RX11 284 RX7 yX7_has wsX7_has) := goodIn_app (goodIn_of _ (by decide +kernel)) ggX11_isMagnet_X7_has
theorem dX11_isMagnet_0 : decode cX11_isMagnet 0 = .ok (.aload_n 0, 1) := by decide +kernel
theorem dX11_isMagnet_1 : decode cX11_isMagnet 1 = .ok (.getfield 10, 3) := by decide +kernel
theorem dX11_isMagnet_4 : decode cX11_isMagnet 4 = .ok (.getfield 106, 3) := by decide +kernel
theorem dX11_isMagnet_7 : decode cX11_isMagnet 7 = .ok (.iload_n 1, 1) := by decide +kernel
theorem dX11_isMagnet_8 : decode cX11_isMagnet 8 = .ok (.invokevirtual 284, 3) := by decide +kernel
theorem dX11_isMagnet_11 : decode cX11_isMagnet 11 = .ok (.ireturn, 1) := by decide +kernel
set_option maxRecDepth 20000 in
theorem ggX11_isKind_X11_within : GoodIn wsX11_isKind wsX11_within := goodIn_r _ [4] (by decide +kernel) (by decide +kernel)
set_option maxRecDepth 20000 in
theorem gX11_isKind_X11_within : GoodIn wsX11_isKind (va_wsS RX11 90 yX11_within wsX11_within) := goodIn_app (goodIn_of _ (by decide +kernel)) ggX11_isKind_X11_within
theorem dX11_isKind_0 : decode cX11_isKind 0 = .ok (.iload_n 0, 1) := by decide +kernel
theorem dX11_isKind_1 : decode cX11_isKind 1 = .ok (.iconst 0, 1) := by decide +kernel
theorem dX11_isKind_2 : decode cX11_isKind 2 = .ok (.iconst 5, 1) := by decide +kernel
theorem dX11_isKind_3 : decode cX11_isKind 3 = .ok (.invokestatic 90, 3) := by decide +kernel
theorem dX11_isKind_6 : decode cX11_isKind 6 = .ok (.ireturn, 1) := by decide +kernel
set_option maxRecDepth 20000 in
theorem ggX11_isDesk_X11_within : GoodIn wsX11_isDesk wsX11_within := goodIn_r _ [4] (by decide +kernel) (by decide +kernel)
set_option maxRecDepth 20000 in
theorem gX11_isDesk_X11_within : GoodIn wsX11_isDesk (va_wsS RX11 90 yX11_within wsX11_within) := goodIn_app (goodIn_of _ (by decide +kernel)) ggX11_isDesk_X11_within
theorem dX11_isDesk_0 : decode cX11_isDesk 0 = .ok (.iload_n 0, 1) := by decide +kernel
theorem dX11_isDesk_1 : decode cX11_isDesk 1 = .ok (.iconst 0, 1) := by decide +kernel
theorem dX11_isDesk_2 : decode cX11_isDesk 2 = .ok (.bipush 11, 2) := by decide +kernel
theorem dX11_isDesk_4 : decode cX11_isDesk 4 = .ok (.invokestatic 90, 3) := by decide +kernel
theorem dX11_isDesk_7 : decode cX11_isDesk 7 = .ok (.ireturn, 1) := by decide +kernel
set_option maxRecDepth 20000 in
theorem ggX11_isTug_X11_within : GoodIn wsX11_isTug wsX11_within := goodIn_r _ [4] (by decide +kernel) (by decide +kernel)
set_option maxRecDepth 20000 in
theorem gX11_isTug_X11_within : GoodIn wsX11_isTug (va_wsS RX11 90 yX11_within wsX11_within) := goodIn_app (goodIn_of _ (by decide +kernel)) ggX11_isTug_X11_within
theorem dX11_isTug_0 : decode cX11_isTug 0 = .ok (.iload_n 0, 1) := by decide +kernel
theorem dX11_isTug_1 : decode cX11_isTug 1 = .ok (.iconst 1, 1) := by decide +kernel
theorem dX11_isTug_2 : decode cX11_isTug 2 = .ok (.bipush 20, 2) := by decide +kernel
theorem dX11_isTug_4 : decode cX11_isTug 4 = .ok (.invokestatic 90, 3) := by decide +kernel
theorem dX11_isTug_7 : decode cX11_isTug 7 = .ok (.ireturn, 1) := by decide +kernel
theorem dX11_within_0 : decode cX11_within 0 = .ok (.iload_n 0, 1) := by decide +kernel
theorem dX11_within_1 : decode cX11_within 1 = .ok (.iload_n 1, 1) := by decide +kernel
theorem dX11_within_2 : decode cX11_within 2 = .ok (.if_icmp .lt 12, 3) := by decide +kernel
theorem dX11_within_5 : decode cX11_within 5 = .ok (.iload_n 0, 1) := by decide +kernel
theorem dX11_within_6 : decode cX11_within 6 = .ok (.iload_n 2, 1) := by decide +kernel
theorem dX11_within_7 : decode cX11_within 7 = .ok (.if_icmp .gt 7, 3) := by decide +kernel
theorem dX11_within_10 : decode cX11_within 10 = .ok (.iconst 1, 1) := by decide +kernel
theorem dX11_within_11 : decode cX11_within 11 = .ok (.goto 4, 3) := by decide +kernel
theorem dX11_within_14 : decode cX11_within 14 = .ok (.iconst 0, 1) := by decide +kernel
theorem dX11_within_15 : decode cX11_within 15 = .ok (.ireturn, 1) := by decide +kernel
theorem dX11_hasBit_0 : decode cX11_hasBit 0 = .ok (.iload_n 0, 1) := by decide +kernel
theorem dX11_hasBit_1 : decode cX11_hasBit 1 = .ok (.iload_n 1, 1) := by decide +kernel
theorem dX11_hasBit_2 : decode cX11_hasBit 2 = .ok (.ishr, 1) := by decide +kernel
theorem dX11_hasBit_3 : decode cX11_hasBit 3 = .ok (.iconst 1, 1) := by decide +kernel
theorem dX11_hasBit_4 : decode cX11_hasBit 4 = .ok (.iand, 1) := by decide +kernel
theorem dX11_hasBit_5 : decode cX11_hasBit 5 = .ok (.ifCond .eq 7, 3) := by decide +kernel
theorem dX11_hasBit_8 : decode cX11_hasBit 8 = .ok (.iconst 1, 1) := by decide +kernel
theorem dX11_hasBit_9 : decode cX11_hasBit 9 = .ok (.goto 4, 3) := by decide +kernel
theorem dX11_hasBit_12 : decode cX11_hasBit 12 = .ok (.iconst 0, 1) := by decide +kernel
theorem dX11_hasBit_13 : decode cX11_hasBit 13 = .ok (.ireturn, 1) := by decide +kernel
theorem dX11_cell_0 : decode cX11_cell 0 = .ok (.iload_n 1, 1) := by decide +kernel
theorem dX11_cell_1 : decode cX11_cell 1 = .ok (.ifCond .lt 15, 3) := by decide +kernel
theorem dX11_cell_4 : decode cX11_cell 4 = .ok (.iload_n 1, 1) := by decide +kernel
theorem dX11_cell_5 : decode cX11_cell 5 = .ok (.aload_n 0, 1) := by decide +kernel
theorem dX11_cell_6 : decode cX11_cell 6 = .ok (.arraylength, 1) := by decide +kernel
theorem dX11_cell_7 : decode cX11_cell 7 = .ok (.if_icmp .ge 9, 3) := by decide +kernel
theorem dX11_cell_10 : decode cX11_cell 10 = .ok (.aload_n 0, 1) := by decide +kernel
theorem dX11_cell_11 : decode cX11_cell 11 = .ok (.iload_n 1, 1) := by decide +kernel
theorem dX11_cell_12 : decode cX11_cell 12 = .ok (.iaload, 1) := by decide +kernel
theorem dX11_cell_13 : decode cX11_cell 13 = .ok (.goto 4, 3) := by decide +kernel
theorem dX11_cell_16 : decode cX11_cell 16 = .ok (.iconst 0, 1) := by decide +kernel
theorem dX11_cell_17 : decode cX11_cell 17 = .ok (.ireturn, 1) := by decide +kernel
theorem dX11_setCell_0 : decode cX11_setCell 0 = .ok (.iload_n 1, 1) := by decide +kernel
theorem dX11_setCell_1 : decode cX11_setCell 1 = .ok (.ifCond .lt 13, 3) := by decide +kernel
theorem dX11_setCell_4 : decode cX11_setCell 4 = .ok (.iload_n 1, 1) := by decide +kernel
theorem dX11_setCell_5 : decode cX11_setCell 5 = .ok (.aload_n 0, 1) := by decide +kernel
theorem dX11_setCell_6 : decode cX11_setCell 6 = .ok (.arraylength, 1) := by decide +kernel
theorem dX11_setCell_7 : decode cX11_setCell 7 = .ok (.if_icmp .ge 7, 3) := by decide +kernel
theorem dX11_setCell_10 : decode cX11_setCell 10 = .ok (.aload_n 0, 1) := by decide +kernel
theorem dX11_setCell_11 : decode cX11_setCell 11 = .ok (.iload_n 1, 1) := by decide +kernel
theorem dX11_setCell_12 : decode cX11_setCell 12 = .ok (.iload_n 2, 1) := by decide +kernel
theorem dX11_setCell_13 : decode cX11_setCell 13 = .ok (.iastore, 1) := by decide +kernel
theorem dX11_setCell_14 : decode cX11_setCell 14 = .ok (.return_, 1) := by decide +kernel
