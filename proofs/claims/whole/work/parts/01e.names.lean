theorem dX12_longFrom_69 : decode cX12_longFrom 69 = .ok (.istore 6, 2) := by decide +kernel
theorem dX12_longFrom_71 : decode cX12_longFrom 71 = .ok (.iload 6, 2) := by decide +kernel
theorem dX12_longFrom_73 : decode cX12_longFrom 73 = .ok (.aload_n 0, 1) := by decide +kernel
theorem dX12_longFrom_74 : decode cX12_longFrom 74 = .ok (.getfield 7, 3) := by decide +kernel
theorem dX12_longFrom_77 : decode cX12_longFrom 77 = .ok (.iconst 0, 1) := by decide +kernel
theorem dX12_longFrom_78 : decode cX12_longFrom 78 = .ok (.iaload, 1) := by decide +kernel
theorem dX12_longFrom_79 : decode cX12_longFrom 79 = .ok (.if_icmp .ge 77, 3) := by decide +kernel
theorem dX12_longFrom_82 : decode cX12_longFrom 82 = .ok (.iload 6, 2) := by decide +kernel
theorem dX12_longFrom_84 : decode cX12_longFrom 84 = .ok (.iload 5, 2) := by decide +kernel
theorem dX12_longFrom_86 : decode cX12_longFrom 86 = .ok (.if_icmp .eq 64, 3) := by decide +kernel
theorem dX12_longFrom_89 : decode cX12_longFrom 89 = .ok (.iload 6, 2) := by decide +kernel
theorem dX12_longFrom_91 : decode cX12_longFrom 91 = .ok (.aload_n 0, 1) := by decide +kernel
theorem dX12_longFrom_92 : decode cX12_longFrom 92 = .ok (.getfield 39, 3) := by decide +kernel
theorem dX12_longFrom_95 : decode cX12_longFrom 95 = .ok (.iload 5, 2) := by decide +kernel
theorem dX12_longFrom_97 : decode cX12_longFrom 97 = .ok (.iaload, 1) := by decide +kernel
theorem dX12_longFrom_98 : decode cX12_longFrom 98 = .ok (.if_icmp .eq 52, 3) := by decide +kernel
theorem dX12_longFrom_101 : decode cX12_longFrom 101 = .ok (.aload_n 0, 1) := by decide +kernel
theorem dX12_longFrom_102 : decode cX12_longFrom 102 = .ok (.iconst 0, 1) := by decide +kernel
theorem dX12_longFrom_103 : decode cX12_longFrom 103 = .ok (.iload 5, 2) := by decide +kernel
theorem dX12_longFrom_105 : decode cX12_longFrom 105 = .ok (.iload 6, 2) := by decide +kernel
theorem dX12_longFrom_107 : decode cX12_longFrom 107 = .ok (.invokevirtual 230, 3) := by decide +kernel
theorem dX12_longFrom_110 : decode cX12_longFrom 110 = .ok (.ifCond .eq 40, 3) := by decide +kernel
theorem dX12_longFrom_113 : decode cX12_longFrom 113 = .ok (.aload_n 0, 1) := by decide +kernel
theorem dX12_longFrom_114 : decode cX12_longFrom 114 = .ok (.getfield 42, 3) := by decide +kernel
theorem dX12_longFrom_117 : decode cX12_longFrom 117 = .ok (.iload 6, 2) := by decide +kernel
theorem dX12_longFrom_119 : decode cX12_longFrom 119 = .ok (.aload_n 0, 1) := by decide +kernel
theorem dX12_longFrom_120 : decode cX12_longFrom 120 = .ok (.getfield 42, 3) := by decide +kernel
theorem dX12_longFrom_123 : decode cX12_longFrom 123 = .ok (.iload 5, 2) := by decide +kernel
theorem dX12_longFrom_125 : decode cX12_longFrom 125 = .ok (.iaload, 1) := by decide +kernel
theorem dX12_longFrom_126 : decode cX12_longFrom 126 = .ok (.iconst 1, 1) := by decide +kernel
theorem dX12_longFrom_127 : decode cX12_longFrom 127 = .ok (.iadd, 1) := by decide +kernel
theorem dX12_longFrom_128 : decode cX12_longFrom 128 = .ok (.iastore, 1) := by decide +kernel
theorem dX12_longFrom_129 : decode cX12_longFrom 129 = .ok (.aload_n 0, 1) := by decide +kernel
theorem dX12_longFrom_130 : decode cX12_longFrom 130 = .ok (.getfield 39, 3) := by decide +kernel
theorem dX12_longFrom_133 : decode cX12_longFrom 133 = .ok (.iload 6, 2) := by decide +kernel
theorem dX12_longFrom_135 : decode cX12_longFrom 135 = .ok (.iload 5, 2) := by decide +kernel
theorem dX12_longFrom_137 : decode cX12_longFrom 137 = .ok (.iastore, 1) := by decide +kernel
theorem dX12_longFrom_138 : decode cX12_longFrom 138 = .ok (.aload_n 0, 1) := by decide +kernel
theorem dX12_longFrom_139 : decode cX12_longFrom 139 = .ok (.getfield 36, 3) := by decide +kernel
theorem dX12_longFrom_142 : decode cX12_longFrom 142 = .ok (.iload 4, 2) := by decide +kernel
theorem dX12_longFrom_144 : decode cX12_longFrom 144 = .ok (.iload 6, 2) := by decide +kernel
theorem dX12_longFrom_146 : decode cX12_longFrom 146 = .ok (.iastore, 1) := by decide +kernel
theorem dX12_longFrom_147 : decode cX12_longFrom 147 = .ok (.iinc 4 1, 3) := by decide +kernel
theorem dX12_longFrom_150 : decode cX12_longFrom 150 = .ok (.iinc 6 1, 3) := by decide +kernel
theorem dX12_longFrom_153 : decode cX12_longFrom 153 = .ok (.goto (-82), 3) := by decide +kernel
theorem dX12_longFrom_156 : decode cX12_longFrom 156 = .ok (.goto (-128), 3) := by decide +kernel
theorem dX12_longFrom_159 : decode cX12_longFrom 159 = .ok (.iload_n 2, 1) := by decide +kernel
theorem dX12_longFrom_160 : decode cX12_longFrom 160 = .ok (.ireturn, 1) := by decide +kernel
set_option maxRecDepth 20000 in
theorem ggX12_longestOf_X12_has : GoodIn wsX12_longestOf wsX12_has := goodIn_r _ [5] (by decide +kernel) (by decide +kernel)
set_option maxRecDepth 20000 in
theorem gX12_longestOf_X12_has : GoodIn wsX12_longestOf (va_wsS RX12 184 yX12_has wsX12_has) := goodIn_app (goodIn_of _ (by decide +kernel)) ggX12_longestOf_X12_has
set_option maxRecDepth 20000 in
theorem ggX12_longestOf_X12_longFrom : GoodIn wsX12_longestOf wsX12_longFrom := goodIn_r _ [9, 10, 11, 12, 1, 13, 14, 15, 4, 16, 17, 18, 19, 20, 21, 22, 23, 24, 25, 26, 27, 28, 29, 30, 31, 32, 33, 34, 35, 36, 37, 38] (by decide +kernel) (by decide +kernel)
set_option maxRecDepth 20000 in
theorem gX12_longestOf_X12_longFrom : GoodIn wsX12_longestOf (wsV RX12 242 RX12 yX12_longFrom wsX12_longFrom) := goodIn_app (goodIn_of _ (by decide +kernel)) ggX12_longestOf_X12_longFrom
theorem dX12_longestOf_0 : decode cX12_longestOf 0 = .ok (.iconst 0, 1) := by decide +kernel
theorem dX12_longestOf_1 : decode cX12_longestOf 1 = .ok (.istore_n 2, 1) := by decide +kernel
theorem dX12_longestOf_2 : decode cX12_longestOf 2 = .ok (.iconst 0, 1) := by decide +kernel
theorem dX12_longestOf_3 : decode cX12_longestOf 3 = .ok (.istore_n 3, 1) := by decide +kernel
theorem dX12_longestOf_4 : decode cX12_longestOf 4 = .ok (.iload_n 3, 1) := by decide +kernel
theorem dX12_longestOf_5 : decode cX12_longestOf 5 = .ok (.aload_n 0, 1) := by decide +kernel
theorem dX12_longestOf_6 : decode cX12_longestOf 6 = .ok (.getfield 7, 3) := by decide +kernel
theorem dX12_longestOf_9 : decode cX12_longestOf 9 = .ok (.iconst 0, 1) := by decide +kernel
theorem dX12_longestOf_10 : decode cX12_longestOf 10 = .ok (.iaload, 1) := by decide +kernel
theorem dX12_longestOf_11 : decode cX12_longestOf 11 = .ok (.if_icmp .ge 41, 3) := by decide +kernel
theorem dX12_longestOf_14 : decode cX12_longestOf 14 = .ok (.iload_n 1, 1) := by decide +kernel
theorem dX12_longestOf_15 : decode cX12_longestOf 15 = .ok (.iload_n 3, 1) := by decide +kernel
theorem dX12_longestOf_16 : decode cX12_longestOf 16 = .ok (.invokestatic 184, 3) := by decide +kernel
theorem dX12_longestOf_19 : decode cX12_longestOf 19 = .ok (.ifCond .eq 11, 3) := by decide +kernel
theorem dX12_longestOf_22 : decode cX12_longestOf 22 = .ok (.aload_n 0, 1) := by decide +kernel
theorem dX12_longestOf_23 : decode cX12_longestOf 23 = .ok (.iload_n 3, 1) := by decide +kernel
theorem dX12_longestOf_24 : decode cX12_longestOf 24 = .ok (.invokevirtual 242, 3) := by decide +kernel
theorem dX12_longestOf_27 : decode cX12_longestOf 27 = .ok (.goto 4, 3) := by decide +kernel
theorem dX12_longestOf_30 : decode cX12_longestOf 30 = .ok (.iconst 0, 1) := by decide +kernel
theorem dX12_longestOf_31 : decode cX12_longestOf 31 = .ok (.istore 4, 2) := by decide +kernel
theorem dX12_longestOf_33 : decode cX12_longestOf 33 = .ok (.iload 4, 2) := by decide +kernel
theorem dX12_longestOf_35 : decode cX12_longestOf 35 = .ok (.iload_n 2, 1) := by decide +kernel
theorem dX12_longestOf_36 : decode cX12_longestOf 36 = .ok (.if_icmp .le 8, 3) := by decide +kernel
theorem dX12_longestOf_39 : decode cX12_longestOf 39 = .ok (.iload 4, 2) := by decide +kernel
theorem dX12_longestOf_41 : decode cX12_longestOf 41 = .ok (.goto 4, 3) := by decide +kernel
theorem dX12_longestOf_44 : decode cX12_longestOf 44 = .ok (.iload_n 2, 1) := by decide +kernel
theorem dX12_longestOf_45 : decode cX12_longestOf 45 = .ok (.istore_n 2, 1) := by decide +kernel
theorem dX12_longestOf_46 : decode cX12_longestOf 46 = .ok (.iinc 3 1, 3) := by decide +kernel
theorem dX12_longestOf_49 : decode cX12_longestOf 49 = .ok (.goto (-45), 3) := by decide +kernel
theorem dX12_longestOf_52 : decode cX12_longestOf 52 = .ok (.iload_n 2, 1) := by decide +kernel
theorem dX12_longestOf_53 : decode cX12_longestOf 53 = .ok (.ireturn, 1) := by decide +kernel
set_option maxRecDepth 20000 in
theorem ggX12_string_X12_isClerk : GoodIn wsX12_string wsX12_isClerk := goodIn_r _ [6, 7, 8, 9, 5, 10, 59, 60, 61, 62, 63, 64, 65, 66, 67, 68, 69, 70, 71, 72, 73, 74, 75, 76, 77, 78, 79, 80] (by decide +kernel) (by decide +kernel)
set_option maxRecDepth 20000 in
theorem gX12_string_X12_isClerk : GoodIn wsX12_string (wsV RX12 206 RX12 yX12_isClerk wsX12_isClerk) := goodIn_app (goodIn_of _ (by decide +kernel)) ggX12_string_X12_isClerk
set_option maxRecDepth 20000 in
theorem ggX12_string_X12_in : GoodIn wsX12_string wsX12_in := goodIn_r _ [10] (by decide +kernel) (by decide +kernel)
set_option maxRecDepth 20000 in
theorem gX12_string_X12_in : GoodIn wsX12_string (va_wsS RX12 64 yX12_in wsX12_in) := goodIn_app (goodIn_of _ (by decide +kernel)) ggX12_string_X12_in
set_option maxRecDepth 20000 in
theorem ggX12_string_X12_bad : GoodIn wsX12_string wsX12_bad := goodIn_r _ [14, 15, 59, 60, 61, 62, 63, 64, 65, 66, 67, 68, 69, 70, 71, 72, 73, 74, 75, 76, 77, 78, 79, 80] (by decide +kernel) (by decide +kernel)
set_option maxRecDepth 20000 in
theorem gX12_string_X12_bad : GoodIn wsX12_string (wsV RX12 88 RX12 yX12_bad wsX12_bad) := goodIn_app (goodIn_of _ (by decide +kernel)) ggX12_string_X12_bad
set_option maxRecDepth 20000 in
theorem ggX12_string_X12_stringOf : GoodIn wsX12_string wsX12_stringOf := goodIn_r _ [19, 7, 20, 21, 22, 5, 23, 59, 60, 61, 62, 63, 64, 65, 66, 67, 68, 69, 70, 71, 72, 73, 74, 75, 76, 77, 78, 79, 80] (by decide +kernel) (by decide +kernel)
set_option maxRecDepth 20000 in
theorem gX12_string_X12_stringOf : GoodIn wsX12_string (wsV RX12 200 RX12 yX12_stringOf wsX12_stringOf) := goodIn_app (goodIn_of _ (by decide +kernel)) ggX12_string_X12_stringOf
set_option maxRecDepth 20000 in
theorem ggX12_string_X12_weighs : GoodIn wsX12_string wsX12_weighs := goodIn_r _ [27, 7, 28, 29, 5, 30, 59, 60, 61, 62, 63, 64, 65, 66, 67, 68, 69, 70, 71, 72, 73, 74, 75, 76, 77, 78, 79, 80] (by decide +kernel) (by decide +kernel)
set_option maxRecDepth 20000 in
theorem gX12_string_X12_weighs : GoodIn wsX12_string (wsV RX12 194 RX12 yX12_weighs wsX12_weighs) := goodIn_app (goodIn_of _ (by decide +kernel)) ggX12_string_X12_weighs
set_option maxRecDepth 20000 in
theorem ggX12_string_X12_longestOf : GoodIn wsX12_string wsX12_longestOf := goodIn_r _ [34, 7, 28, 29, 5, 30, 35, 36, 37, 38, 39, 40, 41, 42, 43, 44, 45, 59, 60, 61, 62, 63, 64, 65, 66, 67, 68, 69, 70, 71, 72, 73, 74, 75, 76, 77, 78, 79, 80] (by decide +kernel) (by decide +kernel)
set_option maxRecDepth 20000 in
theorem gX12_string_X12_longestOf : GoodIn wsX12_string (wsV RX12 247 RX12 yX12_longestOf wsX12_longestOf) := goodIn_app (goodIn_of _ (by decide +kernel)) ggX12_string_X12_longestOf
set_option maxRecDepth 20000 in
theorem ggX12_string_X12_drawnBy : GoodIn wsX12_string wsX12_drawnBy := goodIn_r _ [49, 7, 28, 29, 5, 30, 50, 51, 52, 53, 54, 55, 56, 57, 58, 59, 60, 61, 62, 63, 64, 65, 66, 67, 68, 69, 70, 71, 72, 73, 74, 75, 76, 77, 78, 79, 80] (by decide +kernel) (by decide +kernel)
set_option maxRecDepth 20000 in
theorem gX12_string_X12_drawnBy : GoodIn wsX12_string (wsV RX12 191 RX12 yX12_drawnBy wsX12_drawnBy) := goodIn_app (goodIn_of _ (by decide +kernel)) ggX12_string_X12_drawnBy
theorem dX12_string_0 : decode cX12_string 0 = .ok (.aload_n 0, 1) := by decide +kernel
theorem dX12_string_1 : decode cX12_string 1 = .ok (.iload_n 1, 1) := by decide +kernel
theorem dX12_string_2 : decode cX12_string 2 = .ok (.invokevirtual 206, 3) := by decide +kernel
theorem dX12_string_5 : decode cX12_string 5 = .ok (.ifCond .eq 15, 3) := by decide +kernel
theorem dX12_string_8 : decode cX12_string 8 = .ok (.iload_n 2, 1) := by decide +kernel
theorem dX12_string_9 : decode cX12_string 9 = .ok (.i2l, 1) := by decide +kernel
theorem dX12_string_10 : decode cX12_string 10 = .ok (.lconst 0, 1) := by decide +kernel
theorem dX12_string_11 : decode cX12_string 11 = .ok (.ldc2_w 245, 3) := by decide +kernel
theorem dX12_string_14 : decode cX12_string 14 = .ok (.invokestatic 64, 3) := by decide +kernel
theorem dX12_string_17 : decode cX12_string 17 = .ok (.ifCond .ne 11, 3) := by decide +kernel
theorem dX12_string_20 : decode cX12_string 20 = .ok (.aload_n 0, 1) := by decide +kernel
theorem dX12_string_21 : decode cX12_string 21 = .ok (.sipush (-1000), 3) := by decide +kernel
theorem dX12_string_24 : decode cX12_string 24 = .ok (.invokevirtual 88, 3) := by decide +kernel
theorem dX12_string_27 : decode cX12_string 27 = .ok (.ireturn, 1) := by decide +kernel
theorem dX12_string_28 : decode cX12_string 28 = .ok (.aload_n 0, 1) := by decide +kernel
theorem dX12_string_29 : decode cX12_string 29 = .ok (.iconst 0, 1) := by decide +kernel
theorem dX12_string_30 : decode cX12_string 30 = .ok (.iload_n 1, 1) := by decide +kernel
theorem dX12_string_31 : decode cX12_string 31 = .ok (.invokevirtual 200, 3) := by decide +kernel
theorem dX12_string_34 : decode cX12_string 34 = .ok (.istore_n 3, 1) := by decide +kernel
theorem dX12_string_35 : decode cX12_string 35 = .ok (.iload_n 2, 1) := by decide +kernel
theorem dX12_string_36 : decode cX12_string 36 = .ok (.ifCond .ne 7, 3) := by decide +kernel
theorem dX12_string_39 : decode cX12_string 39 = .ok (.iload_n 3, 1) := by decide +kernel
theorem dX12_string_40 : decode cX12_string 40 = .ok (.goto 36, 3) := by decide +kernel
theorem dX12_string_43 : decode cX12_string 43 = .ok (.iload_n 2, 1) := by decide +kernel
theorem dX12_string_44 : decode cX12_string 44 = .ok (.iconst 1, 1) := by decide +kernel
theorem dX12_string_45 : decode cX12_string 45 = .ok (.if_icmp .ne 12, 3) := by decide +kernel
theorem dX12_string_48 : decode cX12_string 48 = .ok (.aload_n 0, 1) := by decide +kernel
theorem dX12_string_49 : decode cX12_string 49 = .ok (.iconst 0, 1) := by decide +kernel
theorem dX12_string_50 : decode cX12_string 50 = .ok (.iload_n 3, 1) := by decide +kernel
theorem dX12_string_51 : decode cX12_string 51 = .ok (.invokevirtual 194, 3) := by decide +kernel
theorem dX12_string_54 : decode cX12_string 54 = .ok (.goto 22, 3) := by decide +kernel
theorem dX12_string_57 : decode cX12_string 57 = .ok (.iload_n 2, 1) := by decide +kernel
theorem dX12_string_58 : decode cX12_string 58 = .ok (.iconst 2, 1) := by decide +kernel
theorem dX12_string_59 : decode cX12_string 59 = .ok (.if_icmp .ne 11, 3) := by decide +kernel
theorem dX12_string_62 : decode cX12_string 62 = .ok (.aload_n 0, 1) := by decide +kernel
theorem dX12_string_63 : decode cX12_string 63 = .ok (.iload_n 3, 1) := by decide +kernel
theorem dX12_string_64 : decode cX12_string 64 = .ok (.invokevirtual 247, 3) := by decide +kernel
theorem dX12_string_67 : decode cX12_string 67 = .ok (.goto 9, 3) := by decide +kernel
theorem dX12_string_70 : decode cX12_string 70 = .ok (.aload_n 0, 1) := by decide +kernel
theorem dX12_string_71 : decode cX12_string 71 = .ok (.iconst 0, 1) := by decide +kernel
theorem dX12_string_72 : decode cX12_string 72 = .ok (.iload_n 3, 1) := by decide +kernel
theorem dX12_string_73 : decode cX12_string 73 = .ok (.invokevirtual 191, 3) := by decide +kernel
theorem dX12_string_76 : decode cX12_string 76 = .ok (.ireturn, 1) := by decide +kernel
set_option maxRecDepth 20000 in
theorem ggX12_hooksOf_X12_onIt : GoodIn wsX12_hooksOf wsX12_onIt := goodIn_r _ [6, 1, 7, 8, 9, 10, 11, 12, 13, 14, 15, 16, 17, 18, 19, 20, 21, 22, 23, 24, 25, 26, 27, 28] (by decide +kernel) (by decide +kernel)
set_option maxRecDepth 20000 in
theorem gX12_hooksOf_X12_onIt : GoodIn wsX12_hooksOf (wsV RX12 145 RX12 yX12_onIt wsX12_onIt) := goodIn_app (goodIn_of _ (by decide +kernel)) ggX12_hooksOf_X12_onIt
theorem dX12_hooksOf_0 : decode cX12_hooksOf 0 = .ok (.aload_n 0, 1) := by decide +kernel
theorem dX12_hooksOf_1 : decode cX12_hooksOf 1 = .ok (.iconst 0, 1) := by decide +kernel
theorem dX12_hooksOf_2 : decode cX12_hooksOf 2 = .ok (.iload_n 1, 1) := by decide +kernel
theorem dX12_hooksOf_3 : decode cX12_hooksOf 3 = .ok (.invokevirtual 145, 3) := by decide +kernel
theorem dX12_hooksOf_6 : decode cX12_hooksOf 6 = .ok (.aload_n 0, 1) := by decide +kernel
theorem dX12_hooksOf_7 : decode cX12_hooksOf 7 = .ok (.getfield 7, 3) := by decide +kernel
theorem dX12_hooksOf_10 : decode cX12_hooksOf 10 = .ok (.bipush 31, 2) := by decide +kernel
theorem dX12_hooksOf_12 : decode cX12_hooksOf 12 = .ok (.iload_n 1, 1) := by decide +kernel
theorem dX12_hooksOf_13 : decode cX12_hooksOf 13 = .ok (.iadd, 1) := by decide +kernel
theorem dX12_hooksOf_14 : decode cX12_hooksOf 14 = .ok (.iaload, 1) := by decide +kernel
theorem dX12_hooksOf_15 : decode cX12_hooksOf 15 = .ok (.iconst (-1), 1) := by decide +kernel
theorem dX12_hooksOf_16 : decode cX12_hooksOf 16 = .ok (.if_icmp .ne 7, 3) := by decide +kernel
theorem dX12_hooksOf_19 : decode cX12_hooksOf 19 = .ok (.iconst 0, 1) := by decide +kernel
theorem dX12_hooksOf_20 : decode cX12_hooksOf 20 = .ok (.goto 4, 3) := by decide +kernel
theorem dX12_hooksOf_23 : decode cX12_hooksOf 23 = .ok (.iconst 1, 1) := by decide +kernel
theorem dX12_hooksOf_24 : decode cX12_hooksOf 24 = .ok (.iadd, 1) := by decide +kernel
theorem dX12_hooksOf_25 : decode cX12_hooksOf 25 = .ok (.ireturn, 1) := by decide +kernel
set_option maxRecDepth 20000 in
theorem ggX12_strings_X12_in : GoodIn wsX12_strings wsX12_in := goodIn_r _ [5] (by decide +kernel) (by decide +kernel)
set_option maxRecDepth 20000 in
theorem gX12_strings_X12_in : GoodIn wsX12_strings (va_wsS RX12 64 yX12_in wsX12_in) := goodIn_app (goodIn_of _ (by decide +kernel)) ggX12_strings_X12_in
set_option maxRecDepth 20000 in
theorem ggX12_strings_X12_bad : GoodIn wsX12_strings wsX12_bad := goodIn_r _ [9, 10, 19, 20, 21, 22, 23, 24, 25, 26, 27, 28, 29, 30, 31, 32, 33, 34, 35, 36, 37, 38, 39, 40] (by decide +kernel) (by decide +kernel)
set_option maxRecDepth 20000 in
theorem gX12_strings_X12_bad : GoodIn wsX12_strings (wsV RX12 88 RX12 yX12_bad wsX12_bad) := goodIn_app (goodIn_of _ (by decide +kernel)) ggX12_strings_X12_bad
set_option maxRecDepth 20000 in
theorem ggX12_strings_X12_hooksOf : GoodIn wsX12_strings wsX12_hooksOf := goodIn_r _ [14, 1, 15, 16, 17, 4, 18, 19, 20, 21, 22, 23, 24, 25, 26, 27, 28, 29, 30, 31, 32, 33, 34, 35, 36, 37, 38, 39, 40] (by decide +kernel) (by decide +kernel)
set_option maxRecDepth 20000 in
theorem gX12_strings_X12_hooksOf : GoodIn wsX12_strings (wsV RX12 250 RX12 yX12_hooksOf wsX12_hooksOf) := goodIn_app (goodIn_of _ (by decide +kernel)) ggX12_strings_X12_hooksOf
theorem dX12_strings_0 : decode cX12_strings 0 = .ok (.iload_n 1, 1) := by decide +kernel
theorem dX12_strings_1 : decode cX12_strings 1 = .ok (.i2l, 1) := by decide +kernel
theorem dX12_strings_2 : decode cX12_strings 2 = .ok (.lconst 0, 1) := by decide +kernel
theorem dX12_strings_3 : decode cX12_strings 3 = .ok (.lconst 1, 1) := by decide +kernel
theorem dX12_strings_4 : decode cX12_strings 4 = .ok (.invokestatic 64, 3) := by decide +kernel
theorem dX12_strings_7 : decode cX12_strings 7 = .ok (.ifCond .ne 10, 3) := by decide +kernel
theorem dX12_strings_10 : decode cX12_strings 10 = .ok (.aload_n 0, 1) := by decide +kernel
theorem dX12_strings_11 : decode cX12_strings 11 = .ok (.bipush (-2), 2) := by decide +kernel
theorem dX12_strings_13 : decode cX12_strings 13 = .ok (.invokevirtual 88, 3) := by decide +kernel
theorem dX12_strings_16 : decode cX12_strings 16 = .ok (.ireturn, 1) := by decide +kernel
theorem dX12_strings_17 : decode cX12_strings 17 = .ok (.iconst 0, 1) := by decide +kernel
theorem dX12_strings_18 : decode cX12_strings 18 = .ok (.istore_n 2, 1) := by decide +kernel
theorem dX12_strings_19 : decode cX12_strings 19 = .ok (.iconst 0, 1) := by decide +kernel
theorem dX12_strings_20 : decode cX12_strings 20 = .ok (.istore_n 3, 1) := by decide +kernel
theorem dX12_strings_21 : decode cX12_strings 21 = .ok (.iconst 0, 1) := by decide +kernel
theorem dX12_strings_22 : decode cX12_strings 22 = .ok (.istore 4, 2) := by decide +kernel
theorem dX12_strings_24 : decode cX12_strings 24 = .ok (.iload 4, 2) := by decide +kernel
theorem dX12_strings_26 : decode cX12_strings 26 = .ok (.aload_n 0, 1) := by decide +kernel
theorem dX12_strings_27 : decode cX12_strings 27 = .ok (.getfield 7, 3) := by decide +kernel
theorem dX12_strings_30 : decode cX12_strings 30 = .ok (.iconst 0, 1) := by decide +kernel
theorem dX12_strings_31 : decode cX12_strings 31 = .ok (.iaload, 1) := by decide +kernel
theorem dX12_strings_32 : decode cX12_strings 32 = .ok (.if_icmp .ge 52, 3) := by decide +kernel
theorem dX12_strings_35 : decode cX12_strings 35 = .ok (.iload_n 2, 1) := by decide +kernel
theorem dX12_strings_36 : decode cX12_strings 36 = .ok (.aload_n 0, 1) := by decide +kernel
theorem dX12_strings_37 : decode cX12_strings 37 = .ok (.getfield 7, 3) := by decide +kernel
theorem dX12_strings_40 : decode cX12_strings 40 = .ok (.bipush 31, 2) := by decide +kernel
theorem dX12_strings_42 : decode cX12_strings 42 = .ok (.iload 4, 2) := by decide +kernel
theorem dX12_strings_44 : decode cX12_strings 44 = .ok (.iadd, 1) := by decide +kernel
theorem dX12_strings_45 : decode cX12_strings 45 = .ok (.iaload, 1) := by decide +kernel
theorem dX12_strings_46 : decode cX12_strings 46 = .ok (.iconst (-1), 1) := by decide +kernel
theorem dX12_strings_47 : decode cX12_strings 47 = .ok (.if_icmp .ne 7, 3) := by decide +kernel
theorem dX12_strings_50 : decode cX12_strings 50 = .ok (.iconst 1, 1) := by decide +kernel
theorem dX12_strings_51 : decode cX12_strings 51 = .ok (.goto 4, 3) := by decide +kernel
theorem dX12_strings_54 : decode cX12_strings 54 = .ok (.iconst 0, 1) := by decide +kernel
theorem dX12_strings_55 : decode cX12_strings 55 = .ok (.iadd, 1) := by decide +kernel
theorem dX12_strings_56 : decode cX12_strings 56 = .ok (.istore_n 2, 1) := by decide +kernel
theorem dX12_strings_57 : decode cX12_strings 57 = .ok (.iload_n 3, 1) := by decide +kernel
theorem dX12_strings_58 : decode cX12_strings 58 = .ok (.aload_n 0, 1) := by decide +kernel
theorem dX12_strings_59 : decode cX12_strings 59 = .ok (.iload 4, 2) := by decide +kernel
theorem dX12_strings_61 : decode cX12_strings 61 = .ok (.invokevirtual 250, 3) := by decide +kernel
theorem dX12_strings_64 : decode cX12_strings 64 = .ok (.iconst 2, 1) := by decide +kernel
theorem dX12_strings_65 : decode cX12_strings 65 = .ok (.if_icmp .ge 10, 3) := by decide +kernel
theorem dX12_strings_68 : decode cX12_strings 68 = .ok (.iconst 1, 1) := by decide +kernel
theorem dX12_strings_69 : decode cX12_strings 69 = .ok (.iload 4, 2) := by decide +kernel
theorem dX12_strings_71 : decode cX12_strings 71 = .ok (.ishl, 1) := by decide +kernel
theorem dX12_strings_72 : decode cX12_strings 72 = .ok (.goto 4, 3) := by decide +kernel
theorem dX12_strings_75 : decode cX12_strings 75 = .ok (.iconst 0, 1) := by decide +kernel
theorem dX12_strings_76 : decode cX12_strings 76 = .ok (.ior, 1) := by decide +kernel
theorem dX12_strings_77 : decode cX12_strings 77 = .ok (.istore_n 3, 1) := by decide +kernel
theorem dX12_strings_78 : decode cX12_strings 78 = .ok (.iinc 4 1, 3) := by decide +kernel
theorem dX12_strings_81 : decode cX12_strings 81 = .ok (.goto (-57), 3) := by decide +kernel
theorem dX12_strings_84 : decode cX12_strings 84 = .ok (.iload_n 1, 1) := by decide +kernel
theorem dX12_strings_85 : decode cX12_strings 85 = .ok (.ifCond .ne 7, 3) := by decide +kernel
theorem dX12_strings_88 : decode cX12_strings 88 = .ok (.iload_n 2, 1) := by decide +kernel
theorem dX12_strings_89 : decode cX12_strings 89 = .ok (.goto 4, 3) := by decide +kernel
theorem dX12_strings_92 : decode cX12_strings 92 = .ok (.iload_n 3, 1) := by decide +kernel
theorem dX12_strings_93 : decode cX12_strings 93 = .ok (.ireturn, 1) := by decide +kernel
theorem dX12_tries_0 : decode cX12_tries 0 = .ok (.iconst 0, 1) := by decide +kernel
theorem dX12_tries_1 : decode cX12_tries 1 = .ok (.istore_n 1, 1) := by decide +kernel
theorem dX12_tries_2 : decode cX12_tries 2 = .ok (.iload_n 1, 1) := by decide +kernel
theorem dX12_tries_3 : decode cX12_tries 3 = .ok (.bipush 47, 2) := by decide +kernel
theorem dX12_tries_5 : decode cX12_tries 5 = .ok (.if_icmp .ge 25, 3) := by decide +kernel
theorem dX12_tries_8 : decode cX12_tries 8 = .ok (.aload_n 0, 1) := by decide +kernel
theorem dX12_tries_9 : decode cX12_tries 9 = .ok (.getfield 7, 3) := by decide +kernel
theorem dX12_tries_12 : decode cX12_tries 12 = .ok (.sipush 1204, 3) := by decide +kernel
theorem dX12_tries_15 : decode cX12_tries 15 = .ok (.iload_n 1, 1) := by decide +kernel
theorem dX12_tries_16 : decode cX12_tries 16 = .ok (.iadd, 1) := by decide +kernel
theorem dX12_tries_17 : decode cX12_tries 17 = .ok (.aload_n 0, 1) := by decide +kernel
theorem dX12_tries_18 : decode cX12_tries 18 = .ok (.getfield 7, 3) := by decide +kernel
theorem dX12_tries_21 : decode cX12_tries 21 = .ok (.iload_n 1, 1) := by decide +kernel
theorem dX12_tries_22 : decode cX12_tries 22 = .ok (.iaload, 1) := by decide +kernel
theorem dX12_tries_23 : decode cX12_tries 23 = .ok (.iastore, 1) := by decide +kernel
theorem dX12_tries_24 : decode cX12_tries 24 = .ok (.iinc 1 1, 3) := by decide +kernel
theorem dX12_tries_27 : decode cX12_tries 27 = .ok (.goto (-25), 3) := by decide +kernel
theorem dX12_tries_30 : decode cX12_tries 30 = .ok (.return_, 1) := by decide +kernel
set_option maxRecDepth 20000 in
theorem ggX12_then_X12_isClerk : GoodIn wsX12_then wsX12_isClerk := goodIn_r _ [7, 2, 8, 9, 6, 10, 59, 60, 61, 62, 63, 64, 65, 66, 67, 68, 69, 70, 71, 72, 73, 74, 75, 76, 77, 78, 79, 80] (by decide +kernel) (by decide +kernel)
set_option maxRecDepth 20000 in
theorem gX12_then_X12_isClerk : GoodIn wsX12_then (wsV RX12 206 RX12 yX12_isClerk wsX12_isClerk) := goodIn_app (goodIn_of _ (by decide +kernel)) ggX12_then_X12_isClerk
set_option maxRecDepth 20000 in
theorem ggX12_then_X12_in : GoodIn wsX12_then wsX12_in := goodIn_r _ [10] (by decide +kernel) (by decide +kernel)
set_option maxRecDepth 20000 in
theorem gX12_then_X12_in : GoodIn wsX12_then (va_wsS RX12 64 yX12_in wsX12_in) := goodIn_app (goodIn_of _ (by decide +kernel)) ggX12_then_X12_in
set_option maxRecDepth 20000 in
theorem ggX12_then_X12_bad : GoodIn wsX12_then wsX12_bad := goodIn_r _ [14, 15, 59, 60, 61, 62, 63, 64, 65, 66, 67, 68, 69, 70, 71, 72, 73, 74, 75, 76, 77, 78, 79, 80] (by decide +kernel) (by decide +kernel)
set_option maxRecDepth 20000 in
theorem gX12_then_X12_bad : GoodIn wsX12_then (wsV RX12 88 RX12 yX12_bad wsX12_bad) := goodIn_app (goodIn_of _ (by decide +kernel)) ggX12_then_X12_bad
set_option maxRecDepth 20000 in
theorem ggX12_then_X12_tries : GoodIn wsX12_then wsX12_tries := goodIn_r _ [19, 2, 59, 60, 61, 62, 63, 64, 65, 66, 67, 68, 69, 70, 71, 72, 73, 74, 75, 76, 77, 78, 79, 80] (by decide +kernel) (by decide +kernel)
set_option maxRecDepth 20000 in
theorem gX12_then_X12_tries : GoodIn wsX12_then (wsV RX12 253 RX12 yX12_tries wsX12_tries) := goodIn_app (goodIn_of _ (by decide +kernel)) ggX12_then_X12_tries
set_option maxRecDepth 20000 in
theorem ggX12_then_X12_passes : GoodIn wsX12_then wsX12_passes := goodIn_r _ [23, 24, 2, 25, 26, 27, 28, 6, 29, 30, 31, 32, 33, 34, 35, 36, 37, 38, 39, 40, 41, 42, 43, 44, 45, 46, 47, 48, 49, 50, 51, 52, 53, 54, 55, 56, 57, 58, 8, 9, 10, 59, 60, 61, 62, 63, 64, 65, 66, 67, 68, 69, 70, 71, 72, 73, 74, 75, 76, 77, 78, 79, 80] (by decide +kernel) (by decide +kernel)
set_option maxRecDepth 20000 in
theorem gX12_then_X12_passes : GoodIn wsX12_then (wsV RX12 148 RX12 yX12_passes wsX12_passes) := goodIn_app (goodIn_of _ (by decide +kernel)) ggX12_then_X12_passes
theorem dX12_then_0 : decode cX12_then 0 = .ok (.aload_n 0, 1) := by decide +kernel
theorem dX12_then_1 : decode cX12_then 1 = .ok (.iload_n 1, 1) := by decide +kernel
theorem dX12_then_2 : decode cX12_then 2 = .ok (.invokevirtual 206, 3) := by decide +kernel
theorem dX12_then_5 : decode cX12_then 5 = .ok (.ifCond .eq 15, 3) := by decide +kernel
theorem dX12_then_8 : decode cX12_then 8 = .ok (.iload_n 2, 1) := by decide +kernel
theorem dX12_then_9 : decode cX12_then 9 = .ok (.i2l, 1) := by decide +kernel
theorem dX12_then_10 : decode cX12_then 10 = .ok (.lconst 0, 1) := by decide +kernel
theorem dX12_then_11 : decode cX12_then 11 = .ok (.ldc2_w 219, 3) := by decide +kernel
theorem dX12_then_14 : decode cX12_then 14 = .ok (.invokestatic 64, 3) := by decide +kernel
theorem dX12_then_17 : decode cX12_then 17 = .ok (.ifCond .ne 10, 3) := by decide +kernel
theorem dX12_then_20 : decode cX12_then 20 = .ok (.aload_n 0, 1) := by decide +kernel
theorem dX12_then_21 : decode cX12_then 21 = .ok (.bipush (-2), 2) := by decide +kernel
theorem dX12_then_23 : decode cX12_then 23 = .ok (.invokevirtual 88, 3) := by decide +kernel
theorem dX12_then_26 : decode cX12_then 26 = .ok (.ireturn, 1) := by decide +kernel
theorem dX12_then_27 : decode cX12_then 27 = .ok (.aload_n 0, 1) := by decide +kernel
theorem dX12_then_28 : decode cX12_then 28 = .ok (.invokevirtual 253, 3) := by decide +kernel
theorem dX12_then_31 : decode cX12_then 31 = .ok (.iconst 0, 1) := by decide +kernel
theorem dX12_then_32 : decode cX12_then 32 = .ok (.istore_n 3, 1) := by decide +kernel
theorem dX12_then_33 : decode cX12_then 33 = .ok (.iload_n 3, 1) := by decide +kernel
theorem dX12_then_34 : decode cX12_then 34 = .ok (.iload_n 2, 1) := by decide +kernel
theorem dX12_then_35 : decode cX12_then 35 = .ok (.if_icmp .ge 16, 3) := by decide +kernel
theorem dX12_then_38 : decode cX12_then 38 = .ok (.aload_n 0, 1) := by decide +kernel
theorem dX12_then_39 : decode cX12_then 39 = .ok (.sipush 1204, 3) := by decide +kernel
theorem dX12_then_42 : decode cX12_then 42 = .ok (.invokevirtual 148, 3) := by decide +kernel
theorem dX12_then_45 : decode cX12_then 45 = .ok (.iinc 3 1, 3) := by decide +kernel
theorem dX12_then_48 : decode cX12_then 48 = .ok (.goto (-15), 3) := by decide +kernel
theorem dX12_then_51 : decode cX12_then 51 = .ok (.aload_n 0, 1) := by decide +kernel
theorem dX12_then_52 : decode cX12_then 52 = .ok (.getfield 7, 3) := by decide +kernel
theorem dX12_then_55 : decode cX12_then 55 = .ok (.sipush 1221, 3) := by decide +kernel
theorem dX12_then_58 : decode cX12_then 58 = .ok (.iload_n 1, 1) := by decide +kernel
theorem dX12_then_59 : decode cX12_then 59 = .ok (.iadd, 1) := by decide +kernel
theorem dX12_then_60 : decode cX12_then 60 = .ok (.iaload, 1) := by decide +kernel
theorem dX12_then_61 : decode cX12_then 61 = .ok (.ireturn, 1) := by decide +kernel
theorem dX12_fewestTables_0 : decode cX12_fewestTables 0 = .ok (.iload_n 1, 1) := by decide +kernel
theorem dX12_fewestTables_1 : decode cX12_fewestTables 1 = .ok (.istore_n 3, 1) := by decide +kernel
theorem dX12_fewestTables_2 : decode cX12_fewestTables 2 = .ok (.iconst 0, 1) := by decide +kernel
theorem dX12_fewestTables_3 : decode cX12_fewestTables 3 = .ok (.istore 4, 2) := by decide +kernel
theorem dX12_fewestTables_5 : decode cX12_fewestTables 5 = .ok (.aload_n 0, 1) := by decide +kernel
theorem dX12_fewestTables_6 : decode cX12_fewestTables 6 = .ok (.getfield 48, 3) := by decide +kernel
theorem dX12_fewestTables_9 : decode cX12_fewestTables 9 = .ok (.iconst 0, 1) := by decide +kernel
theorem dX12_fewestTables_10 : decode cX12_fewestTables 10 = .ok (.iconst (-1), 1) := by decide +kernel
theorem dX12_fewestTables_11 : decode cX12_fewestTables 11 = .ok (.iastore, 1) := by decide +kernel
theorem dX12_fewestTables_12 : decode cX12_fewestTables 12 = .ok (.aload_n 0, 1) := by decide +kernel
theorem dX12_fewestTables_13 : decode cX12_fewestTables 13 = .ok (.getfield 51, 3) := by decide +kernel
theorem dX12_fewestTables_16 : decode cX12_fewestTables 16 = .ok (.iconst 0, 1) := by decide +kernel
theorem dX12_fewestTables_17 : decode cX12_fewestTables 17 = .ok (.iconst 0, 1) := by decide +kernel
theorem dX12_fewestTables_18 : decode cX12_fewestTables 18 = .ok (.iastore, 1) := by decide +kernel
theorem dX12_fewestTables_19 : decode cX12_fewestTables 19 = .ok (.iconst 0, 1) := by decide +kernel
theorem dX12_fewestTables_20 : decode cX12_fewestTables 20 = .ok (.istore 5, 2) := by decide +kernel
theorem dX12_fewestTables_22 : decode cX12_fewestTables 22 = .ok (.iload 5, 2) := by decide +kernel
theorem dX12_fewestTables_24 : decode cX12_fewestTables 24 = .ok (.bipush 8, 2) := by decide +kernel
theorem dX12_fewestTables_26 : decode cX12_fewestTables 26 = .ok (.if_icmp .ge 17, 3) := by decide +kernel
theorem dX12_fewestTables_29 : decode cX12_fewestTables 29 = .ok (.aload_n 0, 1) := by decide +kernel
theorem dX12_fewestTables_30 : decode cX12_fewestTables 30 = .ok (.getfield 54, 3) := by decide +kernel
theorem dX12_fewestTables_33 : decode cX12_fewestTables 33 = .ok (.iload 5, 2) := by decide +kernel
theorem dX12_fewestTables_35 : decode cX12_fewestTables 35 = .ok (.iconst 0, 1) := by decide +kernel
theorem dX12_fewestTables_36 : decode cX12_fewestTables 36 = .ok (.iastore, 1) := by decide +kernel
theorem dX12_fewestTables_37 : decode cX12_fewestTables 37 = .ok (.iinc 5 1, 3) := by decide +kernel
theorem dX12_fewestTables_40 : decode cX12_fewestTables 40 = .ok (.goto (-18), 3) := by decide +kernel
theorem dX12_fewestTables_43 : decode cX12_fewestTables 43 = .ok (.iload 4, 2) := by decide +kernel
theorem dX12_fewestTables_45 : decode cX12_fewestTables 45 = .ok (.ifCond .lt 211, 3) := by decide +kernel
theorem dX12_fewestTables_48 : decode cX12_fewestTables 48 = .ok (.iload 4, 2) := by decide +kernel
theorem dX12_fewestTables_50 : decode cX12_fewestTables 50 = .ok (.iload_n 1, 1) := by decide +kernel
theorem dX12_fewestTables_51 : decode cX12_fewestTables 51 = .ok (.if_icmp .ne 32, 3) := by decide +kernel
theorem dX12_fewestTables_54 : decode cX12_fewestTables 54 = .ok (.aload_n 0, 1) := by decide +kernel
theorem dX12_fewestTables_55 : decode cX12_fewestTables 55 = .ok (.getfield 51, 3) := by decide +kernel
theorem dX12_fewestTables_58 : decode cX12_fewestTables 58 = .ok (.iload 4, 2) := by decide +kernel
theorem dX12_fewestTables_60 : decode cX12_fewestTables 60 = .ok (.iaload, 1) := by decide +kernel
theorem dX12_fewestTables_61 : decode cX12_fewestTables 61 = .ok (.iload_n 3, 1) := by decide +kernel
theorem dX12_fewestTables_62 : decode cX12_fewestTables 62 = .ok (.if_icmp .ge 13, 3) := by decide +kernel
theorem dX12_fewestTables_65 : decode cX12_fewestTables 65 = .ok (.aload_n 0, 1) := by decide +kernel
theorem dX12_fewestTables_66 : decode cX12_fewestTables 66 = .ok (.getfield 51, 3) := by decide +kernel
theorem dX12_fewestTables_69 : decode cX12_fewestTables 69 = .ok (.iload 4, 2) := by decide +kernel
theorem dX12_fewestTables_71 : decode cX12_fewestTables 71 = .ok (.iaload, 1) := by decide +kernel
theorem dX12_fewestTables_72 : decode cX12_fewestTables 72 = .ok (.goto 4, 3) := by decide +kernel
theorem dX12_fewestTables_75 : decode cX12_fewestTables 75 = .ok (.iload_n 3, 1) := by decide +kernel
theorem dX12_fewestTables_76 : decode cX12_fewestTables 76 = .ok (.istore_n 3, 1) := by decide +kernel
theorem dX12_fewestTables_77 : decode cX12_fewestTables 77 = .ok (.iinc 4 (-1), 3) := by decide +kernel
theorem dX12_fewestTables_80 : decode cX12_fewestTables 80 = .ok (.goto (-37), 3) := by decide +kernel
theorem dX12_fewestTables_83 : decode cX12_fewestTables 83 = .ok (.aload_n 0, 1) := by decide +kernel
theorem dX12_fewestTables_84 : decode cX12_fewestTables 84 = .ok (.getfield 48, 3) := by decide +kernel
theorem dX12_fewestTables_87 : decode cX12_fewestTables 87 = .ok (.iload 4, 2) := by decide +kernel
theorem dX12_fewestTables_89 : decode cX12_fewestTables 89 = .ok (.iaload, 1) := by decide +kernel
theorem dX12_fewestTables_90 : decode cX12_fewestTables 90 = .ok (.ifCond .lt 25, 3) := by decide +kernel
theorem dX12_fewestTables_93 : decode cX12_fewestTables 93 = .ok (.aload_n 0, 1) := by decide +kernel
theorem dX12_fewestTables_94 : decode cX12_fewestTables 94 = .ok (.getfield 54, 3) := by decide +kernel
theorem dX12_fewestTables_97 : decode cX12_fewestTables 97 = .ok (.aload_n 0, 1) := by decide +kernel
theorem dX12_fewestTables_98 : decode cX12_fewestTables 98 = .ok (.getfield 48, 3) := by decide +kernel
theorem dX12_fewestTables_101 : decode cX12_fewestTables 101 = .ok (.iload 4, 2) := by decide +kernel
theorem dX12_fewestTables_103 : decode cX12_fewestTables 103 = .ok (.iaload, 1) := by decide +kernel
theorem dX12_fewestTables_104 : decode cX12_fewestTables 104 = .ok (.dup2, 1) := by decide +kernel
theorem dX12_fewestTables_105 : decode cX12_fewestTables 105 = .ok (.iaload, 1) := by decide +kernel
theorem dX12_fewestTables_106 : decode cX12_fewestTables 106 = .ok (.aload_n 0, 1) := by decide +kernel
theorem dX12_fewestTables_107 : decode cX12_fewestTables 107 = .ok (.getfield 45, 3) := by decide +kernel
theorem dX12_fewestTables_110 : decode cX12_fewestTables 110 = .ok (.iload 4, 2) := by decide +kernel
theorem dX12_fewestTables_112 : decode cX12_fewestTables 112 = .ok (.iaload, 1) := by decide +kernel
theorem dX12_fewestTables_113 : decode cX12_fewestTables 113 = .ok (.isub, 1) := by decide +kernel
theorem dX12_fewestTables_114 : decode cX12_fewestTables 114 = .ok (.iastore, 1) := by decide +kernel
theorem dX12_fewestTables_115 : decode cX12_fewestTables 115 = .ok (.aload_n 0, 1) := by decide +kernel
theorem dX12_fewestTables_116 : decode cX12_fewestTables 116 = .ok (.getfield 48, 3) := by decide +kernel
theorem dX12_fewestTables_119 : decode cX12_fewestTables 119 = .ok (.iload 4, 2) := by decide +kernel
theorem dX12_fewestTables_121 : decode cX12_fewestTables 121 = .ok (.iaload, 1) := by decide +kernel
theorem dX12_fewestTables_122 : decode cX12_fewestTables 122 = .ok (.iconst 1, 1) := by decide +kernel
theorem dX12_fewestTables_123 : decode cX12_fewestTables 123 = .ok (.iadd, 1) := by decide +kernel
theorem dX12_fewestTables_124 : decode cX12_fewestTables 124 = .ok (.istore 5, 2) := by decide +kernel
theorem dX12_fewestTables_126 : decode cX12_fewestTables 126 = .ok (.iload 5, 2) := by decide +kernel
theorem dX12_fewestTables_128 : decode cX12_fewestTables 128 = .ok (.aload_n 0, 1) := by decide +kernel
theorem dX12_fewestTables_129 : decode cX12_fewestTables 129 = .ok (.getfield 51, 3) := by decide +kernel
theorem dX12_fewestTables_132 : decode cX12_fewestTables 132 = .ok (.iload 4, 2) := by decide +kernel
theorem dX12_fewestTables_134 : decode cX12_fewestTables 134 = .ok (.iaload, 1) := by decide +kernel
theorem dX12_fewestTables_135 : decode cX12_fewestTables 135 = .ok (.if_icmp .gt 28, 3) := by decide +kernel
theorem dX12_fewestTables_138 : decode cX12_fewestTables 138 = .ok (.aload_n 0, 1) := by decide +kernel
theorem dX12_fewestTables_139 : decode cX12_fewestTables 139 = .ok (.getfield 54, 3) := by decide +kernel
theorem dX12_fewestTables_142 : decode cX12_fewestTables 142 = .ok (.iload 5, 2) := by decide +kernel
theorem dX12_fewestTables_144 : decode cX12_fewestTables 144 = .ok (.iaload, 1) := by decide +kernel
theorem dX12_fewestTables_145 : decode cX12_fewestTables 145 = .ok (.aload_n 0, 1) := by decide +kernel
theorem dX12_fewestTables_146 : decode cX12_fewestTables 146 = .ok (.getfield 45, 3) := by decide +kernel
theorem dX12_fewestTables_149 : decode cX12_fewestTables 149 = .ok (.iload 4, 2) := by decide +kernel
theorem dX12_fewestTables_151 : decode cX12_fewestTables 151 = .ok (.iaload, 1) := by decide +kernel
theorem dX12_fewestTables_152 : decode cX12_fewestTables 152 = .ok (.iadd, 1) := by decide +kernel
theorem dX12_fewestTables_153 : decode cX12_fewestTables 153 = .ok (.iload_n 2, 1) := by decide +kernel
theorem dX12_fewestTables_154 : decode cX12_fewestTables 154 = .ok (.if_icmp .le 9, 3) := by decide +kernel
theorem dX12_fewestTables_157 : decode cX12_fewestTables 157 = .ok (.iinc 5 1, 3) := by decide +kernel
theorem dX12_fewestTables_160 : decode cX12_fewestTables 160 = .ok (.goto (-34), 3) := by decide +kernel
theorem dX12_fewestTables_163 : decode cX12_fewestTables 163 = .ok (.iload 5, 2) := by decide +kernel
theorem dX12_fewestTables_165 : decode cX12_fewestTables 165 = .ok (.aload_n 0, 1) := by decide +kernel
theorem dX12_fewestTables_166 : decode cX12_fewestTables 166 = .ok (.getfield 51, 3) := by decide +kernel
theorem dX12_fewestTables_169 : decode cX12_fewestTables 169 = .ok (.iload 4, 2) := by decide +kernel
theorem dX12_fewestTables_171 : decode cX12_fewestTables 171 = .ok (.iaload, 1) := by decide +kernel
theorem dX12_fewestTables_172 : decode cX12_fewestTables 172 = .ok (.if_icmp .le 9, 3) := by decide +kernel
theorem dX12_fewestTables_175 : decode cX12_fewestTables 175 = .ok (.iinc 4 (-1), 3) := by decide +kernel
theorem dX12_fewestTables_178 : decode cX12_fewestTables 178 = .ok (.goto 75, 3) := by decide +kernel
theorem dX12_fewestTables_181 : decode cX12_fewestTables 181 = .ok (.aload_n 0, 1) := by decide +kernel
theorem dX12_fewestTables_182 : decode cX12_fewestTables 182 = .ok (.getfield 48, 3) := by decide +kernel
theorem dX12_fewestTables_185 : decode cX12_fewestTables 185 = .ok (.iload 4, 2) := by decide +kernel
theorem dX12_fewestTables_187 : decode cX12_fewestTables 187 = .ok (.iload 5, 2) := by decide +kernel
theorem dX12_fewestTables_189 : decode cX12_fewestTables 189 = .ok (.iastore, 1) := by decide +kernel
theorem dX12_fewestTables_190 : decode cX12_fewestTables 190 = .ok (.aload_n 0, 1) := by decide +kernel
theorem dX12_fewestTables_191 : decode cX12_fewestTables 191 = .ok (.getfield 54, 3) := by decide +kernel
theorem dX12_fewestTables_194 : decode cX12_fewestTables 194 = .ok (.iload 5, 2) := by decide +kernel
theorem dX12_fewestTables_196 : decode cX12_fewestTables 196 = .ok (.dup2, 1) := by decide +kernel
theorem dX12_fewestTables_197 : decode cX12_fewestTables 197 = .ok (.iaload, 1) := by decide +kernel
theorem dX12_fewestTables_198 : decode cX12_fewestTables 198 = .ok (.aload_n 0, 1) := by decide +kernel
theorem dX12_fewestTables_199 : decode cX12_fewestTables 199 = .ok (.getfield 45, 3) := by decide +kernel
theorem dX12_fewestTables_202 : decode cX12_fewestTables 202 = .ok (.iload 4, 2) := by decide +kernel
theorem dX12_fewestTables_204 : decode cX12_fewestTables 204 = .ok (.iaload, 1) := by decide +kernel
theorem dX12_fewestTables_205 : decode cX12_fewestTables 205 = .ok (.iadd, 1) := by decide +kernel
theorem dX12_fewestTables_206 : decode cX12_fewestTables 206 = .ok (.iastore, 1) := by decide +kernel
theorem dX12_fewestTables_207 : decode cX12_fewestTables 207 = .ok (.aload_n 0, 1) := by decide +kernel
theorem dX12_fewestTables_208 : decode cX12_fewestTables 208 = .ok (.getfield 51, 3) := by decide +kernel
theorem dX12_fewestTables_211 : decode cX12_fewestTables 211 = .ok (.iload 4, 2) := by decide +kernel
theorem dX12_fewestTables_213 : decode cX12_fewestTables 213 = .ok (.iconst 1, 1) := by decide +kernel
theorem dX12_fewestTables_214 : decode cX12_fewestTables 214 = .ok (.iadd, 1) := by decide +kernel
theorem dX12_fewestTables_215 : decode cX12_fewestTables 215 = .ok (.iload 5, 2) := by decide +kernel
theorem dX12_fewestTables_217 : decode cX12_fewestTables 217 = .ok (.aload_n 0, 1) := by decide +kernel
theorem dX12_fewestTables_218 : decode cX12_fewestTables 218 = .ok (.getfield 51, 3) := by decide +kernel
theorem dX12_fewestTables_221 : decode cX12_fewestTables 221 = .ok (.iload 4, 2) := by decide +kernel
theorem dX12_fewestTables_223 : decode cX12_fewestTables 223 = .ok (.iaload, 1) := by decide +kernel
theorem dX12_fewestTables_224 : decode cX12_fewestTables 224 = .ok (.if_icmp .ne 10, 3) := by decide +kernel
theorem dX12_fewestTables_227 : decode cX12_fewestTables 227 = .ok (.iload 5, 2) := by decide +kernel
theorem dX12_fewestTables_229 : decode cX12_fewestTables 229 = .ok (.iconst 1, 1) := by decide +kernel
theorem dX12_fewestTables_230 : decode cX12_fewestTables 230 = .ok (.iadd, 1) := by decide +kernel
theorem dX12_fewestTables_231 : decode cX12_fewestTables 231 = .ok (.goto 10, 3) := by decide +kernel
theorem dX12_fewestTables_234 : decode cX12_fewestTables 234 = .ok (.aload_n 0, 1) := by decide +kernel
theorem dX12_fewestTables_235 : decode cX12_fewestTables 235 = .ok (.getfield 51, 3) := by decide +kernel
theorem dX12_fewestTables_238 : decode cX12_fewestTables 238 = .ok (.iload 4, 2) := by decide +kernel
theorem dX12_fewestTables_240 : decode cX12_fewestTables 240 = .ok (.iaload, 1) := by decide +kernel
theorem dX12_fewestTables_241 : decode cX12_fewestTables 241 = .ok (.iastore, 1) := by decide +kernel
theorem dX12_fewestTables_242 : decode cX12_fewestTables 242 = .ok (.iinc 4 1, 3) := by decide +kernel
theorem dX12_fewestTables_245 : decode cX12_fewestTables 245 = .ok (.aload_n 0, 1) := by decide +kernel
theorem dX12_fewestTables_246 : decode cX12_fewestTables 246 = .ok (.getfield 48, 3) := by decide +kernel
theorem dX12_fewestTables_249 : decode cX12_fewestTables 249 = .ok (.iload 4, 2) := by decide +kernel
theorem dX12_fewestTables_251 : decode cX12_fewestTables 251 = .ok (.iconst (-1), 1) := by decide +kernel
theorem dX12_fewestTables_252 : decode cX12_fewestTables 252 = .ok (.iastore, 1) := by decide +kernel
theorem dX12_fewestTables_253 : decode cX12_fewestTables 253 = .ok (.goto (-210), 3) := by decide +kernel
theorem dX12_fewestTables_256 : decode cX12_fewestTables 256 = .ok (.iload_n 3, 1) := by decide +kernel
theorem dX12_fewestTables_257 : decode cX12_fewestTables 257 = .ok (.ireturn, 1) := by decide +kernel
set_option maxRecDepth 20000 in
theorem ggX12_lunch_X12_in : GoodIn wsX12_lunch wsX12_in := goodIn_r _ [7] (by decide +kernel) (by decide +kernel)
set_option maxRecDepth 20000 in
theorem gX12_lunch_X12_in : GoodIn wsX12_lunch (va_wsS RX12 64 yX12_in wsX12_in) := goodIn_app (goodIn_of _ (by decide +kernel)) ggX12_lunch_X12_in
set_option maxRecDepth 20000 in
theorem ggX12_lunch_X12_bad : GoodIn wsX12_lunch wsX12_bad := goodIn_r _ [11, 12, 31, 32, 33, 34, 35, 36, 37, 38, 39, 40, 41, 42, 43, 44, 45, 46, 47, 48, 49, 50, 51, 52] (by decide +kernel) (by decide +kernel)
set_option maxRecDepth 20000 in
theorem gX12_lunch_X12_bad : GoodIn wsX12_lunch (wsV RX12 88 RX12 yX12_bad wsX12_bad) := goodIn_app (goodIn_of _ (by decide +kernel)) ggX12_lunch_X12_bad
set_option maxRecDepth 20000 in
theorem ggX12_lunch_X12_stringOf : GoodIn wsX12_lunch wsX12_stringOf := goodIn_r _ [16, 2, 17, 18, 19, 6, 20, 31, 32, 33, 34, 35, 36, 37, 38, 39, 40, 41, 42, 43, 44, 45, 46, 47, 48, 49, 50, 51, 52] (by decide +kernel) (by decide +kernel)
set_option maxRecDepth 20000 in
theorem gX12_lunch_X12_stringOf : GoodIn wsX12_lunch (wsV RX12 200 RX12 yX12_stringOf wsX12_stringOf) := goodIn_app (goodIn_of _ (by decide +kernel)) ggX12_lunch_X12_stringOf
set_option maxRecDepth 20000 in
theorem ggX12_lunch_X12_ones : GoodIn wsX12_lunch wsX12_ones := goodIn_r _ [23] (by decide +kernel) (by decide +kernel)
set_option maxRecDepth 20000 in
theorem gX12_lunch_X12_ones : GoodIn wsX12_lunch (va_wsS RX12 216 yX12_ones wsX12_ones) := goodIn_app (goodIn_of _ (by decide +kernel)) ggX12_lunch_X12_ones
set_option maxRecDepth 20000 in
theorem ggX12_lunch_X12_fewestTables : GoodIn wsX12_lunch wsX12_fewestTables := goodIn_r _ [27, 28, 29, 30, 3, 31, 32, 33, 34, 35, 36, 37, 38, 39, 40, 41, 42, 43, 44, 45, 46, 47, 48, 49, 50, 51, 52] (by decide +kernel) (by decide +kernel)
set_option maxRecDepth 20000 in
theorem gX12_lunch_X12_fewestTables : GoodIn wsX12_lunch (wsV RX12 258 RX12 yX12_fewestTables wsX12_fewestTables) := goodIn_app (goodIn_of _ (by decide +kernel)) ggX12_lunch_X12_fewestTables
theorem dX12_lunch_0 : decode cX12_lunch 0 = .ok (.iload_n 1, 1) := by decide +kernel
theorem dX12_lunch_1 : decode cX12_lunch 1 = .ok (.i2l, 1) := by decide +kernel
theorem dX12_lunch_2 : decode cX12_lunch 2 = .ok (.lconst 1, 1) := by decide +kernel
theorem dX12_lunch_3 : decode cX12_lunch 3 = .ok (.ldc2_w 256, 3) := by decide +kernel
theorem dX12_lunch_6 : decode cX12_lunch 6 = .ok (.invokestatic 64, 3) := by decide +kernel
theorem dX12_lunch_9 : decode cX12_lunch 9 = .ok (.ifCond .ne 10, 3) := by decide +kernel
theorem dX12_lunch_12 : decode cX12_lunch 12 = .ok (.aload_n 0, 1) := by decide +kernel
theorem dX12_lunch_13 : decode cX12_lunch 13 = .ok (.bipush (-2), 2) := by decide +kernel
theorem dX12_lunch_15 : decode cX12_lunch 15 = .ok (.invokevirtual 88, 3) := by decide +kernel
theorem dX12_lunch_18 : decode cX12_lunch 18 = .ok (.ireturn, 1) := by decide +kernel
theorem dX12_lunch_19 : decode cX12_lunch 19 = .ok (.iconst 0, 1) := by decide +kernel
theorem dX12_lunch_20 : decode cX12_lunch 20 = .ok (.istore_n 2, 1) := by decide +kernel
theorem dX12_lunch_21 : decode cX12_lunch 21 = .ok (.iconst 0, 1) := by decide +kernel
theorem dX12_lunch_22 : decode cX12_lunch 22 = .ok (.istore_n 3, 1) := by decide +kernel
theorem dX12_lunch_23 : decode cX12_lunch 23 = .ok (.iload_n 3, 1) := by decide +kernel
theorem dX12_lunch_24 : decode cX12_lunch 24 = .ok (.aload_n 0, 1) := by decide +kernel
theorem dX12_lunch_25 : decode cX12_lunch 25 = .ok (.getfield 7, 3) := by decide +kernel
theorem dX12_lunch_28 : decode cX12_lunch 28 = .ok (.iconst 0, 1) := by decide +kernel
theorem dX12_lunch_29 : decode cX12_lunch 29 = .ok (.iaload, 1) := by decide +kernel
theorem dX12_lunch_30 : decode cX12_lunch 30 = .ok (.if_icmp .ge 40, 3) := by decide +kernel
theorem dX12_lunch_33 : decode cX12_lunch 33 = .ok (.aload_n 0, 1) := by decide +kernel
theorem dX12_lunch_34 : decode cX12_lunch 34 = .ok (.getfield 7, 3) := by decide +kernel
theorem dX12_lunch_37 : decode cX12_lunch 37 = .ok (.bipush 31, 2) := by decide +kernel
theorem dX12_lunch_39 : decode cX12_lunch 39 = .ok (.iload_n 3, 1) := by decide +kernel
theorem dX12_lunch_40 : decode cX12_lunch 40 = .ok (.iadd, 1) := by decide +kernel
theorem dX12_lunch_41 : decode cX12_lunch 41 = .ok (.iaload, 1) := by decide +kernel
theorem dX12_lunch_42 : decode cX12_lunch 42 = .ok (.iconst (-1), 1) := by decide +kernel
theorem dX12_lunch_43 : decode cX12_lunch 43 = .ok (.if_icmp .ne 21, 3) := by decide +kernel
theorem dX12_lunch_46 : decode cX12_lunch 46 = .ok (.aload_n 0, 1) := by decide +kernel
theorem dX12_lunch_47 : decode cX12_lunch 47 = .ok (.getfield 45, 3) := by decide +kernel
theorem dX12_lunch_50 : decode cX12_lunch 50 = .ok (.iload_n 2, 1) := by decide +kernel
theorem dX12_lunch_51 : decode cX12_lunch 51 = .ok (.aload_n 0, 1) := by decide +kernel
theorem dX12_lunch_52 : decode cX12_lunch 52 = .ok (.iconst 0, 1) := by decide +kernel
theorem dX12_lunch_53 : decode cX12_lunch 53 = .ok (.iload_n 3, 1) := by decide +kernel
theorem dX12_lunch_54 : decode cX12_lunch 54 = .ok (.invokevirtual 200, 3) := by decide +kernel
theorem dX12_lunch_57 : decode cX12_lunch 57 = .ok (.invokestatic 216, 3) := by decide +kernel
theorem dX12_lunch_60 : decode cX12_lunch 60 = .ok (.iastore, 1) := by decide +kernel
theorem dX12_lunch_61 : decode cX12_lunch 61 = .ok (.iinc 2 1, 3) := by decide +kernel
theorem dX12_lunch_64 : decode cX12_lunch 64 = .ok (.iinc 3 1, 3) := by decide +kernel
theorem dX12_lunch_67 : decode cX12_lunch 67 = .ok (.goto (-44), 3) := by decide +kernel
theorem dX12_lunch_70 : decode cX12_lunch 70 = .ok (.iconst 0, 1) := by decide +kernel
theorem dX12_lunch_71 : decode cX12_lunch 71 = .ok (.istore_n 3, 1) := by decide +kernel
theorem dX12_lunch_72 : decode cX12_lunch 72 = .ok (.iload_n 3, 1) := by decide +kernel
theorem dX12_lunch_73 : decode cX12_lunch 73 = .ok (.iload_n 2, 1) := by decide +kernel
theorem dX12_lunch_74 : decode cX12_lunch 74 = .ok (.if_icmp .ge 21, 3) := by decide +kernel
theorem dX12_lunch_77 : decode cX12_lunch 77 = .ok (.aload_n 0, 1) := by decide +kernel
theorem dX12_lunch_78 : decode cX12_lunch 78 = .ok (.getfield 45, 3) := by decide +kernel
theorem dX12_lunch_81 : decode cX12_lunch 81 = .ok (.iload_n 3, 1) := by decide +kernel
theorem dX12_lunch_82 : decode cX12_lunch 82 = .ok (.iaload, 1) := by decide +kernel
theorem dX12_lunch_83 : decode cX12_lunch 83 = .ok (.iload_n 1, 1) := by decide +kernel
theorem dX12_lunch_84 : decode cX12_lunch 84 = .ok (.if_icmp .le 5, 3) := by decide +kernel
theorem dX12_lunch_87 : decode cX12_lunch 87 = .ok (.iconst (-1), 1) := by decide +kernel
theorem dX12_lunch_88 : decode cX12_lunch 88 = .ok (.ireturn, 1) := by decide +kernel
theorem dX12_lunch_89 : decode cX12_lunch 89 = .ok (.iinc 3 1, 3) := by decide +kernel
theorem dX12_lunch_92 : decode cX12_lunch 92 = .ok (.goto (-20), 3) := by decide +kernel
theorem dX12_lunch_95 : decode cX12_lunch 95 = .ok (.aload_n 0, 1) := by decide +kernel
theorem dX12_lunch_96 : decode cX12_lunch 96 = .ok (.iload_n 2, 1) := by decide +kernel
theorem dX12_lunch_97 : decode cX12_lunch 97 = .ok (.iload_n 1, 1) := by decide +kernel
theorem dX12_lunch_98 : decode cX12_lunch 98 = .ok (.invokevirtual 258, 3) := by decide +kernel
theorem dX12_lunch_101 : decode cX12_lunch 101 = .ok (.ireturn, 1) := by decide +kernel
set_option maxRecDepth 20000 in
theorem ggX12_free_X12_in : GoodIn wsX12_free wsX12_in := goodIn_r _ [6] (by decide +kernel) (by decide +kernel)
set_option maxRecDepth 20000 in
theorem gX12_free_X12_in : GoodIn wsX12_free (va_wsS RX12 64 yX12_in wsX12_in) := goodIn_app (goodIn_of _ (by decide +kernel)) ggX12_free_X12_in
set_option maxRecDepth 20000 in
theorem ggX12_free_X12_bad : GoodIn wsX12_free wsX12_bad := goodIn_r _ [10, 11, 34, 35, 36, 37, 38, 39, 40, 41, 42, 43, 44, 45, 46, 47, 48, 49, 50, 51, 52, 53, 54, 55] (by decide +kernel) (by decide +kernel)
set_option maxRecDepth 20000 in
theorem gX12_free_X12_bad : GoodIn wsX12_free (wsV RX12 88 RX12 yX12_bad wsX12_bad) := goodIn_app (goodIn_of _ (by decide +kernel)) ggX12_free_X12_bad
set_option maxRecDepth 20000 in
theorem ggX12_free_X12_ones : GoodIn wsX12_free wsX12_ones := goodIn_r _ [14] (by decide +kernel) (by decide +kernel)
set_option maxRecDepth 20000 in
theorem gX12_free_X12_ones : GoodIn wsX12_free (va_wsS RX12 216 yX12_ones wsX12_ones) := goodIn_app (goodIn_of _ (by decide +kernel)) ggX12_free_X12_ones
set_option maxRecDepth 20000 in
theorem ggX12_free_X12_has : GoodIn wsX12_free wsX12_has := goodIn_r _ [17] (by decide +kernel) (by decide +kernel)
set_option maxRecDepth 20000 in
theorem gX12_free_X12_has : GoodIn wsX12_free (va_wsS RX12 184 yX12_has wsX12_has) := goodIn_app (goodIn_of _ (by decide +kernel)) ggX12_free_X12_has
set_option maxRecDepth 20000 in
theorem ggX12_free_X12_tries : GoodIn wsX12_free wsX12_tries := goodIn_r _ [21, 2, 34, 35, 36, 37, 38, 39, 40, 41, 42, 43, 44, 45, 46, 47, 48, 49, 50, 51, 52, 53, 54, 55] (by decide +kernel) (by decide +kernel)
set_option maxRecDepth 20000 in
theorem gX12_free_X12_tries : GoodIn wsX12_free (wsV RX12 253 RX12 yX12_tries wsX12_tries) := goodIn_app (goodIn_of _ (by decide +kernel)) ggX12_free_X12_tries
set_option maxRecDepth 20000 in
theorem ggX12_free_X12_stringOf : GoodIn wsX12_free wsX12_stringOf := goodIn_r _ [25, 2, 26, 27, 28, 5, 29, 34, 35, 36, 37, 38, 39, 40, 41, 42, 43, 44, 45, 46, 47, 48, 49, 50, 51, 52, 53, 54, 55] (by decide +kernel) (by decide +kernel)
set_option maxRecDepth 20000 in
theorem gX12_free_X12_stringOf : GoodIn wsX12_free (wsV RX12 200 RX12 yX12_stringOf wsX12_stringOf) := goodIn_app (goodIn_of _ (by decide +kernel)) ggX12_free_X12_stringOf
set_option maxRecDepth 20000 in
theorem ggX12_free_X12_weighs : GoodIn wsX12_free wsX12_weighs := goodIn_r _ [33, 2, 15, 16, 5, 17, 34, 35, 36, 37, 38, 39, 40, 41, 42, 43, 44, 45, 46, 47, 48, 49, 50, 51, 52, 53, 54, 55] (by decide +kernel) (by decide +kernel)
set_option maxRecDepth 20000 in
theorem gX12_free_X12_weighs : GoodIn wsX12_free (wsV RX12 194 RX12 yX12_weighs wsX12_weighs) := goodIn_app (goodIn_of _ (by decide +kernel)) ggX12_free_X12_weighs
theorem dX12_free_0 : decode cX12_free 0 = .ok (.iload_n 1, 1) := by decide +kernel
theorem dX12_free_1 : decode cX12_free 1 = .ok (.i2l, 1) := by decide +kernel
theorem dX12_free_2 : decode cX12_free 2 = .ok (.lconst 1, 1) := by decide +kernel
theorem dX12_free_3 : decode cX12_free 3 = .ok (.ldc2_w 261, 3) := by decide +kernel
theorem dX12_free_6 : decode cX12_free 6 = .ok (.invokestatic 64, 3) := by decide +kernel
theorem dX12_free_9 : decode cX12_free 9 = .ok (.ifCond .ne 10, 3) := by decide +kernel
theorem dX12_free_12 : decode cX12_free 12 = .ok (.aload_n 0, 1) := by decide +kernel
theorem dX12_free_13 : decode cX12_free 13 = .ok (.bipush (-2), 2) := by decide +kernel
theorem dX12_free_15 : decode cX12_free 15 = .ok (.invokevirtual 88, 3) := by decide +kernel
theorem dX12_free_18 : decode cX12_free 18 = .ok (.ireturn, 1) := by decide +kernel
theorem dX12_free_19 : decode cX12_free 19 = .ok (.iconst (-1), 1) := by decide +kernel
theorem dX12_free_20 : decode cX12_free 20 = .ok (.istore_n 2, 1) := by decide +kernel
theorem dX12_free_21 : decode cX12_free 21 = .ok (.iconst 0, 1) := by decide +kernel
theorem dX12_free_22 : decode cX12_free 22 = .ok (.istore_n 3, 1) := by decide +kernel
theorem dX12_free_23 : decode cX12_free 23 = .ok (.iload_n 3, 1) := by decide +kernel
theorem dX12_free_24 : decode cX12_free 24 = .ok (.iconst 1, 1) := by decide +kernel
theorem dX12_free_25 : decode cX12_free 25 = .ok (.aload_n 0, 1) := by decide +kernel
theorem dX12_free_26 : decode cX12_free 26 = .ok (.getfield 7, 3) := by decide +kernel
theorem dX12_free_29 : decode cX12_free 29 = .ok (.iconst 0, 1) := by decide +kernel
theorem dX12_free_30 : decode cX12_free 30 = .ok (.iaload, 1) := by decide +kernel
theorem dX12_free_31 : decode cX12_free 31 = .ok (.ishl, 1) := by decide +kernel
theorem dX12_free_32 : decode cX12_free 32 = .ok (.if_icmp .ge 213, 3) := by decide +kernel
theorem dX12_free_35 : decode cX12_free 35 = .ok (.iload_n 2, 1) := by decide +kernel
theorem dX12_free_36 : decode cX12_free 36 = .ok (.iconst (-1), 1) := by decide +kernel
theorem dX12_free_37 : decode cX12_free 37 = .ok (.if_icmp .eq 14, 3) := by decide +kernel
theorem dX12_free_40 : decode cX12_free 40 = .ok (.iload_n 3, 1) := by decide +kernel
theorem dX12_free_41 : decode cX12_free 41 = .ok (.invokestatic 216, 3) := by decide +kernel
theorem dX12_free_44 : decode cX12_free 44 = .ok (.iload_n 2, 1) := by decide +kernel
theorem dX12_free_45 : decode cX12_free 45 = .ok (.invokestatic 216, 3) := by decide +kernel
theorem dX12_free_48 : decode cX12_free 48 = .ok (.if_icmp .ge 7, 3) := by decide +kernel
theorem dX12_free_51 : decode cX12_free 51 = .ok (.iconst 1, 1) := by decide +kernel
theorem dX12_free_52 : decode cX12_free 52 = .ok (.goto 4, 3) := by decide +kernel
theorem dX12_free_55 : decode cX12_free 55 = .ok (.iconst 0, 1) := by decide +kernel
theorem dX12_free_56 : decode cX12_free 56 = .ok (.istore 4, 2) := by decide +kernel
theorem dX12_free_58 : decode cX12_free 58 = .ok (.iconst 0, 1) := by decide +kernel
theorem dX12_free_59 : decode cX12_free 59 = .ok (.istore 5, 2) := by decide +kernel
theorem dX12_free_61 : decode cX12_free 61 = .ok (.iload 5, 2) := by decide +kernel
theorem dX12_free_63 : decode cX12_free 63 = .ok (.aload_n 0, 1) := by decide +kernel
theorem dX12_free_64 : decode cX12_free 64 = .ok (.getfield 7, 3) := by decide +kernel
theorem dX12_free_67 : decode cX12_free 67 = .ok (.iconst 0, 1) := by decide +kernel
theorem dX12_free_68 : decode cX12_free 68 = .ok (.iaload, 1) := by decide +kernel
theorem dX12_free_69 : decode cX12_free 69 = .ok (.if_icmp .ge 44, 3) := by decide +kernel
theorem dX12_free_72 : decode cX12_free 72 = .ok (.iload 4, 2) := by decide +kernel
theorem dX12_free_74 : decode cX12_free 74 = .ok (.ifCond .eq 30, 3) := by decide +kernel
theorem dX12_free_77 : decode cX12_free 77 = .ok (.iload_n 3, 1) := by decide +kernel
theorem dX12_free_78 : decode cX12_free 78 = .ok (.iload 5, 2) := by decide +kernel
theorem dX12_free_80 : decode cX12_free 80 = .ok (.invokestatic 184, 3) := by decide +kernel
theorem dX12_free_83 : decode cX12_free 83 = .ok (.ifCond .eq 17, 3) := by decide +kernel
theorem dX12_free_86 : decode cX12_free 86 = .ok (.aload_n 0, 1) := by decide +kernel
theorem dX12_free_87 : decode cX12_free 87 = .ok (.getfield 7, 3) := by decide +kernel
theorem dX12_free_90 : decode cX12_free 90 = .ok (.bipush 31, 2) := by decide +kernel
theorem dX12_free_92 : decode cX12_free 92 = .ok (.iload 5, 2) := by decide +kernel
theorem dX12_free_94 : decode cX12_free 94 = .ok (.iadd, 1) := by decide +kernel
theorem dX12_free_95 : decode cX12_free 95 = .ok (.iaload, 1) := by decide +kernel
theorem dX12_free_96 : decode cX12_free 96 = .ok (.iconst (-1), 1) := by decide +kernel
theorem dX12_free_97 : decode cX12_free 97 = .ok (.if_icmp .eq 7, 3) := by decide +kernel
theorem dX12_free_100 : decode cX12_free 100 = .ok (.iconst 1, 1) := by decide +kernel
theorem dX12_free_101 : decode cX12_free 101 = .ok (.goto 4, 3) := by decide +kernel
theorem dX12_free_104 : decode cX12_free 104 = .ok (.iconst 0, 1) := by decide +kernel
theorem dX12_free_105 : decode cX12_free 105 = .ok (.istore 4, 2) := by decide +kernel
theorem dX12_free_107 : decode cX12_free 107 = .ok (.iinc 5 1, 3) := by decide +kernel
theorem dX12_free_110 : decode cX12_free 110 = .ok (.goto (-49), 3) := by decide +kernel
theorem dX12_free_113 : decode cX12_free 113 = .ok (.iload 4, 2) := by decide +kernel
theorem dX12_free_115 : decode cX12_free 115 = .ok (.ifCond .eq 124, 3) := by decide +kernel
theorem dX12_free_118 : decode cX12_free 118 = .ok (.aload_n 0, 1) := by decide +kernel
theorem dX12_free_119 : decode cX12_free 119 = .ok (.invokevirtual 253, 3) := by decide +kernel
theorem dX12_free_122 : decode cX12_free 122 = .ok (.iconst 0, 1) := by decide +kernel
theorem dX12_free_123 : decode cX12_free 123 = .ok (.istore 5, 2) := by decide +kernel
theorem dX12_free_125 : decode cX12_free 125 = .ok (.iload 5, 2) := by decide +kernel
theorem dX12_free_127 : decode cX12_free 127 = .ok (.aload_n 0, 1) := by decide +kernel
theorem dX12_free_128 : decode cX12_free 128 = .ok (.getfield 7, 3) := by decide +kernel
theorem dX12_free_131 : decode cX12_free 131 = .ok (.iconst 0, 1) := by decide +kernel
theorem dX12_free_132 : decode cX12_free 132 = .ok (.iaload, 1) := by decide +kernel
theorem dX12_free_133 : decode cX12_free 133 = .ok (.if_icmp .ge 43, 3) := by decide +kernel
theorem dX12_free_136 : decode cX12_free 136 = .ok (.aload_n 0, 1) := by decide +kernel
theorem dX12_free_137 : decode cX12_free 137 = .ok (.getfield 7, 3) := by decide +kernel
theorem dX12_free_140 : decode cX12_free 140 = .ok (.sipush 1235, 3) := by decide +kernel
theorem dX12_free_143 : decode cX12_free 143 = .ok (.iload 5, 2) := by decide +kernel
theorem dX12_free_145 : decode cX12_free 145 = .ok (.iadd, 1) := by decide +kernel
theorem dX12_free_146 : decode cX12_free 146 = .ok (.iload_n 3, 1) := by decide +kernel
theorem dX12_free_147 : decode cX12_free 147 = .ok (.iload 5, 2) := by decide +kernel
theorem dX12_free_149 : decode cX12_free 149 = .ok (.invokestatic 184, 3) := by decide +kernel
theorem dX12_free_152 : decode cX12_free 152 = .ok (.ifCond .eq 7, 3) := by decide +kernel
theorem dX12_free_155 : decode cX12_free 155 = .ok (.iconst (-1), 1) := by decide +kernel
theorem dX12_free_156 : decode cX12_free 156 = .ok (.goto 13, 3) := by decide +kernel
theorem dX12_free_159 : decode cX12_free 159 = .ok (.aload_n 0, 1) := by decide +kernel
theorem dX12_free_160 : decode cX12_free 160 = .ok (.getfield 7, 3) := by decide +kernel
theorem dX12_free_163 : decode cX12_free 163 = .ok (.bipush 31, 2) := by decide +kernel
theorem dX12_free_165 : decode cX12_free 165 = .ok (.iload 5, 2) := by decide +kernel
theorem dX12_free_167 : decode cX12_free 167 = .ok (.iadd, 1) := by decide +kernel
theorem dX12_free_168 : decode cX12_free 168 = .ok (.iaload, 1) := by decide +kernel
theorem dX12_free_169 : decode cX12_free 169 = .ok (.iastore, 1) := by decide +kernel
theorem dX12_free_170 : decode cX12_free 170 = .ok (.iinc 5 1, 3) := by decide +kernel
theorem dX12_free_173 : decode cX12_free 173 = .ok (.goto (-48), 3) := by decide +kernel
theorem dX12_free_176 : decode cX12_free 176 = .ok (.iconst 0, 1) := by decide +kernel
theorem dX12_free_177 : decode cX12_free 177 = .ok (.istore 5, 2) := by decide +kernel
theorem dX12_free_179 : decode cX12_free 179 = .ok (.iload 5, 2) := by decide +kernel
theorem dX12_free_181 : decode cX12_free 181 = .ok (.aload_n 0, 1) := by decide +kernel
theorem dX12_free_182 : decode cX12_free 182 = .ok (.getfield 7, 3) := by decide +kernel
theorem dX12_free_185 : decode cX12_free 185 = .ok (.iconst 0, 1) := by decide +kernel
theorem dX12_free_186 : decode cX12_free 186 = .ok (.iaload, 1) := by decide +kernel
theorem dX12_free_187 : decode cX12_free 187 = .ok (.if_icmp .ge 41, 3) := by decide +kernel
theorem dX12_free_190 : decode cX12_free 190 = .ok (.iload 4, 2) := by decide +kernel
theorem dX12_free_192 : decode cX12_free 192 = .ok (.ifCond .eq 27, 3) := by decide +kernel
theorem dX12_free_195 : decode cX12_free 195 = .ok (.aload_n 0, 1) := by decide +kernel
theorem dX12_free_196 : decode cX12_free 196 = .ok (.sipush 1204, 3) := by decide +kernel
theorem dX12_free_199 : decode cX12_free 199 = .ok (.aload_n 0, 1) := by decide +kernel
theorem dX12_free_200 : decode cX12_free 200 = .ok (.sipush 1204, 3) := by decide +kernel
theorem dX12_free_203 : decode cX12_free 203 = .ok (.iload 5, 2) := by decide +kernel
theorem dX12_free_205 : decode cX12_free 205 = .ok (.invokevirtual 200, 3) := by decide +kernel
theorem dX12_free_208 : decode cX12_free 208 = .ok (.invokevirtual 194, 3) := by decide +kernel
theorem dX12_free_211 : decode cX12_free 211 = .ok (.iload_n 1, 1) := by decide +kernel
theorem dX12_free_212 : decode cX12_free 212 = .ok (.if_icmp .gt 7, 3) := by decide +kernel
theorem dX12_free_215 : decode cX12_free 215 = .ok (.iconst 1, 1) := by decide +kernel
theorem dX12_free_216 : decode cX12_free 216 = .ok (.goto 4, 3) := by decide +kernel
theorem dX12_free_219 : decode cX12_free 219 = .ok (.iconst 0, 1) := by decide +kernel
theorem dX12_free_220 : decode cX12_free 220 = .ok (.istore 4, 2) := by decide +kernel
theorem dX12_free_222 : decode cX12_free 222 = .ok (.iinc 5 1, 3) := by decide +kernel
theorem dX12_free_225 : decode cX12_free 225 = .ok (.goto (-46), 3) := by decide +kernel
theorem dX12_free_228 : decode cX12_free 228 = .ok (.iload 4, 2) := by decide +kernel
theorem dX12_free_230 : decode cX12_free 230 = .ok (.ifCond .eq 7, 3) := by decide +kernel
theorem dX12_free_233 : decode cX12_free 233 = .ok (.iload_n 3, 1) := by decide +kernel
theorem dX12_free_234 : decode cX12_free 234 = .ok (.goto 4, 3) := by decide +kernel
theorem dX12_free_237 : decode cX12_free 237 = .ok (.iload_n 2, 1) := by decide +kernel
theorem dX12_free_238 : decode cX12_free 238 = .ok (.istore_n 2, 1) := by decide +kernel
theorem dX12_free_239 : decode cX12_free 239 = .ok (.iinc 3 1, 3) := by decide +kernel
theorem dX12_free_242 : decode cX12_free 242 = .ok (.goto (-219), 3) := by decide +kernel
theorem dX12_free_245 : decode cX12_free 245 = .ok (.iload_n 2, 1) := by decide +kernel
theorem dX12_free_246 : decode cX12_free 246 = .ok (.ireturn, 1) := by decide +kernel
set_option maxRecDepth 20000 in
theorem ggX12_caughtBy_X12_isOver : GoodIn wsX12_caughtBy wsX12_isOver := goodIn_r _ [6, 1, 11, 12, 13, 14, 15, 16, 17, 18, 19, 20, 21, 22, 23, 24, 25, 26, 27, 28, 29, 30, 31, 32] (by decide +kernel) (by decide +kernel)
set_option maxRecDepth 20000 in
theorem gX12_caughtBy_X12_isOver : GoodIn wsX12_caughtBy (wsV RX12 142 RX12 yX12_isOver wsX12_isOver) := goodIn_app (goodIn_of _ (by decide +kernel)) ggX12_caughtBy_X12_isOver
set_option maxRecDepth 20000 in
theorem ggX12_caughtBy_X12_onIt : GoodIn wsX12_caughtBy wsX12_onIt := goodIn_r _ [10, 1, 11, 12, 13, 14, 15, 16, 17, 18, 19, 20, 21, 22, 23, 24, 25, 26, 27, 28, 29, 30, 31, 32] (by decide +kernel) (by decide +kernel)
set_option maxRecDepth 20000 in
theorem gX12_caughtBy_X12_onIt : GoodIn wsX12_caughtBy (wsV RX12 145 RX12 yX12_onIt wsX12_onIt) := goodIn_app (goodIn_of _ (by decide +kernel)) ggX12_caughtBy_X12_onIt
theorem dX12_caughtBy_0 : decode cX12_caughtBy 0 = .ok (.iconst 0, 1) := by decide +kernel
theorem dX12_caughtBy_1 : decode cX12_caughtBy 1 = .ok (.istore_n 2, 1) := by decide +kernel
theorem dX12_caughtBy_2 : decode cX12_caughtBy 2 = .ok (.iconst 0, 1) := by decide +kernel
theorem dX12_caughtBy_3 : decode cX12_caughtBy 3 = .ok (.istore_n 3, 1) := by decide +kernel
theorem dX12_caughtBy_4 : decode cX12_caughtBy 4 = .ok (.iload_n 3, 1) := by decide +kernel
theorem dX12_caughtBy_5 : decode cX12_caughtBy 5 = .ok (.aload_n 0, 1) := by decide +kernel
theorem dX12_caughtBy_6 : decode cX12_caughtBy 6 = .ok (.getfield 7, 3) := by decide +kernel
theorem dX12_caughtBy_9 : decode cX12_caughtBy 9 = .ok (.iconst 0, 1) := by decide +kernel
theorem dX12_caughtBy_10 : decode cX12_caughtBy 10 = .ok (.iaload, 1) := by decide +kernel
theorem dX12_caughtBy_11 : decode cX12_caughtBy 11 = .ok (.if_icmp .ge 39, 3) := by decide +kernel
theorem dX12_caughtBy_14 : decode cX12_caughtBy 14 = .ok (.iload_n 2, 1) := by decide +kernel
theorem dX12_caughtBy_15 : decode cX12_caughtBy 15 = .ok (.aload_n 0, 1) := by decide +kernel
theorem dX12_caughtBy_16 : decode cX12_caughtBy 16 = .ok (.iconst 0, 1) := by decide +kernel
theorem dX12_caughtBy_17 : decode cX12_caughtBy 17 = .ok (.iload_n 1, 1) := by decide +kernel
theorem dX12_caughtBy_18 : decode cX12_caughtBy 18 = .ok (.iload_n 3, 1) := by decide +kernel
theorem dX12_caughtBy_19 : decode cX12_caughtBy 19 = .ok (.invokevirtual 142, 3) := by decide +kernel
theorem dX12_caughtBy_22 : decode cX12_caughtBy 22 = .ok (.ifCond .ne 19, 3) := by decide +kernel
theorem dX12_caughtBy_25 : decode cX12_caughtBy 25 = .ok (.aload_n 0, 1) := by decide +kernel
theorem dX12_caughtBy_26 : decode cX12_caughtBy 26 = .ok (.iconst 0, 1) := by decide +kernel
theorem dX12_caughtBy_27 : decode cX12_caughtBy 27 = .ok (.iload_n 3, 1) := by decide +kernel
theorem dX12_caughtBy_28 : decode cX12_caughtBy 28 = .ok (.invokevirtual 145, 3) := by decide +kernel
theorem dX12_caughtBy_31 : decode cX12_caughtBy 31 = .ok (.iconst 2, 1) := by decide +kernel
theorem dX12_caughtBy_32 : decode cX12_caughtBy 32 = .ok (.if_icmp .ge 9, 3) := by decide +kernel
theorem dX12_caughtBy_35 : decode cX12_caughtBy 35 = .ok (.iconst 1, 1) := by decide +kernel
theorem dX12_caughtBy_36 : decode cX12_caughtBy 36 = .ok (.iload_n 3, 1) := by decide +kernel
theorem dX12_caughtBy_37 : decode cX12_caughtBy 37 = .ok (.ishl, 1) := by decide +kernel
theorem dX12_caughtBy_38 : decode cX12_caughtBy 38 = .ok (.goto 4, 3) := by decide +kernel
theorem dX12_caughtBy_41 : decode cX12_caughtBy 41 = .ok (.iconst 0, 1) := by decide +kernel
theorem dX12_caughtBy_42 : decode cX12_caughtBy 42 = .ok (.ior, 1) := by decide +kernel
theorem dX12_caughtBy_43 : decode cX12_caughtBy 43 = .ok (.istore_n 2, 1) := by decide +kernel
theorem dX12_caughtBy_44 : decode cX12_caughtBy 44 = .ok (.iinc 3 1, 3) := by decide +kernel
theorem dX12_caughtBy_47 : decode cX12_caughtBy 47 = .ok (.goto (-43), 3) := by decide +kernel
theorem dX12_caughtBy_50 : decode cX12_caughtBy 50 = .ok (.iload_n 2, 1) := by decide +kernel
theorem dX12_caughtBy_51 : decode cX12_caughtBy 51 = .ok (.ireturn, 1) := by decide +kernel
set_option maxRecDepth 20000 in
theorem ggX12_caught_X12_isClerk : GoodIn wsX12_caught wsX12_isClerk := goodIn_r _ [6, 1, 7, 8, 5, 9, 31, 32, 33, 34, 35, 36, 37, 38, 39, 40, 41, 42, 43, 44, 45, 46, 47, 48, 49, 50, 51, 52] (by decide +kernel) (by decide +kernel)
set_option maxRecDepth 20000 in
theorem gX12_caught_X12_isClerk : GoodIn wsX12_caught (wsV RX12 206 RX12 yX12_isClerk wsX12_isClerk) := goodIn_app (goodIn_of _ (by decide +kernel)) ggX12_caught_X12_isClerk
set_option maxRecDepth 20000 in
theorem ggX12_caught_X12_bad : GoodIn wsX12_caught wsX12_bad := goodIn_r _ [13, 14, 31, 32, 33, 34, 35, 36, 37, 38, 39, 40, 41, 42, 43, 44, 45, 46, 47, 48, 49, 50, 51, 52] (by decide +kernel) (by decide +kernel)
set_option maxRecDepth 20000 in
theorem gX12_caught_X12_bad : GoodIn wsX12_caught (wsV RX12 88 RX12 yX12_bad wsX12_bad) := goodIn_app (goodIn_of _ (by decide +kernel)) ggX12_caught_X12_bad
set_option maxRecDepth 20000 in
theorem ggX12_caught_X12_no : GoodIn wsX12_caught wsX12_no := goodIn_r _ [18, 14, 31, 32, 33, 34, 35, 36, 37, 38, 39, 40, 41, 42, 43, 44, 45, 46, 47, 48, 49, 50, 51, 52] (by decide +kernel) (by decide +kernel)
set_option maxRecDepth 20000 in
theorem gX12_caught_X12_no : GoodIn wsX12_caught (wsV RX12 210 RX12 yX12_no wsX12_no) := goodIn_app (goodIn_of _ (by decide +kernel)) ggX12_caught_X12_no
set_option maxRecDepth 20000 in
theorem ggX12_caught_X12_caughtBy : GoodIn wsX12_caught wsX12_caughtBy := goodIn_r _ [22, 1, 23, 24, 25, 5, 26, 27, 28, 29, 30, 31, 32, 33, 34, 35, 36, 37, 38, 39, 40, 41, 42, 43, 44, 45, 46, 47, 48, 49, 50, 51, 52] (by decide +kernel) (by decide +kernel)
set_option maxRecDepth 20000 in
theorem gX12_caught_X12_caughtBy : GoodIn wsX12_caught (wsV RX12 263 RX12 yX12_caughtBy wsX12_caughtBy) := goodIn_app (goodIn_of _ (by decide +kernel)) ggX12_caught_X12_caughtBy
theorem dX12_caught_0 : decode cX12_caught 0 = .ok (.aload_n 0, 1) := by decide +kernel
theorem dX12_caught_1 : decode cX12_caught 1 = .ok (.iload_n 1, 1) := by decide +kernel
theorem dX12_caught_2 : decode cX12_caught 2 = .ok (.invokevirtual 206, 3) := by decide +kernel
theorem dX12_caught_5 : decode cX12_caught 5 = .ok (.ifCond .ne 10, 3) := by decide +kernel
theorem dX12_caught_8 : decode cX12_caught 8 = .ok (.aload_n 0, 1) := by decide +kernel
theorem dX12_caught_9 : decode cX12_caught 9 = .ok (.bipush (-2), 2) := by decide +kernel
theorem dX12_caught_11 : decode cX12_caught 11 = .ok (.invokevirtual 88, 3) := by decide +kernel
theorem dX12_caught_14 : decode cX12_caught 14 = .ok (.ireturn, 1) := by decide +kernel
theorem dX12_caught_15 : decode cX12_caught 15 = .ok (.aload_n 0, 1) := by decide +kernel
theorem dX12_caught_16 : decode cX12_caught 16 = .ok (.getfield 7, 3) := by decide +kernel
theorem dX12_caught_19 : decode cX12_caught 19 = .ok (.bipush 31, 2) := by decide +kernel
theorem dX12_caught_21 : decode cX12_caught 21 = .ok (.iload_n 1, 1) := by decide +kernel
theorem dX12_caught_22 : decode cX12_caught 22 = .ok (.iadd, 1) := by decide +kernel
theorem dX12_caught_23 : decode cX12_caught 23 = .ok (.iaload, 1) := by decide +kernel
theorem dX12_caught_24 : decode cX12_caught 24 = .ok (.iconst (-1), 1) := by decide +kernel
theorem dX12_caught_25 : decode cX12_caught 25 = .ok (.if_icmp .eq 10, 3) := by decide +kernel
theorem dX12_caught_28 : decode cX12_caught 28 = .ok (.aload_n 0, 1) := by decide +kernel
theorem dX12_caught_29 : decode cX12_caught 29 = .ok (.invokevirtual 210, 3) := by decide +kernel
theorem dX12_caught_32 : decode cX12_caught 32 = .ok (.goto 8, 3) := by decide +kernel
theorem dX12_caught_35 : decode cX12_caught 35 = .ok (.aload_n 0, 1) := by decide +kernel
theorem dX12_caught_36 : decode cX12_caught 36 = .ok (.iload_n 1, 1) := by decide +kernel
theorem dX12_caught_37 : decode cX12_caught 37 = .ok (.invokevirtual 263, 3) := by decide +kernel
theorem dX12_caught_40 : decode cX12_caught 40 = .ok (.ireturn, 1) := by decide +kernel
set_option maxRecDepth 20000 in
theorem ggX12_told_X12_isClerk : GoodIn wsX12_told wsX12_isClerk := goodIn_r _ [7, 2, 8, 9, 6, 10, 20, 21, 22, 23, 24, 25, 26, 27, 28, 29, 30, 31, 32, 33, 34, 35, 36, 37, 38, 39, 40, 41] (by decide +kernel) (by decide +kernel)
set_option maxRecDepth 20000 in
theorem gX12_told_X12_isClerk : GoodIn wsX12_told (wsV RX12 206 RX12 yX12_isClerk wsX12_isClerk) := goodIn_app (goodIn_of _ (by decide +kernel)) ggX12_told_X12_isClerk
set_option maxRecDepth 20000 in
theorem ggX12_told_X12_in : GoodIn wsX12_told wsX12_in := goodIn_r _ [10] (by decide +kernel) (by decide +kernel)
set_option maxRecDepth 20000 in
theorem gX12_told_X12_in : GoodIn wsX12_told (va_wsS RX12 64 yX12_in wsX12_in) := goodIn_app (goodIn_of _ (by decide +kernel)) ggX12_told_X12_in
set_option maxRecDepth 20000 in
theorem ggX12_told_X12_bad : GoodIn wsX12_told wsX12_bad := goodIn_r _ [14, 15, 20, 21, 22, 23, 24, 25, 26, 27, 28, 29, 30, 31, 32, 33, 34, 35, 36, 37, 38, 39, 40, 41] (by decide +kernel) (by decide +kernel)
set_option maxRecDepth 20000 in
theorem gX12_told_X12_bad : GoodIn wsX12_told (wsV RX12 88 RX12 yX12_bad wsX12_bad) := goodIn_app (goodIn_of _ (by decide +kernel)) ggX12_told_X12_bad
set_option maxRecDepth 20000 in
theorem ggX12_told_X12_full : GoodIn wsX12_told wsX12_full := goodIn_r _ [19, 15, 20, 21, 22, 23, 24, 25, 26, 27, 28, 29, 30, 31, 32, 33, 34, 35, 36, 37, 38, 39, 40, 41] (by decide +kernel) (by decide +kernel)
set_option maxRecDepth 20000 in
theorem gX12_told_X12_full : GoodIn wsX12_told (wsV RX12 92 RX12 yX12_full wsX12_full) := goodIn_app (goodIn_of _ (by decide +kernel)) ggX12_told_X12_full
theorem dX12_told_0 : decode cX12_told 0 = .ok (.aload_n 0, 1) := by decide +kernel
theorem dX12_told_1 : decode cX12_told 1 = .ok (.iload_n 1, 1) := by decide +kernel
theorem dX12_told_2 : decode cX12_told 2 = .ok (.invokevirtual 206, 3) := by decide +kernel
theorem dX12_told_5 : decode cX12_told 5 = .ok (.ifCond .eq 36, 3) := by decide +kernel
theorem dX12_told_8 : decode cX12_told 8 = .ok (.iload_n 2, 1) := by decide +kernel
theorem dX12_told_9 : decode cX12_told 9 = .ok (.i2l, 1) := by decide +kernel
theorem dX12_told_10 : decode cX12_told 10 = .ok (.lconst 1, 1) := by decide +kernel
theorem dX12_told_11 : decode cX12_told 11 = .ok (.ldc2_w 233, 3) := by decide +kernel
theorem dX12_told_14 : decode cX12_told 14 = .ok (.invokestatic 64, 3) := by decide +kernel
theorem dX12_told_17 : decode cX12_told 17 = .ok (.ifCond .eq 24, 3) := by decide +kernel
theorem dX12_told_20 : decode cX12_told 20 = .ok (.aload_n 0, 1) := by decide +kernel
theorem dX12_told_21 : decode cX12_told 21 = .ok (.iload_n 3, 1) := by decide +kernel
theorem dX12_told_22 : decode cX12_told 22 = .ok (.invokevirtual 206, 3) := by decide +kernel
theorem dX12_told_25 : decode cX12_told 25 = .ok (.ifCond .eq 16, 3) := by decide +kernel
theorem dX12_told_28 : decode cX12_told 28 = .ok (.iload 4, 2) := by decide +kernel
theorem dX12_told_30 : decode cX12_told 30 = .ok (.i2l, 1) := by decide +kernel
theorem dX12_told_31 : decode cX12_told 31 = .ok (.lconst 0, 1) := by decide +kernel
theorem dX12_told_32 : decode cX12_told 32 = .ok (.ldc2_w 233, 3) := by decide +kernel
theorem dX12_told_35 : decode cX12_told 35 = .ok (.invokestatic 64, 3) := by decide +kernel
theorem dX12_told_38 : decode cX12_told 38 = .ok (.ifCond .ne 10, 3) := by decide +kernel
theorem dX12_told_41 : decode cX12_told 41 = .ok (.aload_n 0, 1) := by decide +kernel
theorem dX12_told_42 : decode cX12_told 42 = .ok (.bipush (-2), 2) := by decide +kernel
theorem dX12_told_44 : decode cX12_told 44 = .ok (.invokevirtual 88, 3) := by decide +kernel
theorem dX12_told_47 : decode cX12_told 47 = .ok (.ireturn, 1) := by decide +kernel
theorem dX12_told_48 : decode cX12_told 48 = .ok (.aload_n 0, 1) := by decide +kernel
theorem dX12_told_49 : decode cX12_told 49 = .ok (.getfield 7, 3) := by decide +kernel
theorem dX12_told_52 : decode cX12_told 52 = .ok (.bipush 47, 2) := by decide +kernel
theorem dX12_told_54 : decode cX12_told 54 = .ok (.iaload, 1) := by decide +kernel
theorem dX12_told_55 : decode cX12_told 55 = .ok (.iconst 5, 1) := by decide +kernel
theorem dX12_told_56 : decode cX12_told 56 = .ok (.if_icmp .ne 8, 3) := by decide +kernel
theorem dX12_told_59 : decode cX12_told 59 = .ok (.aload_n 0, 1) := by decide +kernel
theorem dX12_told_60 : decode cX12_told 60 = .ok (.invokevirtual 92, 3) := by decide +kernel
theorem dX12_told_63 : decode cX12_told 63 = .ok (.ireturn, 1) := by decide +kernel
theorem dX12_told_64 : decode cX12_told 64 = .ok (.bipush 48, 2) := by decide +kernel
theorem dX12_told_66 : decode cX12_told 66 = .ok (.iconst 4, 1) := by decide +kernel
theorem dX12_told_67 : decode cX12_told 67 = .ok (.aload_n 0, 1) := by decide +kernel
theorem dX12_told_68 : decode cX12_told 68 = .ok (.getfield 7, 3) := by decide +kernel
theorem dX12_told_71 : decode cX12_told 71 = .ok (.bipush 47, 2) := by decide +kernel
theorem dX12_told_73 : decode cX12_told 73 = .ok (.iaload, 1) := by decide +kernel
theorem dX12_told_74 : decode cX12_told 74 = .ok (.imul, 1) := by decide +kernel
theorem dX12_told_75 : decode cX12_told 75 = .ok (.iadd, 1) := by decide +kernel
theorem dX12_told_76 : decode cX12_told 76 = .ok (.istore 5, 2) := by decide +kernel
theorem dX12_told_78 : decode cX12_told 78 = .ok (.aload_n 0, 1) := by decide +kernel
theorem dX12_told_79 : decode cX12_told 79 = .ok (.getfield 7, 3) := by decide +kernel
theorem dX12_told_82 : decode cX12_told 82 = .ok (.iload 5, 2) := by decide +kernel
theorem dX12_told_84 : decode cX12_told 84 = .ok (.iload_n 1, 1) := by decide +kernel
theorem dX12_told_85 : decode cX12_told 85 = .ok (.iastore, 1) := by decide +kernel
theorem dX12_told_86 : decode cX12_told 86 = .ok (.aload_n 0, 1) := by decide +kernel
theorem dX12_told_87 : decode cX12_told 87 = .ok (.getfield 7, 3) := by decide +kernel
theorem dX12_told_90 : decode cX12_told 90 = .ok (.iload 5, 2) := by decide +kernel
theorem dX12_told_92 : decode cX12_told 92 = .ok (.iconst 1, 1) := by decide +kernel
theorem dX12_told_93 : decode cX12_told 93 = .ok (.iadd, 1) := by decide +kernel
theorem dX12_told_94 : decode cX12_told 94 = .ok (.iload_n 2, 1) := by decide +kernel
theorem dX12_told_95 : decode cX12_told 95 = .ok (.iastore, 1) := by decide +kernel
theorem dX12_told_96 : decode cX12_told 96 = .ok (.aload_n 0, 1) := by decide +kernel
theorem dX12_told_97 : decode cX12_told 97 = .ok (.getfield 7, 3) := by decide +kernel
theorem dX12_told_100 : decode cX12_told 100 = .ok (.iload 5, 2) := by decide +kernel
theorem dX12_told_102 : decode cX12_told 102 = .ok (.iconst 2, 1) := by decide +kernel
theorem dX12_told_103 : decode cX12_told 103 = .ok (.iadd, 1) := by decide +kernel
theorem dX12_told_104 : decode cX12_told 104 = .ok (.iload_n 3, 1) := by decide +kernel
theorem dX12_told_105 : decode cX12_told 105 = .ok (.iastore, 1) := by decide +kernel
theorem dX12_told_106 : decode cX12_told 106 = .ok (.aload_n 0, 1) := by decide +kernel
theorem dX12_told_107 : decode cX12_told 107 = .ok (.getfield 7, 3) := by decide +kernel
theorem dX12_told_110 : decode cX12_told 110 = .ok (.iload 5, 2) := by decide +kernel
theorem dX12_told_112 : decode cX12_told 112 = .ok (.iconst 3, 1) := by decide +kernel
theorem dX12_told_113 : decode cX12_told 113 = .ok (.iadd, 1) := by decide +kernel
theorem dX12_told_114 : decode cX12_told 114 = .ok (.iload 4, 2) := by decide +kernel
theorem dX12_told_116 : decode cX12_told 116 = .ok (.iastore, 1) := by decide +kernel
theorem dX12_told_117 : decode cX12_told 117 = .ok (.aload_n 0, 1) := by decide +kernel
theorem dX12_told_118 : decode cX12_told 118 = .ok (.getfield 7, 3) := by decide +kernel
theorem dX12_told_121 : decode cX12_told 121 = .ok (.bipush 47, 2) := by decide +kernel
theorem dX12_told_123 : decode cX12_told 123 = .ok (.dup2, 1) := by decide +kernel
theorem dX12_told_124 : decode cX12_told 124 = .ok (.iaload, 1) := by decide +kernel
theorem dX12_told_125 : decode cX12_told 125 = .ok (.iconst 1, 1) := by decide +kernel
theorem dX12_told_126 : decode cX12_told 126 = .ok (.iadd, 1) := by decide +kernel
theorem dX12_told_127 : decode cX12_told 127 = .ok (.iastore, 1) := by decide +kernel
theorem dX12_told_128 : decode cX12_told 128 = .ok (.aload_n 0, 1) := by decide +kernel
theorem dX12_told_129 : decode cX12_told 129 = .ok (.getfield 7, 3) := by decide +kernel
theorem dX12_told_132 : decode cX12_told 132 = .ok (.bipush 47, 2) := by decide +kernel
theorem dX12_told_134 : decode cX12_told 134 = .ok (.iaload, 1) := by decide +kernel
theorem dX12_told_135 : decode cX12_told 135 = .ok (.ireturn, 1) := by decide +kernel
set_option maxRecDepth 20000 in
theorem ggX12_areSo_X12_tugs : GoodIn wsX12_areSo wsX12_tugs := goodIn_r _ [7, 2, 8, 9, 1, 10, 11, 6, 12, 13, 14, 15, 16, 17, 18, 19, 20, 21, 22, 23, 24, 25, 26, 27, 28, 29, 30, 31, 32, 33, 34, 35, 36, 37, 38, 39, 40, 41] (by decide +kernel) (by decide +kernel)
set_option maxRecDepth 20000 in
theorem gX12_areSo_X12_tugs : GoodIn wsX12_areSo (wsV RX12 235 RX12 yX12_tugs wsX12_tugs) := goodIn_app (goodIn_of _ (by decide +kernel)) ggX12_areSo_X12_tugs
theorem dX12_areSo_0 : decode cX12_areSo 0 = .ok (.iconst 1, 1) := by decide +kernel
theorem dX12_areSo_1 : decode cX12_areSo 1 = .ok (.istore_n 1, 1) := by decide +kernel
theorem dX12_areSo_2 : decode cX12_areSo 2 = .ok (.iconst 0, 1) := by decide +kernel
theorem dX12_areSo_3 : decode cX12_areSo 3 = .ok (.istore_n 2, 1) := by decide +kernel
theorem dX12_areSo_4 : decode cX12_areSo 4 = .ok (.iload_n 2, 1) := by decide +kernel
theorem dX12_areSo_5 : decode cX12_areSo 5 = .ok (.aload_n 0, 1) := by decide +kernel
theorem dX12_areSo_6 : decode cX12_areSo 6 = .ok (.getfield 7, 3) := by decide +kernel
theorem dX12_areSo_9 : decode cX12_areSo 9 = .ok (.bipush 47, 2) := by decide +kernel
theorem dX12_areSo_11 : decode cX12_areSo 11 = .ok (.iaload, 1) := by decide +kernel
theorem dX12_areSo_12 : decode cX12_areSo 12 = .ok (.if_icmp .ge 71, 3) := by decide +kernel
theorem dX12_areSo_15 : decode cX12_areSo 15 = .ok (.bipush 48, 2) := by decide +kernel
theorem dX12_areSo_17 : decode cX12_areSo 17 = .ok (.iconst 4, 1) := by decide +kernel
theorem dX12_areSo_18 : decode cX12_areSo 18 = .ok (.iload_n 2, 1) := by decide +kernel
theorem dX12_areSo_19 : decode cX12_areSo 19 = .ok (.imul, 1) := by decide +kernel
theorem dX12_areSo_20 : decode cX12_areSo 20 = .ok (.iadd, 1) := by decide +kernel
theorem dX12_areSo_21 : decode cX12_areSo 21 = .ok (.istore_n 3, 1) := by decide +kernel
theorem dX12_areSo_22 : decode cX12_areSo 22 = .ok (.aload_n 0, 1) := by decide +kernel
theorem dX12_areSo_23 : decode cX12_areSo 23 = .ok (.sipush 1204, 3) := by decide +kernel
theorem dX12_areSo_26 : decode cX12_areSo 26 = .ok (.aload_n 0, 1) := by decide +kernel
theorem dX12_areSo_27 : decode cX12_areSo 27 = .ok (.getfield 7, 3) := by decide +kernel
theorem dX12_areSo_30 : decode cX12_areSo 30 = .ok (.iload_n 3, 1) := by decide +kernel
theorem dX12_areSo_31 : decode cX12_areSo 31 = .ok (.iaload, 1) := by decide +kernel
theorem dX12_areSo_32 : decode cX12_areSo 32 = .ok (.aload_n 0, 1) := by decide +kernel
theorem dX12_areSo_33 : decode cX12_areSo 33 = .ok (.getfield 7, 3) := by decide +kernel
theorem dX12_areSo_36 : decode cX12_areSo 36 = .ok (.iload_n 3, 1) := by decide +kernel
theorem dX12_areSo_37 : decode cX12_areSo 37 = .ok (.iconst 1, 1) := by decide +kernel
theorem dX12_areSo_38 : decode cX12_areSo 38 = .ok (.iadd, 1) := by decide +kernel
theorem dX12_areSo_39 : decode cX12_areSo 39 = .ok (.iaload, 1) := by decide +kernel
theorem dX12_areSo_40 : decode cX12_areSo 40 = .ok (.invokevirtual 235, 3) := by decide +kernel
theorem dX12_areSo_43 : decode cX12_areSo 43 = .ok (.iload_n 1, 1) := by decide +kernel
theorem dX12_areSo_44 : decode cX12_areSo 44 = .ok (.ifCond .eq 31, 3) := by decide +kernel
theorem dX12_areSo_47 : decode cX12_areSo 47 = .ok (.aload_n 0, 1) := by decide +kernel
theorem dX12_areSo_48 : decode cX12_areSo 48 = .ok (.getfield 33, 3) := by decide +kernel
theorem dX12_areSo_51 : decode cX12_areSo 51 = .ok (.aload_n 0, 1) := by decide +kernel
theorem dX12_areSo_52 : decode cX12_areSo 52 = .ok (.getfield 7, 3) := by decide +kernel
theorem dX12_areSo_55 : decode cX12_areSo 55 = .ok (.iload_n 3, 1) := by decide +kernel
theorem dX12_areSo_56 : decode cX12_areSo 56 = .ok (.iconst 2, 1) := by decide +kernel
theorem dX12_areSo_57 : decode cX12_areSo 57 = .ok (.iadd, 1) := by decide +kernel
theorem dX12_areSo_58 : decode cX12_areSo 58 = .ok (.iaload, 1) := by decide +kernel
theorem dX12_areSo_59 : decode cX12_areSo 59 = .ok (.iaload, 1) := by decide +kernel
theorem dX12_areSo_60 : decode cX12_areSo 60 = .ok (.aload_n 0, 1) := by decide +kernel
theorem dX12_areSo_61 : decode cX12_areSo 61 = .ok (.getfield 7, 3) := by decide +kernel
theorem dX12_areSo_64 : decode cX12_areSo 64 = .ok (.iload_n 3, 1) := by decide +kernel
theorem dX12_areSo_65 : decode cX12_areSo 65 = .ok (.iconst 3, 1) := by decide +kernel
theorem dX12_areSo_66 : decode cX12_areSo 66 = .ok (.iadd, 1) := by decide +kernel
theorem dX12_areSo_67 : decode cX12_areSo 67 = .ok (.iaload, 1) := by decide +kernel
theorem dX12_areSo_68 : decode cX12_areSo 68 = .ok (.if_icmp .ne 7, 3) := by decide +kernel
theorem dX12_areSo_71 : decode cX12_areSo 71 = .ok (.iconst 1, 1) := by decide +kernel
theorem dX12_areSo_72 : decode cX12_areSo 72 = .ok (.goto 4, 3) := by decide +kernel
theorem dX12_areSo_75 : decode cX12_areSo 75 = .ok (.iconst 0, 1) := by decide +kernel
theorem dX12_areSo_76 : decode cX12_areSo 76 = .ok (.istore_n 1, 1) := by decide +kernel
theorem dX12_areSo_77 : decode cX12_areSo 77 = .ok (.iinc 2 1, 3) := by decide +kernel
theorem dX12_areSo_80 : decode cX12_areSo 80 = .ok (.goto (-76), 3) := by decide +kernel
theorem dX12_areSo_83 : decode cX12_areSo 83 = .ok (.iload_n 1, 1) := by decide +kernel
theorem dX12_areSo_84 : decode cX12_areSo 84 = .ok (.ireturn, 1) := by decide +kernel
set_option maxRecDepth 20000 in
theorem ggX12_found_X12_isClerk : GoodIn wsX12_found wsX12_isClerk := goodIn_r _ [6, 1, 7, 8, 5, 9, 59, 60, 61, 62, 63, 64, 65, 66, 67, 68, 69, 70, 71, 72, 73, 74, 75, 76, 77, 78, 79, 80] (by decide +kernel) (by decide +kernel)
set_option maxRecDepth 20000 in
theorem gX12_found_X12_isClerk : GoodIn wsX12_found (wsV RX12 206 RX12 yX12_isClerk wsX12_isClerk) := goodIn_app (goodIn_of _ (by decide +kernel)) ggX12_found_X12_isClerk
set_option maxRecDepth 20000 in
theorem ggX12_found_X12_bad : GoodIn wsX12_found wsX12_bad := goodIn_r _ [13, 14, 59, 60, 61, 62, 63, 64, 65, 66, 67, 68, 69, 70, 71, 72, 73, 74, 75, 76, 77, 78, 79, 80] (by decide +kernel) (by decide +kernel)
set_option maxRecDepth 20000 in
theorem gX12_found_X12_bad : GoodIn wsX12_found (wsV RX12 88 RX12 yX12_bad wsX12_bad) := goodIn_app (goodIn_of _ (by decide +kernel)) ggX12_found_X12_bad
set_option maxRecDepth 20000 in
theorem ggX12_found_X12_no : GoodIn wsX12_found wsX12_no := goodIn_r _ [18, 14, 59, 60, 61, 62, 63, 64, 65, 66, 67, 68, 69, 70, 71, 72, 73, 74, 75, 76, 77, 78, 79, 80] (by decide +kernel) (by decide +kernel)
set_option maxRecDepth 20000 in
theorem gX12_found_X12_no : GoodIn wsX12_found (wsV RX12 210 RX12 yX12_no wsX12_no) := goodIn_app (goodIn_of _ (by decide +kernel)) ggX12_found_X12_no
set_option maxRecDepth 20000 in
theorem ggX12_found_X12_caughtBy : GoodIn wsX12_found wsX12_caughtBy := goodIn_r _ [22, 1, 23, 24, 25, 5, 26, 27, 28, 29, 30, 59, 60, 61, 62, 63, 64, 65, 66, 67, 68, 69, 70, 71, 72, 73, 74, 75, 76, 77, 78, 79, 80] (by decide +kernel) (by decide +kernel)
set_option maxRecDepth 20000 in
theorem gX12_found_X12_caughtBy : GoodIn wsX12_found (wsV RX12 263 RX12 yX12_caughtBy wsX12_caughtBy) := goodIn_app (goodIn_of _ (by decide +kernel)) ggX12_found_X12_caughtBy
set_option maxRecDepth 20000 in
theorem ggX12_found_X12_has : GoodIn wsX12_found wsX12_has := goodIn_r _ [33] (by decide +kernel) (by decide +kernel)
set_option maxRecDepth 20000 in
theorem gX12_found_X12_has : GoodIn wsX12_found (va_wsS RX12 184 yX12_has wsX12_has) := goodIn_app (goodIn_of _ (by decide +kernel)) ggX12_found_X12_has
set_option maxRecDepth 20000 in
theorem ggX12_found_X12_tries : GoodIn wsX12_found wsX12_tries := goodIn_r _ [37, 1, 59, 60, 61, 62, 63, 64, 65, 66, 67, 68, 69, 70, 71, 72, 73, 74, 75, 76, 77, 78, 79, 80] (by decide +kernel) (by decide +kernel)
set_option maxRecDepth 20000 in
theorem gX12_found_X12_tries : GoodIn wsX12_found (wsV RX12 253 RX12 yX12_tries wsX12_tries) := goodIn_app (goodIn_of _ (by decide +kernel)) ggX12_found_X12_tries
set_option maxRecDepth 20000 in
theorem ggX12_found_X12_areSo : GoodIn wsX12_found wsX12_areSo := goodIn_r _ [41, 1, 42, 43, 44, 45, 5, 46, 47, 48, 49, 50, 51, 52, 53, 54, 55, 56, 57, 58, 59, 60, 61, 62, 63, 64, 65, 66, 67, 68, 69, 70, 71, 72, 73, 74, 75, 76, 77, 78, 79, 80] (by decide +kernel) (by decide +kernel)
set_option maxRecDepth 20000 in
theorem gX12_found_X12_areSo : GoodIn wsX12_found (wsV RX12 266 RX12 yX12_areSo wsX12_areSo) := goodIn_app (goodIn_of _ (by decide +kernel)) ggX12_found_X12_areSo
theorem dX12_found_0 : decode cX12_found 0 = .ok (.aload_n 0, 1) := by decide +kernel
theorem dX12_found_1 : decode cX12_found 1 = .ok (.iload_n 1, 1) := by decide +kernel
theorem dX12_found_2 : decode cX12_found 2 = .ok (.invokevirtual 206, 3) := by decide +kernel
theorem dX12_found_5 : decode cX12_found 5 = .ok (.ifCond .ne 10, 3) := by decide +kernel
theorem dX12_found_8 : decode cX12_found 8 = .ok (.aload_n 0, 1) := by decide +kernel
theorem dX12_found_9 : decode cX12_found 9 = .ok (.bipush (-2), 2) := by decide +kernel
theorem dX12_found_11 : decode cX12_found 11 = .ok (.invokevirtual 88, 3) := by decide +kernel
theorem dX12_found_14 : decode cX12_found 14 = .ok (.ireturn, 1) := by decide +kernel
theorem dX12_found_15 : decode cX12_found 15 = .ok (.aload_n 0, 1) := by decide +kernel
theorem dX12_found_16 : decode cX12_found 16 = .ok (.getfield 7, 3) := by decide +kernel
theorem dX12_found_19 : decode cX12_found 19 = .ok (.bipush 31, 2) := by decide +kernel
theorem dX12_found_21 : decode cX12_found 21 = .ok (.iload_n 1, 1) := by decide +kernel
theorem dX12_found_22 : decode cX12_found 22 = .ok (.iadd, 1) := by decide +kernel
theorem dX12_found_23 : decode cX12_found 23 = .ok (.iaload, 1) := by decide +kernel
theorem dX12_found_24 : decode cX12_found 24 = .ok (.iconst (-1), 1) := by decide +kernel
theorem dX12_found_25 : decode cX12_found 25 = .ok (.if_icmp .eq 8, 3) := by decide +kernel
theorem dX12_found_28 : decode cX12_found 28 = .ok (.aload_n 0, 1) := by decide +kernel
theorem dX12_found_29 : decode cX12_found 29 = .ok (.invokevirtual 210, 3) := by decide +kernel
theorem dX12_found_32 : decode cX12_found 32 = .ok (.ireturn, 1) := by decide +kernel
theorem dX12_found_33 : decode cX12_found 33 = .ok (.aload_n 0, 1) := by decide +kernel
theorem dX12_found_34 : decode cX12_found 34 = .ok (.iload_n 1, 1) := by decide +kernel
theorem dX12_found_35 : decode cX12_found 35 = .ok (.invokevirtual 263, 3) := by decide +kernel
theorem dX12_found_38 : decode cX12_found 38 = .ok (.istore_n 2, 1) := by decide +kernel
theorem dX12_found_39 : decode cX12_found 39 = .ok (.iconst 0, 1) := by decide +kernel
theorem dX12_found_40 : decode cX12_found 40 = .ok (.istore_n 3, 1) := by decide +kernel
theorem dX12_found_41 : decode cX12_found 41 = .ok (.iconst 0, 1) := by decide +kernel
theorem dX12_found_42 : decode cX12_found 42 = .ok (.istore 4, 2) := by decide +kernel
theorem dX12_found_44 : decode cX12_found 44 = .ok (.iload 4, 2) := by decide +kernel
theorem dX12_found_46 : decode cX12_found 46 = .ok (.aload_n 0, 1) := by decide +kernel
theorem dX12_found_47 : decode cX12_found 47 = .ok (.getfield 7, 3) := by decide +kernel
theorem dX12_found_50 : decode cX12_found 50 = .ok (.iconst 0, 1) := by decide +kernel
theorem dX12_found_51 : decode cX12_found 51 = .ok (.iaload, 1) := by decide +kernel
theorem dX12_found_52 : decode cX12_found 52 = .ok (.if_icmp .ge 52, 3) := by decide +kernel
theorem dX12_found_55 : decode cX12_found 55 = .ok (.iload_n 2, 1) := by decide +kernel
theorem dX12_found_56 : decode cX12_found 56 = .ok (.iload 4, 2) := by decide +kernel
theorem dX12_found_58 : decode cX12_found 58 = .ok (.invokestatic 184, 3) := by decide +kernel
theorem dX12_found_61 : decode cX12_found 61 = .ok (.ifCond .eq 37, 3) := by decide +kernel
theorem dX12_found_64 : decode cX12_found 64 = .ok (.aload_n 0, 1) := by decide +kernel
theorem dX12_found_65 : decode cX12_found 65 = .ok (.invokevirtual 253, 3) := by decide +kernel
theorem dX12_found_68 : decode cX12_found 68 = .ok (.aload_n 0, 1) := by decide +kernel
theorem dX12_found_69 : decode cX12_found 69 = .ok (.getfield 7, 3) := by decide +kernel
theorem dX12_found_72 : decode cX12_found 72 = .ok (.sipush 1235, 3) := by decide +kernel
theorem dX12_found_75 : decode cX12_found 75 = .ok (.iload_n 1, 1) := by decide +kernel
theorem dX12_found_76 : decode cX12_found 76 = .ok (.iadd, 1) := by decide +kernel
theorem dX12_found_77 : decode cX12_found 77 = .ok (.iload 4, 2) := by decide +kernel
theorem dX12_found_79 : decode cX12_found 79 = .ok (.iastore, 1) := by decide +kernel
theorem dX12_found_80 : decode cX12_found 80 = .ok (.iload_n 3, 1) := by decide +kernel
theorem dX12_found_81 : decode cX12_found 81 = .ok (.aload_n 0, 1) := by decide +kernel
theorem dX12_found_82 : decode cX12_found 82 = .ok (.invokevirtual 266, 3) := by decide +kernel
theorem dX12_found_85 : decode cX12_found 85 = .ok (.ifCond .eq 10, 3) := by decide +kernel
theorem dX12_found_88 : decode cX12_found 88 = .ok (.iconst 1, 1) := by decide +kernel
theorem dX12_found_89 : decode cX12_found 89 = .ok (.iload 4, 2) := by decide +kernel
theorem dX12_found_91 : decode cX12_found 91 = .ok (.ishl, 1) := by decide +kernel
theorem dX12_found_92 : decode cX12_found 92 = .ok (.goto 4, 3) := by decide +kernel
theorem dX12_found_95 : decode cX12_found 95 = .ok (.iconst 0, 1) := by decide +kernel
theorem dX12_found_96 : decode cX12_found 96 = .ok (.ior, 1) := by decide +kernel
theorem dX12_found_97 : decode cX12_found 97 = .ok (.istore_n 3, 1) := by decide +kernel
theorem dX12_found_98 : decode cX12_found 98 = .ok (.iinc 4 1, 3) := by decide +kernel
theorem dX12_found_101 : decode cX12_found 101 = .ok (.goto (-57), 3) := by decide +kernel
theorem dX12_found_104 : decode cX12_found 104 = .ok (.aload_n 0, 1) := by decide +kernel
theorem dX12_found_105 : decode cX12_found 105 = .ok (.invokevirtual 253, 3) := by decide +kernel
theorem dX12_found_108 : decode cX12_found 108 = .ok (.iload_n 3, 1) := by decide +kernel
theorem dX12_found_109 : decode cX12_found 109 = .ok (.aload_n 0, 1) := by decide +kernel
theorem dX12_found_110 : decode cX12_found 110 = .ok (.invokevirtual 266, 3) := by decide +kernel
theorem dX12_found_113 : decode cX12_found 113 = .ok (.ifCond .eq 9, 3) := by decide +kernel
theorem dX12_found_116 : decode cX12_found 116 = .ok (.sipush 128, 3) := by decide +kernel
theorem dX12_found_119 : decode cX12_found 119 = .ok (.goto 4, 3) := by decide +kernel
theorem dX12_found_122 : decode cX12_found 122 = .ok (.iconst 0, 1) := by decide +kernel
theorem dX12_found_123 : decode cX12_found 123 = .ok (.ior, 1) := by decide +kernel
theorem dX12_found_124 : decode cX12_found 124 = .ok (.ireturn, 1) := by decide +kernel
set_option maxRecDepth 20000 in
theorem ggX12_note_X12_isClerk : GoodIn wsX12_note wsX12_isClerk := goodIn_r _ [8, 3, 9, 10, 7, 11, 21, 22, 23, 24, 25, 26, 27, 28, 29, 30, 31, 32, 33, 34, 35, 36, 37, 38, 39, 40, 41, 42] (by decide +kernel) (by decide +kernel)
set_option maxRecDepth 20000 in
theorem gX12_note_X12_isClerk : GoodIn wsX12_note (wsV RX12 206 RX12 yX12_isClerk wsX12_isClerk) := goodIn_app (goodIn_of _ (by decide +kernel)) ggX12_note_X12_isClerk
set_option maxRecDepth 20000 in
theorem ggX12_note_X12_in : GoodIn wsX12_note wsX12_in := goodIn_r _ [11] (by decide +kernel) (by decide +kernel)
set_option maxRecDepth 20000 in
theorem gX12_note_X12_in : GoodIn wsX12_note (va_wsS RX12 64 yX12_in wsX12_in) := goodIn_app (goodIn_of _ (by decide +kernel)) ggX12_note_X12_in
set_option maxRecDepth 20000 in
theorem ggX12_note_X12_bad : GoodIn wsX12_note wsX12_bad := goodIn_r _ [15, 16, 21, 22, 23, 24, 25, 26, 27, 28, 29, 30, 31, 32, 33, 34, 35, 36, 37, 38, 39, 40, 41, 42] (by decide +kernel) (by decide +kernel)
set_option maxRecDepth 20000 in
theorem gX12_note_X12_bad : GoodIn wsX12_note (wsV RX12 88 RX12 yX12_bad wsX12_bad) := goodIn_app (goodIn_of _ (by decide +kernel)) ggX12_note_X12_bad
set_option maxRecDepth 20000 in
theorem ggX12_note_X12_full : GoodIn wsX12_note wsX12_full := goodIn_r _ [20, 16, 21, 22, 23, 24, 25, 26, 27, 28, 29, 30, 31, 32, 33, 34, 35, 36, 37, 38, 39, 40, 41, 42] (by decide +kernel) (by decide +kernel)
set_option maxRecDepth 20000 in
theorem gX12_note_X12_full : GoodIn wsX12_note (wsV RX12 92 RX12 yX12_full wsX12_full) := goodIn_app (goodIn_of _ (by decide +kernel)) ggX12_note_X12_full
theorem dX12_note_0 : decode cX12_note 0 = .ok (.aload_n 0, 1) := by decide +kernel
theorem dX12_note_1 : decode cX12_note 1 = .ok (.iload_n 1, 1) := by decide +kernel
theorem dX12_note_2 : decode cX12_note 2 = .ok (.invokevirtual 206, 3) := by decide +kernel
theorem dX12_note_5 : decode cX12_note 5 = .ok (.ifCond .eq 40, 3) := by decide +kernel
theorem dX12_note_8 : decode cX12_note 8 = .ok (.iload_n 2, 1) := by decide +kernel
theorem dX12_note_9 : decode cX12_note 9 = .ok (.i2l, 1) := by decide +kernel
theorem dX12_note_10 : decode cX12_note 10 = .ok (.lconst 1, 1) := by decide +kernel
theorem dX12_note_11 : decode cX12_note 11 = .ok (.ldc2_w 233, 3) := by decide +kernel
theorem dX12_note_14 : decode cX12_note 14 = .ok (.invokestatic 64, 3) := by decide +kernel
theorem dX12_note_17 : decode cX12_note 17 = .ok (.ifCond .eq 28, 3) := by decide +kernel
theorem dX12_note_20 : decode cX12_note 20 = .ok (.iload_n 3, 1) := by decide +kernel
theorem dX12_note_21 : decode cX12_note 21 = .ok (.i2l, 1) := by decide +kernel
theorem dX12_note_22 : decode cX12_note 22 = .ok (.lconst 0, 1) := by decide +kernel
theorem dX12_note_23 : decode cX12_note 23 = .ok (.ldc2_w 269, 3) := by decide +kernel
theorem dX12_note_26 : decode cX12_note 26 = .ok (.invokestatic 64, 3) := by decide +kernel
theorem dX12_note_29 : decode cX12_note 29 = .ok (.ifCond .eq 16, 3) := by decide +kernel
theorem dX12_note_32 : decode cX12_note 32 = .ok (.iload 4, 2) := by decide +kernel
theorem dX12_note_34 : decode cX12_note 34 = .ok (.i2l, 1) := by decide +kernel
theorem dX12_note_35 : decode cX12_note 35 = .ok (.lconst 0, 1) := by decide +kernel
theorem dX12_note_36 : decode cX12_note 36 = .ok (.ldc2_w 233, 3) := by decide +kernel
theorem dX12_note_39 : decode cX12_note 39 = .ok (.invokestatic 64, 3) := by decide +kernel
theorem dX12_note_42 : decode cX12_note 42 = .ok (.ifCond .ne 10, 3) := by decide +kernel
theorem dX12_note_45 : decode cX12_note 45 = .ok (.aload_n 0, 1) := by decide +kernel
theorem dX12_note_46 : decode cX12_note 46 = .ok (.bipush (-2), 2) := by decide +kernel
theorem dX12_note_48 : decode cX12_note 48 = .ok (.invokevirtual 88, 3) := by decide +kernel
theorem dX12_note_51 : decode cX12_note 51 = .ok (.ireturn, 1) := by decide +kernel
theorem dX12_note_52 : decode cX12_note 52 = .ok (.aload_n 0, 1) := by decide +kernel
theorem dX12_note_53 : decode cX12_note 53 = .ok (.getfield 7, 3) := by decide +kernel
theorem dX12_note_56 : decode cX12_note 56 = .ok (.bipush 68, 2) := by decide +kernel
theorem dX12_note_58 : decode cX12_note 58 = .ok (.iaload, 1) := by decide +kernel
theorem dX12_note_59 : decode cX12_note 59 = .ok (.bipush 6, 2) := by decide +kernel
theorem dX12_note_61 : decode cX12_note 61 = .ok (.if_icmp .ne 8, 3) := by decide +kernel
theorem dX12_note_64 : decode cX12_note 64 = .ok (.aload_n 0, 1) := by decide +kernel
theorem dX12_note_65 : decode cX12_note 65 = .ok (.invokevirtual 92, 3) := by decide +kernel
theorem dX12_note_68 : decode cX12_note 68 = .ok (.ireturn, 1) := by decide +kernel
theorem dX12_note_69 : decode cX12_note 69 = .ok (.bipush 69, 2) := by decide +kernel
theorem dX12_note_71 : decode cX12_note 71 = .ok (.iconst 4, 1) := by decide +kernel
theorem dX12_note_72 : decode cX12_note 72 = .ok (.aload_n 0, 1) := by decide +kernel
theorem dX12_note_73 : decode cX12_note 73 = .ok (.getfield 7, 3) := by decide +kernel
theorem dX12_note_76 : decode cX12_note 76 = .ok (.bipush 68, 2) := by decide +kernel
theorem dX12_note_78 : decode cX12_note 78 = .ok (.iaload, 1) := by decide +kernel
theorem dX12_note_79 : decode cX12_note 79 = .ok (.imul, 1) := by decide +kernel
theorem dX12_note_80 : decode cX12_note 80 = .ok (.iadd, 1) := by decide +kernel
theorem dX12_note_81 : decode cX12_note 81 = .ok (.istore 5, 2) := by decide +kernel
theorem dX12_note_83 : decode cX12_note 83 = .ok (.aload_n 0, 1) := by decide +kernel
theorem dX12_note_84 : decode cX12_note 84 = .ok (.getfield 7, 3) := by decide +kernel
theorem dX12_note_87 : decode cX12_note 87 = .ok (.iload 5, 2) := by decide +kernel
theorem dX12_note_89 : decode cX12_note 89 = .ok (.iload_n 1, 1) := by decide +kernel
theorem dX12_note_90 : decode cX12_note 90 = .ok (.iastore, 1) := by decide +kernel
theorem dX12_note_91 : decode cX12_note 91 = .ok (.aload_n 0, 1) := by decide +kernel
theorem dX12_note_92 : decode cX12_note 92 = .ok (.getfield 7, 3) := by decide +kernel
theorem dX12_note_95 : decode cX12_note 95 = .ok (.iload 5, 2) := by decide +kernel
theorem dX12_note_97 : decode cX12_note 97 = .ok (.iconst 1, 1) := by decide +kernel
theorem dX12_note_98 : decode cX12_note 98 = .ok (.iadd, 1) := by decide +kernel
theorem dX12_note_99 : decode cX12_note 99 = .ok (.iload_n 2, 1) := by decide +kernel
theorem dX12_note_100 : decode cX12_note 100 = .ok (.iastore, 1) := by decide +kernel
theorem dX12_note_101 : decode cX12_note 101 = .ok (.aload_n 0, 1) := by decide +kernel
theorem dX12_note_102 : decode cX12_note 102 = .ok (.getfield 7, 3) := by decide +kernel
theorem dX12_note_105 : decode cX12_note 105 = .ok (.iload 5, 2) := by decide +kernel
theorem dX12_note_107 : decode cX12_note 107 = .ok (.iconst 2, 1) := by decide +kernel
theorem dX12_note_108 : decode cX12_note 108 = .ok (.iadd, 1) := by decide +kernel
theorem dX12_note_109 : decode cX12_note 109 = .ok (.iload_n 3, 1) := by decide +kernel
theorem dX12_note_110 : decode cX12_note 110 = .ok (.iastore, 1) := by decide +kernel
theorem dX12_note_111 : decode cX12_note 111 = .ok (.aload_n 0, 1) := by decide +kernel
theorem dX12_note_112 : decode cX12_note 112 = .ok (.getfield 7, 3) := by decide +kernel
theorem dX12_note_115 : decode cX12_note 115 = .ok (.iload 5, 2) := by decide +kernel
theorem dX12_note_117 : decode cX12_note 117 = .ok (.iconst 3, 1) := by decide +kernel
theorem dX12_note_118 : decode cX12_note 118 = .ok (.iadd, 1) := by decide +kernel
theorem dX12_note_119 : decode cX12_note 119 = .ok (.iload 4, 2) := by decide +kernel
theorem dX12_note_121 : decode cX12_note 121 = .ok (.iastore, 1) := by decide +kernel
theorem dX12_note_122 : decode cX12_note 122 = .ok (.aload_n 0, 1) := by decide +kernel
theorem dX12_note_123 : decode cX12_note 123 = .ok (.getfield 7, 3) := by decide +kernel
theorem dX12_note_126 : decode cX12_note 126 = .ok (.bipush 68, 2) := by decide +kernel
theorem dX12_note_128 : decode cX12_note 128 = .ok (.dup2, 1) := by decide +kernel
theorem dX12_note_129 : decode cX12_note 129 = .ok (.iaload, 1) := by decide +kernel
theorem dX12_note_130 : decode cX12_note 130 = .ok (.iconst 1, 1) := by decide +kernel
theorem dX12_note_131 : decode cX12_note 131 = .ok (.iadd, 1) := by decide +kernel
theorem dX12_note_132 : decode cX12_note 132 = .ok (.iastore, 1) := by decide +kernel
theorem dX12_note_133 : decode cX12_note 133 = .ok (.aload_n 0, 1) := by decide +kernel
theorem dX12_note_134 : decode cX12_note 134 = .ok (.getfield 7, 3) := by decide +kernel
theorem dX12_note_137 : decode cX12_note 137 = .ok (.bipush 68, 2) := by decide +kernel
theorem dX12_note_139 : decode cX12_note 139 = .ok (.iaload, 1) := by decide +kernel
theorem dX12_note_140 : decode cX12_note 140 = .ok (.ireturn, 1) := by decide +kernel
set_option maxRecDepth 20000 in
theorem ggX12_mark_X12_isMagnet : GoodIn wsX12_mark wsX12_isMagnet := goodIn_r _ [11, 6, 12, 13, 10, 14, 24, 25, 26, 27, 28, 29, 30, 31, 32, 33, 34, 35, 36, 37, 38, 39, 40, 41, 42, 43, 44, 45] (by decide +kernel) (by decide +kernel)
set_option maxRecDepth 20000 in
theorem gX12_mark_X12_isMagnet : GoodIn wsX12_mark (wsV RX12 271 RX12 yX12_isMagnet wsX12_isMagnet) := goodIn_app (goodIn_of _ (by decide +kernel)) ggX12_mark_X12_isMagnet
set_option maxRecDepth 20000 in
theorem ggX12_mark_X12_in : GoodIn wsX12_mark wsX12_in := goodIn_r _ [14] (by decide +kernel) (by decide +kernel)
set_option maxRecDepth 20000 in
theorem gX12_mark_X12_in : GoodIn wsX12_mark (va_wsS RX12 64 yX12_in wsX12_in) := goodIn_app (goodIn_of _ (by decide +kernel)) ggX12_mark_X12_in
set_option maxRecDepth 20000 in
theorem ggX12_mark_X12_bad : GoodIn wsX12_mark wsX12_bad := goodIn_r _ [18, 19, 24, 25, 26, 27, 28, 29, 30, 31, 32, 33, 34, 35, 36, 37, 38, 39, 40, 41, 42, 43, 44, 45] (by decide +kernel) (by decide +kernel)
set_option maxRecDepth 20000 in
theorem gX12_mark_X12_bad : GoodIn wsX12_mark (wsV RX12 88 RX12 yX12_bad wsX12_bad) := goodIn_app (goodIn_of _ (by decide +kernel)) ggX12_mark_X12_bad
set_option maxRecDepth 20000 in
theorem ggX12_mark_X12_full : GoodIn wsX12_mark wsX12_full := goodIn_r _ [23, 19, 24, 25, 26, 27, 28, 29, 30, 31, 32, 33, 34, 35, 36, 37, 38, 39, 40, 41, 42, 43, 44, 45] (by decide +kernel) (by decide +kernel)
set_option maxRecDepth 20000 in
theorem gX12_mark_X12_full : GoodIn wsX12_mark (wsV RX12 92 RX12 yX12_full wsX12_full) := goodIn_app (goodIn_of _ (by decide +kernel)) ggX12_mark_X12_full
theorem dX12_mark_0 : decode cX12_mark 0 = .ok (.aload_n 0, 1) := by decide +kernel
theorem dX12_mark_1 : decode cX12_mark 1 = .ok (.iload_n 1, 1) := by decide +kernel
theorem dX12_mark_2 : decode cX12_mark 2 = .ok (.invokevirtual 271, 3) := by decide +kernel
theorem dX12_mark_5 : decode cX12_mark 5 = .ok (.ifCond .eq 55, 3) := by decide +kernel
theorem dX12_mark_8 : decode cX12_mark 8 = .ok (.iload_n 2, 1) := by decide +kernel
theorem dX12_mark_9 : decode cX12_mark 9 = .ok (.i2l, 1) := by decide +kernel
theorem dX12_mark_10 : decode cX12_mark 10 = .ok (.lconst 1, 1) := by decide +kernel
theorem dX12_mark_11 : decode cX12_mark 11 = .ok (.ldc2_w 86, 3) := by decide +kernel
theorem dX12_mark_14 : decode cX12_mark 14 = .ok (.invokestatic 64, 3) := by decide +kernel
theorem dX12_mark_17 : decode cX12_mark 17 = .ok (.ifCond .eq 43, 3) := by decide +kernel
theorem dX12_mark_20 : decode cX12_mark 20 = .ok (.iload_n 3, 1) := by decide +kernel
theorem dX12_mark_21 : decode cX12_mark 21 = .ok (.i2l, 1) := by decide +kernel
theorem dX12_mark_22 : decode cX12_mark 22 = .ok (.lconst 0, 1) := by decide +kernel
theorem dX12_mark_23 : decode cX12_mark 23 = .ok (.ldc2_w 84, 3) := by decide +kernel
theorem dX12_mark_26 : decode cX12_mark 26 = .ok (.invokestatic 64, 3) := by decide +kernel
theorem dX12_mark_29 : decode cX12_mark 29 = .ok (.ifCond .eq 31, 3) := by decide +kernel
theorem dX12_mark_32 : decode cX12_mark 32 = .ok (.iload 4, 2) := by decide +kernel
theorem dX12_mark_34 : decode cX12_mark 34 = .ok (.i2l, 1) := by decide +kernel
theorem dX12_mark_35 : decode cX12_mark 35 = .ok (.lconst 0, 1) := by decide +kernel
theorem dX12_mark_36 : decode cX12_mark 36 = .ok (.ldc2_w 269, 3) := by decide +kernel
theorem dX12_mark_39 : decode cX12_mark 39 = .ok (.invokestatic 64, 3) := by decide +kernel
theorem dX12_mark_42 : decode cX12_mark 42 = .ok (.ifCond .eq 18, 3) := by decide +kernel
theorem dX12_mark_45 : decode cX12_mark 45 = .ok (.iload 5, 2) := by decide +kernel
theorem dX12_mark_47 : decode cX12_mark 47 = .ok (.i2l, 1) := by decide +kernel
theorem dX12_mark_48 : decode cX12_mark 48 = .ok (.ldc2_w 274, 3) := by decide +kernel
theorem dX12_mark_51 : decode cX12_mark 51 = .ok (.ldc2_w 276, 3) := by decide +kernel
theorem dX12_mark_54 : decode cX12_mark 54 = .ok (.invokestatic 64, 3) := by decide +kernel
theorem dX12_mark_57 : decode cX12_mark 57 = .ok (.ifCond .ne 10, 3) := by decide +kernel
theorem dX12_mark_60 : decode cX12_mark 60 = .ok (.aload_n 0, 1) := by decide +kernel
theorem dX12_mark_61 : decode cX12_mark 61 = .ok (.bipush (-2), 2) := by decide +kernel
theorem dX12_mark_63 : decode cX12_mark 63 = .ok (.invokevirtual 88, 3) := by decide +kernel
theorem dX12_mark_66 : decode cX12_mark 66 = .ok (.ireturn, 1) := by decide +kernel
theorem dX12_mark_67 : decode cX12_mark 67 = .ok (.aload_n 0, 1) := by decide +kernel
theorem dX12_mark_68 : decode cX12_mark 68 = .ok (.getfield 7, 3) := by decide +kernel
theorem dX12_mark_71 : decode cX12_mark 71 = .ok (.bipush 93, 2) := by decide +kernel
theorem dX12_mark_73 : decode cX12_mark 73 = .ok (.iaload, 1) := by decide +kernel
theorem dX12_mark_74 : decode cX12_mark 74 = .ok (.bipush 6, 2) := by decide +kernel
theorem dX12_mark_76 : decode cX12_mark 76 = .ok (.if_icmp .ne 8, 3) := by decide +kernel
theorem dX12_mark_79 : decode cX12_mark 79 = .ok (.aload_n 0, 1) := by decide +kernel
theorem dX12_mark_80 : decode cX12_mark 80 = .ok (.invokevirtual 92, 3) := by decide +kernel
theorem dX12_mark_83 : decode cX12_mark 83 = .ok (.ireturn, 1) := by decide +kernel
theorem dX12_mark_84 : decode cX12_mark 84 = .ok (.bipush 94, 2) := by decide +kernel
theorem dX12_mark_86 : decode cX12_mark 86 = .ok (.iconst 5, 1) := by decide +kernel
theorem dX12_mark_87 : decode cX12_mark 87 = .ok (.aload_n 0, 1) := by decide +kernel
theorem dX12_mark_88 : decode cX12_mark 88 = .ok (.getfield 7, 3) := by decide +kernel
theorem dX12_mark_91 : decode cX12_mark 91 = .ok (.bipush 93, 2) := by decide +kernel
theorem dX12_mark_93 : decode cX12_mark 93 = .ok (.iaload, 1) := by decide +kernel
theorem dX12_mark_94 : decode cX12_mark 94 = .ok (.imul, 1) := by decide +kernel
theorem dX12_mark_95 : decode cX12_mark 95 = .ok (.iadd, 1) := by decide +kernel
theorem dX12_mark_96 : decode cX12_mark 96 = .ok (.istore 6, 2) := by decide +kernel
theorem dX12_mark_98 : decode cX12_mark 98 = .ok (.aload_n 0, 1) := by decide +kernel
theorem dX12_mark_99 : decode cX12_mark 99 = .ok (.getfield 7, 3) := by decide +kernel
theorem dX12_mark_102 : decode cX12_mark 102 = .ok (.iload 6, 2) := by decide +kernel
theorem dX12_mark_104 : decode cX12_mark 104 = .ok (.iload_n 1, 1) := by decide +kernel
theorem dX12_mark_105 : decode cX12_mark 105 = .ok (.iastore, 1) := by decide +kernel
theorem dX12_mark_106 : decode cX12_mark 106 = .ok (.aload_n 0, 1) := by decide +kernel
theorem dX12_mark_107 : decode cX12_mark 107 = .ok (.getfield 7, 3) := by decide +kernel
theorem dX12_mark_110 : decode cX12_mark 110 = .ok (.iload 6, 2) := by decide +kernel
theorem dX12_mark_112 : decode cX12_mark 112 = .ok (.iconst 1, 1) := by decide +kernel
theorem dX12_mark_113 : decode cX12_mark 113 = .ok (.iadd, 1) := by decide +kernel
theorem dX12_mark_114 : decode cX12_mark 114 = .ok (.iload_n 2, 1) := by decide +kernel
theorem dX12_mark_115 : decode cX12_mark 115 = .ok (.iastore, 1) := by decide +kernel
theorem dX12_mark_116 : decode cX12_mark 116 = .ok (.aload_n 0, 1) := by decide +kernel
theorem dX12_mark_117 : decode cX12_mark 117 = .ok (.getfield 7, 3) := by decide +kernel
theorem dX12_mark_120 : decode cX12_mark 120 = .ok (.iload 6, 2) := by decide +kernel
theorem dX12_mark_122 : decode cX12_mark 122 = .ok (.iconst 2, 1) := by decide +kernel
theorem dX12_mark_123 : decode cX12_mark 123 = .ok (.iadd, 1) := by decide +kernel
theorem dX12_mark_124 : decode cX12_mark 124 = .ok (.iload_n 3, 1) := by decide +kernel
theorem dX12_mark_125 : decode cX12_mark 125 = .ok (.iastore, 1) := by decide +kernel
theorem dX12_mark_126 : decode cX12_mark 126 = .ok (.aload_n 0, 1) := by decide +kernel
theorem dX12_mark_127 : decode cX12_mark 127 = .ok (.getfield 7, 3) := by decide +kernel
theorem dX12_mark_130 : decode cX12_mark 130 = .ok (.iload 6, 2) := by decide +kernel
theorem dX12_mark_132 : decode cX12_mark 132 = .ok (.iconst 3, 1) := by decide +kernel
theorem dX12_mark_133 : decode cX12_mark 133 = .ok (.iadd, 1) := by decide +kernel
theorem dX12_mark_134 : decode cX12_mark 134 = .ok (.iload 4, 2) := by decide +kernel
theorem dX12_mark_136 : decode cX12_mark 136 = .ok (.iastore, 1) := by decide +kernel
theorem dX12_mark_137 : decode cX12_mark 137 = .ok (.aload_n 0, 1) := by decide +kernel
theorem dX12_mark_138 : decode cX12_mark 138 = .ok (.getfield 7, 3) := by decide +kernel
theorem dX12_mark_141 : decode cX12_mark 141 = .ok (.iload 6, 2) := by decide +kernel
theorem dX12_mark_143 : decode cX12_mark 143 = .ok (.iconst 4, 1) := by decide +kernel
theorem dX12_mark_144 : decode cX12_mark 144 = .ok (.iadd, 1) := by decide +kernel
theorem dX12_mark_145 : decode cX12_mark 145 = .ok (.iload 5, 2) := by decide +kernel
theorem dX12_mark_147 : decode cX12_mark 147 = .ok (.iastore, 1) := by decide +kernel
theorem dX12_mark_148 : decode cX12_mark 148 = .ok (.aload_n 0, 1) := by decide +kernel
theorem dX12_mark_149 : decode cX12_mark 149 = .ok (.getfield 7, 3) := by decide +kernel
theorem dX12_mark_152 : decode cX12_mark 152 = .ok (.bipush 93, 2) := by decide +kernel
theorem dX12_mark_154 : decode cX12_mark 154 = .ok (.dup2, 1) := by decide +kernel
theorem dX12_mark_155 : decode cX12_mark 155 = .ok (.iaload, 1) := by decide +kernel
theorem dX12_mark_156 : decode cX12_mark 156 = .ok (.iconst 1, 1) := by decide +kernel
theorem dX12_mark_157 : decode cX12_mark 157 = .ok (.iadd, 1) := by decide +kernel
theorem dX12_mark_158 : decode cX12_mark 158 = .ok (.iastore, 1) := by decide +kernel
theorem dX12_mark_159 : decode cX12_mark 159 = .ok (.aload_n 0, 1) := by decide +kernel
theorem dX12_mark_160 : decode cX12_mark 160 = .ok (.getfield 7, 3) := by decide +kernel
theorem dX12_mark_163 : decode cX12_mark 163 = .ok (.bipush 93, 2) := by decide +kernel
theorem dX12_mark_165 : decode cX12_mark 165 = .ok (.iaload, 1) := by decide +kernel
theorem dX12_mark_166 : decode cX12_mark 166 = .ok (.ireturn, 1) := by decide +kernel
set_option maxRecDepth 20000 in
theorem ggX12_forget_X12_in : GoodIn wsX12_forget wsX12_in := goodIn_r _ [6] (by decide +kernel) (by decide +kernel)
set_option maxRecDepth 20000 in
theorem gX12_forget_X12_in : GoodIn wsX12_forget (va_wsS RX12 64 yX12_in wsX12_in) := goodIn_app (goodIn_of _ (by decide +kernel)) ggX12_forget_X12_in
set_option maxRecDepth 20000 in
theorem ggX12_forget_X12_bad : GoodIn wsX12_forget wsX12_bad := goodIn_r _ [10, 11, 12, 13, 14, 15, 16, 17, 18, 19, 20, 21, 22, 23, 24, 25, 26, 27, 28, 29, 30, 31, 32, 33] (by decide +kernel) (by decide +kernel)
set_option maxRecDepth 20000 in
theorem gX12_forget_X12_bad : GoodIn wsX12_forget (wsV RX12 88 RX12 yX12_bad wsX12_bad) := goodIn_app (goodIn_of _ (by decide +kernel)) ggX12_forget_X12_bad
theorem dX12_forget_0 : decode cX12_forget 0 = .ok (.iload_n 1, 1) := by decide +kernel
theorem dX12_forget_1 : decode cX12_forget 1 = .ok (.i2l, 1) := by decide +kernel
theorem dX12_forget_2 : decode cX12_forget 2 = .ok (.lconst 0, 1) := by decide +kernel
theorem dX12_forget_3 : decode cX12_forget 3 = .ok (.ldc2_w 136, 3) := by decide +kernel
theorem dX12_forget_6 : decode cX12_forget 6 = .ok (.invokestatic 64, 3) := by decide +kernel
theorem dX12_forget_9 : decode cX12_forget 9 = .ok (.ifCond .ne 10, 3) := by decide +kernel
theorem dX12_forget_12 : decode cX12_forget 12 = .ok (.aload_n 0, 1) := by decide +kernel
theorem dX12_forget_13 : decode cX12_forget 13 = .ok (.bipush (-2), 2) := by decide +kernel
theorem dX12_forget_15 : decode cX12_forget 15 = .ok (.invokevirtual 88, 3) := by decide +kernel
theorem dX12_forget_18 : decode cX12_forget 18 = .ok (.ireturn, 1) := by decide +kernel
theorem dX12_forget_19 : decode cX12_forget 19 = .ok (.iload_n 1, 1) := by decide +kernel
theorem dX12_forget_20 : decode cX12_forget 20 = .ok (.ifCond .ne 8, 3) := by decide +kernel
theorem dX12_forget_23 : decode cX12_forget 23 = .ok (.bipush 47, 2) := by decide +kernel
theorem dX12_forget_25 : decode cX12_forget 25 = .ok (.goto 15, 3) := by decide +kernel
theorem dX12_forget_28 : decode cX12_forget 28 = .ok (.iload_n 1, 1) := by decide +kernel
theorem dX12_forget_29 : decode cX12_forget 29 = .ok (.iconst 1, 1) := by decide +kernel
theorem dX12_forget_30 : decode cX12_forget 30 = .ok (.if_icmp .ne 8, 3) := by decide +kernel
theorem dX12_forget_33 : decode cX12_forget 33 = .ok (.bipush 68, 2) := by decide +kernel
theorem dX12_forget_35 : decode cX12_forget 35 = .ok (.goto 5, 3) := by decide +kernel
theorem dX12_forget_38 : decode cX12_forget 38 = .ok (.bipush 93, 2) := by decide +kernel
theorem dX12_forget_40 : decode cX12_forget 40 = .ok (.istore_n 2, 1) := by decide +kernel
theorem dX12_forget_41 : decode cX12_forget 41 = .ok (.aload_n 0, 1) := by decide +kernel
theorem dX12_forget_42 : decode cX12_forget 42 = .ok (.getfield 7, 3) := by decide +kernel
theorem dX12_forget_45 : decode cX12_forget 45 = .ok (.iload_n 2, 1) := by decide +kernel
theorem dX12_forget_46 : decode cX12_forget 46 = .ok (.iaload, 1) := by decide +kernel
theorem dX12_forget_47 : decode cX12_forget 47 = .ok (.istore_n 3, 1) := by decide +kernel
theorem dX12_forget_48 : decode cX12_forget 48 = .ok (.aload_n 0, 1) := by decide +kernel
theorem dX12_forget_49 : decode cX12_forget 49 = .ok (.getfield 7, 3) := by decide +kernel
theorem dX12_forget_52 : decode cX12_forget 52 = .ok (.iload_n 2, 1) := by decide +kernel
theorem dX12_forget_53 : decode cX12_forget 53 = .ok (.iconst 0, 1) := by decide +kernel
theorem dX12_forget_54 : decode cX12_forget 54 = .ok (.iastore, 1) := by decide +kernel
theorem dX12_forget_55 : decode cX12_forget 55 = .ok (.iload_n 3, 1) := by decide +kernel
theorem dX12_forget_56 : decode cX12_forget 56 = .ok (.ireturn, 1) := by decide +kernel
set_option maxRecDepth 20000 in
theorem ggX12_kindsOf_X12_goesOn : GoodIn wsX12_kindsOf wsX12_goesOn := goodIn_r _ [5, 6, 7, 4, 8] (by decide +kernel) (by decide +kernel)
set_option maxRecDepth 20000 in
theorem gX12_kindsOf_X12_goesOn : GoodIn wsX12_kindsOf (va_wsS RX12 226 yX12_goesOn wsX12_goesOn) := goodIn_app (goodIn_of _ (by decide +kernel)) ggX12_kindsOf_X12_goesOn
theorem dX12_kindsOf_0 : decode cX12_kindsOf 0 = .ok (.iconst 0, 1) := by decide +kernel
theorem dX12_kindsOf_1 : decode cX12_kindsOf 1 = .ok (.istore_n 2, 1) := by decide +kernel
theorem dX12_kindsOf_2 : decode cX12_kindsOf 2 = .ok (.iconst 0, 1) := by decide +kernel
theorem dX12_kindsOf_3 : decode cX12_kindsOf 3 = .ok (.istore_n 3, 1) := by decide +kernel
theorem dX12_kindsOf_4 : decode cX12_kindsOf 4 = .ok (.iload_n 3, 1) := by decide +kernel
theorem dX12_kindsOf_5 : decode cX12_kindsOf 5 = .ok (.bipush 6, 2) := by decide +kernel
theorem dX12_kindsOf_7 : decode cX12_kindsOf 7 = .ok (.if_icmp .ge 114, 3) := by decide +kernel
theorem dX12_kindsOf_10 : decode cX12_kindsOf 10 = .ok (.iconst 1, 1) := by decide +kernel
theorem dX12_kindsOf_11 : decode cX12_kindsOf 11 = .ok (.istore 4, 2) := by decide +kernel
theorem dX12_kindsOf_13 : decode cX12_kindsOf 13 = .ok (.iconst 0, 1) := by decide +kernel
theorem dX12_kindsOf_14 : decode cX12_kindsOf 14 = .ok (.istore 5, 2) := by decide +kernel
theorem dX12_kindsOf_16 : decode cX12_kindsOf 16 = .ok (.iload 5, 2) := by decide +kernel
theorem dX12_kindsOf_18 : decode cX12_kindsOf 18 = .ok (.aload_n 0, 1) := by decide +kernel
theorem dX12_kindsOf_19 : decode cX12_kindsOf 19 = .ok (.getfield 7, 3) := by decide +kernel
theorem dX12_kindsOf_22 : decode cX12_kindsOf 22 = .ok (.bipush 68, 2) := by decide +kernel
theorem dX12_kindsOf_24 : decode cX12_kindsOf 24 = .ok (.iaload, 1) := by decide +kernel
theorem dX12_kindsOf_25 : decode cX12_kindsOf 25 = .ok (.if_icmp .ge 75, 3) := by decide +kernel
theorem dX12_kindsOf_28 : decode cX12_kindsOf 28 = .ok (.bipush 69, 2) := by decide +kernel
theorem dX12_kindsOf_30 : decode cX12_kindsOf 30 = .ok (.iconst 4, 1) := by decide +kernel
theorem dX12_kindsOf_31 : decode cX12_kindsOf 31 = .ok (.iload 5, 2) := by decide +kernel
theorem dX12_kindsOf_33 : decode cX12_kindsOf 33 = .ok (.imul, 1) := by decide +kernel
theorem dX12_kindsOf_34 : decode cX12_kindsOf 34 = .ok (.iadd, 1) := by decide +kernel
theorem dX12_kindsOf_35 : decode cX12_kindsOf 35 = .ok (.istore 6, 2) := by decide +kernel
theorem dX12_kindsOf_37 : decode cX12_kindsOf 37 = .ok (.iload 4, 2) := by decide +kernel
theorem dX12_kindsOf_39 : decode cX12_kindsOf 39 = .ok (.ifCond .eq 52, 3) := by decide +kernel
theorem dX12_kindsOf_42 : decode cX12_kindsOf 42 = .ok (.aload_n 0, 1) := by decide +kernel
theorem dX12_kindsOf_43 : decode cX12_kindsOf 43 = .ok (.getfield 7, 3) := by decide +kernel
theorem dX12_kindsOf_46 : decode cX12_kindsOf 46 = .ok (.iload 6, 2) := by decide +kernel
theorem dX12_kindsOf_48 : decode cX12_kindsOf 48 = .ok (.iaload, 1) := by decide +kernel
theorem dX12_kindsOf_49 : decode cX12_kindsOf 49 = .ok (.iload_n 1, 1) := by decide +kernel
theorem dX12_kindsOf_50 : decode cX12_kindsOf 50 = .ok (.if_icmp .ne 37, 3) := by decide +kernel
theorem dX12_kindsOf_53 : decode cX12_kindsOf 53 = .ok (.iload_n 3, 1) := by decide +kernel
theorem dX12_kindsOf_54 : decode cX12_kindsOf 54 = .ok (.aload_n 0, 1) := by decide +kernel
theorem dX12_kindsOf_55 : decode cX12_kindsOf 55 = .ok (.getfield 7, 3) := by decide +kernel
theorem dX12_kindsOf_58 : decode cX12_kindsOf 58 = .ok (.iload 6, 2) := by decide +kernel
theorem dX12_kindsOf_60 : decode cX12_kindsOf 60 = .ok (.iconst 1, 1) := by decide +kernel
theorem dX12_kindsOf_61 : decode cX12_kindsOf 61 = .ok (.iadd, 1) := by decide +kernel
theorem dX12_kindsOf_62 : decode cX12_kindsOf 62 = .ok (.iaload, 1) := by decide +kernel
theorem dX12_kindsOf_63 : decode cX12_kindsOf 63 = .ok (.aload_n 0, 1) := by decide +kernel
theorem dX12_kindsOf_64 : decode cX12_kindsOf 64 = .ok (.getfield 7, 3) := by decide +kernel
theorem dX12_kindsOf_67 : decode cX12_kindsOf 67 = .ok (.iload 6, 2) := by decide +kernel
theorem dX12_kindsOf_69 : decode cX12_kindsOf 69 = .ok (.iconst 2, 1) := by decide +kernel
theorem dX12_kindsOf_70 : decode cX12_kindsOf 70 = .ok (.iadd, 1) := by decide +kernel
theorem dX12_kindsOf_71 : decode cX12_kindsOf 71 = .ok (.iaload, 1) := by decide +kernel
theorem dX12_kindsOf_72 : decode cX12_kindsOf 72 = .ok (.invokestatic 226, 3) := by decide +kernel
theorem dX12_kindsOf_75 : decode cX12_kindsOf 75 = .ok (.aload_n 0, 1) := by decide +kernel
theorem dX12_kindsOf_76 : decode cX12_kindsOf 76 = .ok (.getfield 7, 3) := by decide +kernel
theorem dX12_kindsOf_79 : decode cX12_kindsOf 79 = .ok (.iload 6, 2) := by decide +kernel
theorem dX12_kindsOf_81 : decode cX12_kindsOf 81 = .ok (.iconst 3, 1) := by decide +kernel
theorem dX12_kindsOf_82 : decode cX12_kindsOf 82 = .ok (.iadd, 1) := by decide +kernel
theorem dX12_kindsOf_83 : decode cX12_kindsOf 83 = .ok (.iaload, 1) := by decide +kernel
theorem dX12_kindsOf_84 : decode cX12_kindsOf 84 = .ok (.if_icmp .ne 7, 3) := by decide +kernel
theorem dX12_kindsOf_87 : decode cX12_kindsOf 87 = .ok (.iconst 1, 1) := by decide +kernel
theorem dX12_kindsOf_88 : decode cX12_kindsOf 88 = .ok (.goto 4, 3) := by decide +kernel
theorem dX12_kindsOf_91 : decode cX12_kindsOf 91 = .ok (.iconst 0, 1) := by decide +kernel
theorem dX12_kindsOf_92 : decode cX12_kindsOf 92 = .ok (.istore 4, 2) := by decide +kernel
theorem dX12_kindsOf_94 : decode cX12_kindsOf 94 = .ok (.iinc 5 1, 3) := by decide +kernel
theorem dX12_kindsOf_97 : decode cX12_kindsOf 97 = .ok (.goto (-81), 3) := by decide +kernel
theorem dX12_kindsOf_100 : decode cX12_kindsOf 100 = .ok (.iload_n 2, 1) := by decide +kernel
theorem dX12_kindsOf_101 : decode cX12_kindsOf 101 = .ok (.iload 4, 2) := by decide +kernel
theorem dX12_kindsOf_103 : decode cX12_kindsOf 103 = .ok (.ifCond .eq 9, 3) := by decide +kernel
theorem dX12_kindsOf_106 : decode cX12_kindsOf 106 = .ok (.iconst 1, 1) := by decide +kernel
theorem dX12_kindsOf_107 : decode cX12_kindsOf 107 = .ok (.iload_n 3, 1) := by decide +kernel
theorem dX12_kindsOf_108 : decode cX12_kindsOf 108 = .ok (.ishl, 1) := by decide +kernel
theorem dX12_kindsOf_109 : decode cX12_kindsOf 109 = .ok (.goto 4, 3) := by decide +kernel
theorem dX12_kindsOf_112 : decode cX12_kindsOf 112 = .ok (.iconst 0, 1) := by decide +kernel
theorem dX12_kindsOf_113 : decode cX12_kindsOf 113 = .ok (.ior, 1) := by decide +kernel
theorem dX12_kindsOf_114 : decode cX12_kindsOf 114 = .ok (.istore_n 2, 1) := by decide +kernel
theorem dX12_kindsOf_115 : decode cX12_kindsOf 115 = .ok (.iinc 3 1, 3) := by decide +kernel
theorem dX12_kindsOf_118 : decode cX12_kindsOf 118 = .ok (.goto (-114), 3) := by decide +kernel
theorem dX12_kindsOf_121 : decode cX12_kindsOf 121 = .ok (.iload_n 2, 1) := by decide +kernel
theorem dX12_kindsOf_122 : decode cX12_kindsOf 122 = .ok (.ireturn, 1) := by decide +kernel
set_option maxRecDepth 20000 in
theorem ggX12_is_X12_isClerk : GoodIn wsX12_is wsX12_isClerk := goodIn_r _ [5, 6, 7, 8, 4, 9, 25, 26, 27, 28, 29, 30, 31, 32, 33, 34, 35, 36, 37, 38, 39, 40, 41, 42, 43, 44, 45, 46] (by decide +kernel) (by decide +kernel)
set_option maxRecDepth 20000 in
theorem gX12_is_X12_isClerk : GoodIn wsX12_is (wsV RX12 206 RX12 yX12_isClerk wsX12_isClerk) := goodIn_app (goodIn_of _ (by decide +kernel)) ggX12_is_X12_isClerk
set_option maxRecDepth 20000 in
theorem ggX12_is_X12_kindsOf : GoodIn wsX12_is wsX12_kindsOf := goodIn_r _ [13, 6, 14, 15, 4, 16, 17, 18, 19, 25, 26, 27, 28, 29, 30, 31, 32, 33, 34, 35, 36, 37, 38, 39, 40, 41, 42, 43, 44, 45, 46] (by decide +kernel) (by decide +kernel)
set_option maxRecDepth 20000 in
theorem gX12_is_X12_kindsOf : GoodIn wsX12_is (wsV RX12 278 RX12 yX12_kindsOf wsX12_kindsOf) := goodIn_app (goodIn_of _ (by decide +kernel)) ggX12_is_X12_kindsOf
set_option maxRecDepth 20000 in
theorem ggX12_is_X12_bad : GoodIn wsX12_is wsX12_bad := goodIn_r _ [23, 24, 25, 26, 27, 28, 29, 30, 31, 32, 33, 34, 35, 36, 37, 38, 39, 40, 41, 42, 43, 44, 45, 46] (by decide +kernel) (by decide +kernel)
set_option maxRecDepth 20000 in
theorem gX12_is_X12_bad : GoodIn wsX12_is (wsV RX12 88 RX12 yX12_bad wsX12_bad) := goodIn_app (goodIn_of _ (by decide +kernel)) ggX12_is_X12_bad
theorem dX12_is_0 : decode cX12_is 0 = .ok (.aload_n 0, 1) := by decide +kernel
theorem dX12_is_1 : decode cX12_is 1 = .ok (.iload_n 1, 1) := by decide +kernel
theorem dX12_is_2 : decode cX12_is 2 = .ok (.invokevirtual 206, 3) := by decide +kernel
theorem dX12_is_5 : decode cX12_is 5 = .ok (.ifCond .eq 11, 3) := by decide +kernel
theorem dX12_is_8 : decode cX12_is 8 = .ok (.aload_n 0, 1) := by decide +kernel
theorem dX12_is_9 : decode cX12_is 9 = .ok (.iload_n 1, 1) := by decide +kernel
theorem dX12_is_10 : decode cX12_is 10 = .ok (.invokevirtual 278, 3) := by decide +kernel
theorem dX12_is_13 : decode cX12_is 13 = .ok (.goto 9, 3) := by decide +kernel
theorem dX12_is_16 : decode cX12_is 16 = .ok (.aload_n 0, 1) := by decide +kernel
theorem dX12_is_17 : decode cX12_is 17 = .ok (.bipush (-2), 2) := by decide +kernel
theorem dX12_is_19 : decode cX12_is 19 = .ok (.invokevirtual 88, 3) := by decide +kernel
theorem dX12_is_22 : decode cX12_is 22 = .ok (.ireturn, 1) := by decide +kernel
set_option maxRecDepth 20000 in
theorem ggX12_greatest_X12_has : GoodIn wsX12_greatest wsX12_has := goodIn_r _ [5] (by decide +kernel) (by decide +kernel)
set_option maxRecDepth 20000 in
theorem gX12_greatest_X12_has : GoodIn wsX12_greatest (va_wsS RX12 184 yX12_has wsX12_has) := goodIn_app (goodIn_of _ (by decide +kernel)) ggX12_greatest_X12_has
theorem dX12_greatest_0 : decode cX12_greatest 0 = .ok (.iconst 0, 1) := by decide +kernel
theorem dX12_greatest_1 : decode cX12_greatest 1 = .ok (.istore_n 2, 1) := by decide +kernel
theorem dX12_greatest_2 : decode cX12_greatest 2 = .ok (.iconst 0, 1) := by decide +kernel
theorem dX12_greatest_3 : decode cX12_greatest 3 = .ok (.istore_n 3, 1) := by decide +kernel
theorem dX12_greatest_4 : decode cX12_greatest 4 = .ok (.iload_n 3, 1) := by decide +kernel
theorem dX12_greatest_5 : decode cX12_greatest 5 = .ok (.bipush 6, 2) := by decide +kernel
theorem dX12_greatest_7 : decode cX12_greatest 7 = .ok (.if_icmp .ge 84, 3) := by decide +kernel
theorem dX12_greatest_10 : decode cX12_greatest 10 = .ok (.iconst 0, 1) := by decide +kernel
theorem dX12_greatest_11 : decode cX12_greatest 11 = .ok (.istore 4, 2) := by decide +kernel
theorem dX12_greatest_13 : decode cX12_greatest 13 = .ok (.iconst 0, 1) := by decide +kernel
theorem dX12_greatest_14 : decode cX12_greatest 14 = .ok (.istore 5, 2) := by decide +kernel
theorem dX12_greatest_16 : decode cX12_greatest 16 = .ok (.iload 5, 2) := by decide +kernel
theorem dX12_greatest_18 : decode cX12_greatest 18 = .ok (.bipush 6, 2) := by decide +kernel
theorem dX12_greatest_20 : decode cX12_greatest 20 = .ok (.if_icmp .ge 52, 3) := by decide +kernel
theorem dX12_greatest_23 : decode cX12_greatest 23 = .ok (.iload 4, 2) := by decide +kernel
theorem dX12_greatest_25 : decode cX12_greatest 25 = .ok (.iload_n 1, 1) := by decide +kernel
theorem dX12_greatest_26 : decode cX12_greatest 26 = .ok (.iload_n 3, 1) := by decide +kernel
theorem dX12_greatest_27 : decode cX12_greatest 27 = .ok (.invokestatic 184, 3) := by decide +kernel
theorem dX12_greatest_30 : decode cX12_greatest 30 = .ok (.ifCond .eq 32, 3) := by decide +kernel
theorem dX12_greatest_33 : decode cX12_greatest 33 = .ok (.iload_n 1, 1) := by decide +kernel
theorem dX12_greatest_34 : decode cX12_greatest 34 = .ok (.iload 5, 2) := by decide +kernel
theorem dX12_greatest_36 : decode cX12_greatest 36 = .ok (.invokestatic 184, 3) := by decide +kernel
theorem dX12_greatest_39 : decode cX12_greatest 39 = .ok (.ifCond .eq 23, 3) := by decide +kernel
theorem dX12_greatest_42 : decode cX12_greatest 42 = .ok (.aload_n 0, 1) := by decide +kernel
theorem dX12_greatest_43 : decode cX12_greatest 43 = .ok (.getfield 57, 3) := by decide +kernel
theorem dX12_greatest_46 : decode cX12_greatest 46 = .ok (.iload_n 3, 1) := by decide +kernel
theorem dX12_greatest_47 : decode cX12_greatest 47 = .ok (.iaload, 1) := by decide +kernel
theorem dX12_greatest_48 : decode cX12_greatest 48 = .ok (.aload_n 0, 1) := by decide +kernel
theorem dX12_greatest_49 : decode cX12_greatest 49 = .ok (.getfield 57, 3) := by decide +kernel
theorem dX12_greatest_52 : decode cX12_greatest 52 = .ok (.iload 5, 2) := by decide +kernel
theorem dX12_greatest_54 : decode cX12_greatest 54 = .ok (.iaload, 1) := by decide +kernel
theorem dX12_greatest_55 : decode cX12_greatest 55 = .ok (.if_icmp .ne 7, 3) := by decide +kernel
theorem dX12_greatest_58 : decode cX12_greatest 58 = .ok (.iconst 1, 1) := by decide +kernel
theorem dX12_greatest_59 : decode cX12_greatest 59 = .ok (.goto 4, 3) := by decide +kernel
theorem dX12_greatest_62 : decode cX12_greatest 62 = .ok (.iconst 0, 1) := by decide +kernel
theorem dX12_greatest_63 : decode cX12_greatest 63 = .ok (.iadd, 1) := by decide +kernel
theorem dX12_greatest_64 : decode cX12_greatest 64 = .ok (.istore 4, 2) := by decide +kernel
theorem dX12_greatest_66 : decode cX12_greatest 66 = .ok (.iinc 5 1, 3) := by decide +kernel
theorem dX12_greatest_69 : decode cX12_greatest 69 = .ok (.goto (-53), 3) := by decide +kernel
theorem dX12_greatest_72 : decode cX12_greatest 72 = .ok (.iload 4, 2) := by decide +kernel
theorem dX12_greatest_74 : decode cX12_greatest 74 = .ok (.iload_n 2, 1) := by decide +kernel
theorem dX12_greatest_75 : decode cX12_greatest 75 = .ok (.if_icmp .le 8, 3) := by decide +kernel
theorem dX12_greatest_78 : decode cX12_greatest 78 = .ok (.iload 4, 2) := by decide +kernel
theorem dX12_greatest_80 : decode cX12_greatest 80 = .ok (.goto 4, 3) := by decide +kernel
theorem dX12_greatest_83 : decode cX12_greatest 83 = .ok (.iload_n 2, 1) := by decide +kernel
theorem dX12_greatest_84 : decode cX12_greatest 84 = .ok (.istore_n 2, 1) := by decide +kernel
theorem dX12_greatest_85 : decode cX12_greatest 85 = .ok (.iinc 3 1, 3) := by decide +kernel
theorem dX12_greatest_88 : decode cX12_greatest 88 = .ok (.goto (-84), 3) := by decide +kernel
theorem dX12_greatest_91 : decode cX12_greatest 91 = .ok (.iload_n 2, 1) := by decide +kernel
theorem dX12_greatest_92 : decode cX12_greatest 92 = .ok (.ireturn, 1) := by decide +kernel
set_option maxRecDepth 20000 in
theorem ggX12_look_X12_isClerk : GoodIn wsX12_look wsX12_isClerk := goodIn_r _ [7, 8, 9, 10, 6, 11, 34, 35, 36, 37, 38, 39, 40, 41, 42, 43, 44, 45, 46, 47, 48, 49, 50, 51, 52, 53, 54, 55] (by decide +kernel) (by decide +kernel)
set_option maxRecDepth 20000 in
theorem gX12_look_X12_isClerk : GoodIn wsX12_look (wsV RX12 206 RX12 yX12_isClerk wsX12_isClerk) := goodIn_app (goodIn_of _ (by decide +kernel)) ggX12_look_X12_isClerk
set_option maxRecDepth 20000 in
theorem ggX12_look_X12_bad : GoodIn wsX12_look wsX12_bad := goodIn_r _ [15, 16, 34, 35, 36, 37, 38, 39, 40, 41, 42, 43, 44, 45, 46, 47, 48, 49, 50, 51, 52, 53, 54, 55] (by decide +kernel) (by decide +kernel)
set_option maxRecDepth 20000 in
theorem gX12_look_X12_bad : GoodIn wsX12_look (wsV RX12 88 RX12 yX12_bad wsX12_bad) := goodIn_app (goodIn_of _ (by decide +kernel)) ggX12_look_X12_bad
set_option maxRecDepth 20000 in
theorem ggX12_look_X12_kindsOf : GoodIn wsX12_look wsX12_kindsOf := goodIn_r _ [20, 8, 21, 22, 6, 23, 24, 25, 26, 34, 35, 36, 37, 38, 39, 40, 41, 42, 43, 44, 45, 46, 47, 48, 49, 50, 51, 52, 53, 54, 55] (by decide +kernel) (by decide +kernel)
set_option maxRecDepth 20000 in
theorem gX12_look_X12_kindsOf : GoodIn wsX12_look (wsV RX12 278 RX12 yX12_kindsOf wsX12_kindsOf) := goodIn_app (goodIn_of _ (by decide +kernel)) ggX12_look_X12_kindsOf
set_option maxRecDepth 20000 in
theorem ggX12_look_X12_goesOn : GoodIn wsX12_look wsX12_goesOn := goodIn_r _ [23, 24, 25, 6, 26] (by decide +kernel) (by decide +kernel)
set_option maxRecDepth 20000 in
theorem gX12_look_X12_goesOn : GoodIn wsX12_look (va_wsS RX12 226 yX12_goesOn wsX12_goesOn) := goodIn_app (goodIn_of _ (by decide +kernel)) ggX12_look_X12_goesOn
set_option maxRecDepth 20000 in
theorem ggX12_look_X12_greatest : GoodIn wsX12_look wsX12_greatest := goodIn_r _ [30, 2, 31, 32, 6, 33, 34, 35, 36, 37, 38, 39, 40, 41, 42, 43, 44, 45, 46, 47, 48, 49, 50, 51, 52, 53, 54, 55] (by decide +kernel) (by decide +kernel)
set_option maxRecDepth 20000 in
theorem gX12_look_X12_greatest : GoodIn wsX12_look (wsV RX12 282 RX12 yX12_greatest wsX12_greatest) := goodIn_app (goodIn_of _ (by decide +kernel)) ggX12_look_X12_greatest
theorem dX12_look_0 : decode cX12_look 0 = .ok (.aload_n 0, 1) := by decide +kernel
theorem dX12_look_1 : decode cX12_look 1 = .ok (.iload_n 1, 1) := by decide +kernel
theorem dX12_look_2 : decode cX12_look 2 = .ok (.invokevirtual 206, 3) := by decide +kernel
theorem dX12_look_5 : decode cX12_look 5 = .ok (.ifCond .ne 10, 3) := by decide +kernel
theorem dX12_look_8 : decode cX12_look 8 = .ok (.aload_n 0, 1) := by decide +kernel
theorem dX12_look_9 : decode cX12_look 9 = .ok (.bipush (-2), 2) := by decide +kernel
theorem dX12_look_11 : decode cX12_look 11 = .ok (.invokevirtual 88, 3) := by decide +kernel
theorem dX12_look_14 : decode cX12_look 14 = .ok (.ireturn, 1) := by decide +kernel
theorem dX12_look_15 : decode cX12_look 15 = .ok (.aload_n 0, 1) := by decide +kernel
theorem dX12_look_16 : decode cX12_look 16 = .ok (.iload_n 1, 1) := by decide +kernel
theorem dX12_look_17 : decode cX12_look 17 = .ok (.invokevirtual 278, 3) := by decide +kernel
theorem dX12_look_20 : decode cX12_look 20 = .ok (.istore_n 2, 1) := by decide +kernel
theorem dX12_look_21 : decode cX12_look 21 = .ok (.iconst (-1), 1) := by decide +kernel
theorem dX12_look_22 : decode cX12_look 22 = .ok (.istore_n 3, 1) := by decide +kernel
theorem dX12_look_23 : decode cX12_look 23 = .ok (.ldc_w 281, 3) := by decide +kernel
theorem dX12_look_26 : decode cX12_look 26 = .ok (.istore 4, 2) := by decide +kernel
theorem dX12_look_28 : decode cX12_look 28 = .ok (.bipush 10, 2) := by decide +kernel
theorem dX12_look_30 : decode cX12_look 30 = .ok (.istore 5, 2) := by decide +kernel
theorem dX12_look_32 : decode cX12_look 32 = .ok (.iload 5, 2) := by decide +kernel
theorem dX12_look_34 : decode cX12_look 34 = .ok (.sipush 210, 3) := by decide +kernel
theorem dX12_look_37 : decode cX12_look 37 = .ok (.if_icmp .ge 88, 3) := by decide +kernel
theorem dX12_look_40 : decode cX12_look 40 = .ok (.iload_n 2, 1) := by decide +kernel
theorem dX12_look_41 : decode cX12_look 41 = .ok (.ifCond .le 84, 3) := by decide +kernel
theorem dX12_look_44 : decode cX12_look 44 = .ok (.iconst 0, 1) := by decide +kernel
theorem dX12_look_45 : decode cX12_look 45 = .ok (.istore 6, 2) := by decide +kernel
theorem dX12_look_47 : decode cX12_look 47 = .ok (.iload 6, 2) := by decide +kernel
theorem dX12_look_49 : decode cX12_look 49 = .ok (.bipush 6, 2) := by decide +kernel
theorem dX12_look_51 : decode cX12_look 51 = .ok (.if_icmp .ge 31, 3) := by decide +kernel
theorem dX12_look_54 : decode cX12_look 54 = .ok (.aload_n 0, 1) := by decide +kernel
theorem dX12_look_55 : decode cX12_look 55 = .ok (.getfield 57, 3) := by decide +kernel
theorem dX12_look_58 : decode cX12_look 58 = .ok (.iload 6, 2) := by decide +kernel
theorem dX12_look_60 : decode cX12_look 60 = .ok (.iload 6, 2) := by decide +kernel
theorem dX12_look_62 : decode cX12_look 62 = .ok (.iload 5, 2) := by decide +kernel
theorem dX12_look_64 : decode cX12_look 64 = .ok (.bipush 10, 2) := by decide +kernel
theorem dX12_look_66 : decode cX12_look 66 = .ok (.idiv, 1) := by decide +kernel
theorem dX12_look_67 : decode cX12_look 67 = .ok (.iload 5, 2) := by decide +kernel
theorem dX12_look_69 : decode cX12_look 69 = .ok (.bipush 10, 2) := by decide +kernel
theorem dX12_look_71 : decode cX12_look 71 = .ok (.irem, 1) := by decide +kernel
theorem dX12_look_72 : decode cX12_look 72 = .ok (.invokestatic 226, 3) := by decide +kernel
theorem dX12_look_75 : decode cX12_look 75 = .ok (.iastore, 1) := by decide +kernel
theorem dX12_look_76 : decode cX12_look 76 = .ok (.iinc 6 1, 3) := by decide +kernel
theorem dX12_look_79 : decode cX12_look 79 = .ok (.goto (-32), 3) := by decide +kernel
theorem dX12_look_82 : decode cX12_look 82 = .ok (.aload_n 0, 1) := by decide +kernel
theorem dX12_look_83 : decode cX12_look 83 = .ok (.iload_n 2, 1) := by decide +kernel
theorem dX12_look_84 : decode cX12_look 84 = .ok (.invokevirtual 282, 3) := by decide +kernel
theorem dX12_look_87 : decode cX12_look 87 = .ok (.istore 6, 2) := by decide +kernel
theorem dX12_look_89 : decode cX12_look 89 = .ok (.iload 6, 2) := by decide +kernel
theorem dX12_look_91 : decode cX12_look 91 = .ok (.iload 4, 2) := by decide +kernel
theorem dX12_look_93 : decode cX12_look 93 = .ok (.if_icmp .ge 8, 3) := by decide +kernel
theorem dX12_look_96 : decode cX12_look 96 = .ok (.iload 5, 2) := by decide +kernel
theorem dX12_look_98 : decode cX12_look 98 = .ok (.goto 4, 3) := by decide +kernel
theorem dX12_look_101 : decode cX12_look 101 = .ok (.iload_n 3, 1) := by decide +kernel
theorem dX12_look_102 : decode cX12_look 102 = .ok (.istore_n 3, 1) := by decide +kernel
theorem dX12_look_103 : decode cX12_look 103 = .ok (.iload 6, 2) := by decide +kernel
theorem dX12_look_105 : decode cX12_look 105 = .ok (.iload 4, 2) := by decide +kernel
theorem dX12_look_107 : decode cX12_look 107 = .ok (.if_icmp .ge 8, 3) := by decide +kernel
theorem dX12_look_110 : decode cX12_look 110 = .ok (.iload 6, 2) := by decide +kernel
theorem dX12_look_112 : decode cX12_look 112 = .ok (.goto 5, 3) := by decide +kernel
theorem dX12_look_115 : decode cX12_look 115 = .ok (.iload 4, 2) := by decide +kernel
theorem dX12_look_117 : decode cX12_look 117 = .ok (.istore 4, 2) := by decide +kernel
theorem dX12_look_119 : decode cX12_look 119 = .ok (.iinc 5 1, 3) := by decide +kernel
theorem dX12_look_122 : decode cX12_look 122 = .ok (.goto (-90), 3) := by decide +kernel
theorem dX12_look_125 : decode cX12_look 125 = .ok (.iload_n 3, 1) := by decide +kernel
theorem dX12_look_126 : decode cX12_look 126 = .ok (.ireturn, 1) := by decide +kernel
set_option maxRecDepth 20000 in
theorem ggX12_magnetsOf_X12_pullOf : GoodIn wsX12_magnetsOf wsX12_pullOf := goodIn_r _ [5, 6, 7, 4, 8, 9, 10, 11] (by decide +kernel) (by decide +kernel)
set_option maxRecDepth 20000 in
theorem gX12_magnetsOf_X12_pullOf : GoodIn wsX12_magnetsOf (va_wsS RX12 187 yX12_pullOf wsX12_pullOf) := goodIn_app (goodIn_of _ (by decide +kernel)) ggX12_magnetsOf_X12_pullOf
theorem dX12_magnetsOf_0 : decode cX12_magnetsOf 0 = .ok (.iconst 0, 1) := by decide +kernel
theorem dX12_magnetsOf_1 : decode cX12_magnetsOf 1 = .ok (.istore_n 2, 1) := by decide +kernel
theorem dX12_magnetsOf_2 : decode cX12_magnetsOf 2 = .ok (.iconst 0, 1) := by decide +kernel
theorem dX12_magnetsOf_3 : decode cX12_magnetsOf 3 = .ok (.istore_n 3, 1) := by decide +kernel
theorem dX12_magnetsOf_4 : decode cX12_magnetsOf 4 = .ok (.iload_n 3, 1) := by decide +kernel
theorem dX12_magnetsOf_5 : decode cX12_magnetsOf 5 = .ok (.bipush 6, 2) := by decide +kernel
theorem dX12_magnetsOf_7 : decode cX12_magnetsOf 7 = .ok (.if_icmp .ge 123, 3) := by decide +kernel
theorem dX12_magnetsOf_10 : decode cX12_magnetsOf 10 = .ok (.iconst 1, 1) := by decide +kernel
theorem dX12_magnetsOf_11 : decode cX12_magnetsOf 11 = .ok (.istore 4, 2) := by decide +kernel
theorem dX12_magnetsOf_13 : decode cX12_magnetsOf 13 = .ok (.iconst 0, 1) := by decide +kernel
theorem dX12_magnetsOf_14 : decode cX12_magnetsOf 14 = .ok (.istore 5, 2) := by decide +kernel
theorem dX12_magnetsOf_16 : decode cX12_magnetsOf 16 = .ok (.iload 5, 2) := by decide +kernel
theorem dX12_magnetsOf_18 : decode cX12_magnetsOf 18 = .ok (.aload_n 0, 1) := by decide +kernel
theorem dX12_magnetsOf_19 : decode cX12_magnetsOf 19 = .ok (.getfield 7, 3) := by decide +kernel
theorem dX12_magnetsOf_22 : decode cX12_magnetsOf 22 = .ok (.bipush 93, 2) := by decide +kernel
theorem dX12_magnetsOf_24 : decode cX12_magnetsOf 24 = .ok (.iaload, 1) := by decide +kernel
theorem dX12_magnetsOf_25 : decode cX12_magnetsOf 25 = .ok (.if_icmp .ge 84, 3) := by decide +kernel
theorem dX12_magnetsOf_28 : decode cX12_magnetsOf 28 = .ok (.bipush 94, 2) := by decide +kernel
theorem dX12_magnetsOf_30 : decode cX12_magnetsOf 30 = .ok (.iconst 5, 1) := by decide +kernel
theorem dX12_magnetsOf_31 : decode cX12_magnetsOf 31 = .ok (.iload 5, 2) := by decide +kernel
theorem dX12_magnetsOf_33 : decode cX12_magnetsOf 33 = .ok (.imul, 1) := by decide +kernel
theorem dX12_magnetsOf_34 : decode cX12_magnetsOf 34 = .ok (.iadd, 1) := by decide +kernel
theorem dX12_magnetsOf_35 : decode cX12_magnetsOf 35 = .ok (.istore 6, 2) := by decide +kernel
theorem dX12_magnetsOf_37 : decode cX12_magnetsOf 37 = .ok (.iload 4, 2) := by decide +kernel
theorem dX12_magnetsOf_39 : decode cX12_magnetsOf 39 = .ok (.ifCond .eq 61, 3) := by decide +kernel
theorem dX12_magnetsOf_42 : decode cX12_magnetsOf 42 = .ok (.aload_n 0, 1) := by decide +kernel
theorem dX12_magnetsOf_43 : decode cX12_magnetsOf 43 = .ok (.getfield 7, 3) := by decide +kernel
theorem dX12_magnetsOf_46 : decode cX12_magnetsOf 46 = .ok (.iload 6, 2) := by decide +kernel
theorem dX12_magnetsOf_48 : decode cX12_magnetsOf 48 = .ok (.iaload, 1) := by decide +kernel
theorem dX12_magnetsOf_49 : decode cX12_magnetsOf 49 = .ok (.iload_n 1, 1) := by decide +kernel
theorem dX12_magnetsOf_50 : decode cX12_magnetsOf 50 = .ok (.if_icmp .ne 46, 3) := by decide +kernel
theorem dX12_magnetsOf_53 : decode cX12_magnetsOf 53 = .ok (.iload_n 3, 1) := by decide +kernel
theorem dX12_magnetsOf_54 : decode cX12_magnetsOf 54 = .ok (.aload_n 0, 1) := by decide +kernel
theorem dX12_magnetsOf_55 : decode cX12_magnetsOf 55 = .ok (.getfield 7, 3) := by decide +kernel
theorem dX12_magnetsOf_58 : decode cX12_magnetsOf 58 = .ok (.iload 6, 2) := by decide +kernel
theorem dX12_magnetsOf_60 : decode cX12_magnetsOf 60 = .ok (.iconst 1, 1) := by decide +kernel
theorem dX12_magnetsOf_61 : decode cX12_magnetsOf 61 = .ok (.iadd, 1) := by decide +kernel
theorem dX12_magnetsOf_62 : decode cX12_magnetsOf 62 = .ok (.iaload, 1) := by decide +kernel
theorem dX12_magnetsOf_63 : decode cX12_magnetsOf 63 = .ok (.aload_n 0, 1) := by decide +kernel
theorem dX12_magnetsOf_64 : decode cX12_magnetsOf 64 = .ok (.getfield 7, 3) := by decide +kernel
theorem dX12_magnetsOf_67 : decode cX12_magnetsOf 67 = .ok (.iload 6, 2) := by decide +kernel
theorem dX12_magnetsOf_69 : decode cX12_magnetsOf 69 = .ok (.iconst 2, 1) := by decide +kernel
theorem dX12_magnetsOf_70 : decode cX12_magnetsOf 70 = .ok (.iadd, 1) := by decide +kernel
theorem dX12_magnetsOf_71 : decode cX12_magnetsOf 71 = .ok (.iaload, 1) := by decide +kernel
theorem dX12_magnetsOf_72 : decode cX12_magnetsOf 72 = .ok (.aload_n 0, 1) := by decide +kernel
theorem dX12_magnetsOf_73 : decode cX12_magnetsOf 73 = .ok (.getfield 7, 3) := by decide +kernel
theorem dX12_magnetsOf_76 : decode cX12_magnetsOf 76 = .ok (.iload 6, 2) := by decide +kernel
theorem dX12_magnetsOf_78 : decode cX12_magnetsOf 78 = .ok (.iconst 3, 1) := by decide +kernel
theorem dX12_magnetsOf_79 : decode cX12_magnetsOf 79 = .ok (.iadd, 1) := by decide +kernel
theorem dX12_magnetsOf_80 : decode cX12_magnetsOf 80 = .ok (.iaload, 1) := by decide +kernel
theorem dX12_magnetsOf_81 : decode cX12_magnetsOf 81 = .ok (.invokestatic 187, 3) := by decide +kernel
theorem dX12_magnetsOf_84 : decode cX12_magnetsOf 84 = .ok (.aload_n 0, 1) := by decide +kernel
theorem dX12_magnetsOf_85 : decode cX12_magnetsOf 85 = .ok (.getfield 7, 3) := by decide +kernel
theorem dX12_magnetsOf_88 : decode cX12_magnetsOf 88 = .ok (.iload 6, 2) := by decide +kernel
theorem dX12_magnetsOf_90 : decode cX12_magnetsOf 90 = .ok (.iconst 4, 1) := by decide +kernel
theorem dX12_magnetsOf_91 : decode cX12_magnetsOf 91 = .ok (.iadd, 1) := by decide +kernel
theorem dX12_magnetsOf_92 : decode cX12_magnetsOf 92 = .ok (.iaload, 1) := by decide +kernel
theorem dX12_magnetsOf_93 : decode cX12_magnetsOf 93 = .ok (.if_icmp .ne 7, 3) := by decide +kernel
theorem dX12_magnetsOf_96 : decode cX12_magnetsOf 96 = .ok (.iconst 1, 1) := by decide +kernel
theorem dX12_magnetsOf_97 : decode cX12_magnetsOf 97 = .ok (.goto 4, 3) := by decide +kernel
theorem dX12_magnetsOf_100 : decode cX12_magnetsOf 100 = .ok (.iconst 0, 1) := by decide +kernel
theorem dX12_magnetsOf_101 : decode cX12_magnetsOf 101 = .ok (.istore 4, 2) := by decide +kernel
theorem dX12_magnetsOf_103 : decode cX12_magnetsOf 103 = .ok (.iinc 5 1, 3) := by decide +kernel
theorem dX12_magnetsOf_106 : decode cX12_magnetsOf 106 = .ok (.goto (-90), 3) := by decide +kernel
theorem dX12_magnetsOf_109 : decode cX12_magnetsOf 109 = .ok (.iload_n 2, 1) := by decide +kernel
theorem dX12_magnetsOf_110 : decode cX12_magnetsOf 110 = .ok (.iload 4, 2) := by decide +kernel
theorem dX12_magnetsOf_112 : decode cX12_magnetsOf 112 = .ok (.ifCond .eq 9, 3) := by decide +kernel
theorem dX12_magnetsOf_115 : decode cX12_magnetsOf 115 = .ok (.iconst 1, 1) := by decide +kernel
theorem dX12_magnetsOf_116 : decode cX12_magnetsOf 116 = .ok (.iload_n 3, 1) := by decide +kernel
theorem dX12_magnetsOf_117 : decode cX12_magnetsOf 117 = .ok (.ishl, 1) := by decide +kernel
theorem dX12_magnetsOf_118 : decode cX12_magnetsOf 118 = .ok (.goto 4, 3) := by decide +kernel
theorem dX12_magnetsOf_121 : decode cX12_magnetsOf 121 = .ok (.iconst 0, 1) := by decide +kernel
theorem dX12_magnetsOf_122 : decode cX12_magnetsOf 122 = .ok (.ior, 1) := by decide +kernel
theorem dX12_magnetsOf_123 : decode cX12_magnetsOf 123 = .ok (.istore_n 2, 1) := by decide +kernel
theorem dX12_magnetsOf_124 : decode cX12_magnetsOf 124 = .ok (.iinc 3 1, 3) := by decide +kernel
theorem dX12_magnetsOf_127 : decode cX12_magnetsOf 127 = .ok (.goto (-123), 3) := by decide +kernel
theorem dX12_magnetsOf_130 : decode cX12_magnetsOf 130 = .ok (.iload_n 2, 1) := by decide +kernel
theorem dX12_magnetsOf_131 : decode cX12_magnetsOf 131 = .ok (.ireturn, 1) := by decide +kernel
set_option maxRecDepth 20000 in
theorem ggX12_kinds_X12_isMagnet : GoodIn wsX12_kinds wsX12_isMagnet := goodIn_r _ [5, 6, 7, 8, 4, 9, 28, 29, 30, 31, 32, 33, 34, 35, 36, 37, 38, 39, 40, 41, 42, 43, 44, 45, 46, 47, 48, 49] (by decide +kernel) (by decide +kernel)
set_option maxRecDepth 20000 in
theorem gX12_kinds_X12_isMagnet : GoodIn wsX12_kinds (wsV RX12 271 RX12 yX12_isMagnet wsX12_isMagnet) := goodIn_app (goodIn_of _ (by decide +kernel)) ggX12_kinds_X12_isMagnet
set_option maxRecDepth 20000 in
theorem ggX12_kinds_X12_magnetsOf : GoodIn wsX12_kinds wsX12_magnetsOf := goodIn_r _ [13, 6, 14, 15, 4, 16, 17, 18, 19, 20, 21, 22, 28, 29, 30, 31, 32, 33, 34, 35, 36, 37, 38, 39, 40, 41, 42, 43, 44, 45, 46, 47, 48, 49] (by decide +kernel) (by decide +kernel)
set_option maxRecDepth 20000 in
theorem gX12_kinds_X12_magnetsOf : GoodIn wsX12_kinds (wsV RX12 285 RX12 yX12_magnetsOf wsX12_magnetsOf) := goodIn_app (goodIn_of _ (by decide +kernel)) ggX12_kinds_X12_magnetsOf
set_option maxRecDepth 20000 in
theorem ggX12_kinds_X12_bad : GoodIn wsX12_kinds wsX12_bad := goodIn_r _ [26, 27, 28, 29, 30, 31, 32, 33, 34, 35, 36, 37, 38, 39, 40, 41, 42, 43, 44, 45, 46, 47, 48, 49] (by decide +kernel) (by decide +kernel)
set_option maxRecDepth 20000 in
theorem gX12_kinds_X12_bad : GoodIn wsX12_kinds (wsV RX12 88 RX12 yX12_bad wsX12_bad) := goodIn_app (goodIn_of _ (by decide +kernel)) ggX12_kinds_X12_bad
theorem dX12_kinds_0 : decode cX12_kinds 0 = .ok (.aload_n 0, 1) := by decide +kernel
theorem dX12_kinds_1 : decode cX12_kinds 1 = .ok (.iload_n 1, 1) := by decide +kernel
theorem dX12_kinds_2 : decode cX12_kinds 2 = .ok (.invokevirtual 271, 3) := by decide +kernel
theorem dX12_kinds_5 : decode cX12_kinds 5 = .ok (.ifCond .eq 11, 3) := by decide +kernel
theorem dX12_kinds_8 : decode cX12_kinds 8 = .ok (.aload_n 0, 1) := by decide +kernel
theorem dX12_kinds_9 : decode cX12_kinds 9 = .ok (.iload_n 1, 1) := by decide +kernel
theorem dX12_kinds_10 : decode cX12_kinds 10 = .ok (.invokevirtual 285, 3) := by decide +kernel
theorem dX12_kinds_13 : decode cX12_kinds 13 = .ok (.goto 9, 3) := by decide +kernel
theorem dX12_kinds_16 : decode cX12_kinds 16 = .ok (.aload_n 0, 1) := by decide +kernel
theorem dX12_kinds_17 : decode cX12_kinds 17 = .ok (.bipush (-2), 2) := by decide +kernel
theorem dX12_kinds_19 : decode cX12_kinds 19 = .ok (.invokevirtual 88, 3) := by decide +kernel
theorem dX12_kinds_22 : decode cX12_kinds 22 = .ok (.ireturn, 1) := by decide +kernel
set_option maxRecDepth 20000 in
theorem ggX12_ask_X12_isMagnet : GoodIn wsX12_ask wsX12_isMagnet := goodIn_r _ [8, 3, 9, 10, 7, 11, 37, 38, 39, 40, 41, 42, 43, 44, 45, 46, 47, 48, 49, 50, 51, 52, 53, 54, 55, 56, 57, 58] (by decide +kernel) (by decide +kernel)
set_option maxRecDepth 20000 in
theorem gX12_ask_X12_isMagnet : GoodIn wsX12_ask (wsV RX12 271 RX12 yX12_isMagnet wsX12_isMagnet) := goodIn_app (goodIn_of _ (by decide +kernel)) ggX12_ask_X12_isMagnet
set_option maxRecDepth 20000 in
theorem ggX12_ask_X12_bad : GoodIn wsX12_ask wsX12_bad := goodIn_r _ [15, 16, 37, 38, 39, 40, 41, 42, 43, 44, 45, 46, 47, 48, 49, 50, 51, 52, 53, 54, 55, 56, 57, 58] (by decide +kernel) (by decide +kernel)
set_option maxRecDepth 20000 in
theorem gX12_ask_X12_bad : GoodIn wsX12_ask (wsV RX12 88 RX12 yX12_bad wsX12_bad) := goodIn_app (goodIn_of _ (by decide +kernel)) ggX12_ask_X12_bad
set_option maxRecDepth 20000 in
theorem ggX12_ask_X12_magnetsOf : GoodIn wsX12_ask wsX12_magnetsOf := goodIn_r _ [20, 3, 21, 22, 7, 23, 24, 25, 26, 27, 28, 29, 37, 38, 39, 40, 41, 42, 43, 44, 45, 46, 47, 48, 49, 50, 51, 52, 53, 54, 55, 56, 57, 58] (by decide +kernel) (by decide +kernel)
set_option maxRecDepth 20000 in
theorem gX12_ask_X12_magnetsOf : GoodIn wsX12_ask (wsV RX12 285 RX12 yX12_magnetsOf wsX12_magnetsOf) := goodIn_app (goodIn_of _ (by decide +kernel)) ggX12_ask_X12_magnetsOf
set_option maxRecDepth 20000 in
theorem ggX12_ask_X12_pullOf : GoodIn wsX12_ask wsX12_pullOf := goodIn_r _ [23, 24, 25, 7, 26, 27, 28, 29] (by decide +kernel) (by decide +kernel)
set_option maxRecDepth 20000 in
theorem gX12_ask_X12_pullOf : GoodIn wsX12_ask (va_wsS RX12 187 yX12_pullOf wsX12_pullOf) := goodIn_app (goodIn_of _ (by decide +kernel)) ggX12_ask_X12_pullOf
set_option maxRecDepth 20000 in
theorem ggX12_ask_X12_greatest : GoodIn wsX12_ask wsX12_greatest := goodIn_r _ [33, 2, 34, 35, 7, 36, 37, 38, 39, 40, 41, 42, 43, 44, 45, 46, 47, 48, 49, 50, 51, 52, 53, 54, 55, 56, 57, 58] (by decide +kernel) (by decide +kernel)
set_option maxRecDepth 20000 in
theorem gX12_ask_X12_greatest : GoodIn wsX12_ask (wsV RX12 282 RX12 yX12_greatest wsX12_greatest) := goodIn_app (goodIn_of _ (by decide +kernel)) ggX12_ask_X12_greatest
theorem dX12_ask_0 : decode cX12_ask 0 = .ok (.aload_n 0, 1) := by decide +kernel
theorem dX12_ask_1 : decode cX12_ask 1 = .ok (.iload_n 1, 1) := by decide +kernel
theorem dX12_ask_2 : decode cX12_ask 2 = .ok (.invokevirtual 271, 3) := by decide +kernel
theorem dX12_ask_5 : decode cX12_ask 5 = .ok (.ifCond .ne 10, 3) := by decide +kernel
theorem dX12_ask_8 : decode cX12_ask 8 = .ok (.aload_n 0, 1) := by decide +kernel
theorem dX12_ask_9 : decode cX12_ask 9 = .ok (.bipush (-2), 2) := by decide +kernel
theorem dX12_ask_11 : decode cX12_ask 11 = .ok (.invokevirtual 88, 3) := by decide +kernel
theorem dX12_ask_14 : decode cX12_ask 14 = .ok (.ireturn, 1) := by decide +kernel
theorem dX12_ask_15 : decode cX12_ask 15 = .ok (.aload_n 0, 1) := by decide +kernel
theorem dX12_ask_16 : decode cX12_ask 16 = .ok (.iload_n 1, 1) := by decide +kernel
theorem dX12_ask_17 : decode cX12_ask 17 = .ok (.invokevirtual 285, 3) := by decide +kernel
theorem dX12_ask_20 : decode cX12_ask 20 = .ok (.istore_n 2, 1) := by decide +kernel
theorem dX12_ask_21 : decode cX12_ask 21 = .ok (.iconst (-1), 1) := by decide +kernel
theorem dX12_ask_22 : decode cX12_ask 22 = .ok (.istore_n 3, 1) := by decide +kernel
theorem dX12_ask_23 : decode cX12_ask 23 = .ok (.ldc_w 281, 3) := by decide +kernel
theorem dX12_ask_26 : decode cX12_ask 26 = .ok (.istore 4, 2) := by decide +kernel
theorem dX12_ask_28 : decode cX12_ask 28 = .ok (.iconst 0, 1) := by decide +kernel
theorem dX12_ask_29 : decode cX12_ask 29 = .ok (.istore 5, 2) := by decide +kernel
theorem dX12_ask_31 : decode cX12_ask 31 = .ok (.iload 5, 2) := by decide +kernel
theorem dX12_ask_33 : decode cX12_ask 33 = .ok (.iconst 2, 1) := by decide +kernel
theorem dX12_ask_34 : decode cX12_ask 34 = .ok (.if_icmp .ge 113, 3) := by decide +kernel
theorem dX12_ask_37 : decode cX12_ask 37 = .ok (.iload_n 2, 1) := by decide +kernel
theorem dX12_ask_38 : decode cX12_ask 38 = .ok (.ifCond .le 109, 3) := by decide +kernel
theorem dX12_ask_41 : decode cX12_ask 41 = .ok (.iconst 0, 1) := by decide +kernel
theorem dX12_ask_42 : decode cX12_ask 42 = .ok (.istore 6, 2) := by decide +kernel
theorem dX12_ask_44 : decode cX12_ask 44 = .ok (.iload 6, 2) := by decide +kernel
theorem dX12_ask_46 : decode cX12_ask 46 = .ok (.bipush 12, 2) := by decide +kernel
theorem dX12_ask_48 : decode cX12_ask 48 = .ok (.if_icmp .ge 93, 3) := by decide +kernel
theorem dX12_ask_51 : decode cX12_ask 51 = .ok (.iconst 0, 1) := by decide +kernel
theorem dX12_ask_52 : decode cX12_ask 52 = .ok (.istore 7, 2) := by decide +kernel
theorem dX12_ask_54 : decode cX12_ask 54 = .ok (.iload 7, 2) := by decide +kernel
theorem dX12_ask_56 : decode cX12_ask 56 = .ok (.bipush 6, 2) := by decide +kernel
theorem dX12_ask_58 : decode cX12_ask 58 = .ok (.if_icmp .ge 34, 3) := by decide +kernel
theorem dX12_ask_61 : decode cX12_ask 61 = .ok (.aload_n 0, 1) := by decide +kernel
theorem dX12_ask_62 : decode cX12_ask 62 = .ok (.getfield 57, 3) := by decide +kernel
theorem dX12_ask_65 : decode cX12_ask 65 = .ok (.iload 7, 2) := by decide +kernel
theorem dX12_ask_67 : decode cX12_ask 67 = .ok (.iload 7, 2) := by decide +kernel
theorem dX12_ask_69 : decode cX12_ask 69 = .ok (.aload_n 0, 1) := by decide +kernel
theorem dX12_ask_70 : decode cX12_ask 70 = .ok (.getfield 7, 3) := by decide +kernel
theorem dX12_ask_73 : decode cX12_ask 73 = .ok (.bipush 44, 2) := by decide +kernel
theorem dX12_ask_75 : decode cX12_ask 75 = .ok (.iload_n 1, 1) := by decide +kernel
theorem dX12_ask_76 : decode cX12_ask 76 = .ok (.iadd, 1) := by decide +kernel
theorem dX12_ask_77 : decode cX12_ask 77 = .ok (.iaload, 1) := by decide +kernel
theorem dX12_ask_78 : decode cX12_ask 78 = .ok (.iload 6, 2) := by decide +kernel
theorem dX12_ask_80 : decode cX12_ask 80 = .ok (.iload 5, 2) := by decide +kernel
theorem dX12_ask_82 : decode cX12_ask 82 = .ok (.invokestatic 187, 3) := by decide +kernel
theorem dX12_ask_85 : decode cX12_ask 85 = .ok (.iastore, 1) := by decide +kernel
theorem dX12_ask_86 : decode cX12_ask 86 = .ok (.iinc 7 1, 3) := by decide +kernel
theorem dX12_ask_89 : decode cX12_ask 89 = .ok (.goto (-35), 3) := by decide +kernel
theorem dX12_ask_92 : decode cX12_ask 92 = .ok (.aload_n 0, 1) := by decide +kernel
theorem dX12_ask_93 : decode cX12_ask 93 = .ok (.iload_n 2, 1) := by decide +kernel
theorem dX12_ask_94 : decode cX12_ask 94 = .ok (.invokevirtual 282, 3) := by decide +kernel
theorem dX12_ask_97 : decode cX12_ask 97 = .ok (.istore 7, 2) := by decide +kernel
theorem dX12_ask_99 : decode cX12_ask 99 = .ok (.iload 7, 2) := by decide +kernel
theorem dX12_ask_101 : decode cX12_ask 101 = .ok (.iload 4, 2) := by decide +kernel
theorem dX12_ask_103 : decode cX12_ask 103 = .ok (.if_icmp .ge 14, 3) := by decide +kernel
theorem dX12_ask_106 : decode cX12_ask 106 = .ok (.bipush 100, 2) := by decide +kernel
theorem dX12_ask_108 : decode cX12_ask 108 = .ok (.iload 5, 2) := by decide +kernel
theorem dX12_ask_110 : decode cX12_ask 110 = .ok (.imul, 1) := by decide +kernel
theorem dX12_ask_111 : decode cX12_ask 111 = .ok (.iload 6, 2) := by decide +kernel
theorem dX12_ask_113 : decode cX12_ask 113 = .ok (.iadd, 1) := by decide +kernel
theorem dX12_ask_114 : decode cX12_ask 114 = .ok (.goto 4, 3) := by decide +kernel
theorem dX12_ask_117 : decode cX12_ask 117 = .ok (.iload_n 3, 1) := by decide +kernel
theorem dX12_ask_118 : decode cX12_ask 118 = .ok (.istore_n 3, 1) := by decide +kernel
theorem dX12_ask_119 : decode cX12_ask 119 = .ok (.iload 7, 2) := by decide +kernel
theorem dX12_ask_121 : decode cX12_ask 121 = .ok (.iload 4, 2) := by decide +kernel
theorem dX12_ask_123 : decode cX12_ask 123 = .ok (.if_icmp .ge 8, 3) := by decide +kernel
theorem dX12_ask_126 : decode cX12_ask 126 = .ok (.iload 7, 2) := by decide +kernel
theorem dX12_ask_128 : decode cX12_ask 128 = .ok (.goto 5, 3) := by decide +kernel
theorem dX12_ask_131 : decode cX12_ask 131 = .ok (.iload 4, 2) := by decide +kernel
theorem dX12_ask_133 : decode cX12_ask 133 = .ok (.istore 4, 2) := by decide +kernel
theorem dX12_ask_135 : decode cX12_ask 135 = .ok (.iinc 6 1, 3) := by decide +kernel
theorem dX12_ask_138 : decode cX12_ask 138 = .ok (.goto (-94), 3) := by decide +kernel
theorem dX12_ask_141 : decode cX12_ask 141 = .ok (.iinc 5 1, 3) := by decide +kernel
theorem dX12_ask_144 : decode cX12_ask 144 = .ok (.goto (-113), 3) := by decide +kernel
theorem dX12_ask_147 : decode cX12_ask 147 = .ok (.iload_n 3, 1) := by decide +kernel
theorem dX12_ask_148 : decode cX12_ask 148 = .ok (.ireturn, 1) := by decide +kernel
theorem dX12_getsBy_0 : decode cX12_getsBy 0 = .ok (.iload_n 1, 1) := by decide +kernel
theorem dX12_getsBy_1 : decode cX12_getsBy 1 = .ok (.iload_n 2, 1) := by decide +kernel
theorem dX12_getsBy_2 : decode cX12_getsBy 2 = .ok (.if_icmp .gt 12, 3) := by decide +kernel
theorem dX12_getsBy_5 : decode cX12_getsBy 5 = .ok (.iload_n 1, 1) := by decide +kernel
theorem dX12_getsBy_6 : decode cX12_getsBy 6 = .ok (.iload_n 2, 1) := by decide +kernel
theorem dX12_getsBy_7 : decode cX12_getsBy 7 = .ok (.if_icmp .ne 20, 3) := by decide +kernel
theorem dX12_getsBy_10 : decode cX12_getsBy 10 = .ok (.iload_n 3, 1) := by decide +kernel
theorem dX12_getsBy_11 : decode cX12_getsBy 11 = .ok (.ifCond .eq 16, 3) := by decide +kernel
theorem dX12_getsBy_14 : decode cX12_getsBy 14 = .ok (.iload_n 1, 1) := by decide +kernel
theorem dX12_getsBy_15 : decode cX12_getsBy 15 = .ok (.iload_n 0, 1) := by decide +kernel
theorem dX12_getsBy_16 : decode cX12_getsBy 16 = .ok (.iconst 2, 1) := by decide +kernel
theorem dX12_getsBy_17 : decode cX12_getsBy 17 = .ok (.iadd, 1) := by decide +kernel
theorem dX12_getsBy_18 : decode cX12_getsBy 18 = .ok (.iconst 3, 1) := by decide +kernel
theorem dX12_getsBy_19 : decode cX12_getsBy 19 = .ok (.idiv, 1) := by decide +kernel
theorem dX12_getsBy_20 : decode cX12_getsBy 20 = .ok (.if_icmp .lt 7, 3) := by decide +kernel
theorem dX12_getsBy_23 : decode cX12_getsBy 23 = .ok (.iconst 1, 1) := by decide +kernel
theorem dX12_getsBy_24 : decode cX12_getsBy 24 = .ok (.goto 4, 3) := by decide +kernel
theorem dX12_getsBy_27 : decode cX12_getsBy 27 = .ok (.iconst 0, 1) := by decide +kernel
theorem dX12_getsBy_28 : decode cX12_getsBy 28 = .ok (.istore 4, 2) := by decide +kernel
theorem dX12_getsBy_30 : decode cX12_getsBy 30 = .ok (.iload 4, 2) := by decide +kernel
theorem dX12_getsBy_32 : decode cX12_getsBy 32 = .ok (.ifCond .eq 9, 3) := by decide +kernel
theorem dX12_getsBy_35 : decode cX12_getsBy 35 = .ok (.iload_n 0, 1) := by decide +kernel
theorem dX12_getsBy_36 : decode cX12_getsBy 36 = .ok (.iload_n 1, 1) := by decide +kernel
theorem dX12_getsBy_37 : decode cX12_getsBy 37 = .ok (.isub, 1) := by decide +kernel
theorem dX12_getsBy_38 : decode cX12_getsBy 38 = .ok (.goto 5, 3) := by decide +kernel
theorem dX12_getsBy_41 : decode cX12_getsBy 41 = .ok (.iload_n 1, 1) := by decide +kernel
theorem dX12_getsBy_42 : decode cX12_getsBy 42 = .ok (.ineg, 1) := by decide +kernel
theorem dX12_getsBy_43 : decode cX12_getsBy 43 = .ok (.ireturn, 1) := by decide +kernel
set_option maxRecDepth 20000 in
theorem ggX12_rests_X12_getsBy : GoodIn wsX12_rests wsX12_getsBy := goodIn_r _ [4] (by decide +kernel) (by decide +kernel)
set_option maxRecDepth 20000 in
theorem gX12_rests_X12_getsBy : GoodIn wsX12_rests (va_wsS RX12 288 yX12_getsBy wsX12_getsBy) := goodIn_app (goodIn_of _ (by decide +kernel)) ggX12_rests_X12_getsBy
theorem dX12_rests_0 : decode cX12_rests 0 = .ok (.iconst 1, 1) := by decide +kernel
theorem dX12_rests_1 : decode cX12_rests 1 = .ok (.istore 4, 2) := by decide +kernel
theorem dX12_rests_3 : decode cX12_rests 3 = .ok (.iconst 0, 1) := by decide +kernel
theorem dX12_rests_4 : decode cX12_rests 4 = .ok (.istore 5, 2) := by decide +kernel
theorem dX12_rests_6 : decode cX12_rests 6 = .ok (.iload 5, 2) := by decide +kernel
theorem dX12_rests_8 : decode cX12_rests 8 = .ok (.bipush 10, 2) := by decide +kernel
theorem dX12_rests_10 : decode cX12_rests 10 = .ok (.if_icmp .ge 57, 3) := by decide +kernel
theorem dX12_rests_13 : decode cX12_rests 13 = .ok (.iload 4, 2) := by decide +kernel
theorem dX12_rests_15 : decode cX12_rests 15 = .ok (.ifCond .eq 43, 3) := by decide +kernel
theorem dX12_rests_18 : decode cX12_rests 18 = .ok (.iload_n 0, 1) := by decide +kernel
theorem dX12_rests_19 : decode cX12_rests 19 = .ok (.iload 5, 2) := by decide +kernel
theorem dX12_rests_21 : decode cX12_rests 21 = .ok (.iload_n 3, 1) := by decide +kernel
theorem dX12_rests_22 : decode cX12_rests 22 = .ok (.iconst 1, 1) := by decide +kernel
theorem dX12_rests_23 : decode cX12_rests 23 = .ok (.invokestatic 288, 3) := by decide +kernel
theorem dX12_rests_26 : decode cX12_rests 26 = .ok (.iload_n 0, 1) := by decide +kernel
theorem dX12_rests_27 : decode cX12_rests 27 = .ok (.iload_n 2, 1) := by decide +kernel
theorem dX12_rests_28 : decode cX12_rests 28 = .ok (.iload_n 3, 1) := by decide +kernel
theorem dX12_rests_29 : decode cX12_rests 29 = .ok (.iconst 1, 1) := by decide +kernel
theorem dX12_rests_30 : decode cX12_rests 30 = .ok (.invokestatic 288, 3) := by decide +kernel
theorem dX12_rests_33 : decode cX12_rests 33 = .ok (.if_icmp .gt 25, 3) := by decide +kernel
theorem dX12_rests_36 : decode cX12_rests 36 = .ok (.iload_n 1, 1) := by decide +kernel
theorem dX12_rests_37 : decode cX12_rests 37 = .ok (.iload 5, 2) := by decide +kernel
theorem dX12_rests_39 : decode cX12_rests 39 = .ok (.iload_n 2, 1) := by decide +kernel
theorem dX12_rests_40 : decode cX12_rests 40 = .ok (.iconst 0, 1) := by decide +kernel
theorem dX12_rests_41 : decode cX12_rests 41 = .ok (.invokestatic 288, 3) := by decide +kernel
theorem dX12_rests_44 : decode cX12_rests 44 = .ok (.iload_n 1, 1) := by decide +kernel
theorem dX12_rests_45 : decode cX12_rests 45 = .ok (.iload_n 3, 1) := by decide +kernel
theorem dX12_rests_46 : decode cX12_rests 46 = .ok (.iload_n 2, 1) := by decide +kernel
theorem dX12_rests_47 : decode cX12_rests 47 = .ok (.iconst 0, 1) := by decide +kernel
theorem dX12_rests_48 : decode cX12_rests 48 = .ok (.invokestatic 288, 3) := by decide +kernel
theorem dX12_rests_51 : decode cX12_rests 51 = .ok (.if_icmp .gt 7, 3) := by decide +kernel
theorem dX12_rests_54 : decode cX12_rests 54 = .ok (.iconst 1, 1) := by decide +kernel
theorem dX12_rests_55 : decode cX12_rests 55 = .ok (.goto 4, 3) := by decide +kernel
theorem dX12_rests_58 : decode cX12_rests 58 = .ok (.iconst 0, 1) := by decide +kernel
theorem dX12_rests_59 : decode cX12_rests 59 = .ok (.istore 4, 2) := by decide +kernel
theorem dX12_rests_61 : decode cX12_rests 61 = .ok (.iinc 5 1, 3) := by decide +kernel
theorem dX12_rests_64 : decode cX12_rests 64 = .ok (.goto (-58), 3) := by decide +kernel
theorem dX12_rests_67 : decode cX12_rests 67 = .ok (.iload 4, 2) := by decide +kernel
theorem dX12_rests_69 : decode cX12_rests 69 = .ok (.ireturn, 1) := by decide +kernel
set_option maxRecDepth 20000 in
theorem ggX12_lifts_X12_isClerk : GoodIn wsX12_lifts wsX12_isClerk := goodIn_r _ [5, 6, 7, 8, 4, 9, 36, 37, 38, 39, 40, 41, 42, 43, 44, 45, 46, 47, 48, 49, 50, 51, 52, 53, 54, 55, 56, 57] (by decide +kernel) (by decide +kernel)
set_option maxRecDepth 20000 in
theorem gX12_lifts_X12_isClerk : GoodIn wsX12_lifts (wsV RX12 206 RX12 yX12_isClerk wsX12_isClerk) := goodIn_app (goodIn_of _ (by decide +kernel)) ggX12_lifts_X12_isClerk
set_option maxRecDepth 20000 in
theorem ggX12_lifts_X12_bad : GoodIn wsX12_lifts wsX12_bad := goodIn_r _ [13, 14, 36, 37, 38, 39, 40, 41, 42, 43, 44, 45, 46, 47, 48, 49, 50, 51, 52, 53, 54, 55, 56, 57] (by decide +kernel) (by decide +kernel)
set_option maxRecDepth 20000 in
theorem gX12_lifts_X12_bad : GoodIn wsX12_lifts (wsV RX12 88 RX12 yX12_bad wsX12_bad) := goodIn_app (goodIn_of _ (by decide +kernel)) ggX12_lifts_X12_bad
set_option maxRecDepth 20000 in
theorem ggX12_lifts_X12_stringOf : GoodIn wsX12_lifts wsX12_stringOf := goodIn_r _ [18, 6, 19, 20, 21, 4, 22, 36, 37, 38, 39, 40, 41, 42, 43, 44, 45, 46, 47, 48, 49, 50, 51, 52, 53, 54, 55, 56, 57] (by decide +kernel) (by decide +kernel)
set_option maxRecDepth 20000 in
theorem gX12_lifts_X12_stringOf : GoodIn wsX12_lifts (wsV RX12 200 RX12 yX12_stringOf wsX12_stringOf) := goodIn_app (goodIn_of _ (by decide +kernel)) ggX12_lifts_X12_stringOf
set_option maxRecDepth 20000 in
theorem ggX12_lifts_X12_weighs : GoodIn wsX12_lifts wsX12_weighs := goodIn_r _ [26, 6, 27, 28, 4, 29, 36, 37, 38, 39, 40, 41, 42, 43, 44, 45, 46, 47, 48, 49, 50, 51, 52, 53, 54, 55, 56, 57] (by decide +kernel) (by decide +kernel)
set_option maxRecDepth 20000 in
theorem gX12_lifts_X12_weighs : GoodIn wsX12_lifts (wsV RX12 194 RX12 yX12_weighs wsX12_weighs) := goodIn_app (goodIn_of _ (by decide +kernel)) ggX12_lifts_X12_weighs
set_option maxRecDepth 20000 in
theorem ggX12_lifts_X12_rests : GoodIn wsX12_lifts wsX12_rests := goodIn_r _ [32, 33, 34, 4, 35] (by decide +kernel) (by decide +kernel)
set_option maxRecDepth 20000 in
theorem gX12_lifts_X12_rests : GoodIn wsX12_lifts (va_wsS RX12 292 yX12_rests wsX12_rests) := goodIn_app (goodIn_of _ (by decide +kernel)) ggX12_lifts_X12_rests
theorem dX12_lifts_0 : decode cX12_lifts 0 = .ok (.aload_n 0, 1) := by decide +kernel
theorem dX12_lifts_1 : decode cX12_lifts 1 = .ok (.iload_n 1, 1) := by decide +kernel
theorem dX12_lifts_2 : decode cX12_lifts 2 = .ok (.invokevirtual 206, 3) := by decide +kernel
theorem dX12_lifts_5 : decode cX12_lifts 5 = .ok (.ifCond .eq 21, 3) := by decide +kernel
theorem dX12_lifts_8 : decode cX12_lifts 8 = .ok (.aload_n 0, 1) := by decide +kernel
theorem dX12_lifts_9 : decode cX12_lifts 9 = .ok (.iload_n 2, 1) := by decide +kernel
theorem dX12_lifts_10 : decode cX12_lifts 10 = .ok (.invokevirtual 206, 3) := by decide +kernel
theorem dX12_lifts_13 : decode cX12_lifts 13 = .ok (.ifCond .eq 13, 3) := by decide +kernel
theorem dX12_lifts_16 : decode cX12_lifts 16 = .ok (.iload_n 1, 1) := by decide +kernel
theorem dX12_lifts_17 : decode cX12_lifts 17 = .ok (.iload_n 2, 1) := by decide +kernel
theorem dX12_lifts_18 : decode cX12_lifts 18 = .ok (.if_icmp .eq 8, 3) := by decide +kernel
theorem dX12_lifts_21 : decode cX12_lifts 21 = .ok (.iload_n 3, 1) := by decide +kernel
theorem dX12_lifts_22 : decode cX12_lifts 22 = .ok (.iconst (-1), 1) := by decide +kernel
theorem dX12_lifts_23 : decode cX12_lifts 23 = .ok (.if_icmp .ge 10, 3) := by decide +kernel
theorem dX12_lifts_26 : decode cX12_lifts 26 = .ok (.aload_n 0, 1) := by decide +kernel
theorem dX12_lifts_27 : decode cX12_lifts 27 = .ok (.bipush (-10), 2) := by decide +kernel
theorem dX12_lifts_29 : decode cX12_lifts 29 = .ok (.invokevirtual 88, 3) := by decide +kernel
theorem dX12_lifts_32 : decode cX12_lifts 32 = .ok (.ireturn, 1) := by decide +kernel
theorem dX12_lifts_33 : decode cX12_lifts 33 = .ok (.aload_n 0, 1) := by decide +kernel
theorem dX12_lifts_34 : decode cX12_lifts 34 = .ok (.iconst 0, 1) := by decide +kernel
theorem dX12_lifts_35 : decode cX12_lifts 35 = .ok (.aload_n 0, 1) := by decide +kernel
theorem dX12_lifts_36 : decode cX12_lifts 36 = .ok (.iconst 0, 1) := by decide +kernel
theorem dX12_lifts_37 : decode cX12_lifts 37 = .ok (.iload_n 1, 1) := by decide +kernel
theorem dX12_lifts_38 : decode cX12_lifts 38 = .ok (.invokevirtual 200, 3) := by decide +kernel
theorem dX12_lifts_41 : decode cX12_lifts 41 = .ok (.invokevirtual 194, 3) := by decide +kernel
theorem dX12_lifts_44 : decode cX12_lifts 44 = .ok (.istore 4, 2) := by decide +kernel
theorem dX12_lifts_46 : decode cX12_lifts 46 = .ok (.aload_n 0, 1) := by decide +kernel
theorem dX12_lifts_47 : decode cX12_lifts 47 = .ok (.iconst 0, 1) := by decide +kernel
theorem dX12_lifts_48 : decode cX12_lifts 48 = .ok (.aload_n 0, 1) := by decide +kernel
theorem dX12_lifts_49 : decode cX12_lifts 49 = .ok (.iconst 0, 1) := by decide +kernel
theorem dX12_lifts_50 : decode cX12_lifts 50 = .ok (.iload_n 2, 1) := by decide +kernel
theorem dX12_lifts_51 : decode cX12_lifts 51 = .ok (.invokevirtual 200, 3) := by decide +kernel
theorem dX12_lifts_54 : decode cX12_lifts 54 = .ok (.invokevirtual 194, 3) := by decide +kernel
theorem dX12_lifts_57 : decode cX12_lifts 57 = .ok (.istore 5, 2) := by decide +kernel
theorem dX12_lifts_59 : decode cX12_lifts 59 = .ok (.iconst 0, 1) := by decide +kernel
theorem dX12_lifts_60 : decode cX12_lifts 60 = .ok (.istore 6, 2) := by decide +kernel
theorem dX12_lifts_62 : decode cX12_lifts 62 = .ok (.iconst 0, 1) := by decide +kernel
theorem dX12_lifts_63 : decode cX12_lifts 63 = .ok (.istore 7, 2) := by decide +kernel
theorem dX12_lifts_65 : decode cX12_lifts 65 = .ok (.iload 7, 2) := by decide +kernel
theorem dX12_lifts_67 : decode cX12_lifts 67 = .ok (.bipush 100, 2) := by decide +kernel
theorem dX12_lifts_69 : decode cX12_lifts 69 = .ok (.if_icmp .ge 41, 3) := by decide +kernel
theorem dX12_lifts_72 : decode cX12_lifts 72 = .ok (.iload 4, 2) := by decide +kernel
theorem dX12_lifts_74 : decode cX12_lifts 74 = .ok (.iload 5, 2) := by decide +kernel
theorem dX12_lifts_76 : decode cX12_lifts 76 = .ok (.iload 7, 2) := by decide +kernel
theorem dX12_lifts_78 : decode cX12_lifts 78 = .ok (.bipush 10, 2) := by decide +kernel
theorem dX12_lifts_80 : decode cX12_lifts 80 = .ok (.idiv, 1) := by decide +kernel
theorem dX12_lifts_81 : decode cX12_lifts 81 = .ok (.iload 7, 2) := by decide +kernel
theorem dX12_lifts_83 : decode cX12_lifts 83 = .ok (.bipush 10, 2) := by decide +kernel
theorem dX12_lifts_85 : decode cX12_lifts 85 = .ok (.irem, 1) := by decide +kernel
theorem dX12_lifts_86 : decode cX12_lifts 86 = .ok (.invokestatic 292, 3) := by decide +kernel
theorem dX12_lifts_89 : decode cX12_lifts 89 = .ok (.ifCond .eq 15, 3) := by decide +kernel
theorem dX12_lifts_92 : decode cX12_lifts 92 = .ok (.iload 6, 2) := by decide +kernel
theorem dX12_lifts_94 : decode cX12_lifts 94 = .ok (.iload_n 3, 1) := by decide +kernel
theorem dX12_lifts_95 : decode cX12_lifts 95 = .ok (.if_icmp .ne 6, 3) := by decide +kernel
theorem dX12_lifts_98 : decode cX12_lifts 98 = .ok (.iload 7, 2) := by decide +kernel
theorem dX12_lifts_100 : decode cX12_lifts 100 = .ok (.ireturn, 1) := by decide +kernel
theorem dX12_lifts_101 : decode cX12_lifts 101 = .ok (.iinc 6 1, 3) := by decide +kernel
theorem dX12_lifts_104 : decode cX12_lifts 104 = .ok (.iinc 7 1, 3) := by decide +kernel
theorem dX12_lifts_107 : decode cX12_lifts 107 = .ok (.goto (-42), 3) := by decide +kernel
theorem dX12_lifts_110 : decode cX12_lifts 110 = .ok (.iload_n 3, 1) := by decide +kernel
theorem dX12_lifts_111 : decode cX12_lifts 111 = .ok (.iconst (-1), 1) := by decide +kernel
theorem dX12_lifts_112 : decode cX12_lifts 112 = .ok (.if_icmp .ne 8, 3) := by decide +kernel
theorem dX12_lifts_115 : decode cX12_lifts 115 = .ok (.iload 6, 2) := by decide +kernel
theorem dX12_lifts_117 : decode cX12_lifts 117 = .ok (.goto 5, 3) := by decide +kernel
theorem dX12_lifts_120 : decode cX12_lifts 120 = .ok (.bipush (-5), 2) := by decide +kernel
theorem dX12_lifts_122 : decode cX12_lifts 122 = .ok (.ireturn, 1) := by decide +kernel
set_option maxRecDepth 20000 in
theorem ggX12_slips_X12_isClerk : GoodIn wsX12_slips wsX12_isClerk := goodIn_r _ [11, 3, 12, 13, 10, 14, 43, 44, 45, 46, 47, 48, 49, 50, 51, 52, 53, 54, 55, 56, 57, 58, 59, 60, 61, 62, 63, 64] (by decide +kernel) (by decide +kernel)
set_option maxRecDepth 20000 in
theorem gX12_slips_X12_isClerk : GoodIn wsX12_slips (wsV RX12 206 RX12 yX12_isClerk wsX12_isClerk) := goodIn_app (goodIn_of _ (by decide +kernel)) ggX12_slips_X12_isClerk
set_option maxRecDepth 20000 in
theorem ggX12_slips_X12_in : GoodIn wsX12_slips wsX12_in := goodIn_r _ [14] (by decide +kernel) (by decide +kernel)
set_option maxRecDepth 20000 in
theorem gX12_slips_X12_in : GoodIn wsX12_slips (va_wsS RX12 64 yX12_in wsX12_in) := goodIn_app (goodIn_of _ (by decide +kernel)) ggX12_slips_X12_in
set_option maxRecDepth 20000 in
theorem ggX12_slips_X12_bad : GoodIn wsX12_slips wsX12_bad := goodIn_r _ [18, 19, 43, 44, 45, 46, 47, 48, 49, 50, 51, 52, 53, 54, 55, 56, 57, 58, 59, 60, 61, 62, 63, 64] (by decide +kernel) (by decide +kernel)
set_option maxRecDepth 20000 in
theorem gX12_slips_X12_bad : GoodIn wsX12_slips (wsV RX12 88 RX12 yX12_bad wsX12_bad) := goodIn_app (goodIn_of _ (by decide +kernel)) ggX12_slips_X12_bad
set_option maxRecDepth 20000 in
theorem ggX12_slips_X12_tries : GoodIn wsX12_slips wsX12_tries := goodIn_r _ [23, 3, 43, 44, 45, 46, 47, 48, 49, 50, 51, 52, 53, 54, 55, 56, 57, 58, 59, 60, 61, 62, 63, 64] (by decide +kernel) (by decide +kernel)
set_option maxRecDepth 20000 in
theorem gX12_slips_X12_tries : GoodIn wsX12_slips (wsV RX12 253 RX12 yX12_tries wsX12_tries) := goodIn_app (goodIn_of _ (by decide +kernel)) ggX12_slips_X12_tries
set_option maxRecDepth 20000 in
theorem ggX12_slips_X12_has : GoodIn wsX12_slips wsX12_has := goodIn_r _ [26] (by decide +kernel) (by decide +kernel)
set_option maxRecDepth 20000 in
theorem gX12_slips_X12_has : GoodIn wsX12_slips (va_wsS RX12 184 yX12_has wsX12_has) := goodIn_app (goodIn_of _ (by decide +kernel)) ggX12_slips_X12_has
set_option maxRecDepth 20000 in
theorem ggX12_slips_X12_tugs : GoodIn wsX12_slips wsX12_tugs := goodIn_r _ [30, 4, 31, 32, 3, 33, 34, 10, 35, 36, 37, 38, 39, 40, 41, 42, 43, 44, 45, 46, 47, 48, 49, 50, 51, 52, 53, 54, 55, 56, 57, 58, 59, 60, 61, 62, 63, 64] (by decide +kernel) (by decide +kernel)
set_option maxRecDepth 20000 in
theorem gX12_slips_X12_tugs : GoodIn wsX12_slips (wsV RX12 235 RX12 yX12_tugs wsX12_tugs) := goodIn_app (goodIn_of _ (by decide +kernel)) ggX12_slips_X12_tugs
theorem dX12_slips_0 : decode cX12_slips 0 = .ok (.aload_n 0, 1) := by decide +kernel
theorem dX12_slips_1 : decode cX12_slips 1 = .ok (.iload_n 1, 1) := by decide +kernel
theorem dX12_slips_2 : decode cX12_slips 2 = .ok (.invokevirtual 206, 3) := by decide +kernel
theorem dX12_slips_5 : decode cX12_slips 5 = .ok (.ifCond .eq 36, 3) := by decide +kernel
theorem dX12_slips_8 : decode cX12_slips 8 = .ok (.iload_n 2, 1) := by decide +kernel
theorem dX12_slips_9 : decode cX12_slips 9 = .ok (.i2l, 1) := by decide +kernel
theorem dX12_slips_10 : decode cX12_slips 10 = .ok (.lconst 1, 1) := by decide +kernel
theorem dX12_slips_11 : decode cX12_slips 11 = .ok (.ldc2_w 233, 3) := by decide +kernel
theorem dX12_slips_14 : decode cX12_slips 14 = .ok (.invokestatic 64, 3) := by decide +kernel
theorem dX12_slips_17 : decode cX12_slips 17 = .ok (.ifCond .eq 24, 3) := by decide +kernel
theorem dX12_slips_20 : decode cX12_slips 20 = .ok (.aload_n 0, 1) := by decide +kernel
theorem dX12_slips_21 : decode cX12_slips 21 = .ok (.iload_n 3, 1) := by decide +kernel
theorem dX12_slips_22 : decode cX12_slips 22 = .ok (.invokevirtual 206, 3) := by decide +kernel
theorem dX12_slips_25 : decode cX12_slips 25 = .ok (.ifCond .eq 16, 3) := by decide +kernel
theorem dX12_slips_28 : decode cX12_slips 28 = .ok (.iload 4, 2) := by decide +kernel
theorem dX12_slips_30 : decode cX12_slips 30 = .ok (.i2l, 1) := by decide +kernel
theorem dX12_slips_31 : decode cX12_slips 31 = .ok (.lconst 0, 1) := by decide +kernel
theorem dX12_slips_32 : decode cX12_slips 32 = .ok (.ldc2_w 296, 3) := by decide +kernel
theorem dX12_slips_35 : decode cX12_slips 35 = .ok (.invokestatic 64, 3) := by decide +kernel
theorem dX12_slips_38 : decode cX12_slips 38 = .ok (.ifCond .ne 10, 3) := by decide +kernel
theorem dX12_slips_41 : decode cX12_slips 41 = .ok (.aload_n 0, 1) := by decide +kernel
theorem dX12_slips_42 : decode cX12_slips 42 = .ok (.bipush (-2), 2) := by decide +kernel
theorem dX12_slips_44 : decode cX12_slips 44 = .ok (.invokevirtual 88, 3) := by decide +kernel
theorem dX12_slips_47 : decode cX12_slips 47 = .ok (.ireturn, 1) := by decide +kernel
theorem dX12_slips_48 : decode cX12_slips 48 = .ok (.lconst 0, 1) := by decide +kernel
theorem dX12_slips_49 : decode cX12_slips 49 = .ok (.lstore 5, 2) := by decide +kernel
theorem dX12_slips_51 : decode cX12_slips 51 = .ok (.lconst 1, 1) := by decide +kernel
theorem dX12_slips_52 : decode cX12_slips 52 = .ok (.lstore 7, 2) := by decide +kernel
theorem dX12_slips_54 : decode cX12_slips 54 = .ok (.iconst 0, 1) := by decide +kernel
theorem dX12_slips_55 : decode cX12_slips 55 = .ok (.istore 9, 2) := by decide +kernel
theorem dX12_slips_57 : decode cX12_slips 57 = .ok (.iload 9, 2) := by decide +kernel
theorem dX12_slips_59 : decode cX12_slips 59 = .ok (.aload_n 0, 1) := by decide +kernel
theorem dX12_slips_60 : decode cX12_slips 60 = .ok (.getfield 7, 3) := by decide +kernel
theorem dX12_slips_63 : decode cX12_slips 63 = .ok (.iconst 0, 1) := by decide +kernel
theorem dX12_slips_64 : decode cX12_slips 64 = .ok (.iaload, 1) := by decide +kernel
theorem dX12_slips_65 : decode cX12_slips 65 = .ok (.if_icmp .ge 35, 3) := by decide +kernel
theorem dX12_slips_68 : decode cX12_slips 68 = .ok (.lload 7, 2) := by decide +kernel
theorem dX12_slips_70 : decode cX12_slips 70 = .ok (.aload_n 0, 1) := by decide +kernel
theorem dX12_slips_71 : decode cX12_slips 71 = .ok (.getfield 7, 3) := by decide +kernel
theorem dX12_slips_74 : decode cX12_slips 74 = .ok (.bipush 31, 2) := by decide +kernel
theorem dX12_slips_76 : decode cX12_slips 76 = .ok (.iload 9, 2) := by decide +kernel
theorem dX12_slips_78 : decode cX12_slips 78 = .ok (.iadd, 1) := by decide +kernel
theorem dX12_slips_79 : decode cX12_slips 79 = .ok (.iaload, 1) := by decide +kernel
theorem dX12_slips_80 : decode cX12_slips 80 = .ok (.iconst (-1), 1) := by decide +kernel
theorem dX12_slips_81 : decode cX12_slips 81 = .ok (.if_icmp .ne 7, 3) := by decide +kernel
theorem dX12_slips_84 : decode cX12_slips 84 = .ok (.lconst 1, 1) := by decide +kernel
theorem dX12_slips_85 : decode cX12_slips 85 = .ok (.goto 6, 3) := by decide +kernel
theorem dX12_slips_88 : decode cX12_slips 88 = .ok (.ldc2_w 296, 3) := by decide +kernel
theorem dX12_slips_91 : decode cX12_slips 91 = .ok (.lmul, 1) := by decide +kernel
theorem dX12_slips_92 : decode cX12_slips 92 = .ok (.lstore 7, 2) := by decide +kernel
theorem dX12_slips_94 : decode cX12_slips 94 = .ok (.iinc 9 1, 3) := by decide +kernel
theorem dX12_slips_97 : decode cX12_slips 97 = .ok (.goto (-40), 3) := by decide +kernel
theorem dX12_slips_100 : decode cX12_slips 100 = .ok (.iconst 0, 1) := by decide +kernel
theorem dX12_slips_101 : decode cX12_slips 101 = .ok (.istore 9, 2) := by decide +kernel
theorem dX12_slips_103 : decode cX12_slips 103 = .ok (.iload 9, 2) := by decide +kernel
theorem dX12_slips_105 : decode cX12_slips 105 = .ok (.iconst 1, 1) := by decide +kernel
theorem dX12_slips_106 : decode cX12_slips 106 = .ok (.aload_n 0, 1) := by decide +kernel
theorem dX12_slips_107 : decode cX12_slips 107 = .ok (.getfield 7, 3) := by decide +kernel
theorem dX12_slips_110 : decode cX12_slips 110 = .ok (.iconst 0, 1) := by decide +kernel
theorem dX12_slips_111 : decode cX12_slips 111 = .ok (.iaload, 1) := by decide +kernel
theorem dX12_slips_112 : decode cX12_slips 112 = .ok (.ishl, 1) := by decide +kernel
theorem dX12_slips_113 : decode cX12_slips 113 = .ok (.if_icmp .ge 171, 3) := by decide +kernel
theorem dX12_slips_116 : decode cX12_slips 116 = .ok (.lconst 1, 1) := by decide +kernel
theorem dX12_slips_117 : decode cX12_slips 117 = .ok (.lstore 10, 2) := by decide +kernel
theorem dX12_slips_119 : decode cX12_slips 119 = .ok (.aload_n 0, 1) := by decide +kernel
theorem dX12_slips_120 : decode cX12_slips 120 = .ok (.invokevirtual 253, 3) := by decide +kernel
theorem dX12_slips_123 : decode cX12_slips 123 = .ok (.iconst 0, 1) := by decide +kernel
theorem dX12_slips_124 : decode cX12_slips 124 = .ok (.istore 12, 2) := by decide +kernel
theorem dX12_slips_126 : decode cX12_slips 126 = .ok (.iload 12, 2) := by decide +kernel
theorem dX12_slips_128 : decode cX12_slips 128 = .ok (.aload_n 0, 1) := by decide +kernel
theorem dX12_slips_129 : decode cX12_slips 129 = .ok (.getfield 7, 3) := by decide +kernel
theorem dX12_slips_132 : decode cX12_slips 132 = .ok (.iconst 0, 1) := by decide +kernel
theorem dX12_slips_133 : decode cX12_slips 133 = .ok (.iaload, 1) := by decide +kernel
theorem dX12_slips_134 : decode cX12_slips 134 = .ok (.if_icmp .ge 108, 3) := by decide +kernel
theorem dX12_slips_137 : decode cX12_slips 137 = .ok (.aload_n 0, 1) := by decide +kernel
theorem dX12_slips_138 : decode cX12_slips 138 = .ok (.getfield 7, 3) := by decide +kernel
theorem dX12_slips_141 : decode cX12_slips 141 = .ok (.bipush 31, 2) := by decide +kernel
theorem dX12_slips_143 : decode cX12_slips 143 = .ok (.iload 12, 2) := by decide +kernel
theorem dX12_slips_145 : decode cX12_slips 145 = .ok (.iadd, 1) := by decide +kernel
theorem dX12_slips_146 : decode cX12_slips 146 = .ok (.iaload, 1) := by decide +kernel
theorem dX12_slips_147 : decode cX12_slips 147 = .ok (.iconst (-1), 1) := by decide +kernel
theorem dX12_slips_148 : decode cX12_slips 148 = .ok (.if_icmp .ne 26, 3) := by decide +kernel
theorem dX12_slips_151 : decode cX12_slips 151 = .ok (.lload 10, 2) := by decide +kernel
theorem dX12_slips_153 : decode cX12_slips 153 = .ok (.iload 9, 2) := by decide +kernel
theorem dX12_slips_155 : decode cX12_slips 155 = .ok (.iload 12, 2) := by decide +kernel
theorem dX12_slips_157 : decode cX12_slips 157 = .ok (.invokestatic 184, 3) := by decide +kernel
theorem dX12_slips_160 : decode cX12_slips 160 = .ok (.ifCond .eq 7, 3) := by decide +kernel
theorem dX12_slips_163 : decode cX12_slips 163 = .ok (.lconst 0, 1) := by decide +kernel
theorem dX12_slips_164 : decode cX12_slips 164 = .ok (.goto 4, 3) := by decide +kernel
theorem dX12_slips_167 : decode cX12_slips 167 = .ok (.lconst 1, 1) := by decide +kernel
theorem dX12_slips_168 : decode cX12_slips 168 = .ok (.lmul, 1) := by decide +kernel
theorem dX12_slips_169 : decode cX12_slips 169 = .ok (.lstore 10, 2) := by decide +kernel
theorem dX12_slips_171 : decode cX12_slips 171 = .ok (.goto 65, 3) := by decide +kernel
theorem dX12_slips_174 : decode cX12_slips 174 = .ok (.lload 10, 2) := by decide +kernel
theorem dX12_slips_176 : decode cX12_slips 176 = .ok (.iload 9, 2) := by decide +kernel
theorem dX12_slips_178 : decode cX12_slips 178 = .ok (.iload 12, 2) := by decide +kernel
theorem dX12_slips_180 : decode cX12_slips 180 = .ok (.invokestatic 184, 3) := by decide +kernel
theorem dX12_slips_183 : decode cX12_slips 183 = .ok (.ifCond .eq 9, 3) := by decide +kernel
theorem dX12_slips_186 : decode cX12_slips 186 = .ok (.iload 4, 2) := by decide +kernel
theorem dX12_slips_188 : decode cX12_slips 188 = .ok (.i2l, 1) := by decide +kernel
theorem dX12_slips_189 : decode cX12_slips 189 = .ok (.goto 9, 3) := by decide +kernel
theorem dX12_slips_192 : decode cX12_slips 192 = .ok (.bipush 10, 2) := by decide +kernel
theorem dX12_slips_194 : decode cX12_slips 194 = .ok (.iload 4, 2) := by decide +kernel
theorem dX12_slips_196 : decode cX12_slips 196 = .ok (.isub, 1) := by decide +kernel
theorem dX12_slips_197 : decode cX12_slips 197 = .ok (.i2l, 1) := by decide +kernel
theorem dX12_slips_198 : decode cX12_slips 198 = .ok (.lmul, 1) := by decide +kernel
theorem dX12_slips_199 : decode cX12_slips 199 = .ok (.lstore 10, 2) := by decide +kernel
theorem dX12_slips_201 : decode cX12_slips 201 = .ok (.aload_n 0, 1) := by decide +kernel
theorem dX12_slips_202 : decode cX12_slips 202 = .ok (.getfield 7, 3) := by decide +kernel
theorem dX12_slips_205 : decode cX12_slips 205 = .ok (.sipush 1235, 3) := by decide +kernel
theorem dX12_slips_208 : decode cX12_slips 208 = .ok (.iload 12, 2) := by decide +kernel
theorem dX12_slips_210 : decode cX12_slips 210 = .ok (.iadd, 1) := by decide +kernel
theorem dX12_slips_211 : decode cX12_slips 211 = .ok (.iload 9, 2) := by decide +kernel
theorem dX12_slips_213 : decode cX12_slips 213 = .ok (.iload 12, 2) := by decide +kernel
theorem dX12_slips_215 : decode cX12_slips 215 = .ok (.invokestatic 184, 3) := by decide +kernel
theorem dX12_slips_218 : decode cX12_slips 218 = .ok (.ifCond .eq 7, 3) := by decide +kernel
theorem dX12_slips_221 : decode cX12_slips 221 = .ok (.iconst (-1), 1) := by decide +kernel
theorem dX12_slips_222 : decode cX12_slips 222 = .ok (.goto 13, 3) := by decide +kernel
theorem dX12_slips_225 : decode cX12_slips 225 = .ok (.aload_n 0, 1) := by decide +kernel
theorem dX12_slips_226 : decode cX12_slips 226 = .ok (.getfield 7, 3) := by decide +kernel
theorem dX12_slips_229 : decode cX12_slips 229 = .ok (.bipush 31, 2) := by decide +kernel
theorem dX12_slips_231 : decode cX12_slips 231 = .ok (.iload 12, 2) := by decide +kernel
theorem dX12_slips_233 : decode cX12_slips 233 = .ok (.iadd, 1) := by decide +kernel
theorem dX12_slips_234 : decode cX12_slips 234 = .ok (.iaload, 1) := by decide +kernel
theorem dX12_slips_235 : decode cX12_slips 235 = .ok (.iastore, 1) := by decide +kernel
theorem dX12_slips_236 : decode cX12_slips 236 = .ok (.iinc 12 1, 3) := by decide +kernel
theorem dX12_slips_239 : decode cX12_slips 239 = .ok (.goto (-113), 3) := by decide +kernel
theorem dX12_slips_242 : decode cX12_slips 242 = .ok (.lload 10, 2) := by decide +kernel
theorem dX12_slips_244 : decode cX12_slips 244 = .ok (.lconst 0, 1) := by decide +kernel
theorem dX12_slips_245 : decode cX12_slips 245 = .ok (.lcmp, 1) := by decide +kernel
theorem dX12_slips_246 : decode cX12_slips 246 = .ok (.ifCond .le 32, 3) := by decide +kernel
theorem dX12_slips_249 : decode cX12_slips 249 = .ok (.aload_n 0, 1) := by decide +kernel
theorem dX12_slips_250 : decode cX12_slips 250 = .ok (.sipush 1204, 3) := by decide +kernel
theorem dX12_slips_253 : decode cX12_slips 253 = .ok (.iload_n 1, 1) := by decide +kernel
theorem dX12_slips_254 : decode cX12_slips 254 = .ok (.iload_n 2, 1) := by decide +kernel
theorem dX12_slips_255 : decode cX12_slips 255 = .ok (.invokevirtual 235, 3) := by decide +kernel
theorem dX12_slips_258 : decode cX12_slips 258 = .ok (.lload 5, 2) := by decide +kernel
theorem dX12_slips_260 : decode cX12_slips 260 = .ok (.aload_n 0, 1) := by decide +kernel
theorem dX12_slips_261 : decode cX12_slips 261 = .ok (.getfield 33, 3) := by decide +kernel
theorem dX12_slips_264 : decode cX12_slips 264 = .ok (.iload_n 3, 1) := by decide +kernel
theorem dX12_slips_265 : decode cX12_slips 265 = .ok (.iaload, 1) := by decide +kernel
theorem dX12_slips_266 : decode cX12_slips 266 = .ok (.ifCond .le 8, 3) := by decide +kernel
theorem dX12_slips_269 : decode cX12_slips 269 = .ok (.lload 10, 2) := by decide +kernel
theorem dX12_slips_271 : decode cX12_slips 271 = .ok (.goto 4, 3) := by decide +kernel
theorem dX12_slips_274 : decode cX12_slips 274 = .ok (.lconst 0, 1) := by decide +kernel
theorem dX12_slips_275 : decode cX12_slips 275 = .ok (.ladd, 1) := by decide +kernel
theorem dX12_slips_276 : decode cX12_slips 276 = .ok (.lstore 5, 2) := by decide +kernel
theorem dX12_slips_278 : decode cX12_slips 278 = .ok (.iinc 9 1, 3) := by decide +kernel
theorem dX12_slips_281 : decode cX12_slips 281 = .ok (.goto (-178), 3) := by decide +kernel
theorem dX12_slips_284 : decode cX12_slips 284 = .ok (.lload 5, 2) := by decide +kernel
theorem dX12_slips_286 : decode cX12_slips 286 = .ok (.lstore 9, 2) := by decide +kernel
theorem dX12_slips_288 : decode cX12_slips 288 = .ok (.lload 7, 2) := by decide +kernel
theorem dX12_slips_290 : decode cX12_slips 290 = .ok (.lstore 11, 2) := by decide +kernel
theorem dX12_slips_292 : decode cX12_slips 292 = .ok (.lload 11, 2) := by decide +kernel
theorem dX12_slips_294 : decode cX12_slips 294 = .ok (.lconst 0, 1) := by decide +kernel
theorem dX12_slips_295 : decode cX12_slips 295 = .ok (.lcmp, 1) := by decide +kernel
theorem dX12_slips_296 : decode cX12_slips 296 = .ok (.ifCond .eq 21, 3) := by decide +kernel
theorem dX12_slips_299 : decode cX12_slips 299 = .ok (.lload 9, 2) := by decide +kernel
theorem dX12_slips_301 : decode cX12_slips 301 = .ok (.lload 11, 2) := by decide +kernel
theorem dX12_slips_303 : decode cX12_slips 303 = .ok (.lrem, 1) := by decide +kernel
theorem dX12_slips_304 : decode cX12_slips 304 = .ok (.lstore 13, 2) := by decide +kernel
theorem dX12_slips_306 : decode cX12_slips 306 = .ok (.lload 11, 2) := by decide +kernel
theorem dX12_slips_308 : decode cX12_slips 308 = .ok (.lstore 9, 2) := by decide +kernel
theorem dX12_slips_310 : decode cX12_slips 310 = .ok (.lload 13, 2) := by decide +kernel
theorem dX12_slips_312 : decode cX12_slips 312 = .ok (.lstore 11, 2) := by decide +kernel
theorem dX12_slips_314 : decode cX12_slips 314 = .ok (.goto (-22), 3) := by decide +kernel
theorem dX12_slips_317 : decode cX12_slips 317 = .ok (.aload_n 0, 1) := by decide +kernel
theorem dX12_slips_318 : decode cX12_slips 318 = .ok (.lload 5, 2) := by decide +kernel
theorem dX12_slips_320 : decode cX12_slips 320 = .ok (.lload 9, 2) := by decide +kernel
theorem dX12_slips_322 : decode cX12_slips 322 = .ok (.ldiv, 1) := by decide +kernel
theorem dX12_slips_323 : decode cX12_slips 323 = .ok (.putfield 20, 3) := by decide +kernel
theorem dX12_slips_326 : decode cX12_slips 326 = .ok (.aload_n 0, 1) := by decide +kernel
theorem dX12_slips_327 : decode cX12_slips 327 = .ok (.lload 7, 2) := by decide +kernel
theorem dX12_slips_329 : decode cX12_slips 329 = .ok (.lload 9, 2) := by decide +kernel
theorem dX12_slips_331 : decode cX12_slips 331 = .ok (.ldiv, 1) := by decide +kernel
theorem dX12_slips_332 : decode cX12_slips 332 = .ok (.putfield 24, 3) := by decide +kernel
theorem dX12_slips_335 : decode cX12_slips 335 = .ok (.iconst 1, 1) := by decide +kernel
theorem dX12_slips_336 : decode cX12_slips 336 = .ok (.ireturn, 1) := by decide +kernel
set_option maxRecDepth 20000 in
theorem ggX12_decades_X12_in : GoodIn wsX12_decades wsX12_in := goodIn_r _ [14] (by decide +kernel) (by decide +kernel)
set_option maxRecDepth 20000 in
theorem gX12_decades_X12_in : GoodIn wsX12_decades (va_wsS RX12 64 yX12_in wsX12_in) := goodIn_app (goodIn_of _ (by decide +kernel)) ggX12_decades_X12_in
set_option maxRecDepth 20000 in
theorem ggX12_decades_X12_bad : GoodIn wsX12_decades wsX12_bad := goodIn_r _ [18, 19, 87, 88, 89, 90, 91, 92, 93, 94, 95, 96, 97, 98, 99, 100, 101, 102, 103, 104, 105, 106, 107, 108] (by decide +kernel) (by decide +kernel)
set_option maxRecDepth 20000 in
theorem gX12_decades_X12_bad : GoodIn wsX12_decades (wsV RX12 88 RX12 yX12_bad wsX12_bad) := goodIn_app (goodIn_of _ (by decide +kernel)) ggX12_decades_X12_bad
set_option maxRecDepth 20000 in
theorem ggX12_decades_X12_tries : GoodIn wsX12_decades wsX12_tries := goodIn_r _ [23, 10, 87, 88, 89, 90, 91, 92, 93, 94, 95, 96, 97, 98, 99, 100, 101, 102, 103, 104, 105, 106, 107, 108] (by decide +kernel) (by decide +kernel)
set_option maxRecDepth 20000 in
theorem gX12_decades_X12_tries : GoodIn wsX12_decades (wsV RX12 253 RX12 yX12_tries wsX12_tries) := goodIn_app (goodIn_of _ (by decide +kernel)) ggX12_decades_X12_tries
set_option maxRecDepth 20000 in
theorem ggX12_decades_X12_tugs : GoodIn wsX12_decades wsX12_tugs := goodIn_r _ [27, 28, 29, 30, 10, 31, 32, 13, 33, 34, 35, 36, 37, 38, 39, 40, 87, 88, 89, 90, 91, 92, 93, 94, 95, 96, 97, 98, 99, 100, 101, 102, 103, 104, 105, 106, 107, 108] (by decide +kernel) (by decide +kernel)
set_option maxRecDepth 20000 in
theorem gX12_decades_X12_tugs : GoodIn wsX12_decades (wsV RX12 235 RX12 yX12_tugs wsX12_tugs) := goodIn_app (goodIn_of _ (by decide +kernel)) ggX12_decades_X12_tugs
set_option maxRecDepth 20000 in
theorem ggX12_decades_X12_whoFeels : GoodIn wsX12_decades wsX12_whoFeels := goodIn_r _ [44, 10, 28, 87, 88, 89, 90, 91, 92, 93, 94, 95, 96, 97, 98, 99, 100, 101, 102, 103, 104, 105, 106, 107, 108] (by decide +kernel) (by decide +kernel)
set_option maxRecDepth 20000 in
theorem gX12_decades_X12_whoFeels : GoodIn wsX12_decades (wsV RX12 239 RX12 yX12_whoFeels wsX12_whoFeels) := goodIn_app (goodIn_of _ (by decide +kernel)) ggX12_decades_X12_whoFeels
set_option maxRecDepth 20000 in
theorem ggX12_decades_X12_ones : GoodIn wsX12_decades wsX12_ones := goodIn_r _ [47] (by decide +kernel) (by decide +kernel)
set_option maxRecDepth 20000 in
theorem gX12_decades_X12_ones : GoodIn wsX12_decades (va_wsS RX12 216 yX12_ones wsX12_ones) := goodIn_app (goodIn_of _ (by decide +kernel)) ggX12_decades_X12_ones
set_option maxRecDepth 20000 in
theorem ggX12_decades_X12_passes : GoodIn wsX12_decades wsX12_passes := goodIn_r _ [51, 52, 10, 53, 54, 55, 56, 13, 57, 58, 59, 60, 61, 62, 63, 64, 65, 66, 67, 68, 69, 70, 71, 72, 73, 74, 75, 76, 77, 78, 79, 80, 81, 82, 83, 84, 85, 86, 11, 12, 14, 87, 88, 89, 90, 91, 92, 93, 94, 95, 96, 97, 98, 99, 100, 101, 102, 103, 104, 105, 106, 107, 108] (by decide +kernel) (by decide +kernel)
set_option maxRecDepth 20000 in
theorem gX12_decades_X12_passes : GoodIn wsX12_decades (wsV RX12 148 RX12 yX12_passes wsX12_passes) := goodIn_app (goodIn_of _ (by decide +kernel)) ggX12_decades_X12_passes
theorem dX12_decades_0 : decode cX12_decades 0 = .ok (.iload_n 1, 1) := by decide +kernel
theorem dX12_decades_1 : decode cX12_decades 1 = .ok (.i2l, 1) := by decide +kernel
theorem dX12_decades_2 : decode cX12_decades 2 = .ok (.lconst 0, 1) := by decide +kernel
theorem dX12_decades_3 : decode cX12_decades 3 = .ok (.ldc2_w 298, 3) := by decide +kernel
theorem dX12_decades_6 : decode cX12_decades 6 = .ok (.invokestatic 64, 3) := by decide +kernel
theorem dX12_decades_9 : decode cX12_decades 9 = .ok (.ifCond .eq 15, 3) := by decide +kernel
theorem dX12_decades_12 : decode cX12_decades 12 = .ok (.iload_n 2, 1) := by decide +kernel
theorem dX12_decades_13 : decode cX12_decades 13 = .ok (.i2l, 1) := by decide +kernel
theorem dX12_decades_14 : decode cX12_decades 14 = .ok (.lconst 0, 1) := by decide +kernel
theorem dX12_decades_15 : decode cX12_decades 15 = .ok (.ldc2_w 219, 3) := by decide +kernel
theorem dX12_decades_18 : decode cX12_decades 18 = .ok (.invokestatic 64, 3) := by decide +kernel
theorem dX12_decades_21 : decode cX12_decades 21 = .ok (.ifCond .ne 10, 3) := by decide +kernel
theorem dX12_decades_24 : decode cX12_decades 24 = .ok (.aload_n 0, 1) := by decide +kernel
theorem dX12_decades_25 : decode cX12_decades 25 = .ok (.bipush (-2), 2) := by decide +kernel
theorem dX12_decades_27 : decode cX12_decades 27 = .ok (.invokevirtual 88, 3) := by decide +kernel
theorem dX12_decades_30 : decode cX12_decades 30 = .ok (.ireturn, 1) := by decide +kernel
theorem dX12_decades_31 : decode cX12_decades 31 = .ok (.aload_n 0, 1) := by decide +kernel
theorem dX12_decades_32 : decode cX12_decades 32 = .ok (.invokevirtual 253, 3) := by decide +kernel
theorem dX12_decades_35 : decode cX12_decades 35 = .ok (.iload_n 1, 1) := by decide +kernel
theorem dX12_decades_36 : decode cX12_decades 36 = .ok (.i2l, 1) := by decide +kernel
theorem dX12_decades_37 : decode cX12_decades 37 = .ok (.lstore_n 3, 1) := by decide +kernel
theorem dX12_decades_38 : decode cX12_decades 38 = .ok (.iconst 0, 1) := by decide +kernel
theorem dX12_decades_39 : decode cX12_decades 39 = .ok (.istore 5, 2) := by decide +kernel
theorem dX12_decades_41 : decode cX12_decades 41 = .ok (.iconst 0, 1) := by decide +kernel
theorem dX12_decades_42 : decode cX12_decades 42 = .ok (.istore 6, 2) := by decide +kernel
theorem dX12_decades_44 : decode cX12_decades 44 = .ok (.iload 6, 2) := by decide +kernel
theorem dX12_decades_46 : decode cX12_decades 46 = .ok (.iload_n 2, 1) := by decide +kernel
theorem dX12_decades_47 : decode cX12_decades 47 = .ok (.if_icmp .ge 90, 3) := by decide +kernel
theorem dX12_decades_50 : decode cX12_decades 50 = .ok (.lload_n 3, 1) := by decide +kernel
theorem dX12_decades_51 : decode cX12_decades 51 = .ok (.ldc2_w 300, 3) := by decide +kernel
theorem dX12_decades_54 : decode cX12_decades 54 = .ok (.lmul, 1) := by decide +kernel
theorem dX12_decades_55 : decode cX12_decades 55 = .ok (.ldc2_w 302, 3) := by decide +kernel
theorem dX12_decades_58 : decode cX12_decades 58 = .ok (.ladd, 1) := by decide +kernel
theorem dX12_decades_59 : decode cX12_decades 59 = .ok (.ldc2_w 304, 3) := by decide +kernel
theorem dX12_decades_62 : decode cX12_decades 62 = .ok (.lrem, 1) := by decide +kernel
theorem dX12_decades_63 : decode cX12_decades 63 = .ok (.lstore_n 3, 1) := by decide +kernel
theorem dX12_decades_64 : decode cX12_decades 64 = .ok (.lload_n 3, 1) := by decide +kernel
theorem dX12_decades_65 : decode cX12_decades 65 = .ok (.ldc2_w 306, 3) := by decide +kernel
theorem dX12_decades_68 : decode cX12_decades 68 = .ok (.ldiv, 1) := by decide +kernel
theorem dX12_decades_69 : decode cX12_decades 69 = .ok (.ldc2_w 233, 3) := by decide +kernel
theorem dX12_decades_72 : decode cX12_decades 72 = .ok (.lrem, 1) := by decide +kernel
theorem dX12_decades_73 : decode cX12_decades 73 = .ok (.l2i, 1) := by decide +kernel
theorem dX12_decades_74 : decode cX12_decades 74 = .ok (.iconst 1, 1) := by decide +kernel
theorem dX12_decades_75 : decode cX12_decades 75 = .ok (.iadd, 1) := by decide +kernel
theorem dX12_decades_76 : decode cX12_decades 76 = .ok (.istore 7, 2) := by decide +kernel
theorem dX12_decades_78 : decode cX12_decades 78 = .ok (.lload_n 3, 1) := by decide +kernel
theorem dX12_decades_79 : decode cX12_decades 79 = .ok (.ldc2_w 308, 3) := by decide +kernel
theorem dX12_decades_82 : decode cX12_decades 82 = .ok (.ldiv, 1) := by decide +kernel
theorem dX12_decades_83 : decode cX12_decades 83 = .ok (.ldc2_w 256, 3) := by decide +kernel
theorem dX12_decades_86 : decode cX12_decades 86 = .ok (.lrem, 1) := by decide +kernel
theorem dX12_decades_87 : decode cX12_decades 87 = .ok (.l2i, 1) := by decide +kernel
theorem dX12_decades_88 : decode cX12_decades 88 = .ok (.istore 8, 2) := by decide +kernel
theorem dX12_decades_90 : decode cX12_decades 90 = .ok (.iload 8, 2) := by decide +kernel
theorem dX12_decades_92 : decode cX12_decades 92 = .ok (.aload_n 0, 1) := by decide +kernel
theorem dX12_decades_93 : decode cX12_decades 93 = .ok (.getfield 7, 3) := by decide +kernel
theorem dX12_decades_96 : decode cX12_decades 96 = .ok (.iconst 0, 1) := by decide +kernel
theorem dX12_decades_97 : decode cX12_decades 97 = .ok (.iaload, 1) := by decide +kernel
theorem dX12_decades_98 : decode cX12_decades 98 = .ok (.if_icmp .ge 26, 3) := by decide +kernel
theorem dX12_decades_101 : decode cX12_decades 101 = .ok (.aload_n 0, 1) := by decide +kernel
theorem dX12_decades_102 : decode cX12_decades 102 = .ok (.sipush 1204, 3) := by decide +kernel
theorem dX12_decades_105 : decode cX12_decades 105 = .ok (.iload 8, 2) := by decide +kernel
theorem dX12_decades_107 : decode cX12_decades 107 = .ok (.iload 7, 2) := by decide +kernel
theorem dX12_decades_109 : decode cX12_decades 109 = .ok (.invokevirtual 235, 3) := by decide +kernel
theorem dX12_decades_112 : decode cX12_decades 112 = .ok (.iload 5, 2) := by decide +kernel
theorem dX12_decades_114 : decode cX12_decades 114 = .ok (.aload_n 0, 1) := by decide +kernel
theorem dX12_decades_115 : decode cX12_decades 115 = .ok (.invokevirtual 239, 3) := by decide +kernel
theorem dX12_decades_118 : decode cX12_decades 118 = .ok (.invokestatic 216, 3) := by decide +kernel
theorem dX12_decades_121 : decode cX12_decades 121 = .ok (.iadd, 1) := by decide +kernel
theorem dX12_decades_122 : decode cX12_decades 122 = .ok (.istore 5, 2) := by decide +kernel
theorem dX12_decades_124 : decode cX12_decades 124 = .ok (.aload_n 0, 1) := by decide +kernel
theorem dX12_decades_125 : decode cX12_decades 125 = .ok (.sipush 1204, 3) := by decide +kernel
theorem dX12_decades_128 : decode cX12_decades 128 = .ok (.invokevirtual 148, 3) := by decide +kernel
theorem dX12_decades_131 : decode cX12_decades 131 = .ok (.iinc 6 1, 3) := by decide +kernel
theorem dX12_decades_134 : decode cX12_decades 134 = .ok (.goto (-90), 3) := by decide +kernel
theorem dX12_decades_137 : decode cX12_decades 137 = .ok (.iload 5, 2) := by decide +kernel
theorem dX12_decades_139 : decode cX12_decades 139 = .ok (.ireturn, 1) := by decide +kernel
set_option maxRecDepth 20000 in
theorem ggX12_part_X12_bad : GoodIn wsX12_part wsX12_bad := goodIn_r _ [7, 8, 9, 10, 11, 12, 13, 14, 15, 16, 17, 18, 19, 20, 21, 22, 23, 24, 25, 26, 27, 28, 29, 30] (by decide +kernel) (by decide +kernel)
set_option maxRecDepth 20000 in
theorem gX12_part_X12_bad : GoodIn wsX12_part (wsV RX12 88 RX12 yX12_bad wsX12_bad) := goodIn_app (goodIn_of _ (by decide +kernel)) ggX12_part_X12_bad
theorem dX12_part_0 : decode cX12_part 0 = .ok (.iload_n 1, 1) := by decide +kernel
theorem dX12_part_1 : decode cX12_part 1 = .ok (.ifCond .ne 10, 3) := by decide +kernel
theorem dX12_part_4 : decode cX12_part 4 = .ok (.aload_n 0, 1) := by decide +kernel
theorem dX12_part_5 : decode cX12_part 5 = .ok (.getfield 20, 3) := by decide +kernel
theorem dX12_part_8 : decode cX12_part 8 = .ok (.goto 22, 3) := by decide +kernel
theorem dX12_part_11 : decode cX12_part 11 = .ok (.iload_n 1, 1) := by decide +kernel
theorem dX12_part_12 : decode cX12_part 12 = .ok (.iconst 1, 1) := by decide +kernel
theorem dX12_part_13 : decode cX12_part 13 = .ok (.if_icmp .ne 10, 3) := by decide +kernel
theorem dX12_part_16 : decode cX12_part 16 = .ok (.aload_n 0, 1) := by decide +kernel
theorem dX12_part_17 : decode cX12_part 17 = .ok (.getfield 24, 3) := by decide +kernel
theorem dX12_part_20 : decode cX12_part 20 = .ok (.goto 10, 3) := by decide +kernel
theorem dX12_part_23 : decode cX12_part 23 = .ok (.aload_n 0, 1) := by decide +kernel
theorem dX12_part_24 : decode cX12_part 24 = .ok (.bipush (-2), 2) := by decide +kernel
theorem dX12_part_26 : decode cX12_part 26 = .ok (.invokevirtual 88, 3) := by decide +kernel
theorem dX12_part_29 : decode cX12_part 29 = .ok (.i2l, 1) := by decide +kernel
theorem dX12_part_30 : decode cX12_part 30 = .ok (.lreturn, 1) := by decide +kernel
set_option maxRecDepth 20000 in
theorem ggX12_image_X12_in : GoodIn wsX12_image wsX12_in := goodIn_r _ [5] (by decide +kernel) (by decide +kernel)
set_option maxRecDepth 20000 in
theorem gX12_image_X12_in : GoodIn wsX12_image (va_wsS RX12 64 yX12_in wsX12_in) := goodIn_app (goodIn_of _ (by decide +kernel)) ggX12_image_X12_in
set_option maxRecDepth 20000 in
theorem ggX12_image_X12_bad : GoodIn wsX12_image wsX12_bad := goodIn_r _ [9, 10, 16, 17, 18, 19, 20, 21, 22, 23, 24, 25, 26, 27, 28, 29, 30, 31, 32, 33, 34, 35, 36, 37] (by decide +kernel) (by decide +kernel)
set_option maxRecDepth 20000 in
theorem gX12_image_X12_bad : GoodIn wsX12_image (wsV RX12 88 RX12 yX12_bad wsX12_bad) := goodIn_app (goodIn_of _ (by decide +kernel)) ggX12_image_X12_bad
set_option maxRecDepth 20000 in
theorem ggX12_image_X12_copy : GoodIn wsX12_image wsX12_copy := goodIn_r _ [14, 15, 16, 17, 18, 19, 20, 21, 22, 23, 24, 25, 26, 27, 28, 29, 30, 31, 32, 33, 34, 35, 36, 37] (by decide +kernel) (by decide +kernel)
set_option maxRecDepth 20000 in
theorem gX12_image_X12_copy : GoodIn wsX12_image (wsV RX12 177 RX12 yX12_copy wsX12_copy) := goodIn_app (goodIn_of _ (by decide +kernel)) ggX12_image_X12_copy
theorem dX12_image_0 : decode cX12_image 0 = .ok (.iload_n 1, 1) := by decide +kernel
theorem dX12_image_1 : decode cX12_image 1 = .ok (.i2l, 1) := by decide +kernel
theorem dX12_image_2 : decode cX12_image 2 = .ok (.lconst 0, 1) := by decide +kernel
theorem dX12_image_3 : decode cX12_image 3 = .ok (.lconst 1, 1) := by decide +kernel
theorem dX12_image_4 : decode cX12_image 4 = .ok (.invokestatic 64, 3) := by decide +kernel
theorem dX12_image_7 : decode cX12_image 7 = .ok (.ifCond .ne 10, 3) := by decide +kernel
theorem dX12_image_10 : decode cX12_image 10 = .ok (.aload_n 0, 1) := by decide +kernel
theorem dX12_image_11 : decode cX12_image 11 = .ok (.bipush (-2), 2) := by decide +kernel
theorem dX12_image_13 : decode cX12_image 13 = .ok (.invokevirtual 88, 3) := by decide +kernel
theorem dX12_image_16 : decode cX12_image 16 = .ok (.ireturn, 1) := by decide +kernel
theorem dX12_image_17 : decode cX12_image 17 = .ok (.aload_n 0, 1) := by decide +kernel
theorem dX12_image_18 : decode cX12_image 18 = .ok (.iconst 0, 1) := by decide +kernel
theorem dX12_image_19 : decode cX12_image 19 = .ok (.sipush 301, 3) := by decide +kernel
theorem dX12_image_22 : decode cX12_image 22 = .ok (.sipush 301, 3) := by decide +kernel
theorem dX12_image_25 : decode cX12_image 25 = .ok (.iload_n 1, 1) := by decide +kernel
theorem dX12_image_26 : decode cX12_image 26 = .ok (.imul, 1) := by decide +kernel
theorem dX12_image_27 : decode cX12_image 27 = .ok (.iadd, 1) := by decide +kernel
theorem dX12_image_28 : decode cX12_image 28 = .ok (.invokevirtual 177, 3) := by decide +kernel
theorem dX12_image_31 : decode cX12_image 31 = .ok (.aload_n 0, 1) := by decide +kernel
theorem dX12_image_32 : decode cX12_image 32 = .ok (.getfield 13, 3) := by decide +kernel
theorem dX12_image_35 : decode cX12_image 35 = .ok (.iload_n 1, 1) := by decide +kernel
theorem dX12_image_36 : decode cX12_image 36 = .ok (.iconst 1, 1) := by decide +kernel
theorem dX12_image_37 : decode cX12_image 37 = .ok (.bastore, 1) := by decide +kernel
theorem dX12_image_38 : decode cX12_image 38 = .ok (.iconst 1, 1) := by decide +kernel
theorem dX12_image_39 : decode cX12_image 39 = .ok (.ireturn, 1) := by decide +kernel
set_option maxRecDepth 20000 in
theorem ggX12_from_X12_in : GoodIn wsX12_from wsX12_in := goodIn_r _ [5] (by decide +kernel) (by decide +kernel)
set_option maxRecDepth 20000 in
theorem gX12_from_X12_in : GoodIn wsX12_from (va_wsS RX12 64 yX12_in wsX12_in) := goodIn_app (goodIn_of _ (by decide +kernel)) ggX12_from_X12_in
set_option maxRecDepth 20000 in
theorem ggX12_from_X12_bad : GoodIn wsX12_from wsX12_bad := goodIn_r _ [9, 10, 20, 21, 22, 23, 24, 25, 26, 27, 28, 29, 30, 31, 32, 33, 34, 35, 36, 37, 38, 39, 40, 41] (by decide +kernel) (by decide +kernel)
set_option maxRecDepth 20000 in
theorem gX12_from_X12_bad : GoodIn wsX12_from (wsV RX12 88 RX12 yX12_bad wsX12_bad) := goodIn_app (goodIn_of _ (by decide +kernel)) ggX12_from_X12_bad
set_option maxRecDepth 20000 in
theorem ggX12_from_X12_no : GoodIn wsX12_from wsX12_no := goodIn_r _ [14, 10, 20, 21, 22, 23, 24, 25, 26, 27, 28, 29, 30, 31, 32, 33, 34, 35, 36, 37, 38, 39, 40, 41] (by decide +kernel) (by decide +kernel)
set_option maxRecDepth 20000 in
theorem gX12_from_X12_no : GoodIn wsX12_from (wsV RX12 210 RX12 yX12_no wsX12_no) := goodIn_app (goodIn_of _ (by decide +kernel)) ggX12_from_X12_no
set_option maxRecDepth 20000 in
theorem ggX12_from_X12_copy : GoodIn wsX12_from wsX12_copy := goodIn_r _ [18, 19, 20, 21, 22, 23, 24, 25, 26, 27, 28, 29, 30, 31, 32, 33, 34, 35, 36, 37, 38, 39, 40, 41] (by decide +kernel) (by decide +kernel)
set_option maxRecDepth 20000 in
theorem gX12_from_X12_copy : GoodIn wsX12_from (wsV RX12 177 RX12 yX12_copy wsX12_copy) := goodIn_app (goodIn_of _ (by decide +kernel)) ggX12_from_X12_copy
theorem dX12_from_0 : decode cX12_from 0 = .ok (.iload_n 1, 1) := by decide +kernel
theorem dX12_from_1 : decode cX12_from 1 = .ok (.i2l, 1) := by decide +kernel
theorem dX12_from_2 : decode cX12_from 2 = .ok (.lconst 0, 1) := by decide +kernel
theorem dX12_from_3 : decode cX12_from 3 = .ok (.lconst 1, 1) := by decide +kernel
theorem dX12_from_4 : decode cX12_from 4 = .ok (.invokestatic 64, 3) := by decide +kernel
theorem dX12_from_7 : decode cX12_from 7 = .ok (.ifCond .ne 10, 3) := by decide +kernel
theorem dX12_from_10 : decode cX12_from 10 = .ok (.aload_n 0, 1) := by decide +kernel
theorem dX12_from_11 : decode cX12_from 11 = .ok (.bipush (-2), 2) := by decide +kernel
theorem dX12_from_13 : decode cX12_from 13 = .ok (.invokevirtual 88, 3) := by decide +kernel
theorem dX12_from_16 : decode cX12_from 16 = .ok (.ireturn, 1) := by decide +kernel
theorem dX12_from_17 : decode cX12_from 17 = .ok (.aload_n 0, 1) := by decide +kernel
theorem dX12_from_18 : decode cX12_from 18 = .ok (.getfield 13, 3) := by decide +kernel
theorem dX12_from_21 : decode cX12_from 21 = .ok (.iload_n 1, 1) := by decide +kernel
theorem dX12_from_22 : decode cX12_from 22 = .ok (.baload, 1) := by decide +kernel
theorem dX12_from_23 : decode cX12_from 23 = .ok (.ifCond .ne 8, 3) := by decide +kernel
theorem dX12_from_26 : decode cX12_from 26 = .ok (.aload_n 0, 1) := by decide +kernel
theorem dX12_from_27 : decode cX12_from 27 = .ok (.invokevirtual 210, 3) := by decide +kernel
theorem dX12_from_30 : decode cX12_from 30 = .ok (.ireturn, 1) := by decide +kernel
theorem dX12_from_31 : decode cX12_from 31 = .ok (.aload_n 0, 1) := by decide +kernel
theorem dX12_from_32 : decode cX12_from 32 = .ok (.sipush 301, 3) := by decide +kernel
theorem dX12_from_35 : decode cX12_from 35 = .ok (.sipush 301, 3) := by decide +kernel
theorem dX12_from_38 : decode cX12_from 38 = .ok (.iload_n 1, 1) := by decide +kernel
theorem dX12_from_39 : decode cX12_from 39 = .ok (.imul, 1) := by decide +kernel
theorem dX12_from_40 : decode cX12_from 40 = .ok (.iadd, 1) := by decide +kernel
theorem dX12_from_41 : decode cX12_from 41 = .ok (.iconst 0, 1) := by decide +kernel
theorem dX12_from_42 : decode cX12_from 42 = .ok (.invokevirtual 177, 3) := by decide +kernel
theorem dX12_from_45 : decode cX12_from 45 = .ok (.iconst 1, 1) := by decide +kernel
theorem dX12_from_46 : decode cX12_from 46 = .ok (.ireturn, 1) := by decide +kernel
set_option maxRecDepth 20000 in
theorem ggX12_status_X12_in : GoodIn wsX12_status wsX12_in := goodIn_r _ [6] (by decide +kernel) (by decide +kernel)
set_option maxRecDepth 20000 in
theorem gX12_status_X12_in : GoodIn wsX12_status (va_wsS RX12 64 yX12_in wsX12_in) := goodIn_app (goodIn_of _ (by decide +kernel)) ggX12_status_X12_in
set_option maxRecDepth 20000 in
theorem ggX12_status_X12_bad : GoodIn wsX12_status wsX12_bad := goodIn_r _ [10, 2, 11, 12, 13, 14, 15, 16, 17, 18, 19, 20, 21, 22, 23, 24, 25, 26, 27, 28, 29, 30, 31, 32] (by decide +kernel) (by decide +kernel)
set_option maxRecDepth 20000 in
theorem gX12_status_X12_bad : GoodIn wsX12_status (wsV RX12 88 RX12 yX12_bad wsX12_bad) := goodIn_app (goodIn_of _ (by decide +kernel)) ggX12_status_X12_bad
theorem dX12_status_0 : decode cX12_status 0 = .ok (.iload_n 1, 1) := by decide +kernel
theorem dX12_status_1 : decode cX12_status 1 = .ok (.i2l, 1) := by decide +kernel
theorem dX12_status_2 : decode cX12_status 2 = .ok (.lconst 0, 1) := by decide +kernel
theorem dX12_status_3 : decode cX12_status 3 = .ok (.ldc2_w 136, 3) := by decide +kernel
theorem dX12_status_6 : decode cX12_status 6 = .ok (.invokestatic 64, 3) := by decide +kernel
theorem dX12_status_9 : decode cX12_status 9 = .ok (.ifCond .eq 12, 3) := by decide +kernel
theorem dX12_status_12 : decode cX12_status 12 = .ok (.aload_n 0, 1) := by decide +kernel
theorem dX12_status_13 : decode cX12_status 13 = .ok (.getfield 27, 3) := by decide +kernel
theorem dX12_status_16 : decode cX12_status 16 = .ok (.iload_n 1, 1) := by decide +kernel
theorem dX12_status_17 : decode cX12_status 17 = .ok (.iaload, 1) := by decide +kernel
theorem dX12_status_18 : decode cX12_status 18 = .ok (.goto 8, 3) := by decide +kernel
theorem dX12_status_21 : decode cX12_status 21 = .ok (.aload_n 0, 1) := by decide +kernel
theorem dX12_status_22 : decode cX12_status 22 = .ok (.iconst (-1), 1) := by decide +kernel
theorem dX12_status_23 : decode cX12_status 23 = .ok (.invokevirtual 88, 3) := by decide +kernel
theorem dX12_status_26 : decode cX12_status 26 = .ok (.ireturn, 1) := by decide +kernel
set_option maxRecDepth 20000 in
theorem ggX12_countOf_X12_countTops : GoodIn wsX12_countOf wsX12_countTops := goodIn_r _ [7, 1, 12, 13, 14, 15, 16, 17, 18, 19, 20, 21, 22, 23, 24, 25, 26, 27, 28, 29, 30, 31, 32, 33] (by decide +kernel) (by decide +kernel)
set_option maxRecDepth 20000 in
theorem gX12_countOf_X12_countTops : GoodIn wsX12_countOf (wsV RX12 310 RX12 yX12_countTops wsX12_countTops) := goodIn_app (goodIn_of _ (by decide +kernel)) ggX12_countOf_X12_countTops
set_option maxRecDepth 20000 in
theorem ggX12_countOf_X12_rustOf : GoodIn wsX12_countOf wsX12_rustOf := goodIn_r _ [11, 1, 12, 13, 14, 15, 16, 17, 18, 19, 20, 21, 22, 23, 24, 25, 26, 27, 28, 29, 30, 31, 32, 33] (by decide +kernel) (by decide +kernel)
set_option maxRecDepth 20000 in
theorem gX12_countOf_X12_rustOf : GoodIn wsX12_countOf (wsV RX12 313 RX12 yX12_rustOf wsX12_rustOf) := goodIn_app (goodIn_of _ (by decide +kernel)) ggX12_countOf_X12_rustOf
theorem dX12_countOf_0 : decode cX12_countOf 0 = .ok (.iload_n 1, 1) := by decide +kernel
theorem dX12_countOf_1 : decode cX12_countOf 1 = .ok (.tableswitch 121 0 8 #[51, 58, 65, 72, 84, 89, 97, 105, 113], 51) := by decide +kernel
theorem dX12_countOf_52 : decode cX12_countOf 52 = .ok (.aload_n 0, 1) := by decide +kernel
theorem dX12_countOf_53 : decode cX12_countOf 53 = .ok (.getfield 7, 3) := by decide +kernel
theorem dX12_countOf_56 : decode cX12_countOf 56 = .ok (.iconst 0, 1) := by decide +kernel
theorem dX12_countOf_57 : decode cX12_countOf 57 = .ok (.iaload, 1) := by decide +kernel
theorem dX12_countOf_58 : decode cX12_countOf 58 = .ok (.ireturn, 1) := by decide +kernel
theorem dX12_countOf_59 : decode cX12_countOf 59 = .ok (.aload_n 0, 1) := by decide +kernel
theorem dX12_countOf_60 : decode cX12_countOf 60 = .ok (.getfield 7, 3) := by decide +kernel
theorem dX12_countOf_63 : decode cX12_countOf 63 = .ok (.iconst 1, 1) := by decide +kernel
theorem dX12_countOf_64 : decode cX12_countOf 64 = .ok (.iaload, 1) := by decide +kernel
theorem dX12_countOf_65 : decode cX12_countOf 65 = .ok (.ireturn, 1) := by decide +kernel
theorem dX12_countOf_66 : decode cX12_countOf 66 = .ok (.aload_n 0, 1) := by decide +kernel
theorem dX12_countOf_67 : decode cX12_countOf 67 = .ok (.getfield 7, 3) := by decide +kernel
theorem dX12_countOf_70 : decode cX12_countOf 70 = .ok (.iconst 2, 1) := by decide +kernel
theorem dX12_countOf_71 : decode cX12_countOf 71 = .ok (.iaload, 1) := by decide +kernel
theorem dX12_countOf_72 : decode cX12_countOf 72 = .ok (.ireturn, 1) := by decide +kernel
theorem dX12_countOf_73 : decode cX12_countOf 73 = .ok (.aload_n 0, 1) := by decide +kernel
theorem dX12_countOf_74 : decode cX12_countOf 74 = .ok (.getfield 7, 3) := by decide +kernel
theorem dX12_countOf_77 : decode cX12_countOf 77 = .ok (.iconst 0, 1) := by decide +kernel
theorem dX12_countOf_78 : decode cX12_countOf 78 = .ok (.iaload, 1) := by decide +kernel
theorem dX12_countOf_79 : decode cX12_countOf 79 = .ok (.aload_n 0, 1) := by decide +kernel
theorem dX12_countOf_80 : decode cX12_countOf 80 = .ok (.invokevirtual 310, 3) := by decide +kernel
theorem dX12_countOf_83 : decode cX12_countOf 83 = .ok (.isub, 1) := by decide +kernel
theorem dX12_countOf_84 : decode cX12_countOf 84 = .ok (.ireturn, 1) := by decide +kernel
theorem dX12_countOf_85 : decode cX12_countOf 85 = .ok (.aload_n 0, 1) := by decide +kernel
theorem dX12_countOf_86 : decode cX12_countOf 86 = .ok (.invokevirtual 313, 3) := by decide +kernel
theorem dX12_countOf_89 : decode cX12_countOf 89 = .ok (.ireturn, 1) := by decide +kernel
theorem dX12_countOf_90 : decode cX12_countOf 90 = .ok (.aload_n 0, 1) := by decide +kernel
theorem dX12_countOf_91 : decode cX12_countOf 91 = .ok (.getfield 7, 3) := by decide +kernel
theorem dX12_countOf_94 : decode cX12_countOf 94 = .ok (.bipush 47, 2) := by decide +kernel
theorem dX12_countOf_96 : decode cX12_countOf 96 = .ok (.iaload, 1) := by decide +kernel
theorem dX12_countOf_97 : decode cX12_countOf 97 = .ok (.ireturn, 1) := by decide +kernel
theorem dX12_countOf_98 : decode cX12_countOf 98 = .ok (.aload_n 0, 1) := by decide +kernel
theorem dX12_countOf_99 : decode cX12_countOf 99 = .ok (.getfield 7, 3) := by decide +kernel
theorem dX12_countOf_102 : decode cX12_countOf 102 = .ok (.bipush 68, 2) := by decide +kernel
theorem dX12_countOf_104 : decode cX12_countOf 104 = .ok (.iaload, 1) := by decide +kernel
theorem dX12_countOf_105 : decode cX12_countOf 105 = .ok (.ireturn, 1) := by decide +kernel
theorem dX12_countOf_106 : decode cX12_countOf 106 = .ok (.aload_n 0, 1) := by decide +kernel
theorem dX12_countOf_107 : decode cX12_countOf 107 = .ok (.getfield 7, 3) := by decide +kernel
theorem dX12_countOf_110 : decode cX12_countOf 110 = .ok (.bipush 93, 2) := by decide +kernel
theorem dX12_countOf_112 : decode cX12_countOf 112 = .ok (.iaload, 1) := by decide +kernel
theorem dX12_countOf_113 : decode cX12_countOf 113 = .ok (.ireturn, 1) := by decide +kernel
theorem dX12_countOf_114 : decode cX12_countOf 114 = .ok (.aload_n 0, 1) := by decide +kernel
theorem dX12_countOf_115 : decode cX12_countOf 115 = .ok (.getfield 7, 3) := by decide +kernel
theorem dX12_countOf_118 : decode cX12_countOf 118 = .ok (.bipush 124, 2) := by decide +kernel
theorem dX12_countOf_120 : decode cX12_countOf 120 = .ok (.iaload, 1) := by decide +kernel
theorem dX12_countOf_121 : decode cX12_countOf 121 = .ok (.ireturn, 1) := by decide +kernel
theorem dX12_countOf_122 : decode cX12_countOf 122 = .ok (.aload_n 0, 1) := by decide +kernel
theorem dX12_countOf_123 : decode cX12_countOf 123 = .ok (.getfield 60, 3) := by decide +kernel
theorem dX12_countOf_126 : decode cX12_countOf 126 = .ok (.ireturn, 1) := by decide +kernel
theorem dX12_countTops_0 : decode cX12_countTops 0 = .ok (.iconst 0, 1) := by decide +kernel
theorem dX12_countTops_1 : decode cX12_countTops 1 = .ok (.istore_n 1, 1) := by decide +kernel
theorem dX12_countTops_2 : decode cX12_countTops 2 = .ok (.iconst 0, 1) := by decide +kernel
theorem dX12_countTops_3 : decode cX12_countTops 3 = .ok (.istore_n 2, 1) := by decide +kernel
theorem dX12_countTops_4 : decode cX12_countTops 4 = .ok (.iload_n 2, 1) := by decide +kernel
theorem dX12_countTops_5 : decode cX12_countTops 5 = .ok (.aload_n 0, 1) := by decide +kernel
theorem dX12_countTops_6 : decode cX12_countTops 6 = .ok (.getfield 7, 3) := by decide +kernel
theorem dX12_countTops_9 : decode cX12_countTops 9 = .ok (.iconst 0, 1) := by decide +kernel
theorem dX12_countTops_10 : decode cX12_countTops 10 = .ok (.iaload, 1) := by decide +kernel
theorem dX12_countTops_11 : decode cX12_countTops 11 = .ok (.if_icmp .ge 30, 3) := by decide +kernel
theorem dX12_countTops_14 : decode cX12_countTops 14 = .ok (.iload_n 1, 1) := by decide +kernel
theorem dX12_countTops_15 : decode cX12_countTops 15 = .ok (.aload_n 0, 1) := by decide +kernel
theorem dX12_countTops_16 : decode cX12_countTops 16 = .ok (.getfield 7, 3) := by decide +kernel
theorem dX12_countTops_19 : decode cX12_countTops 19 = .ok (.bipush 31, 2) := by decide +kernel
theorem dX12_countTops_21 : decode cX12_countTops 21 = .ok (.iload_n 2, 1) := by decide +kernel
theorem dX12_countTops_22 : decode cX12_countTops 22 = .ok (.iadd, 1) := by decide +kernel
theorem dX12_countTops_23 : decode cX12_countTops 23 = .ok (.iaload, 1) := by decide +kernel
theorem dX12_countTops_24 : decode cX12_countTops 24 = .ok (.iconst (-1), 1) := by decide +kernel
theorem dX12_countTops_25 : decode cX12_countTops 25 = .ok (.if_icmp .ne 7, 3) := by decide +kernel
theorem dX12_countTops_28 : decode cX12_countTops 28 = .ok (.iconst 1, 1) := by decide +kernel
theorem dX12_countTops_29 : decode cX12_countTops 29 = .ok (.goto 4, 3) := by decide +kernel
theorem dX12_countTops_32 : decode cX12_countTops 32 = .ok (.iconst 0, 1) := by decide +kernel
theorem dX12_countTops_33 : decode cX12_countTops 33 = .ok (.iadd, 1) := by decide +kernel
theorem dX12_countTops_34 : decode cX12_countTops 34 = .ok (.istore_n 1, 1) := by decide +kernel
theorem dX12_countTops_35 : decode cX12_countTops 35 = .ok (.iinc 2 1, 3) := by decide +kernel
theorem dX12_countTops_38 : decode cX12_countTops 38 = .ok (.goto (-34), 3) := by decide +kernel
theorem dX12_countTops_41 : decode cX12_countTops 41 = .ok (.iload_n 1, 1) := by decide +kernel
theorem dX12_countTops_42 : decode cX12_countTops 42 = .ok (.ireturn, 1) := by decide +kernel
theorem dX12_rustOf_0 : decode cX12_rustOf 0 = .ok (.iconst 0, 1) := by decide +kernel
theorem dX12_rustOf_1 : decode cX12_rustOf 1 = .ok (.istore_n 1, 1) := by decide +kernel
theorem dX12_rustOf_2 : decode cX12_rustOf 2 = .ok (.iconst 0, 1) := by decide +kernel
theorem dX12_rustOf_3 : decode cX12_rustOf 3 = .ok (.istore_n 2, 1) := by decide +kernel
theorem dX12_rustOf_4 : decode cX12_rustOf 4 = .ok (.iload_n 2, 1) := by decide +kernel
theorem dX12_rustOf_5 : decode cX12_rustOf 5 = .ok (.aload_n 0, 1) := by decide +kernel
theorem dX12_rustOf_6 : decode cX12_rustOf 6 = .ok (.getfield 7, 3) := by decide +kernel
theorem dX12_rustOf_9 : decode cX12_rustOf 9 = .ok (.iconst 0, 1) := by decide +kernel
theorem dX12_rustOf_10 : decode cX12_rustOf 10 = .ok (.iaload, 1) := by decide +kernel
theorem dX12_rustOf_11 : decode cX12_rustOf 11 = .ok (.if_icmp .ge 21, 3) := by decide +kernel
theorem dX12_rustOf_14 : decode cX12_rustOf 14 = .ok (.iload_n 1, 1) := by decide +kernel
theorem dX12_rustOf_15 : decode cX12_rustOf 15 = .ok (.aload_n 0, 1) := by decide +kernel
theorem dX12_rustOf_16 : decode cX12_rustOf 16 = .ok (.getfield 7, 3) := by decide +kernel
theorem dX12_rustOf_19 : decode cX12_rustOf 19 = .ok (.bipush 24, 2) := by decide +kernel
theorem dX12_rustOf_21 : decode cX12_rustOf 21 = .ok (.iload_n 2, 1) := by decide +kernel
theorem dX12_rustOf_22 : decode cX12_rustOf 22 = .ok (.iadd, 1) := by decide +kernel
theorem dX12_rustOf_23 : decode cX12_rustOf 23 = .ok (.iaload, 1) := by decide +kernel
theorem dX12_rustOf_24 : decode cX12_rustOf 24 = .ok (.iadd, 1) := by decide +kernel
theorem dX12_rustOf_25 : decode cX12_rustOf 25 = .ok (.istore_n 1, 1) := by decide +kernel
theorem dX12_rustOf_26 : decode cX12_rustOf 26 = .ok (.iinc 2 1, 3) := by decide +kernel
theorem dX12_rustOf_29 : decode cX12_rustOf 29 = .ok (.goto (-25), 3) := by decide +kernel
theorem dX12_rustOf_32 : decode cX12_rustOf 32 = .ok (.iload_n 1, 1) := by decide +kernel
theorem dX12_rustOf_33 : decode cX12_rustOf 33 = .ok (.ireturn, 1) := by decide +kernel
set_option maxRecDepth 20000 in
theorem ggX12_count_X12_in : GoodIn wsX12_count wsX12_in := goodIn_r _ [5] (by decide +kernel) (by decide +kernel)
set_option maxRecDepth 20000 in
theorem gX12_count_X12_in : GoodIn wsX12_count (va_wsS RX12 64 yX12_in wsX12_in) := goodIn_app (goodIn_of _ (by decide +kernel)) ggX12_count_X12_in
set_option maxRecDepth 20000 in
theorem ggX12_count_X12_countOf : GoodIn wsX12_count wsX12_countOf := goodIn_r _ [9, 10, 11, 12, 13, 14, 4, 15, 16, 17, 18, 19, 25, 26, 27, 28, 29, 30, 31, 32, 33, 34, 35, 36, 37, 38, 39, 40, 41, 42, 43, 44, 45, 46] (by decide +kernel) (by decide +kernel)
set_option maxRecDepth 20000 in
theorem gX12_count_X12_countOf : GoodIn wsX12_count (wsV RX12 316 RX12 yX12_countOf wsX12_countOf) := goodIn_app (goodIn_of _ (by decide +kernel)) ggX12_count_X12_countOf
set_option maxRecDepth 20000 in
theorem ggX12_count_X12_bad : GoodIn wsX12_count wsX12_bad := goodIn_r _ [23, 24, 25, 26, 27, 28, 29, 30, 31, 32, 33, 34, 35, 36, 37, 38, 39, 40, 41, 42, 43, 44, 45, 46] (by decide +kernel) (by decide +kernel)
set_option maxRecDepth 20000 in
theorem gX12_count_X12_bad : GoodIn wsX12_count (wsV RX12 88 RX12 yX12_bad wsX12_bad) := goodIn_app (goodIn_of _ (by decide +kernel)) ggX12_count_X12_bad
theorem dX12_count_0 : decode cX12_count 0 = .ok (.iload_n 1, 1) := by decide +kernel
theorem dX12_count_1 : decode cX12_count 1 = .ok (.i2l, 1) := by decide +kernel
theorem dX12_count_2 : decode cX12_count 2 = .ok (.lconst 0, 1) := by decide +kernel
theorem dX12_count_3 : decode cX12_count 3 = .ok (.ldc2_w 86, 3) := by decide +kernel
theorem dX12_count_6 : decode cX12_count 6 = .ok (.invokestatic 64, 3) := by decide +kernel
theorem dX12_count_9 : decode cX12_count 9 = .ok (.ifCond .eq 11, 3) := by decide +kernel
theorem dX12_count_12 : decode cX12_count 12 = .ok (.aload_n 0, 1) := by decide +kernel
theorem dX12_count_13 : decode cX12_count 13 = .ok (.iload_n 1, 1) := by decide +kernel
theorem dX12_count_14 : decode cX12_count 14 = .ok (.invokevirtual 316, 3) := by decide +kernel
theorem dX12_count_17 : decode cX12_count 17 = .ok (.goto 9, 3) := by decide +kernel
theorem dX12_count_20 : decode cX12_count 20 = .ok (.aload_n 0, 1) := by decide +kernel
theorem dX12_count_21 : decode cX12_count 21 = .ok (.bipush (-2), 2) := by decide +kernel
theorem dX12_count_23 : decode cX12_count 23 = .ok (.invokevirtual 88, 3) := by decide +kernel
theorem dX12_count_26 : decode cX12_count 26 = .ok (.ireturn, 1) := by decide +kernel
theorem dX12_mix_0 : decode cX12_mix 0 = .ok (.aload_n 0, 1) := by decide +kernel
theorem dX12_mix_1 : decode cX12_mix 1 = .ok (.ldc2_w 319, 3) := by decide +kernel
theorem dX12_mix_4 : decode cX12_mix 4 = .ok (.aload_n 0, 1) := by decide +kernel
theorem dX12_mix_5 : decode cX12_mix 5 = .ok (.getfield 321, 3) := by decide +kernel
theorem dX12_mix_8 : decode cX12_mix 8 = .ok (.lmul, 1) := by decide +kernel
theorem dX12_mix_9 : decode cX12_mix 9 = .ok (.lload_n 1, 1) := by decide +kernel
theorem dX12_mix_10 : decode cX12_mix 10 = .ok (.ladd, 1) := by decide +kernel
theorem dX12_mix_11 : decode cX12_mix 11 = .ok (.putfield 321, 3) := by decide +kernel
theorem dX12_mix_14 : decode cX12_mix 14 = .ok (.return_, 1) := by decide +kernel
set_option maxRecDepth 20000 in
theorem ggX12_digest_X12_countOf : GoodIn wsX12_digest wsX12_countOf := goodIn_r _ [10, 3, 11, 12, 13, 14, 9, 15, 16, 17, 18, 19, 29, 30, 31, 32, 33, 34, 35, 36, 37, 38, 39, 40, 41, 42, 43, 44, 45, 46, 47, 48, 49, 50] (by decide +kernel) (by decide +kernel)
set_option maxRecDepth 20000 in
theorem gX12_digest_X12_countOf : GoodIn wsX12_digest (wsV RX12 316 RX12 yX12_countOf wsX12_countOf) := goodIn_app (goodIn_of _ (by decide +kernel)) ggX12_digest_X12_countOf
set_option maxRecDepth 20000 in
theorem ggX12_digest_X12_mix : GoodIn wsX12_digest wsX12_mix := goodIn_r _ [23, 24, 2, 29, 30, 31, 32, 33, 34, 35, 36, 37, 38, 39, 40, 41, 42, 43, 44, 45, 46, 47, 48, 49, 50] (by decide +kernel) (by decide +kernel)
set_option maxRecDepth 20000 in
theorem gX12_digest_X12_mix : GoodIn wsX12_digest (wsV RX12 326 RX12 yX12_mix wsX12_mix) := goodIn_app (goodIn_of _ (by decide +kernel)) ggX12_digest_X12_mix
set_option maxRecDepth 20000 in
theorem ggX12_digest_X12_ofClerk : GoodIn wsX12_digest wsX12_ofClerk := goodIn_r _ [28, 3, 29, 30, 31, 32, 33, 34, 35, 36, 37, 38, 39, 40, 41, 42, 43, 44, 45, 46, 47, 48, 49, 50] (by decide +kernel) (by decide +kernel)
set_option maxRecDepth 20000 in
theorem gX12_digest_X12_ofClerk : GoodIn wsX12_digest (wsV RX12 223 RX12 yX12_ofClerk wsX12_ofClerk) := goodIn_app (goodIn_of _ (by decide +kernel)) ggX12_digest_X12_ofClerk
theorem dX12_digest_0 : decode cX12_digest 0 = .ok (.aload_n 0, 1) := by decide +kernel
theorem dX12_digest_1 : decode cX12_digest 1 = .ok (.ldc2_w 324, 3) := by decide +kernel
theorem dX12_digest_4 : decode cX12_digest 4 = .ok (.putfield 321, 3) := by decide +kernel
theorem dX12_digest_7 : decode cX12_digest 7 = .ok (.iconst 0, 1) := by decide +kernel
theorem dX12_digest_8 : decode cX12_digest 8 = .ok (.istore_n 1, 1) := by decide +kernel
theorem dX12_digest_9 : decode cX12_digest 9 = .ok (.iload_n 1, 1) := by decide +kernel
theorem dX12_digest_10 : decode cX12_digest 10 = .ok (.bipush 10, 2) := by decide +kernel
theorem dX12_digest_12 : decode cX12_digest 12 = .ok (.if_icmp .ge 19, 3) := by decide +kernel
theorem dX12_digest_15 : decode cX12_digest 15 = .ok (.aload_n 0, 1) := by decide +kernel
theorem dX12_digest_16 : decode cX12_digest 16 = .ok (.aload_n 0, 1) := by decide +kernel
theorem dX12_digest_17 : decode cX12_digest 17 = .ok (.iload_n 1, 1) := by decide +kernel
theorem dX12_digest_18 : decode cX12_digest 18 = .ok (.invokevirtual 316, 3) := by decide +kernel
theorem dX12_digest_21 : decode cX12_digest 21 = .ok (.i2l, 1) := by decide +kernel
theorem dX12_digest_22 : decode cX12_digest 22 = .ok (.invokevirtual 326, 3) := by decide +kernel
theorem dX12_digest_25 : decode cX12_digest 25 = .ok (.iinc 1 1, 3) := by decide +kernel
theorem dX12_digest_28 : decode cX12_digest 28 = .ok (.goto (-19), 3) := by decide +kernel
theorem dX12_digest_31 : decode cX12_digest 31 = .ok (.iconst 0, 1) := by decide +kernel
theorem dX12_digest_32 : decode cX12_digest 32 = .ok (.istore_n 1, 1) := by decide +kernel
theorem dX12_digest_33 : decode cX12_digest 33 = .ok (.iload_n 1, 1) := by decide +kernel
theorem dX12_digest_34 : decode cX12_digest 34 = .ok (.aload_n 0, 1) := by decide +kernel
theorem dX12_digest_35 : decode cX12_digest 35 = .ok (.getfield 7, 3) := by decide +kernel
theorem dX12_digest_38 : decode cX12_digest 38 = .ok (.iconst 0, 1) := by decide +kernel
theorem dX12_digest_39 : decode cX12_digest 39 = .ok (.iaload, 1) := by decide +kernel
theorem dX12_digest_40 : decode cX12_digest 40 = .ok (.if_icmp .ge 33, 3) := by decide +kernel
theorem dX12_digest_43 : decode cX12_digest 43 = .ok (.iconst 0, 1) := by decide +kernel
theorem dX12_digest_44 : decode cX12_digest 44 = .ok (.istore_n 2, 1) := by decide +kernel
theorem dX12_digest_45 : decode cX12_digest 45 = .ok (.iload_n 2, 1) := by decide +kernel
theorem dX12_digest_46 : decode cX12_digest 46 = .ok (.iconst 5, 1) := by decide +kernel
theorem dX12_digest_47 : decode cX12_digest 47 = .ok (.if_icmp .ge 20, 3) := by decide +kernel
theorem dX12_digest_50 : decode cX12_digest 50 = .ok (.aload_n 0, 1) := by decide +kernel
theorem dX12_digest_51 : decode cX12_digest 51 = .ok (.aload_n 0, 1) := by decide +kernel
theorem dX12_digest_52 : decode cX12_digest 52 = .ok (.iload_n 1, 1) := by decide +kernel
theorem dX12_digest_53 : decode cX12_digest 53 = .ok (.iload_n 2, 1) := by decide +kernel
theorem dX12_digest_54 : decode cX12_digest 54 = .ok (.invokevirtual 223, 3) := by decide +kernel
theorem dX12_digest_57 : decode cX12_digest 57 = .ok (.i2l, 1) := by decide +kernel
theorem dX12_digest_58 : decode cX12_digest 58 = .ok (.invokevirtual 326, 3) := by decide +kernel
theorem dX12_digest_61 : decode cX12_digest 61 = .ok (.iinc 2 1, 3) := by decide +kernel
theorem dX12_digest_64 : decode cX12_digest 64 = .ok (.goto (-19), 3) := by decide +kernel
theorem dX12_digest_67 : decode cX12_digest 67 = .ok (.iinc 1 1, 3) := by decide +kernel
theorem dX12_digest_70 : decode cX12_digest 70 = .ok (.goto (-37), 3) := by decide +kernel
theorem dX12_digest_73 : decode cX12_digest 73 = .ok (.iconst 0, 1) := by decide +kernel
theorem dX12_digest_74 : decode cX12_digest 74 = .ok (.istore_n 1, 1) := by decide +kernel
theorem dX12_digest_75 : decode cX12_digest 75 = .ok (.iload_n 1, 1) := by decide +kernel
theorem dX12_digest_76 : decode cX12_digest 76 = .ok (.aload_n 0, 1) := by decide +kernel
theorem dX12_digest_77 : decode cX12_digest 77 = .ok (.getfield 7, 3) := by decide +kernel
theorem dX12_digest_80 : decode cX12_digest 80 = .ok (.iconst 1, 1) := by decide +kernel
theorem dX12_digest_81 : decode cX12_digest 81 = .ok (.iaload, 1) := by decide +kernel
theorem dX12_digest_82 : decode cX12_digest 82 = .ok (.if_icmp .ge 51, 3) := by decide +kernel
theorem dX12_digest_85 : decode cX12_digest 85 = .ok (.aload_n 0, 1) := by decide +kernel
theorem dX12_digest_86 : decode cX12_digest 86 = .ok (.aload_n 0, 1) := by decide +kernel
theorem dX12_digest_87 : decode cX12_digest 87 = .ok (.getfield 7, 3) := by decide +kernel
theorem dX12_digest_90 : decode cX12_digest 90 = .ok (.bipush 38, 2) := by decide +kernel
theorem dX12_digest_92 : decode cX12_digest 92 = .ok (.iload_n 1, 1) := by decide +kernel
theorem dX12_digest_93 : decode cX12_digest 93 = .ok (.iadd, 1) := by decide +kernel
theorem dX12_digest_94 : decode cX12_digest 94 = .ok (.iaload, 1) := by decide +kernel
theorem dX12_digest_95 : decode cX12_digest 95 = .ok (.i2l, 1) := by decide +kernel
theorem dX12_digest_96 : decode cX12_digest 96 = .ok (.invokevirtual 326, 3) := by decide +kernel
theorem dX12_digest_99 : decode cX12_digest 99 = .ok (.aload_n 0, 1) := by decide +kernel
theorem dX12_digest_100 : decode cX12_digest 100 = .ok (.aload_n 0, 1) := by decide +kernel
theorem dX12_digest_101 : decode cX12_digest 101 = .ok (.getfield 7, 3) := by decide +kernel
theorem dX12_digest_104 : decode cX12_digest 104 = .ok (.bipush 41, 2) := by decide +kernel
theorem dX12_digest_106 : decode cX12_digest 106 = .ok (.iload_n 1, 1) := by decide +kernel
theorem dX12_digest_107 : decode cX12_digest 107 = .ok (.iadd, 1) := by decide +kernel
theorem dX12_digest_108 : decode cX12_digest 108 = .ok (.iaload, 1) := by decide +kernel
theorem dX12_digest_109 : decode cX12_digest 109 = .ok (.i2l, 1) := by decide +kernel
theorem dX12_digest_110 : decode cX12_digest 110 = .ok (.invokevirtual 326, 3) := by decide +kernel
theorem dX12_digest_113 : decode cX12_digest 113 = .ok (.aload_n 0, 1) := by decide +kernel
theorem dX12_digest_114 : decode cX12_digest 114 = .ok (.aload_n 0, 1) := by decide +kernel
theorem dX12_digest_115 : decode cX12_digest 115 = .ok (.getfield 7, 3) := by decide +kernel
theorem dX12_digest_118 : decode cX12_digest 118 = .ok (.bipush 44, 2) := by decide +kernel
theorem dX12_digest_120 : decode cX12_digest 120 = .ok (.iload_n 1, 1) := by decide +kernel
theorem dX12_digest_121 : decode cX12_digest 121 = .ok (.iadd, 1) := by decide +kernel
theorem dX12_digest_122 : decode cX12_digest 122 = .ok (.iaload, 1) := by decide +kernel
theorem dX12_digest_123 : decode cX12_digest 123 = .ok (.i2l, 1) := by decide +kernel
theorem dX12_digest_124 : decode cX12_digest 124 = .ok (.invokevirtual 326, 3) := by decide +kernel
theorem dX12_digest_127 : decode cX12_digest 127 = .ok (.iinc 1 1, 3) := by decide +kernel
theorem dX12_digest_130 : decode cX12_digest 130 = .ok (.goto (-55), 3) := by decide +kernel
theorem dX12_digest_133 : decode cX12_digest 133 = .ok (.iconst 0, 1) := by decide +kernel
theorem dX12_digest_134 : decode cX12_digest 134 = .ok (.istore_n 1, 1) := by decide +kernel
theorem dX12_digest_135 : decode cX12_digest 135 = .ok (.iload_n 1, 1) := by decide +kernel
theorem dX12_digest_136 : decode cX12_digest 136 = .ok (.iconst 4, 1) := by decide +kernel
theorem dX12_digest_137 : decode cX12_digest 137 = .ok (.aload_n 0, 1) := by decide +kernel
theorem dX12_digest_138 : decode cX12_digest 138 = .ok (.getfield 7, 3) := by decide +kernel
theorem dX12_digest_141 : decode cX12_digest 141 = .ok (.bipush 47, 2) := by decide +kernel
theorem dX12_digest_143 : decode cX12_digest 143 = .ok (.iaload, 1) := by decide +kernel
theorem dX12_digest_144 : decode cX12_digest 144 = .ok (.imul, 1) := by decide +kernel
theorem dX12_digest_145 : decode cX12_digest 145 = .ok (.if_icmp .ge 23, 3) := by decide +kernel
theorem dX12_digest_148 : decode cX12_digest 148 = .ok (.aload_n 0, 1) := by decide +kernel
theorem dX12_digest_149 : decode cX12_digest 149 = .ok (.aload_n 0, 1) := by decide +kernel
theorem dX12_digest_150 : decode cX12_digest 150 = .ok (.getfield 7, 3) := by decide +kernel
theorem dX12_digest_153 : decode cX12_digest 153 = .ok (.bipush 48, 2) := by decide +kernel
theorem dX12_digest_155 : decode cX12_digest 155 = .ok (.iload_n 1, 1) := by decide +kernel
theorem dX12_digest_156 : decode cX12_digest 156 = .ok (.iadd, 1) := by decide +kernel
theorem dX12_digest_157 : decode cX12_digest 157 = .ok (.iaload, 1) := by decide +kernel
theorem dX12_digest_158 : decode cX12_digest 158 = .ok (.i2l, 1) := by decide +kernel
theorem dX12_digest_159 : decode cX12_digest 159 = .ok (.invokevirtual 326, 3) := by decide +kernel
theorem dX12_digest_162 : decode cX12_digest 162 = .ok (.iinc 1 1, 3) := by decide +kernel
theorem dX12_digest_165 : decode cX12_digest 165 = .ok (.goto (-30), 3) := by decide +kernel
theorem dX12_digest_168 : decode cX12_digest 168 = .ok (.iconst 0, 1) := by decide +kernel
theorem dX12_digest_169 : decode cX12_digest 169 = .ok (.istore_n 1, 1) := by decide +kernel
theorem dX12_digest_170 : decode cX12_digest 170 = .ok (.iload_n 1, 1) := by decide +kernel
theorem dX12_digest_171 : decode cX12_digest 171 = .ok (.iconst 4, 1) := by decide +kernel
theorem dX12_digest_172 : decode cX12_digest 172 = .ok (.aload_n 0, 1) := by decide +kernel
theorem dX12_digest_173 : decode cX12_digest 173 = .ok (.getfield 7, 3) := by decide +kernel
theorem dX12_digest_176 : decode cX12_digest 176 = .ok (.bipush 68, 2) := by decide +kernel
theorem dX12_digest_178 : decode cX12_digest 178 = .ok (.iaload, 1) := by decide +kernel
theorem dX12_digest_179 : decode cX12_digest 179 = .ok (.imul, 1) := by decide +kernel
theorem dX12_digest_180 : decode cX12_digest 180 = .ok (.if_icmp .ge 23, 3) := by decide +kernel
theorem dX12_digest_183 : decode cX12_digest 183 = .ok (.aload_n 0, 1) := by decide +kernel
theorem dX12_digest_184 : decode cX12_digest 184 = .ok (.aload_n 0, 1) := by decide +kernel
theorem dX12_digest_185 : decode cX12_digest 185 = .ok (.getfield 7, 3) := by decide +kernel
theorem dX12_digest_188 : decode cX12_digest 188 = .ok (.bipush 69, 2) := by decide +kernel
theorem dX12_digest_190 : decode cX12_digest 190 = .ok (.iload_n 1, 1) := by decide +kernel
theorem dX12_digest_191 : decode cX12_digest 191 = .ok (.iadd, 1) := by decide +kernel
theorem dX12_digest_192 : decode cX12_digest 192 = .ok (.iaload, 1) := by decide +kernel
theorem dX12_digest_193 : decode cX12_digest 193 = .ok (.i2l, 1) := by decide +kernel
theorem dX12_digest_194 : decode cX12_digest 194 = .ok (.invokevirtual 326, 3) := by decide +kernel
theorem dX12_digest_197 : decode cX12_digest 197 = .ok (.iinc 1 1, 3) := by decide +kernel
theorem dX12_digest_200 : decode cX12_digest 200 = .ok (.goto (-30), 3) := by decide +kernel
theorem dX12_digest_203 : decode cX12_digest 203 = .ok (.iconst 0, 1) := by decide +kernel
theorem dX12_digest_204 : decode cX12_digest 204 = .ok (.istore_n 1, 1) := by decide +kernel
theorem dX12_digest_205 : decode cX12_digest 205 = .ok (.iload_n 1, 1) := by decide +kernel
theorem dX12_digest_206 : decode cX12_digest 206 = .ok (.iconst 5, 1) := by decide +kernel
theorem dX12_digest_207 : decode cX12_digest 207 = .ok (.aload_n 0, 1) := by decide +kernel
theorem dX12_digest_208 : decode cX12_digest 208 = .ok (.getfield 7, 3) := by decide +kernel
theorem dX12_digest_211 : decode cX12_digest 211 = .ok (.bipush 93, 2) := by decide +kernel
theorem dX12_digest_213 : decode cX12_digest 213 = .ok (.iaload, 1) := by decide +kernel
theorem dX12_digest_214 : decode cX12_digest 214 = .ok (.imul, 1) := by decide +kernel
theorem dX12_digest_215 : decode cX12_digest 215 = .ok (.if_icmp .ge 23, 3) := by decide +kernel
theorem dX12_digest_218 : decode cX12_digest 218 = .ok (.aload_n 0, 1) := by decide +kernel
theorem dX12_digest_219 : decode cX12_digest 219 = .ok (.aload_n 0, 1) := by decide +kernel
theorem dX12_digest_220 : decode cX12_digest 220 = .ok (.getfield 7, 3) := by decide +kernel
theorem dX12_digest_223 : decode cX12_digest 223 = .ok (.bipush 94, 2) := by decide +kernel
theorem dX12_digest_225 : decode cX12_digest 225 = .ok (.iload_n 1, 1) := by decide +kernel
theorem dX12_digest_226 : decode cX12_digest 226 = .ok (.iadd, 1) := by decide +kernel
theorem dX12_digest_227 : decode cX12_digest 227 = .ok (.iaload, 1) := by decide +kernel
theorem dX12_digest_228 : decode cX12_digest 228 = .ok (.i2l, 1) := by decide +kernel
theorem dX12_digest_229 : decode cX12_digest 229 = .ok (.invokevirtual 326, 3) := by decide +kernel
theorem dX12_digest_232 : decode cX12_digest 232 = .ok (.iinc 1 1, 3) := by decide +kernel
theorem dX12_digest_235 : decode cX12_digest 235 = .ok (.goto (-30), 3) := by decide +kernel
theorem dX12_digest_238 : decode cX12_digest 238 = .ok (.aload_n 0, 1) := by decide +kernel
theorem dX12_digest_239 : decode cX12_digest 239 = .ok (.aload_n 0, 1) := by decide +kernel
theorem dX12_digest_240 : decode cX12_digest 240 = .ok (.getfield 20, 3) := by decide +kernel
theorem dX12_digest_243 : decode cX12_digest 243 = .ok (.invokevirtual 326, 3) := by decide +kernel
theorem dX12_digest_246 : decode cX12_digest 246 = .ok (.aload_n 0, 1) := by decide +kernel
theorem dX12_digest_247 : decode cX12_digest 247 = .ok (.aload_n 0, 1) := by decide +kernel
theorem dX12_digest_248 : decode cX12_digest 248 = .ok (.getfield 24, 3) := by decide +kernel
theorem dX12_digest_251 : decode cX12_digest 251 = .ok (.invokevirtual 326, 3) := by decide +kernel
theorem dX12_digest_254 : decode cX12_digest 254 = .ok (.aload_n 0, 1) := by decide +kernel
theorem dX12_digest_255 : decode cX12_digest 255 = .ok (.getfield 321, 3) := by decide +kernel
theorem dX12_digest_258 : decode cX12_digest 258 = .ok (.lreturn, 1) := by decide +kernel
